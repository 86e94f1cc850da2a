/-! ===== pure: marks after a split ===== -/
theorem rn_lo {q u v : Int} (h : u < q) (m : Int) : rn_a q m u v = u := by unfold rn_a; rw [if_neg (by omega)]; omega
theorem rn_hi {q u v : Int} (h : q ≤ u) (m : Int) : rn_a q m u v = u + m := by unfold rn_a; rw [if_pos h]
theorem rn0_lo {q u v w x : Int} (h : u < q) (m : Int) : rn_0 q m u v w x = u := by unfold rn_0; rw [if_neg (by omega)]; omega
theorem rn0_hi {q u v w x : Int} (h : q ≤ u) (m : Int) : rn_0 q m u v w x = u + m := by unfold rn_0; rw [if_pos h]
theorem dvm_v (v x : Int) : (v < x - 1 ∧ dv_m v x = v) ∨ (x - 1 ≤ v ∧ dv_m v x = x - 1) := by
  unfold dv_m
  by_cases c : v < x - 1
  · exact Or.inl ⟨c, if_pos c⟩
  · exact Or.inr ⟨by omega, if_neg c⟩
theorem mr_dv {P q x L : Nat} {z w : Nat → Int} {M : mk_T} (h : MR P z M) (h0 : ∀ p, p < P → 1 ≤ z (85 + p)) (hq : q < P) (hL : z (85 + q) = L) (h2 : 2 ≤ x) (hx : x < L) (w8 : ∀ j, j ≤ P → w (85 + j) = if j < q then z (85 + j) else if j = q then (x : Int) - 1 else if j = q + 1 then (L : Int) - x else z (85 + (j - 1)))
    (hv : MVP z w (fun u v => dv_a q x (rn_a ((q : Int) + 1) 1 u v) (id_b u v)) (fun u v => dv_b q x (rn_a ((q : Int) + 1) 1 u v) (id_b u v)) (fun u v w y => dv_0 q x (rn_0 ((q : Int) + 1) 1 u v w y) (id_1 u v w y) (id_2 u v w y) (id_4 u v w y)) (fun u v w y => dv_1 q x (rn_0 ((q : Int) + 1) 1 u v w y) (id_1 u v w y) (id_2 u v w y) (id_4 u v w y)) (fun u v w y => dv_2 q x (rn_0 ((q : Int) + 1) 1 u v w y) (id_1 u v w y) (id_2 u v w y) (id_4 u v w y)) (fun u v w y => dv_4 q x (rn_0 ((q : Int) + 1) 1 u v w y) (id_1 u v w y) (id_2 u v w y) (id_4 u v w y))) : MR (P + 1) w (mk_ct M ((rS z q : Int) + x - 1)) := by
  obtain ⟨s1, s2, s3⟩ := rS_dv hq hL (by omega) hx w8
  have s4 : ∀ p, q < p → p < P → rS w (p + 1) = rS z p := fun p h1 h2 => by
    have := s3 (p - q - 1) (by omega)
    rw [show q + 1 + (p - q - 1) = p by omega] at this; exact this
  have r1 : ∀ p, p < q → rS z p + (z (85 + p)).toNat + 1 ≤ rS z q := fun p hp => by
    have := rS_m z (show p + 1 ≤ q by omega)
    rw [rS_s] at this; exact this
  have r2 : ∀ p, q < p → rS z q + L + 1 ≤ rS z p := fun p hp => by
    have := rS_m z (show q + 1 ≤ p by omega)
    rw [rS_s, hL] at this; omega
  have w8a : ∀ p, p < q → w (85 + p) = z (85 + p) := fun p hp => by rw [w8 p (by omega), if_pos hp]
  have w8b : w (85 + q) = (x : Int) - 1 := by rw [w8 q (by omega), if_neg (by omega), if_pos rfl]
  have w8c : w (85 + (q + 1)) = (L : Int) - x := by rw [w8 (q + 1) (by omega), if_neg (by omega), if_neg (by omega), if_pos rfl]
  have w8d : ∀ p, q < p → p < P → w (85 + (p + 1)) = z (85 + p) := fun p h1 h2 => by rw [w8 (p + 1) (by omega), if_neg (by omega), if_neg (by omega), if_neg (by omega)]; rfl
  refine mr_g (fp := fun v => mk_cut v ((rS z q : Int) + x - 1)) (ff := fun a _ => a) (ft := fun a b => if a ≤ (rS z q : Int) + x - 1 ∧ (rS z q : Int) + x - 1 < b then (rS z q : Int) + x - 1 else b) h hv (fun p o hp ho1 ho2 => ?_) (fun p a b l hp h1 h2 h3 hl => ?_) rfl rfl rfl (fun k hk => ?_) (fun k hk => rfl) (fun k hk => ?_) rfl
  · show ∃ q' : Nat, dv_a q x (rn_a ((q : Int) + 1) 1 p o) o = q' ∧ q' < P + 1 ∧ 0 ≤ dv_b q x (rn_a ((q : Int) + 1) 1 p o) o ∧ dv_b q x (rn_a ((q : Int) + 1) 1 p o) o < w (85 + q') ∧ mk_cut ((rS z p : Int) + o) ((rS z q : Int) + x - 1) = rS w q' + dv_b q x (rn_a ((q : Int) + 1) 1 p o) o
    unfold mk_cut
    rcases Nat.lt_or_ge p q with c | c
    · have := r1 p c
      rw [rn_lo (by omega)]
      have e : dv_b q x p o = o := by unfold dv_b; rw [if_neg (by omega)]
      rw [e]
      refine ⟨p, by unfold dv_a; rw [if_neg (by omega)], by omega, ho1, by rw [w8a p c]; exact ho2, ?_⟩
      rw [if_neg (by omega), s1 p (by omega)]
    rcases Nat.lt_or_ge q p with c2 | c2
    · have := r2 p c2
      rw [rn_hi (by omega)]
      have e : dv_b q x ((p : Int) + 1) o = o := by unfold dv_b; rw [if_neg (by omega)]
      rw [e]
      refine ⟨p + 1, by unfold dv_a; rw [if_neg (by omega)]; omega, by omega, ho1, by rw [w8d p c2 hp]; exact ho2, ?_⟩
      rw [if_neg (by omega), s4 p c2 hp]
    · have : p = q := by omega
      subst this
      rw [rn_lo (by omega)]
      by_cases c3 : (x : Int) ≤ o
      · have e : dv_b p x p o = o - x := by unfold dv_b; rw [if_pos rfl, if_pos c3]
        rw [e]
        refine ⟨p + 1, by unfold dv_a; rw [if_pos ⟨rfl, c3⟩]; omega, by omega, by omega, by rw [w8c]; omega, ?_⟩
        rw [if_neg (by omega), s2]; omega
      · by_cases c4 : o = (x : Int) - 1
        · have e : dv_b p x p o = (x : Int) - 2 := by unfold dv_b; rw [if_pos rfl, if_neg c3, if_pos c4]
          rw [e]
          refine ⟨p, by unfold dv_a; rw [if_neg (fun w => c3 w.2)], by omega, by omega, by rw [w8b]; omega, ?_⟩
          rw [if_pos (by omega), s1 p (by omega)]; omega
        · have e : dv_b p x p o = o := by unfold dv_b; rw [if_pos rfl, if_neg c3, if_neg c4]
          rw [e]
          refine ⟨p, by unfold dv_a; rw [if_neg (fun w => c3 w.2)], by omega, ho1, by rw [w8b]; omega, ?_⟩
          rw [if_neg (by omega), s1 p (by omega)]
  · show ∃ q' : Nat, dv_0 q x (rn_0 ((q : Int) + 1) 1 p a b l) a b l = q' ∧ q' < P + 1 ∧ (0 ≤ dv_1 q x (rn_0 ((q : Int) + 1) 1 p a b l) a b l ∧ dv_1 q x (rn_0 ((q : Int) + 1) 1 p a b l) a b l ≤ dv_2 q x (rn_0 ((q : Int) + 1) 1 p a b l) a b l ∧ dv_2 q x (rn_0 ((q : Int) + 1) 1 p a b l) a b l ≤ w (85 + q')) ∧ (rS z p : Int) + a = rS w q' + dv_1 q x (rn_0 ((q : Int) + 1) 1 p a b l) a b l
      ∧ (if (rS z p : Int) + a ≤ (rS z q : Int) + x - 1 ∧ (rS z q : Int) + x - 1 < (rS z p : Int) + b then (rS z q : Int) + x - 1 else (rS z p : Int) + b) = rS w q' + dv_2 q x (rn_0 ((q : Int) + 1) 1 p a b l) a b l ∧ dv_4 q x (rn_0 ((q : Int) + 1) 1 p a b l) a b l = if dv_1 q x (rn_0 ((q : Int) + 1) 1 p a b l) a b l = dv_2 q x (rn_0 ((q : Int) + 1) 1 p a b l) a b l then 1 else 0
    rcases Nat.lt_or_ge p q with c | c
    · have := r1 p c
      have l0 := h0 p hp
      rw [rn0_lo (by omega)]
      have e0 : dv_0 q x p a b l = p := by unfold dv_0; rw [if_neg (by omega)]
      have e1 : dv_1 q x p a b l = a := by unfold dv_1; rw [if_neg (by omega)]
      have e2 : dv_2 q x p a b l = b := by unfold dv_2; rw [if_neg (by omega)]
      have e4 : dv_4 q x p a b l = l := by unfold dv_4; rw [if_neg (by omega)]
      rw [e0, e1, e2, e4]
      refine ⟨p, rfl, by omega, ⟨h1, h2, by rw [w8a p c]; exact h3⟩, by rw [s1 p (by omega)], ?_, hl⟩
      rw [if_neg (by omega), s1 p (by omega)]
    rcases Nat.lt_or_ge q p with c2 | c2
    · have := r2 p c2
      rw [rn0_hi (by omega)]
      have e0 : dv_0 q x ((p : Int) + 1) a b l = p + 1 := by unfold dv_0; rw [if_neg (by omega)]
      have e1 : dv_1 q x ((p : Int) + 1) a b l = a := by unfold dv_1; rw [if_neg (by omega)]
      have e2 : dv_2 q x ((p : Int) + 1) a b l = b := by unfold dv_2; rw [if_neg (by omega)]
      have e4 : dv_4 q x ((p : Int) + 1) a b l = l := by unfold dv_4; rw [if_neg (by omega)]
      rw [e0, e1, e2, e4]
      refine ⟨p + 1, by omega, by omega, ⟨h1, h2, by rw [w8d p c2 hp]; exact h3⟩, by rw [s4 p c2 hp], ?_, hl⟩
      rw [if_neg (by omega), s4 p c2 hp]
    · have : p = q := by omega
      subst this
      rw [rn0_lo (by omega)]
      by_cases c3 : (x : Int) ≤ a
      · have e0 : dv_0 p x p a b l = p + 1 := by unfold dv_0; rw [if_pos ⟨rfl, c3⟩]
        have e1 : dv_1 p x p a b l = a - x := by unfold dv_1; rw [if_pos rfl, if_pos c3]
        have e2 : dv_2 p x p a b l = b - x := by unfold dv_2; rw [if_pos rfl, if_pos c3]
        have e4 : dv_4 p x p a b l = l := by unfold dv_4; rw [if_neg (fun w => w.2 c3)]
        rw [e0, e1, e2, e4]
        refine ⟨p + 1, by omega, by omega, ⟨by omega, by omega, by rw [w8c]; omega⟩, by rw [s2]; omega, ?_, ?_⟩
        · rw [if_neg (by omega), s2]; omega
        · rw [hl]
          by_cases c5 : a = b
          · rw [if_pos c5, if_pos (by omega)]
          · rw [if_neg c5, if_neg (by omega)]
      · have e0 : dv_0 p x p a b l = p := by unfold dv_0; rw [if_neg (fun w => c3 w.2)]
        have e1 : dv_1 p x p a b l = dv_m a x := by unfold dv_1; rw [if_pos rfl, if_neg c3]
        have e2 : dv_2 p x p a b l = dv_m b x := by unfold dv_2; rw [if_pos rfl, if_neg c3]
        have e4 : dv_4 p x p a b l = if dv_m a x = dv_m b x then 1 else 0 := by unfold dv_4; rw [if_pos ⟨rfl, c3⟩]
        rw [e0, e1, e2, e4]
        have v1 := dvm_v a x
        have v2 := dvm_v b x
        refine ⟨p, rfl, by omega, ⟨by omega, by omega, by rw [w8b]; omega⟩, by rw [s1 p (by omega)]; omega, ?_, rfl⟩
        rw [s1 p (by omega)]
        by_cases c5 : (x : Int) - 1 < b
        · rw [if_pos (by omega)]; omega
        · rw [if_neg (by omega)]; omega
  · show ji_map (fun k => mk_cut (M.2.2.2.1 k) ((rS z q : Int) + x - 1)) M.2.2.2.1 5 k = _
    unfold ji_map; rw [if_pos (by omega)]
  · show ji_map (mk_cT M.2.2.2.2.1 M.2.2.2.2.2.1 ((rS z q : Int) + x - 1)) M.2.2.2.2.2.1 12 k = _
    unfold ji_map; rw [if_pos (by omega)]; rfl
theorem zx_dv {P Q : Nat} {z w : Nat → Int} {M : mk_T} {q x L : Nat} (hz : ZX z) (hP : P ≤ 9) (hQ : Q ≤ 10) (hq : q < P) (hL : z (85 + q) = L) (h2 : 2 ≤ x) (hx : x < L) (hL9 : L ≤ 359) (h : MR Q w M) (h3 : w 3 = z 3 ∧ w 14 = z 14) (hn : NC z w) (hw : ∀ j, (j = 0 ∨ 75 ≤ j) → w j = DF z q x P L j) : ZX w := by
  have hp7 : ∀ j, 75 ≤ j → j < 85 → 0 ≤ rf_pu z (q + 1) P j ∧ rf_pu z (q + 1) P j ≤ 2 := fun j a b => by
    unfold rf_pu
    by_cases c1 : 75 + (q + 1) + 1 ≤ j ∧ j ≤ 75 + P
    · rw [if_pos c1]; exact hz.2.1 _ (by omega) (by omega)
    · rw [if_neg c1, if_neg (by omega), if_neg (by omega)]; exact hz.2.1 _ a b
  have hp8 : ∀ j, 85 ≤ j → j < 95 → 0 ≤ rf_pu z (q + 1) P j ∧ rf_pu z (q + 1) P j ≤ 359 := fun j a b => by
    unfold rf_pu
    rw [if_neg (by omega)]
    by_cases c1 : 85 + (q + 1) + 1 ≤ j ∧ j ≤ 85 + P
    · rw [if_pos c1]; exact hz.2.2.1 _ (by omega) (by omega)
    · rw [if_neg c1, if_neg (by omega)]; exact hz.2.2.1 _ a b
  have hp9 : ∀ j, 95 ≤ j → 0 ≤ rf_pu z (q + 1) P j ∧ rf_pu z (q + 1) P j < 128 := fun j a => by
    unfold rf_pu
    rw [if_neg (by omega), if_neg (by omega)]
    by_cases c1 : 95 + 360 * (q + 1 + 1) ≤ j ∧ j < 95 + 360 * (P + 1)
    · rw [if_pos c1]; exact hz.2.2.2 _ (by omega)
    · rw [if_neg c1]; exact hz.2.2.2 _ a
  refine zx_mk hz h hQ (by rw [hw 0 (Or.inl rfl)]; unfold DF; rw [if_pos rfl]; omega) h3 hn (fun j a b => ?_) (fun j a b => ?_) fun j a => ?_
  · rw [hw j (by omega)]; unfold DF
    rw [if_neg (show ¬ j = 0 by omega), if_neg (show ¬ j = 85 + q by omega), if_neg (show ¬ j = 86 + q by omega)]
    by_cases c : j = 76 + q
    · have := hz.2.1 (75 + q) (by omega) (by omega)
      rw [if_pos c]; split <;> omega
    · rw [if_neg c, if_neg (by omega)]; exact hp7 j a b
  · rw [hw j (by omega)]; unfold DF
    rw [if_neg (show ¬ j = 0 by omega)]
    by_cases c : j = 85 + q
    · rw [if_pos c]; omega
    rw [if_neg c]
    by_cases c : j = 86 + q
    · rw [if_pos c]; omega
    · rw [if_neg c, if_neg (show ¬ j = 76 + q by omega), if_neg (by omega)]; exact hp8 j a b
  · rw [hw j (by omega)]; unfold DF
    rw [if_neg (show ¬ j = 0 by omega), if_neg (show ¬ j = 85 + q by omega), if_neg (show ¬ j = 86 + q by omega), if_neg (show ¬ j = 76 + q by omega)]
    by_cases c : 95 + 360 * (q + 1) ≤ j ∧ j < 95 + 360 * (q + 1) + (L - x)
    · rw [if_pos c]; exact hz.2.2.2 _ (by omega)
    · rw [if_neg c]; exact hp9 j a
