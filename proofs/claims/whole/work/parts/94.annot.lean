/-! ===== pure: back, annotate, removeAnnotation ===== -/
theorem mr_bk {P : Nat} {z : Nat → Int} {M : mk_T} (h : MR P z M) (h0 : 0 < z 3) : MR P (rf_bk z) (mk_jb M) ∧ (∀ j, (j = 0 ∨ 4 ≤ j) → rf_bk z j = z j) ∧ ∃ (q : Nat) (o : Int), q < P ∧ (0 ≤ o ∧ o < z (85 + q)) ∧ rf_bk z 1 = q ∧ rf_bk z 2 = o ∧ M.2.2.2.1 (M.2.1 - 1).toNat = rS z q + o := by
  obtain ⟨m1, ⟨m2, m2', m2''⟩, m3, m4, m5⟩ := h
  obtain ⟨c, hc⟩ : ∃ c : Nat, z 3 = (c : Int) + 1 := ⟨(z 3 - 1).toNat, by omega⟩
  obtain ⟨q, p1, p2, p3, p4, p5⟩ := m3 c (by omega)
  have w3 : rf_b0 z 3 = c := by show va_up z 3 (z 3 - 1) 3 = _; rw [va_up_self]; omega
  have wo : ∀ j, ¬ j = 3 → rf_b0 z j = z j := fun j hj => va_up_ne _ _ hj
  have eS : ∀ p, rS (rf_b0 z) p = rS z p := fun p => rS_c p fun j _ => wo _ (by omega)
  have eb : rf_bk z = rf_mv (rf_b0 z) q (z (4 + 2 * c + 1)) := by
    unfold rf_bk
    rw [w3, show (4 + 2 * (c : Int)).toNat = 4 + 2 * c by omega, show (4 + 2 * (c : Int) + 1).toNat = 4 + 2 * c + 1 by omega, wo _ (by omega), wo _ (by omega), p1]
  have hm : MR P (rf_b0 z) (M.1, M.2.1 - 1, M.2.2) := by
    refine ⟨ps_low m1 (fun j hj => wo j (by omega)) (wo _ (by omega)) (wo _ (by omega)), ?_, fun k hk => ?_, ?_, fun k hk => ?_⟩
    · rw [w3]; exact ⟨by show M.2.1 - 1 = _; omega, by omega, by omega⟩
    · rw [w3] at hk
      exact ps_low (m3 k (by omega)) (fun j hj => wo j (by omega)) (wo _ (by omega)) (wo _ (by omega))
    · rw [wo 14 (by omega)]; exact m4
    · rw [wo 14 (by omega)] at hk
      exact as_low (m5 k hk) (fun j hj => wo j (by omega)) (wo _ (by omega)) (wo _ (by omega)) (wo _ (by omega)) (wo _ (by omega)) (wo _ (by omega))
  have hj : M.2.2.2.1 (M.2.1 - 1).toNat = rS z q + z (4 + 2 * c + 1) := by
    rw [show (M.2.1 - 1).toNat = c by omega]; exact p5
  have hv := mr_mv hm (q := q) (o := z (4 + 2 * c + 1)) p2 ⟨p3, by rw [wo _ (by omega)]; exact p4⟩
  rw [eb]
  refine ⟨?_, fun j hj => ?_, q, z (4 + 2 * c + 1), p2, ⟨p3, p4⟩, ?_, ?_, hj⟩
  · unfold mk_jb; rw [hj, ← eS q]; exact hv
  · rw [mv_e, if_neg (by omega), if_neg (by omega), wo _ (by omega)]
  · rw [mv_e, if_neg (by omega), if_pos rfl]
  · rw [mv_e, if_pos rfl]
theorem mr_at {P : Nat} {z : Nat → Int} {M : mk_T} (h : MR P z M) (h9 : z 14 < 12) {q : Nat} {x y c : Int} (hq : q < P) (hx : 0 ≤ x ∧ x < y ∧ y ≤ z (85 + q)) (hc : 0 ≤ c ∧ c ≤ 7) : MR P (va_up (rf_AT z q x y c) 14 (rf_AT z q x y c 14 + 1)) (M.1, M.2.1, M.2.2.1 + 1, M.2.2.2.1, va_up M.2.2.2.2.1 M.2.2.1.toNat (rS z q + x), va_up M.2.2.2.2.2.1 M.2.2.1.toNat (rS z q + y), va_up M.2.2.2.2.2.2 M.2.2.1.toNat c) ∧ (∀ j, (j < 14 ∨ 75 ≤ j) → va_up (rf_AT z q x y c) 14 (rf_AT z q x y c 14 + 1) j = z j) ∧ va_up (rf_AT z q x y c) 14 (rf_AT z q x y c 14 + 1) 14 = z 14 + 1 ∧ ∀ b : Int, 12 ≤ b → y ≤ b → (q : Int) ≤ b → (∀ j, -b ≤ z j ∧ z j ≤ b) → ∀ j, -b ≤ va_up (rf_AT z q x y c) 14 (rf_AT z q x y c 14 + 1) j ∧ va_up (rf_AT z q x y c) 14 (rf_AT z q x y c 14 + 1) j ≤ b := by
  obtain ⟨m1, m2, m3, ⟨m4, m4', m4''⟩, m5⟩ := h
  obtain ⟨a, ha⟩ : ∃ a : Nat, z 14 = a := ⟨(z 14).toNat, by omega⟩
  have e : ∀ j, va_up (rf_AT z q x y c) 14 (rf_AT z q x y c 14 + 1) j = if j = 14 then z 14 + 1 else if j = 15 + 5 * a + 4 then 0 else if j = 15 + 5 * a + 3 then c else if j = 15 + 5 * a + 2 then y else if j = 15 + 5 * a + 1 then x else if j = 15 + 5 * a then (q : Int) else z j := fun j => by
    unfold rf_AT
    rw [ha, show (15 + 5 * (a : Int)).toNat = 15 + 5 * a by omega, show (15 + 5 * (a : Int) + 1).toNat = 15 + 5 * a + 1 by omega, show (15 + 5 * (a : Int) + 2).toNat = 15 + 5 * a + 2 by omega, show (15 + 5 * (a : Int) + 3).toNat = 15 + 5 * a + 3 by omega, show (15 + 5 * (a : Int) + 4).toNat = 15 + 5 * a + 4 by omega]
    rw [va_up_ne (j := 14) _ _ (by omega), va_up_ne (j := 14) _ _ (by omega), va_up_ne (j := 14) _ _ (by omega), va_up_ne (j := 14) _ _ (by omega), va_up_ne (j := 14) _ _ (by omega), ha]
    simp only [va_up]
  generalize va_up (rf_AT z q x y c) 14 (rf_AT z q x y c 14 + 1) = z' at e
  have eo : ∀ j, (j < 14 ∨ 15 + 5 * a + 4 < j) → z' j = z j := fun j hj => by rw [e, if_neg (by omega), if_neg (by omega), if_neg (by omega), if_neg (by omega), if_neg (by omega), if_neg (by omega)]
  have ei : ∀ j, 15 ≤ j → j < 15 + 5 * a → z' j = z j := fun j h1 h2 => by rw [e, if_neg (by omega), if_neg (by omega), if_neg (by omega), if_neg (by omega), if_neg (by omega), if_neg (by omega)]
  have eh : ∀ j, 75 ≤ j → z' j = z j := fun j hj => eo j (by omega)
  have eS : ∀ p, rS z' p = rS z p := fun p => rS_c p fun j _ => eh _ (by omega)
  have w : z' 14 = z 14 + 1 := by rw [e, if_pos rfl]
  refine ⟨⟨ps_low m1 eh (eo _ (by omega)) (eo _ (by omega)), by rw [eo 3 (by omega)]; exact m2, fun k hk => ?_, ⟨by rw [w]; show M.2.2.1 + 1 = _; omega, by omega, by omega⟩, fun k hk => ?_⟩, fun j hj => eo j (by omega), w, fun b b1 b2 b3 hz j => ?_⟩
  · have := m2.2
    rw [eo 3 (by omega)] at hk
    exact ps_low (m3 k hk) eh (eo _ (by omega)) (eo _ (by omega))
  · rw [w] at hk
    show AS z' P (15 + 5 * k) (va_up M.2.2.2.2.1 M.2.2.1.toNat (rS z q + x) k) (va_up M.2.2.2.2.2.1 M.2.2.1.toNat (rS z q + y) k) (va_up M.2.2.2.2.2.2 M.2.2.1.toNat c k)
    by_cases ck : k = a
    · subst ck
      rw [show M.2.2.1.toNat = k by omega, va_up_self, va_up_self, va_up_self]
      have f0 : z' (15 + 5 * k) = q := by rw [e, if_neg (by omega), if_neg (by omega), if_neg (by omega), if_neg (by omega), if_neg (by omega), if_pos rfl]
      have f1 : z' (15 + 5 * k + 1) = x := by rw [e, if_neg (by omega), if_neg (by omega), if_neg (by omega), if_neg (by omega), if_pos rfl]
      have f2 : z' (15 + 5 * k + 2) = y := by rw [e, if_neg (by omega), if_neg (by omega), if_neg (by omega), if_pos rfl]
      have f3 : z' (15 + 5 * k + 3) = c := by rw [e, if_neg (by omega), if_neg (by omega), if_pos rfl]
      have f4 : z' (15 + 5 * k + 4) = 0 := by rw [e, if_neg (by omega), if_pos rfl]
      exact ⟨q, f0, hq, by rw [f1, f2, eh _ (by omega)]; omega, by rw [eS, f1], by rw [eS, f2], by rw [f3]; omega, by rw [f4, f1, f2, if_neg (by omega)]⟩
    · rw [va_up_ne _ _ (by omega), va_up_ne _ _ (by omega), va_up_ne _ _ (by omega)]
      exact as_low (m5 k (by omega)) eh (ei _ (by omega) (by omega)) (ei _ (by omega) (by omega)) (ei _ (by omega) (by omega)) (ei _ (by omega) (by omega)) (ei _ (by omega) (by omega))
  · have := hz j
    rw [e]
    split
    · omega
    split
    · omega
    split
    · omega
    split
    · omega
    split
    · omega
    split <;> omega
theorem rm_e (z : Nat → Int) (s : Nat) : ∀ n j : Nat, rf_rm z s n j = if s ≤ j ∧ j < s + n then z (j + 5) else z j
  | 0, j => by rw [if_neg (by omega)]; rfl
  | n + 1, j => by
    show va_up (rf_rm z s n) ((s : Int) + n).toNat (rf_rm z s n ((s : Int) + n + 5).toNat) j = _
    by_cases e : j = s + n
    · rw [e, show ((s : Int) + n).toNat = s + n by omega, va_up_self, rm_e z s n, if_neg (by omega), if_pos (by omega)]; exact congrArg _ (by omega)
    · rw [va_up_ne _ _ (by omega), rm_e z s n j]
      by_cases c : s ≤ j ∧ j < s + n
      · rw [if_pos c, if_pos (by omega)]
      · rw [if_neg c, if_neg (by omega)]
theorem mr_rm {P : Nat} {z : Nat → Int} {M : mk_T} (h : MR P z M) {v : Nat} (hv : (v : Int) < z 14) : MR P (rf_RM z v) (M.1, M.2.1, M.2.2.1 - 1, M.2.2.2.1, va_cpy M.2.2.2.2.1 M.2.2.2.2.1 ((v : Int) + 1).toNat (v : Int).toNat (M.2.2.1 - 1 - v).toNat, va_cpy M.2.2.2.2.2.1 M.2.2.2.2.2.1 ((v : Int) + 1).toNat (v : Int).toNat (M.2.2.1 - 1 - v).toNat, va_cpy M.2.2.2.2.2.2 M.2.2.2.2.2.2 ((v : Int) + 1).toNat (v : Int).toNat (M.2.2.1 - 1 - v).toNat) ∧ (∀ j, (j < 14 ∨ 75 ≤ j) → rf_RM z v j = z j) ∧ rf_RM z v 14 = z 14 - 1 ∧ ∀ b : Int, 12 ≤ b → (∀ j, -b ≤ z j ∧ z j ≤ b) → ∀ j, -b ≤ rf_RM z v j ∧ rf_RM z v j ≤ b := by
  obtain ⟨m1, m2, m3, ⟨m4, m4', m4''⟩, m5⟩ := h
  obtain ⟨a, ha⟩ : ∃ a : Nat, z 14 = a := ⟨(z 14).toNat, by omega⟩
  have e : ∀ j, rf_RM z v j = if j = 14 then z 14 - 1 else if 15 + 5 * v ≤ j ∧ j < 10 + 5 * a then z (j + 5) else z j := fun j => by
    unfold rf_RM
    rw [ha, show (15 + 5 * (v : Int)) = ((15 + 5 * v : Nat) : Int) by omega, show (5 * (a : Int) - 5 - 5 * v).toNat = 5 * a - 5 - 5 * v by omega, rm_e _ _ _ 14, if_neg (by omega), ha]
    by_cases c : j = 14
    · rw [if_pos c, c, va_up_self]
    · rw [if_neg c, va_up_ne _ _ c, rm_e]
      by_cases d : 15 + 5 * v ≤ j ∧ j < 10 + 5 * a
      · rw [if_pos d, if_pos (by omega)]
      · rw [if_neg d, if_neg (by omega)]
  generalize rf_RM z v = z' at e
  have eo : ∀ j, (j < 14 ∨ 75 ≤ j) → z' j = z j := fun j hj => by rw [e, if_neg (by omega), if_neg (by omega)]
  have eh : ∀ j, 75 ≤ j → z' j = z j := fun j hj => eo j (by omega)
  have w : z' 14 = z 14 - 1 := by rw [e, if_pos rfl]
  refine ⟨⟨ps_low m1 eh (eo _ (by omega)) (eo _ (by omega)), by rw [eo 3 (by omega)]; exact m2, fun k hk => ?_, ⟨by rw [w]; show M.2.2.1 - 1 = _; omega, by omega, by omega⟩, fun k hk => ?_⟩, eo, w, fun b b1 hz j => ?_⟩
  · have := m2.2
    rw [eo 3 (by omega)] at hk
    exact ps_low (m3 k hk) eh (eo _ (by omega)) (eo _ (by omega))
  · rw [w] at hk
    have cp : ∀ F : Nat → Int, va_cpy F F ((v : Int) + 1).toNat (v : Int).toNat (M.2.2.1 - 1 - v).toNat k = if v ≤ k then F (k + 1) else F k := fun F => by
      unfold va_cpy
      by_cases c : v ≤ k
      · rw [if_pos c, if_pos (by omega)]; exact congrArg _ (by omega)
      · rw [if_neg c, if_neg (by omega)]
    show AS z' P (15 + 5 * k) (va_cpy M.2.2.2.2.1 _ _ _ _ k) (va_cpy M.2.2.2.2.2.1 _ _ _ _ k) (va_cpy M.2.2.2.2.2.2 _ _ _ _ k)
    rw [cp, cp, cp]
    by_cases c : v ≤ k
    · rw [if_pos c, if_pos c, if_pos c]
      have ei : ∀ j, 15 + 5 * k ≤ j → j < 15 + 5 * k + 5 → z' j = z (j + 5) := fun j h1 h2 => by rw [e, if_neg (by omega), if_pos (by omega)]
      refine as_low (m5 (k + 1) (by omega)) eh ?_ ?_ ?_ ?_ ?_ <;> (rw [ei _ (by omega) (by omega)]; exact congrArg _ (by omega))
    · rw [if_neg c, if_neg c, if_neg c]
      have ei : ∀ j, 15 + 5 * k ≤ j → j < 15 + 5 * k + 5 → z' j = z j := fun j h1 h2 => by rw [e, if_neg (by omega), if_neg (by omega)]
      exact as_low (m5 k (by omega)) eh (ei _ (by omega) (by omega)) (ei _ (by omega) (by omega)) (ei _ (by omega) (by omega)) (ei _ (by omega) (by omega)) (ei _ (by omega) (by omega))
  · have := hz j
    have := hz (j + 5)
    rw [e]
    split
    · omega
    split <;> omega
/-- a letter; the counts of a trial -/
theorem letter_eq {B : bk_T} {z : Nat → Int} (h : RB B z) (nt : Nat → Int) {p : Nat} (hp : p < bk_P B) {o : Int} (ho : 0 ≤ o ∧ o < z (85 + p)) : wd_sign (bk_m B) (bk_tx B) (bk_start B (p : Int) + o) = rf_ch z nt p o := by
  obtain ⟨i, rfl⟩ : ∃ i : Nat, o = i := ⟨o.toNat, by omega⟩
  have hr := rb_b h hp
  have h10 := h.2.2.1.1
  rw [rf_ch_p (by omega), ← h.2.2.2.2.2.2.1 p hp i ho.2, bk_start_e h (by omega)]
  unfold wd_sign
  rw [if_pos (by omega)]
  exact congrArg _ (by omega)
theorem if_eq {B : bk_T} {z nl nt sy : Nat → Int} {NT : nt_T} {Y : ly_T} {lo lf lt : Nat → Int} {ln pg : Nat} {pf : Nat → Int} {M : mk_T} (hb : RB B z) (hm : MR (bk_P B) z M) (h : LAYR B z nl nt sy NT Y lo lf lt ln pg pf) (o : Int) : cl_if B M Y o = rf_IS z ln lo lf pg pf o := by
  obtain ⟨⟨q, q1, q2, q3, q4, q5⟩, -⟩ := hm
  have q5 : M.1 = rS z q + z 2 := q5
  unfold cl_if rf_IS
  rw [h.1, h.2.1, q5, q1, at_page hb h q2 (o := z 2) ⟨q3, by show z (1 + 1) ≤ _; omega⟩]
