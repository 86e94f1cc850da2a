/-! ===== pure: jumps, the reader's moves, annotations ===== -/
theorem rb_low {B : bk_T} {z z' : Nat → Int} (h : RB B z) (e : ∀ j, (j = 0 ∨ 75 ≤ j) → z' j = z j) : RB B z' := by
  obtain ⟨a1, a2, ⟨a3, a3'⟩, a4, a5, a6, a7, a8, ⟨a9, a9'⟩, a10⟩ := h
  have eS : ∀ p, rS z' p = rS z p := fun p => rS_c p fun j _ => e _ (by omega)
  refine ⟨a1, a2, ⟨a3, by rw [e 0 (by omega)]; exact a3'⟩, fun p hp => by rw [e _ (by omega)]; exact a4 p hp, fun p hp => by rw [e _ (by omega)]; exact a5 p hp, by rw [eS]; exact a6, fun p hp k hk => ?_, fun p hp => by rw [eS, e _ (by omega)]; exact a8 p hp, ⟨fun p hp => by rw [eS]; exact a9 p hp, a9'⟩, a10⟩
  rw [e _ (by omega)] at hk
  rw [eS, e _ (by omega)]; exact a7 p hp k hk
theorem zx_low {z z' : Nat → Int} (h : ZX z) (e : ∀ j, 75 ≤ j → z' j = z j) (hb : ∀ j, j < 75 → -10000 ≤ z' j ∧ z' j ≤ 10000) : ZX z' := by
  refine ⟨fun j => ?_, fun j a b => by rw [e j a]; exact h.2.1 j a b, fun j a b => by rw [e j (by omega)]; exact h.2.2.1 j a b, fun j a => by rw [e j (by omega)]; exact h.2.2.2 j a⟩
  rcases Nat.lt_or_ge j 75 with c | c
  · exact hb j c
  · rw [e j c]; exact h.1 j
theorem ntr_z {NT : nt_T} {z z' nl nt : Nat → Int} (h : NTR NT z nl nt) : NTR NT z' nl nt := by
  intro k hk
  rcases h k hk with r | ⟨m, tx, r1, r2, r3, r4, r5⟩
  · exact Or.inl r
  · refine Or.inr ⟨m, tx, r1, r2, r3, r4, fun j hj => ?_⟩
    rw [← r5 j hj]
    unfold rf_ch
    have c : ¬ (10 + (k : Int)) < 10 := by omega
    rw [if_neg c, if_neg c]
theorem ps_low {z z' : Nat → Int} {P i i' : Nat} {x : Int} (h : PS z P i x) (e : ∀ j, 75 ≤ j → z' j = z j) (e1 : z' i' = z i) (e2 : z' (i' + 1) = z (i + 1)) : PS z' P i' x := by
  obtain ⟨q, h1, h2, h3, h4, h5⟩ := h
  have eS : ∀ p, rS z' p = rS z p := fun p => rS_c p fun j _ => e _ (by omega)
  exact ⟨q, by omega, h2, by omega, by rw [e (85 + q) (by omega)]; omega, by rw [eS]; omega⟩
theorem as_low {z z' : Nat → Int} {P i i' : Nat} {x y c : Int} (h : AS z P i x y c) (e : ∀ j, 75 ≤ j → z' j = z j) (e0 : z' i' = z i) (e1 : z' (i' + 1) = z (i + 1)) (e2 : z' (i' + 2) = z (i + 2)) (e3 : z' (i' + 3) = z (i + 3)) (e4 : z' (i' + 4) = z (i + 4)) : AS z' P i' x y c := by
  obtain ⟨q, h1, h2, h3, h4, h5, h6, h7⟩ := h
  have eS : ∀ p, rS z' p = rS z p := fun p => rS_c p fun j _ => e _ (by omega)
  exact ⟨q, by omega, h2, by rw [e (85 + q) (by omega)]; omega, by rw [eS]; omega, by rw [eS]; omega, by omega, by rw [e4, e1, e2]; exact h7⟩
theorem js_e (z : Nat → Int) : ∀ n j : Nat, rf_js z n j = if 4 ≤ j ∧ j < 4 + n then z (j + 2) else z j
  | 0, j => by rw [if_neg (by omega)]; rfl
  | n + 1, j => by
    show va_up (rf_js z n) (4 + n) (rf_js z n (6 + n)) j = _
    by_cases e : j = 4 + n
    · rw [e, va_up_self, js_e z n, if_neg (by omega), if_pos (by omega)]; exact congrArg _ (by omega)
    · rw [va_up_ne _ _ e, js_e z n j]
      by_cases c : 4 ≤ j ∧ j < 4 + n
      · rw [if_pos c, if_pos (by omega)]
      · rw [if_neg c, if_neg (by omega)]
/-- the row after the jump was noted -/
theorem kj_n {z : Nat → Int} {c : Nat} (hc : z 3 = c) (h4 : c < 5) (j : Nat) : rf_kj z j = if j = 3 then z 3 + 1 else if j = 4 + 2 * c then z 1 else if j = 4 + 2 * c + 1 then z 2 else z j := by
  have e1 : rf_k1 z = z := by unfold rf_k1; rw [if_neg (by omega)]
  unfold rf_kj
  rw [e1]
  unfold rf_k4
  have e3 : rf_k3 (rf_k2 z) = va_up (va_up z (4 + 2 * c) (z 1)) (4 + 2 * c + 1) (z 2) := by
    unfold rf_k3 rf_k2
    rw [hc, show (4 + 2 * (c : Int)).toNat = 4 + 2 * c by omega, va_up_ne (j := 3) _ _ (by omega), va_up_ne (j := 2) _ _ (by omega), hc, show (4 + 2 * (c : Int) + 1).toNat = 4 + 2 * c + 1 by omega]
  rw [e3, va_up_ne (j := 3) _ _ (by omega), va_up_ne (j := 3) _ _ (by omega)]
  by_cases c3 : j = 3
  · rw [if_pos c3, c3, va_up_self]
  · rw [if_neg c3, va_up_ne _ _ c3]
    by_cases c5 : j = 4 + 2 * c + 1
    · rw [c5, va_up_self, if_neg (by omega), if_pos rfl]
    · rw [va_up_ne _ _ c5]
      by_cases c4 : j = 4 + 2 * c
      · rw [c4, va_up_self, if_pos rfl]
      · rw [va_up_ne _ _ c4, if_neg c4, if_neg c5]
theorem kj_5 {z : Nat → Int} (hc : z 3 = 5) (j : Nat) : rf_kj z j = if j = 3 then 5 else if j = 12 then z 1 else if j = 13 then z 2 else if 4 ≤ j ∧ j < 12 then z (j + 2) else z j := by
  have e1 : rf_k1 z = va_up (rf_js z 8) 3 4 := by unfold rf_k1; rw [if_pos hc, rf_js_3, hc]; rfl
  have w3 : rf_k1 z 3 = 4 := by rw [e1, va_up_self]
  have wj : ∀ j, ¬ j = 3 → rf_k1 z j = if 4 ≤ j ∧ j < 12 then z (j + 2) else z j := fun j hj => by rw [e1, va_up_ne _ _ hj, js_e]
  show rf_k4 (rf_k3 (rf_k2 (rf_k1 z))) j = _
  generalize rf_k1 z = W at w3 wj
  have h1 := wj 1 (by omega)
  have h2 := wj 2 (by omega)
  rw [if_neg (by omega)] at h1 h2
  have e3 : rf_k3 (rf_k2 W) = va_up (va_up W 12 (z 1)) 13 (z 2) := by
    unfold rf_k3 rf_k2
    rw [w3, show (4 + 2 * (4 : Int)).toNat = 12 from rfl, va_up_ne (j := 3) _ _ (by omega), va_up_ne (j := 2) _ _ (by omega), w3, h1, h2]; rfl
  unfold rf_k4
  rw [e3, va_up_ne (j := 3) _ _ (by omega), va_up_ne (j := 3) _ _ (by omega), w3]
  by_cases c3 : j = 3
  · rw [if_pos c3, c3, va_up_self]; rfl
  · rw [if_neg c3, va_up_ne _ _ c3]
    by_cases c5 : j = 13
    · rw [c5, va_up_self]; rfl
    · rw [va_up_ne _ _ c5]
      by_cases c4 : j = 12
      · rw [c4, va_up_self]; rfl
      · rw [va_up_ne _ _ c4, if_neg c4, if_neg c5]; exact wj j c3
theorem mv_e (z : Nat → Int) (q o : Int) (j : Nat) : rf_mv z q o j = if j = 2 then o else if j = 1 then q else z j := by
  unfold rf_mv
  by_cases c2 : j = 2
  · rw [if_pos c2, c2, va_up_self]
  · rw [if_neg c2, va_up_ne _ _ c2]
    by_cases c1 : j = 1
    · rw [if_pos c1, c1, va_up_self]
    · rw [if_neg c1, va_up_ne _ _ c1]
/-- the reader moves, the row else unchanged -/
theorem mr_mv {P : Nat} {z : Nat → Int} {M : mk_T} (h : MR P z M) {q : Nat} {o : Int} (hq : q < P) (ho : 0 ≤ o ∧ o < z (85 + q)) : MR P (rf_mv z q o) (rS z q + o, M.2) := by
  obtain ⟨m1, m2, m3, m4, m5⟩ := h
  have e := mv_e z q o
  have ej : ∀ j, 3 ≤ j → rf_mv z q o j = z j := fun j hj => by rw [e, if_neg (by omega), if_neg (by omega)]
  have eh : ∀ j, 75 ≤ j → rf_mv z q o j = z j := fun j hj => ej j (by omega)
  have eS : ∀ p, rS (rf_mv z q o) p = rS z p := fun p => rS_c p fun j _ => eh _ (by omega)
  have w1 : rf_mv z q o 1 = q := by rw [e, if_neg (by omega), if_pos rfl]
  have w2 : rf_mv z q o 2 = o := by rw [e, if_pos rfl]
  refine ⟨⟨q, w1, hq, by rw [show 1 + 1 = 2 from rfl, w2]; exact ho.1, by rw [show 1 + 1 = 2 from rfl, w2, eh _ (by omega)]; exact ho.2, by rw [show 1 + 1 = 2 from rfl, w2, eS]⟩, ?_, fun k hk => ?_, ?_, fun k hk => ?_⟩
  · rw [ej 3 (by omega)]; exact m2
  · rw [ej 3 (by omega)] at hk
    exact ps_low (m3 k hk) eh (ej _ (by omega)) (ej _ (by omega))
  · rw [ej 14 (by omega)]; exact m4
  · rw [ej 14 (by omega)] at hk
    exact as_low (m5 k hk) eh (ej _ (by omega)) (ej _ (by omega)) (ej _ (by omega)) (ej _ (by omega)) (ej _ (by omega))
/-- the jump is noted -/
theorem mr_kj {P : Nat} {z : Nat → Int} {M : mk_T} (h : MR P z M) (v : Int) : MR P (rf_kj z) (M.1, (mk_jt M v).2) ∧ (∀ j, (j < 3 ∨ 14 ≤ j) → rf_kj z j = z j) ∧ ∀ b : Int, 10 ≤ b → (∀ j, -b ≤ z j ∧ z j ≤ b) → ∀ j, -b ≤ rf_kj z j ∧ rf_kj z j ≤ b := by
  obtain ⟨m1, ⟨m2, m2', m2''⟩, m3, m4, m5⟩ := h
  rcases Int.lt_or_le (z 3) 5 with c5 | c5
  · obtain ⟨c, hc⟩ : ∃ c : Nat, z 3 = c := ⟨(z 3).toNat, by omega⟩
    have e := kj_n hc (by omega)
    have eo : ∀ j, (j < 3 ∨ 14 ≤ j) → rf_kj z j = z j := fun j hj => by rw [e, if_neg (by omega), if_neg (by omega), if_neg (by omega)]
    have eh : ∀ j, 75 ≤ j → rf_kj z j = z j := fun j hj => eo j (by omega)
    have w3 : rf_kj z 3 = z 3 + 1 := by rw [e, if_pos rfl]
    unfold mk_jt
    rw [if_pos (by omega)]
    refine ⟨⟨ps_low m1 eh (eo _ (by omega)) (eo _ (by omega)), ?_, fun k hk => ?_, ?_, fun k hk => ?_⟩, eo, fun b hb hz j => ?_⟩
    · rw [w3]; exact ⟨by show M.2.1 + 1 = _; omega, by omega, by omega⟩
    · rw [w3] at hk
      show PS (rf_kj z) P (4 + 2 * k) (va_up M.2.2.2.1 M.2.1.toNat M.1 k)
      by_cases ck : k = c
      · subst ck
        rw [show M.2.1.toNat = k by omega, va_up_self]
        exact ps_low m1 eh (by rw [e, if_neg (by omega), if_pos rfl]) (by rw [e, if_neg (by omega), if_neg (by omega), if_pos rfl])
      · rw [va_up_ne _ _ (by omega)]
        exact ps_low (m3 k (by omega)) eh (by rw [e, if_neg (by omega), if_neg (by omega), if_neg (by omega)]) (by rw [e, if_neg (by omega), if_neg (by omega), if_neg (by omega)])
    · rw [eo 14 (by omega)]; exact m4
    · rw [eo 14 (by omega)] at hk
      exact as_low (m5 k hk) eh (eo _ (by omega)) (eo _ (by omega)) (eo _ (by omega)) (eo _ (by omega)) (eo _ (by omega))
    · have := hz 1
      have := hz 2
      have := hz j
      rw [e]; split
      · omega
      · split
        · omega
        · split <;> omega
  · have hc : z 3 = 5 := by omega
    have e := kj_5 hc
    have eo : ∀ j, (j < 3 ∨ 14 ≤ j) → rf_kj z j = z j := fun j hj => by rw [e, if_neg (by omega), if_neg (by omega), if_neg (by omega), if_neg (by omega)]
    have eh : ∀ j, 75 ≤ j → rf_kj z j = z j := fun j hj => eo j (by omega)
    have w3 : rf_kj z 3 = 5 := by rw [e, if_pos rfl]
    unfold mk_jt
    rw [if_neg (by omega)]
    refine ⟨⟨ps_low m1 eh (eo _ (by omega)) (eo _ (by omega)), ?_, fun k hk => ?_, ?_, fun k hk => ?_⟩, eo, fun b hb hz j => ?_⟩
    · rw [w3]; exact ⟨rfl, by omega, by omega⟩
    · rw [w3] at hk
      show PS (rf_kj z) P (4 + 2 * k) (va_up (va_cpy M.2.2.2.1 M.2.2.2.1 1 0 4) 4 M.1 k)
      by_cases ck : k = 4
      · subst ck
        rw [va_up_self]
        exact ps_low m1 eh (by rw [e]; rfl) (by rw [e]; rfl)
      · rw [va_up_ne _ _ ck]
        have ev : va_cpy M.2.2.2.1 M.2.2.2.1 1 0 4 k = M.2.2.2.1 (k + 1) := by
          unfold va_cpy; rw [if_pos (by omega)]; exact congrArg _ (by omega)
        rw [ev]
        refine ps_low (m3 (k + 1) (by omega)) eh ?_ ?_
        · rw [e, if_neg (by omega), if_neg (by omega), if_neg (by omega), if_pos (by omega)]; exact congrArg _ (by omega)
        · rw [e, if_neg (by omega), if_neg (by omega), if_neg (by omega), if_pos (by omega)]; exact congrArg _ (by omega)
    · rw [eo 14 (by omega)]; exact m4
    · rw [eo 14 (by omega)] at hk
      exact as_low (m5 k hk) eh (eo _ (by omega)) (eo _ (by omega)) (eo _ (by omega)) (eo _ (by omega)) (eo _ (by omega))
    · have := hz 1
      have := hz 2
      have := hz j
      have := hz (j + 2)
      rw [e]; split
      · omega
      · split
        · omega
        · split
          · omega
          · split <;> omega
