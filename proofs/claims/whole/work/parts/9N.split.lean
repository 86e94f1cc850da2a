/-! ===== pure: the reference's row after a split ===== -/
theorem pu_h {A z : Nat → Int} (h : ∀ j, 75 ≤ j → A j = z j) {q M j : Nat} (hj : 75 ≤ j) : rf_pu A q M j = rf_pu z q M j := by
  unfold rf_pu
  by_cases c1 : 75 + q + 1 ≤ j ∧ j ≤ 75 + M
  · rw [if_pos c1, if_pos c1, h _ (by omega)]
  rw [if_neg c1, if_neg c1]
  by_cases c2 : 85 + q + 1 ≤ j ∧ j ≤ 85 + M
  · rw [if_pos c2, if_pos c2, h _ (by omega)]
  rw [if_neg c2, if_neg c2]
  by_cases c3 : 95 + 360 * (q + 1) ≤ j ∧ j < 95 + 360 * (M + 1)
  · rw [if_pos c3, if_pos c3, h _ (by omega)]
  rw [if_neg c3, if_neg c3, h _ hj]
def DF (z : Nat → Int) (q x P L : Nat) : Nat → Int := fun j => if j = 0 then (P : Int) + 1 else if j = 85 + q then (x : Int) - 1 else if j = 86 + q then (L : Int) - x else if j = 76 + q then (if z (75 + q) = 1 then 0 else z (75 + q)) else if 95 + 360 * (q + 1) ≤ j ∧ j < 95 + 360 * (q + 1) + (L - x) then z (j - 360 + x) else rf_pu z (q + 1) P j
theorem DV_v {z : Nat → Int} {q x P L : Nat} (h3 : 0 ≤ z 3 ∧ z 3 ≤ 5) (h14 : 0 ≤ z 14 ∧ z 14 ≤ 12) (h0 : z 0 = P) (hP : P ≤ 9) (hq : q < P) (hL : z (85 + q) = L) (hx : x < L) (hL9 : L ≤ 359) :
    MVP z (rf_DV z q x) (fun u v => dv_a q x (rn_a ((q : Int) + 1) 1 u v) (id_b u v)) (fun u v => dv_b q x (rn_a ((q : Int) + 1) 1 u v) (id_b u v)) (fun u v w y => dv_0 q x (rn_0 ((q : Int) + 1) 1 u v w y) (id_1 u v w y) (id_2 u v w y) (id_4 u v w y)) (fun u v w y => dv_1 q x (rn_0 ((q : Int) + 1) 1 u v w y) (id_1 u v w y) (id_2 u v w y) (id_4 u v w y)) (fun u v w y => dv_2 q x (rn_0 ((q : Int) + 1) 1 u v w y) (id_1 u v w y) (id_2 u v w y) (id_4 u v w y)) (fun u v w y => dv_4 q x (rn_0 ((q : Int) + 1) 1 u v w y) (id_1 u v w y) (id_2 u v w y) (id_4 u v w y))
    ∧ NC z (rf_DV z q x) ∧ ∀ j, (j = 0 ∨ 75 ≤ j) → rf_DV z q x j = DF z q x P L j := by
  obtain ⟨m1, hD1⟩ := mv_1 (z := z) (z2 := z) (a := rn_a ((q : Int) + 1) 1) (b := id_b) (g0 := rn_0 ((q : Int) + 1) 1) (g1 := id_1) (g2 := id_2) (g4 := id_4) h3 h14 (fun _ _ _ => rfl)
  have n1 := nc_1 (z := z) (z2 := z) (a := rn_a ((q : Int) + 1) 1) (b := id_b) (g0 := rn_0 ((q : Int) + 1) 1) (g1 := id_1) (g2 := id_2) (g4 := id_4) h3 h14 (fun _ _ _ => rfl)
  change MVP z (rf_D1 z q) _ _ _ _ _ _ at m1
  change NC z (rf_D1 z q) at n1
  change ∀ j, (j = 0 ∨ 75 ≤ j) → rf_D1 z q j = z j at hD1
  have e2 : rf_D2 z q = rf_pu (rf_D1 z q) (q + 1) P := by
    unfold rf_D2
    rw [hD1 0 (Or.inl rfl), h0, show ((q : Int) + 1).toNat = q + 1 by omega, Int.toNat_natCast]
  have v2 : ∀ j, 75 ≤ j → rf_D2 z q j = rf_pu z (q + 1) P j := fun j hj => by rw [e2]; exact pu_h (fun i hi => hD1 i (Or.inr hi)) hj
  have l2 : ∀ j, j < 75 → rf_D2 z q j = rf_D1 z q j := fun j hj => by rw [e2]; unfold rf_pu; rw [if_neg (by omega), if_neg (by omega), if_neg (by omega)]
  have v3 : ∀ j, rf_D3 z q j = if j = 0 then (P : Int) + 1 else rf_D2 z q j := fun j => by
    unfold rf_D3
    by_cases c : j = 0
    · rw [if_pos c, c, va_up_self, l2 0 (by omega), hD1 0 (by omega), h0]
    · rw [if_neg c, va_up_ne _ _ c]
  have v3h : ∀ j, 75 ≤ j → rf_D3 z q j = rf_pu z (q + 1) P j := fun j hj => by rw [v3, if_neg (by omega), v2 j hj]
  have p75 : rf_pu z (q + 1) P (75 + q) = z (75 + q) := by unfold rf_pu; rw [if_neg (by omega), if_neg (by omega), if_neg (by omega)]
  have p85 : rf_pu z (q + 1) P (85 + q) = z (85 + q) := by unfold rf_pu; rw [if_neg (by omega), if_neg (by omega), if_neg (by omega)]
  have v4 : ∀ j, rf_D4 z q j = if j = 76 + q then (if z (75 + q) = 1 then 0 else z (75 + q)) else rf_D3 z q j := fun j => by
    unfold rf_D4
    rw [show (75 + (q : Int) + 1).toNat = 76 + q by omega, show (75 + (q : Int)).toNat = 75 + q by omega, v3h (75 + q) (by omega), p75]
    by_cases c : j = 76 + q
    · rw [if_pos c, c, va_up_self]
    · rw [if_neg c, va_up_ne _ _ c]
  have v5 : ∀ j, rf_D5 z q x j = if j = 86 + q then (L : Int) - x else rf_D4 z q j := fun j => by
    unfold rf_D5
    rw [show (85 + (q : Int) + 1).toNat = 86 + q by omega, show (85 + (q : Int)).toNat = 85 + q by omega, v4 (85 + q), if_neg (by omega), v3h (85 + q) (by omega), p85, hL]
    by_cases c : j = 86 + q
    · rw [if_pos c, c, va_up_self]
    · rw [if_neg c, va_up_ne _ _ c]
  have v5L : rf_D5 z q x (85 + q) = L := by rw [v5, if_neg (by omega), v4, if_neg (by omega), v3h (85 + q) (by omega), p85, hL]
  have v6 : ∀ j, rf_D6 z q x j = if 95 + 360 * (q + 1) ≤ j ∧ j < 95 + 360 * (q + 1) + (L - x) then z (j - 360 + x) else rf_D5 z q x j := fun j => by
    unfold rf_D6
    rw [show (85 + (q : Int)).toNat = 85 + q by omega, v5L, show (95 + 360 * (q : Int) + x).toNat = 95 + 360 * q + x by omega, show (95 + 360 * ((q : Int) + 1)).toNat = 95 + 360 * (q + 1) by omega, show ((L : Int) - x).toNat = L - x by omega]
    unfold va_cpy
    by_cases c : 95 + 360 * (q + 1) ≤ j ∧ j < 95 + 360 * (q + 1) + (L - x)
    · rw [if_pos c, if_pos c, v5, if_neg (by omega), v4, if_neg (by omega), v3h _ (by omega)]
      unfold rf_pu
      rw [if_neg (by omega), if_neg (by omega), if_neg (by omega)]
      exact congrArg _ (by omega)
    · rw [if_neg c, if_neg c]
  have v7 : ∀ j, rf_D7 z q x j = if j = 85 + q then (x : Int) - 1 else rf_D6 z q x j := fun j => by
    unfold rf_D7
    rw [show (85 + (q : Int)).toNat = 85 + q by omega]
    by_cases c : j = 85 + q
    · rw [if_pos c, c, va_up_self]
    · rw [if_neg c, va_up_ne _ _ c]
  have l7 : ∀ j, 1 ≤ j → j < 75 → rf_D7 z q x j = rf_D1 z q j := fun j a b => by
    rw [v7, if_neg (by omega), v6, if_neg (by omega), v5, if_neg (by omega), v4, if_neg (by omega), v3, if_neg (by omega), l2 j b]
  have f7 : ∀ j, (j = 0 ∨ 75 ≤ j) → rf_D7 z q x j = DF z q x P L j := fun j hj => by
    unfold DF
    by_cases c0 : j = 0
    · rw [if_pos c0, v7, if_neg (by omega), v6, if_neg (by omega), v5, if_neg (by omega), v4, if_neg (by omega), v3, if_pos c0]
    rw [if_neg c0, v7]
    by_cases c1 : j = 85 + q
    · rw [if_pos c1, if_pos c1]
    rw [if_neg c1, if_neg c1, v6]
    by_cases c2 : j = 86 + q
    · rw [if_pos c2, if_neg (by omega), v5, if_pos c2]
    rw [if_neg c2, v5, if_neg c2, v4]
    by_cases c3 : j = 76 + q
    · rw [if_pos c3, if_pos c3, if_neg (by omega)]
    rw [if_neg c3, if_neg c3]
    by_cases c4 : 95 + 360 * (q + 1) ≤ j ∧ j < 95 + 360 * (q + 1) + (L - x)
    · rw [if_pos c4, if_pos c4]
    rw [if_neg c4, if_neg c4, v3h j (by omega)]
  have g3 : rf_D7 z q x 3 = z 3 := by rw [l7 3 (by omega) (by omega)]; exact m1.1
  have g14 : rf_D7 z q x 14 = z 14 := by rw [l7 14 (by omega) (by omega)]; exact m1.2.1
  have m7 := mvp_e m1 h3 h14 l7
  have n7 := nc_e n1 l7
  obtain ⟨m9, hh⟩ := mv_1 (z := rf_D7 z q x) (z2 := rf_D7 z q x) (a := dv_a q x) (b := dv_b q x) (g0 := dv_0 q x) (g1 := dv_1 q x) (g2 := dv_2 q x) (g4 := dv_4 q x) (by rw [g3]; exact h3) (by rw [g14]; exact h14) (fun _ _ _ => rfl)
  have n9 := nc_1 (z := rf_D7 z q x) (z2 := rf_D7 z q x) (a := dv_a q x) (b := dv_b q x) (g0 := dv_0 q x) (g1 := dv_1 q x) (g2 := dv_2 q x) (g4 := dv_4 q x) (by rw [g3]; exact h3) (by rw [g14]; exact h14) (fun _ _ _ => rfl)
  change MVP (rf_D7 z q x) (rf_DV z q x) _ _ _ _ _ _ at m9
  change NC (rf_D7 z q x) (rf_DV z q x) at n9
  change ∀ j, (j = 0 ∨ 75 ≤ j) → rf_DV z q x j = rf_D7 z q x j at hh
  exact ⟨mvp_c m7 m9, nc_c n7 g3 g14 n9, fun j hj => by rw [hh j hj]; exact f7 j hj⟩
