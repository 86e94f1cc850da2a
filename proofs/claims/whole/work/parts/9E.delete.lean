/-! ===== pure: the reference's row after words were taken out ===== -/
theorem C2_v {z : Nat → Int} {q x y L : Nat} (hL : z (85 + q) = L) (hq : q < 10) (hx : x ≤ y) (hy : y ≤ L) (j : Nat) : rf_C2 z q x y j = if j = 85 + q then (L : Int) - (y - x) else if 95 + 360 * q + x ≤ j ∧ j < 95 + 360 * q + x + (L - y) then z (j + (y - x)) else z j := by
  unfold rf_C2
  rw [show (85 + (q : Int)).toNat = 85 + q by omega, hL]
  by_cases c : j = 85 + q
  · rw [if_pos c, c, va_up_self]
  · rw [if_neg c, va_up_ne _ _ c]
    unfold va_cpy
    by_cases d : 95 + 360 * q + x ≤ j ∧ j < 95 + 360 * q + x + (L - y)
    · rw [if_pos d, if_pos (by omega)]; exact congrArg _ (by omega)
    · rw [if_neg d, if_neg (by omega)]
theorem CS_v {z : Nat → Int} {q x y L : Nat} (h3 : 0 ≤ z 3 ∧ z 3 ≤ 5) (h14 : 0 ≤ z 14 ∧ z 14 ≤ 12) (hL : z (85 + q) = L) (hq : q < 10) (hx : x ≤ y) (hy : y ≤ L) (h360 : L ≤ 359) :
    MVP z (rf_CS z q x y) id_a (cs_b q x y ((L : Int) - (y - x))) id_0 (cs_1 q x y) (cs_2 q x y) (cs_4 q x y) ∧ rf_CS z q x y 0 = z 0 ∧ (∀ j, 75 ≤ j → j < 85 → rf_CS z q x y j = z j) ∧ (∀ j, 85 ≤ j → j < 95 → rf_CS z q x y j = if j = 85 + q then (L : Int) - (y - x) else z j)
    ∧ (∀ j k, j < 10 → ¬ j = q → k < 360 → rf_CS z q x y (95 + 360 * j + k) = z (95 + 360 * j + k)) ∧ ∀ k, k < L - (y - x) → rf_CS z q x y (95 + 360 * q + k) = if k < x then z (95 + 360 * q + k) else z (95 + 360 * q + (k + (y - x))) := by
  have hO := C2_v hL hq hx hy
  obtain ⟨m1, m2⟩ := mv_1 (z := z) (z2 := rf_C2 z q x y) (a := id_a) (b := cs_b q x y ((L : Int) - (y - x))) (g0 := id_0) (g1 := cs_1 q x y) (g2 := cs_2 q x y) (g4 := cs_4 q x y) h3 h14 (fun j a b => by rw [hO, if_neg (by omega), if_neg (by omega)])
  have e : rf_CS z q x y = rf_mk id_0 (cs_1 q x y) (cs_2 q x y) (cs_4 q x y) (rf_pl id_a (cs_b q x y ((L : Int) - (y - x))) (rf_C2 z q x y) (rf_C2 z q x y 3 + 1).toNat) (rf_pl id_a (cs_b q x y ((L : Int) - (y - x))) (rf_C2 z q x y) (rf_C2 z q x y 3 + 1).toNat 14).toNat := by
    unfold rf_CS rf_C3
    rw [show (85 + (q : Int)).toNat = 85 + q by omega, hL]
  rw [← e] at m1 m2
  refine ⟨m1, ?_, fun j a b => ?_, fun j a b => ?_, fun j k a b c => ?_, fun k hk => ?_⟩
  · rw [m2 0 (by omega), hO, if_neg (by omega), if_neg (by omega)]
  · rw [m2 j (by omega), hO, if_neg (by omega), if_neg (by omega)]
  · rw [m2 j (by omega), hO]
    by_cases c : j = 85 + q
    · rw [if_pos c, if_pos c]
    · rw [if_neg c, if_neg c, if_neg (by omega)]
  · have hjq : j < q ∨ q < j := by omega
    rw [m2 _ (by omega), hO, if_neg (by omega), if_neg (by omega)]
  · rw [m2 _ (by omega), hO, if_neg (by omega)]
    by_cases c : k < x
    · rw [if_pos c, if_neg (by omega)]
    · rw [if_neg c, if_pos (by omega)]; exact congrArg _ (by omega)
