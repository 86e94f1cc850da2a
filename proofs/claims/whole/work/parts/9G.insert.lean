/-! ===== pure: insert put together ===== -/
theorem pd_v {I : in_T} (h0 : 0 ≤ I.1) {x1 x2 : Int} (hx : (x1 = 0 ∧ x2 = 1) ∨ (x1 = 1 ∧ x2 = 0)) {j : Nat} (hj : (j : Int) < I.1 + 1) : in_pd (in_W I 0) x1 x2 j = if x1 ≤ j ∧ (j : Int) - x1 < I.1 then I.2.1 ((j : Int) - x1).toNat else 32 := by
  show (if (j : Int) < x1 + I.1 + x2 then in_sign I.1 I.2.1 ((j : Int) - x1) else 0) = _
  rw [if_pos (by omega)]
  unfold in_sign
  by_cases c : x1 ≤ j ∧ (j : Int) - x1 < I.1
  · rw [if_pos c, if_pos (by omega)]
  · rw [if_neg c, if_neg (by omega)]
theorem PI_f {z nl nt bf : Nat → Int} {p x s : Nat} {w : Int} (hp : p < 10) (hw : ¬ w = rf_WO z nt p) (hx : rf_ST (rf_sz z nl p) (rf_ch z nt p) w = x) : rf_PI z nl nt s bf p w = IN z bf p x s 0 s := by
  unfold rf_PI IN
  rw [if_neg hw, hx, show (95 + 360 * (p : Int) + x + 0).toNat = 95 + 360 * p + x + 0 by omega, show (95 + 360 * (p : Int) + x + s).toNat = 95 + 360 * p + x + s by omega, Int.toNat_natCast]
theorem PI_b {z nl nt bf : Nat → Int} {p x s : Nat} {w : Int} (hp : p < 10) (hw : w = rf_WO z nt p) (hx : rf_ST (rf_sz z nl p) (rf_ch z nt p) w = x) : rf_PI z nl nt s bf p w = IN z bf p x s 1 0 := by
  unfold rf_PI IN
  rw [if_pos hw, hx, show (95 + 360 * (p : Int) + x + 1).toNat = 95 + 360 * p + x + 1 by omega, show (95 + 360 * (p : Int) + x + 0).toNat = 95 + 360 * p + x + 0 by omega, Int.toNat_natCast]
