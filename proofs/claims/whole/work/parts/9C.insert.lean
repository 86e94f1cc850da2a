/-! ===== pure: the reference's row after words were put in ===== -/
theorem O2_v {z : Nat → Int} {q x m L : Nat} (hL : z (85 + q) = L) (hq : q < 10) (hx : x ≤ L) (j : Nat) : rf_O2 z q x m j = if j = 85 + q then (L : Int) + m else if 95 + 360 * q + x + m ≤ j ∧ j < 95 + 360 * q + L + m then z (j - m) else z j := by
  unfold rf_O2
  rw [show (85 + (q : Int)).toNat = 85 + q by omega, hL]
  by_cases c : j = 85 + q
  · rw [if_pos c, c, va_up_self]
  · rw [if_neg c, va_up_ne _ _ c]
    unfold va_cpy
    by_cases d : 95 + 360 * q + x + m ≤ j ∧ j < 95 + 360 * q + L + m
    · rw [if_pos d, if_pos (by omega)]; exact congrArg _ (by omega)
    · rw [if_neg d, if_neg (by omega)]
/-- the row: words of length s put in at x, the blank at x + v, the words at x + u -/
def IN (z bf : Nat → Int) (q x s u v : Nat) : Nat → Int := va_up (va_cpy bf (rf_OP z q x ((s : Int) + 1)) 0 (95 + 360 * q + x + u) s) (95 + 360 * q + x + v) 32
theorem OP_v {z : Nat → Int} {q x m : Nat} (h3 : 0 ≤ z 3 ∧ z 3 ≤ 5) (h14 : 0 ≤ z 14 ∧ z 14 ≤ 12) {L : Nat} (hL : z (85 + q) = L) (hq : q < 10) (hx : x ≤ L) : MVP z (rf_OP z q x m) id_a (op_b q x m) id_0 (op_1 q x m) (op_2 q x m) id_4 ∧ ∀ j, (j = 0 ∨ 75 ≤ j) → rf_OP z q x m j = rf_O2 z q x m j :=
  mv_1 h3 h14 fun j a b => by rw [O2_v hL hq hx, if_neg (by omega), if_neg (by omega)]
theorem IN_v {z bf : Nat → Int} {q x s u v : Nat} (h3 : 0 ≤ z 3 ∧ z 3 ≤ 5) (h14 : 0 ≤ z 14 ∧ z 14 ≤ 12) {L : Nat} (hL : z (85 + q) = L) (hq : q < 10) (hx : x ≤ L) (h360 : L + s + 1 ≤ 360) (huv : (u = 0 ∧ v = s) ∨ (u = 1 ∧ v = 0)) :
    MVP z (IN z bf q x s u v) id_a (op_b q x ((s : Int) + 1)) id_0 (op_1 q x ((s : Int) + 1)) (op_2 q x ((s : Int) + 1)) id_4 ∧ IN z bf q x s u v 0 = z 0 ∧ (∀ j, 75 ≤ j → j < 85 → IN z bf q x s u v j = z j) ∧ (∀ j, 85 ≤ j → j < 95 → IN z bf q x s u v j = if j = 85 + q then (L : Int) + s + 1 else z j)
    ∧ (∀ j k, j < 10 → ¬ j = q → k < 360 → IN z bf q x s u v (95 + 360 * j + k) = z (95 + 360 * j + k)) ∧ ∀ k, k < L + s + 1 → IN z bf q x s u v (95 + 360 * q + k) = if k < x then z (95 + 360 * q + k) else if k = x + v then 32 else if k < x + s + 1 then bf (k - x - u) else z (95 + 360 * q + (k - (s + 1))) := by
  obtain ⟨m1, m2⟩ := OP_v (m := s + 1) h3 h14 hL hq hx
  rw [show ((s + 1 : Nat) : Int) = (s : Int) + 1 by omega] at m1 m2
  have hO := O2_v (m := s + 1) hL hq hx
  rw [show ((s + 1 : Nat) : Int) = (s : Int) + 1 by omega] at hO
  have e : ∀ j, IN z bf q x s u v j = if j = 95 + 360 * q + x + v then 32 else if 95 + 360 * q + x + u ≤ j ∧ j < 95 + 360 * q + x + u + s then bf (j - (95 + 360 * q + x + u)) else rf_OP z q x ((s : Int) + 1) j := fun j => by
    unfold IN
    by_cases c : j = 95 + 360 * q + x + v
    · rw [if_pos c, c, va_up_self]
    · rw [if_neg c, va_up_ne _ _ c]
      unfold va_cpy
      by_cases d : 95 + 360 * q + x + u ≤ j ∧ j < 95 + 360 * q + x + u + s
      · rw [if_pos d, if_pos d, Nat.zero_add]
      · rw [if_neg d, if_neg d]
  have el : ∀ j, j < 95 → IN z bf q x s u v j = rf_OP z q x ((s : Int) + 1) j := fun j hj => by rw [e, if_neg (by omega), if_neg (by omega)]
  generalize IN z bf q x s u v = z' at e el
  refine ⟨?_, ?_, fun j a b => ?_, fun j a b => ?_, fun j k a b c => ?_, fun k hk => ?_⟩
  · obtain ⟨n1, n2, n3, n4⟩ := m1
    refine ⟨by rw [el 3 (by omega)]; exact n1, by rw [el 14 (by omega)]; exact n2, fun i hi => ?_, fun k hk => ?_⟩
    · have : i + 1 < 95 := by rcases hi with rfl | ⟨k, k1, rfl⟩ <;> omega
      rw [el i (by omega), el (i + 1) this]; exact n3 i hi
    · rw [el (15 + 5 * k) (by omega), el (15 + 5 * k + 1) (by omega), el (15 + 5 * k + 2) (by omega), el (15 + 5 * k + 3) (by omega), el (15 + 5 * k + 4) (by omega)]; exact n4 k hk
  · rw [el 0 (by omega), m2 0 (by omega), hO, if_neg (by omega), if_neg (by omega)]
  · rw [el j (by omega), m2 j (by omega), hO, if_neg (by omega), if_neg (by omega)]
  · rw [el j (by omega), m2 j (by omega), hO]
    by_cases c : j = 85 + q
    · rw [if_pos c, if_pos c]; omega
    · rw [if_neg c, if_neg c, if_neg (by omega)]
  · have hjq : j < q ∨ q < j := by omega
    rw [e, if_neg (by omega), if_neg (by omega), m2 _ (by omega), hO, if_neg (by omega), if_neg (by omega)]
  · by_cases c1 : k < x
    · rw [if_pos c1, e, if_neg (by omega), if_neg (by omega), m2 _ (by omega), hO, if_neg (by omega), if_neg (by omega)]
    · rw [if_neg c1]
      by_cases c2 : k = x + v
      · rw [if_pos c2, e, if_pos (by omega)]
      · rw [if_neg c2]
        by_cases c3 : k < x + s + 1
        · rw [if_pos c3, e, if_neg (by omega), if_pos (by omega)]; exact congrArg _ (by omega)
        · rw [if_neg c3, e, if_neg (by omega), if_neg (by omega), m2 _ (by omega), hO, if_neg (by omega), if_pos (by omega)]; exact congrArg _ (by omega)
