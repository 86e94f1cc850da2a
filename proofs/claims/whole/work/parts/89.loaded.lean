/-! ===== pure: a book that was typed ===== -/
theorem ct_c {X X' : Nat → Int} : ∀ n : Nat, (∀ j, j < n → X' j = X j) → wd_cnt X' n = wd_cnt X n
  | 0, _ => rfl
  | n + 1, h => by
    show wd_cnt X' n + _ = wd_cnt X n + _
    rw [ct_c n (fun j hj => h j (by omega)), h n (by omega)]
theorem rS_c {z z' : Nat → Int} : ∀ n : Nat, (∀ j, j < n → z' (85 + j) = z (85 + j)) → rS z' n = rS z n
  | 0, _ => rfl
  | n + 1, h => by rw [rS_s, rS_s, rS_c n (fun j hj => h j (by omega)), h n (by omega)]
def TB (v : Int) (S : sy_T) (X K F : Nat → Int) (Z q : Nat) (z : Nat → Int) : Prop :=
  TA v S X Z ∧ (S.2.2.1 = q + 1 ∧ q ≤ 9) ∧ (S.2.2.2.1 = wd_cnt X Z - F q + 1 ∧ S.2.2.2.1 ≤ 12 + 12 * v) ∧ z 0 = q + 1
  ∧ (∀ p, p < 10 → K p = z (75 + p) ∧ 0 ≤ K p ∧ K p ≤ 2)
  ∧ ((∀ p, p < q → 1 ≤ z (85 + p)) ∧ 0 ≤ z (85 + q) ∧ (∀ p, q < p → p < 10 → z (85 + p) = 0) ∧ (rS z q : Int) + z (85 + q) = Z ∧ Z ≤ 100)
  ∧ (∀ p, p ≤ q → ∀ k : Nat, (k : Int) < z (85 + p) → X (rS z p + k) = z (95 + 360 * p + k)) ∧ (∀ p, p < q → X (rS z p + (z (85 + p)).toNat) = 32)
  ∧ (∀ p, p ≤ q → F p = wd_cnt X (rS z p)) ∧ ∀ p, p < q → F (p + 1) - F p ≤ 24
theorem tb_e {v : Int} {S : sy_T} {X K F : Nat → Int} {Z q : Nat} {z : Nat → Int} (h : TB v S X K F Z q z) {p : Nat} (hp : p ≤ q) : (rS z p : Int) + z (85 + p) ≤ Z ∧ 0 ≤ z (85 + p) ∧ (p < q → rS z p + (z (85 + p)).toNat < Z) := by
  obtain ⟨a, b, c, d, e, ⟨f1, f2, f3, f4, f5⟩, g⟩ := h
  by_cases c : p = q
  · subst c; exact ⟨by omega, f2, fun q => by omega⟩
  · have := rS_m z (show p + 1 ≤ q by omega)
    rw [rS_s] at this
    have := f1 p (by omega)
    exact ⟨by omega, by omega, fun _ => by omega⟩
theorem tb_m {v : Int} {S S' : sy_T} {X K F : Nat → Int} {Z q : Nat} {z : Nat → Int} (h : TB v S X K F Z q z) (hs : TA v S' X Z) (h1 : S'.2.2.1 = S.2.2.1) (h2 : S'.2.2.2.1 = S.2.2.2.1) {x : Int} (hx : 0 ≤ x ∧ x ≤ 2) : TB v S' X (va_up K q x) F Z q (va_up z (75 + q) x) := by
  obtain ⟨a, b, c, d, e, ⟨f1, f2, f3, f4, f5⟩, g1, g2, g3, g4⟩ := h
  have e8 : ∀ j, va_up z (75 + q) x (85 + j) = z (85 + j) := fun j => va_up_ne _ _ (by omega)
  have eS : ∀ p, rS (va_up z (75 + q) x) p = rS z p := fun p => rS_c p fun j _ => e8 j
  refine ⟨hs, by omega, by omega, by rw [va_up_ne _ _ (by omega)]; exact d, fun p hp => ?_, ⟨fun p hp => by rw [e8]; exact f1 p hp, by rw [e8]; exact f2, fun p k1 k2 => by rw [e8]; exact f3 p k1 k2, by rw [eS, e8]; exact f4, f5⟩, fun p hp k hk => ?_, fun p hp => by rw [eS, e8]; exact g2 p hp, fun p hp => by rw [eS]; exact g3 p hp, g4⟩
  · by_cases c : p = q
    · subst c; rw [va_up_self, va_up_self]; exact ⟨rfl, hx⟩
    · rw [va_up_ne _ _ c, va_up_ne _ _ (by omega)]; exact e p hp
  · rw [e8] at hk
    rw [eS, va_up_ne _ _ (by omega)]; exact g1 p hp k hk
theorem tb_c {v : Int} {S S' : sy_T} {X K F : Nat → Int} {Z q : Nat} {z : Nat → Int} (h : TB v S X K F Z q z) {c : Int} (hs : TA v S' (va_up X Z c) (Z + 1)) (h1 : S'.2.2.1 = S.2.2.1) (h2 : S'.2.2.2.1 = S.2.2.2.1 + (if c = 32 then 1 else 0)) (h3 : S'.2.2.2.1 ≤ 12 + 12 * v) (hZ : Z + 1 ≤ 100) : TB v S' (va_up X Z c) K F (Z + 1) q (va_up (va_up z (95 + 360 * q + (z (85 + q)).toNat) c) (85 + q) (z (85 + q) + 1)) := by
  have ht := fun {p : Nat} (hp : p ≤ q) => tb_e h hp
  obtain ⟨a, b, c9, d, e, ⟨f1, f2, f3, f4, f5⟩, g1, g2, g3, g4⟩ := h
  generalize hz' : va_up (va_up z (95 + 360 * q + (z (85 + q)).toNat) c) (85 + q) (z (85 + q) + 1) = z'
  have eq : z' (85 + q) = z (85 + q) + 1 := by rw [← hz', va_up_self]
  have eo : ∀ j, ¬ j = 85 + q → ¬ j = 95 + 360 * q + (z (85 + q)).toNat → z' j = z j := fun j k1 k2 => by rw [← hz', va_up_ne _ _ k1, va_up_ne _ _ k2]
  have eS : ∀ p, p ≤ q → rS z' p = rS z p := fun p hp => rS_c p fun j _ => eo _ (by omega) (by omega)
  have eX : ∀ j, j < Z → va_up X Z c j = X j := fun j hj => va_up_ne _ _ (by omega)
  have eZ : va_up X Z c Z = c := va_up_self _ _ _
  have eC : wd_cnt (va_up X Z c) (Z + 1) = wd_cnt X Z + (if c = 32 then 1 else 0) := by
    show wd_cnt (va_up X Z c) Z + (if va_up X Z c Z = 32 then 1 else 0) = _
    rw [ct_c Z eX, eZ]
  refine ⟨hs, by omega, ⟨by rw [eC, h2]; split <;> omega, h3⟩, by rw [eo _ (by omega) (by omega)]; exact d, fun p hp => by rw [eo _ (by omega) (by omega)]; exact e p hp, ⟨fun p hp => by rw [eo _ (by omega) (by omega)]; exact f1 p hp, by omega, fun p k1 k2 => by rw [eo _ (by omega) (by omega)]; exact f3 p k1 k2, by rw [eS q (Nat.le_refl _), eq]; omega, hZ⟩, fun p hp k hk => ?_, fun p hp => ?_, fun p hp => ?_, g4⟩
  · rw [eS p hp]
    by_cases c : p = q
    · subst c
      rw [eq] at hk
      by_cases k9 : (k : Int) = z (85 + p)
      · rw [show rS z p + k = Z by omega, eZ, ← hz', va_up_ne _ _ (by omega), show 95 + 360 * p + k = 95 + 360 * p + (z (85 + p)).toNat by omega, va_up_self]
      · rw [eX _ (by omega), eo _ (by omega) (by omega)]; exact g1 p hp k (by omega)
    · rw [eo _ (by omega) (by omega)] at hk
      obtain ⟨t1, t2, t3⟩ := ht hp
      rw [eX _ (by omega), eo _ (by omega) (by omega)]; exact g1 p hp k hk
  · obtain ⟨t1, t2, t3⟩ := ht (p := p) (by omega)
    rw [eS p (by omega), eo _ (by omega) (by omega), eX _ (t3 hp)]; exact g2 p hp
  · obtain ⟨t1, t2, t3⟩ := ht hp
    rw [eS p hp, ct_c _ fun j hj => eX j (by omega)]; exact g3 p hp
theorem tb_p {v : Int} {S S' : sy_T} {X K F : Nat → Int} {Z q : Nat} {z : Nat → Int} (h : TB v S X K F Z q z) (hs : TA v S' (va_up X Z 32) (Z + 1)) (h0 : 0 < S.2.2.2.2.1) (hv : v = 1) (h1 : S'.2.2.1 = S.2.2.1 + 1) (h9 : S.2.2.1 < 10) (h2 : S'.2.2.2.1 = 1) (hZ : Z + 1 ≤ 100) : TB v S' (va_up X Z 32) K (va_up F (q + 1) (wd_cnt X Z + 1)) (Z + 1) (q + 1) (va_up z 0 (z 0 + 1)) := by
  have ht := fun {p : Nat} (hp : p ≤ q) => tb_e h hp
  obtain ⟨a, b, c9, d, e, ⟨f1, f2, f3, f4, f5⟩, g1, g2, g3, g4⟩ := h
  have eo : ∀ j, ¬ j = 0 → va_up z 0 (z 0 + 1) j = z j := fun j k1 => va_up_ne _ _ k1
  have eS : ∀ p, rS (va_up z 0 (z 0 + 1)) p = rS z p := fun p => rS_c p fun j _ => eo _ (by omega)
  have eX : ∀ j, j < Z → va_up X Z 32 j = X j := fun j hj => va_up_ne _ _ (by omega)
  have eZ : va_up X Z 32 Z = 32 := va_up_self _ _ _
  have eC : wd_cnt (va_up X Z 32) (Z + 1) = wd_cnt X Z + 1 := by
    show wd_cnt (va_up X Z 32) Z + (if va_up X Z 32 Z = 32 then 1 else 0) = _
    rw [ct_c Z eX, eZ, if_pos rfl]
  have hF : va_up F (q + 1) ((wd_cnt X Z : Int) + 1) (q + 1) = wd_cnt X Z + 1 := va_up_self _ _ _
  have hFo : ∀ p, p ≤ q → va_up F (q + 1) ((wd_cnt X Z : Int) + 1) p = F p := fun p hp => va_up_ne _ _ (by omega)
  have hq1 : 1 ≤ z (85 + q) := by
    obtain ⟨w, b1, b2, b3, b4⟩ := a.2.2.2.1
    have hd := a.2.2.1
    rcases Int.lt_or_le 0 (z (85 + q)) with k | k
    · omega
    · exfalso
      rcases Nat.eq_zero_or_pos q with k0 | k0
      · subst k0
        have e0 : rS z 0 = 0 := rfl
        omega
      · have g := g2 (q - 1) (by omega)
        have s := rS_s z (q - 1)
        rw [show q - 1 + 1 = q by omega] at s
        exact b3 (rS z (q - 1) + (z (85 + (q - 1))).toNat) (by omega) (by omega) g
  have eR : (rS z (q + 1) : Int) = Z + 1 := by rw [rS_s]; omega
  have z1 : z (85 + (q + 1)) = 0 := f3 (q + 1) (by omega) (by omega)
  refine ⟨hs, by omega, ⟨by rw [eC, hF]; omega, by omega⟩, by rw [va_up_self]; omega, fun p hp => by rw [eo _ (by omega)]; exact e p hp, ⟨fun p hp => ?_, by rw [eo _ (by omega), z1]; exact Int.le_refl _, fun p k1 k2 => by rw [eo _ (by omega)]; exact f3 p (by omega) k2, by rw [eS, eo _ (by omega), z1]; omega, hZ⟩, fun p hp k hk => ?_, fun p hp => ?_, fun p hp => ?_, fun p hp => ?_⟩
  · rw [eo _ (by omega)]
    by_cases c : p = q
    · rw [c]; exact hq1
    · exact f1 p (by omega)
  · rw [eo _ (by omega)] at hk
    by_cases c : p = q + 1
    · rw [c, z1] at hk; omega
    · obtain ⟨t1, t2, t3⟩ := ht (p := p) (by omega)
      rw [eS, eX _ (by omega), eo _ (by omega)]; exact g1 p (by omega) k hk
  · rw [eS, eo _ (by omega)]
    by_cases c : p = q
    · subst c
      rw [show rS z p + (z (85 + p)).toNat = Z by omega]; exact eZ
    · obtain ⟨t1, t2, t3⟩ := ht (p := p) (by omega)
      rw [eX _ (t3 (by omega))]; exact g2 p (by omega)
  · rw [eS]
    by_cases c : p = q + 1
    · subst c
      rw [hF, show rS z (q + 1) = Z + 1 by omega, eC]; rfl
    · obtain ⟨t1, t2, t3⟩ := ht (p := p) (by omega)
      rw [hFo p (by omega), ct_c _ fun j hj => eX j (by omega)]; exact g3 p (by omega)
  · by_cases c : p = q
    · subst c
      rw [hF, hFo p (by omega)]; omega
    · rw [hFo p (by omega), hFo (p + 1) (by omega)]; exact g4 p (by omega)
