/-! ===== pure: load ===== -/
theorem tz_b (g : Nat → Int) : ∀ i : Nat, 0 ≤ tb_z g i ∧ tb_z g i ≤ i
  | 0 => ⟨Int.le_refl _, Int.le_refl _⟩
  | i + 1 => by
    have h := tz_b g i
    unfold tb_z at h ⊢
    show 0 ≤ ((i + 1 : Nat) : Int) - (in_tm g 35 i + (if g i = 35 then 1 else 0)) - (in_tm g 62 i + (if g i = 62 then 1 else 0)) ∧ ((i + 1 : Nat) : Int) - (in_tm g 35 i + (if g i = 35 then 1 else 0)) - (in_tm g 62 i + (if g i = 62 then 1 else 0)) ≤ ((i + 1 : Nat) : Int)
    have h1 := in_tm_b g 35 i
    have h2 := in_tm_b g 62 i
    split <;> split <;> omega
theorem tz_m {g : Nat → Int} {i : Nat} (h : g i = 35 ∨ g i = 62) : tb_z g (i + 1) = tb_z g i := by
  unfold tb_z
  rcases h with h | h
  · rw [in_tm_1 h, in_tm_0 (by omega)]; omega
  · rw [in_tm_1 h, in_tm_0 (c := 35) (by omega)]; omega
theorem tz_n {g : Nat → Int} {i : Nat} (h : ¬ (g i = 35 ∨ g i = 62)) : tb_z g (i + 1) = tb_z g i + 1 := by
  unfold tb_z
  rw [in_tm_0 (c := 35) (by omega), in_tm_0 (c := 62) (by omega)]; omega
theorem rl0 (z : Nat → Int) (j : Nat) (hj : j < 95) : rf_lb0 z j = if j = 0 then 1 else 0 := by
  unfold rf_lb0
  by_cases c : j = 0
  · subst c; rw [va_up_self, if_pos rfl]
  · rw [va_up_ne _ _ c, if_neg c]; unfold ji_map; rw [if_pos (by omega)]
theorem tb_all {g : Nat → Int} {v : Int} (hv : v = 0 ∨ v = 1) (z0 : Nat → Int) : ∀ i : Nat, i ≤ 100 → (∀ j, j < i → ¬ (sy_takes (iS g v j) (g j)).1 = 0) → TB v (iS g v i) (tb_X g i) (tb_K g i) (tb_F g i) (tb_z g i).toNat (in_tm g 124 i).toNat (rf_lb (rf_lb0 z0) g i) ∧ tb_w g i = wd_cnt (tb_X g i) (tb_z g i).toNat
  | 0, _, _ => by
    refine ⟨⟨ta_0 v _, ⟨rfl, Nat.zero_le _⟩, ⟨rfl, by show (0 : Int) + 1 ≤ _; omega⟩, rfl, fun p hp => ?_, ⟨fun p hp => absurd hp (Nat.not_lt_zero _), ?_, fun p k1 k2 => ?_, ?_, Nat.zero_le _⟩, fun p hp k hk => ?_, fun p hp => absurd hp (Nat.not_lt_zero _), fun p hp => ?_, fun p hp => absurd hp (Nat.not_lt_zero _)⟩, rfl⟩
    · show (0 : Int) = rf_lb0 z0 (75 + p) ∧ _
      rw [rl0 _ _ (by omega), if_neg (by omega)]; exact ⟨rfl, Int.le_refl _, by show (0 : Int) ≤ 2; omega⟩
    · show 0 ≤ rf_lb0 z0 85
      rw [rl0 _ _ (by omega), if_neg (by omega)]; exact Int.le_refl _
    · show rf_lb0 z0 (85 + p) = 0
      rw [rl0 _ _ (by omega), if_neg (by omega)]
    · show ((0 : Nat) : Int) + rf_lb0 z0 85 = ((0 : Nat) : Int)
      rw [rl0 _ _ (by omega), if_neg (by omega)]; rfl
    · have hp0 : p = 0 := by have : p ≤ 0 := hp; omega
      subst hp0
      have hk : (k : Int) < rf_lb0 z0 85 := hk
      rw [rl0 _ _ (by omega), if_neg (by omega)] at hk; omega
    · have hp0 : p = 0 := by have : p ≤ 0 := hp; omega
      subst hp0; rfl
  | i + 1, hi, ha => by
    obtain ⟨h, hw⟩ := tb_all hv z0 i (by omega) (fun j hj => ha j (by omega))
    have hz := tz_b g i
    have hq := in_tm_b g 124 i
    have hs := ta_s h.1 (ha i (by omega))
    have hz0 : rf_lb (rf_lb0 z0) g i 0 = ((in_tm g 124 i).toNat : Int) + 1 := h.2.2.2.1
    have hq9 := h.2.1.2
    have h85 := h.2.2.2.2.2.1.2.1
    have hZ100 : (tb_z g i).toNat + 1 ≤ 100 := by omega
    show TB v (sy_takes (iS g v i) (g i)).2 (if g i = 35 ∨ g i = 62 then tb_X g i else va_up (tb_X g i) (tb_z g i).toNat (if g i = 124 then 32 else g i)) (if g i = 35 ∨ g i = 62 then va_up (tb_K g i) (in_tm g 124 i).toNat (if g i = 35 then 1 else 2) else tb_K g i) (if g i = 124 then va_up (tb_F g i) (in_tm g 124 i + 1).toNat (tb_w g (i + 1)) else tb_F g i) (tb_z g (i + 1)).toNat (in_tm g 124 (i + 1)).toNat (rf_lb1 (rf_lb (rf_lb0 z0) g i) (g i)) ∧ tb_w g (i + 1) = wd_cnt (if g i = 35 ∨ g i = 62 then tb_X g i else va_up (tb_X g i) (tb_z g i).toNat (if g i = 124 then 32 else g i)) (tb_z g (i + 1)).toNat
    unfold rf_lb1
    rcases hs with ⟨c1, c2, c3, c4, c5, c6⟩ | ⟨c1, c2, c3⟩
    · rw [if_pos c1, if_pos c1, if_neg (show ¬ g i = 124 by omega), if_neg (show ¬ g i = 124 by omega), if_pos c1, tz_m c1, in_tm_0 (c := 124) (by omega), hz0, show (75 + (((in_tm g 124 i).toNat : Int) + 1 - 1)).toNat = 75 + (in_tm g 124 i).toNat by omega]
      refine ⟨tb_m h c3 c4 c5 (by split <;> omega), ?_⟩
      unfold tb_w
      rw [in_tm_0 (c := 124) (by omega), in_tm_0 (c := 32) (by omega)]; exact hw
    · rw [if_neg c1, if_neg c1, tz_n c1, show (tb_z g i + 1).toNat = (tb_z g i).toNat + 1 by omega]
      by_cases k : g i = 124
      · rcases c3 with c | ⟨-, d1, d2, d3, d4, d5, d6⟩ | c
        · omega
        · have ew : tb_w g (i + 1) = (wd_cnt (tb_X g i) (tb_z g i).toNat : Int) + 1 := by
            unfold tb_w at hw ⊢
            rw [in_tm_1 k, in_tm_0 (c := 32) (by omega)]; omega
          rw [if_pos k, if_pos k, if_pos k, ew, in_tm_1 k, show (in_tm g 124 i + 1).toNat = (in_tm g 124 i).toNat + 1 by omega]
          rw [if_pos k] at c2
          refine ⟨tb_p h c2 d2 (by omega) d4 d3 d5 hZ100, ?_⟩
          show _ = ((wd_cnt (va_up (tb_X g i) (tb_z g i).toNat 32) (tb_z g i).toNat + (if va_up (tb_X g i) (tb_z g i).toNat 32 (tb_z g i).toNat = 32 then 1 else 0) : Nat) : Int)
          rw [ct_c _ fun j hj => va_up_ne _ _ (by omega), va_up_self, if_pos rfl]; rfl
        · omega
      · rw [if_neg k] at c2
        have ew : tb_w g (i + 1) = (wd_cnt (tb_X g i) (tb_z g i).toNat : Int) + (if g i = 32 then 1 else 0) := by
          unfold tb_w at hw ⊢
          rw [in_tm_0 (c := 124) k]
          show in_tm g 32 i + _ + _ = _
          omega
        rw [if_neg k, if_neg k, if_neg k, if_neg c1, ew, in_tm_0 (c := 124) k, hz0, show (85 + (((in_tm g 124 i).toNat : Int) + 1 - 1)).toNat = 85 + (in_tm g 124 i).toNat by omega, show (95 + 360 * (((in_tm g 124 i).toNat : Int) + 1 - 1) + rf_lb (rf_lb0 z0) g i (85 + (in_tm g 124 i).toNat)).toNat = 95 + 360 * (in_tm g 124 i).toNat + (rf_lb (rf_lb0 z0) g i (85 + (in_tm g 124 i).toNat)).toNat by omega]
        rw [va_up_ne (rf_lb (rf_lb0 z0) g i) (k := 95 + 360 * (in_tm g 124 i).toNat + (rf_lb (rf_lb0 z0) g i (85 + (in_tm g 124 i).toNat)).toNat) (g i) (j := 85 + (in_tm g 124 i).toNat) (by omega)]
        have hwd := h.2.2.1.2
        refine ⟨tb_c h c2 (by omega) (by split <;> omega) (by omega) hZ100, ?_⟩
        show _ = ((wd_cnt (va_up (tb_X g i) (tb_z g i).toNat (g i)) (tb_z g i).toNat + (if va_up (tb_X g i) (tb_z g i).toNat (g i) (tb_z g i).toNat = 32 then 1 else 0) : Nat) : Int)
        rw [ct_c _ fun j hj => va_up_ne _ _ (by omega), va_up_self]
        split <;> rfl
