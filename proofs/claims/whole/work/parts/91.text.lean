/-! ===== pure: the loaded book and the word list ===== -/
theorem wh_all {len : Int} {g : Nat → Int} {v : Int} (h0 : 0 ≤ len) (h : in_whole len g v = 1) : (∀ j : Nat, (j : Int) < len → ¬ (sy_takes (iS g v j) (g j)).1 = 0) ∧ 0 < (iS g v len.toNat).2.2.2.2.1 ∧ (iS g v len.toNat).2.2.2.2.2.1 = 0 := by
  unfold in_whole at h
  by_cases c : (in_FF len g v).1 = len ∧ sy_end (in_FF len g v).2.2.2.2.2.1 (in_FF len g v).2.2.2.2.2.2.1 = 1
  · obtain ⟨c1, c2⟩ := c
    obtain ⟨h1, h2⟩ := ff_all (len := len) (g := g) (v := v) len.toNat 0 (by omega) c1
    have h2 : (in_FF len g v).2 = iS g v len.toNat := h2
    rw [h2] at c2
    unfold sy_end at c2
    by_cases d : 0 < (iS g v len.toNat).2.2.2.2.1 ∧ (iS g v len.toNat).2.2.2.2.2.1 = 0
    · exact ⟨fun j hj => h1 j (by omega) hj, d⟩
    · rw [if_neg d] at c2; omega
  · rw [if_neg c] at h; omega
/-- a text's rules -/
def TX (X : Nat → Int) (m : Nat) : Prop := tw_ok X m ∧ (∀ j, j < m → X j = 94 → j + 1 < m ∧ (48 ≤ X (j + 1) ∧ X (j + 1) ≤ 57) ∧ (j + 2 = m ∨ (j + 2 < m ∧ X (j + 2) = 32))) ∧ WL X m
theorem ta_tx {v : Int} {S : sy_T} {X : Nat → Int} {Z : Nat} (h : TA v S X Z) (h1 : 0 < S.2.2.2.2.1) (h2 : S.2.2.2.2.2.1 = 0) : TX X Z := by
  obtain ⟨a1, a2, a3, ⟨w, b1, b2, b3, b4⟩, a5, a6, a7⟩ := h
  refine ⟨⟨by omega, fun j q1 q2 => ?_⟩, fun j q1 q2 => ?_, a7⟩
  · obtain ⟨r1, r2⟩ := a5 j q1 q2
    have : ¬ j + 1 = Z := fun e => b3 j (by omega) q1 q2
    exact ⟨r1, by omega, r2 (by omega)⟩
  · rcases a6 j q1 q2 with ⟨r1, r2⟩ | ⟨r1, r2, r3⟩ | ⟨r1, r2, r3⟩
    · omega
    · exact ⟨by omega, r3, Or.inl r1⟩
    · exact ⟨by omega, r2, Or.inr ⟨r1, r3⟩⟩
theorem wl_ct {X : Nat → Int} {m : Nat} (h : WL X m) (b : Nat) : ∀ k : Nat, b + 15 * k ≤ m → wd_cnt X b + k ≤ wd_cnt X (b + 15 * k)
  | 0, _ => Nat.le_refl _
  | k + 1, hk => by
    have := wl_ct h b k (by omega)
    obtain ⟨i, r1, r2, r3⟩ := h (b + 15 * k) (by omega)
    have s1 := ct_m (tx := X) r1
    have s2 := ct_b r3
    have s3 := ct_m (tx := X) (show i + 1 ≤ b + 15 * (k + 1) by omega)
    omega
theorem wl_len {X : Nat → Int} {m : Nat} (h : WL X m) {b L : Nat} (hL : b + L ≤ m) : (L : Int) + 1 ≤ 15 * ((wd_cnt X (b + L) : Int) + 1 - wd_cnt X b) := by
  have h1 := wl_ct h b (L / 15) (by omega)
  have h2 := ct_m (tx := X) (show b + 15 * (L / 15) ≤ b + L by omega)
  omega
theorem rl_c {z g bf : Nat → Int} : ∀ n : Nat, (∀ j, j < n → g j = bf j) → rf_lb z g n = rf_lb z bf n
  | 0, _ => rfl
  | n + 1, h => by
    show rf_lb1 (rf_lb z g n) (g n) = rf_lb1 (rf_lb z bf n) (bf n)
    rw [rl_c n (fun j hj => h j (by omega)), h n (by omega)]
theorem tm_c {g bf : Nat → Int} (c : Int) : ∀ n : Nat, (∀ j, j < n → g j = bf j) → in_tm g c n = in_tm bf c n
  | 0, _ => rfl
  | n + 1, h => by
    show in_tm g c n + _ = in_tm bf c n + _
    rw [tm_c c n (fun j hj => h j (by omega)), h n (by omega)]
theorem tK_b (g : Nat → Int) : ∀ i j : Nat, 0 ≤ tb_K g i j ∧ tb_K g i j ≤ 2
  | 0, j => ⟨Int.le_refl _, by show (0 : Int) ≤ 2; omega⟩
  | i + 1, j => by
    show 0 ≤ (if g i = 35 ∨ g i = 62 then va_up (tb_K g i) (in_tm g 124 i).toNat (if g i = 35 then 1 else 2) else tb_K g i) j ∧ (if g i = 35 ∨ g i = 62 then va_up (tb_K g i) (in_tm g 124 i).toNat (if g i = 35 then 1 else 2) else tb_K g i) j ≤ 2
    have := tK_b g i j
    split
    · by_cases e : j = (in_tm g 124 i).toNat
      · rw [e, va_up_self]; split <;> omega
      · rw [va_up_ne _ _ e]; exact this
    · exact this
theorem tF_b (g : Nat → Int) : ∀ i j : Nat, 0 ≤ tb_F g i j ∧ tb_F g i j ≤ 2 * i
  | 0, j => ⟨Int.le_refl _, Int.le_refl _⟩
  | i + 1, j => by
    show 0 ≤ (if g i = 124 then va_up (tb_F g i) (in_tm g 124 i + 1).toNat (tb_w g (i + 1)) else tb_F g i) j ∧ (if g i = 124 then va_up (tb_F g i) (in_tm g 124 i + 1).toNat (tb_w g (i + 1)) else tb_F g i) j ≤ 2 * ((i + 1 : Nat) : Int)
    have := tF_b g i j
    have h1 := in_tm_b g 32 (i + 1)
    have h2 := in_tm_b g 124 (i + 1)
    split
    · by_cases e : j = (in_tm g 124 i + 1).toNat
      · rw [e, va_up_self]; unfold tb_w; omega
      · rw [va_up_ne _ _ e]; omega
    · omega
/-- what every book of the class keeps beyond RB -/
def BX (B : bk_T) : Prop := WL (bk_tx B) (bk_m B) ∧ (∀ j, 0 ≤ bk_kd B j ∧ bk_kd B j ≤ 2) ∧ (∀ j, 0 ≤ bk_fr B j ∧ bk_fr B j ≤ 10000) ∧ ∀ j, 0 ≤ bk_tx B j ∧ bk_tx B j < 128
theorem load_rb {len : Int} {g bf : Nat → Int} (h0 : 0 ≤ len ∧ len ≤ 100) (h : in_whole len g 1 = 1) (hg : ∀ k, 0 ≤ g k ∧ g k < 128) (hf : ∀ k : Nat, (k : Int) < len → g k = bf k) (z0 : Nat → Int) : RB (tb_B len g) (rf_lb (rf_lb0 z0) bf len.toNat) ∧ BX (tb_B len g) ∧ ∀ i : Nat, (i : Int) ≤ len → in_tm bf 124 i ≤ 9 := by
  obtain ⟨h1, h2, h3⟩ := wh_all h0.1 h
  have hp9 : ∀ i : Nat, (i : Int) ≤ len → in_tm bf 124 i ≤ 9 := fun i hi => by
    have := (tb_all (Or.inr rfl) z0 i (by omega) (fun j hj => h1 j (by omega))).1.2.1.2
    rw [← tm_c 124 i fun j hj => hf j (by omega)]; omega
  obtain ⟨ht, hw⟩ := tb_all (Or.inr rfl) z0 len.toNat (by omega) (fun j hj => h1 j (by omega))
  rw [← rl_c len.toNat fun j hj => hf j (by omega)]
  have htx := ta_tx ht.1 h2 h3
  have hte := fun {p : Nat} (hp : p ≤ _) => tb_e ht hp
  have hlast : 1 ≤ rf_lb (rf_lb0 z0) g len.toNat (85 + (in_tm g 124 len.toNat).toNat) := by
    obtain ⟨w, b1, b2, b3, b4⟩ := ht.1.2.2.2.1
    have hd := ht.1.2.2.1
    have f4 := ht.2.2.2.2.2.1.2.2.2.1
    have f2 := ht.2.2.2.2.2.1.2.1
    rcases Int.lt_or_le 0 (rf_lb (rf_lb0 z0) g len.toNat (85 + (in_tm g 124 len.toNat).toNat)) with k | k
    · omega
    · exfalso
      rcases Nat.eq_zero_or_pos (in_tm g 124 len.toNat).toNat with k0 | k0
      · rw [k0] at f4 f2 k
        have e0 : rS (rf_lb (rf_lb0 z0) g len.toNat) 0 = 0 := rfl
        omega
      · have g2 := ht.2.2.2.2.2.2.2.1 ((in_tm g 124 len.toNat).toNat - 1) (by omega)
        have s := rS_s (rf_lb (rf_lb0 z0) g len.toNat) ((in_tm g 124 len.toNat).toNat - 1)
        rw [show (in_tm g 124 len.toNat).toNat - 1 + 1 = (in_tm g 124 len.toNat).toNat by omega] at s
        exact b3 _ (by omega) (by omega) g2
  obtain ⟨a, b, c, d, e, ⟨f1, f2, f3, f4, f5⟩, g1, g2, g3, g4⟩ := ht
  have hP : bk_P (tb_B len g) = (in_tm g 124 len.toNat).toNat + 1 := by
    show (in_tm g 124 len.toNat + 1).toNat = _
    have := in_tm_b g 124 len.toNat
    omega
  have hm : bk_m (tb_B len g) = (tb_z g len.toNat).toNat := rfl
  have hX : bk_tx (tb_B len g) = tb_X g len.toNat := rfl
  have hn : bk_n (tb_B len g) = wd_cnt (tb_X g len.toNat) (tb_z g len.toNat).toNat + 1 := rfl
  have hfr : bk_fr (tb_B len g) = va_up (tb_F g len.toNat) ((in_tm g 124 len.toNat).toNat + 1) (tb_w g len.toNat + 1) := by
    rw [← hP]; rfl
  have hfo : ∀ p, p ≤ (in_tm g 124 len.toNat).toNat → bk_fr (tb_B len g) p = tb_F g len.toNat p := fun p hp => by rw [hfr, va_up_ne _ _ (by omega)]
  have hfl : bk_fr (tb_B len g) ((in_tm g 124 len.toNat).toNat + 1) = bk_n (tb_B len g) := by rw [hfr, va_up_self, hw, hn]; rfl
  have hk9 : ∀ j, 0 ≤ bk_kd (tb_B len g) j ∧ bk_kd (tb_B len g) j ≤ 2 := tK_b g len.toNat
  have hx9 := tb_X_b hg len.toNat
  refine ⟨⟨⟨rfl, rfl⟩, htx.1, ⟨by omega, by rw [hP]; omega⟩, fun p hp => ?_, fun p hp => ?_, ?_, fun p hp k hk => ?_, fun p hp => ?_, ⟨fun p hp => ?_, ?_⟩, htx.2.1, fun p hp => ?_, fun j _ => hx9 j⟩, ⟨htx.2.2, hk9, fun j => ?_, hx9⟩, hp9⟩
  · obtain ⟨e1, e2⟩ := e p (by omega)
    exact ⟨e1, by rw [← e1]; exact e2⟩
  · obtain ⟨t1, t2, t3⟩ := hte (p := p) (by omega)
    by_cases k : p = (in_tm g 124 len.toNat).toNat
    · rw [k] at t1 ⊢; exact ⟨hlast, by omega⟩
    · have := f1 p (by omega); omega
  · rw [hP, rS_s, hm]; omega
  · rw [hX]; exact g1 p (by omega) k hk
  · rw [hX]; exact g2 p (by omega)
  · rw [hfo p (by omega), hX]; exact g3 p (by omega)
  · rw [hP]; exact hfl
  · by_cases k : p = (in_tm g 124 len.toNat).toNat
    · rw [k, hfl, hfo _ (Nat.le_refl _), hn]; omega
    · rw [hfo _ (by omega), hfo _ (by omega)]; exact g4 p (by omega)
  · rw [hfr]
    have k1 := tF_b g len.toNat j
    have k2 := wd_cnt_b (tb_X g len.toNat) (tb_z g len.toNat).toNat
    by_cases k : j = (in_tm g 124 len.toNat).toNat + 1
    · rw [k, va_up_self]; omega
    · rw [va_up_ne _ _ k]; omega
theorem km_0 {g : Nat → Int} {len : Int} (h1 : ∀ j : Nat, (j : Int) < len → ¬ (sy_takes (iS g 0 j) (g j)).1 = 0) (h9 : len ≤ 100) : ∀ i : Nat, (i : Int) ≤ len → (iS g 0 i).2.1 = 0 ∧ ∀ j, j < i → ¬ g j = 35 ∧ ¬ g j = 62 ∧ ¬ g j = 124
  | 0, _ => ⟨rfl, fun j hj => by omega⟩
  | i + 1, hi => by
    obtain ⟨k1, k2⟩ := km_0 h1 h9 i (by omega)
    have ht := (tb_all (Or.inl rfl) (fun _ => 0) i (by omega) (fun j hj => h1 j (by omega))).1.1
    rcases ta_s ht (h1 i (by omega)) with ⟨c1, c2, _⟩ | ⟨c1, c2, c3⟩
    · exact absurd k1 c2
    · have e : (iS g 0 (i + 1)).2.1 = 0 := by
        show (sy_takes (iS g 0 i) (g i)).2.2.1 = 0
        omega
      refine ⟨e, fun j hj => ?_⟩
      by_cases ej : j = i
      · rw [ej]; omega
      · exact k2 j (by omega)
theorem tx_id {g : Nat → Int} : ∀ i : Nat, (∀ j, j < i → ¬ g j = 35 ∧ ¬ g j = 62 ∧ ¬ g j = 124) → tb_z g i = i ∧ in_tm g 124 i = 0 ∧ (∀ j, j < i → tb_X g i j = g j) ∧ ∀ p, tb_F g i p = 0
  | 0, _ => ⟨rfl, rfl, fun j hj => by omega, fun _ => rfl⟩
  | i + 1, h => by
    obtain ⟨a1, a2, a3, a4⟩ := tx_id i fun j hj => h j (by omega)
    obtain ⟨b1, b2, b3⟩ := h i (by omega)
    refine ⟨by rw [tz_n (by omega)]; omega, by rw [in_tm_0 (c := 124) b3]; exact a2, fun j hj => ?_, fun p => ?_⟩
    · show (if g i = 35 ∨ g i = 62 then tb_X g i else va_up (tb_X g i) (tb_z g i).toNat (if g i = 124 then 32 else g i)) j = _
      rw [if_neg (by omega), if_neg b3, a1, Int.toNat_natCast]
      by_cases e : j = i
      · rw [e, va_up_self]
      · rw [va_up_ne _ _ e]; exact a3 j (by omega)
    · show (if g i = 124 then _ else tb_F g i) p = 0
      rw [if_neg b3]; exact a4 p
/-- a word list that was taken -/
theorem text_ok {len : Int} {g : Nat → Int} (h0 : 0 ≤ len ∧ len ≤ 100) (h : in_whole len g 0 = 1) : TX g len.toNat ∧ in_tm g 32 len.toNat = wd_cnt g len.toNat ∧ wd_cnt g len.toNat ≤ 11 := by
  obtain ⟨h1, h2, h3⟩ := wh_all h0.1 h
  obtain ⟨ht, hw⟩ := tb_all (Or.inl rfl) (fun _ => 0) len.toNat (by omega) (fun j hj => h1 j (by omega))
  obtain ⟨k1, k2⟩ := km_0 h1 h0.2 len.toNat (by omega)
  obtain ⟨a1, a2, a3, a4⟩ := tx_id len.toNat k2
  have htx := ta_tx ht.1 h2 h3
  have c := ht.2.2.1
  rw [a1, Int.toNat_natCast] at htx hw c
  rw [a2] at c
  have c1 := c.1
  have c2 := c.2
  rw [ct_c len.toNat a3] at hw c1
  have c1 : (iS g 0 len.toNat).2.2.2.1 = (wd_cnt g len.toNat : Int) - tb_F g len.toNat 0 + 1 := c1
  rw [a4] at c1
  refine ⟨⟨⟨htx.1.1, fun j q1 q2 => ?_⟩, fun j q1 q2 => ?_, fun j q => ?_⟩, ?_, by omega⟩
  · obtain ⟨r1, r2, r3⟩ := htx.1.2 j q1 (by rw [a3 j q1]; exact q2)
    rw [a3 _ r2] at r3
    exact ⟨r1, r2, r3⟩
  · obtain ⟨r1, r2, r3⟩ := htx.2.1 j q1 (by rw [a3 j q1]; exact q2)
    rw [a3 _ r1] at r2
    refine ⟨r1, r2, ?_⟩
    rcases r3 with r | ⟨r, r'⟩
    · exact Or.inl r
    · rw [a3 _ r] at r'; exact Or.inr ⟨r, r'⟩
  · obtain ⟨i, r1, r2, r3⟩ := htx.2.2 j q
    exact ⟨i, r1, r2, by rw [← a3 i (by omega)]; exact r3⟩
  · unfold tb_w at hw; omega
