/-! ===== pure: split ===== -/
theorem df_7 {z : Nat → Int} {q x P L j : Nat} (hP : P ≤ 9) (hj : j ≤ P) : DF z q x P L (75 + j) = if j ≤ q then z (75 + j) else if j = q + 1 then (if z (75 + q) = 1 then 0 else z (75 + q)) else z (75 + (j - 1)) := by
  unfold DF
  rw [if_neg (show ¬ 75 + j = 0 by omega), if_neg (show ¬ 75 + j = 85 + q by omega), if_neg (show ¬ 75 + j = 86 + q by omega)]
  by_cases c : j = q + 1
  · rw [if_pos (show 75 + j = 76 + q by omega), if_neg (show ¬ j ≤ q by omega), if_pos c]
  rw [if_neg (show ¬ 75 + j = 76 + q by omega), if_neg (show ¬ (95 + 360 * (q + 1) ≤ 75 + j ∧ 75 + j < 95 + 360 * (q + 1) + (L - x)) by omega), if_neg c]
  unfold rf_pu
  by_cases d : j ≤ q
  · rw [if_pos d, if_neg (show ¬ (75 + (q + 1) + 1 ≤ 75 + j ∧ 75 + j ≤ 75 + P) by omega), if_neg (show ¬ (85 + (q + 1) + 1 ≤ 75 + j ∧ 75 + j ≤ 85 + P) by omega), if_neg (show ¬ (95 + 360 * (q + 1 + 1) ≤ 75 + j ∧ 75 + j < 95 + 360 * (P + 1)) by omega)]
  · rw [if_neg d, if_pos (show 75 + (q + 1) + 1 ≤ 75 + j ∧ 75 + j ≤ 75 + P by omega)]; exact congrArg _ (by omega)
theorem df_8 {z : Nat → Int} {q x P L j : Nat} (hP : P ≤ 9) (hq : q < P) (hj : j ≤ P) : DF z q x P L (85 + j) = if j < q then z (85 + j) else if j = q then (x : Int) - 1 else if j = q + 1 then (L : Int) - x else z (85 + (j - 1)) := by
  unfold DF
  rw [if_neg (show ¬ 85 + j = 0 by omega)]
  by_cases c0 : j = q
  · rw [if_pos (show 85 + j = 85 + q by omega), if_neg (show ¬ j < q by omega), if_pos c0]
  rw [if_neg (show ¬ 85 + j = 85 + q by omega), if_neg c0]
  by_cases c : j = q + 1
  · rw [if_pos (show 85 + j = 86 + q by omega), if_neg (show ¬ j < q by omega), if_pos c]
  rw [if_neg (show ¬ 85 + j = 86 + q by omega), if_neg c, if_neg (show ¬ (95 + 360 * (q + 1) ≤ 85 + j ∧ 85 + j < 95 + 360 * (q + 1) + (L - x)) by omega)]
  by_cases d : j < q
  · rw [if_pos d, if_neg (show ¬ 85 + j = 76 + q by omega)]
    unfold rf_pu
    rw [if_neg (show ¬ (75 + (q + 1) + 1 ≤ 85 + j ∧ 85 + j ≤ 75 + P) by omega), if_neg (show ¬ (85 + (q + 1) + 1 ≤ 85 + j ∧ 85 + j ≤ 85 + P) by omega), if_neg (show ¬ (95 + 360 * (q + 1 + 1) ≤ 85 + j ∧ 85 + j < 95 + 360 * (P + 1)) by omega)]
  · rw [if_neg d, if_neg (show ¬ 85 + j = 76 + q by omega)]
    unfold rf_pu
    rw [if_neg (show ¬ (75 + (q + 1) + 1 ≤ 85 + j ∧ 85 + j ≤ 75 + P) by omega), if_pos (show 85 + (q + 1) + 1 ≤ 85 + j ∧ 85 + j ≤ 85 + P by omega)]; exact congrArg _ (by omega)
theorem df_9 {z : Nat → Int} {q x P L j k : Nat} (hP : P ≤ 9) (hq : q < P) (hL : L ≤ 359) (hj : j ≤ P) (hk : k < 360) : DF z q x P L (95 + 360 * j + k) = if j ≤ q then z (95 + 360 * j + k) else if j = q + 1 then (if k < L - x then z (95 + 360 * q + x + k) else z (95 + 360 * j + k)) else z (95 + 360 * (j - 1) + k) := by
  unfold DF
  rw [if_neg (show ¬ 95 + 360 * j + k = 0 by omega), if_neg (show ¬ 95 + 360 * j + k = 85 + q by omega), if_neg (show ¬ 95 + 360 * j + k = 86 + q by omega), if_neg (show ¬ 95 + 360 * j + k = 76 + q by omega)]
  by_cases c : j = q + 1
  · rw [if_neg (show ¬ j ≤ q by omega), if_pos c]
    by_cases d : k < L - x
    · rw [if_pos (show 95 + 360 * (q + 1) ≤ 95 + 360 * j + k ∧ 95 + 360 * j + k < 95 + 360 * (q + 1) + (L - x) by omega), if_pos d]; exact congrArg _ (by omega)
    · rw [if_neg (show ¬ (95 + 360 * (q + 1) ≤ 95 + 360 * j + k ∧ 95 + 360 * j + k < 95 + 360 * (q + 1) + (L - x)) by omega), if_neg d]
      unfold rf_pu
      rw [if_neg (by omega), if_neg (by omega), if_neg (by omega)]
  · rw [if_neg c, if_neg (show ¬ (95 + 360 * (q + 1) ≤ 95 + 360 * j + k ∧ 95 + 360 * j + k < 95 + 360 * (q + 1) + (L - x)) by omega)]
    unfold rf_pu
    rw [if_neg (show ¬ (75 + (q + 1) + 1 ≤ 95 + 360 * j + k ∧ 95 + 360 * j + k ≤ 75 + P) by omega), if_neg (show ¬ (85 + (q + 1) + 1 ≤ 95 + 360 * j + k ∧ 95 + 360 * j + k ≤ 85 + P) by omega)]
    by_cases d : j ≤ q
    · rw [if_pos d, if_neg (by omega)]
    · rw [if_neg d, if_pos (by omega)]; exact congrArg _ (by omega)
theorem rS_dv {z w : Nat → Int} {P q x L : Nat} (hq : q < P) (hL : z (85 + q) = L) (h1 : 1 ≤ x) (hx : x < L) (h8 : ∀ j, j ≤ P → w (85 + j) = if j < q then z (85 + j) else if j = q then (x : Int) - 1 else if j = q + 1 then (L : Int) - x else z (85 + (j - 1))) : (∀ j, j ≤ q → rS w j = rS z j) ∧ rS w (q + 1) = rS z q + x ∧ ∀ d, q + 1 + d ≤ P → rS w (q + 1 + d + 1) = rS z (q + 1 + d) := by
  have s1 : ∀ j, j ≤ q → rS w j = rS z j := fun j hj => rS_c j fun i hi => by rw [h8 i (by omega), if_pos (by omega)]
  have s2 : rS w (q + 1) = rS z q + x := by
    rw [rS_s, s1 q (by omega), h8 q (by omega), if_neg (by omega), if_pos rfl]; omega
  refine ⟨s1, s2, fun d => ?_⟩
  induction d with
  | zero =>
    intro _
    have e : q + 1 + 0 = q + 1 := rfl
    rw [e, rS_s w (q + 1), s2, h8 (q + 1) (by omega), if_neg (by omega), if_neg (by omega), if_pos rfl, rS_s z q, hL]; omega
  | succ d ih =>
    intro hd
    have := ih (by omega)
    have e : q + 1 + (d + 1) = q + 1 + d + 1 := rfl
    rw [e, rS_s w (q + 1 + d + 1), this, h8 (q + 1 + d + 1) (by omega), if_neg (by omega), if_neg (by omega), if_neg (by omega), rS_s z (q + 1 + d)]
    rfl
theorem spl_fr {B : bk_T} {q : Nat} {k : Int} (hn : bk_fr B (bk_P B) = bk_n B) (hq : q < bk_P B) {p : Nat} (hp : p ≤ bk_P B + 1) : bk_fr (bk_split B q k) p = if p ≤ q then bk_fr B p else if p = q + 1 then bk_fr B q + k else bk_fr B (p - 1) := by
  show va_up (ji_fill (bk_sf B q k) (bk_P B + 1)) (bk_P B + 1) (bk_n B) p = _
  by_cases c : p = bk_P B + 1
  · rw [c, va_up_self, if_neg (by omega), if_neg (by omega), Nat.add_sub_cancel, hn]
  · rw [va_up_ne _ _ c]
    unfold ji_fill bk_sf
    rw [if_pos (by omega)]
theorem spl_kd {B : bk_T} {q : Nat} {k : Int} {p : Nat} (hp : p < bk_P B + 1) : bk_kd (bk_split B q k) p = bk_sk B q p := by
  show ji_fill (bk_sk B q) (bk_P B + 1) p = _
  unfold ji_fill
  rw [if_pos (by omega)]
theorem rx_fn {B : bk_T} {z : Nat → Int} (h : RX B z) : bk_fr B (bk_P B) = bk_n B := by
  obtain ⟨a1, a2, a3, a4, a5, a6, a7, a8, a9, a11, a12⟩ := h
  rw [a9 _ (Nat.le_refl _), a6, xt_n, a1.1]
theorem rx_dv {B : bk_T} {z w : Nat → Int} {q x L : Nat} {k : Int} (h : RX B z) (hP : bk_P B ≤ 9) (hq : q < bk_P B) (hL : z (85 + q) = L) (h2 : 2 ≤ x) (hx : x < L) (hL9 : L ≤ 359) (hk : 1 ≤ k ∧ k < bk_fr B (q + 1) - bk_fr B q) (hc : bk_fr B q + k = wd_cnt (xt (bk_tx B) (bk_m B)) (rS z q + x)) (hb : xt (bk_tx B) (bk_m B) (rS z q + x - 1) = 32) (hw : ∀ j, (j = 0 ∨ 75 ≤ j) → w j = DF z q x (bk_P B) L j) : RX (bk_split B q k) w := by
  have hfn := rx_fn h
  obtain ⟨a1, a2, ⟨a3, a3'⟩, a4, a5, a6, a7, a8, a9, a11, a12⟩ := h
  have w7 : ∀ j, j ≤ bk_P B → w (75 + j) = _ := fun j hj => (hw (75 + j) (by omega)).trans (df_7 hP hj)
  have w8 : ∀ j, j ≤ bk_P B → w (85 + j) = _ := fun j hj => (hw (85 + j) (by omega)).trans (df_8 hP hq hj)
  have w9 : ∀ j k, j ≤ bk_P B → k < 360 → w (95 + 360 * j + k) = _ := fun j k hj hk => (hw (95 + 360 * j + k) (by omega)).trans (df_9 hP hq hL9 hj hk)
  obtain ⟨s1, s2, s3⟩ := rS_dv hq hL (by omega) hx w8
  have s4 : ∀ p, q + 1 < p → p ≤ bk_P B + 1 → rS w p = rS z (p - 1) := fun p h1 h2 => by
    have := s3 (p - q - 2) (by omega)
    rw [show q + 1 + (p - q - 2) + 1 = p by omega, show q + 1 + (p - q - 2) = p - 1 by omega] at this; exact this
  have hl9 : ∀ p, p < bk_P B → z (85 + p) ≤ 359 := fun p hp => ((rb_rx ⟨a1, a2, ⟨a3, a3'⟩, a4, a5, a6, a7, a8, a9, a11, a12⟩).1.2.2.2.2.1 p hp).2
  refine ⟨a1, a2, ⟨⟨?_, ?_⟩, ?_⟩, fun p hp => ?_, fun p hp => ?_, ?_, fun p hp i hi => ?_, fun p hp => ?_, fun p hp => ?_, fun p hp => ?_, a12⟩
  · show 1 ≤ bk_P B + 1; omega
  · show bk_P B + 1 ≤ 10; omega
  · show w 0 = ((bk_P B + 1 : Nat) : Int)
    rw [hw 0 (Or.inl rfl)]; unfold DF; rw [if_pos rfl]; omega
  · have hp' : p < bk_P B + 1 := hp
    rw [spl_kd hp', w7 p (by omega)]
    unfold bk_sk
    by_cases c1 : p ≤ q
    · rw [if_pos c1, if_pos c1]; exact a4 p (by omega)
    rw [if_neg c1, if_neg c1]
    by_cases c2 : p = q + 1
    · have a := a4 q hq
      rw [if_pos c2, if_pos c2, a.1]
      refine ⟨rfl, ?_⟩
      split <;> omega
    · rw [if_neg c2, if_neg c2]; exact a4 (p - 1) (by omega)
  · have hp' : p < bk_P B + 1 := hp
    rw [w8 p (by omega)]
    by_cases c1 : p < q
    · rw [if_pos c1]; exact a5 p (by omega)
    rw [if_neg c1]
    by_cases c2 : p = q
    · rw [if_pos c2]; omega
    rw [if_neg c2]
    by_cases c3 : p = q + 1
    · rw [if_pos c3]; omega
    · rw [if_neg c3]; exact a5 (p - 1) (by omega)
  · show rS w (bk_P B + 1) = bk_m B + 1
    rw [s4 _ (by omega) (by omega), Nat.add_sub_cancel]; exact a6
  · have hp' : p < bk_P B + 1 := hp
    show xt (bk_tx B) (bk_m B) (rS w p + i) = w (95 + 360 * p + i)
    rw [w8 p (by omega)] at hi
    by_cases c1 : p < q
    · rw [if_pos c1] at hi
      have := hl9 p (by omega)
      rw [w9 p i (by omega) (by omega), if_pos (by omega), s1 p (by omega)]; exact a7 p (by omega) i hi
    rw [if_neg c1] at hi
    by_cases c2 : p = q
    · rw [if_pos c2] at hi
      rw [w9 p i (by omega) (by omega), if_pos (by omega), s1 p (by omega)]; exact a7 p (by omega) i (by rw [c2, hL]; omega)
    rw [if_neg c2] at hi
    by_cases c3 : p = q + 1
    · rw [if_pos c3] at hi
      rw [w9 p i (by omega) (by omega), if_neg (by omega), if_pos c3, if_pos (by omega), c3, s2]
      have := a7 q hq (x + i) (by omega)
      rw [Nat.add_assoc, this]; exact congrArg _ (by omega)
    · rw [if_neg c3] at hi
      have := hl9 (p - 1) (by omega)
      rw [w9 p i (by omega) (by omega), if_neg (by omega), if_neg c3, s4 p (by omega) (by omega)]; exact a7 (p - 1) (by omega) i hi
  · have hp' : p < bk_P B + 1 := hp
    show xt (bk_tx B) (bk_m B) (rS w p + (w (85 + p)).toNat) = 32
    rw [w8 p (by omega)]
    by_cases c1 : p < q
    · rw [if_pos c1, s1 p (by omega)]; exact a8 p (by omega)
    rw [if_neg c1]
    by_cases c2 : p = q
    · rw [if_pos c2, s1 p (by omega), c2, show rS z q + ((x : Int) - 1).toNat = rS z q + x - 1 by omega]; exact hb
    rw [if_neg c2]
    by_cases c3 : p = q + 1
    · rw [if_pos c3, c3, s2]
      have := a8 q hq
      rw [hL] at this
      rw [show rS z q + x + ((L : Int) - x).toNat = rS z q + (L : Int).toNat by omega]; exact this
    · rw [if_neg c3, s4 p (by omega) (by omega)]; exact a8 (p - 1) (by omega)
  · have hp' : p ≤ bk_P B + 1 := hp
    show bk_fr (bk_split B q k) p = wd_cnt (xt (bk_tx B) (bk_m B)) (rS w p)
    rw [spl_fr hfn hq hp']
    by_cases c1 : p ≤ q
    · rw [if_pos c1, s1 p c1]; exact a9 p (by omega)
    rw [if_neg c1]
    by_cases c2 : p = q + 1
    · rw [if_pos c2, c2, s2]; exact hc
    · rw [if_neg c2, s4 p (by omega) hp']; exact a9 (p - 1) (by omega)
  · have hp' : p < bk_P B + 1 := hp
    rw [spl_fr hfn hq (p := p) (by omega), spl_fr hfn hq (p := p + 1) (by omega)]
    have hq11 := a11 q hq
    by_cases c1 : p + 1 ≤ q
    · rw [if_pos c1, if_pos (by omega)]; exact a11 p (by omega)
    rw [if_neg c1]
    by_cases c2 : p = q
    · rw [if_pos (by omega), if_pos (by omega), c2]; omega
    rw [if_neg (by omega), if_neg (by omega), Nat.add_sub_cancel]
    by_cases c3 : p = q + 1
    · rw [if_pos c3, c3]; omega
    · rw [if_neg c3]
      have := a11 (p - 1) (by omega)
      rw [show p - 1 + 1 = p by omega] at this; exact this
theorem bx_dv {B : bk_T} {w : Nat → Int} {q : Nat} {k : Int} (h : RX (bk_split B q k) w) (hX : BX B) : BX (bk_split B q k) := by
  refine ⟨hX.1, fun j => ?_, fun j => ?_, hX.2.2.2⟩
  · show 0 ≤ ji_fill (bk_sk B q) (bk_P B + 1) j ∧ ji_fill (bk_sk B q) (bk_P B + 1) j ≤ 2
    unfold ji_fill
    by_cases c : (j : Int) < bk_P B + 1
    · rw [if_pos c]; unfold bk_sk
      split
      · exact hX.2.1 _
      · split
        · split
          · omega
          · exact hX.2.1 _
        · exact hX.2.1 _
    · rw [if_neg c]; omega
  · rcases Nat.lt_or_ge (bk_P B + 1) j with c | c
    · show 0 ≤ va_up (ji_fill (bk_sf B q k) (bk_P B + 1)) (bk_P B + 1) (bk_n B) j ∧ va_up (ji_fill (bk_sf B q k) (bk_P B + 1)) (bk_P B + 1) (bk_n B) j ≤ 10000
      rw [va_up_ne _ _ (by omega)]; unfold ji_fill; rw [if_neg (by omega)]; omega
    · have h9 := h.2.2.2.2.2.2.2.2.1 j c
      rw [h9]
      have h1 := wd_cnt_b (xt (bk_tx B) (bk_m B)) (rS w j)
      have h2 := rS_m w (show j ≤ bk_P B + 1 from c)
      have h3 : rS w (bk_P B + 1) = bk_m B + 1 := h.2.2.2.2.2.1
      have h4' : bk_m (bk_split B q k) ≤ 3600 := rb_m (rb_rx h).1
      have h4 : bk_m B ≤ 3600 := h4'
      show (0 : Int) ≤ wd_cnt (xt (bk_tx B) (bk_m B)) (rS w j) ∧ (wd_cnt (xt (bk_tx B) (bk_m B)) (rS w j) : Int) ≤ 10000
      omega
