/-! ===== pure: the class's splices as splices of texts with blanks ===== -/
theorem sp_spl {tx co co' : Nat → Int} {m a b c : Nat} (hab : a ≤ b) (hb : b ≤ m) (hc : ∀ j, j < c → co' j = co j) : SP (xt tx m) co (xt (wd_spl m tx co' a b c) (m - (b - a) + c)) (m + 1) a b c := by
  refine ⟨fun j hj => ?_, fun j hj => ?_, fun j hj => ?_⟩
  · rw [xt_i (by omega), xt_i (by omega), wd_spl_at _ _ _ hab hb, if_pos hj]
  · rw [xt_i (by omega), wd_spl_at _ _ _ hab hb, if_neg (by omega), if_pos (by omega), show a + j - a = j by omega]; exact hc j hj
  · rcases Nat.lt_or_ge (b + j) m with k | k
    · rw [xt_i (by omega), xt_i k, wd_spl_at _ _ _ hab hb, if_neg (by omega), if_neg (by omega), if_pos (by omega)]; exact congrArg _ (by omega)
    · rw [xt_o (by omega), xt_o k]
/-- words put in behind a word, with a blank before them -/
theorem sp_ins {tx co co' : Nat → Int} {m x c : Nat} (hx : x ≤ m) (hb : xt tx m x = 32) (h0 : co' 0 = 32) (hc : ∀ j, j + 1 < c → co' (j + 1) = co j) (hl : co (c - 1) = 32) (hc1 : 1 ≤ c) : SP (xt tx m) co (xt (wd_spl m tx co' x x c) (m - (x - x) + c)) (m + 1) (x + 1) (x + 1) c := by
  have e : ∀ j, j < m + c → wd_spl m tx co' x x c j = if j < x then tx j else if j < x + c then co' (j - x) else tx (j - c) := fun j hj => by
    rw [wd_spl_at _ _ _ (Nat.le_refl _) hx]
    by_cases k : j < x
    · rw [if_pos k, if_pos k]
    · rw [if_neg k, if_neg k]
      by_cases k2 : j < x + c
      · rw [if_pos k2, if_pos k2]
      · rw [if_neg k2, if_neg k2, if_pos (by omega)]; exact congrArg _ (by omega)
  rw [show m - (x - x) + c = m + c by omega]
  refine ⟨fun j hj => ?_, fun j hj => ?_, fun j hj => ?_⟩
  · by_cases k : j = x
    · subst k
      rw [hb, xt_i (by omega), e j (by omega), if_neg (by omega), if_pos (by omega), Nat.sub_self]; exact h0
    · rw [xt_i (by omega), xt_i (by omega), e j (by omega), if_pos (by omega)]
  · by_cases k : j + 1 = c
    · rw [show j = c - 1 by omega, hl]
      rcases Nat.lt_or_ge x m with q | q
      · rw [xt_i (by omega), e _ (by omega), if_neg (by omega), if_neg (by omega), show x + 1 + (c - 1) - c = x by omega]
        rw [xt_i q] at hb; exact hb
      · exact xt_o (by omega)
    · rw [xt_i (by omega), e _ (by omega), if_neg (by omega), if_pos (by omega), show x + 1 + j - x = j + 1 by omega]; exact hc j (by omega)
  · rcases Nat.lt_or_ge (x + 1 + j) m with k | k
    · rw [xt_i (by omega), xt_i k, e _ (by omega), if_neg (by omega), if_neg (by omega)]; exact congrArg _ (by omega)
    · rw [xt_o (by omega), xt_o k]
/-- the last words of a paragraph are taken out, with the blank before them -/
theorem sp_del {tx co co' : Nat → Int} {m x y : Nat} (hxy : x ≤ y) (hy : y ≤ m) (hx : xt tx m x = 32) (hb : xt tx m y = 32) : SP (xt tx m) co (xt (wd_spl m tx co' x y 0) (m - (y - x) + 0)) (m + 1) (x + 1) (y + 1) 0 := by
  refine ⟨fun j hj => ?_, fun j hj => by omega, fun j hj => ?_⟩
  · by_cases k : j = x
    · subst k
      rw [hx]
      rcases Nat.lt_or_ge y m with q | q
      · rw [xt_i (by omega), wd_spl_at _ _ _ hxy hy, if_neg (by omega), if_neg (by omega), if_pos (by omega), show j - 0 - j + y = y by omega]
        rw [xt_i q] at hb; exact hb
      · exact xt_o (by omega)
    · rw [xt_i (by omega), xt_i (by omega), wd_spl_at _ _ _ hxy hy, if_pos (by omega)]
  · rcases Nat.lt_or_ge (y + 1 + j) m with k | k
    · rw [xt_i (by omega), xt_i k, wd_spl_at _ _ _ hxy hy, if_neg (by omega), if_neg (by omega), if_pos (by omega)]; exact congrArg _ (by omega)
    · rw [xt_o (by omega), xt_o k]
theorem spl_b {tx co : Nat → Int} {m a b c : Nat} (hab : a ≤ b) (hb : b ≤ m) (h1 : ∀ j, 0 ≤ tx j ∧ tx j < 128) (h2 : ∀ j, 0 ≤ co j ∧ co j < 128) (j : Nat) : 0 ≤ wd_spl m tx co a b c j ∧ wd_spl m tx co a b c j < 128 := by
  rw [wd_spl_at _ _ _ hab hb]
  split
  · exact h1 _
  · split
    · exact h2 _
    · split
      · exact h1 _
      · omega
/-- the class's book after a splice, in one paragraph -/
theorem rx_spl {B : bk_T} {z z' co co' : Nat → Int} {p a b x y c : Nat} (h : RX B z) (hx9 : BX B) (hp : p < bk_P B) (hab : a ≤ b) (hbm : b ≤ bk_m B) (hyx : y - x = b - a) (hxy : x ≤ y) (hy : (y : Int) ≤ z (85 + p) + 1)
    (ha : bd (xt (bk_tx B) (bk_m B)) (rS z p + x)) (hb : bd (xt (bk_tx B) (bk_m B)) (rS z p + y)) (hc : c = 0 ∨ EX co c) (hco : ∀ j, 0 ≤ co' j ∧ co' j < 128)
    (hN : SP (xt (bk_tx B) (bk_m B)) co (xt (wd_spl (bk_m B) (bk_tx B) co' a b c) (bk_m B - (b - a) + c)) (bk_m B + 1) (rS z p + x) (rS z p + y) c)
    (h1 : 1 ≤ z (85 + p) - ((y : Int) - x) + c)
    (b5 : bk_fr B (p + 1) - bk_fr B p + ((wd_cnt (wd_spl (bk_m B) (bk_tx B) co' a b c) (bk_m B - (b - a) + c) + 1 : Nat) - (bk_n B : Int)) ≤ 24)
    (z0 : z' 0 = z 0) (z7 : ∀ j, j < bk_P B → z' (75 + j) = z (75 + j)) (z8 : ∀ j, j < bk_P B → ¬ j = p → z' (85 + j) = z (85 + j)) (z9 : z' (85 + p) = z (85 + p) - ((y : Int) - x) + c)
    (zo : ∀ j, j < bk_P B → ¬ j = p → ∀ k : Nat, (k : Int) < z (85 + j) → z' (95 + 360 * j + k) = z (95 + 360 * j + k)) (zp : ∀ k : Nat, (k : Int) < z' (85 + p) → z' (95 + 360 * p + k) = xt (wd_spl (bk_m B) (bk_tx B) co' a b c) (bk_m B - (b - a) + c) (rS z p + k)) : RX (bk_spl B p a b co' c) z' := by
  refine rx_sp h hp hxy hy ha hb hc hN ?_ h1 ⟨rfl, rfl⟩ rfl (fun _ => rfl) (fun j hj => ?_) b5 (spl_b hab hbm hx9.2.2.2 hco) z0 z7 z8 z9 zo zp
  · show bk_m B - (b - a) + c + 1 = _
    omega
  · show bk_mv (bk_fr B) p _ (bk_P B + 1) j = _
    unfold bk_mv
    by_cases k : p + 1 ≤ j
    · rw [if_pos ⟨k, by omega⟩, if_pos k]; rfl
    · rw [if_neg (fun q => k q.1), if_neg k]
