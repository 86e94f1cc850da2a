/-! ===== pure: a text within a row, and its lines ===== -/
/-- a text of length L that begins at place b of a row -/
def sl_ok (tx : Nat → Int) (m b L : Nat) (C : Int → Int) : Prop := b + L ≤ m ∧ (∀ k : Nat, k < L → C k = tx (b + k)) ∧ (b = 0 ∨ (0 < b ∧ tx (b - 1) = 32)) ∧ (b + L = m ∨ (b + L < m ∧ tx (b + L) = 32))
theorem sl_f {tx : Nat → Int} {m b L : Nat} {C : Int → Int} (h : sl_ok tx m b L C) : wd_starts m tx (wd_cnt tx b) = b := by
  obtain ⟨h1, h2, h3, h4⟩ := h
  rcases h3 with rfl | ⟨q1, q2⟩
  · exact st_0 tx m
  · have e := st_b (m := m) (i := b - 1) (by omega) q2
    have e2 := ct_b q2
    rw [show b - 1 + 1 = b by omega] at e2
    rw [← e2] at e
    rw [e]; omega
theorem sl_g {tx : Nat → Int} {m b L : Nat} {C : Int → Int} (h : sl_ok tx m b L C) : wd_starts m tx (wd_cnt tx (b + L) + 1) = b + L + 1 := by
  obtain ⟨h1, h2, h3, h4⟩ := h
  rcases h4 with q | ⟨q1, q2⟩
  · have e := st_n tx m
    rw [← q] at e ⊢
    rw [e]; omega
  · have e := st_b q1 q2
    rw [e]; omega
theorem sl_gn {tx : Nat → Int} {m b L : Nat} {C : Int → Int} (h : sl_ok tx m b L C) : wd_cnt tx (b + L) ≤ wd_cnt tx m := ct_m h.1
/-- a word of the text -/
theorem sl_w {tx : Nat → Int} {m b L : Nat} {C : Int → Int} (ht : tw_ok tx m) (h : sl_ok tx m b L C) {c : Nat} (hc : wd_cnt tx b ≤ c ∧ c ≤ wd_cnt tx (b + L)) : (b : Int) ≤ wd_starts m tx c ∧ wd_starts m tx (c + 1) ≤ b + L + 1 ∧ wd_starts m tx c + 2 ≤ wd_starts m tx (c + 1) ∧ rf_WE L C (wd_starts m tx c - b) = wd_starts m tx (c + 1) - 1 - b := by
  have hn := sl_gn h
  have e1 := sl_f h
  have e2 := sl_g h
  have g1 := st_le ht hc.1 (by omega)
  have g2 := st_le ht (x := c + 1) (y := wd_cnt tx (b + L) + 1) (by omega) (by omega)
  have g3 := st_mono ht (c := c) (by omega)
  refine ⟨by omega, by omega, g3, ?_⟩
  obtain ⟨x, y, a1, a2, a3, a4, _, _, a5, a6, _⟩ := st_w (tx := tx) (m := m) (c := c) (by omega)
  obtain ⟨h1, h2, h3, h4⟩ := h
  rw [a1, a2]
  rw [a1] at g1 g3
  rw [a2] at g2 g3
  refine WE_eq (by omega) (by omega) (fun i b1 b2 => ?_) ?_
  · obtain ⟨k, rfl⟩ := Int.eq_ofNat_of_zero_le (show 0 ≤ i by omega)
    show ¬ C (k : Int) = 32
    rw [h2 k (by omega)]
    exact a5 (b + k) (by omega) (by omega)
  · by_cases q : y = b + L
    · left; omega
    · right
      rw [show (y : Int) + 1 - 1 - b = ((y - b : Nat) : Int) by omega, h2 (y - b) (by omega), show b + (y - b) = y by omega]
      rcases a6 with r | ⟨_, r⟩
      · omega
      · exact r
theorem wst {m n : Nat} {s : Nat → Int} {k : Nat} (h : k ≤ n) : wd_start m n s (k : Int) = s k := by
  unfold wd_start; rw [if_pos (by omega)]; rfl
theorem wen {m n : Nat} {s : Nat → Int} {k : Nat} (h : k + 1 ≤ n) : wd_end m n s (k : Int) = s (k + 1) - 1 := by
  unfold wd_end; rw [if_pos (by omega), show ((k : Int) + 1).toNat = k + 1 by omega]
/-- where a line ends: the class counts words, the reference characters -/
theorem le_eq {tx : Nat → Int} {m b L : Nat} {C : Int → Int} (ht : tw_ok tx m) (h : sl_ok tx m b L C) {f : Nat} (hf : wd_cnt tx b ≤ f) (ind cols : Int) : ∀ (d k uC uR : Nat), f < k → k + d = wd_cnt tx (b + L) + 1 → d ≤ uC → b + L + 1 - wd_starts m tx k ≤ uR →
    ∃ y : Nat, wd_le m (wd_cnt tx m + 1) (wd_starts m tx) (wd_starts m tx f) (cols - ind) ((wd_cnt tx (b + L) + 1 : Nat) : Int) uC k = y ∧ k ≤ y ∧ y ≤ wd_cnt tx (b + L) + 1 ∧ (if k < wd_cnt tx (b + L) + 1 then rf_le L C (wd_starts m tx f - b) ind cols uR (wd_starts m tx k - 1 - b) else wd_starts m tx k - 1 - b) = wd_starts m tx y - 1 - b
  | 0, k, uC, uR, h1, h2, h3, h4 => by
    refine ⟨k, ?_, by omega, by omega, by rw [if_neg (by omega)]⟩
    cases uC with
    | zero => rfl
    | succ uC => unfold wd_le; rw [if_neg (by omega)]
  | d + 1, k, 0, uR, h1, h2, h3, h4 => by omega
  | d + 1, k, uC + 1, uR, h1, h2, h3, h4 => by
    have hn := sl_gn h
    have e2 := sl_g h
    obtain ⟨w1, w2, w3, w4⟩ := sl_w ht h (c := k) (by omega)
    have g2 := st_le ht (x := k + 1) (y := wd_cnt tx (b + L) + 1) (by omega) (by omega)
    obtain ⟨uR, rfl⟩ : ∃ v, uR = v + 1 := ⟨uR - 1, by omega⟩
    have ew : wd_end m (wd_cnt tx m + 1) (wd_starts m tx) (k : Int) = wd_starts m tx (k + 1) - 1 := wen (by omega)
    have eW : rf_WE L C (wd_starts m tx k - 1 - b + 1) = wd_starts m tx (k + 1) - 1 - b := by
      rw [show wd_starts m tx k - 1 - (b : Int) + 1 = wd_starts m tx k - b by omega]; exact w4
    rw [if_pos (by omega)]
    unfold wd_le rf_le
    rw [ew, eW]
    by_cases c : wd_starts m tx (k + 1) - 1 - wd_starts m tx f ≤ cols - ind
    · rw [if_pos (by omega), if_pos (by omega)]
      obtain ⟨y, y1, y2, y3, y4⟩ := le_eq ht h hf ind cols d (k + 1) uC uR (by omega) (by omega) (by omega) (by omega)
      refine ⟨y, y1, by omega, y3, ?_⟩
      have hiff : wd_starts m tx (k + 1) - 1 - b < (L : Int) ↔ k + 1 < wd_cnt tx (b + L) + 1 := by
        have q := st_iff ht (x := k + 1) (y := wd_cnt tx (b + L) + 1) (by omega) (by omega)
        constructor
        · intro z; exact q.mp (by omega)
        · intro z; have := q.mpr z; omega
      by_cases c2 : k + 1 < wd_cnt tx (b + L) + 1
      · rw [if_pos (hiff.mpr c2)]; rw [if_pos c2] at y4; exact y4
      · rw [if_neg (fun z => c2 (hiff.mp z))]; rw [if_neg c2] at y4; exact y4
    · rw [if_neg (by omega), if_neg (by omega)]
      exact ⟨k, rfl, by omega, by omega, rfl⟩
theorem LE_eq {tx : Nat → Int} {m b L : Nat} {C : Int → Int} (ht : tw_ok tx m) (h : sl_ok tx m b L C) {f : Nat} (hf : wd_cnt tx b ≤ f ∧ f ≤ wd_cnt tx (b + L)) (ind cols : Int) :
    ∃ y : Nat, wd_LE m (wd_cnt tx m + 1) (wd_starts m tx) (f : Int) ((wd_cnt tx (b + L) + 1 : Nat) : Int) (cols - ind) = y ∧ f + 1 ≤ y ∧ y ≤ wd_cnt tx (b + L) + 1 ∧ rf_LE L C (wd_starts m tx f - b) ind cols = wd_starts m tx y - 1 - b := by
  have hn := sl_gn h
  have e2 := sl_g h
  obtain ⟨w1, w2, w3, w4⟩ := sl_w ht h hf
  have g2 := st_le ht (x := f + 1) (y := wd_cnt tx (b + L) + 1) (by omega) (by omega)
  obtain ⟨y, y1, y2, y3, y4⟩ := le_eq ht h hf.1 ind cols (wd_cnt tx (b + L) - f) (f + 1) (((wd_cnt tx (b + L) + 1 : Nat) : Int) - f).toNat ((L : Int) - (wd_starts m tx (f + 1) - 1 - b)).toNat (by omega) (by omega) (by omega) (by omega)
  refine ⟨y, ?_, y2, y3, ?_⟩
  · unfold wd_LE
    rw [wst (by omega)]
    exact y1
  · unfold rf_LE
    rw [w4]
    have q := st_iff ht (x := f + 1) (y := wd_cnt tx (b + L) + 1) (by omega) (by omega)
    by_cases c : f + 1 < wd_cnt tx (b + L) + 1
    · rw [if_pos c] at y4
      rw [if_pos (by have := q.mpr c; omega)]; exact y4
    · rw [if_neg c] at y4
      rw [if_neg (fun z => c (q.mp (by omega)))]; exact y4
