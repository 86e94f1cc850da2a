/-! ===== pure: the lines of a book ===== -/
/-- behind a caret a digit, and then the word's end -/
def ca_ok (tx : Nat → Int) (m : Nat) : Prop := ∀ j, j < m → tx j = 94 → j + 1 < m ∧ (48 ≤ tx (j + 1) ∧ tx (j + 1) ≤ 57) ∧ (j + 2 = m ∨ (j + 2 < m ∧ tx (j + 2) = 32))
theorem ca_w {tx : Nat → Int} {m x y : Nat} (hc : ca_ok tx m) (hy : y ≤ m) (h1 : ∀ i, x ≤ i → i < y → ¬ tx i = 32) (h2 : y = m ∨ (y < m ∧ tx y = 32)) {j : Nat} (hj : x ≤ j ∧ j < y) (h94 : tx j = 94) : j + 2 = y ∧ 48 ≤ tx (j + 1) ∧ tx (j + 1) ≤ 57 := by
  obtain ⟨a1, a2, a3⟩ := hc j (by omega) h94
  refine ⟨?_, a2⟩
  have b1 : j + 1 < y := by
    rcases Nat.lt_or_ge (j + 1) y with q | q
    · exact q
    · have e : y = j + 1 := by omega
      rcases h2 with r | ⟨_, r⟩
      · omega
      · rw [e] at r; omega
  rcases a3 with q | ⟨q1, q2⟩
  · omega
  · rcases Nat.lt_or_ge (j + 2) y with r | r
    · exact absurd q2 (h1 (j + 2) (by omega) r)
    · omega
theorem wd_sg {m : Nat} {tx : Nat → Int} {k : Nat} (h : k < m) : wd_sign m tx (k : Int) = tx k := by
  unfold wd_sign; rw [if_pos (by omega)]; rfl
/-- the note of a word -/
theorem wref {tx : Nat → Int} {m x y c : Nat} (hc : c ≤ wd_cnt tx m) (e1 : wd_starts m tx c = x) (e2 : wd_starts m tx (c + 1) = y + 1) (hxy : x < y) (hy : y ≤ m) (hb : x = 0 ∨ (0 < x ∧ tx (x - 1) = 32)) : wd_ref m (wd_cnt tx m + 1) tx (wd_starts m tx) (c : Int) = if x + 2 ≤ y ∧ tx (y - 2) = 94 then tx (y - 1) - 48 else -1 := by
  unfold wd_ref
  rw [wen (by omega), e2, show (y : Int) + 1 - 1 - 2 = (y : Int) - 2 by omega, show (y : Int) + 1 - 1 - 1 = ((y - 1 : Nat) : Int) by omega, wd_sg (k := y - 1) (by omega)]
  by_cases q : x + 2 ≤ y
  · rw [show (y : Int) - 2 = ((y - 2 : Nat) : Int) by omega, wd_sg (by omega)]
    by_cases r : tx (y - 2) = 94
    · rw [if_pos r, if_pos ⟨q, r⟩]
    · rw [if_neg r, if_neg (fun z => r z.2)]
  · have e : y = x + 1 := by omega
    have hs : ¬ wd_sign m tx ((y : Int) - 2) = 94 := by
      rcases hb with rfl | ⟨b1, b2⟩
      · unfold wd_sign; rw [if_neg (by omega)]; omega
      · rw [show (y : Int) - 2 = ((x - 1 : Nat) : Int) by omega, wd_sg (by omega), b2]; omega
    rw [if_neg hs, if_neg (fun z => q z.1)]
theorem rf_one {tx : Nat → Int} {m b L : Nat} {C : Int → Int} (ht : tw_ok tx m) (hca : ca_ok tx m) (h : sl_ok tx m b L C) {c : Nat} (hc : wd_cnt tx b ≤ c ∧ c ≤ wd_cnt tx (b + L)) {v : Int} (hv : 0 ≤ v ∧ v < 1024) :
    rf_n1 C (wd_starts m tx (c + 1) - 1 - wd_starts m tx c).toNat (wd_starts m tx c - b) v = ly_or v (if 0 ≤ wd_ref m (wd_cnt tx m + 1) tx (wd_starts m tx) (c : Int) ∧ wd_ref m (wd_cnt tx m + 1) tx (wd_starts m tx) (c : Int) < 10 then ly_pow (wd_ref m (wd_cnt tx m + 1) tx (wd_starts m tx) (c : Int)) else 0) := by
  have hn := sl_gn h
  obtain ⟨w1, w2, w3, w4⟩ := sl_w ht h hc
  obtain ⟨x, y, a1, a2, a3, a4, _, _, a5, a6, a7⟩ := st_w (tx := tx) (m := m) (c := c) (by omega)
  have hlt := st_ne ht a3 a4 a6 a7
  rw [wref (by omega) a1 a2 hlt a4 a7]
  rw [a1] at w1 w3
  rw [a2] at w2 w3
  rw [a1, a2]
  obtain ⟨h1, h2, h3, h4⟩ := h
  have hCx : ∀ k : Nat, x ≤ k → k < y → C ((k : Int) - b) = tx k := fun k p q => by
    rw [show (k : Int) - b = ((k - b : Nat) : Int) by omega, h2 (k - b) (by omega), show b + (k - b) = k by omega]
  rw [show ((y : Int) + 1 - 1 - x).toNat = y - x by omega]
  rw [n1_word hv (by omega) (fun i p q r => by
    obtain ⟨k, hk⟩ := Int.eq_ofNat_of_zero_le (show 0 ≤ i + b by omega)
    have hk' : i + (b : Int) = (k : Int) := hk
    rw [show i = (k : Int) - b by omega] at r ⊢
    rw [hCx k (by omega) (by omega)] at r
    have h5 := ca_w hca a4 a5 a6 (j := k) (by omega) r
    refine ⟨by omega, ?_⟩
    rw [show (k : Int) - b + 1 = ((k + 1 : Nat) : Int) - b by omega, hCx (k + 1) (by omega) (by omega)]
    exact h5.2)]
  have e2 : ∀ q : 2 ≤ y - x, C ((x : Int) - b + ((y - x : Nat) : Int) - 2) = tx (y - 2) := fun q => by
    rw [show (x : Int) - b + ((y - x : Nat) : Int) - 2 = ((y - 2 : Nat) : Int) - b by omega]; exact hCx (y - 2) (by omega) (by omega)
  have e1 : C ((x : Int) - b + ((y - x : Nat) : Int) - 1) = tx (y - 1) := by
    rw [show (x : Int) - b + ((y - x : Nat) : Int) - 1 = ((y - 1 : Nat) : Int) - b by omega]; exact hCx (y - 1) (by omega) (by omega)
  by_cases q : x + 2 ≤ y ∧ tx (y - 2) = 94
  · have h5 := ca_w hca a4 a5 a6 (j := y - 2) (by omega) q.2
    rw [show y - 2 + 1 = y - 1 by omega] at h5
    rw [if_pos ⟨by omega, by rw [e2 (by omega)]; exact q.2⟩, e1, if_pos q, if_pos (by omega)]
  · rw [if_neg (fun z => q ⟨by omega, by rw [← e2 z.1]; exact z.2⟩), if_neg q, if_neg (by omega), ly_or_0 hv.1]
theorem rf_many {B : bk_T} {b L : Nat} {C : Int → Int} (hB : bk_n B = wd_cnt (bk_tx B) (bk_m B) + 1 ∧ bk_s B = wd_starts (bk_m B) (bk_tx B)) (ht : tw_ok (bk_tx B) (bk_m B)) (hca : ca_ok (bk_tx B) (bk_m B)) (h : sl_ok (bk_tx B) (bk_m B) b L C) : ∀ (u c : Nat) (v : Int), 0 ≤ v ∧ v < 1024 → wd_cnt (bk_tx B) b ≤ c → c + u ≤ wd_cnt (bk_tx B) (b + L) →
    ly_rf B (u + 1) c v = rf_n1 C (wd_starts (bk_m B) (bk_tx B) (c + u + 1) - 1 - wd_starts (bk_m B) (bk_tx B) c).toNat (wd_starts (bk_m B) (bk_tx B) c - b) v
  | 0, c, v, hv, h1, h2 => by
    rw [rf_one ht hca h ⟨h1, by omega⟩ hv, ← hB.1, ← hB.2]
    rfl
  | u + 1, c, v, hv, h1, h2 => by
    have hn := sl_gn h
    have one := rf_one ht hca h (c := c) ⟨h1, by omega⟩ hv
    obtain ⟨w1, w2, w3, w4⟩ := sl_w ht h (c := c) ⟨h1, by omega⟩
    have g := st_le ht (x := c + 1) (y := c + (u + 1) + 1) (by omega) (by omega)
    have g0 := sl_w ht h (c := c + (u + 1)) ⟨by omega, h2⟩
    have hb : 0 ≤ rf_n1 C (wd_starts (bk_m B) (bk_tx B) (c + 1) - 1 - wd_starts (bk_m B) (bk_tx B) c).toNat (wd_starts (bk_m B) (bk_tx B) c - b) v ∧ rf_n1 C (wd_starts (bk_m B) (bk_tx B) (c + 1) - 1 - wd_starts (bk_m B) (bk_tx B) c).toNat (wd_starts (bk_m B) (bk_tx B) c - b) v < 1024 := by
      rw [one]
      refine ly_or_b hv ?_
      split
      · exact ly_pow_b (by omega)
      · omega
    have e : ly_rf B (u + 1 + 1) c v = ly_rf B (u + 1) ((c + 1 : Nat) : Int) (rf_n1 C (wd_starts (bk_m B) (bk_tx B) (c + 1) - 1 - wd_starts (bk_m B) (bk_tx B) c).toNat (wd_starts (bk_m B) (bk_tx B) c - b) v) := by
      rw [one, ← hB.1, ← hB.2]
      show ly_rf B (u + 1) ((c : Int) + 1) _ = _
      rw [show (c : Int) + 1 = ((c + 1 : Nat) : Int) by omega]
    rw [e, rf_many hB ht hca h u (c + 1) _ hb (by omega) (by omega)]
    rw [show c + 1 + u + 1 = c + (u + 1) + 1 by omega]
    rw [show (wd_starts (bk_m B) (bk_tx B) (c + (u + 1) + 1) - 1 - wd_starts (bk_m B) (bk_tx B) c).toNat = (wd_starts (bk_m B) (bk_tx B) (c + 1) - 1 - wd_starts (bk_m B) (bk_tx B) c).toNat + (1 + (wd_starts (bk_m B) (bk_tx B) (c + (u + 1) + 1) - 1 - wd_starts (bk_m B) (bk_tx B) (c + 1)).toNat) by omega]
    rw [n1_app, n1_app]
    have eb : rf_n1 C 1 (wd_starts (bk_m B) (bk_tx B) c - b + ((wd_starts (bk_m B) (bk_tx B) (c + 1) - 1 - wd_starts (bk_m B) (bk_tx B) c).toNat : Nat)) (rf_n1 C (wd_starts (bk_m B) (bk_tx B) (c + 1) - 1 - wd_starts (bk_m B) (bk_tx B) c).toNat (wd_starts (bk_m B) (bk_tx B) c - b) v) = rf_n1 C (wd_starts (bk_m B) (bk_tx B) (c + 1) - 1 - wd_starts (bk_m B) (bk_tx B) c).toNat (wd_starts (bk_m B) (bk_tx B) c - b) v := by
      refine n1_none 1 _ _ hb.1 (fun i a d q => ?_)
      obtain ⟨x, y, a1, a2, a3, a4, _, _, a5, a6, a7⟩ := st_w (tx := bk_tx B) (m := bk_m B) (c := c) (by omega)
      rw [a1, a2] at a d
      rw [a2] at g
      have hyL : y < b + L := by omega
      rw [show i = ((y - b : Nat) : Int) by omega, h.2.1 (y - b) (by omega), show b + (y - b) = y by omega] at q
      rcases a6 with r | ⟨_, r⟩
      · have := h.1; omega
      · omega
    rw [eb]
    rw [show wd_starts (bk_m B) (bk_tx B) c - (b : Int) + ((wd_starts (bk_m B) (bk_tx B) (c + 1) - 1 - wd_starts (bk_m B) (bk_tx B) c).toNat : Nat) + ((1 : Nat) : Int) = wd_starts (bk_m B) (bk_tx B) (c + 1) - b by omega]
