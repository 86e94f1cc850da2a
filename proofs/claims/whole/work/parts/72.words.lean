/-! ===== pure: words of a text ===== -/
/-- no blank at an end, no two together -/
def tw_ok (tx : Nat → Int) (m : Nat) : Prop := 1 ≤ m ∧ ∀ j, j < m → tx j = 32 → 0 < j ∧ j + 1 < m ∧ ¬ tx (j + 1) = 32
theorem ct_s (tx : Nat → Int) (j : Nat) : wd_cnt tx (j + 1) = wd_cnt tx j + (if tx j = 32 then 1 else 0) := rfl
theorem ct_b {tx : Nat → Int} {j : Nat} (h : tx j = 32) : wd_cnt tx (j + 1) = wd_cnt tx j + 1 := by rw [ct_s, if_pos h]
theorem ct_n {tx : Nat → Int} {j : Nat} (h : ¬ tx j = 32) : wd_cnt tx (j + 1) = wd_cnt tx j := by rw [ct_s, if_neg h]; rfl
theorem ct_m {tx : Nat → Int} {i j : Nat} (h : i ≤ j) : wd_cnt tx i ≤ wd_cnt tx j := by
  induction j with
  | zero => have e : i = 0 := by omega
            subst e; exact Nat.le_refl _
  | succ j ih =>
    by_cases e : i = j + 1
    · subst e; exact Nat.le_refl _
    · have h1 := ih (by omega); rw [ct_s]; omega
theorem ct_eq {tx : Nat → Int} {i j : Nat} (h : i ≤ j) (hn : ∀ k, i ≤ k → k < j → ¬ tx k = 32) : wd_cnt tx j = wd_cnt tx i := by
  induction j with
  | zero => have e : i = 0 := by omega
            subst e; rfl
  | succ j ih =>
    by_cases e : i = j + 1
    · subst e; rfl
    · rw [ct_n (hn j (by omega) (by omega))]; exact ih (by omega) (fun k a b => hn k a (by omega))
theorem ct_lt {tx : Nat → Int} {i j : Nat} (h : i < j) (hb : tx i = 32) : wd_cnt tx i < wd_cnt tx j := by
  have h1 := ct_m (tx := tx) (show i + 1 ≤ j by omega)
  rw [ct_b hb] at h1; omega
theorem wS_at (tx : Nat → Int) : ∀ (j c : Nat), c ≤ wd_cnt tx j → (c = 0 ∧ wd_S tx j c = 0) ∨ ∃ i, i < j ∧ tx i = 32 ∧ wd_cnt tx i + 1 = c ∧ wd_S tx j c = i + 1
  | 0, c, h => Or.inl ⟨by have : wd_cnt tx 0 = 0 := rfl; omega, rfl⟩
  | j + 1, c, h => by
    by_cases hb : tx j = 32
    · have e : wd_S tx (j + 1) = va_up (wd_S tx j) (wd_cnt tx (j + 1)) (j + 1) := if_pos hb
      rw [e]
      by_cases hc : c = wd_cnt tx (j + 1)
      · right
        refine ⟨j, by omega, hb, by rw [hc, ct_b hb], ?_⟩
        rw [hc, va_up_self]
      · have h1 := ct_b hb
        rw [va_up_ne _ _ hc]
        rcases wS_at tx j c (by omega) with q | ⟨i, a1, a2, a3, a4⟩
        · exact Or.inl q
        · exact Or.inr ⟨i, by omega, a2, a3, a4⟩
    · have e : wd_S tx (j + 1) = wd_S tx j := if_neg hb
      rw [e]
      have h1 := ct_n hb
      rcases wS_at tx j c (by omega) with q | ⟨i, a1, a2, a3, a4⟩
      · exact Or.inl q
      · exact Or.inr ⟨i, by omega, a2, a3, a4⟩
theorem st_at {tx : Nat → Int} {m c : Nat} (h : c ≤ wd_cnt tx m) : (c = 0 ∧ wd_starts m tx c = 0) ∨ ∃ i, i < m ∧ tx i = 32 ∧ wd_cnt tx i + 1 = c ∧ wd_starts m tx c = i + 1 := by
  have e : wd_starts m tx c = wd_S tx m c := va_up_ne _ _ (by omega)
  rw [e]; exact wS_at tx m c h
theorem st_0 (tx : Nat → Int) (m : Nat) : wd_starts m tx 0 = 0 := by
  rcases st_at (tx := tx) (m := m) (c := 0) (by omega) with q | ⟨i, _, _, a3, _⟩
  · exact q.2
  · omega
theorem st_n (tx : Nat → Int) (m : Nat) : wd_starts m tx (wd_cnt tx m + 1) = m + 1 := va_up_self _ _ _
theorem st_b {tx : Nat → Int} {m i : Nat} (hi : i < m) (hb : tx i = 32) : wd_starts m tx (wd_cnt tx i + 1) = i + 1 := by
  have h0 := ct_m (tx := tx) (show i + 1 ≤ m by omega)
  rw [ct_b hb] at h0
  rcases st_at h0 with q | ⟨k, a1, a2, a3, a4⟩
  · omega
  · have e : k = i := by
      rcases Nat.lt_trichotomy k i with q | q | q
      · have := ct_lt q a2; omega
      · exact q
      · have := ct_lt q hb; omega
    rw [a4, e]
theorem nb_ex (tx : Nat → Int) (m : Nat) : ∀ (u x : Nat), x + u = m → ∃ y, x ≤ y ∧ y ≤ m ∧ (∀ i, x ≤ i → i < y → ¬ tx i = 32) ∧ (y = m ∨ (y < m ∧ tx y = 32))
  | 0, x, h => ⟨x, by omega, by omega, fun i a b => by omega, Or.inl (by omega)⟩
  | u + 1, x, h => by
    by_cases hb : tx x = 32
    · exact ⟨x, by omega, by omega, fun i a b => by omega, Or.inr ⟨by omega, hb⟩⟩
    · obtain ⟨y, a1, a2, a3, a4⟩ := nb_ex tx m u (x + 1) (by omega)
      refine ⟨y, by omega, a2, fun i a b => ?_, a4⟩
      by_cases e : i = x
      · rw [e]; exact hb
      · exact a3 i (by omega) b
/-- a word, from a place to the one before another -/
theorem st_w {tx : Nat → Int} {m c : Nat} (h : c ≤ wd_cnt tx m) : ∃ x y : Nat, wd_starts m tx c = x ∧ wd_starts m tx (c + 1) = y + 1 ∧ x ≤ y ∧ y ≤ m ∧ wd_cnt tx x = c ∧ wd_cnt tx y = c ∧ (∀ i, x ≤ i → i < y → ¬ tx i = 32) ∧ (y = m ∨ (y < m ∧ tx y = 32)) ∧ (x = 0 ∨ (0 < x ∧ tx (x - 1) = 32)) := by
  have h1 : ∃ x : Nat, x ≤ m ∧ wd_starts m tx c = x ∧ wd_cnt tx x = c ∧ (x = 0 ∨ (0 < x ∧ tx (x - 1) = 32)) := by
    rcases st_at h with ⟨rfl, q⟩ | ⟨i, a1, a2, a3, a4⟩
    · exact ⟨0, by omega, q, rfl, Or.inl rfl⟩
    · exact ⟨i + 1, by omega, a4, by rw [ct_b a2]; exact a3, Or.inr ⟨by omega, a2⟩⟩
  obtain ⟨x, b1, b2, b3, b4⟩ := h1
  obtain ⟨y, a1, a2, a3, a4⟩ := nb_ex tx m (m - x) x (by omega)
  have hy : wd_cnt tx y = c := by rw [ct_eq a1 a3]; exact b3
  refine ⟨x, y, b2, ?_, a1, a2, b3, hy, a3, a4, b4⟩
  rcases a4 with q | ⟨q1, q2⟩
  · have e := st_n tx m
    rw [q] at hy
    rw [hy] at e
    rw [e, q]
  · have e := st_b q1 q2
    rw [hy] at e
    exact e
/-- words are not empty -/
theorem st_ne {tx : Nat → Int} {m x y : Nat} (ht : tw_ok tx m) (hxy : x ≤ y) (hy : y ≤ m) (h1 : y = m ∨ (y < m ∧ tx y = 32)) (h2 : x = 0 ∨ (0 < x ∧ tx (x - 1) = 32)) : x < y := by
  rcases Nat.lt_or_ge x y with q | q
  · exact q
  · have e : x = y := by omega
    subst e
    rcases h2 with rfl | ⟨b1, b2⟩
    · rcases h1 with q1 | ⟨q1, q2⟩
      · have := ht.1; omega
      · have := ht.2 0 q1 q2; omega
    · have h3 := ht.2 (x - 1) (by omega) b2
      rw [show x - 1 + 1 = x by omega] at h3
      rcases h1 with q1 | ⟨q1, q2⟩
      · omega
      · exact absurd q2 h3.2.2
theorem st_mono {tx : Nat → Int} {m : Nat} (ht : tw_ok tx m) {c : Nat} (h : c ≤ wd_cnt tx m) : wd_starts m tx c + 2 ≤ wd_starts m tx (c + 1) := by
  obtain ⟨x, y, a1, a2, a3, a4, _, _, _, a5, a6⟩ := st_w h
  have := st_ne ht a3 a4 a5 a6
  rw [a1, a2]; omega
theorem st_lt {tx : Nat → Int} {m : Nat} (ht : tw_ok tx m) : ∀ (k c : Nat), c + k ≤ wd_cnt tx m + 1 → wd_starts m tx c + 2 * k ≤ wd_starts m tx (c + k)
  | 0, c, _ => by simp
  | k + 1, c, h => by
    have h1 := st_lt ht k c (by omega)
    have h2 := st_mono ht (c := c + k) (by omega)
    rw [show c + (k + 1) = c + k + 1 by omega]; omega
theorem st_le {tx : Nat → Int} {m : Nat} (ht : tw_ok tx m) {x y : Nat} (hxy : x ≤ y) (hy : y ≤ wd_cnt tx m + 1) : wd_starts m tx x + 2 * ((y : Int) - x) ≤ wd_starts m tx y := by
  have h := st_lt ht (y - x) x (by omega)
  rw [show x + (y - x) = y by omega] at h
  omega
theorem st_iff {tx : Nat → Int} {m : Nat} (ht : tw_ok tx m) {x y : Nat} (hx : x ≤ wd_cnt tx m + 1) (hy : y ≤ wd_cnt tx m + 1) : wd_starts m tx x < wd_starts m tx y ↔ x < y := by
  constructor
  · intro h
    rcases Nat.lt_or_ge x y with q | q
    · exact q
    · have := st_le ht q hx; omega
  · intro h
    have := st_le ht (Nat.le_of_lt h) hy
    omega
-- ===== the end of a word, as the reference finds it =====
theorem WE_sp (S : Int) (C : Int → Int) : ∀ (u : Nat) (k : Int), k ≤ S → S - k ≤ u → k ≤ rf_we S C u k ∧ rf_we S C u k ≤ S ∧ (∀ i, k ≤ i → i < rf_we S C u k → ¬ C i = 32) ∧ (rf_we S C u k < S → C (rf_we S C u k) = 32)
  | 0, k, h, hu => by unfold rf_we; exact ⟨by omega, h, fun i a b => by omega, fun q => by omega⟩
  | u + 1, k, h, hu => by
    unfold rf_we
    by_cases c : k < S ∧ ¬ C k = 32
    · rw [if_pos c]
      obtain ⟨a1, a2, a3, a4⟩ := WE_sp S C u (k + 1) (by omega) (by omega)
      refine ⟨by omega, a2, fun i b1 b2 => ?_, a4⟩
      by_cases e : i = k
      · rw [e]; exact c.2
      · exact a3 i (by omega) b2
    · rw [if_neg c]
      exact ⟨by omega, h, fun i a b => by omega, fun q => by
        by_cases z : C k = 32
        · exact z
        · exact absurd ⟨q, z⟩ c⟩
theorem WE_eq {S : Int} {C : Int → Int} {k e : Int} (hk : k ≤ e) (he : e ≤ S) (h1 : ∀ i, k ≤ i → i < e → ¬ C i = 32) (h2 : e = S ∨ C e = 32) : rf_WE S C k = e := by
  obtain ⟨a1, a2, a3, a4⟩ := WE_sp S C (S - k).toNat k (by omega) (by omega)
  show rf_we S C (S - k).toNat k = e
  generalize rf_we S C (S - k).toNat k = x at a1 a2 a3 a4
  rcases Int.lt_trichotomy x e with q | q | q
  · exact absurd (a4 (by omega)) (h1 x a1 q)
  · exact q
  · rcases h2 with r | r
    · omega
    · exact absurd r (a3 e hk q)
