/-! ===== pure: texts with a blank behind every word, and their splices ===== -/
/-- the text, blanks behind it -/
def xt (X : Nat → Int) (m : Nat) : Nat → Int := fun j => if j < m then X j else 32
theorem xt_i {X : Nat → Int} {m j : Nat} (h : j < m) : xt X m j = X j := if_pos h
theorem xt_o {X : Nat → Int} {m j : Nat} (h : m ≤ j) : xt X m j = 32 := if_neg (by omega)
def EX (E : Nat → Int) (M : Nat) : Prop := (2 ≤ M ∧ E (M - 1) = 32) ∧ (∀ j, j < M → E j = 32 → 0 < j ∧ (j + 1 < M → ¬ E (j + 1) = 32)) ∧ (∀ j, j < M → E j = 94 → j + 2 < M ∧ (48 ≤ E (j + 1) ∧ E (j + 1) ≤ 57) ∧ E (j + 2) = 32) ∧ ∀ j, j + 15 ≤ M → ∃ i, j ≤ i ∧ i < j + 15 ∧ E i = 32
theorem ex_tx {X : Nat → Int} {m : Nat} (h : TX X m) : EX (xt X m) (m + 1) := by
  obtain ⟨⟨h1, h2⟩, h3, h4⟩ := h
  refine ⟨⟨by omega, xt_o (by omega)⟩, fun j a b => ?_, fun j a b => ?_, fun j a => ?_⟩
  · rcases Nat.lt_or_ge j m with c | c
    · rw [xt_i c] at b
      obtain ⟨r1, r2, r3⟩ := h2 j c b
      exact ⟨r1, fun _ => by rw [xt_i r2]; exact r3⟩
    · exact ⟨by omega, fun q => by omega⟩
  · rcases Nat.lt_or_ge j m with c | c
    · rw [xt_i c] at b
      obtain ⟨r1, r2, r3⟩ := h3 j c b
      rw [xt_i r1]
      rcases r3 with r | ⟨r, r'⟩
      · exact ⟨by omega, r2, xt_o (by omega)⟩
      · exact ⟨by omega, r2, by rw [xt_i r]; exact r'⟩
    · rw [xt_o c] at b; omega
  · rcases Nat.lt_or_ge m (j + 15) with c | c
    · exact ⟨m, by omega, by omega, xt_o (Nat.le_refl _)⟩
    · obtain ⟨i, r1, r2, r3⟩ := h4 j c
      exact ⟨i, r1, r2, by rw [xt_i (by omega)]; exact r3⟩
theorem tx_ex {X : Nat → Int} {m : Nat} (h : EX (xt X m) (m + 1)) : TX X m := by
  obtain ⟨⟨h1, h1'⟩, h2, h3, h4⟩ := h
  refine ⟨⟨by omega, fun j a b => ?_⟩, fun j a b => ?_, fun j a => ?_⟩
  · obtain ⟨r1, r2⟩ := h2 j (by omega) (by rw [xt_i a]; exact b)
    have r3 := r2 (by omega)
    have r4 : j + 1 < m := by
      rcases Nat.lt_or_ge (j + 1) m with c | c
      · exact c
      · exact absurd (xt_o c) r3
    rw [xt_i r4] at r3
    exact ⟨r1, r4, r3⟩
  · obtain ⟨r1, r2, r3⟩ := h3 j (by omega) (by rw [xt_i a]; exact b)
    rw [xt_i (by omega)] at r2
    refine ⟨by omega, r2, ?_⟩
    rcases Nat.lt_or_ge (j + 2) m with c | c
    · rw [xt_i c] at r3; exact Or.inr ⟨c, r3⟩
    · left; omega
  · obtain ⟨i, r1, r2, r3⟩ := h4 j (by omega)
    exact ⟨i, r1, r2, by rw [xt_i (by omega)] at r3; exact r3⟩
/-- N is E with [a, b) replaced by the c characters of co -/
def SP (E co N : Nat → Int) (M a b c : Nat) : Prop := (∀ j, j < a → N j = E j) ∧ (∀ j, j < c → N (a + j) = co j) ∧ ∀ j, b + j < M → N (a + c + j) = E (b + j)
def bd (E : Nat → Int) (a : Nat) : Prop := a = 0 ∨ (0 < a ∧ E (a - 1) = 32)
theorem ex_b {E : Nat → Int} {M b : Nat} (h : EX E M) (hb : bd E b) (hl : b < M) : ¬ E b = 32 := fun q => by
  rcases hb with e | ⟨e1, e2⟩
  · have := (h.2.1 b hl q).1; omega
  · have := (h.2.1 (b - 1) (by omega) e2).2 (by omega)
    rw [show b - 1 + 1 = b by omega] at this; exact this q
theorem ex_sp {E co N : Nat → Int} {M a b c : Nat} (h : EX E M) (hab : a ≤ b) (hb : b ≤ M) (ha : bd E a) (hbb : bd E b) (hc : c = 0 ∨ EX co c) (hs : SP E co N M a b c) (h2 : 2 ≤ M - (b - a) + c) : EX N (M - (b - a) + c) := by
  obtain ⟨s1, s2, s3⟩ := hs
  have hEb := fun hl => ex_b h hbb hl
  have hEa : ∀ j, j + 1 = a → N j = 32 := fun j e => by
    rcases ha with r | ⟨r1, r2⟩
    · omega
    · rw [s1 j (by omega), show j = a - 1 by omega]; exact r2
  have hCl : 0 < c → N (a + (c - 1)) = 32 := fun q => by
    rcases hc with r | r
    · omega
    · rw [s2 _ (by omega)]; exact r.1.2
  have hNb : b < M → N (a + c) = E b := fun q => s3 0 (by omega)
  have hC0 : 0 < c → ¬ N a = 32 := fun q => by
    rcases hc with r | r
    · omega
    · have e := s2 0 q
      rw [Nat.add_zero] at e
      rw [e]
      exact ex_b r (Or.inl rfl) q
  have hNa : a < M - (b - a) + c → ¬ N a = 32 := fun q => by
    rcases Nat.eq_zero_or_pos c with r | r
    · have e := hNb (by omega)
      rw [r, Nat.add_zero] at e
      rw [e]; exact hEb (by omega)
    · exact hC0 r
  have hNac : a + c < M - (b - a) + c → ¬ N (a + c) = 32 := fun q => by rw [hNb (by omega)]; exact hEb (by omega)
  obtain ⟨⟨g1, g1'⟩, g2, g3, g4⟩ := h
  refine ⟨⟨h2, ?_⟩, fun j q1 q2 => ?_, fun j q1 q2 => ?_, fun j q => ?_⟩
  · rcases Nat.lt_or_ge b M with k | k
    · rw [show M - (b - a) + c - 1 = a + c + (M - 1 - b) by omega, s3 _ (by omega), show b + (M - 1 - b) = M - 1 by omega]; exact g1'
    · rcases Nat.eq_zero_or_pos c with r | r
      · exact hEa _ (by omega)
      · rw [show M - (b - a) + c - 1 = a + (c - 1) by omega]; exact hCl r
  · rcases Nat.lt_or_ge j a with k | k
    · rw [s1 j k] at q2
      obtain ⟨r1, r2⟩ := g2 j (by omega) q2
      refine ⟨r1, fun r3 => ?_⟩
      by_cases e : j + 1 = a
      · rw [e]; exact hNa (by omega)
      · rw [s1 _ (by omega)]; exact r2 (by omega)
    · rcases Nat.lt_or_ge j (a + c) with k2 | k2
      · rcases hc with r | r
        · omega
        · have e0 : N (a + (j - a)) = co (j - a) := s2 _ (by omega)
          rw [show a + (j - a) = j by omega] at e0
          rw [e0] at q2
          obtain ⟨r1, r2⟩ := r.2.1 (j - a) (by omega) q2
          refine ⟨by omega, fun r3 => ?_⟩
          by_cases e : j + 1 = a + c
          · rw [e]; exact hNac (by omega)
          · rw [show j + 1 = a + (j - a + 1) by omega, s2 _ (by omega)]; exact r2 (by omega)
      · have e0 : N (a + c + (j - a - c)) = E (b + (j - a - c)) := s3 _ (by omega)
        rw [show a + c + (j - a - c) = j by omega] at e0
        have q3 := q2
        rw [e0] at q2
        obtain ⟨r1, r2⟩ := g2 _ (by omega) q2
        refine ⟨?_, fun r3 => ?_⟩
        · rcases Nat.eq_zero_or_pos j with r | r
          · exfalso
            rw [show j = a + c by omega] at q3
            exact hNac (by omega) q3
          · exact r
        · rw [show j + 1 = a + c + (j - a - c + 1) by omega, s3 _ (by omega)]
          have := r2 (by omega)
          rw [show b + (j - a - c) + 1 = b + (j - a - c + 1) by omega] at this
          exact this
  · rcases Nat.lt_or_ge j a with k | k
    · rw [s1 j k] at q2
      obtain ⟨r1, r2, r3⟩ := g3 j (by omega) q2
      have k1 : ¬ j + 1 = a := fun e => by have := hEa j e; rw [s1 j k] at this; omega
      have k2 : ¬ j + 2 = a := fun e => by have := hEa (j + 1) (by omega); rw [s1 _ (by omega)] at this; omega
      exact ⟨by omega, by rw [s1 _ (by omega)]; exact r2, by rw [s1 _ (by omega)]; exact r3⟩
    · rcases Nat.lt_or_ge j (a + c) with k2 | k2
      · rcases hc with r | r
        · omega
        · have e0 : ∀ i, j ≤ i → i < a + c → N i = co (i - a) := fun i u v => by
            have := s2 (i - a) (by omega)
            rw [show a + (i - a) = i by omega] at this; exact this
          rw [e0 j (Nat.le_refl _) k2] at q2
          obtain ⟨r1, r2, r3⟩ := r.2.2.1 (j - a) (by omega) q2
          rw [e0 (j + 1) (by omega) (by omega), e0 (j + 2) (by omega) (by omega), show j + 1 - a = j - a + 1 by omega, show j + 2 - a = j - a + 2 by omega]
          exact ⟨by omega, r2, r3⟩
      · have e0 : ∀ i, j ≤ i → i < M - (b - a) + c → N i = E (b + (i - a - c)) := fun i u v => by
          have := s3 (i - a - c) (by omega)
          rw [show a + c + (i - a - c) = i by omega] at this; exact this
        rw [e0 j (Nat.le_refl _) q1] at q2
        obtain ⟨r1, r2, r3⟩ := g3 _ (by omega) q2
        rw [e0 (j + 1) (by omega) (by omega), e0 (j + 2) (by omega) (by omega), show b + (j + 1 - a - c) = b + (j - a - c) + 1 by omega, show b + (j + 2 - a - c) = b + (j - a - c) + 2 by omega]
        exact ⟨by omega, r2, r3⟩
  · rcases Nat.lt_or_ge j a with k | k
    · rcases Nat.lt_or_ge a (j + 15) with k1 | k1
      · exact ⟨a - 1, by omega, by omega, hEa _ (by omega)⟩
      · obtain ⟨i, r1, r2, r3⟩ := g4 j (by omega)
        exact ⟨i, r1, r2, by rw [s1 _ (by omega)]; exact r3⟩
    · rcases Nat.lt_or_ge j (a + c) with k2 | k2
      · rcases Nat.lt_or_ge (a + c) (j + 15) with k1 | k1
        · exact ⟨a + (c - 1), by omega, by omega, hCl (by omega)⟩
        · rcases hc with r | r
          · omega
          · obtain ⟨i, r1, r2, r3⟩ := r.2.2.2 (j - a) (by omega)
            exact ⟨a + i, by omega, by omega, by rw [s2 _ (by omega)]; exact r3⟩
      · obtain ⟨i, r1, r2, r3⟩ := g4 (b + (j - a - c)) (by omega)
        refine ⟨a + c + (i - b), by omega, by omega, ?_⟩
        rw [s3 _ (by omega), show b + (i - b) = i by omega]; exact r3
theorem ct_sp {E co N : Nat → Int} {M a b c : Nat} (hs : SP E co N M a b c) : (∀ j, j ≤ a → wd_cnt N j = wd_cnt E j) ∧ wd_cnt N (a + c) = wd_cnt E a + wd_cnt co c ∧ ∀ d, b + d ≤ M → wd_cnt N (a + c + d) + wd_cnt E b = wd_cnt E a + wd_cnt co c + wd_cnt E (b + d) := by
  obtain ⟨s1, s2, s3⟩ := hs
  have h1 : ∀ j, j ≤ a → wd_cnt N j = wd_cnt E j := fun j hj => ct_c j fun i hi => s1 i (by omega)
  have h2 : ∀ k, k ≤ c → wd_cnt N (a + k) = wd_cnt E a + wd_cnt co k := by
    intro k
    induction k with
    | zero => intro _; exact h1 a (Nat.le_refl _)
    | succ k ih =>
      intro hk
      show wd_cnt N (a + k) + (if N (a + k) = 32 then 1 else 0) = wd_cnt E a + (wd_cnt co k + (if co k = 32 then 1 else 0))
      rw [ih (by omega), s2 k (by omega)]; omega
  refine ⟨h1, h2 c (Nat.le_refl _), fun d => ?_⟩
  induction d with
  | zero => intro _; show wd_cnt N (a + c) + _ = _ + wd_cnt E b; rw [h2 c (Nat.le_refl _)]
  | succ d ih =>
    intro hd
    have := ih (by omega)
    show wd_cnt N (a + c + d) + (if N (a + c + d) = 32 then 1 else 0) + wd_cnt E b = wd_cnt E a + wd_cnt co c + (wd_cnt E (b + d) + (if E (b + d) = 32 then 1 else 0))
    rw [s3 d (by omega)]; omega
