/-! ===== pure: gaps, breaks, pages ===== -/
/-- what is known of a line -/
theorem LR.at {B : bk_T} {z nt sy : Nat → Int} {A : Nat → Nat → Int} {lo lf lt : Nat → Int} {ln X : Nat} (h : LR B z nt sy A lo lf lt ln X) {l : Nat} (hl : l < ln) : ∃ p x y : Nat, p < bk_P B ∧ A 3 l = p ∧ lo l = p ∧ A 2 l = x ∧ va_up (A 2) ln X (l + 1) = y ∧ bk_fr B p ≤ x ∧ x < y ∧ (y : Int) ≤ bk_fr B (p + 1) ∧ wd_starts (bk_m B) (bk_tx B) x = rS z p + lf l ∧ wd_starts (bk_m B) (bk_tx B) y - 1 = rS z p + lt l ∧ A 4 l = rf_ID z sy p (lf l) ∧ A 7 l = rf_n1 (rf_ch z nt p) (lt l - lf l).toNat (lf l) 0 := h.2 l hl
theorem rS_lt {B : bk_T} {z : Nat → Int} (h : RB B z) {p q : Nat} (hpq : p < q) (hq : q ≤ bk_P B) : rS z p + (z (85 + p)).toNat + 1 ≤ rS z q := by
  have := rS_m z (show p + 1 ≤ q by omega)
  rw [rS_s] at this; exact this
/-- a line begins a paragraph just if it begins with its first character -/
theorem LR.bp {B : bk_T} {z nt sy : Nat → Int} {A : Nat → Nat → Int} {lo lf lt : Nat → Int} {ln X : Nat} (hb : RB B z) (h : LR B z nt sy A lo lf lt ln X) {l : Nat} (hl : l < ln) : (lf l = 0 ↔ (l = 0 ∨ ¬ lo (l - 1) = lo l)) ∧ 0 ≤ lf l ∧ lf l < lt l ∧ lt l ≤ z (85 + (lo l).toNat) ∧ (l + 1 < ln → lo l ≤ lo (l + 1) ∧ lo (l + 1) ≤ lo l + 1 ∧ (lo l < lo (l + 1) → lt l = z (85 + (lo l).toNat)) ∧ (lo l = lo (l + 1) → lf (l + 1) = lt l + 1)) ∧ (l + 1 = ln → X = bk_n B → lo l = bk_P B - 1 ∧ lt l = z (85 + (lo l).toNat)) := by
  have ht := hb.2.1
  have key : ∀ {l : Nat}, l < ln → ∃ p x y : Nat, p < bk_P B ∧ lo l = p ∧ A 2 l = x ∧ va_up (A 2) ln X (l + 1) = y ∧ x < y ∧ (∃ f g : Nat, bk_fr B p = f ∧ bk_fr B (p + 1) = g ∧ f ≤ x ∧ y ≤ g ∧ g ≤ wd_cnt (bk_tx B) (bk_m B) + 1 ∧ wd_starts (bk_m B) (bk_tx B) f = rS z p ∧ wd_starts (bk_m B) (bk_tx B) g = rS z p + z (85 + p) + 1) ∧ wd_starts (bk_m B) (bk_tx B) x = rS z p + lf l ∧ wd_starts (bk_m B) (bk_tx B) y - 1 = rS z p + lt l := by
    intro l hl
    obtain ⟨p, x, y, a1, a2, a3, a4, a5, a6, a7, a8, a9, a10, _⟩ := h.at hl
    obtain ⟨f, f1, f2, f3⟩ := rb_st hb (p := p) (by omega)
    obtain ⟨g, g1, g2, g3⟩ := rb_st hb (p := p + 1) (by omega)
    have hz := hb.2.2.2.2.1 p a1
    refine ⟨p, x, y, a1, a3, a4, a5, a7, ⟨f, g, f1, g1, by omega, by omega, g2, f3, ?_⟩, a9, a10⟩
    rw [g3, rS_s]; omega
  obtain ⟨p, x, y, a1, a3, a4, a5, a7, ⟨f, g, f1, g1, b1, b2, b3, b4, b5⟩, a9, a10⟩ := key hl
  have c1 := st_le ht b1 (by omega)
  have c2 := st_le ht b2 b3
  have c3 := st_le ht (Nat.le_of_lt a7) (by omega)
  have hz := hb.2.2.2.2.1 p a1
  have hlen : z (85 + (lo l).toNat) = z (85 + p) := by rw [a3]; rfl
  have hxf : lf l = 0 ↔ x = f := by
    constructor
    · intro q
      have q2 : ¬ f < x := fun r => by have := (st_iff ht (x := f) (y := x) (by omega) (by omega)).mpr r; omega
      omega
    · intro q; rw [q] at a9; omega
  refine ⟨?_, by omega, by omega, by omega, ?_, ?_⟩
  · rw [hxf]
    by_cases e0 : l = 0
    · subst e0
      have h0 : A 2 0 = 0 := by rcases h.1 with ⟨q, _⟩ | ⟨_, q⟩; omega; exact q
      constructor
      · intro _; exact Or.inl rfl
      · intro _; omega
    · obtain ⟨p', x', y', a1', a3', a4', a5', a7', ⟨f', g', f1', g1', b1', b2', b3', b4', b5'⟩, a9', a10'⟩ := key (l := l - 1) (by omega)
      rw [show l - 1 + 1 = l by omega, va_up_ne _ _ (by omega), a4] at a5'
      have ey : y' = x := by omega
      subst ey
      rw [a3, a3']
      constructor
      · intro q
        refine Or.inr (fun r => ?_)
        have r' : p' = p := by omega
        subst r'
        omega
      · intro q
        rcases q with q | q
        · omega
        · rcases Nat.lt_trichotomy p' p with r | r | r
          · -- the line before lies in an earlier paragraph: it ends where this one begins
            have m1 := rb_fm hb (p - (p' + 1)) (p' + 1) (by omega)
            rw [show p' + 1 + (p - (p' + 1)) = p by omega] at m1
            omega
          · omega
          · have m1 := rb_fm hb (p' - (p + 1)) (p + 1) (by omega)
            rw [show p + 1 + (p' - (p + 1)) = p' by omega] at m1
            omega
  · intro hl2
    obtain ⟨p', x', y', a1', a3', a4', a5', a7', ⟨f', g', f1', g1', b1', b2', b3', b4', b5'⟩, a9', a10'⟩ := key (l := l + 1) hl2
    rw [va_up_ne _ _ (by omega), a4'] at a5
    have ey : x' = y := by omega
    subst ey
    have hpp : p' = p ∨ (p' = p + 1 ∧ x' = g) := by
      rcases Nat.lt_trichotomy p' p with r | r | r
      · have m1 := rb_fm hb (p - (p' + 1)) (p' + 1) (by omega)
        rw [show p' + 1 + (p - (p' + 1)) = p by omega] at m1
        omega
      · exact Or.inl r
      · right
        have m1 := rb_fm hb (p' - (p + 1)) (p + 1) (by omega)
        rw [show p + 1 + (p' - (p + 1)) = p' by omega] at m1
        omega
    rw [a3, a3']
    rcases hpp with rfl | ⟨rfl, q⟩
    · refine ⟨by omega, by omega, fun r => by omega, fun _ => by omega⟩
    · rw [q] at a10
      refine ⟨by omega, by omega, fun _ => ?_, fun r => by omega⟩
      show lt l = z (85 + ((p : Int)).toNat)
      rw [Int.toNat_natCast]; omega
  · intro hl2 hX
    rw [hl2, va_up_self, hX] at a5
    have hP := hb.2.2.2.2.2.2.2.2.1.2
    have hpe : p + 1 = bk_P B := by
      rcases Nat.lt_or_ge (p + 1) (bk_P B) with r | r
      · have m1 := rb_fm hb (bk_P B - (p + 1)) (p + 1) (by omega)
        rw [show p + 1 + (bk_P B - (p + 1)) = bk_P B by omega] at m1
        omega
      · omega
    have hyg : y = g := by rw [hpe] at g1; omega
    rw [hyg] at a10
    rw [a3]
    refine ⟨by omega, ?_⟩
    rw [Int.toNat_natCast]; omega
