/-! ===== pure: find ===== -/
theorem w1_sp (S : Int) (C : Int → Int) (bf : Nat → Int) (x : Int) : ∀ (u i : Nat), (∃ f : Nat, i ≤ f ∧ f ≤ i + u ∧ (f = i + u ∨ bf f = 32) ∧ (∀ j : Nat, i ≤ j → j < f → ¬ bf j = 32 ∧ x + j < S ∧ C (x + j) = bf j) ∧ rf_w1 S C bf x u i = f) ∨ (rf_w1 S C bf x u i = -1 ∧ ∃ j : Nat, i ≤ j ∧ j < i + u ∧ (∀ l : Nat, i ≤ l → l ≤ j → ¬ bf l = 32) ∧ ¬ (x + j < S ∧ C (x + j) = bf j))
  | 0, i => Or.inl ⟨i, Nat.le_refl _, Nat.le_refl _, Or.inl rfl, fun j a b => by omega, rfl⟩
  | u + 1, i => by
    have e : rf_w1 S C bf x (u + 1) i = if bf i = 32 then (i : Int) else if x + i < S ∧ C (x + i) = bf i then rf_w1 S C bf x u ((i : Int) + 1) else -1 := by
      show (if bf (i : Int).toNat = 32 then (i : Int) else if x + i < S ∧ C (x + i) = bf (i : Int).toNat then rf_w1 S C bf x u ((i : Int) + 1) else -1) = _
      rw [Int.toNat_natCast]
    rw [e]
    by_cases c1 : bf i = 32
    · rw [if_pos c1]
      exact Or.inl ⟨i, Nat.le_refl _, by omega, Or.inr c1, fun j a b => by omega, rfl⟩
    · rw [if_neg c1]
      by_cases c2 : x + i < S ∧ C (x + i) = bf i
      · rw [if_pos c2, show ((i : Int) + 1) = ((i + 1 : Nat) : Int) by omega]
        rcases w1_sp S C bf x u (i + 1) with ⟨f, r1, r2, r3, r4, r5⟩ | ⟨r1, j, r2, r3, r4, r5⟩
        · refine Or.inl ⟨f, by omega, by omega, by omega, fun j a b => ?_, r5⟩
          by_cases ej : j = i
          · rw [ej]; exact ⟨c1, c2⟩
          · exact r4 j (by omega) b
        · refine Or.inr ⟨r1, j, by omega, by omega, fun l a b => ?_, r5⟩
          by_cases el : l = i
          · rw [el]; exact c1
          · exact r4 l (by omega) b
      · rw [if_neg c2]
        exact Or.inr ⟨rfl, i, Nat.le_refl _, by omega, fun l a b => by rw [show l = i by omega]; exact c1, c2⟩
theorem ie_sp (len : Int) (g : Nat → Int) (m : Nat) (tx : Nat → Int) (st size : Int) : ∀ (u : Nat) (i : Int), (in_eq len g m tx st size u i = 0 ∨ in_eq len g m tx st size u i = 1) ∧ (in_eq len g m tx st size u i = 1 ↔ ((∀ j : Nat, j < u → wd_sign m tx (st + (i + j)) = in_sign len g (i + j)) ∧ in_sign len g size = 32))
  | 0, i => by
    unfold in_eq
    by_cases c : in_sign len g size = 32
    · rw [if_pos c]; exact ⟨Or.inr rfl, fun _ => ⟨fun j hj => by omega, c⟩, fun _ => rfl⟩
    · rw [if_neg c]; exact ⟨Or.inl rfl, fun q => by omega, fun q => absurd q.2 c⟩
  | u + 1, i => by
    have e : in_eq len g m tx st size (u + 1) i = if wd_sign m tx (st + i) = in_sign len g i then in_eq len g m tx st size u (i + 1) else 0 := rfl
    rw [e]
    obtain ⟨h1, h2⟩ := ie_sp len g m tx st size u (i + 1)
    by_cases c : wd_sign m tx (st + i) = in_sign len g i
    · rw [if_pos c]
      refine ⟨h1, h2.trans ⟨fun ⟨q1, q2⟩ => ⟨fun j hj => ?_, q2⟩, fun ⟨q1, q2⟩ => ⟨fun j hj => ?_, q2⟩⟩⟩
      · rcases Nat.eq_zero_or_pos j with ej | ej
        · subst ej; rw [Int.natCast_zero, Int.add_zero]; exact c
        · have := q1 (j - 1) (by omega)
          rw [show i + 1 + ((j - 1 : Nat) : Int) = i + j by omega] at this
          exact this
      · have := q1 (j + 1) (by omega)
        rw [show i + ((j + 1 : Nat) : Int) = i + 1 + j by omega] at this
        exact this
    · rw [if_neg c]
      refine ⟨Or.inl rfl, fun q => by omega, fun ⟨q1, q2⟩ => ?_⟩
      have := q1 0 (by omega)
      rw [Int.natCast_zero, Int.add_zero] at this
      exact absurd this c
/-- a word is the first word typed, in both -/
theorem bg_eq {len : Int} {g bf : Nat → Int} (h0 : 0 ≤ len) (hf : ∀ k : Nat, (k : Int) < len → g k = bf k) {tx : Nat → Int} {m x y : Nat} (hxy : x ≤ y) (hy : y ≤ m) (hn : ∀ i, x ≤ i → i < y → ¬ tx i = 32) {b L : Nat} {C : Int → Int} (hs : sl_ok tx m b L C) (hb : b ≤ x ∧ y ≤ b + L) (he : y = m ∨ (y < m ∧ tx y = 32)) :
    (¬ (if len < (y : Int) - x then 0 else in_eq len g m tx x ((y : Int) - x) ((y : Int) - x).toNat 0) = 0) ↔ rf_IW L C len bf ((x : Int) - b) = 1 := by
  have hC : ∀ i : Nat, i < y - x → C ((x : Int) - b + i) = tx (x + i) := fun i hi => by
    have := hs.2.1 (x - b + i) (by omega)
    rw [show ((x - b + i : Nat) : Int) = (x : Int) - b + i by omega, show b + (x - b + i) = x + i by omega] at this
    exact this
  have hWE : rf_WE L C ((x : Int) - b) = (y : Int) - b := by
    refine WE_eq (by omega) (by omega) (fun i a c => ?_) ?_
    · have := hC (i - ((x : Int) - b)).toNat (by omega)
      rw [show (x : Int) - b + ((i - ((x : Int) - b)).toNat : Int) = i by omega] at this
      rw [this]; exact hn _ (by omega) (by omega)
    · rcases Nat.lt_or_ge y (b + L) with c | c
      · right
        have := hs.2.1 (y - b) (by omega)
        rw [show ((y - b : Nat) : Int) = (y : Int) - b by omega, show b + (y - b) = y by omega] at this
        rw [this]
        rcases he with q | q
        · have := hs.1; omega
        · exact q.2
      · left; omega
  have hsg : ∀ i : Nat, i < y - x → wd_sign m tx ((x : Int) + (0 + (i : Int))) = tx (x + i) := fun i hi => by
    unfold wd_sign; rw [if_pos (by omega)]; exact congrArg _ (by omega)
  unfold rf_IW
  rw [hWE]
  obtain ⟨e1, e2⟩ := ie_sp len g m tx x ((y : Int) - x) ((y : Int) - x).toNat 0
  have hsp := w1_sp L C bf ((x : Int) - b) len.toNat 0
  rw [show ((0 : Nat) : Int) = (0 : Int) from rfl] at hsp
  constructor
  · intro q
    by_cases c : len < (y : Int) - x
    · rw [if_pos c] at q; exact absurd rfl q
    · rw [if_neg c] at q
      obtain ⟨k1, k2⟩ := e2.mp (e1.resolve_left q)
      have hmt : ∀ j : Nat, j < y - x → bf j = tx (x + j) := fun j hj => by
        have := k1 j (by omega)
        rw [hsg j hj] at this
        rw [this, Int.zero_add]; unfold in_sign; rw [if_pos (by omega), Int.toNat_natCast]; exact (hf j (by omega)).symm
      rcases hsp with ⟨f, r1, r2, r3, r4, r5⟩ | ⟨r1, j, r2, r3, r4, r5⟩
      · have ef : f = y - x := by
          rcases Nat.lt_or_ge f (y - x) with d | d
          · rcases r3 with r | r
            · omega
            · have := hn (x + f) (by omega) (by omega)
              rw [← hmt f d] at this; exact absurd r this
          · rcases Nat.lt_or_ge (y - x) f with d2 | d2
            · have := (r4 (y - x) (by omega) d2).1
              unfold in_sign at k2
              rw [if_pos (by omega), show ((y : Int) - x).toNat = y - x by omega, hf _ (by omega)] at k2
              exact absurd k2 this
            · omega
        rw [r5, if_pos ⟨by omega, by omega⟩]
      · exfalso
        rcases Nat.lt_or_ge j (y - x) with d | d
        · exact r5 ⟨by omega, by rw [hC j d, hmt j d]⟩
        · have k3 := r4 (y - x) (by omega) d
          unfold in_sign at k2
          rw [if_pos (by omega), show ((y : Int) - x).toNat = y - x by omega, hf _ (by omega)] at k2
          exact k3 k2
  · intro q
    by_cases c9 : ¬ rf_w1 L C bf ((x : Int) - b) len.toNat 0 = -1 ∧ (y : Int) - b = (x : Int) - b + rf_w1 L C bf ((x : Int) - b) len.toNat 0
    · rcases hsp with ⟨f, r1, r2, r3, r4, r5⟩ | ⟨r1, _⟩
      · have ef : f = y - x := by omega
        rw [if_neg (by omega)]
        have : in_eq len g m tx x ((y : Int) - x) ((y : Int) - x).toNat 0 = 1 := e2.mpr ⟨fun j hj => ?_, ?_⟩
        · omega
        · obtain ⟨s1, s2, s3⟩ := r4 j (by omega) (by omega)
          rw [hsg j (by omega), ← hC j (by omega), s3, Int.zero_add]
          unfold in_sign; rw [if_pos (by omega), Int.toNat_natCast]; exact (hf j (by omega)).symm
        · unfold in_sign
          by_cases d : (y : Int) - x < len
          · rw [if_pos (by omega), show ((y : Int) - x).toNat = y - x by omega, hf _ (by omega)]
            rcases r3 with r | r
            · omega
            · rw [← ef]; exact r
          · rw [if_neg (by omega)]
      · exact absurd r1 c9.1
    · rw [if_neg c9] at q; omega
