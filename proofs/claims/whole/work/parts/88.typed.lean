/-! ===== pure: a text that was taken ===== -/
def iS (g : Nat → Int) (v : Int) : Nat → sy_T
  | 0 => (v, v, 0 + 1, 0 + 1, 0, 0, 0)
  | i + 1 => (sy_takes (iS g v i) (g i)).2
theorem ff_all {len : Int} {g : Nat → Int} {v : Int} : ∀ (u i : Nat), (i : Int) + u = len → (in_ff len g u i (iS g v i)).1 = len → (∀ j : Nat, i ≤ j → (j : Int) < len → ¬ (sy_takes (iS g v j) (g j)).1 = 0) ∧ (in_ff len g u i (iS g v i)).2 = iS g v len.toNat
  | 0, i, hi, _ => ⟨fun j a b => by omega, by show iS g v i = _; rw [show len.toNat = i by omega]⟩
  | u + 1, i, hi, h => by
    have e : in_ff len g (u + 1) i (iS g v i) = if (sy_takes (iS g v i) (g i)).1 = 0 then ((i : Int), (sy_takes (iS g v i) (g i)).2) else in_ff len g u ((i : Int) + 1) (sy_takes (iS g v i) (g i)).2 := by
      show (if (sy_takes (iS g v i) (g (i : Int).toNat)).1 = 0 then _ else _) = _
      rw [Int.toNat_natCast]
    rw [e] at h ⊢
    by_cases c : (sy_takes (iS g v i) (g i)).1 = 0
    · rw [if_pos c] at h; dsimp only at h; omega
    · rw [if_neg c] at h ⊢
      rw [show ((i : Int) + 1) = ((i + 1 : Nat) : Int) by omega] at h ⊢
      obtain ⟨h1, h2⟩ := ff_all (v := v) u (i + 1) (by omega) h
      refine ⟨fun j a b => ?_, h2⟩
      by_cases ej : j = i
      · rw [ej]; exact c
      · exact h1 j (by omega) b
/-- no word is longer than 14 -/
def WL (X : Nat → Int) (Z : Nat) : Prop := ∀ j, j + 15 ≤ Z → ∃ i, j ≤ i ∧ i < j + 15 ∧ X i = 32
def dgt (x : Int) : Prop := 48 ≤ x ∧ x ≤ 57
/-- the text so far, its last word told by the state -/
def TA (v : Int) (S : sy_T) (X : Nat → Int) (Z : Nat) : Prop :=
  S.1 = v ∧ (0 ≤ S.2.2.2.2.1 ∧ S.2.2.2.2.1 ≤ 12) ∧ ((S.2.2.2.2.2.1 = 0 ∧ S.2.2.2.2.2.2 = 0) ∨ (S.2.2.2.2.2.1 = 1 ∧ S.2.2.2.2.2.2 = 0 ∧ 0 < S.2.2.2.2.1) ∨ (S.2.2.2.2.2.1 = 0 ∧ S.2.2.2.2.2.2 = 1 ∧ 0 < S.2.2.2.2.1))
  ∧ (∃ w : Nat, (w : Int) = S.2.2.2.2.1 + S.2.2.2.2.2.1 + 2 * S.2.2.2.2.2.2 ∧ w ≤ Z ∧ (∀ j, Z ≤ j + w → j < Z → ¬ X j = 32) ∧ (Z = w ∨ (w < Z ∧ X (Z - w - 1) = 32)))
  ∧ (∀ j, j < Z → X j = 32 → 0 < j ∧ (j + 1 < Z → ¬ X (j + 1) = 32))
  ∧ (∀ j, j < Z → X j = 94 → (j + 1 = Z ∧ S.2.2.2.2.2.1 = 1) ∨ (j + 2 = Z ∧ S.2.2.2.2.2.2 = 1 ∧ dgt (X (j + 1))) ∨ (j + 2 < Z ∧ dgt (X (j + 1)) ∧ X (j + 2) = 32))
  ∧ WL X Z
theorem ta_0 (v : Int) (X : Nat → Int) : TA v (v, v, 0 + 1, 0 + 1, 0, 0, 0) X 0 :=
  ⟨rfl, ⟨Int.le_refl _, by dsimp only; omega⟩, Or.inl ⟨rfl, rfl⟩, ⟨0, rfl, Nat.le_refl _, fun j a b => by omega, Or.inl rfl⟩, fun j a => by omega, fun j a => by omega, fun j a => by omega⟩
/-- a sign is added -/
theorem ta_c {v : Int} {S S' : sy_T} {X : Nat → Int} {Z : Nat} (h : TA v S X Z) {c : Int} (hc : ¬ c = 32) (h1 : S'.1 = v) (h2 : 0 ≤ S'.2.2.2.2.1 ∧ S'.2.2.2.2.1 ≤ 12)
    (h3 : (S.2.2.2.2.2.1 = 0 ∧ S.2.2.2.2.2.2 = 0 ∧ ¬ c = 94 ∧ S'.2.2.2.2.1 = S.2.2.2.2.1 + 1 ∧ S'.2.2.2.2.2.1 = 0 ∧ S'.2.2.2.2.2.2 = 0) ∨ (S.2.2.2.2.2.1 = 0 ∧ S.2.2.2.2.2.2 = 0 ∧ c = 94 ∧ S'.2.2.2.2.1 = S.2.2.2.2.1 ∧ 0 < S.2.2.2.2.1 ∧ S'.2.2.2.2.2.1 = 1 ∧ S'.2.2.2.2.2.2 = 0) ∨ (S.2.2.2.2.2.1 = 1 ∧ S.2.2.2.2.2.2 = 0 ∧ dgt c ∧ S'.2.2.2.2.1 = S.2.2.2.2.1 ∧ 0 < S.2.2.2.2.1 ∧ S'.2.2.2.2.2.1 = 0 ∧ S'.2.2.2.2.2.2 = 1)) : TA v S' (va_up X Z c) (Z + 1) := by
  obtain ⟨a1, a2, a3, ⟨w, b1, b2, b3, b4⟩, a5, a6, a7⟩ := h
  have eZ : va_up X Z c Z = c := va_up_self _ _ _
  have eo : ∀ j, j < Z → va_up X Z c j = X j := fun j hj => va_up_ne _ _ (by omega)
  have hw : w + 1 ≤ 14 := by unfold dgt at h3; omega
  have k4 : Z + 1 = w + 1 ∨ (w + 1 < Z + 1 ∧ va_up X Z c (Z + 1 - (w + 1) - 1) = 32) := by
    rcases b4 with e | ⟨e1, e2⟩
    · left; omega
    · right; exact ⟨by omega, by rw [show Z + 1 - (w + 1) - 1 = Z - w - 1 by omega, eo _ (by omega)]; exact e2⟩
  refine ⟨h1, h2, by omega, ⟨w + 1, by omega, by omega, fun j q1 q2 => ?_, k4⟩, fun j q1 q2 => ?_, fun j q1 q2 => ?_, fun j q => ?_⟩
  · by_cases e : j = Z
    · rw [e, eZ]; exact hc
    · rw [eo j (by omega)]; exact b3 j (by omega) (by omega)
  · by_cases e : j = Z
    · rw [e, eZ] at q2; exact absurd q2 hc
    · rw [eo j (by omega)] at q2
      obtain ⟨r1, r2⟩ := a5 j (by omega) q2
      refine ⟨r1, fun r3 => ?_⟩
      by_cases e2 : j + 1 = Z
      · rw [e2, eZ]; exact hc
      · rw [eo _ (by omega)]; exact r2 (by omega)
  · by_cases e : j = Z
    · subst e; rw [eZ] at q2; left; unfold dgt at h3; omega
    · rw [eo j (by omega)] at q2
      rcases a6 j (by omega) q2 with ⟨r1, r2⟩ | ⟨r1, r2, r3⟩ | ⟨r1, r2, r3⟩
      · right; left
        rw [show j + 1 = Z by omega, eZ]
        rcases h3 with h | h | h
        · omega
        · omega
        · exact ⟨by omega, h.2.2.2.2.2.2, h.2.2.1⟩
      · omega
      · right; right
        rw [eo _ (by omega), eo _ (by omega)]
        exact ⟨by omega, r2, r3⟩
  · by_cases e : j + 15 ≤ Z
    · obtain ⟨i, r1, r2, r3⟩ := a7 j e
      exact ⟨i, r1, r2, by rw [eo _ (by omega)]; exact r3⟩
    · rcases k4 with k | ⟨k1, k2⟩
      · omega
      · exact ⟨_, by omega, by omega, k2⟩
/-- a blank is added -/
theorem ta_b {v : Int} {S S' : sy_T} {X : Nat → Int} {Z : Nat} (h : TA v S X Z) (hs : 0 < S.2.2.2.2.1) (hd : S.2.2.2.2.2.1 = 0) (h1 : S'.1 = v) (h2 : S'.2.2.2.2.1 = 0 ∧ S'.2.2.2.2.2.1 = 0 ∧ S'.2.2.2.2.2.2 = 0) : TA v S' (va_up X Z 32) (Z + 1) := by
  obtain ⟨a1, a2, a3, ⟨w, b1, b2, b3, b4⟩, a5, a6, a7⟩ := h
  have eZ : va_up X Z 32 Z = 32 := va_up_self _ _ _
  have eo : ∀ j, j < Z → va_up X Z 32 j = X j := fun j hj => va_up_ne _ _ (by omega)
  refine ⟨h1, by omega, by omega, ⟨0, by omega, by omega, fun j q1 q2 => by omega, Or.inr ⟨by omega, eZ⟩⟩, fun j q1 q2 => ?_, fun j q1 q2 => ?_, fun j q => ?_⟩
  · by_cases e : j = Z
    · exact ⟨by omega, fun r => by omega⟩
    · rw [eo j (by omega)] at q2
      obtain ⟨r1, r2⟩ := a5 j (by omega) q2
      refine ⟨r1, fun r3 => ?_⟩
      by_cases e2 : j + 1 = Z
      · exact absurd q2 (b3 j (by omega) (by omega))
      · rw [eo _ (by omega)]; exact r2 (by omega)
  · by_cases e : j = Z
    · subst e; rw [eZ] at q2; omega
    · rw [eo j (by omega)] at q2
      rcases a6 j (by omega) q2 with ⟨r1, r2⟩ | ⟨r1, r2, r3⟩ | ⟨r1, r2, r3⟩
      · omega
      · right; right
        rw [eo _ (by omega), r1, eZ]
        exact ⟨by omega, r3, rfl⟩
      · right; right
        rw [eo _ (by omega), eo _ (by omega)]
        exact ⟨by omega, r2, r3⟩
  · by_cases e : j + 15 ≤ Z
    · obtain ⟨i, r1, r2, r3⟩ := a7 j e
      exact ⟨i, r1, r2, by rw [eo _ (by omega)]; exact r3⟩
    · exact ⟨Z, by omega, by omega, eZ⟩
/-- what each character asks, and what it leaves -/
theorem ta_s {v : Int} {S : sy_T} {X : Nat → Int} {Z : Nat} (h : TA v S X Z) {c : Int} (hc : ¬ (sy_takes S c).1 = 0) :
    ((c = 35 ∨ c = 62) ∧ S.2.1 ≠ 0 ∧ TA v (sy_takes S c).2 X Z ∧ (sy_takes S c).2.2.2.1 = S.2.2.1 ∧ (sy_takes S c).2.2.2.2.1 = S.2.2.2.1 ∧ (sy_takes S c).2.2.1 = 0)
    ∨ (¬ (c = 35 ∨ c = 62) ∧ TA v (sy_takes S c).2 (va_up X Z (if c = 124 then 32 else c)) (Z + 1) ∧ ((c = 32 ∧ 0 < S.2.2.2.2.1 ∧ S.2.2.2.1 < 12 + 12 * v ∧ (sy_takes S c).2.2.2.1 = S.2.2.1 ∧ (sy_takes S c).2.2.2.2.1 = S.2.2.2.1 + 1 ∧ (sy_takes S c).2.2.1 = 0) ∨ (c = 124 ∧ ¬ v = 0 ∧ 0 < S.2.2.2.2.1 ∧ S.2.2.1 < 10 ∧ (sy_takes S c).2.2.2.1 = S.2.2.1 + 1 ∧ (sy_takes S c).2.2.2.2.1 = 1 ∧ (sy_takes S c).2.2.1 = v) ∨ (¬ c = 32 ∧ ¬ c = 124 ∧ (sy_takes S c).2.2.2.1 = S.2.2.1 ∧ (sy_takes S c).2.2.2.2.1 = S.2.2.2.1 ∧ (sy_takes S c).2.2.1 = 0))) := by
  obtain ⟨bk, km, pg, wd, sg, dm, hr⟩ := S
  have hh := h
  obtain ⟨a1, a2, a3, -, -, -, -⟩ := h
  dsimp only at a1 a2 a3 ⊢
  subst a1
  by_cases hdm : dm = 0
  · by_cases c32 : c = 32
    · subst c32
      rw [sy_32 hdm] at hc ⊢
      by_cases k : 0 < sg ∧ wd < 12 + 12 * bk
      · right
        rw [show (if (32 : Int) = 124 then (32 : Int) else 32) = 32 from rfl]
        exact ⟨by omega, ta_b hh k.1 hdm rfl ⟨rfl, rfl, rfl⟩, Or.inl ⟨rfl, k.1, k.2, rfl, rfl, rfl⟩⟩
      · rw [if_neg k] at hc; exact absurd rfl hc
    by_cases c124 : c = 124
    · subst c124
      rw [sy_124 hdm] at hc ⊢
      by_cases k : ¬ bk = 0 ∧ 0 < sg ∧ pg < 10
      · right
        rw [if_pos rfl]
        exact ⟨by omega, ta_b hh k.2.1 hdm rfl ⟨rfl, rfl, rfl⟩, Or.inr (Or.inl ⟨rfl, k.1, k.2.1, k.2.2, rfl, rfl, rfl⟩)⟩
      · rw [if_neg k] at hc; exact absurd rfl hc
    by_cases cm : c = 35 ∨ c = 62
    · rw [sy_mk hdm cm] at hc ⊢
      left
      exact ⟨cm, hc, hh, rfl, rfl, rfl⟩
    right
    rw [if_neg c124]
    by_cases c94 : c = 94
    · subst c94
      rw [sy_94 hdm] at hc ⊢
      by_cases k : 0 < sg ∧ hr = 0
      · exact ⟨by omega, ta_c hh (by omega) rfl a2 (Or.inr (Or.inl ⟨hdm, k.2, rfl, rfl, k.1, rfl, k.2⟩)), Or.inr (Or.inr ⟨by omega, by omega, rfl, rfl, rfl⟩)⟩
      · rw [if_neg k] at hc; exact absurd rfl hc
    rcases sy_sign_d c with hs | hs
    · rw [sy_no hdm hs ⟨c32, c124, cm, c94⟩] at hc; exact absurd rfl hc
    · rw [sy_sg hdm (by omega)] at hc ⊢
      by_cases k : hr = 0 ∧ sg + 1 ≤ 12
      · exact ⟨cm, ta_c hh c32 rfl ⟨by dsimp only; omega, k.2⟩ (Or.inl ⟨hdm, k.1, c94, rfl, hdm, k.1⟩), Or.inr (Or.inr ⟨c32, c124, rfl, rfl, rfl⟩)⟩
      · rw [if_neg k] at hc; exact absurd rfl hc
  · rw [sy_dm hdm] at hc ⊢
    have hr1 : 0 < sg ∧ dm = 1 ∧ hr = 0 := by omega
    by_cases hd : 48 ≤ c ∧ c ≤ 57
    · right
      rw [if_neg (by omega)]
      exact ⟨by omega, ta_c hh (by omega) rfl a2 (Or.inr (Or.inr ⟨hr1.2.1, hr1.2.2, hd, rfl, hr1.1, rfl, rfl⟩)), Or.inr (Or.inr ⟨by omega, by omega, rfl, rfl, rfl⟩)⟩
    · exact absurd (by unfold sy_digit; rw [if_neg hd]) hc
