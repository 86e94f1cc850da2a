/-! ===== pure: a book with blanks behind its words; one paragraph changed ===== -/
theorem xt_c {X : Nat → Int} {m j : Nat} (h : j ≤ m) : wd_cnt (xt X m) j = wd_cnt X j := ct_c j fun i hi => xt_i (by omega)
theorem xt_n (X : Nat → Int) (m : Nat) : wd_cnt (xt X m) (m + 1) = wd_cnt X m + 1 := by
  show wd_cnt (xt X m) m + (if xt X m m = 32 then 1 else 0) = _
  rw [xt_c (Nat.le_refl _), xt_o (Nat.le_refl _), if_pos rfl]
def RX (B : bk_T) (z : Nat → Int) : Prop :=
  (bk_n B = wd_cnt (bk_tx B) (bk_m B) + 1 ∧ bk_s B = wd_starts (bk_m B) (bk_tx B)) ∧ EX (xt (bk_tx B) (bk_m B)) (bk_m B + 1) ∧ ((1 ≤ bk_P B ∧ bk_P B ≤ 10) ∧ z 0 = bk_P B)
  ∧ (∀ p, p < bk_P B → bk_kd B p = z (75 + p) ∧ 0 ≤ z (75 + p) ∧ z (75 + p) ≤ 2) ∧ (∀ p, p < bk_P B → 1 ≤ z (85 + p)) ∧ rS z (bk_P B) = bk_m B + 1
  ∧ (∀ p, p < bk_P B → ∀ k : Nat, (k : Int) < z (85 + p) → xt (bk_tx B) (bk_m B) (rS z p + k) = z (95 + 360 * p + k)) ∧ (∀ p, p < bk_P B → xt (bk_tx B) (bk_m B) (rS z p + (z (85 + p)).toNat) = 32)
  ∧ (∀ p, p ≤ bk_P B → bk_fr B p = wd_cnt (xt (bk_tx B) (bk_m B)) (rS z p))
  ∧ (∀ p, p < bk_P B → bk_fr B (p + 1) - bk_fr B p ≤ 24) ∧ ∀ j, j < bk_m B → 0 ≤ bk_tx B j ∧ bk_tx B j < 128
theorem rx_rb {B : bk_T} {z : Nat → Int} (h : RB B z) (hw : WL (bk_tx B) (bk_m B)) : RX B z := by
  have hb := fun {p : Nat} (hp : p < bk_P B) => rb_b h hp
  obtain ⟨a1, a2, a3, a4, a5, a6, a7, a8, ⟨a9, a9'⟩, a10, a11, a12⟩ := h
  refine ⟨a1, ex_tx ⟨a2, a10, hw⟩, a3, a4, fun p hp => (a5 p hp).1, a6, fun p hp k hk => ?_, fun p hp => ?_, fun p hp => ?_, a11, a12⟩
  · have := hb hp
    rw [xt_i (by omega)]; exact a7 p hp k hk
  · have := hb hp
    rcases Nat.lt_or_ge (p + 1) (bk_P B) with c | c
    · have := hb c
      rw [rS_s] at this
      rw [xt_i (by omega)]; exact a8 p c
    · rw [show bk_P B = p + 1 by omega, rS_s] at a6
      exact xt_o (by omega)
  · rcases Nat.lt_or_ge p (bk_P B) with c | c
    · have := hb c
      rw [xt_c (by omega)]; exact a9 p c
    · rw [show p = bk_P B by omega, a9', a6, xt_n, a1.1]
theorem rb_rx {B : bk_T} {z : Nat → Int} (h : RX B z) : RB B z ∧ WL (bk_tx B) (bk_m B) := by
  obtain ⟨a1, a2, a3, a4, a5, a6, a7, a8, a9, a11, a12⟩ := h
  have ht := tx_ex a2
  have hm : ∀ p, p < bk_P B → rS z p + (z (85 + p)).toNat + 1 ≤ bk_m B + 1 := fun p hp => by
    have := rS_m z (show p + 1 ≤ bk_P B by omega)
    rw [rS_s] at this
    omega
  refine ⟨⟨a1, ht.1, a3, a4, fun p hp => ⟨a5 p hp, ?_⟩, a6, fun p hp k hk => ?_, fun p hp => ?_, ⟨fun p hp => ?_, ?_⟩, ht.2.1, a11, a12⟩, ht.2.2⟩
  · have h1 := hm p hp
    have h2 := a5 p hp
    have h3 := a11 p hp
    rw [a9 p (by omega), a9 (p + 1) (by omega), rS_s] at h3
    have h8 := ct_b (a8 p hp)
    have h4 : WL (xt (bk_tx B) (bk_m B)) (bk_m B + 1) := a2.2.2.2
    rcases Int.lt_or_le (z (85 + p)) 360 with c | c
    · omega
    · exfalso
      have h5 := wl_ct h4 (rS z p) 24 (by omega)
      have h6 := ct_m (tx := xt (bk_tx B) (bk_m B)) (show rS z p + 15 * 24 ≤ rS z p + (z (85 + p)).toNat by omega)
      omega
  · have := hm p hp
    have h7 := a7 p hp k hk
    rw [xt_i (by omega)] at h7; exact h7
  · have h1 := hm (p + 1) hp
    have h2 := a5 (p + 1) hp
    rw [rS_s] at h1
    have h8 := a8 p (by omega)
    rw [xt_i (by omega)] at h8; exact h8
  · have := hm p hp
    rw [a9 p (by omega), xt_c (by omega)]
  · rw [a9 _ (Nat.le_refl _), a6, xt_n, a1.1]
/-- a paragraph's words are changed -/
theorem rx_sp {B B' : bk_T} {z z' co : Nat → Int} {p x y c : Nat} (h : RX B z) (hp : p < bk_P B) (hxy : x ≤ y) (hy : (y : Int) ≤ z (85 + p) + 1)
    (ha : bd (xt (bk_tx B) (bk_m B)) (rS z p + x)) (hb : bd (xt (bk_tx B) (bk_m B)) (rS z p + y)) (hc : c = 0 ∨ EX co c)
    (hN : SP (xt (bk_tx B) (bk_m B)) co (xt (bk_tx B') (bk_m B')) (bk_m B + 1) (rS z p + x) (rS z p + y) c)
    (hm : bk_m B' + 1 = bk_m B + 1 - (y - x) + c) (h1 : 1 ≤ z (85 + p) - ((y : Int) - x) + c)
    (b1 : bk_n B' = wd_cnt (bk_tx B') (bk_m B') + 1 ∧ bk_s B' = wd_starts (bk_m B') (bk_tx B')) (b2 : bk_P B' = bk_P B) (b3 : ∀ j, bk_kd B' j = bk_kd B j)
    (b4 : ∀ j, j ≤ bk_P B → bk_fr B' j = if p + 1 ≤ j then bk_fr B j + ((bk_n B' : Int) - bk_n B) else bk_fr B j)
    (b5 : bk_fr B (p + 1) - bk_fr B p + ((bk_n B' : Int) - bk_n B) ≤ 24) (b6 : ∀ j, 0 ≤ bk_tx B' j ∧ bk_tx B' j < 128)
    (z0 : z' 0 = z 0) (z7 : ∀ j, j < bk_P B → z' (75 + j) = z (75 + j)) (z8 : ∀ j, j < bk_P B → ¬ j = p → z' (85 + j) = z (85 + j)) (z9 : z' (85 + p) = z (85 + p) - ((y : Int) - x) + c)
    (zo : ∀ j, j < bk_P B → ¬ j = p → ∀ k : Nat, (k : Int) < z (85 + j) → z' (95 + 360 * j + k) = z (95 + 360 * j + k)) (zp : ∀ k : Nat, (k : Int) < z' (85 + p) → z' (95 + 360 * p + k) = xt (bk_tx B') (bk_m B') (rS z p + k)) : RX B' z' := by
  obtain ⟨a1, a2, ⟨a3, a3'⟩, a4, a5, a6, a7, a8, a9, a11, a12⟩ := h
  have hl : ∀ j, j ≤ p → rS z' j = rS z j := fun j hj => rS_c j fun i hi => z8 i (by omega) (by omega)
  have hpL := a5 p hp
  have hr : ∀ d, p + 1 + d ≤ bk_P B → rS z' (p + 1 + d) + (y - x) = rS z (p + 1 + d) + c := by
    intro d
    induction d with
    | zero => intro _; rw [Nat.add_zero, rS_s, rS_s, hl p (Nat.le_refl _), z9]; omega
    | succ d ih =>
      intro hd
      have i1 := ih (by omega)
      have e8 := z8 (p + 1 + d) (by omega) (by omega)
      have l8 := a5 (p + 1 + d) (by omega)
      rw [show p + 1 + (d + 1) = p + 1 + d + 1 by omega, rS_s, rS_s, e8]; omega
  have hup : ∀ j, p + 1 ≤ j → j ≤ bk_P B → rS z p + (z (85 + p)).toNat + 1 ≤ rS z j ∧ rS z' j + (y - x) = rS z j + c ∧ rS z j ≤ bk_m B + 1 := fun j k1 k2 => by
    have r := hr (j - (p + 1)) (by omega)
    rw [show p + 1 + (j - (p + 1)) = j by omega] at r
    have s := rS_m z k1
    rw [rS_s] at s
    have t := rS_m z k2
    omega
  obtain ⟨c1, c2, c3⟩ := ct_sp hN
  have hex : EX (xt (bk_tx B') (bk_m B')) (bk_m B' + 1) := by
    have := hup (p + 1) (Nat.le_refl _) (by omega)
    rw [hm, show bk_m B + 1 - (y - x) + c = bk_m B + 1 - ((rS z p + y) - (rS z p + x)) + c by omega]
    exact ex_sp a2 (by omega) (by omega) ha hb hc hN (by omega)
  obtain ⟨s1, s2, s3⟩ := hN
  have hct : ∀ j, p + 1 ≤ j → j ≤ bk_P B → (wd_cnt (xt (bk_tx B') (bk_m B')) (rS z' j) : Int) = wd_cnt (xt (bk_tx B) (bk_m B)) (rS z j) + ((wd_cnt (xt (bk_tx B) (bk_m B)) (rS z p + x) : Int) + wd_cnt co c - wd_cnt (xt (bk_tx B) (bk_m B)) (rS z p + y)) := fun j k1 k2 => by
    obtain ⟨u1, u2, u3⟩ := hup j k1 k2
    have := c3 (rS z j - (rS z p + y)) (by omega)
    rw [show rS z p + x + c + (rS z j - (rS z p + y)) = rS z' j by omega, show rS z p + y + (rS z j - (rS z p + y)) = rS z j by omega] at this
    omega
  have hPn : rS z' (bk_P B) = bk_m B' + 1 := by
    obtain ⟨u1, u2, u3⟩ := hup (bk_P B) (by omega) (Nat.le_refl _)
    omega
  have hmore : (bk_n B' : Int) - bk_n B = (wd_cnt (xt (bk_tx B) (bk_m B)) (rS z p + x) : Int) + wd_cnt co c - wd_cnt (xt (bk_tx B) (bk_m B)) (rS z p + y) := by
    have := hct (bk_P B) (by omega) (Nat.le_refl _)
    rw [hPn, a6, xt_n, xt_n] at this
    omega
  refine ⟨b1, hex, ⟨by omega, by rw [z0, b2]; exact a3'⟩, fun j hj => ?_, fun j hj => ?_, by rw [b2]; exact hPn, fun j hj k hk => ?_, fun j hj => ?_, fun j hj => ?_, fun j hj => ?_, fun j _ => b6 j⟩
  · rw [b2] at hj; rw [b3, z7 j hj]; exact a4 j hj
  · rw [b2] at hj
    by_cases e : j = p
    · rw [e, z9]; exact h1
    · rw [z8 j hj e]; exact a5 j hj
  · rw [b2] at hj
    by_cases e : j = p
    · subst e
      rw [hl j (Nat.le_refl _)]; exact (zp k hk).symm
    · rw [z8 j hj e] at hk
      rw [zo j hj e k hk, ← a7 j hj k hk]
      rcases Nat.lt_or_ge j p with d | d
      · have t := rS_m z (show j + 1 ≤ p by omega)
        rw [rS_s] at t
        rw [hl j (by omega)]; exact s1 _ (by omega)
      · obtain ⟨u1, u2, u3⟩ := hup j (by omega) (by omega)
        have t := rS_m z (show j + 1 ≤ bk_P B by omega)
        rw [rS_s, a6] at t
        have := s3 (rS z j + k - (rS z p + y)) (by omega)
        rw [show rS z p + x + c + (rS z j + k - (rS z p + y)) = rS z' j + k by omega, show rS z p + y + (rS z j + k - (rS z p + y)) = rS z j + k by omega] at this
        exact this
  · rw [b2] at hj
    rcases Nat.lt_or_ge j p with d | d
    · have t := rS_m z (show j + 1 ≤ p by omega)
      rw [rS_s] at t
      rw [hl j (by omega), z8 j hj (by omega), s1 _ (by omega)]; exact a8 j hj
    · have e : rS z' j + (z' (85 + j)).toNat + 1 = rS z' (j + 1) := (rS_s z' j).symm
      obtain ⟨u1, u2, u3⟩ := hup (j + 1) (by omega) (by omega)
      have l5 := a5 j hj
      have g8 := a8 j hj
      have r := rS_s z j
      rcases Nat.lt_or_ge (rS z p + y) (rS z (j + 1)) with w | w
      · have := s3 (rS z (j + 1) - 1 - (rS z p + y)) (by omega)
        rw [show rS z p + x + c + (rS z (j + 1) - 1 - (rS z p + y)) = rS z' j + (z' (85 + j)).toNat by omega, show rS z p + y + (rS z (j + 1) - 1 - (rS z p + y)) = rS z j + (z (85 + j)).toNat by omega] at this
        rw [this]; exact g8
      · rcases hc with q | q
        · subst q
          have : rS z' j + (z' (85 + j)).toNat + 1 = rS z p + x := by omega
          rcases ha with v | ⟨v1, v2⟩
          · omega
          · rw [s1 _ (by omega), show rS z' j + (z' (85 + j)).toNat = rS z p + x - 1 by omega]; exact v2
        · have q1 := q.1
          have := s2 (c - 1) (by omega)
          rw [show rS z p + x + (c - 1) = rS z' j + (z' (85 + j)).toNat by omega] at this
          rw [this]; exact q1.2
  · rw [b2] at hj
    rw [b4 j hj]
    rcases Nat.lt_or_ge p j with d | d
    · rw [if_pos (show p + 1 ≤ j by omega), hmore, a9 j hj, hct j d hj]
    · rw [if_neg (by omega), a9 j hj, hl j d, c1 _ (by have := rS_m z d; omega)]
  · rw [b2] at hj
    rw [b4 j (by omega), b4 (j + 1) (by omega)]
    have g := a11 j hj
    by_cases e : j = p
    · subst e; rw [if_pos (by omega), if_neg (by omega)]; omega
    · rcases Nat.lt_or_ge p j with d | d
      · rw [if_pos (by omega), if_pos (by omega)]; omega
      · rw [if_neg (by omega), if_neg (by omega)]; exact g
