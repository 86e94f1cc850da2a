/-! ===== pure: where a word begins ===== -/
theorem st_loc {B : bk_T} {z : Nat → Int} (h : RB B z) (nt : Nat → Int) {p : Nat} (hp : p < bk_P B) {f1 : Nat} (hf : bk_fr B (p + 1) = f1) : ∀ (u c : Nat) (k : Int), bk_fr B p ≤ c → c + u ≤ f1 → k = wd_starts (bk_m B) (bk_tx B) c - rS z p → rf_st (z (85 + p)) (rf_ch z nt p) u k = wd_starts (bk_m B) (bk_tx B) (c + u) - rS z p
  | 0, c, k, _, _, hk => hk
  | u + 1, c, k, hc, hu, hk => by
    obtain ⟨x1, y1, a1, a2, a3, a4, a5, a6, a7, a8, a9, a10⟩ := word_p h hp hc (by omega)
    have hsl := rb_sl h nt hp
    have hz := h.2.2.2.2.1 p hp
    have hr := rb_b h hp
    have hC : ∀ i : Nat, i < (z (85 + p)).toNat → rf_ch z nt p i = bk_tx B (rS z p + i) := hsl.2.1
    have hWE : rf_WE (z (85 + p)) (rf_ch z nt p) k = (y1 : Int) - rS z p := by
      refine WE_eq (by omega) (by omega) (fun i q1 q2 => ?_) ?_
      · have := hC i.toNat (by omega)
        rw [show ((i.toNat : Nat) : Int) = i by omega] at this
        rw [this]; exact a6 _ (by omega) (by omega)
      · rcases Nat.lt_or_ge y1 (rS z p + (z (85 + p)).toNat) with w | w
        · right
          have := hC (y1 - rS z p) (by omega)
          rw [show ((y1 - rS z p : Nat) : Int) = (y1 : Int) - rS z p by omega, show rS z p + (y1 - rS z p) = y1 by omega] at this
          rw [this]
          rcases a7 with v | v
          · omega
          · exact v.2
        · left; omega
    show rf_st (z (85 + p)) (rf_ch z nt p) u (rf_WE (z (85 + p)) (rf_ch z nt p) k + 1) = _
    rw [hWE, st_loc h nt hp hf u (c + 1) _ (by omega) (by omega) (by rw [a2]; omega), show c + 1 + u = c + (u + 1) by omega]
theorem ST_sz {z nl : Nat → Int} {p : Nat} (hp : p < 10) : rf_sz z nl p = z (85 + p) := by
  unfold rf_sz; rw [if_pos (by omega)]; exact congrArg _ (by omega)
/-- a word that is there: its place in both, and a word begins there -/
theorem ST_eq {B : bk_T} {z : Nat → Int} (h : RB B z) (nl nt : Nat → Int) {p : Nat} (hp : p < bk_P B) {w : Int} (hw : 0 ≤ w ∧ w < bk_fr B (p + 1) - bk_fr B p) : ∃ x : Nat, rf_ST (rf_sz z nl p) (rf_ch z nt p) w = x ∧ bk_ws B (bk_fw B p + w) = rS z p + x ∧ (x : Int) < z (85 + p) ∧ bd (xt (bk_tx B) (bk_m B)) (rS z p + x) ∧ (0 < w → 1 ≤ x) ∧ (w = 0 → x = 0) := by
  obtain ⟨f0, e0, l0, s0⟩ := rb_st h (p := p) (by omega)
  obtain ⟨f1, e1, l1, s1⟩ := rb_st h (p := p + 1) (by omega)
  have h10 := h.2.2.1.1
  have hs := st_loc h nt hp e1 w.toNat f0 0 (by omega) (by omega) (by omega)
  obtain ⟨x1, y1, a1, a2, a3, a4, a5, a6, a7, a8, a9, a10⟩ := word_p h hp (c := f0 + w.toNat) (by omega) (by omega)
  have hz := h.2.2.2.2.1 p hp
  rw [a1] at hs
  refine ⟨x1 - rS z p, ?_, ?_, by omega, ?_, ?_, ?_⟩
  · unfold rf_ST
    rw [ST_sz (by omega), hs, if_neg (by omega)]; omega
  · rw [bk_fw_e (by omega), e0, show (f0 : Int) + w = ((f0 + w.toNat : Nat) : Int) by omega, a8]; omega
  · rw [show rS z p + (x1 - rS z p) = x1 by omega]
    obtain ⟨x, y, b1, b2, b3, b4, b5, b6, b7, b8, b9⟩ := st_w (tx := bk_tx B) (m := bk_m B) (c := f0 + w.toNat) (by have := h.1.1; omega)
    have : x = x1 := by omega
    subst this
    rcases b9 with r | ⟨r1, r2⟩
    · exact Or.inl r
    · exact Or.inr ⟨r1, by rw [xt_i (by omega)]; exact r2⟩
  · intro k
    have := st_le h.2.1 (x := f0) (y := f0 + w.toNat) (by omega) (by omega)
    omega
  · intro k
    rw [k] at a1
    have : wd_starts (bk_m B) (bk_tx B) f0 = x1 := a1
    omega
theorem ST_end {B : bk_T} {z : Nat → Int} (h : RB B z) (nl nt : Nat → Int) {p : Nat} (hp : p < bk_P B) {w : Int} (hw : w = bk_fr B (p + 1) - bk_fr B p) : rf_ST (rf_sz z nl p) (rf_ch z nt p) w = z (85 + p) ∧ bd (xt (bk_tx B) (bk_m B)) (rS z p + ((z (85 + p)).toNat + 1)) := by
  obtain ⟨f0, e0, l0, s0⟩ := rb_st h (p := p) (by omega)
  obtain ⟨f1, e1, l1, s1⟩ := rb_st h (p := p + 1) (by omega)
  have h10 := h.2.2.1.1
  have hlt := rb_fl h hp
  have hz := h.2.2.2.2.1 p hp
  have hr := rb_b h hp
  have hs := st_loc h nt hp e1 w.toNat f0 0 (by omega) (by omega) (by omega)
  rw [show f0 + w.toNat = f1 by omega, s1, rS_s] at hs
  refine ⟨?_, Or.inr ⟨by omega, ?_⟩⟩
  · unfold rf_ST
    rw [ST_sz (by omega), hs, if_pos (by omega)]
  · rw [show rS z p + ((z (85 + p)).toNat + 1) - 1 = rS z p + (z (85 + p)).toNat by omega]
    rcases Nat.lt_or_ge (p + 1) (bk_P B) with c | c
    · have := rb_b h c
      rw [rS_s] at this
      rw [xt_i (by omega)]; exact h.2.2.2.2.2.2.2.1 p c
    · have := h.2.2.2.2.2.1
      rw [show bk_P B = p + 1 by omega, rS_s] at this
      exact xt_o (by omega)
