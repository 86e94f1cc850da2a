/-! ===== pure: what stands beside the relation ===== -/
theorem rS_360 {z : Nat → Int} : ∀ p : Nat, (∀ j, j < p → z (85 + j) ≤ 359) → rS z p ≤ 360 * p
  | 0, _ => Nat.le_refl _
  | p + 1, h => by
    have := rS_360 (z := z) p fun j hj => h j (by omega)
    have := h p (by omega)
    rw [rS_s]; omega
theorem rb_m {B : bk_T} {z : Nat → Int} (h : RB B z) : bk_m B ≤ 3600 := by
  have h1 := rS_360 (z := z) (bk_P B) fun j hj => (h.2.2.2.2.1 j hj).2
  have h2 := h.2.2.2.2.2.1
  have h3 := h.2.2.1.1.2
  omega
theorem rb_ok {B : bk_T} {z : Nat → Int} (h : RB B z) (hx : BX B) : bk_ok B ∧ bk_ne B := by
  have hm := rb_m h
  refine ⟨⟨?_, h.2.2.1.1, hx.2.1, hx.2.2.1⟩, fun w sty NT A => ?_⟩
  · rw [h.1.1, h.1.2]; exact wd_mk_ok (by omega) hx.2.2.2
  · obtain ⟨ln, e1, e2, e3, e4⟩ := lay_eq h (fun _ => 0) (fun _ => 0) sty w NT A (fun _ => 0) (fun _ => 0) (fun _ => 0)
    rw [e1]; have := e3.1; omega
/-- places of the reference's row, all of them -/
def ZX (z : Nat → Int) : Prop := (∀ j, -10000 ≤ z j ∧ z j ≤ 10000) ∧ (∀ j, 75 ≤ j → j < 85 → 0 ≤ z j ∧ z j ≤ 2) ∧ (∀ j, 85 ≤ j → j < 95 → 0 ≤ z j ∧ z j ≤ 359) ∧ ∀ j, 95 ≤ j → 0 ≤ z j ∧ z j < 128
theorem zx_rz {B : bk_T} {z : Nat → Int} (h : RB B z) (hz : ZX z) : rz_ok z := by
  have := h.2.2.1
  exact ⟨hz.1, by omega, hz.2.2⟩
theorem rb_rc {B : bk_T} {z : Nat → Int} (h : RB B z) : rc_ok z := by
  intro q k hq hk hc
  obtain ⟨p, rfl⟩ : ∃ p : Nat, q = p := ⟨q.toNat, by omega⟩
  obtain ⟨i, rfl⟩ : ∃ i : Nat, k = i := ⟨k.toNat, by omega⟩
  have hP := h.2.2.1.2
  have hp : p < bk_P B := by omega
  have e85 : (85 + (p : Int)).toNat = 85 + p := by omega
  have e95 : ∀ i : Nat, (95 + 360 * (p : Int) + i).toNat = 95 + 360 * p + i := fun i => by omega
  rw [e85] at hk
  rw [e95] at hc
  rw [show ((i : Int) + 1) = ((i + 1 : Nat) : Int) by omega, e95]
  have hch := h.2.2.2.2.2.2.1 p hp
  have hb := rb_b h hp
  rw [← hch i hk.2] at hc
  obtain ⟨r1, r2, r3⟩ := h.2.2.2.2.2.2.2.2.2.1 _ (by omega) hc
  rcases Int.lt_or_le ((i + 1 : Nat) : Int) (z (85 + p)) with c | c
  · rw [← hch (i + 1) c, show rS z p + (i + 1) = rS z p + i + 1 by omega]; exact r2
  · exfalso
    have e : rS z p + i + 1 = rS z p + (z (85 + p)).toNat := by omega
    rcases Nat.lt_or_ge (p + 1) (bk_P B) with d | d
    · have := h.2.2.2.2.2.2.2.1 p d
      rw [e] at r2; omega
    · have s := h.2.2.2.2.2.1
      rw [show bk_P B = p + 1 by omega, rS_s] at s
      omega
theorem rb_rf {B : bk_T} {z : Nat → Int} {M : mk_T} (h : RB B z) (hz : ZX z) (hm : MR (bk_P B) z M) {nl nt sy : Nat → Int} (hn : nl_ok nl nt) (hs : ∀ j, 0 ≤ sy j ∧ sy j ≤ 4) {wi ht : Int} (hw : (18 ≤ wi ∧ wi ≤ 60) ∧ 2 ≤ ht ∧ ht ≤ 20) : rf_ok wi ht z nl nt sy :=
  ⟨zx_rz h hz, hn, ⟨hz.2.1, hs⟩, rb_rc h, hw, ⟨hm.2.2.2.1.2, hm.2.1.2⟩, fun w lo lf lt _ => by
    obtain ⟨ln, e1, e2, e3, e4⟩ := lay_eq h nl nt sy w (fun _ => none) (fun _ _ => 0) lo lf lt
    rw [e2]; have := e3.1; omega⟩
theorem zx_up {z : Nat → Int} (h : ZX z) {j : Nat} {x : Int} (h0 : -10000 ≤ x ∧ x ≤ 10000) (h1 : 75 ≤ j → j < 85 → 0 ≤ x ∧ x ≤ 2) (h2 : 85 ≤ j → j < 95 → 0 ≤ x ∧ x ≤ 359) (h3 : 95 ≤ j → 0 ≤ x ∧ x < 128) : ZX (va_up z j x) := by
  refine ⟨fun i => ?_, fun i a b => ?_, fun i a b => ?_, fun i a => ?_⟩ <;> by_cases e : i = j
  · rw [e, va_up_self]; exact h0
  · rw [va_up_ne _ _ e]; exact h.1 i
  · rw [e, va_up_self]; exact h1 (by omega) (by omega)
  · rw [va_up_ne _ _ e]; exact h.2.1 i a b
  · rw [e, va_up_self]; exact h2 (by omega) (by omega)
  · rw [va_up_ne _ _ e]; exact h.2.2.1 i a b
  · rw [e, va_up_self]; exact h3 (by omega)
  · rw [va_up_ne _ _ e]; exact h.2.2.2 i a
theorem zx_lb0 {z : Nat → Int} (h : ZX z) : ZX (rf_lb0 z) := by
  have e : ∀ j, j < 95 → 1 ≤ j → rf_lb0 z j = 0 := fun j a b => by rw [rl0 z j a, if_neg (by omega)]
  have e0 : rf_lb0 z 0 = 1 := rfl
  have e9 : ∀ j, 95 ≤ j → rf_lb0 z j = z j := fun j a => by
    unfold rf_lb0; rw [va_up_ne _ _ (by omega)]; unfold ji_map; rw [if_neg (by omega)]
  refine ⟨fun j => ?_, fun j a b => by rw [e j (by omega) (by omega)]; omega, fun j a b => by rw [e j (by omega) (by omega)]; omega, fun j a => by rw [e9 j a]; exact h.2.2.2 j a⟩
  rcases Nat.lt_or_ge j 95 with a | a
  · rcases Nat.eq_zero_or_pos j with b | b
    · rw [b, e0]; omega
    · rw [e j a b]; omega
  · rw [e9 j a]; exact h.1 j
theorem zx_lb {z bf : Nat → Int} (h : ZX z) (hb : ∀ k, 0 ≤ bf k ∧ bf k < 128) : ∀ i : Nat, i ≤ 100 → in_tm bf 124 i ≤ 9 → ZX (rf_lb (rf_lb0 z) bf i) ∧ ∀ j, 1 ≤ j → j < 75 → rf_lb (rf_lb0 z) bf i j = 0
  | 0, _, _ => ⟨zx_lb0 h, fun j a b => by show rf_lb0 z j = 0; rw [rl0 z j (by omega), if_neg (by omega)]⟩
  | i + 1, hi, h9 => by
    have hs : in_tm bf 124 (i + 1) = in_tm bf 124 i + (if bf i = 124 then 1 else 0) := rfl
    have h8 : in_tm bf 124 i ≤ 9 := by rw [hs] at h9; split at h9 <;> omega
    have h7 := in_tm_b bf 124 i
    obtain ⟨k1, k2⟩ := zx_lb h hb i (by omega) h8
    obtain ⟨b1, b2⟩ := rf_lb_b (z := z) (bf := bf) i h8
    have hbi := hb i
    show ZX (rf_lb1 (rf_lb (rf_lb0 z) bf i) (bf i)) ∧ ∀ j, 1 ≤ j → j < 75 → rf_lb1 (rf_lb (rf_lb0 z) bf i) (bf i) j = 0
    generalize rf_lb (rf_lb0 z) bf i = Z at k1 k2 b1 b2 ⊢
    have hq := b2 (85 + (Z 0 - 1)).toNat (by omega) (by omega)
    unfold rf_lb1
    split
    · exact ⟨zx_up k1 (by omega) (fun a => by omega) (fun a => by omega) (fun a => by omega), fun j a b => by rw [va_up_ne _ _ (by omega)]; exact k2 j a b⟩
    · split
      · exact ⟨zx_up k1 (by split <;> omega) (fun a b => by split <;> omega) (fun a => by omega) (fun a => by omega), fun j a b => by rw [va_up_ne _ _ (by omega)]; exact k2 j a b⟩
      · rw [va_up_ne (j := (85 + (Z 0 - 1)).toNat) _ _ (by omega)]
        exact ⟨zx_up (zx_up k1 (by omega) (fun a => by omega) (fun a => by omega) (fun a => hbi)) (by omega) (fun a => by omega) (fun a b => by omega) (fun a => by omega), fun j a b => by rw [va_up_ne _ _ (by omega), va_up_ne _ _ (by omega)]; exact k2 j a b⟩
theorem mr_0 {B : bk_T} {z : Nat → Int} (h : RB B z) (h0 : ∀ j, 1 ≤ j → j < 75 → z j = 0) (X : (Nat → Int) × (Nat → Int) × (Nat → Int) × (Nat → Int)) : MR (bk_P B) z (0, 0, 0, X) := by
  have h1 := h0 1 (by omega) (by omega)
  have h2 := h0 2 (by omega) (by omega)
  have h3 := h0 3 (by omega) (by omega)
  have h4 := h0 14 (by omega) (by omega)
  have hP := h.2.2.1.1.1
  have h5 := (h.2.2.2.2.1 0 hP).1
  refine ⟨⟨0, h1, hP, by show 0 ≤ z 2; omega, by show z 2 < z 85; have : 1 ≤ z 85 := h5; omega, by show (0 : Int) = ((0 : Nat) : Int) + z 2; omega⟩, ⟨h3.symm, by omega⟩, fun k hk => by omega, ⟨h4.symm, by omega⟩, fun k hk => by omega⟩
/-- a note is kept -/
theorem sn_o {nt bf : Nat → Int} {k : Nat} : ∀ (n j : Nat), (j < 100 * k ∨ 100 * k + n ≤ j) → rf_sn1 nt bf k n j = nt j
  | 0, _, _ => rfl
  | n + 1, j, h => by
    show va_up (rf_sn1 nt bf k n) (100 * (k : Int) + n).toNat (bf n) j = nt j
    rw [va_up_ne _ _ (by omega)]; exact sn_o n j (by omega)
theorem sn_i {nt bf : Nat → Int} {k : Nat} : ∀ (n i : Nat), i < n → rf_sn1 nt bf k n (100 * k + i) = bf i
  | n + 1, i, h => by
    show va_up (rf_sn1 nt bf k n) (100 * (k : Int) + n).toNat (bf n) (100 * k + i) = bf i
    by_cases e : i = n
    · subst e; rw [show (100 * (k : Int) + i).toNat = 100 * k + i by omega, va_up_self]
    · rw [va_up_ne _ _ (by omega)]; exact sn_i n i (by omega)
theorem nl_sn {nl nt bf : Nat → Int} (h : nl_ok nl nt) (hb : ∀ k, 0 ≤ bf k ∧ bf k < 128) {k : Nat} {len : Int} (hl : 0 ≤ len ∧ len ≤ 100) : nl_ok (va_up nl k len) (rf_sn1 nt bf k len.toNat) := by
  refine ⟨fun j => ?_, fun j => ?_⟩
  · by_cases e : j = k
    · rw [e, va_up_self]; exact hl
    · rw [va_up_ne _ _ e]; exact h.1 j
  · by_cases c : j < 100 * k ∨ 100 * k + len.toNat ≤ j
    · rw [sn_o _ _ c]; exact h.2 j
    · rw [show j = 100 * k + (j - 100 * k) by omega, sn_i _ _ (by omega)]; exact hb _
theorem nt_0 (len : Int) (g : Nat → Int) (k : Int) : in_nt len g k 0 = 48 + k := va_up_self _ _ _
theorem nt_j {len : Int} {g : Nat → Int} {k : Int} (h0 : 0 ≤ len) {j : Nat} (h : (j : Int) < len + 2) (h1 : 1 ≤ j) : in_nt len g k j = if j = 1 then 32 else g (j - 2) := by
  unfold in_nt
  rw [va_up_ne _ _ (by omega)]
  unfold ji_fill
  rw [if_pos (by omega)]
  show (if 0 ≤ (j : Int) - 2 ∧ (j : Int) - 2 < len then g ((j : Int) - 2).toNat else 32) = _
  by_cases e : j = 1
  · rw [if_neg (by omega), if_pos e]
  · rw [if_pos (by omega), if_neg e]
    exact congrArg _ (by omega)
theorem nt_tw {len : Int} {g : Nat → Int} {k : Int} (h0 : 0 ≤ len ∧ len ≤ 100) (hk : 0 ≤ k ∧ k ≤ 9) (h : in_whole len g 0 = 1) : tw_ok (in_nt len g k) (2 + len + 0).toNat ∧ wd_cnt (in_nt len g k) (2 + len + 0).toNat + 1 ≤ 100 ∧ 1 ≤ len := by
  obtain ⟨⟨t1, t2⟩, t3, t4⟩ := (text_ok h0 h).1
  have t5 := (text_ok h0 h).2.2
  have e0 := nt_0 len g k
  have ej := fun (j : Nat) => nt_j (len := len) (g := g) (k := k) h0.1 (j := j)
  have e1 : in_nt len g k 1 = 32 := by rw [ej 1 (by omega) (by omega), if_pos rfl]
  have e2 : ∀ i : Nat, (i : Int) < len → in_nt len g k (i + 2) = g i := fun i hi => by
    rw [ej (i + 2) (by omega) (by omega), if_neg (by omega)]; rfl
  refine ⟨⟨by omega, fun j q1 q2 => ?_⟩, ?_, by omega⟩
  · rcases Nat.lt_or_ge j 2 with c | c
    · have : j = 1 := by
        rcases Nat.eq_zero_or_pos j with d | d
        · rw [d, e0] at q2; omega
        · omega
      subst this
      refine ⟨by omega, by omega, ?_⟩
      have : in_nt len g k (0 + 2) = g 0 := e2 0 (by omega)
      rw [show 1 + 1 = 0 + 2 from rfl, this]
      intro z
      have := t2 0 (by omega) z
      omega
    · rw [show j = (j - 2) + 2 by omega, e2 (j - 2) (by omega)] at q2
      obtain ⟨r1, r2, r3⟩ := t2 (j - 2) (by omega) q2
      refine ⟨by omega, by omega, ?_⟩
      rw [show j + 1 = (j - 2 + 1) + 2 by omega, e2 _ (by omega)]; exact r3
  · have key : ∀ i : Nat, (i : Int) ≤ len → wd_cnt (in_nt len g k) (i + 2) = 1 + wd_cnt g i := by
      intro i
      induction i with
      | zero =>
        intro _
        show 0 + (if in_nt len g k 0 = 32 then 1 else 0) + (if in_nt len g k 1 = 32 then 1 else 0) = 1 + 0
        rw [if_neg (by omega), if_pos e1]
      | succ i ih =>
        intro hi
        show wd_cnt (in_nt len g k) (i + 2) + (if in_nt len g k (i + 2) = 32 then 1 else 0) = 1 + (wd_cnt g i + (if g i = 32 then 1 else 0))
        rw [ih (by omega), e2 i (by omega)]; omega
    rw [show (2 + len + 0).toNat = len.toNat + 2 by omega, key _ (by omega)]; omega
theorem ntr_set {NT : nt_T} {z nl nt g bf : Nat → Int} (h : NTR NT z nl nt) (hn : nl_ok nl nt) {len : Int} (h0 : 0 ≤ len ∧ len ≤ 100) (hw : in_whole len g 0 = 1) (hf : ∀ k : Nat, (k : Int) < len → g k = bf k) {k : Nat} (hk : k < 10) : NTR (va_up NT k (some ((2 + len + 0).toNat, wd_cnt (in_nt len g k) (2 + len + 0).toNat + 1, in_nt len g k, wd_starts (2 + len + 0).toNat (in_nt len g k)))) z (va_up nl k len) (rf_sn1 nt bf k len.toNat) := by
  obtain ⟨t1, t2, t3⟩ := nt_tw (k := k) h0 (by omega) hw
  intro i hi
  by_cases e : i = k
  · subst e
    right
    refine ⟨_, _, va_up_self _ _ _, by rw [va_up_self]; omega, by rw [va_up_self]; exact t3, t1, fun j hj => ?_⟩
    unfold rf_ch
    rw [if_neg (by omega)]
    by_cases c0 : j = 0
    · subst c0; rw [if_pos (show ((0 : Nat) : Int) = 0 from rfl), nt_0]; omega
    · rw [if_neg (by omega), nt_j h0.1 (by omega) (by omega)]
      by_cases c1 : j = 1
      · rw [if_pos (by omega), if_pos c1]
      · rw [if_neg (by omega), if_neg c1, show (100 * (10 + (i : Int) - 10) + (j : Int) - 2).toNat = 100 * i + (j - 2) by omega, sn_i _ _ (by omega)]
        exact (hf _ (by omega)).symm
  · rcases h i hi with ⟨r1, r2⟩ | ⟨m, tx, r1, r2, r3, r4, r5⟩
    · left; rw [va_up_ne _ _ e, va_up_ne _ _ e]; exact ⟨r1, r2⟩
    · right
      refine ⟨m, tx, by rw [va_up_ne _ _ e]; exact r1, by rw [va_up_ne _ _ e]; exact r2, by rw [va_up_ne _ _ e]; exact r3, r4, fun j hj => ?_⟩
      rw [← r5 j hj]
      unfold rf_ch
      by_cases c0 : (j : Int) = 0
      · rw [if_neg (by omega), if_pos c0, if_neg (by omega), if_pos c0]
      by_cases c1 : (j : Int) = 1
      · rw [if_neg (by omega), if_neg c0, if_pos c1, if_neg (by omega), if_neg c0, if_pos c1]
      rw [if_neg (by omega), if_neg c0, if_neg c1, if_neg (by omega), if_neg c0, if_neg c1]
      have := hn.1 i
      exact sn_o _ _ (by omega)
theorem ntr_rem {NT : nt_T} {z nl nt : Nat → Int} (h : NTR NT z nl nt) {k : Nat} : NTR (va_up NT k none) z (va_up nl k 0) nt := by
  intro i hi
  by_cases e : i = k
  · subst e; left; rw [va_up_self, va_up_self]; exact ⟨rfl, rfl⟩
  · rw [va_up_ne _ _ e, va_up_ne _ _ e]; exact h i hi
