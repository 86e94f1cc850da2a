/-! ===== pure: a layout ===== -/
theorem lg_i {ln : Int} {A : Nat → Int} {df : Int} {l : Nat} (h : (l : Int) < ln) : ly_g ln A df (l : Int) = A l := by
  unfold ly_g; rw [if_pos (by omega)]; rfl
theorem lg_o {ln : Int} {A : Nat → Int} {df l : Int} (h : l < 0 ∨ ln ≤ l) : ly_g ln A df l = df := by
  unfold ly_g; rw [if_neg (by omega)]
/-- the lines laid, with their gaps and breaks -/
def LG (B : bk_T) (z nt sy : Nat → Int) (D : Nat → Nat → Int) (lo lf lt : Nat → Int) (ln : Nat) : Prop :=
  (1 ≤ ln ∧ ln ≤ 240) ∧ LR B z nt sy D lo lf lt ln (bk_n B) ∧ D 2 ln = bk_n B ∧ (∀ l : Nat, l < ln → D 5 l = rf_GB z sy lo lf l) ∧ (∀ l : Nat, 1 ≤ l → l < ln → D 6 l = rf_MB z ln lo lf l)
theorem bp_in {B : bk_T} {z nt sy : Nat → Int} {A : Nat → Nat → Int} {lo lf lt : Nat → Int} {ln X : Nat} (hb : RB B z) (h : LR B z nt sy A lo lf lt ln X) {l : Nat} (hl : l < ln) : ly_bp ln (A 3) (l : Int) = if lf l = 0 then 1 else 0 := by
  obtain ⟨p, x, y, a1, a2, a3, _⟩ := h.at hl
  obtain ⟨b1, _⟩ := h.bp hb hl
  unfold ly_bp
  rw [lg_i (by omega), a2]
  by_cases e : l = 0
  · subst e
    rw [lg_o (by omega), if_neg (by omega), if_pos (b1.mpr (Or.inl rfl))]
  · obtain ⟨p', x', y', a1', a2', a3', _⟩ := h.at (l := l - 1) (by omega)
    rw [show (l : Int) - 1 = ((l - 1 : Nat) : Int) by omega, lg_i (by omega), a2']
    by_cases c : lf l = 0
    · rw [if_pos c, if_neg]
      rcases b1.mp c with q | q
      · omega
      · rw [a3, a3'] at q; omega
    · rw [if_neg c, if_pos]
      by_cases q : (p : Int) = p'
      · exact q
      · exact absurd (b1.mpr (Or.inr (by rw [a3, a3']; omega))) c
theorem bp_end {B : bk_T} {z nt sy : Nat → Int} {A : Nat → Nat → Int} {lo lf lt : Nat → Int} {ln X : Nat} (h : LR B z nt sy A lo lf lt ln X) (h1 : 1 ≤ ln) : ly_bp ln (A 3) (ln : Int) = 1 := by
  obtain ⟨p, x, y, a1, a2, a3, _⟩ := h.at (l := ln - 1) (by omega)
  unfold ly_bp
  rw [lg_o (by omega), show (ln : Int) - 1 = ((ln - 1 : Nat) : Int) by omega, lg_i (by omega), a2, if_neg (by omega)]
theorem g5_eq {B : bk_T} {z nt sy : Nat → Int} {A : Nat → Nat → Int} {lo lf lt : Nat → Int} {ln X : Nat} (hb : RB B z) (h : LR B z nt sy A lo lf lt ln X) {l : Nat} (hl : l < ln) : ly_g5 B ln sy (A 3) l = rf_GB z sy lo lf l := by
  obtain ⟨p, x, y, a1, a2, a3, _⟩ := h.at hl
  unfold ly_g5 rf_GB
  rw [bp_in hb h hl, Int.toNat_natCast, a2, a3]
  by_cases c : lf l = 0
  · rw [if_pos c, if_pos rfl, if_pos c]
    unfold ly_gap
    rw [bk_kind_e hb a1, show ly_st sy 2 = sy 2 from if_pos (by omega), show (75 + (p : Int)).toNat = 75 + p by omega]
  · rw [if_neg c, if_neg (by omega), if_neg c]
theorem ab_eq {B : bk_T} {z nt sy : Nat → Int} {A : Nat → Nat → Int} {lo lf lt : Nat → Int} {ln X : Nat} (hb : RB B z) (h : LR B z nt sy A lo lf lt ln X) {l : Nat} (h1 : 1 ≤ l) (hl : l < ln) : ly_ab B ln (A 3) l = rf_MB z ln lo lf l := by
  obtain ⟨p, x, y, a1, a2, a3, _⟩ := h.at hl
  obtain ⟨p', x', y', a1', a2', a3', _⟩ := h.at (l := l - 1) (by omega)
  obtain ⟨b1, _⟩ := h.bp hb hl
  have i1 := bp_in hb h hl
  have i2 := bp_in hb h (l := l - 1) (by omega)
  have i3 : ly_bp ln (A 3) ((l : Int) + 1) = if (l : Int) = ln - 1 ∨ ¬ lo (l + 1) = lo l then 1 else 0 := by
    rw [show (l : Int) + 1 = ((l + 1 : Nat) : Int) by omega]
    by_cases e : l + 1 = ln
    · rw [e, bp_end h (by omega), if_pos (Or.inl (by omega))]
    · rw [bp_in hb h (by omega)]
      have c := (h.bp hb (l := l + 1) (by omega)).1
      by_cases q : lf (l + 1) = 0
      · rw [if_pos q, if_pos]
        rcases c.mp q with r | r
        · omega
        · right; rw [show l + 1 - 1 = l by omega] at r; exact fun z => r z.symm
      · rw [if_neg q, if_neg]
        rintro (r | r)
        · omega
        · exact q (c.mpr (Or.inr (by rw [show l + 1 - 1 = l by omega]; exact fun z => r z.symm)))
  unfold ly_ab rf_MB
  rw [i1, i3]
  rw [show (l : Int) - 1 = ((l - 1 : Nat) : Int) by omega, i2, lg_i (by omega), a2', Int.toNat_natCast, Int.toNat_natCast, show ((l : Int) + 1).toNat = l + 1 by omega]
  rw [bk_kind_e hb a1', a3', show (75 + (p' : Int)).toNat = 75 + p' by omega]
  have hlo : (lo l = (p' : Int)) ↔ ¬ lf l = 0 := by
    rw [b1]
    constructor
    · rintro q (r | r)
      · omega
      · exact r (by rw [a3', q])
    · intro q
      by_cases r : lo l = p'
      · exact r
      · exact absurd (Or.inr (fun z => r (by rw [← z, a3']))) q
  by_cases ck : z (75 + p') = 1
  · rw [if_pos ck, if_pos (Or.inl ck)]
  · rw [if_neg ck]
    by_cases c : lf l = 0
    · rw [if_pos c, if_pos (Or.inl rfl), if_neg]
      rintro (r | ⟨r, _⟩ | ⟨_, r⟩)
      · exact ck r
      · exact hlo.mp r c
      · exact r c
    · rw [if_neg c]
      have hq := hlo.mpr c
      by_cases c2 : lf (l - 1) = 0
      · rw [if_pos c2, if_neg (by omega), if_pos (Or.inr (Or.inl ⟨hq, c2⟩))]
      · rw [if_neg c2]
        by_cases c3 : (l : Int) = ln - 1 ∨ ¬ lo (l + 1) = lo l
        · rw [if_pos c3, if_neg (by omega), if_pos (Or.inr (Or.inr ⟨c3, c⟩))]
        · rw [if_neg c3, if_pos (Or.inr ⟨rfl, rfl⟩), if_neg]
          rintro (r | ⟨_, r⟩ | ⟨r, _⟩)
          · exact ck r
          · exact c2 r
          · exact c3 r
theorem lay_eq {B : bk_T} {z : Nat → Int} (h : RB B z) (nl nt sy : Nat → Int) (w : Int) (NT : nt_T) (A : Nat → Nat → Int) (lo lf lt : Nat → Int) : ∃ ln : Nat, ly_ln B w sy NT A = ln ∧ (rf_LL z nl nt sy w lo lf lt).1 = ln ∧ LG B z nt sy (ly_A3 B w sy NT A) (rf_LL z nl nt sy w lo lf lt).2.1 (rf_LL z nl nt sy w lo lf lt).2.2.1 (rf_LL z nl nt sy w lo lf lt).2.2.2 ln ∧ (∀ k : Nat, k < 10 → ly_A3 B w sy NT A 1 k = ly_nl w NT k) := by
  have hP := h.2.2.1
  have h0 : bk_fr B 0 = ((0 : Nat) : Int) := by rw [(rb_fr h (p := 0) (by omega)).1]; rfl
  obtain ⟨ln, A2, lo2, lf2, lt2, r1, r2, r3, r4, r5, r6⟩ := l2_eq h nl nt sy w (bk_P B) 0 0 0 (ly_A1 w NT A) lo lf lt (by omega) h0 (by omega) ⟨Or.inl ⟨rfl, rfl⟩, fun l hl => by omega⟩
  have e1 : ly_R B w sy NT A = ((ln : Int), A2) := r1
  have e2 : rf_LL z nl nt sy w lo lf lt = ((ln : Int), lo2, lf2, lt2) := by
    unfold rf_LL
    rw [hP.2, show ((bk_P B : Nat) : Int).toNat = bk_P B by omega]; exact r2
  have e3 : ly_ln B w sy NT A = ln := by unfold ly_ln; rw [e1]
  have n240 := (rb_n h (bk_P B) (by omega))
  have hfP := h.2.2.2.2.2.2.2.2.1.2
  have hln : 1 ≤ ln ∧ ln ≤ 240 := by omega
  have eAL : ly_AL B (ly_R B w sy NT A) = va_up A2 2 (va_up (A2 2) ln (bk_n B)) := by
    unfold ly_AL; rw [e1]; show va_up A2 2 (va_up (A2 2) (ln : Int).toNat _) = _; rw [Int.toNat_natCast]
  have hLR : LR B z nt sy (va_up A2 2 (va_up (A2 2) ln (bk_n B))) lo2 lf2 lt2 ln (bk_n B) := by
    refine ⟨Or.inr ⟨by omega, ?_⟩, fun l hl => ?_⟩
    · rw [va_up_self, va_up_ne _ _ (by omega)]
      rcases r3.1 with ⟨q, _⟩ | ⟨_, q⟩
      · omega
      · exact q
    · obtain ⟨p, x, y, a1, a2, a3, a4, a5, a6⟩ := r3.2 l hl
      have k2 : va_up A2 2 (va_up (A2 2) ln (bk_n B)) 2 = va_up (A2 2) ln (bk_n B) := va_up_self _ _ _
      have k3 : va_up A2 2 (va_up (A2 2) ln (bk_n B)) 3 = A2 3 := va_up_ne _ _ (by omega)
      have k4 : va_up A2 2 (va_up (A2 2) ln (bk_n B)) 4 = A2 4 := va_up_ne _ _ (by omega)
      have k7 : va_up A2 2 (va_up (A2 2) ln (bk_n B)) 7 = A2 7 := va_up_ne _ _ (by omega)
      rw [k2, k3, k4, k7]
      refine ⟨p, x, y, a1, a2, a3, (va_up_ne _ _ (by omega)).trans a4, ?_, a6⟩
      by_cases q : l + 1 = ln
      · rw [q, va_up_self]; rw [q, va_up_self] at a5; exact a5
      · exact (va_up_ne _ _ q).trans a5
  have eD : ly_A3 B w sy NT A = ly_AM B ln sy (va_up A2 2 (va_up (A2 2) ln (bk_n B))) ln := by
    unfold ly_A3; rw [eAL, e3]
  have D5 : ly_A3 B w sy NT A 5 = ji_map (ly_g5 B ln sy (va_up A2 2 (va_up (A2 2) ln (bk_n B)) 3)) (va_up A2 2 (va_up (A2 2) ln (bk_n B)) 5) ln := by rw [eD]; unfold ly_AM; rw [va_up_ne _ _ (by omega), va_up_self]
  have D6 : ly_A3 B w sy NT A 6 = ji_map (fun j => ly_ab B ln (va_up A2 2 (va_up (A2 2) ln (bk_n B)) 3) j) (va_up A2 2 (va_up (A2 2) ln (bk_n B)) 6) ln := by rw [eD]; unfold ly_AM; rw [va_up_self]
  have Do : ∀ k, k ≠ 5 → k ≠ 6 → ly_A3 B w sy NT A k = va_up A2 2 (va_up (A2 2) ln (bk_n B)) k := fun k q1 q2 => by rw [eD]; unfold ly_AM; rw [va_up_ne _ _ q2, va_up_ne _ _ q1]
  refine ⟨ln, e3, by rw [e2], ?_, fun k hk => ?_⟩
  · rw [e2]
    refine ⟨hln, ?_, ?_, fun l hl => ?_, fun l q1 q2 => ?_⟩
    · refine ⟨by rw [Do 2 (by omega) (by omega)]; exact hLR.1, fun l hl => ?_⟩
      rw [Do 2 (by omega) (by omega), Do 3 (by omega) (by omega), Do 4 (by omega) (by omega), Do 7 (by omega) (by omega)]
      exact hLR.2 l hl
    · rw [Do 2 (by omega) (by omega), va_up_self, va_up_self]
    · rw [D5]; unfold ji_map; rw [if_pos (by omega)]; exact g5_eq h hLR hl
    · rw [D6]; unfold ji_map; rw [if_pos (by omega)]; exact ab_eq h hLR q1 q2
  · rw [Do 1 (by omega) (by omega), va_up_ne _ _ (by omega), r6 1 (by omega)]
    unfold ly_A1
    rw [va_up_self]
    unfold ji_map; rw [if_pos (by omega)]
