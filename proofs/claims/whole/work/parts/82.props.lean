/-! ===== pure: what is asked of lines and pages ===== -/
/-- the layouts of the class (Y) and of the reference are one -/
def LAYR (B : bk_T) (z nl nt sy : Nat → Int) (NT : nt_T) (Y : ly_T) (lo lf lt : Nat → Int) (ln pg : Nat) (pf : Nat → Int) : Prop :=
  Y.2.2.2.1 = ln ∧ Y.2.2.2.2.1 = pg ∧ LQ B z nl nt sy NT Y.2.1 Y.2.2.2.2.2 lo lf lt ln ∧ PQ Y.2.2.2.2.2 ln pg pf
theorem LQ.congr {B : bk_T} {z nl nt sy : Nat → Int} {NT : nt_T} {w : Int} {D E : Nat → Nat → Int} {lo lf lt : Nat → Int} {ln : Nat} (h : LQ B z nl nt sy NT w D lo lf lt ln) (he : ∀ k, k ≠ 8 → k ≠ 9 → E k = D k) : LQ B z nl nt sy NT w E lo lf lt ln := by
  obtain ⟨⟨a1, a2, a3, a4, a5⟩, b, c, d⟩ := h
  have e1 := he 1 (by omega) (by omega)
  have e2 := he 2 (by omega) (by omega)
  have e3 := he 3 (by omega) (by omega)
  have e4 := he 4 (by omega) (by omega)
  have e5 := he 5 (by omega) (by omega)
  have e6 := he 6 (by omega) (by omega)
  have e7 := he 7 (by omega) (by omega)
  refine ⟨⟨a1, ⟨by rw [e2]; exact a2.1, fun l hl => by rw [e2, e3, e4, e7]; exact a2.2 l hl⟩, by rw [e2]; exact a3, by rw [e5]; exact a4, by rw [e6]; exact a5⟩, by rw [e1]; exact b, c, d⟩
theorem lay_all {B : bk_T} {z : Nat → Int} (h : RB B z) {nl nt sy : Nat → Int} {NT : nt_T} (hN : NTR NT z nl nt) (h4 : sy 4 = 0 ∨ sy 4 = 1) (bk : Nat) (w ht : Int) (A : Nat → Nat → Int) (lo lf lt pf : Nat → Int) : ∃ ln pg : Nat, (rf_LL z nl nt sy w lo lf lt).1 = ln ∧ (1 ≤ ln ∧ ln ≤ 240) ∧ (rf_PG z nl nt sy w ht (rf_LL z nl nt sy w lo lf lt).1 (rf_LL z nl nt sy w lo lf lt).2.1 (rf_LL z nl nt sy w lo lf lt).2.2.1 (rf_LL z nl nt sy w lo lf lt).2.2.2 pf).1 = pg
    ∧ LAYR B z nl nt sy NT (ly_Y bk B w ht sy NT A) (rf_LL z nl nt sy w lo lf lt).2.1 (rf_LL z nl nt sy w lo lf lt).2.2.1 (rf_LL z nl nt sy w lo lf lt).2.2.2 ln pg (va_up (rf_PG z nl nt sy w ht (rf_LL z nl nt sy w lo lf lt).1 (rf_LL z nl nt sy w lo lf lt).2.1 (rf_LL z nl nt sy w lo lf lt).2.2.1 (rf_LL z nl nt sy w lo lf lt).2.2.2 pf).2 (rf_PG z nl nt sy w ht (rf_LL z nl nt sy w lo lf lt).1 (rf_LL z nl nt sy w lo lf lt).2.1 (rf_LL z nl nt sy w lo lf lt).2.2.1 (rf_LL z nl nt sy w lo lf lt).2.2.2 pf).1.toNat (rf_LL z nl nt sy w lo lf lt).1) := by
  obtain ⟨ln, e1, e2, e3, e4⟩ := lay_eq h nl nt sy w NT A lo lf lt
  have hq : LQ B z nl nt sy NT w (ly_A3 B w sy NT A) (rf_LL z nl nt sy w lo lf lt).2.1 (rf_LL z nl nt sy w lo lf lt).2.2.1 (rf_LL z nl nt sy w lo lf lt).2.2.2 ln := ⟨e3, e4, hN, h4⟩
  obtain ⟨pg, f1, f2, f3, f4⟩ := hq.pages ht pf
  rw [e2]
  refine ⟨ln, pg, rfl, e3.1, f2, e1, ?_, ?_, ?_⟩
  · show ly_pg B w ht sy NT A = pg
    unfold ly_pg; rw [e1]; exact f1
  · show LQ B z nl nt sy NT w (ly_A4 B w ht sy NT A) _ _ _ ln
    unfold ly_A4; rw [e1]
    exact hq.congr f4
  · show PQ (ly_A4 B w ht sy NT A) ln pg _
    unfold ly_A4; rw [e1, f2, Int.toNat_natCast]
    exact f3
section LAY
variable {B : bk_T} {z nl nt sy : Nat → Int} {NT : nt_T} {Y : ly_T} {lo lf lt : Nat → Int} {ln pg : Nat} {pf : Nat → Int}
/-- where a line begins and ends -/
theorem ln_x (hb : RB B z) (h : LAYR B z nl nt sy NT Y lo lf lt ln pg pf) {l : Nat} (hl : l < ln) : ∃ p x y : Nat, p < bk_P B ∧ lo l = p ∧ Y.2.2.2.2.2 3 l = p ∧ cl_fwl B Y (l : Int) = x ∧ cl_fwl B Y ((l : Int) + 1) = y ∧ x < y ∧ y ≤ bk_n B ∧ bk_fr B p ≤ x ∧ (y : Int) ≤ bk_fr B (p + 1) ∧ bk_ws B x = rS z p + lf l ∧ wd_end (bk_m B) (bk_n B) (bk_s B) ((y : Int) - 1) = rS z p + lt l ∧ Y.2.2.2.2.2 4 l = rf_ID z sy p (lf l) := by
  obtain ⟨e1, e2, hq, hp⟩ := h
  obtain ⟨p, x, y, a1, a2, a3, a4, a5, a6, a7, a8, a9, a10, a11, _⟩ := hq.1.2.1.at hl
  have hn := (rb_n hb (p + 1) (by omega)).2.2
  have hy : y ≤ bk_n B := by omega
  have ey : cl_fwl B Y ((l : Int) + 1) = y := by
    unfold cl_fwl
    rw [e1, show (l : Int) + 1 = ((l + 1 : Nat) : Int) by omega]
    by_cases c : l + 1 < ln
    · rw [lg_i (by omega)]; rw [va_up_ne _ _ (by omega)] at a5; exact a5
    · have e : l + 1 = ln := by omega
      rw [lg_o (by omega)]
      rw [e, va_up_self] at a5; exact a5
  refine ⟨p, x, y, a1, a3, a2, ?_, ey, a7, hy, a6, a8, ?_, ?_, a11⟩
  · unfold cl_fwl; rw [e1, lg_i (by omega)]; exact a4
  · unfold bk_ws; rw [wst (by omega), hb.1.2]; exact a9
  · rw [show (y : Int) - 1 = ((y - 1 : Nat) : Int) by omega, wen (by omega), hb.1.2, show y - 1 + 1 = y by omega]; exact a10
theorem la_eq {lo lf : Nat → Int} {q o : Int} {ln c : Nat} (hc : c < ln) (h1 : lo c = q ∧ lf c ≤ o) (h2 : ∀ l : Nat, c < l → l < ln → ¬ (lo l = q ∧ lf l ≤ o)) : ∀ (u l : Nat) (x : Int), l + u = ln → (l ≤ c ∨ x = c) → rf_la lo lf q o u l x = c
  | 0, l, x, hu, hx => by
    rcases hx with r | r
    · omega
    · exact r
  | u + 1, l, x, hu, hx => by
    unfold rf_la
    rw [Int.toNat_natCast, show (l : Int) + 1 = ((l + 1 : Nat) : Int) by omega]
    refine la_eq hc h1 h2 u (l + 1) _ (by omega) ?_
    rcases Nat.lt_trichotomy l c with r | r | r
    · left; omega
    · right; subst r; rw [if_pos h1]
    · right
      rw [if_neg (h2 l r (by omega))]
      rcases hx with r2 | r2
      · omega
      · exact r2
theorem ly_pa_sp (B : bk_T) (ln : Int) (A : Nat → Nat → Int) (place : Int) : ∀ u : Nat, ∃ c : Nat, ly_pa B ln A place u = c ∧ c ≤ u ∧ (c = 0 ∨ bk_ws B (ly_g ln (A 2) (bk_n B) (c : Int)) ≤ place) ∧ ∀ l : Nat, c < l → l ≤ u → place < bk_ws B (ly_g ln (A 2) (bk_n B) (l : Int))
  | 0 => ⟨0, rfl, by omega, Or.inl rfl, fun l a b => by omega⟩
  | u + 1 => by
    unfold ly_pa
    by_cases c : place < bk_ws B (ly_g ln (A 2) (bk_n B) ((u + 1 : Nat) : Int))
    · obtain ⟨v, a1, a2, a3, a4⟩ := ly_pa_sp B ln A place u
      rw [if_pos c]
      refine ⟨v, a1, by omega, a3, fun l b1 b2 => ?_⟩
      by_cases e : l = u + 1
      · rw [e]; exact c
      · exact a4 l b1 (by omega)
    · rw [if_neg c]
      exact ⟨u + 1, rfl, by omega, Or.inr (by omega), fun l b1 b2 => by omega⟩
/-- the line with a position -/
theorem at_line (hb : RB B z) (h : LAYR B z nl nt sy NT Y lo lf lt ln pg pf) {q : Nat} {o : Int} (hq : q < bk_P B) (ho : 0 ≤ o ∧ o ≤ z (85 + q)) : ∃ c : Nat, c < ln ∧ ly_LA B Y.2.2.2.1 Y.2.2.2.2.2 (rS z q + o) = c ∧ rf_LA ln lo lf q o = c ∧ lo c = q ∧ lf c ≤ o ∧ ∀ l : Nat, c < l → l < ln → (rS z q : Int) + o < rS z (lo l).toNat + lf l := by
  obtain ⟨e1, e2, hL, hp⟩ := id h
  have hln := hL.1.1
  obtain ⟨c, c1, c2, c3, c4⟩ := ly_pa_sp B Y.2.2.2.1 Y.2.2.2.2.2 (rS z q + o) (Y.2.2.2.1 - 1).toNat
  rw [e1] at c1 c2 c3 c4
  have hc : c < ln := by omega
  have pos : ∀ l : Nat, l < ln → ∃ p : Nat, p < bk_P B ∧ lo l = p ∧ bk_ws B (ly_g ln (Y.2.2.2.2.2 2) (bk_n B) (l : Int)) = rS z p + lf l := fun l hl => by
    obtain ⟨p, x, y, a1, a2, a3, a4, a5, a6, a7, a8, a9, a10, a11⟩ := ln_x hb h hl
    refine ⟨p, a1, a2, ?_⟩
    unfold cl_fwl at a4
    rw [e1] at a4
    rw [a4]; exact a10
  have bp := fun l (hl : l < ln) => hL.1.2.1.bp hb hl
  obtain ⟨p, p1, p2, p3⟩ := pos c hc
  obtain ⟨b1, b2, b3, b4, b5, b6⟩ := bp c hc
  rw [p2, Int.toNat_natCast] at b4
  have hpl : (rS z p : Int) + lf c ≤ rS z q + o := by
    rcases c3 with r | r
    · subst r
      have l0 := b1.mpr (Or.inl rfl)
      have hp0 : p = 0 := by
        rcases Nat.lt_trichotomy 0 p with w | w | w
        · -- the first line is in the first paragraph
          have hx := (hL.1.2.1.at hc)
          obtain ⟨p', x', y', a1, a2, a3, a4, a5, a6, a7, a8, a9, _⟩ := hx
          have h0 : Y.2.2.2.2.2 2 0 = 0 := by rcases hL.1.2.1.1 with ⟨q, _⟩ | ⟨_, q⟩; omega; exact q
          have ep : p' = p := by omega
          subst ep
          have hm := rb_fm hb p' 0 (by omega)
          have h00 : bk_fr B 0 = ((0 : Nat) : Int) := by rw [(rb_fr hb (p := 0) (by omega)).1]; rfl
          rw [Nat.zero_add] at hm
          omega
        · exact w.symm
        · omega
      subst hp0
      show ((0 : Nat) : Int) + _ ≤ _
      omega
    · omega
  have hcq : p = q := by
    rcases Nat.lt_trichotomy p q with r | r | r
    · exfalso
      have hne : c + 1 < ln := by
        rcases Nat.lt_or_ge (c + 1) ln with s | s
        · exact s
        · have := (b6 (by omega) rfl).1
          omega
      obtain ⟨d1, d2, d3, d4⟩ := b5 hne
      obtain ⟨p', p1', p2', p3'⟩ := pos (c + 1) hne
      have hgt := c4 (c + 1) (by omega) (by omega)
      rw [p3'] at hgt
      rw [p2, p2'] at d1 d2 d3 d4
      have hs := rS_lt hb r (by omega)
      by_cases s : p' = p
      · have hlf := d4 (by omega)
        have hz := hb.2.2.2.2.1 p p1
        obtain ⟨_, _, g3, g4, _⟩ := bp (c + 1) hne
        rw [p2', Int.toNat_natCast, s] at g4
        rw [s] at hgt
        omega
      · have hp' : p' = p + 1 := by omega
        have hl0 : lf (c + 1) = 0 := ((bp (c + 1) hne).1).mpr (Or.inr (by rw [show c + 1 - 1 = c by omega, p2, p2']; omega))
        have := rS_m z (show p' ≤ q by omega)
        omega
    · exact r
    · exfalso
      have hs := rS_lt hb r (by omega)
      have hz := hb.2.2.2.2.1 q hq
      omega
  subst hcq
  refine ⟨c, hc, ?_, ?_, p2, by omega, fun l r1 r2 => ?_⟩
  · unfold ly_LA; rw [e1]; exact c1
  · unfold rf_LA
    rw [Int.toNat_natCast]
    refine la_eq hc ⟨p2, by omega⟩ (fun l r1 r2 r3 => ?_) ln 0 0 (by omega) (Or.inl (by omega))
    have hgt := c4 l r1 (by omega)
    obtain ⟨p', p1', p2', p3'⟩ := pos l r2
    rw [p3'] at hgt
    have ep : p' = p := by omega
    subst ep
    omega
  · have hgt := c4 l r1 (by omega)
    obtain ⟨p', p1', p2', p3'⟩ := pos l r2
    rw [p3'] at hgt
    rw [p2', Int.toNat_natCast]; exact hgt
theorem at_page (hb : RB B z) (h : LAYR B z nl nt sy NT Y lo lf lt ln pg pf) {q : Nat} {o : Int} (hq : q < bk_P B) (ho : 0 ≤ o ∧ o ≤ z (85 + q)) : cl_at B Y (rS z q + o) = rf_PW ln lo lf pg pf q o := by
  obtain ⟨c, c1, c2, c3, _, _, _⟩ := at_line hb h hq ho
  obtain ⟨e1, e2, hL, hp⟩ := id h
  unfold cl_at ly_PA rf_PW
  rw [c2, c3, e1, lg_i (by omega)]
  exact hp.2.2.2 c c1
end LAY
