def ly_L (B : bk_T) (w : Int) (sty : Nat → Int) (A : Nat → Nat → Int) : Int × (Nat → Nat → Int) := ly_bl B w sty (bk_P B) 0 (0, A)
def ly_AL (B : bk_T) (R : Int × (Nat → Nat → Int)) : Nat → Nat → Int := va_up R.2 2 (va_up (R.2 2) R.1.toNat (bk_n B))
section MLayout6
variable {G : ji_G} {d n b bk : Nat} {f : Nat → ji_C} {w h ln pg : Int} {A : Nat → Nat → Int} {B : bk_T} {sty : Nat → Int}
set_option maxHeartbeats 4000000 in
set_option maxRecDepth 100000 in
theorem k_Book_words_w {h : ji_H} {b w k q : Nat} (hb : h.2 b = .inl (0, [.ref w, .ref k, .ref q])) : JR G d mX0_words [.ref b] h 0 0 (some (.ref w)) h := by
  refine ji_ent (by decide) rfl (Nat.le_of_ble_eq_true rfl) rfl ?_
  refine ji_aload_n dX0_words_0 rfl trivial ?_
  refine ji_get (ci := 0) (k := 0) rfl dX0_words_1 lX0_9 (by decide) (hb) rfl ?_
  exact ji_areturn dX0_words_4 rfl (Or.inl ⟨_, rfl⟩) trivial ⟨rfl, rfl⟩

set_option maxHeartbeats 4000000 in
set_option maxRecDepth 100000 in
theorem k_Layout_breakLines_l2 (hcx : ly_cx n f b bk B sty) (hw9 : 0 ≤ w ∧ w ≤ 1000) {RR : Int × (Nat → Nat → Int)} : ∀ (u : Nat) (p ln : Int) (A : Nat → Nat → Int) (ww : Nat) (o3 o4 o5 o6 : Option Value), (∀ (ln : Int) (A : Nat → Nat → Int), wd_at (n, ly_f b f bk w h ln pg A) ww (bk_m B) (bk_n B) (bk_tx B) (bk_s B)) → 0 ≤ p ∧ p + u = bk_P B → 0 ≤ ln ∧ ln ≤ 240 → (∀ k j, -100000 ≤ A k j ∧ A k j ≤ 100000) → RR = ly_bl B w sty u p (ln, A) →
    JW G (d + 3) mX3_breakLines 15 [some (.ref b), some (.ref ww), some (.int (jI p)), o3, o4, o5, o6] [] (n, ly_f b f bk w h ln pg A) 0 0 (fun r9 h9 => r9 = .inl none ∧ h9 = (n, ly_f b f bk w h (RR.1) pg (ly_AL B RR))) := by
  intro u
  induction u with
  | zero =>
    intro p ln A ww o3 o4 o5 o6 hww hp hl hA hR
    obtain ⟨hbb, hsty, hbk0, hko, hst⟩ := id hcx
    have hbk : bk_at (n, ly_f b f bk w h ln pg A) bk B := hbk0.kept (ly_keep hbb)
    have hwd := hww ln A
    obtain ⟨t9, q9, hw, -⟩ := id hwd
    obtain ⟨xx1, xx2, xx3, hb, -⟩ := id hbk
    obtain ⟨hwo, k1, k2, k3⟩ := id hko
    obtain ⟨o1, o2, o3, o4⟩ := id hwo
    rw [ly_bl] at hR
    subst hR
    refine ji_iload_n dX3_breakLines_15 rfl ?_
    refine ji_aload_n dX3_breakLines_16 rfl trivial ?_
    refine ji_get (ci := 3) (k := 2) rfl dX3_breakLines_17 lX3_40 (by decide) (ly_0) rfl ?_
    refine ji_cV dX3_breakLines_20 (k_Book_paragraphs hbk hko) rfl (hb) rfl rfl wX0_paragraphs vX0_paragraphs lX3_89 rfl (Nat.le_of_ble_eq_true rfl) rfl ?_
    refine ji_icmp_ge (tgt := 162) dX3_breakLines_23 rfl (by omega) (by omega) (fun c23 => ?_) (fun c23 => absurd c23 (by omega))
    refine ji_aload_n dX3_breakLines_162 rfl trivial ?_
    refine ji_get (ci := 3) (k := 7) rfl dX3_breakLines_163 lX3_15 (by decide) (ly_0) rfl ?_
    refine ji_aload_n dX3_breakLines_166 rfl trivial ?_
    refine ji_get (ci := 3) (k := 6) rfl dX3_breakLines_167 lX3_86 (by decide) (ly_0) rfl ?_
    refine ji_aload_n dX3_breakLines_170 rfl trivial ?_
    refine ji_cV dX3_breakLines_171 (k_Words_size hwd hwo) rfl (hw) rfl rfl wX6_size vX6_size lX3_110 rfl (Nat.le_of_ble_eq_true rfl) rfl ?_
    refine ji_iastoreE dX3_breakLines_174 (ly_a2) (by omega) (ly_s2) ?_
    exact ji_return dX3_breakLines_175 rfl ⟨rfl, rfl⟩
  | succ u ih =>
    intro p ln A ww o3 o4 o5 o6 hww hp hl hA hR
    obtain ⟨hbb, hsty, hbk0, hko, hst⟩ := id hcx
    have hbk : bk_at (n, ly_f b f bk w h ln pg A) bk B := hbk0.kept (ly_keep hbb)
    have hwd := hww ln A
    obtain ⟨t9, q9, hw, -⟩ := id hwd
    obtain ⟨xx1, xx2, xx3, hb, -⟩ := id hbk
    obtain ⟨hwo, k1, k2, k3⟩ := id hko
    obtain ⟨o1, o2, o3, o4⟩ := id hwo
    have q1 := bk_fw_b hko p
    have q2 := bk_fw_b hko (p + 1)
    have q3 := ly_fi_b (B := B) hst p
    have q4 := ly_bl1_b (B := B) (w := w) (p := p) (stop := bk_fw B (p + 1)) hst (by omega) q2 (bk_fw B (p + 1) - bk_fw B p).toNat (bk_fw B p) (ly_fi B sty p) ln A q1 q3 hl hA
    refine ji_iload_n dX3_breakLines_15 rfl ?_
    refine ji_aload_n dX3_breakLines_16 rfl trivial ?_
    refine ji_get (ci := 3) (k := 2) rfl dX3_breakLines_17 lX3_40 (by decide) (ly_0) rfl ?_
    refine ji_cV dX3_breakLines_20 (k_Book_paragraphs hbk hko) rfl (hb) rfl rfl wX0_paragraphs vX0_paragraphs lX3_89 rfl (Nat.le_of_ble_eq_true rfl) rfl ?_
    refine ji_icmp_ge (tgt := 162) dX3_breakLines_23 rfl (by omega) (by omega) (fun c23 => absurd c23 (by omega)) (fun c23 => ?_)
    refine ji_aload_n dX3_breakLines_26 rfl trivial ?_
    refine ji_get (ci := 3) (k := 2) rfl dX3_breakLines_27 lX3_40 (by decide) (ly_0) rfl ?_
    refine ji_iload_n dX3_breakLines_30 rfl ?_
    refine ji_cV dX3_breakLines_31 (k_Book_firstWordOf hbk hko (by omega)) rfl (hb) rfl rfl wX0_firstWordOf vX0_firstWordOf lX3_93 rfl (Nat.le_of_ble_eq_true rfl) rfl ?_
    refine ji_istore_n dX3_breakLines_34 (by decide) rfl ?_
    refine ji_aload_n dX3_breakLines_35 rfl trivial ?_
    refine ji_get (ci := 3) (k := 2) rfl dX3_breakLines_36 lX3_40 (by decide) (ly_0) rfl ?_
    refine ji_iload_n dX3_breakLines_39 rfl ?_
    refine ji_iconst dX3_breakLines_40 ?_
    refine ji_iadd dX3_breakLines_41 ?_
    refine ji_cV dX3_breakLines_42 (k_Book_firstWordOf hbk hko (by omega)) rfl (hb) rfl rfl wX0_firstWordOf vX0_firstWordOf lX3_93 rfl (Nat.le_of_ble_eq_true rfl) rfl ?_
    refine ji_istore dX3_breakLines_45 (by decide) rfl ?_
    refine ji_aload_n dX3_breakLines_47 rfl trivial ?_
    refine ji_iload_n dX3_breakLines_48 rfl ?_
    refine ji_cV dX3_breakLines_49 (k_Layout_firstIndentOf hcx hA hl (by omega)) rfl (ly_0) rfl rfl wX3_firstIndentOf vX3_firstIndentOf lX3_96 rfl (Nat.le_of_ble_eq_true rfl) rfl ?_
    refine ji_istore dX3_breakLines_52 (by decide) rfl ?_
    refine k_Layout_breakLines_l1 (p := p) (stop := bk_fw B (p + 1)) (RR := ly_bl1 B w sty p (bk_fw B (p + 1)) (bk_fw B (p + 1) - bk_fw B p).toNat (bk_fw B p) (ly_fi B sty p) ln A) hcx hw9 (by omega) q2 (fun p3 p4 p5 p6 => ?_) hww (bk_fw B (p + 1) - bk_fw B p).toNat _ _ _ _ _ q1 (by omega) q3 hl hA rfl
    refine ji_iinc dX3_breakLines_156 (by decide) rfl rfl ?_
    refine ji_goto (tgt := 15) dX3_breakLines_159 rfl ?_
    exact ih _ _ _ _ _ _ _ _ hww (by omega) q4.1 q4.2 (by rw [hR, ly_bl])

set_option maxHeartbeats 4000000 in
set_option maxRecDepth 100000 in
theorem k_Layout_breakLines (hcx : ly_cx n f b bk B sty) (hA : ∀ k j, -100000 ≤ A k j ∧ A k j ≤ 100000) (hl : 0 ≤ ln ∧ ln ≤ 240) (hw9 : 0 ≤ w ∧ w ≤ 1000) : JR G (d + 3) mX3_breakLines [.ref b] (n, ly_f b f bk w h ln pg A) 0 0 none (n, ly_f b f bk w h ((ly_L B w sty A).1) pg (ly_AL B (ly_L B w sty A))) := by
  obtain ⟨hbb, hsty, hbk0, hko, hst⟩ := id hcx
  have hbk : bk_at (n, ly_f b f bk w h ln pg A) bk B := hbk0.kept (ly_keep hbb)
  obtain ⟨ww, xk, xf, hb0, xh1, xh2, hwd1, xdy, xlt⟩ := id hbk0
  have hwx : ∀ (ln : Int) (A : Nat → Nat → Int), wd_at (n, ly_f b f bk w h ln pg A) ww (bk_m B) (bk_n B) (bk_tx B) (bk_s B) := fun ln A => hwd1.kept (ly_keep hbb)
  have hwd := hwx ln A
  have hwr : ∀ {d : Nat}, JR G d mX0_words [.ref bk] (n, ly_f b f bk w h ln pg A) 0 0 (some (.ref ww)) (n, ly_f b f bk w h ln pg A) := fun {d} => k_Book_words_w (((ly_keep (n := n) hbb).2 bk xdy.1 xlt.1).trans hb0)
  obtain ⟨t9, q9, hw, -⟩ := id hwd
  obtain ⟨xx1, xx2, xx3, hb, -⟩ := id hbk
  obtain ⟨hwo, k1, k2, k3⟩ := id hko
  obtain ⟨o1, o2, o3, o4⟩ := id hwo
  refine ji_ent (by decide) rfl (Nat.le_of_ble_eq_true rfl) rfl ?_
  refine ji_aload_n dX3_breakLines_0 rfl trivial ?_
  refine ji_get (ci := 3) (k := 2) rfl dX3_breakLines_1 lX3_40 (by decide) (ly_0) rfl ?_
  refine ji_cV dX3_breakLines_4 (hwr) rfl (hb) rfl rfl wX0_words vX0_words lX3_80 rfl (Nat.le_of_ble_eq_true rfl) rfl ?_
  refine ji_astore_n dX3_breakLines_7 (by decide) trivial rfl ?_
  refine ji_aload_n dX3_breakLines_8 rfl trivial ?_
  refine ji_iconst dX3_breakLines_9 ?_
  refine ji_putE (ci := 3) (k := 6) rfl dX3_breakLines_10 lX3_86 (by decide) (ly_0) (by simp) (ji_fitI _) rfl (ly_pl) ?_
  refine ji_iconst dX3_breakLines_13 ?_
  refine ji_istore_n dX3_breakLines_14 (by decide) rfl ?_
  exact k_Layout_breakLines_l2 hcx hw9 (bk_P B) 0 0 A ww _ _ _ _ (fun ln2 A2 => hwx ln2 A2) (by omega) (by omega) hA rfl

def ly_g5 (B : bk_T) (ln : Int) (sty A3 : Nat → Int) (j : Nat) : Int := if ly_bp ln A3 j = 1 then ly_gap B sty (A3 j) else 0
def ly_AM (B : bk_T) (ln : Int) (sty : Nat → Int) (A : Nat → Nat → Int) (l : Int) : Nat → Nat → Int := va_up (va_up A 5 (ji_map (ly_g5 B ln sty (A 3)) (A 5) l)) 6 (ji_map (fun j => ly_ab B ln (A 3) j) (A 6) l)
theorem ly_ab_b (B : bk_T) (ln : Int) (A : Nat → Int) (l : Int) : 0 ≤ ly_ab B ln A l ∧ ly_ab B ln A l ≤ 1 := by unfold ly_ab; split; omega; split <;> omega
theorem ly_gap_b {B : bk_T} {sty : Nat → Int} (hs : ∀ k, 0 ≤ sty k ∧ sty k ≤ 4) (p : Int) : 0 ≤ ly_gap B sty p ∧ ly_gap B sty p ≤ 5 := by have := ly_st_b hs 2; unfold ly_gap; split <;> omega
theorem ly_g5_b {B : bk_T} {ln : Int} {sty A3 : Nat → Int} (hs : ∀ k, 0 ≤ sty k ∧ sty k ≤ 4) (j : Nat) : 0 ≤ ly_g5 B ln sty A3 j ∧ ly_g5 B ln sty A3 j ≤ 5 := by have := ly_gap_b (B := B) hs (A3 j); unfold ly_g5; split <;> omega
theorem ly_AM_b {B : bk_T} {ln : Int} {sty : Nat → Int} {A : Nat → Nat → Int} {l : Int} (hs : ∀ k, 0 ≤ sty k ∧ sty k ≤ 4) (hA : ∀ k j, -100000 ≤ A k j ∧ A k j ≤ 100000) : ∀ k j, -100000 ≤ ly_AM B ln sty A l k j ∧ ly_AM B ln sty A l k j ≤ 100000 :=
  ly_up (ly_up hA (ly_mapb (fun j => by have := ly_g5_b (B := B) (ln := ln) (A3 := A 3) hs j; omega) (hA 5))) (ly_mapb (fun j => by have := ly_ab_b B ln (A 3) j; omega) (hA 6))

set_option maxHeartbeats 4000000 in
set_option maxRecDepth 100000 in
theorem k_Layout_measureLines_loop (hcx : ly_cx n f b bk B sty) (hA0 : ∀ k j, -100000 ≤ A k j ∧ A k j ≤ 100000) (hl : 0 ≤ ln ∧ ln ≤ 240) (h3 : ∀ j, 0 ≤ A 3 j ∧ A 3 j ≤ 10) : ∀ (u : Nat) (l : Int), 0 ≤ l ∧ l + u = ln →
    JW G (d + 3) mX3_measureLines 2 [some (.ref b), some (.int (jI l))] [] (n, ly_f b f bk w h ln pg (ly_AM B ln sty A l)) 0 0 (fun r9 h9 => r9 = .inl none ∧ h9 = (n, ly_f b f bk w h ln pg (ly_AM B ln sty A ln))) := by
  intro u
  induction u with
  | zero =>
    intro l hl2
    have el : l = ln := by omega
    subst el
    refine ji_iload_n dX3_measureLines_2 rfl ?_
    refine ji_aload_n dX3_measureLines_3 rfl trivial ?_
    refine ji_get (ci := 3) (k := 6) rfl dX3_measureLines_4 lX3_86 (by decide) (ly_0) rfl ?_
    refine ji_icmp_ge (tgt := 62) dX3_measureLines_7 rfl (by omega) (by omega) (fun c7 => ?_) (fun c7 => absurd c7 (by omega))
    exact ji_return dX3_measureLines_62 rfl ⟨rfl, rfl⟩
  | succ u ih =>
    intro l hl2
    obtain ⟨hbb0, hsty0, hbk00, hko0, hst0⟩ := id hcx
    have hA := ly_AM_b (B := B) (ln := ln) (l := l) hst0 hA0
    obtain ⟨hbb, hsty, hbk0, hko, hst⟩ := id hcx
    have hbk : bk_at (n, ly_f b f bk w h ln pg (ly_AM B ln sty A l)) bk B := hbk0.kept (ly_keep hbb)
    obtain ⟨ww, hwd, hwr⟩ := k_Book_words (G := G) hbk hko
    obtain ⟨t9, q9, hw, -⟩ := id hwd
    obtain ⟨xx1, xx2, xx3, hb, -⟩ := id hbk
    obtain ⟨hwo, k1, k2, k3⟩ := id hko
    obtain ⟨o1, o2, o3, o4⟩ := id hwo
    have g1 := ly_bp_b ln (A 3) l
    have g2 := ly_ab_b B ln (A 3) l
    have g3 := h3 l.toNat
    have e2 : ((l.toNat : Nat) : Int) = l := by omega
    refine ji_iload_n dX3_measureLines_2 rfl ?_
    refine ji_aload_n dX3_measureLines_3 rfl trivial ?_
    refine ji_get (ci := 3) (k := 6) rfl dX3_measureLines_4 lX3_86 (by decide) (ly_0) rfl ?_
    refine ji_icmp_ge (tgt := 62) dX3_measureLines_7 rfl (by omega) (by omega) (fun c7 => absurd c7 (by omega)) (fun c7 => ?_)
    refine ji_iload_n dX3_measureLines_10 rfl ?_
    refine ji_sipush dX3_measureLines_11 rfl ?_
    refine ji_icmp_ge (tgt := 62) dX3_measureLines_14 rfl (by omega) (by omega) (fun c14 => absurd c14 (by omega)) (fun c14 => ?_)
    refine ji_aload_n dX3_measureLines_17 rfl trivial ?_
    refine ji_get (ci := 3) (k := 10) rfl dX3_measureLines_18 lX3_24 (by decide) (ly_0) rfl ?_
    refine ji_iload_n dX3_measureLines_21 rfl ?_
    refine ji_aload_n dX3_measureLines_22 rfl trivial ?_
    refine ji_iload_n dX3_measureLines_23 rfl ?_
    refine ji_cV dX3_measureLines_24 ((show JR G _ mX3_beginsParagraph [.ref b, .int (jI l)] _ 0 0 (some (.int (jI (ly_bp ln (A 3) l)))) _ from k_Layout_beginsParagraph hcx hA hl (by omega))) rfl (ly_0) rfl rfl wX3_beginsParagraph vX3_beginsParagraph lX3_116 rfl (Nat.le_of_ble_eq_true rfl) rfl ?_
    refine ji_if_eq (tgt := 43) dX3_measureLines_27 rfl (by omega) (fun c27 => ?_) (fun c27 => ?_)
    · refine ji_iconst dX3_measureLines_43 ?_
      refine ji_iastoreE dX3_measureLines_44 (ly_a5) (by omega) (ly_s5) ?_
      refine ji_aload_n dX3_measureLines_45 rfl trivial ?_
      refine ji_get (ci := 3) (k := 11) rfl dX3_measureLines_46 lX3_27 (by decide) (ly_0) rfl ?_
      refine ji_iload_n dX3_measureLines_49 rfl ?_
      refine ji_aload_n dX3_measureLines_50 rfl trivial ?_
      refine ji_iload_n dX3_measureLines_51 rfl ?_
      refine ji_cV dX3_measureLines_52 ((show JR G _ mX3_isAllowedBreak [.ref b, .int (jI l)] _ 0 0 (some (.int (jI (ly_ab B ln (A 3) l)))) _ from k_Layout_isAllowedBreak hcx (ly_up hA (ly_up1 (ly_mapb (fun j => by have := ly_g5_b (B := B) (ln := ln) (A3 := A 3) hst j; omega) (hA0 5)) (by have := ly_gap_b (B := B) hst (A 3 l.toNat); omega))) hl (by omega) h3)) rfl (ly_0) rfl rfl wX3_isAllowedBreak vX3_isAllowedBreak lX3_123 rfl (Nat.le_of_ble_eq_true rfl) rfl ?_
      refine ji_bastoreE dX3_measureLines_55 (ly_a6) (by omega) (by omega) (ly_s6) ?_
      refine ji_iinc dX3_measureLines_56 (by decide) rfl rfl ?_
      refine ji_goto (tgt := 2) dX3_measureLines_59 rfl ?_
      exact ji_eqv (ih (l + 1) (by omega)) rfl rfl (by unfold ly_AM; rw [va_up_comm _ (show (6 : Nat) ≠ 5 by decide), va_up_idem, va_up_idem]; rw [ji_map_s hl2.1 (by unfold ly_g5; rw [e2]; first | (rw [if_pos (by omega)]; done) | (rw [if_neg (by omega)]; done)), va_up_self, ji_map_s hl2.1 (by rw [e2])])
    · refine ji_aload_n dX3_measureLines_30 rfl trivial ?_
      refine ji_aload_n dX3_measureLines_31 rfl trivial ?_
      refine ji_get (ci := 3) (k := 8) rfl dX3_measureLines_32 lX3_18 (by decide) (ly_0) rfl ?_
      refine ji_iload_n dX3_measureLines_35 rfl ?_
      refine ji_iaload dX3_measureLines_36 ((show _ = Sum.inr (FieldType.int, 240, Sum.inl (A 3)) from ly_a3)) (by omega) ?_
      refine ji_cV dX3_measureLines_37 ((show JR G _ mX3_gapOf [.ref b, .int (jI (A 3 l.toNat))] _ 0 0 (some (.int (jI (ly_gap B sty (A 3 l.toNat))))) _ from k_Layout_gapOf hcx hA hl (by omega))) rfl (ly_0) rfl rfl wX3_gapOf vX3_gapOf lX3_120 rfl (Nat.le_of_ble_eq_true rfl) rfl ?_
      refine ji_goto (tgt := 44) dX3_measureLines_40 rfl ?_
      refine ji_iastoreE dX3_measureLines_44 (ly_a5) (by omega) (ly_s5) ?_
      refine ji_aload_n dX3_measureLines_45 rfl trivial ?_
      refine ji_get (ci := 3) (k := 11) rfl dX3_measureLines_46 lX3_27 (by decide) (ly_0) rfl ?_
      refine ji_iload_n dX3_measureLines_49 rfl ?_
      refine ji_aload_n dX3_measureLines_50 rfl trivial ?_
      refine ji_iload_n dX3_measureLines_51 rfl ?_
      refine ji_cV dX3_measureLines_52 ((show JR G _ mX3_isAllowedBreak [.ref b, .int (jI l)] _ 0 0 (some (.int (jI (ly_ab B ln (A 3) l)))) _ from k_Layout_isAllowedBreak hcx (ly_up hA (ly_up1 (ly_mapb (fun j => by have := ly_g5_b (B := B) (ln := ln) (A3 := A 3) hst j; omega) (hA0 5)) (by have := ly_gap_b (B := B) hst (A 3 l.toNat); omega))) hl (by omega) h3)) rfl (ly_0) rfl rfl wX3_isAllowedBreak vX3_isAllowedBreak lX3_123 rfl (Nat.le_of_ble_eq_true rfl) rfl ?_
      refine ji_bastoreE dX3_measureLines_55 (ly_a6) (by omega) (by omega) (ly_s6) ?_
      refine ji_iinc dX3_measureLines_56 (by decide) rfl rfl ?_
      refine ji_goto (tgt := 2) dX3_measureLines_59 rfl ?_
      exact ji_eqv (ih (l + 1) (by omega)) rfl rfl (by unfold ly_AM; rw [va_up_comm _ (show (6 : Nat) ≠ 5 by decide), va_up_idem, va_up_idem]; rw [ji_map_s hl2.1 (by unfold ly_g5; rw [e2]; first | (rw [if_pos (by omega)]; done) | (rw [if_neg (by omega)]; done)), va_up_self, ji_map_s hl2.1 (by rw [e2])])

set_option maxHeartbeats 4000000 in
set_option maxRecDepth 100000 in
theorem k_Layout_measureLines (hcx : ly_cx n f b bk B sty) (hA0 : ∀ k j, -100000 ≤ A k j ∧ A k j ≤ 100000) (hl : 0 ≤ ln ∧ ln ≤ 240) (h3 : ∀ j, 0 ≤ A 3 j ∧ A 3 j ≤ 10) : JR G (d + 3) mX3_measureLines [.ref b] (n, ly_f b f bk w h ln pg A) 0 0 none (n, ly_f b f bk w h ln pg (ly_AM B ln sty A ln)) := by
  refine ji_ent (by decide) rfl (Nat.le_of_ble_eq_true rfl) rfl ?_
  refine ji_iconst dX3_measureLines_0 ?_
  refine ji_istore_n dX3_measureLines_1 (by decide) rfl ?_
  exact ji_eqv (k_Layout_measureLines_loop hcx hA0 hl h3 ln.toNat 0 (by omega)) rfl rfl (by unfold ly_AM; rw [ji_map_0, ji_map_0, va_up_same, va_up_same])

end MLayout6
