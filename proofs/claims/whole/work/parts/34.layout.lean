def ly_SN (w : Int) (NT : nt_T) (N : Nat → Int) (x row col : Int) : Int := if row = 0 then 45 else ly_sf w NT N x col 10 0 (row - 1)
section MLayout4
variable {G : ji_G} {d n b bk : Nat} {f : Nat → ji_C} {w h ln pg : Int} {A : Nat → Nat → Int} {B : bk_T} {sty : Nat → Int}

set_option maxHeartbeats 4000000 in
set_option maxRecDepth 100000 in
theorem k_Layout_signOfNotes_loop (hcx : ly_cx n f b bk B sty) (hA : ∀ k j, -100000 ≤ A k j ∧ A k j ≤ 100000) (hl : 0 ≤ ln ∧ ln ≤ 240) {nf : Nat → Option Nat} {NT : nt_T} (hnt : nt_at n f nf NT) {x9 : Int} (hx : 0 ≤ x9 ∧ x9 < 1024) (hN : ∀ j, 0 ≤ A 1 j ∧ A 1 j ≤ 1000) (hw9 : 0 ≤ w ∧ w ≤ 1000) {row col R : Int} (hc : 0 ≤ col ∧ col ≤ 1000) : ∀ (u : Nat) (k line : Int) (o6 o7 : Option Value), 0 ≤ k ∧ k + u = 10 → 0 ≤ line ∧ line ≤ 100000 → R = ly_sf w NT (A 1) x9 col u k.toNat line →
    JW G (d + 3) mX3_signOfNotes 15 [some (.ref b), some (.int (jI x9)), some (.int (jI row)), some (.int (jI col)), some (.int (jI line)), some (.int (jI k)), o6, o7] [] (n, ly_f b f bk w h ln pg A) 0 0 (fun r9 h9 => r9 = .inl (some (.int (jI R))) ∧ h9 = (n, ly_f b f bk w h ln pg A)) := by
  obtain ⟨hbb, hsty, hbk0, hko, hst⟩ := id hcx
  have hbk : bk_at (n, ly_f b f bk w h ln pg A) bk B := hbk0.kept (ly_keep hbb)
  obtain ⟨ww, hwd, hwr⟩ := k_Book_words (G := G) hbk hko
  obtain ⟨t9, q9, hw, -⟩ := id hwd
  obtain ⟨xx1, xx2, xx3, hb, -⟩ := id hbk
  obtain ⟨hwo, k1, k2, k3⟩ := id hko
  obtain ⟨o1, o2, o3, o4⟩ := id hwo
  intro u
  induction u with
  | zero =>
    intro k line o6 o7 hk hli hR
    refine ji_iload dX3_signOfNotes_15 rfl ?_
    refine ji_bipush dX3_signOfNotes_17 rfl ?_
    refine ji_icmp_ge (tgt := 115) dX3_signOfNotes_19 rfl (by omega) (by omega) (fun c19 => ?_) (fun c19 => absurd c19 (by omega))
    refine ji_bipush dX3_signOfNotes_115 rfl ?_
    exact ji_ireturn dX3_signOfNotes_117 rfl (rfl) ⟨jr_i (by rw [hR]; rfl), rfl⟩
  | succ u ih =>
    intro k line o6 o7 hk hli hR
    have g2 := ly_bit_b x9 k
    have e1 : (k + 1).toNat = k.toNat + 1 := by omega
    have e2 : ((k.toNat : Nat) : Int) = k := by omega
    have g3 := hN k.toNat
    rcases hnt.2 k.toNat (by omega) with ⟨hf0, hN0⟩ | ⟨a0, m0, n0, tx0, s0, hf1, hN1, hw0, ho1⟩
    · refine ji_iload dX3_signOfNotes_15 rfl ?_
      refine ji_bipush dX3_signOfNotes_17 rfl ?_
      refine ji_icmp_ge (tgt := 115) dX3_signOfNotes_19 rfl (by omega) (by omega) (fun c19 => absurd c19 (by omega)) (fun c19 => ?_)
      refine ji_iload_n dX3_signOfNotes_22 rfl ?_
      refine ji_iload dX3_signOfNotes_23 rfl ?_
      refine ji_iop dX3_signOfNotes_25 (Or.inr (Or.inr (Or.inr ⟨rfl, rfl⟩))) ?_
      refine ji_iconst dX3_signOfNotes_26 ?_
      refine ji_iop dX3_signOfNotes_27 (Or.inl ⟨rfl, rfl⟩) ?_
      rw [ly_sh hx (by omega)]
      refine ji_iconst dX3_signOfNotes_28 ?_
      refine ji_icmp_ne (tgt := 41) dX3_signOfNotes_29 rfl (by omega) (by omega) (fun c29 => ?_) (fun c29 => ?_)
      · refine ji_null dX3_signOfNotes_41 ?_
        refine ji_astore dX3_signOfNotes_42 (by decide) trivial rfl ?_
        refine ji_aload dX3_signOfNotes_44 rfl trivial ?_
        refine ji_ifnullN (tgt := 109) dX3_signOfNotes_46 rfl ?_
        refine ji_iinc dX3_signOfNotes_109 (by decide) rfl rfl ?_
        refine ji_goto (tgt := 15) dX3_signOfNotes_112 rfl ?_
        exact ih _ _ _ _ (by omega) (by omega) (by rw [hR, ly_sf0 hN0, e1])
      · refine ji_aload_n dX3_signOfNotes_32 rfl trivial ?_
        refine ji_iload dX3_signOfNotes_33 rfl ?_
        refine ji_cV dX3_signOfNotes_35 (k_Layout_textOfN hcx hA hl hnt (by omega) hf0) rfl (ly_0) rfl rfl wX3_textOf vX3_textOf lX3_70 rfl (Nat.le_of_ble_eq_true rfl) rfl ?_
        refine ji_goto (tgt := 42) dX3_signOfNotes_38 rfl ?_
        refine ji_astore dX3_signOfNotes_42 (by decide) trivial rfl ?_
        refine ji_aload dX3_signOfNotes_44 rfl trivial ?_
        refine ji_ifnullN (tgt := 109) dX3_signOfNotes_46 rfl ?_
        refine ji_iinc dX3_signOfNotes_109 (by decide) rfl rfl ?_
        refine ji_goto (tgt := 15) dX3_signOfNotes_112 rfl ?_
        exact ih _ _ _ _ (by omega) (by omega) (by rw [hR, ly_sf0 hN0, e1])
    · have hw1 : wd_at (n, ly_f b f bk w h ln pg A) a0 m0 n0 tx0 s0 := hw0.kept (ly_keep hbb)
      obtain ⟨t8, q8, hwt, -⟩ := id hw1
      have f1 := wd_fol_b m0 n0 s0 w line.toNat 0 (by omega)
      have f2 := wd_fol_b m0 n0 s0 w (line + 1).toNat 0 (by omega)
      obtain ⟨z1, z2, z3, z4⟩ := id ho1
      rw [ly_sf1 hN1, e2] at hR
      refine ji_iload dX3_signOfNotes_15 rfl ?_
      refine ji_bipush dX3_signOfNotes_17 rfl ?_
      refine ji_icmp_ge (tgt := 115) dX3_signOfNotes_19 rfl (by omega) (by omega) (fun c19 => absurd c19 (by omega)) (fun c19 => ?_)
      refine ji_iload_n dX3_signOfNotes_22 rfl ?_
      refine ji_iload dX3_signOfNotes_23 rfl ?_
      refine ji_iop dX3_signOfNotes_25 (Or.inr (Or.inr (Or.inr ⟨rfl, rfl⟩))) ?_
      refine ji_iconst dX3_signOfNotes_26 ?_
      refine ji_iop dX3_signOfNotes_27 (Or.inl ⟨rfl, rfl⟩) ?_
      rw [ly_sh hx (by omega)]
      refine ji_iconst dX3_signOfNotes_28 ?_
      refine ji_icmp_ne (tgt := 41) dX3_signOfNotes_29 rfl (by omega) (by omega) (fun c29 => ?_) (fun c29 => ?_)
      · refine ji_null dX3_signOfNotes_41 ?_
        refine ji_astore dX3_signOfNotes_42 (by decide) trivial rfl ?_
        refine ji_aload dX3_signOfNotes_44 rfl trivial ?_
        refine ji_ifnullN (tgt := 109) dX3_signOfNotes_46 rfl ?_
        refine ji_iinc dX3_signOfNotes_109 (by decide) rfl rfl ?_
        refine ji_goto (tgt := 15) dX3_signOfNotes_112 rfl ?_
        first | exact ih _ _ _ _ (by omega) (by omega) (by rw [hR, if_pos (by omega), if_neg (by omega), e1]) | exact ih _ _ _ _ (by omega) (by omega) (by rw [hR, if_neg (by omega), e1])
      · refine ji_aload_n dX3_signOfNotes_32 rfl trivial ?_
        refine ji_iload dX3_signOfNotes_33 rfl ?_
        refine ji_cV dX3_signOfNotes_35 (k_Layout_textOfS hcx hA hl hnt (by omega) hf1) rfl (ly_0) rfl rfl wX3_textOf vX3_textOf lX3_70 rfl (Nat.le_of_ble_eq_true rfl) rfl ?_
        refine ji_goto (tgt := 42) dX3_signOfNotes_38 rfl ?_
        refine ji_astore dX3_signOfNotes_42 (by decide) trivial rfl ?_
        refine ji_aload dX3_signOfNotes_44 rfl trivial ?_
        refine ji_ifnull dX3_signOfNotes_46 ?_
        refine ji_iload dX3_signOfNotes_49 rfl ?_
        refine ji_aload_n dX3_signOfNotes_51 rfl trivial ?_
        refine ji_get (ci := 3) (k := 5) rfl dX3_signOfNotes_52 lX3_9 (by decide) (ly_0) rfl ?_
        refine ji_iload dX3_signOfNotes_55 rfl ?_
        refine ji_iaload dX3_signOfNotes_57 (ly_a1) (by omega) ?_
        refine ji_icmp_ge (tgt := 97) dX3_signOfNotes_58 rfl (by omega) (by omega) (fun c58 => ?_) (fun c58 => ?_)
        · refine ji_iload dX3_signOfNotes_97 rfl ?_
          refine ji_aload_n dX3_signOfNotes_99 rfl trivial ?_
          refine ji_get (ci := 3) (k := 5) rfl dX3_signOfNotes_100 lX3_9 (by decide) (ly_0) rfl ?_
          refine ji_iload dX3_signOfNotes_103 rfl ?_
          refine ji_iaload dX3_signOfNotes_105 (ly_a1) (by omega) ?_
          refine ji_isub dX3_signOfNotes_106 ?_
          refine ji_istore dX3_signOfNotes_107 (by decide) rfl ?_
          refine ji_iinc dX3_signOfNotes_109 (by decide) rfl rfl ?_
          refine ji_goto (tgt := 15) dX3_signOfNotes_112 rfl ?_
          first | exact ih _ _ _ _ (by omega) (by omega) (by rw [hR, if_pos (by omega), if_neg (by omega), e1]) | exact ih _ _ _ _ (by omega) (by omega) (by rw [hR, if_neg (by omega), e1])
        · refine ji_aload dX3_signOfNotes_61 rfl trivial ?_
          refine ji_iload dX3_signOfNotes_63 rfl ?_
          refine ji_iconst dX3_signOfNotes_65 ?_
          refine ji_iadd dX3_signOfNotes_66 ?_
          refine ji_aload_n dX3_signOfNotes_67 rfl trivial ?_
          refine ji_get (ci := 3) (k := 3) rfl dX3_signOfNotes_68 lX3_51 (by decide) (ly_0) rfl ?_
          refine ji_cV dX3_signOfNotes_71 (k_Words_firstOfLine hw1 ho1 (by omega) (by omega)) rfl (hwt) rfl rfl wX6_firstOfLine vX6_firstOfLine lX3_192 rfl (Nat.le_of_ble_eq_true rfl) rfl ?_
          refine ji_istore dX3_signOfNotes_74 (by decide) rfl ?_
          refine ji_aload dX3_signOfNotes_76 rfl trivial ?_
          refine ji_aload dX3_signOfNotes_78 rfl trivial ?_
          refine ji_iload dX3_signOfNotes_80 rfl ?_
          refine ji_aload_n dX3_signOfNotes_82 rfl trivial ?_
          refine ji_get (ci := 3) (k := 3) rfl dX3_signOfNotes_83 lX3_51 (by decide) (ly_0) rfl ?_
          refine ji_cV dX3_signOfNotes_86 (k_Words_firstOfLine hw1 ho1 (by omega) (by omega)) rfl (hwt) rfl rfl wX6_firstOfLine vX6_firstOfLine lX3_192 rfl (Nat.le_of_ble_eq_true rfl) rfl ?_
          refine ji_iload dX3_signOfNotes_89 rfl ?_
          refine ji_iconst dX3_signOfNotes_91 ?_
          refine ji_iload_n dX3_signOfNotes_92 rfl ?_
          refine ji_cV dX3_signOfNotes_93 (k_Words_signOfLine hw1 ho1 (by omega) (by omega) (by omega) (by omega)) rfl (hwt) rfl rfl wX6_signOfLine vX6_signOfLine lX3_185 rfl (Nat.le_of_ble_eq_true rfl) rfl ?_
          exact ji_ireturn dX3_signOfNotes_96 rfl (rfl) ⟨jr_i (by rw [hR, if_pos (by omega), if_pos (by omega)]), rfl⟩

set_option maxHeartbeats 4000000 in
set_option maxRecDepth 100000 in
theorem k_Layout_signOfNotes (hcx : ly_cx n f b bk B sty) (hA : ∀ k j, -100000 ≤ A k j ∧ A k j ≤ 100000) (hl : 0 ≤ ln ∧ ln ≤ 240) {nf : Nat → Option Nat} {NT : nt_T} (hnt : nt_at n f nf NT) {x9 : Int} (hx : 0 ≤ x9 ∧ x9 < 1024) (hN : ∀ j, 0 ≤ A 1 j ∧ A 1 j ≤ 1000) (hw9 : 0 ≤ w ∧ w ≤ 1000) {row col : Int} (hr : 0 ≤ row ∧ row ≤ 10000) (hc : 0 ≤ col ∧ col ≤ 1000) : JR G (d + 3) mX3_signOfNotes [.ref b, .int (jI (x9)), .int (jI (row)), .int (jI (col))] (n, ly_f b f bk w h ln pg A) 0 0 (some (.int (jI (ly_SN w NT (A 1) x9 row col)))) (n, ly_f b f bk w h ln pg A) := by
  obtain ⟨hbb, hsty, hbk0, hko, hst⟩ := id hcx
  have hbk : bk_at (n, ly_f b f bk w h ln pg A) bk B := hbk0.kept (ly_keep hbb)
  obtain ⟨ww, hwd, hwr⟩ := k_Book_words (G := G) hbk hko
  obtain ⟨t9, q9, hw, -⟩ := id hwd
  obtain ⟨xx1, xx2, xx3, hb, -⟩ := id hbk
  obtain ⟨hwo, k1, k2, k3⟩ := id hko
  obtain ⟨o1, o2, o3, o4⟩ := id hwo
  refine ji_ent (by decide) rfl (Nat.le_of_ble_eq_true rfl) rfl ?_
  refine ji_iload_n dX3_signOfNotes_0 rfl ?_
  refine ji_if_ne (tgt := 7) dX3_signOfNotes_1 rfl (by omega) (fun c1 => ?_) (fun c1 => ?_)
  · refine ji_iload_n dX3_signOfNotes_7 rfl ?_
    refine ji_iconst dX3_signOfNotes_8 ?_
    refine ji_isub dX3_signOfNotes_9 ?_
    refine ji_istore dX3_signOfNotes_10 (by decide) rfl ?_
    refine ji_iconst dX3_signOfNotes_12 ?_
    refine ji_istore dX3_signOfNotes_13 (by decide) rfl ?_
    exact k_Layout_signOfNotes_loop hcx hA hl hnt hx hN hw9 hc 10 0 _ _ _ (by omega) (by omega) (by unfold ly_SN; rw [if_neg (by omega)]; rfl)
  · refine ji_bipush dX3_signOfNotes_4 rfl ?_
    exact ji_ireturn dX3_signOfNotes_6 rfl (rfl) ⟨jr_i (by unfold ly_SN; rw [if_pos (by omega)]), rfl⟩

/-- what a page shows -/
def ly_st2 (w h ln pg : Int) (B : bk_T) (sty : Nat → Int) (NT : nt_T) (A : Nat → Nat → Int) (p row col lr : Int) : Int :=
  if row - max lr (h - ly_RN sty (A 1) (ly_NP ln (A 7) (ly_g pg (A 9) ln p) (ly_g pg (A 9) ln (p + 1)))) < 0 then 32
  else ly_SN w NT (A 1) (ly_NP ln (A 7) (ly_g pg (A 9) ln p) (ly_g pg (A 9) ln (p + 1))) (row - max lr (h - ly_RN sty (A 1) (ly_NP ln (A 7) (ly_g pg (A 9) ln p) (ly_g pg (A 9) ln (p + 1))))) col
def ly_sa (w h ln pg : Int) (B : bk_T) (sty : Nat → Int) (NT : nt_T) (A : Nat → Nat → Int) (p row col : Int) : Nat → Int → Int → Int
  | 0, lr, _ => ly_st2 w h ln pg B sty NT A p row col lr
  | u + 1, lr, l => if lr + (if ly_g pg (A 9) ln p < l then ly_g ln (A 5) 0 l else 0) = row then wd_sol (bk_m B) (bk_n B) (bk_tx B) (bk_s B) (ly_g ln (A 2) (bk_n B) l) (ly_g ln (A 2) (bk_n B) (l + 1)) (ly_g ln (A 4) 0 l) col
    else ly_sa w h ln pg B sty NT A p row col u (lr + (if ly_g pg (A 9) ln p < l then ly_g ln (A 5) 0 l else 0) + 1) (l + 1)
def ly_SA (w h ln pg : Int) (B : bk_T) (sty : Nat → Int) (NT : nt_T) (A : Nat → Nat → Int) (p row col : Int) : Int := ly_sa w h ln pg B sty NT A p row col (ly_g pg (A 9) ln (p + 1) - ly_g pg (A 9) ln p).toNat 0 (ly_g pg (A 9) ln p)

set_option maxHeartbeats 4000000 in
set_option maxRecDepth 100000 in
theorem k_Layout_signAt_loop (hcx : ly_cx n f b bk B sty) (hA : ∀ k j, -100000 ≤ A k j ∧ A k j ≤ 100000) (hl : 0 ≤ ln ∧ ln ≤ 240) {nf : Nat → Option Nat} {NT : nt_T} (hnt : nt_at n f nf NT) (hN : ∀ j, 0 ≤ A 1 j ∧ A 1 j ≤ 1000) (h7 : ∀ j, 0 ≤ A 7 j ∧ A 7 j < 1024) (h5 : ∀ j, 0 ≤ A 5 j ∧ A 5 j ≤ 10) (hp : 0 ≤ pg ∧ pg ≤ 240) (h89 : ∀ j, (-1 ≤ A 8 j ∧ A 8 j ≤ 240) ∧ 0 ≤ A 9 j ∧ A 9 j ≤ 240) (hh : 0 ≤ h ∧ h ≤ 1000) (hw9 : 0 ≤ w ∧ w ≤ 1000) {p row col R : Int} (hb9 : -500 ≤ p ∧ p ≤ 500) (hr : 0 ≤ row ∧ row ≤ 1000) (hc : 0 ≤ col ∧ col ≤ 1000) : ∀ (u : Nat) (lr l : Int) (o7 : Option Value), ly_g pg (A 9) ln p ≤ l → l + u = max (ly_g pg (A 9) ln (p + 1)) (ly_g pg (A 9) ln p) → 0 ≤ lr ∧ lr ≤ 20 * l → R = ly_sa w h ln pg B sty NT A p row col u lr l →
    JW G (d + 4) mX3_signAt 19 [some (.ref b), some (.int (jI p)), some (.int (jI row)), some (.int (jI col)), some (.int (jI (ly_g pg (A 9) ln (p + 1)))), some (.int (jI lr)), some (.int (jI l)), o7] [] (n, ly_f b f bk w h ln pg A) 0 0 (fun r9 h9 => r9 = .inl (some (.int (jI R))) ∧ h9 = (n, ly_f b f bk w h ln pg A)) := by
  obtain ⟨hbb, hsty, hbk0, hko, hst⟩ := id hcx
  have hbk : bk_at (n, ly_f b f bk w h ln pg A) bk B := hbk0.kept (ly_keep hbb)
  obtain ⟨ww, hwd, hwr⟩ := k_Book_words (G := G) hbk hko
  obtain ⟨t9, q9, hw, -⟩ := id hwd
  obtain ⟨xx1, xx2, xx3, hb, -⟩ := id hbk
  obtain ⟨hwo, k1, k2, k3⟩ := id hko
  obtain ⟨o1, o2, o3, o4⟩ := id hwo
  have g9 : ∀ x : Int, 0 ≤ ly_g pg (A 9) ln x ∧ ly_g pg (A 9) ln x ≤ 240 := fun x => by unfold ly_g; split; have := h89 x.toNat; omega; omega
  intro u
  induction u with
  | zero =>
    intro lr l o7 h3 h4 hlr hR
    have g1 := g9 p
    have g2 := g9 (p + 1)
    have gN := ly_NP_b (ln := ln) h7 (ly_g pg (A 9) ln p) (ly_g pg (A 9) ln (p + 1))
    have gR := ly_RN_b (sty := sty) hN (ly_NP ln (A 7) (ly_g pg (A 9) ln p) (ly_g pg (A 9) ln (p + 1)))
    rw [ly_sa] at hR

    refine ji_iload dX3_signAt_19 rfl ?_
    refine ji_iload dX3_signAt_21 rfl ?_
    refine ji_icmp_ge (tgt := 102) dX3_signAt_23 rfl (by omega) (by omega) (fun c23 => ?_) (fun c23 => absurd c23 (by omega))
    refine ji_aload_n dX3_signAt_102 rfl trivial ?_
    refine ji_iload_n dX3_signAt_103 rfl ?_
    refine ji_cV dX3_signAt_104 (k_Layout_notesOfPage hcx hA hl (by omega) hp h89 h7) rfl (ly_0) rfl rfl wX3_notesOfPage vX3_notesOfPage lX3_182 rfl (Nat.le_of_ble_eq_true rfl) rfl ?_
    refine ji_istore dX3_signAt_107 (by decide) rfl ?_
    refine ji_iload_n dX3_signAt_109 rfl ?_
    refine ji_iload dX3_signAt_110 rfl ?_
    refine ji_aload_n dX3_signAt_112 rfl trivial ?_
    refine ji_get (ci := 3) (k := 4) rfl dX3_signAt_113 lX3_55 (by decide) (ly_0) rfl ?_
    refine ji_aload_n dX3_signAt_116 rfl trivial ?_
    refine ji_iload dX3_signAt_117 rfl ?_
    refine ji_cV dX3_signAt_119 (k_Layout_rowsOfNotes hcx hA hl (by omega) hN) rfl (ly_0) rfl rfl wX3_rowsOfNotes vX3_rowsOfNotes lX3_159 rfl (Nat.le_of_ble_eq_true rfl) rfl ?_
    refine ji_isub dX3_signAt_122 ?_
    refine ji_mmax dX3_signAt_123 lX3_168 (by omega) (by omega) (Nat.le_of_ble_eq_true rfl) ?_
    refine ji_isub dX3_signAt_126 ?_
    refine ji_istore dX3_signAt_127 (by decide) rfl ?_
    refine ji_iload dX3_signAt_129 rfl ?_
    refine ji_if_ge (tgt := 139) dX3_signAt_131 rfl (by omega) (fun c131 => ?_) (fun c131 => ?_)
    · refine ji_aload_n dX3_signAt_139 rfl trivial ?_
      refine ji_iload dX3_signAt_140 rfl ?_
      refine ji_iload dX3_signAt_142 rfl ?_
      refine ji_iload_n dX3_signAt_144 rfl ?_
      refine ji_cV dX3_signAt_145 (k_Layout_signOfNotes hcx hA hl hnt (by omega) hN hw9 (by omega) (by omega)) rfl (ly_0) rfl rfl wX3_signOfNotes vX3_signOfNotes lX3_189 rfl (Nat.le_of_ble_eq_true rfl) rfl ?_
      exact ji_ireturn dX3_signAt_148 rfl (rfl) ⟨jr_i (by rw [hR]; unfold ly_st2; first | (rw [if_pos (by omega)]; done) | (rw [if_neg (by omega)]; done)), rfl⟩
    · refine ji_bipush dX3_signAt_134 rfl ?_
      refine ji_goto (tgt := 148) dX3_signAt_136 rfl ?_
      exact ji_ireturn dX3_signAt_148 rfl (rfl) ⟨jr_i (by rw [hR]; unfold ly_st2; first | (rw [if_pos (by omega)]; done) | (rw [if_neg (by omega)]; done)), rfl⟩
  | succ u ih =>
    intro lr l o7 h3 h4 hlr hR
    have g1 := g9 p
    have g2 := g9 (p + 1)
    have gN := ly_NP_b (ln := ln) h7 (ly_g pg (A 9) ln p) (ly_g pg (A 9) ln (p + 1))
    have gR := ly_RN_b (sty := sty) hN (ly_NP ln (A 7) (ly_g pg (A 9) ln p) (ly_g pg (A 9) ln (p + 1)))
    have g5 : 0 ≤ ly_g ln (A 5) 0 l ∧ ly_g ln (A 5) 0 l ≤ 10 := by unfold ly_g; split; exact h5 _; omega
    have w1 := ly_g_b (ln := ln) (hA 2) (df := bk_n B) (by omega) l
    have w2 := ly_g_b (ln := ln) (hA 2) (df := bk_n B) (by omega) (l + 1)
    have w3 := ly_g_b (ln := ln) (hA 4) (df := 0) (by omega) l

    refine ji_iload dX3_signAt_19 rfl ?_
    refine ji_iload dX3_signAt_21 rfl ?_
    refine ji_icmp_ge (tgt := 102) dX3_signAt_23 rfl (by omega) (by omega) (fun c23 => absurd c23 (by omega)) (fun c23 => ?_)
    refine ji_iload dX3_signAt_26 rfl ?_
    refine ji_iload dX3_signAt_28 rfl ?_
    refine ji_aload_n dX3_signAt_30 rfl trivial ?_
    refine ji_iload_n dX3_signAt_31 rfl ?_
    refine ji_cV dX3_signAt_32 (k_Layout_firstLineOfPage hcx hA hl (by omega) hp) rfl (ly_0) rfl rfl wX3_firstLineOfPage vX3_firstLineOfPage lX3_176 rfl (Nat.le_of_ble_eq_true rfl) rfl ?_
    refine ji_icmp_le (tgt := 47) dX3_signAt_35 rfl (by omega) (by omega) (fun c35 => ?_) (fun c35 => ?_)
    · refine ji_iconst dX3_signAt_47 ?_
      refine ji_iadd dX3_signAt_48 ?_
      refine ji_istore dX3_signAt_49 (by decide) rfl ?_
      refine ji_iload dX3_signAt_51 rfl ?_
      refine ji_iload_n dX3_signAt_53 rfl ?_
      refine ji_icmp_ne (tgt := 93) dX3_signAt_54 rfl (by omega) (by omega) (fun c54 => ?_) (fun c54 => ?_)
      · refine ji_iinc dX3_signAt_93 (by decide) rfl rfl ?_
        refine ji_iinc dX3_signAt_96 (by decide) rfl rfl ?_
        refine ji_goto (tgt := 19) dX3_signAt_99 rfl ?_
        first | exact ih _ _ _ (by omega) (by omega) (by omega) (by rw [hR, ly_sa, if_pos (show ly_g pg (A 9) ln p < l by omega), if_neg (by omega)]) | exact ih _ _ _ (by omega) (by omega) (by omega) (by rw [hR, ly_sa, if_neg (show ¬ ly_g pg (A 9) ln p < l by omega), if_neg (by omega)])
      · refine ji_aload_n dX3_signAt_57 rfl trivial ?_
        refine ji_iload dX3_signAt_58 rfl ?_
        refine ji_iconst dX3_signAt_60 ?_
        refine ji_iadd dX3_signAt_61 ?_
        refine ji_cV dX3_signAt_62 (k_Layout_firstWordOfLine hcx hA hl (by omega)) rfl (ly_0) rfl rfl wX3_firstWordOfLine vX3_firstWordOfLine lX3_141 rfl (Nat.le_of_ble_eq_true rfl) rfl ?_
        refine ji_istore dX3_signAt_65 (by decide) rfl ?_
        refine ji_aload_n dX3_signAt_67 rfl trivial ?_
        refine ji_get (ci := 3) (k := 2) rfl dX3_signAt_68 lX3_40 (by decide) (ly_0) rfl ?_
        refine ji_cV dX3_signAt_71 (hwr) rfl (hb) rfl rfl wX0_words vX0_words lX3_80 rfl (Nat.le_of_ble_eq_true rfl) rfl ?_
        refine ji_aload_n dX3_signAt_74 rfl trivial ?_
        refine ji_iload dX3_signAt_75 rfl ?_
        refine ji_cV dX3_signAt_77 (k_Layout_firstWordOfLine hcx hA hl (by omega)) rfl (ly_0) rfl rfl wX3_firstWordOfLine vX3_firstWordOfLine lX3_141 rfl (Nat.le_of_ble_eq_true rfl) rfl ?_
        refine ji_iload dX3_signAt_80 rfl ?_
        refine ji_aload_n dX3_signAt_82 rfl trivial ?_
        refine ji_iload dX3_signAt_83 rfl ?_
        refine ji_cV dX3_signAt_85 (k_Layout_indentOfLine hcx hA hl (by omega)) rfl (ly_0) rfl rfl wX3_indentOfLine vX3_indentOfLine lX3_144 rfl (Nat.le_of_ble_eq_true rfl) rfl ?_
        refine ji_iload_n dX3_signAt_88 rfl ?_
        refine ji_cV dX3_signAt_89 (k_Words_signOfLine hwd hwo (by omega) (by omega) (by omega) (by omega)) rfl (hw) rfl rfl wX6_signOfLine vX6_signOfLine lX3_185 rfl (Nat.le_of_ble_eq_true rfl) rfl ?_
        exact ji_ireturn dX3_signAt_92 rfl (rfl) ⟨jr_i (by rw [hR, ly_sa]; first | (rw [if_pos (show ly_g pg (A 9) ln p < l by omega), if_pos (by omega)]; done) | (rw [if_neg (show ¬ ly_g pg (A 9) ln p < l by omega), if_pos (by omega)]; done)), rfl⟩
    · refine ji_aload_n dX3_signAt_38 rfl trivial ?_
      refine ji_iload dX3_signAt_39 rfl ?_
      refine ji_cV dX3_signAt_41 (k_Layout_gapBefore hcx hA hl (by omega)) rfl (ly_0) rfl rfl wX3_gapBefore vX3_gapBefore lX3_156 rfl (Nat.le_of_ble_eq_true rfl) rfl ?_
      refine ji_goto (tgt := 48) dX3_signAt_44 rfl ?_
      refine ji_iadd dX3_signAt_48 ?_
      refine ji_istore dX3_signAt_49 (by decide) rfl ?_
      refine ji_iload dX3_signAt_51 rfl ?_
      refine ji_iload_n dX3_signAt_53 rfl ?_
      refine ji_icmp_ne (tgt := 93) dX3_signAt_54 rfl (by omega) (by omega) (fun c54 => ?_) (fun c54 => ?_)
      · refine ji_iinc dX3_signAt_93 (by decide) rfl rfl ?_
        refine ji_iinc dX3_signAt_96 (by decide) rfl rfl ?_
        refine ji_goto (tgt := 19) dX3_signAt_99 rfl ?_
        first | exact ih _ _ _ (by omega) (by omega) (by omega) (by rw [hR, ly_sa, if_pos (show ly_g pg (A 9) ln p < l by omega), if_neg (by omega)]) | exact ih _ _ _ (by omega) (by omega) (by omega) (by rw [hR, ly_sa, if_neg (show ¬ ly_g pg (A 9) ln p < l by omega), if_neg (by omega)])
      · refine ji_aload_n dX3_signAt_57 rfl trivial ?_
        refine ji_iload dX3_signAt_58 rfl ?_
        refine ji_iconst dX3_signAt_60 ?_
        refine ji_iadd dX3_signAt_61 ?_
        refine ji_cV dX3_signAt_62 (k_Layout_firstWordOfLine hcx hA hl (by omega)) rfl (ly_0) rfl rfl wX3_firstWordOfLine vX3_firstWordOfLine lX3_141 rfl (Nat.le_of_ble_eq_true rfl) rfl ?_
        refine ji_istore dX3_signAt_65 (by decide) rfl ?_
        refine ji_aload_n dX3_signAt_67 rfl trivial ?_
        refine ji_get (ci := 3) (k := 2) rfl dX3_signAt_68 lX3_40 (by decide) (ly_0) rfl ?_
        refine ji_cV dX3_signAt_71 (hwr) rfl (hb) rfl rfl wX0_words vX0_words lX3_80 rfl (Nat.le_of_ble_eq_true rfl) rfl ?_
        refine ji_aload_n dX3_signAt_74 rfl trivial ?_
        refine ji_iload dX3_signAt_75 rfl ?_
        refine ji_cV dX3_signAt_77 (k_Layout_firstWordOfLine hcx hA hl (by omega)) rfl (ly_0) rfl rfl wX3_firstWordOfLine vX3_firstWordOfLine lX3_141 rfl (Nat.le_of_ble_eq_true rfl) rfl ?_
        refine ji_iload dX3_signAt_80 rfl ?_
        refine ji_aload_n dX3_signAt_82 rfl trivial ?_
        refine ji_iload dX3_signAt_83 rfl ?_
        refine ji_cV dX3_signAt_85 (k_Layout_indentOfLine hcx hA hl (by omega)) rfl (ly_0) rfl rfl wX3_indentOfLine vX3_indentOfLine lX3_144 rfl (Nat.le_of_ble_eq_true rfl) rfl ?_
        refine ji_iload_n dX3_signAt_88 rfl ?_
        refine ji_cV dX3_signAt_89 (k_Words_signOfLine hwd hwo (by omega) (by omega) (by omega) (by omega)) rfl (hw) rfl rfl wX6_signOfLine vX6_signOfLine lX3_185 rfl (Nat.le_of_ble_eq_true rfl) rfl ?_
        exact ji_ireturn dX3_signAt_92 rfl (rfl) ⟨jr_i (by rw [hR, ly_sa]; first | (rw [if_pos (show ly_g pg (A 9) ln p < l by omega), if_pos (by omega)]; done) | (rw [if_neg (show ¬ ly_g pg (A 9) ln p < l by omega), if_pos (by omega)]; done)), rfl⟩

set_option maxHeartbeats 4000000 in
set_option maxRecDepth 100000 in
theorem k_Layout_signAt (hcx : ly_cx n f b bk B sty) (hA : ∀ k j, -100000 ≤ A k j ∧ A k j ≤ 100000) (hl : 0 ≤ ln ∧ ln ≤ 240) {nf : Nat → Option Nat} {NT : nt_T} (hnt : nt_at n f nf NT) (hN : ∀ j, 0 ≤ A 1 j ∧ A 1 j ≤ 1000) (h7 : ∀ j, 0 ≤ A 7 j ∧ A 7 j < 1024) (h5 : ∀ j, 0 ≤ A 5 j ∧ A 5 j ≤ 10) (hp : 0 ≤ pg ∧ pg ≤ 240) (h89 : ∀ j, (-1 ≤ A 8 j ∧ A 8 j ≤ 240) ∧ 0 ≤ A 9 j ∧ A 9 j ≤ 240) (hh : 0 ≤ h ∧ h ≤ 1000) (hw9 : 0 ≤ w ∧ w ≤ 1000) {p row col : Int} (hb9 : -500 ≤ p ∧ p ≤ 500) (hr : 0 ≤ row ∧ row ≤ 1000) (hc : 0 ≤ col ∧ col ≤ 1000) : JR G (d + 4) mX3_signAt [.ref b, .int (jI (p)), .int (jI (row)), .int (jI (col))] (n, ly_f b f bk w h ln pg A) 0 0 (some (.int (jI (ly_SA w h ln pg B sty NT A p row col)))) (n, ly_f b f bk w h ln pg A) := by
  obtain ⟨hbb, hsty, hbk0, hko, hst⟩ := id hcx
  have hbk : bk_at (n, ly_f b f bk w h ln pg A) bk B := hbk0.kept (ly_keep hbb)
  obtain ⟨ww, hwd, hwr⟩ := k_Book_words (G := G) hbk hko
  obtain ⟨t9, q9, hw, -⟩ := id hwd
  obtain ⟨xx1, xx2, xx3, hb, -⟩ := id hbk
  obtain ⟨hwo, k1, k2, k3⟩ := id hko
  obtain ⟨o1, o2, o3, o4⟩ := id hwo
  have g9 : ∀ x : Int, 0 ≤ ly_g pg (A 9) ln x ∧ ly_g pg (A 9) ln x ≤ 240 := fun x => by unfold ly_g; split; have := h89 x.toNat; omega; omega
  have g1 := g9 p
  have g2 := g9 (p + 1)
  refine ji_ent (by decide) rfl (Nat.le_of_ble_eq_true rfl) rfl ?_
  refine ji_aload_n dX3_signAt_0 rfl trivial ?_
  refine ji_iload_n dX3_signAt_1 rfl ?_
  refine ji_iconst dX3_signAt_2 ?_
  refine ji_iadd dX3_signAt_3 ?_
  refine ji_cV dX3_signAt_4 (k_Layout_firstLineOfPage hcx hA hl (by omega) hp) rfl (ly_0) rfl rfl wX3_firstLineOfPage vX3_firstLineOfPage lX3_176 rfl (Nat.le_of_ble_eq_true rfl) rfl ?_
  refine ji_istore dX3_signAt_7 (by decide) rfl ?_
  refine ji_iconst dX3_signAt_9 ?_
  refine ji_istore dX3_signAt_10 (by decide) rfl ?_
  refine ji_aload_n dX3_signAt_12 rfl trivial ?_
  refine ji_iload_n dX3_signAt_13 rfl ?_
  refine ji_cV dX3_signAt_14 (k_Layout_firstLineOfPage hcx hA hl (by omega) hp) rfl (ly_0) rfl rfl wX3_firstLineOfPage vX3_firstLineOfPage lX3_176 rfl (Nat.le_of_ble_eq_true rfl) rfl ?_
  refine ji_istore dX3_signAt_17 (by decide) rfl ?_
  exact k_Layout_signAt_loop hcx hA hl hnt hN h7 h5 hp h89 hh hw9 hb9 hr hc (ly_g pg (A 9) ln (p + 1) - ly_g pg (A 9) ln p).toNat 0 _ _ (by omega) (by omega) (by omega) rfl

end MLayout4
