/-! ===== breaks ===== -/
def ly_bf (h ln : Int) (sty : Nat → Int) (A : Nat → Nat → Int) : Nat → Int → Int → Int → Int → Int
  | 0, e, _, _, _ => e
  | u + 1, e, r, x, l => if h < r + (ly_g ln (A 5) 0 l + 1) + ly_RN sty (A 1) (ly_or x (ly_g ln (A 7) 0 l)) then e else ly_bf h ln sty A u (l + 1) (r + (ly_g ln (A 5) 0 l + 1)) (ly_or x (ly_g ln (A 7) 0 l)) (l + 1)
def ly_B0 (h ln : Int) (sty : Nat → Int) (A : Nat → Nat → Int) (x : Int) : Int := ly_bf h ln sty A (ln - (x + 1)).toNat (x + 1) 1 (ly_g ln (A 7) 0 x) (x + 1)
def ly_BF (h ln : Int) (sty : Nat → Int) (A : Nat → Nat → Int) (x : Int) : Int :=
  if ly_st sty 3 = 1 ∧ ly_B0 h ln sty A x < ln then ly_kb ln (A 6) (ly_B0 h ln sty A x) (ly_B0 h ln sty A x - x).toNat (ly_B0 h ln sty A x) else ly_B0 h ln sty A x
theorem ly_bf_b (h ln : Int) (sty : Nat → Int) (A : Nat → Nat → Int) : ∀ (u : Nat) (e r x l : Int), e ≤ l → l + u ≤ ln → e ≤ ly_bf h ln sty A u e r x l ∧ (ly_bf h ln sty A u e r x l = e ∨ ly_bf h ln sty A u e r x l ≤ ln)
  | 0, e, r, x, l, h1, h2 => by unfold ly_bf; omega
  | u + 1, e, r, x, l, h1, h2 => by
    unfold ly_bf
    split
    · omega
    · have := ly_bf_b h ln sty A u (l + 1) (r + (ly_g ln (A 5) 0 l + 1)) (ly_or x (ly_g ln (A 7) 0 l)) (l + 1) (by omega) (by omega)
      omega
theorem ly_B0_b (h ln : Int) (sty : Nat → Int) (A : Nat → Nat → Int) (x : Int) : x + 1 ≤ ly_B0 h ln sty A x ∧ (ly_B0 h ln sty A x = x + 1 ∨ ly_B0 h ln sty A x ≤ ln) := by
  unfold ly_B0
  by_cases hx : x + 1 ≤ ln
  · exact ly_bf_b h ln sty A _ (x + 1) 1 _ (x + 1) (by omega) (by omega)
  · rw [show (ln - (x + 1)).toNat = 0 by omega, ly_bf]; omega
theorem ly_kb_b (ln : Int) (A : Nat → Int) (e : Int) : ∀ (u : Nat) (l : Int), l ≤ e → (l - u < ly_kb ln A e u l ∧ ly_kb ln A e u l ≤ e) ∨ ly_kb ln A e u l = e
  | 0, l, h => by unfold ly_kb; omega
  | u + 1, l, h => by
    unfold ly_kb
    split
    · have := ly_kb_b ln A e u (l - 1) (by omega); omega
    · omega
theorem ly_BF_b (h ln : Int) (sty : Nat → Int) (A : Nat → Nat → Int) (x : Int) : x + 1 ≤ ly_BF h ln sty A x ∧ (ly_BF h ln sty A x = x + 1 ∨ ly_BF h ln sty A x ≤ ln) := by
  have h1 := ly_B0_b h ln sty A x
  unfold ly_BF
  split
  · have := ly_kb_b ln (A 6) (ly_B0 h ln sty A x) (ly_B0 h ln sty A x - x).toNat (ly_B0 h ln sty A x) (by omega); omega
  · exact h1
section MLayout3
variable {G : ji_G} {d n b bk : Nat} {f : Nat → ji_C} {w h ln pg : Int} {A : Nat → Nat → Int} {B : bk_T} {sty : Nat → Int}

set_option maxHeartbeats 4000000 in
set_option maxRecDepth 100000 in
theorem k_Layout_breakFrom_loop (hcx : ly_cx n f b bk B sty) (hA : ∀ k j, -100000 ≤ A k j ∧ A k j ≤ 100000) (hl : 0 ≤ ln ∧ ln ≤ 240) (hN : ∀ j, 0 ≤ A 1 j ∧ A 1 j ≤ 1000) (h7 : ∀ j, 0 ≤ A 7 j ∧ A 7 j < 1024) (h5 : ∀ j, 0 ≤ A 5 j ∧ A 5 j ≤ 10) (hh : 0 ≤ h ∧ h ≤ 1000) {x1 : Int} (h1 : 0 ≤ x1 ∧ x1 < ln) : ∀ (u : Nat) (e r x l : Int), x1 + 1 ≤ e ∧ e ≤ l → l + u = ln → 0 ≤ r ∧ r ≤ 20 * l + 100 → 0 ≤ x ∧ x < 1024 → ly_B0 h ln sty A x1 = ly_bf h ln sty A u e r x l →
    JW G (d + 2) mX3_breakFrom 18 [some (.ref b), some (.int (jI x1)), some (.int (jI e)), some (.int (jI r)), some (.int (jI x)), some (.int (jI l))] [] (n, ly_f b f bk w h ln pg A) 0 0 (fun r9 h9 => r9 = .inl (some (.int (jI (ly_BF h ln sty A x1)))) ∧ h9 = (n, ly_f b f bk w h ln pg A)) := by
  obtain ⟨hbb, hsty, hbk0, hko, hst⟩ := id hcx
  have hbk : bk_at (n, ly_f b f bk w h ln pg A) bk B := hbk0.kept (ly_keep hbb)
  obtain ⟨ww, hwd, hwr⟩ := k_Book_words (G := G) hbk hko
  obtain ⟨t9, q9, hw, -⟩ := id hwd
  obtain ⟨xx1, xx2, xx3, hb, -⟩ := id hbk
  obtain ⟨hwo, k1, k2, k3⟩ := id hko
  obtain ⟨o1, o2, o3, o4⟩ := id hwo
  intro u
  induction u with
  | zero =>
    intro e r x l h3 h4 hr hx hE
    have g3 := ly_st_b hst 3
    rw [ly_bf] at hE
    have hE := hE.symm

    refine ji_iload dX3_breakFrom_18 rfl ?_
    refine ji_aload_n dX3_breakFrom_20 rfl trivial ?_
    refine ji_get (ci := 3) (k := 6) rfl dX3_breakFrom_21 lX3_86 (by decide) (ly_0) rfl ?_
    refine ji_icmp_ge (tgt := 78) dX3_breakFrom_24 rfl (by omega) (by omega) (fun c24 => ?_) (fun c24 => absurd c24 (by omega))
    refine ji_aload_n dX3_breakFrom_78 rfl trivial ?_
    refine ji_iconst dX3_breakFrom_79 ?_
    refine ji_cV dX3_breakFrom_80 (k_Layout_styleOf hcx hA hl (by omega)) rfl (ly_0) rfl rfl wX3_styleOf vX3_styleOf lX3_126 rfl (Nat.le_of_ble_eq_true rfl) rfl ?_
    refine ji_iconst dX3_breakFrom_83 ?_
    refine ji_icmp_ne (tgt := 104) dX3_breakFrom_84 rfl (by omega) (by omega) (fun c84 => ?_) (fun c84 => ?_)
    · refine ji_iload_n dX3_breakFrom_104 rfl ?_
      exact ji_ireturn dX3_breakFrom_105 rfl (rfl) ⟨jr_i (by unfold ly_BF; rw [← hE]; first | (rw [if_pos (by omega)]; done) | (rw [if_neg (by omega)]; done)), rfl⟩
    · refine ji_iload_n dX3_breakFrom_87 rfl ?_
      refine ji_aload_n dX3_breakFrom_88 rfl trivial ?_
      refine ji_get (ci := 3) (k := 6) rfl dX3_breakFrom_89 lX3_86 (by decide) (ly_0) rfl ?_
      refine ji_icmp_ge (tgt := 104) dX3_breakFrom_92 rfl (by omega) (by omega) (fun c92 => ?_) (fun c92 => ?_)
      · refine ji_iload_n dX3_breakFrom_104 rfl ?_
        exact ji_ireturn dX3_breakFrom_105 rfl (rfl) ⟨jr_i (by unfold ly_BF; rw [← hE]; first | (rw [if_pos (by omega)]; done) | (rw [if_neg (by omega)]; done)), rfl⟩
      · refine ji_aload_n dX3_breakFrom_95 rfl trivial ?_
        refine ji_iload_n dX3_breakFrom_96 rfl ?_
        refine ji_iload_n dX3_breakFrom_97 rfl ?_
        refine ji_cV dX3_breakFrom_98 (k_Layout_keptBreak hcx hA hl (by omega) (by omega)) rfl (ly_0) rfl rfl wX3_keptBreak vX3_keptBreak lX3_162 rfl (Nat.le_of_ble_eq_true rfl) rfl ?_
        refine ji_goto (tgt := 105) dX3_breakFrom_101 rfl ?_
        exact ji_ireturn dX3_breakFrom_105 rfl (rfl) ⟨jr_i (by unfold ly_BF; rw [← hE]; first | (rw [if_pos (by omega)]; done) | (rw [if_neg (by omega)]; done)), rfl⟩
  | succ u ih =>
    intro e r x l h3 h4 hr hx hE
    have g5 : 0 ≤ ly_g ln (A 5) 0 l ∧ ly_g ln (A 5) 0 l ≤ 10 := by unfold ly_g; split; exact h5 _; omega
    have g7 : 0 ≤ ly_g ln (A 7) 0 l ∧ ly_g ln (A 7) 0 l < 1024 := by unfold ly_g; split; exact h7 _; omega
    have g8 := ly_or_b hx g7
    have g10 := ly_RN_b (sty := sty) hN (ly_or x (ly_g ln (A 7) 0 l))
    have g3 := ly_st_b hst 3

    refine ji_iload dX3_breakFrom_18 rfl ?_
    refine ji_aload_n dX3_breakFrom_20 rfl trivial ?_
    refine ji_get (ci := 3) (k := 6) rfl dX3_breakFrom_21 lX3_86 (by decide) (ly_0) rfl ?_
    refine ji_icmp_ge (tgt := 78) dX3_breakFrom_24 rfl (by omega) (by omega) (fun c24 => absurd c24 (by omega)) (fun c24 => ?_)
    refine ji_iload_n dX3_breakFrom_27 rfl ?_
    refine ji_aload_n dX3_breakFrom_28 rfl trivial ?_
    refine ji_iload dX3_breakFrom_29 rfl ?_
    refine ji_cV dX3_breakFrom_31 (k_Layout_gapBefore hcx hA hl (by omega)) rfl (ly_0) rfl rfl wX3_gapBefore vX3_gapBefore lX3_156 rfl (Nat.le_of_ble_eq_true rfl) rfl ?_
    refine ji_iconst dX3_breakFrom_34 ?_
    refine ji_iadd dX3_breakFrom_35 ?_
    refine ji_iadd dX3_breakFrom_36 ?_
    refine ji_istore_n dX3_breakFrom_37 (by decide) rfl ?_
    refine ji_iload dX3_breakFrom_38 rfl ?_
    refine ji_aload_n dX3_breakFrom_40 rfl trivial ?_
    refine ji_iload dX3_breakFrom_41 rfl ?_
    refine ji_cV dX3_breakFrom_43 (k_Layout_notesOfLine hcx hA hl (by omega)) rfl (ly_0) rfl rfl wX3_notesOfLine vX3_notesOfLine lX3_153 rfl (Nat.le_of_ble_eq_true rfl) rfl ?_
    refine ji_iop dX3_breakFrom_46 (Or.inr (Or.inl ⟨rfl, rfl⟩)) ?_
    rw [ly_orE hx.1 g7.1]
    refine ji_istore dX3_breakFrom_47 (by decide) rfl ?_
    refine ji_iload_n dX3_breakFrom_49 rfl ?_
    refine ji_aload_n dX3_breakFrom_50 rfl trivial ?_
    refine ji_iload dX3_breakFrom_51 rfl ?_
    refine ji_cV dX3_breakFrom_53 (k_Layout_rowsOfNotes hcx hA hl (by omega) hN) rfl (ly_0) rfl rfl wX3_rowsOfNotes vX3_rowsOfNotes lX3_159 rfl (Nat.le_of_ble_eq_true rfl) rfl ?_
    refine ji_iadd dX3_breakFrom_56 ?_
    refine ji_aload_n dX3_breakFrom_57 rfl trivial ?_
    refine ji_get (ci := 3) (k := 4) rfl dX3_breakFrom_58 lX3_55 (by decide) (ly_0) rfl ?_
    refine ji_icmp_le (tgt := 67) dX3_breakFrom_61 rfl (by omega) (by omega) (fun c61 => ?_) (fun c61 => ?_)
    · refine ji_iload dX3_breakFrom_67 rfl ?_
      refine ji_iconst dX3_breakFrom_69 ?_
      refine ji_iadd dX3_breakFrom_70 ?_
      refine ji_istore_n dX3_breakFrom_71 (by decide) rfl ?_
      refine ji_iinc dX3_breakFrom_72 (by decide) rfl rfl ?_
      refine ji_goto (tgt := 18) dX3_breakFrom_75 rfl ?_
      exact ih _ _ _ _ (by omega) (by omega) (by omega) g8 (by rw [hE, ly_bf, if_neg (by omega)])
    · refine ji_goto (tgt := 78) dX3_breakFrom_64 rfl ?_
      have hE2 : e = ly_B0 h ln sty A x1 := by rw [hE, ly_bf, if_pos (by omega)]
      refine ji_aload_n dX3_breakFrom_78 rfl trivial ?_
      refine ji_iconst dX3_breakFrom_79 ?_
      refine ji_cV dX3_breakFrom_80 (k_Layout_styleOf hcx hA hl (by omega)) rfl (ly_0) rfl rfl wX3_styleOf vX3_styleOf lX3_126 rfl (Nat.le_of_ble_eq_true rfl) rfl ?_
      refine ji_iconst dX3_breakFrom_83 ?_
      refine ji_icmp_ne (tgt := 104) dX3_breakFrom_84 rfl (by omega) (by omega) (fun c84 => ?_) (fun c84 => ?_)
      · refine ji_iload_n dX3_breakFrom_104 rfl ?_
        exact ji_ireturn dX3_breakFrom_105 rfl (rfl) ⟨jr_i (by unfold ly_BF; rw [← hE2]; first | (rw [if_pos (by omega)]; done) | (rw [if_neg (by omega)]; done)), rfl⟩
      · refine ji_iload_n dX3_breakFrom_87 rfl ?_
        refine ji_aload_n dX3_breakFrom_88 rfl trivial ?_
        refine ji_get (ci := 3) (k := 6) rfl dX3_breakFrom_89 lX3_86 (by decide) (ly_0) rfl ?_
        refine ji_icmp_ge (tgt := 104) dX3_breakFrom_92 rfl (by omega) (by omega) (fun c92 => ?_) (fun c92 => ?_)
        · refine ji_iload_n dX3_breakFrom_104 rfl ?_
          exact ji_ireturn dX3_breakFrom_105 rfl (rfl) ⟨jr_i (by unfold ly_BF; rw [← hE2]; first | (rw [if_pos (by omega)]; done) | (rw [if_neg (by omega)]; done)), rfl⟩
        · refine ji_aload_n dX3_breakFrom_95 rfl trivial ?_
          refine ji_iload_n dX3_breakFrom_96 rfl ?_
          refine ji_iload_n dX3_breakFrom_97 rfl ?_
          refine ji_cV dX3_breakFrom_98 (k_Layout_keptBreak hcx hA hl (by omega) (by omega)) rfl (ly_0) rfl rfl wX3_keptBreak vX3_keptBreak lX3_162 rfl (Nat.le_of_ble_eq_true rfl) rfl ?_
          refine ji_goto (tgt := 105) dX3_breakFrom_101 rfl ?_
          exact ji_ireturn dX3_breakFrom_105 rfl (rfl) ⟨jr_i (by unfold ly_BF; rw [← hE2]; first | (rw [if_pos (by omega)]; done) | (rw [if_neg (by omega)]; done)), rfl⟩

set_option maxHeartbeats 4000000 in
set_option maxRecDepth 100000 in
theorem k_Layout_breakFrom (hcx : ly_cx n f b bk B sty) (hA : ∀ k j, -100000 ≤ A k j ∧ A k j ≤ 100000) (hl : 0 ≤ ln ∧ ln ≤ 240) {x1 : Int} (h1 : 0 ≤ x1 ∧ x1 < ln) (hN : ∀ j, 0 ≤ A 1 j ∧ A 1 j ≤ 1000) (h7 : ∀ j, 0 ≤ A 7 j ∧ A 7 j < 1024) (h5 : ∀ j, 0 ≤ A 5 j ∧ A 5 j ≤ 10) (hh : 0 ≤ h ∧ h ≤ 1000) : JR G (d + 2) mX3_breakFrom [.ref b, .int (jI (x1))] (n, ly_f b f bk w h ln pg A) 0 0 (some (.int (jI (ly_BF h ln sty A x1)))) (n, ly_f b f bk w h ln pg A) := by
  obtain ⟨hbb, hsty, hbk0, hko, hst⟩ := id hcx
  have hbk : bk_at (n, ly_f b f bk w h ln pg A) bk B := hbk0.kept (ly_keep hbb)
  obtain ⟨ww, hwd, hwr⟩ := k_Book_words (G := G) hbk hko
  obtain ⟨t9, q9, hw, -⟩ := id hwd
  obtain ⟨xx1, xx2, xx3, hb, -⟩ := id hbk
  obtain ⟨hwo, k1, k2, k3⟩ := id hko
  obtain ⟨o1, o2, o3, o4⟩ := id hwo
  have g7 : 0 ≤ ly_g ln (A 7) 0 x1 ∧ ly_g ln (A 7) 0 x1 < 1024 := by unfold ly_g; split; exact h7 _; omega
  refine ji_ent (by decide) rfl (Nat.le_of_ble_eq_true rfl) rfl ?_
  refine ji_iload_n dX3_breakFrom_0 rfl ?_
  refine ji_iconst dX3_breakFrom_1 ?_
  refine ji_iadd dX3_breakFrom_2 ?_
  refine ji_istore_n dX3_breakFrom_3 (by decide) rfl ?_
  refine ji_iconst dX3_breakFrom_4 ?_
  refine ji_istore_n dX3_breakFrom_5 (by decide) rfl ?_
  refine ji_aload_n dX3_breakFrom_6 rfl trivial ?_
  refine ji_iload_n dX3_breakFrom_7 rfl ?_
  refine ji_cV dX3_breakFrom_8 (k_Layout_notesOfLine hcx hA hl (by omega)) rfl (ly_0) rfl rfl wX3_notesOfLine vX3_notesOfLine lX3_153 rfl (Nat.le_of_ble_eq_true rfl) rfl ?_
  refine ji_istore dX3_breakFrom_11 (by decide) rfl ?_
  refine ji_iload_n dX3_breakFrom_13 rfl ?_
  refine ji_iconst dX3_breakFrom_14 ?_
  refine ji_iadd dX3_breakFrom_15 ?_
  refine ji_istore dX3_breakFrom_16 (by decide) rfl ?_
  exact k_Layout_breakFrom_loop hcx hA hl hN h7 h5 hh h1 (ln - (x1 + 1)).toNat _ _ _ _ (by omega) (by omega) (by omega) g7 rfl

def ly_fb (h ln : Int) (sty : Nat → Int) (A : Nat → Nat → Int) (l : Int) : Nat → Int → Int
  | 0, _ => -1
  | u + 1, x => if ly_BF h ln sty A x = l then x else ly_fb h ln sty A l u (x + 1)

set_option maxHeartbeats 4000000 in
set_option maxRecDepth 100000 in
theorem k_Layout_farthestBefore_loop (hcx : ly_cx n f b bk B sty) (hA : ∀ k j, -100000 ≤ A k j ∧ A k j ≤ 100000) (hl : 0 ≤ ln ∧ ln ≤ 240) (hN : ∀ j, 0 ≤ A 1 j ∧ A 1 j ≤ 1000) (h7 : ∀ j, 0 ≤ A 7 j ∧ A 7 j < 1024) (h5 : ∀ j, 0 ≤ A 5 j ∧ A 5 j ≤ 10) (hh : 0 ≤ h ∧ h ≤ 1000) {l R : Int} (h1 : 0 ≤ l ∧ l < ln) : ∀ (u : Nat) (x : Int), 0 ≤ x → x + u = l → R = ly_fb h ln sty A l u x →
    JW G (d + 3) mX3_farthestBefore 11 [some (.ref b), some (.int (jI l)), some (.int (jI x))] [] (n, ly_f b f bk w h ln pg A) 0 0 (fun r9 h9 => r9 = .inl (some (.int (jI R))) ∧ h9 = (n, ly_f b f bk w h ln pg A)) := by
  obtain ⟨hbb, hsty, hbk0, hko, hst⟩ := id hcx
  have hbk : bk_at (n, ly_f b f bk w h ln pg A) bk B := hbk0.kept (ly_keep hbb)
  obtain ⟨ww, hwd, hwr⟩ := k_Book_words (G := G) hbk hko
  obtain ⟨t9, q9, hw, -⟩ := id hwd
  obtain ⟨xx1, xx2, xx3, hb, -⟩ := id hbk
  obtain ⟨hwo, k1, k2, k3⟩ := id hko
  obtain ⟨o1, o2, o3, o4⟩ := id hwo
  intro u
  induction u with
  | zero =>
    intro x h3 h4 hR

    refine ji_iload_n dX3_farthestBefore_11 rfl ?_
    refine ji_iload_n dX3_farthestBefore_12 rfl ?_
    refine ji_icmp_ge (tgt := 33) dX3_farthestBefore_13 rfl (by omega) (by omega) (fun c13 => ?_) (fun c13 => absurd c13 (by omega))
    refine ji_iconst dX3_farthestBefore_33 ?_
    exact ji_ireturn dX3_farthestBefore_34 rfl (rfl) ⟨jr_i (by rw [hR]; rfl), rfl⟩
  | succ u ih =>
    intro x h3 h4 hR
    have g1 := ly_BF_b h ln sty A x

    refine ji_iload_n dX3_farthestBefore_11 rfl ?_
    refine ji_iload_n dX3_farthestBefore_12 rfl ?_
    refine ji_icmp_ge (tgt := 33) dX3_farthestBefore_13 rfl (by omega) (by omega) (fun c13 => absurd c13 (by omega)) (fun c13 => ?_)
    refine ji_aload_n dX3_farthestBefore_16 rfl trivial ?_
    refine ji_iload_n dX3_farthestBefore_17 rfl ?_
    refine ji_cV dX3_farthestBefore_18 (k_Layout_breakFrom hcx hA hl (by omega) hN h7 h5 hh) rfl (ly_0) rfl rfl wX3_breakFrom vX3_breakFrom lX3_138 rfl (Nat.le_of_ble_eq_true rfl) rfl ?_
    refine ji_iload_n dX3_farthestBefore_21 rfl ?_
    refine ji_icmp_ne (tgt := 27) dX3_farthestBefore_22 rfl (by omega) (by omega) (fun c22 => ?_) (fun c22 => ?_)
    · refine ji_iinc dX3_farthestBefore_27 (by decide) rfl rfl ?_
      refine ji_goto (tgt := 11) dX3_farthestBefore_30 rfl ?_
      exact ih _ (by omega) (by omega) (by rw [hR, ly_fb, if_neg (by omega)])
    · refine ji_iload_n dX3_farthestBefore_25 rfl ?_
      exact ji_ireturn dX3_farthestBefore_26 rfl (rfl) ⟨jr_i (by rw [hR, ly_fb, if_pos (by omega)]), rfl⟩

set_option maxHeartbeats 4000000 in
set_option maxRecDepth 100000 in
theorem k_Layout_farthestBefore (hcx : ly_cx n f b bk B sty) (hA : ∀ k j, -100000 ≤ A k j ∧ A k j ≤ 100000) (hl : 0 ≤ ln ∧ ln ≤ 240) {l : Int} (h1 : 0 ≤ l ∧ l < ln) (hN : ∀ j, 0 ≤ A 1 j ∧ A 1 j ≤ 1000) (h7 : ∀ j, 0 ≤ A 7 j ∧ A 7 j < 1024) (h5 : ∀ j, 0 ≤ A 5 j ∧ A 5 j ≤ 10) (hh : 0 ≤ h ∧ h ≤ 1000) : JR G (d + 3) mX3_farthestBefore [.ref b, .int (jI (l))] (n, ly_f b f bk w h ln pg A) 0 0 (some (.int (jI (ly_fb h ln sty A l (l - max 0 (l - h)).toNat (max 0 (l - h)))))) (n, ly_f b f bk w h ln pg A) := by
  obtain ⟨hbb, hsty, hbk0, hko, hst⟩ := id hcx
  have hbk : bk_at (n, ly_f b f bk w h ln pg A) bk B := hbk0.kept (ly_keep hbb)
  obtain ⟨ww, hwd, hwr⟩ := k_Book_words (G := G) hbk hko
  obtain ⟨t9, q9, hw, -⟩ := id hwd
  obtain ⟨xx1, xx2, xx3, hb, -⟩ := id hbk
  obtain ⟨hwo, k1, k2, k3⟩ := id hko
  obtain ⟨o1, o2, o3, o4⟩ := id hwo
  refine ji_ent (by decide) rfl (Nat.le_of_ble_eq_true rfl) rfl ?_
  refine ji_iconst dX3_farthestBefore_0 ?_
  refine ji_iload_n dX3_farthestBefore_1 rfl ?_
  refine ji_aload_n dX3_farthestBefore_2 rfl trivial ?_
  refine ji_get (ci := 3) (k := 4) rfl dX3_farthestBefore_3 lX3_55 (by decide) (ly_0) rfl ?_
  refine ji_isub dX3_farthestBefore_6 ?_
  refine ji_mmax dX3_farthestBefore_7 lX3_168 (by omega) (by omega) (Nat.le_of_ble_eq_true rfl) ?_
  refine ji_istore_n dX3_farthestBefore_10 (by decide) rfl ?_
  exact k_Layout_farthestBefore_loop hcx hA hl hN h7 h5 hh h1 (l - max 0 (l - h)).toNat (max 0 (l - h)) (by omega) (by omega) rfl

/-- the texts of the notes -/
abbrev nt_T : Type := Nat → Option (Nat × Nat × (Nat → Int) × (Nat → Int))
def nt_at (n : Nat) (f : Nat → ji_C) (nf : Nat → Option Nat) (NT : nt_T) : Prop := f 4 = .inr (.object RX6, 10, .inr (.inr nf)) ∧ ∀ k, k < 10 → (nf k = none ∧ NT k = none) ∨ ∃ a m nn tx s, nf k = some a ∧ NT k = some (m, nn, tx, s) ∧ wd_at (n, f) a m nn tx s ∧ wd_ok m nn tx s
theorem ji_aaloadS {G : ji_G} {d : Nat} {M : ji_M} {pc : Nat} {L : List (Option Value)} {st : List Value} {h : ji_H} {bc bs : Nat} {Q : ji_R → ji_H → Prop} {q n a : Nat} {C : String} {f : Nat → Option Nat} {i : Int} (hd : decode M.2.1 pc = .ok (.aaload, 1)) (hq : h.2 q = .inr (.object C, n, .inr (.inr f))) (hty : ∀ cy : Nat → ClassId, (ji_tys cy)[ji_ti (.object C)]? = some (cy (ji_ti (.object C)), .object C)) (hi : 0 ≤ i ∧ i < n ∧ i < 2147483648) (hf : f i.toNat = some a)
    (kk : JW G d M (pc + 1) L (.ref a :: st) h bc bs Q) : JW G d M pc L (.int (jI i) :: .ref q :: st) h bc bs Q := ji_aaload hd hq hty hi (by rw [hf]; exact kk)
theorem ji_aaloadN {G : ji_G} {d : Nat} {M : ji_M} {pc : Nat} {L : List (Option Value)} {st : List Value} {h : ji_H} {bc bs : Nat} {Q : ji_R → ji_H → Prop} {q n : Nat} {C : String} {f : Nat → Option Nat} {i : Int} (hd : decode M.2.1 pc = .ok (.aaload, 1)) (hq : h.2 q = .inr (.object C, n, .inr (.inr f))) (hty : ∀ cy : Nat → ClassId, (ji_tys cy)[ji_ti (.object C)]? = some (cy (ji_ti (.object C)), .object C)) (hi : 0 ≤ i ∧ i < n ∧ i < 2147483648) (hf : f i.toNat = none)
    (kk : JW G d M (pc + 1) L (.null :: st) h bc bs Q) : JW G d M pc L (.int (jI i) :: .ref q :: st) h bc bs Q := ji_aaload hd hq hty hi (by rw [hf]; exact kk)

set_option maxHeartbeats 4000000 in
set_option maxRecDepth 100000 in
theorem k_Layout_textOfS (hcx : ly_cx n f b bk B sty) (hA : ∀ k j, -100000 ≤ A k j ∧ A k j ≤ 100000) (hl : 0 ≤ ln ∧ ln ≤ 240) {nf : Nat → Option Nat} {NT : nt_T} (hnt : nt_at n f nf NT) {k : Int} (hk : 0 ≤ k ∧ k < 10) {a : Nat} (hf : nf k.toNat = some a) : JR G d mX3_textOf [.ref b, .int (jI k)] (n, ly_f b f bk w h ln pg A) 0 0 (some (.ref a)) (n, ly_f b f bk w h ln pg A) := by
  obtain ⟨hbb, hsty, hbk0, hko, hst⟩ := id hcx
  have hbk : bk_at (n, ly_f b f bk w h ln pg A) bk B := hbk0.kept (ly_keep hbb)
  obtain ⟨ww, hwd, hwr⟩ := k_Book_words (G := G) hbk hko
  obtain ⟨t9, q9, hw, -⟩ := id hwd
  obtain ⟨xx1, xx2, xx3, hb, -⟩ := id hbk
  obtain ⟨hwo, k1, k2, k3⟩ := id hko
  obtain ⟨o1, o2, o3, o4⟩ := id hwo
  refine ji_ent (by decide) rfl (Nat.le_of_ble_eq_true rfl) rfl ?_
  refine ji_iload_n dX3_textOf_0 rfl ?_
  refine ji_if_lt (tgt := 22) dX3_textOf_1 rfl (by omega) (fun c1 => absurd c1 (by omega)) (fun c1 => ?_)
  refine ji_iload_n dX3_textOf_4 rfl ?_
  refine ji_aload_n dX3_textOf_5 rfl trivial ?_
  refine ji_get (ci := 3) (k := 0) rfl dX3_textOf_6 lX3_44 (by decide) (ly_0) rfl ?_
  refine ji_alen dX3_textOf_9 ((ly_o (by omega)).trans hnt.1) (fun cy => rfl) ?_
  refine ji_icmp_ge (tgt := 22) dX3_textOf_10 rfl (by omega) (by omega) (fun c10 => absurd c10 (by omega)) (fun c10 => ?_)
  refine ji_aload_n dX3_textOf_13 rfl trivial ?_
  refine ji_get (ci := 3) (k := 0) rfl dX3_textOf_14 lX3_44 (by decide) (ly_0) rfl ?_
  refine ji_iload_n dX3_textOf_17 rfl ?_
  refine ji_aaloadS dX3_textOf_18 ((ly_o (by omega)).trans hnt.1) (fun cy => rfl) (by omega) (hf) ?_
  refine ji_goto (tgt := 23) dX3_textOf_19 rfl ?_
  exact ji_areturn dX3_textOf_23 rfl (Or.inl ⟨_, rfl⟩) trivial ⟨rfl, rfl⟩

set_option maxHeartbeats 4000000 in
set_option maxRecDepth 100000 in
theorem k_Layout_textOfN (hcx : ly_cx n f b bk B sty) (hA : ∀ k j, -100000 ≤ A k j ∧ A k j ≤ 100000) (hl : 0 ≤ ln ∧ ln ≤ 240) {nf : Nat → Option Nat} {NT : nt_T} (hnt : nt_at n f nf NT) {k : Int} (hk : 0 ≤ k ∧ k < 10) (hf : nf k.toNat = none) : JR G d mX3_textOf [.ref b, .int (jI k)] (n, ly_f b f bk w h ln pg A) 0 0 (some (.null)) (n, ly_f b f bk w h ln pg A) := by
  obtain ⟨hbb, hsty, hbk0, hko, hst⟩ := id hcx
  have hbk : bk_at (n, ly_f b f bk w h ln pg A) bk B := hbk0.kept (ly_keep hbb)
  obtain ⟨ww, hwd, hwr⟩ := k_Book_words (G := G) hbk hko
  obtain ⟨t9, q9, hw, -⟩ := id hwd
  obtain ⟨xx1, xx2, xx3, hb, -⟩ := id hbk
  obtain ⟨hwo, k1, k2, k3⟩ := id hko
  obtain ⟨o1, o2, o3, o4⟩ := id hwo
  refine ji_ent (by decide) rfl (Nat.le_of_ble_eq_true rfl) rfl ?_
  refine ji_iload_n dX3_textOf_0 rfl ?_
  refine ji_if_lt (tgt := 22) dX3_textOf_1 rfl (by omega) (fun c1 => absurd c1 (by omega)) (fun c1 => ?_)
  refine ji_iload_n dX3_textOf_4 rfl ?_
  refine ji_aload_n dX3_textOf_5 rfl trivial ?_
  refine ji_get (ci := 3) (k := 0) rfl dX3_textOf_6 lX3_44 (by decide) (ly_0) rfl ?_
  refine ji_alen dX3_textOf_9 ((ly_o (by omega)).trans hnt.1) (fun cy => rfl) ?_
  refine ji_icmp_ge (tgt := 22) dX3_textOf_10 rfl (by omega) (by omega) (fun c10 => absurd c10 (by omega)) (fun c10 => ?_)
  refine ji_aload_n dX3_textOf_13 rfl trivial ?_
  refine ji_get (ci := 3) (k := 0) rfl dX3_textOf_14 lX3_44 (by decide) (ly_0) rfl ?_
  refine ji_iload_n dX3_textOf_17 rfl ?_
  refine ji_aaloadN dX3_textOf_18 ((ly_o (by omega)).trans hnt.1) (fun cy => rfl) (by omega) (hf) ?_
  refine ji_goto (tgt := 23) dX3_textOf_19 rfl ?_
  exact ji_areturn dX3_textOf_23 rfl (Or.inl ⟨_, rfl⟩) trivial ⟨rfl, rfl⟩

/-- what the rows of notes show: behind the rule -/
def ly_sf (w : Int) (NT : nt_T) (N : Nat → Int) (x col : Int) : Nat → Nat → Int → Int
  | 0, _, _ => 32
  | u + 1, k, line => match NT k with
    | none => ly_sf w NT N x col u (k + 1) line
    | some (m, nn, tx, s) => if ly_bit x k = 1 then (if line < N k then wd_sol m nn tx s (wd_fol m nn s w line.toNat 0) (wd_fol m nn s w (line + 1).toNat 0) 0 col else ly_sf w NT N x col u (k + 1) (line - N k)) else ly_sf w NT N x col u (k + 1) line
theorem ly_sf0 {w : Int} {NT : nt_T} {N : Nat → Int} {x col : Int} {u k : Nat} {line : Int} (h : NT k = none) : ly_sf w NT N x col (u + 1) k line = ly_sf w NT N x col u (k + 1) line := by rw [ly_sf, h]
theorem ly_sf1 {w : Int} {NT : nt_T} {N : Nat → Int} {x col : Int} {u k m nn : Nat} {tx s : Nat → Int} {line : Int} (h : NT k = some (m, nn, tx, s)) : ly_sf w NT N x col (u + 1) k line = if ly_bit x k = 1 then (if line < N k then wd_sol m nn tx s (wd_fol m nn s w line.toNat 0) (wd_fol m nn s w (line + 1).toNat 0) 0 col else ly_sf w NT N x col u (k + 1) (line - N k)) else ly_sf w NT N x col u (k + 1) line := by rw [ly_sf, h]
theorem wd_fol_b (m n : Nat) (s : Nat → Int) (room : Int) : ∀ (u : Nat) (x : Int), 0 ≤ x ∧ x ≤ n + 1 → 0 ≤ wd_fol m n s room u x ∧ wd_fol m n s room u x ≤ n + 1
  | 0, x, h => h
  | u + 1, x, h => by
    unfold wd_fol
    split
    · have := wd_LE_b m n s x n room
      exact wd_fol_b m n s room u _ (by omega)
    · exact h

end MLayout3
