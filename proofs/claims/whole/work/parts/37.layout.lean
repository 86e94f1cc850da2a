/-! ===== pages ===== -/
def ly_rg (g : Nat → Int) (x y v : Int) : Nat → Int := fun j => if x ≤ j ∧ (j : Int) < y then v else g j
theorem ly_rg_0 (g : Nat → Int) (x v : Int) : ly_rg g x x v = g := funext fun j => if_neg (by omega)
theorem ly_rg_s {g : Nat → Int} {x l v : Int} (h : 0 ≤ x ∧ x ≤ l) : va_up (ly_rg g x l v) l.toNat v = ly_rg g x (l + 1) v := by
  funext j
  unfold va_up ly_rg
  by_cases hj : j = l.toNat
  · rw [if_pos hj, if_pos (by omega)]
  · rw [if_neg hj]
    by_cases q : x ≤ j ∧ (j : Int) < l
    · rw [if_pos q, if_pos (by omega)]
    · rw [if_neg q, if_neg (by omega)]
def ly_AP (A : Nat → Nat → Int) (P8 P9 : Nat → Int) : Nat → Nat → Int := va_up (va_up A 8 P8) 9 P9
def ly_pgl (h ln : Int) (sty : Nat → Int) (A : Nat → Nat → Int) : Nat → Int → Int → (Nat → Int) → (Nat → Int) → Int × (Nat → Int) × (Nat → Int)
  | 0, _, pg, P8, P9 => (pg, P8, P9)
  | u + 1, x, pg, P8, P9 => if x < ln ∧ pg < 240 then ly_pgl h ln sty A u (ly_BF h ln sty A x) (pg + 1) (ly_rg P8 x (ly_BF h ln sty A x) pg) (va_up P9 pg.toNat x) else (pg, P8, P9)
theorem ly_AP_b {A : Nat → Nat → Int} {P8 P9 : Nat → Int} (hA : ∀ k j, -100000 ≤ A k j ∧ A k j ≤ 100000) (h8 : ∀ j, -100000 ≤ P8 j ∧ P8 j ≤ 100000) (h9 : ∀ j, -100000 ≤ P9 j ∧ P9 j ≤ 100000) : ∀ k j, -100000 ≤ ly_AP A P8 P9 k j ∧ ly_AP A P8 P9 k j ≤ 100000 := ly_up (ly_up hA h8) h9
theorem ly_rg_b {g : Nat → Int} {x y v : Int} (hg : ∀ j, -100000 ≤ g j ∧ g j ≤ 100000) (hv : -100000 ≤ v ∧ v ≤ 100000) : ∀ j, -100000 ≤ ly_rg g x y v j ∧ ly_rg g x y v j ≤ 100000 := fun j => by unfold ly_rg; split; exact hv; exact hg j
theorem ly_AP8 {A : Nat → Nat → Int} {P8 P9 P : Nat → Int} : va_up (ly_AP A P8 P9) 8 P = ly_AP A P P9 := by unfold ly_AP; rw [va_up_comm _ (show (9 : Nat) ≠ 8 by decide), va_up_idem]
theorem ly_AP9 {A : Nat → Nat → Int} {P8 P9 P : Nat → Int} : va_up (ly_AP A P8 P9) 9 P = ly_AP A P8 P := by unfold ly_AP; rw [va_up_idem]
theorem ly_bf_cong {h ln : Int} {sty : Nat → Int} {A A' : Nat → Nat → Int} (h1 : A 1 = A' 1) (h5 : A 5 = A' 5) (h7 : A 7 = A' 7) : ∀ (u : Nat) (e r x l : Int), ly_bf h ln sty A u e r x l = ly_bf h ln sty A' u e r x l
  | 0, e, r, x, l => rfl
  | u + 1, e, r, x, l => by rw [ly_bf, ly_bf, h1, h5, h7, ly_bf_cong h1 h5 h7 u]
theorem ly_BF_cong {h ln : Int} {sty : Nat → Int} {A A' : Nat → Nat → Int} (h1 : A 1 = A' 1) (h5 : A 5 = A' 5) (h6 : A 6 = A' 6) (h7 : A 7 = A' 7) (x : Int) : ly_BF h ln sty A x = ly_BF h ln sty A' x := by
  unfold ly_BF ly_B0; rw [h7, h6, ly_bf_cong h1 h5 h7]
theorem ly_BF_AP {h ln : Int} {sty : Nat → Int} {A : Nat → Nat → Int} {P8 P9 : Nat → Int} (x : Int) : ly_BF h ln sty (ly_AP A P8 P9) x = ly_BF h ln sty A x := ly_BF_cong (A := ly_AP A P8 P9) (A' := A) rfl rfl rfl rfl x
section MLayout7
variable {G : ji_G} {d n b bk : Nat} {f : Nat → ji_C} {w h ln pg : Int} {A : Nat → Nat → Int} {B : bk_T} {sty : Nat → Int}

set_option maxHeartbeats 4000000 in
set_option maxRecDepth 100000 in
theorem k_Layout_breakPages_l1 {x1 y1 p1 : Int} (h1 : 0 ≤ x1 ∧ x1 < y1 ∧ y1 ≤ 240) (hp1 : 0 ≤ p1 ∧ p1 ≤ 240) {P8 P9 : Nat → Int} {bc bs : Nat} {Q : ji_R → ji_H → Prop} (K : ∀ o3 : Option Value, JW G (d + 3) mX3_breakPages 71 [some (.ref b), some (.int (jI x1)), some (.int (jI y1)), o3] [] (n, ly_f b f bk w h ln (p1) (ly_AP A (ly_rg P8 x1 y1 p1) (P9))) bc bs Q) : ∀ (u : Nat) (l : Int), x1 ≤ l ∧ l + u = y1 →
    JW G (d + 3) mX3_breakPages 43 [some (.ref b), some (.int (jI x1)), some (.int (jI y1)), some (.int (jI l))] [] (n, ly_f b f bk w h ln (p1) (ly_AP A (ly_rg P8 x1 l p1) (P9))) bc bs Q := by
  intro u
  induction u with
  | zero =>
    intro l hl2
    have el : l = y1 := by omega
    subst el
    refine ji_iload_n dX3_breakPages_43 rfl ?_
    refine ji_iload_n dX3_breakPages_44 rfl ?_
    refine ji_icmp_ge (tgt := 71) dX3_breakPages_45 rfl (by omega) (by omega) (fun c45 => ?_) (fun c45 => absurd c45 (by omega))
    exact K _
  | succ u ih =>
    intro l hl2
    refine ji_iload_n dX3_breakPages_43 rfl ?_
    refine ji_iload_n dX3_breakPages_44 rfl ?_
    refine ji_icmp_ge (tgt := 71) dX3_breakPages_45 rfl (by omega) (by omega) (fun c45 => absurd c45 (by omega)) (fun c45 => ?_)
    refine ji_iload_n dX3_breakPages_48 rfl ?_
    refine ji_sipush dX3_breakPages_49 rfl ?_
    refine ji_icmp_ge (tgt := 71) dX3_breakPages_52 rfl (by omega) (by omega) (fun c52 => absurd c52 (by omega)) (fun c52 => ?_)
    refine ji_aload_n dX3_breakPages_55 rfl trivial ?_
    refine ji_get (ci := 3) (k := 13) rfl dX3_breakPages_56 lX3_34 (by decide) (ly_0) rfl ?_
    refine ji_iload_n dX3_breakPages_59 rfl ?_
    refine ji_aload_n dX3_breakPages_60 rfl trivial ?_
    refine ji_get (ci := 3) (k := 14) rfl dX3_breakPages_61 lX3_135 (by decide) (ly_0) rfl ?_
    refine ji_iastoreE dX3_breakPages_64 ((show _ = Sum.inr (FieldType.int, 240, Sum.inl (ly_rg P8 x1 l p1)) from ly_a8)) (by omega) (ly_s8) ?_
    refine ji_iinc dX3_breakPages_65 (by decide) rfl rfl ?_
    refine ji_goto (tgt := 43) dX3_breakPages_68 rfl ?_
    exact ji_eqv (ih (l + 1) (by omega)) rfl rfl (by rw [ly_AP8, ly_rg_s (by omega)])

set_option maxHeartbeats 4000000 in
set_option maxRecDepth 100000 in
theorem k_Layout_breakPages_l2 (hcx : ly_cx n f b bk B sty) (hA0 : ∀ k j, -100000 ≤ A k j ∧ A k j ≤ 100000) (hl : 0 ≤ ln ∧ ln ≤ 240) (hN : ∀ j, 0 ≤ A 1 j ∧ A 1 j ≤ 1000) (h7 : ∀ j, 0 ≤ A 7 j ∧ A 7 j < 1024) (h5 : ∀ j, 0 ≤ A 5 j ∧ A 5 j ≤ 10) (hh : 0 ≤ h ∧ h ≤ 1000) {RR : Int × (Nat → Int) × (Nat → Int)} : ∀ (u : Nat) (x pg : Int) (P8 P9 : Nat → Int) (o2 o3 : Option Value), 0 ≤ x ∧ x ≤ ln → ln - x ≤ u → 0 ≤ pg ∧ pg ≤ x → (∀ j, -100000 ≤ P8 j ∧ P8 j ≤ 100000) → (∀ j, -100000 ≤ P9 j ∧ P9 j ≤ 100000) → RR = ly_pgl h ln sty A u x pg P8 P9 →
    JW G (d + 3) mX3_breakPages 7 [some (.ref b), some (.int (jI x)), o2, o3] [] (n, ly_f b f bk w h ln (pg) (ly_AP A (P8) (P9))) 0 0 (fun r9 h9 => r9 = .inl none ∧ h9 = (n, ly_f b f bk w h ln (RR.1) (ly_AP A (RR.2.1) (va_up RR.2.2 RR.1.toNat ln)))) := by
  intro u
  induction u with
  | zero =>
    intro x pg P8 P9 o2 o3 hx hu hpg b8 b9 hR
    rw [ly_pgl] at hR
    subst hR
    refine ji_iload_n dX3_breakPages_7 rfl ?_
    refine ji_aload_n dX3_breakPages_8 rfl trivial ?_
    refine ji_get (ci := 3) (k := 6) rfl dX3_breakPages_9 lX3_86 (by decide) (ly_0) rfl ?_
    refine ji_icmp_ge (tgt := 86) dX3_breakPages_12 rfl (by omega) (by omega) (fun c12 => ?_) (fun c12 => absurd c12 (by omega))
    refine ji_aload_n dX3_breakPages_86 rfl trivial ?_
    refine ji_get (ci := 3) (k := 15) rfl dX3_breakPages_87 lX3_37 (by decide) (ly_0) rfl ?_
    refine ji_aload_n dX3_breakPages_90 rfl trivial ?_
    refine ji_get (ci := 3) (k := 14) rfl dX3_breakPages_91 lX3_135 (by decide) (ly_0) rfl ?_
    refine ji_aload_n dX3_breakPages_94 rfl trivial ?_
    refine ji_get (ci := 3) (k := 6) rfl dX3_breakPages_95 lX3_86 (by decide) (ly_0) rfl ?_
    refine ji_iastoreE dX3_breakPages_98 ((show _ = Sum.inr (FieldType.int, 241, Sum.inl P9) from ly_a9)) (by omega) (ly_s9) ?_
    exact ji_return dX3_breakPages_99 rfl ⟨rfl, by rw [ly_AP9]⟩
  | succ u ih =>
    intro x pg P8 P9 o2 o3 hx hu hpg b8 b9 hR
    have hA := ly_AP_b hA0 b8 b9
    have g1 := ly_BF_b h ln sty A x
    rw [ly_pgl] at hR
    refine ji_iload_n dX3_breakPages_7 rfl ?_
    refine ji_aload_n dX3_breakPages_8 rfl trivial ?_
    refine ji_get (ci := 3) (k := 6) rfl dX3_breakPages_9 lX3_86 (by decide) (ly_0) rfl ?_
    refine ji_icmp_ge (tgt := 86) dX3_breakPages_12 rfl (by omega) (by omega) (fun c12 => ?_) (fun c12 => ?_)
    · refine ji_aload_n dX3_breakPages_86 rfl trivial ?_
      refine ji_get (ci := 3) (k := 15) rfl dX3_breakPages_87 lX3_37 (by decide) (ly_0) rfl ?_
      refine ji_aload_n dX3_breakPages_90 rfl trivial ?_
      refine ji_get (ci := 3) (k := 14) rfl dX3_breakPages_91 lX3_135 (by decide) (ly_0) rfl ?_
      refine ji_aload_n dX3_breakPages_94 rfl trivial ?_
      refine ji_get (ci := 3) (k := 6) rfl dX3_breakPages_95 lX3_86 (by decide) (ly_0) rfl ?_
      refine ji_iastoreE dX3_breakPages_98 ((show _ = Sum.inr (FieldType.int, 241, Sum.inl P9) from ly_a9)) (by omega) (ly_s9) ?_
      exact ji_return dX3_breakPages_99 rfl ⟨rfl, by rw [if_neg (by omega)] at hR; subst hR; rw [ly_AP9]⟩
    · refine ji_aload_n dX3_breakPages_15 rfl trivial ?_
      refine ji_get (ci := 3) (k := 14) rfl dX3_breakPages_16 lX3_135 (by decide) (ly_0) rfl ?_
      refine ji_sipush dX3_breakPages_19 rfl ?_
      refine ji_icmp_ge (tgt := 86) dX3_breakPages_22 rfl (by omega) (by omega) (fun c22 => ?_) (fun c22 => ?_)
      · refine ji_aload_n dX3_breakPages_86 rfl trivial ?_
        refine ji_get (ci := 3) (k := 15) rfl dX3_breakPages_87 lX3_37 (by decide) (ly_0) rfl ?_
        refine ji_aload_n dX3_breakPages_90 rfl trivial ?_
        refine ji_get (ci := 3) (k := 14) rfl dX3_breakPages_91 lX3_135 (by decide) (ly_0) rfl ?_
        refine ji_aload_n dX3_breakPages_94 rfl trivial ?_
        refine ji_get (ci := 3) (k := 6) rfl dX3_breakPages_95 lX3_86 (by decide) (ly_0) rfl ?_
        refine ji_iastoreE dX3_breakPages_98 ((show _ = Sum.inr (FieldType.int, 241, Sum.inl P9) from ly_a9)) (by omega) (ly_s9) ?_
        exact ji_return dX3_breakPages_99 rfl ⟨rfl, by rw [if_neg (by omega)] at hR; subst hR; rw [ly_AP9]⟩
      · refine ji_aload_n dX3_breakPages_25 rfl trivial ?_
        refine ji_iload_n dX3_breakPages_26 rfl ?_
        refine ji_cV dX3_breakPages_27 ((by have z9 := k_Layout_breakFrom (G := G) (d := d) (w := w) (pg := pg) (x1 := x) hcx hA hl (by omega) hN h7 h5 hh; rw [ly_BF_AP] at z9; exact z9)) rfl (ly_0) rfl rfl wX3_breakFrom vX3_breakFrom lX3_138 rfl (Nat.le_of_ble_eq_true rfl) rfl ?_
        refine ji_istore_n dX3_breakPages_30 (by decide) rfl ?_
        refine ji_aload_n dX3_breakPages_31 rfl trivial ?_
        refine ji_get (ci := 3) (k := 15) rfl dX3_breakPages_32 lX3_37 (by decide) (ly_0) rfl ?_
        refine ji_aload_n dX3_breakPages_35 rfl trivial ?_
        refine ji_get (ci := 3) (k := 14) rfl dX3_breakPages_36 lX3_135 (by decide) (ly_0) rfl ?_
        refine ji_iload_n dX3_breakPages_39 rfl ?_
        refine ji_iastoreE dX3_breakPages_40 ((show _ = Sum.inr (FieldType.int, 241, Sum.inl P9) from ly_a9)) (by omega) (ly_s9) ?_
        refine ji_iload_n dX3_breakPages_41 rfl ?_
        refine ji_istore_n dX3_breakPages_42 (by decide) rfl ?_
        refine ji_eqv (h2 := (n, ly_f b f bk w h ln (pg) (ly_AP A (ly_rg P8 x x pg) (va_up P9 pg.toNat x)))) (k_Layout_breakPages_l1 (by omega) (by omega) (fun o3 => ?_) (ly_BF h ln sty A x - x).toNat x (by omega)) rfl rfl (by rw [ly_AP9, ly_rg_0])
        rw [if_pos (by omega)] at hR
        refine ji_aload_n dX3_breakPages_71 rfl trivial ?_
        refine ji_dup dX3_breakPages_72 rfl ?_
        refine ji_get (ci := 3) (k := 14) rfl dX3_breakPages_73 lX3_135 (by decide) (ly_0) rfl ?_
        refine ji_iconst dX3_breakPages_76 ?_
        refine ji_iadd dX3_breakPages_77 ?_
        refine ji_putE (ci := 3) (k := 14) rfl dX3_breakPages_78 lX3_135 (by decide) (ly_0) (by simp) (ji_fitI _) rfl (ly_pp) ?_
        refine ji_iload_n dX3_breakPages_81 rfl ?_
        refine ji_istore_n dX3_breakPages_82 (by decide) rfl ?_
        refine ji_goto (tgt := 7) dX3_breakPages_83 rfl ?_
        exact ih _ _ _ _ _ _ (by omega) (by omega) (by omega) (ly_rg_b b8 (by omega)) (ly_up1 b9 (by omega)) hR

def ly_Pg (h ln : Int) (sty : Nat → Int) (A : Nat → Nat → Int) : Int × (Nat → Int) × (Nat → Int) := ly_pgl h ln sty A ln.toNat 0 0 (A 8) (A 9)
def ly_AF (h ln : Int) (sty : Nat → Int) (A : Nat → Nat → Int) : Nat → Nat → Int := ly_AP A (ly_Pg h ln sty A).2.1 (va_up (ly_Pg h ln sty A).2.2 (ly_Pg h ln sty A).1.toNat ln)

set_option maxHeartbeats 4000000 in
set_option maxRecDepth 100000 in
theorem k_Layout_breakPages (hcx : ly_cx n f b bk B sty) (hA0 : ∀ k j, -100000 ≤ A k j ∧ A k j ≤ 100000) (hl : 0 ≤ ln ∧ ln ≤ 240) (hN : ∀ j, 0 ≤ A 1 j ∧ A 1 j ≤ 1000) (h7 : ∀ j, 0 ≤ A 7 j ∧ A 7 j < 1024) (h5 : ∀ j, 0 ≤ A 5 j ∧ A 5 j ≤ 10) (hh : 0 ≤ h ∧ h ≤ 1000) : JR G (d + 3) mX3_breakPages [.ref b] (n, ly_f b f bk w h ln pg A) 0 0 none (n, ly_f b f bk w h ln (ly_Pg h ln sty A).1 (ly_AF h ln sty A)) := by
  refine ji_ent (by decide) rfl (Nat.le_of_ble_eq_true rfl) rfl ?_
  refine ji_aload_n dX3_breakPages_0 rfl trivial ?_
  refine ji_iconst dX3_breakPages_1 ?_
  refine ji_putE (ci := 3) (k := 14) rfl dX3_breakPages_2 lX3_135 (by decide) (ly_0) (by simp) (ji_fitI _) rfl (ly_pp) ?_
  refine ji_iconst dX3_breakPages_5 ?_
  refine ji_istore_n dX3_breakPages_6 (by decide) rfl ?_
  exact ji_eqv (h2 := (n, ly_f b f bk w h ln (0) (ly_AP A (A 8) (A 9)))) (k_Layout_breakPages_l2 hcx hA0 hl hN h7 h5 hh ln.toNat 0 0 (A 8) (A 9) _ _ (by omega) (by omega) (by omega) (hA0 8) (hA0 9) rfl) rfl rfl (by unfold ly_AP; rw [va_up_same (f := A) (k := 8), va_up_same])

/-- the whole layout: lines, pages, rows -/
def ly_A1 (w : Int) (NT : nt_T) (A : Nat → Nat → Int) : Nat → Nat → Int := va_up A 1 (ji_map (ly_nl w NT) (A 1) 10)
def ly_R (B : bk_T) (w : Int) (sty : Nat → Int) (NT : nt_T) (A : Nat → Nat → Int) : Int × (Nat → Nat → Int) := ly_L B w sty (ly_A1 w NT A)
def ly_ln (B : bk_T) (w : Int) (sty : Nat → Int) (NT : nt_T) (A : Nat → Nat → Int) : Int := (ly_R B w sty NT A).1
def ly_A3 (B : bk_T) (w : Int) (sty : Nat → Int) (NT : nt_T) (A : Nat → Nat → Int) : Nat → Nat → Int := ly_AM B (ly_ln B w sty NT A) sty (ly_AL B (ly_R B w sty NT A)) (ly_ln B w sty NT A)
def ly_pg (B : bk_T) (w h : Int) (sty : Nat → Int) (NT : nt_T) (A : Nat → Nat → Int) : Int := (ly_Pg h (ly_ln B w sty NT A) sty (ly_A3 B w sty NT A)).1
def ly_A4 (B : bk_T) (w h : Int) (sty : Nat → Int) (NT : nt_T) (A : Nat → Nat → Int) : Nat → Nat → Int := ly_AF h (ly_ln B w sty NT A) sty (ly_A3 B w sty NT A)

end MLayout7
