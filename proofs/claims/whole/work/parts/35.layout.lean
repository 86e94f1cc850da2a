/-! ===== a layout is made ===== -/
theorem va_up_same {α : Type} (f : Nat → α) (k : Nat) : va_up f k (f k) = f := by
  funext j; unfold va_up; split
  · rename_i e; rw [e]
  · rfl
theorem ly_up {A : Nat → Nat → Int} {v : Nat → Int} {k0 : Nat} (hA : ∀ k j, -100000 ≤ A k j ∧ A k j ≤ 100000) (hv : ∀ j, -100000 ≤ v j ∧ v j ≤ 100000) : ∀ k j, -100000 ≤ va_up A k0 v k j ∧ va_up A k0 v k j ≤ 100000 := fun k j => by unfold va_up; split; exact hv j; exact hA k j
theorem ly_up1 {g : Nat → Int} {i : Nat} {v : Int} (hg : ∀ j, -100000 ≤ g j ∧ g j ≤ 100000) (hv : -100000 ≤ v ∧ v ≤ 100000) : ∀ j, -100000 ≤ va_up g i v j ∧ va_up g i v j ≤ 100000 := fun j => by unfold va_up; split; exact hv; exact hg j
theorem ly_mapb {g o : Nat → Int} {i : Int} (hg : ∀ j, -100000 ≤ g j ∧ g j ≤ 100000) (ho : ∀ j, -100000 ≤ o j ∧ o j ≤ 100000) : ∀ j, -100000 ≤ ji_map g o i j ∧ ji_map g o i j ≤ 100000 := fun j => by unfold ji_map; split; exact hg j; exact ho j
def ly_nl (w : Int) (NT : nt_T) (k : Nat) : Int := match NT k with
  | none => 0
  | some (m, nn, _, s) => wd_lw m nn s w nn 0 0
theorem wd_lw_b (m n : Nat) (s : Nat → Int) (room : Int) : ∀ (u : Nat) (x l : Int), l ≤ wd_lw m n s room u x l ∧ wd_lw m n s room u x l ≤ l + u
  | 0, x, l => by unfold wd_lw; omega
  | u + 1, x, l => by
    unfold wd_lw
    split
    · have := wd_lw_b m n s room u (wd_LE m n s x n room) (l + 1); omega
    · omega
section MLayout5
variable {G : ji_G} {d n b bk : Nat} {f : Nat → ji_C} {w h ln pg : Int} {A : Nat → Nat → Int} {B : bk_T} {sty : Nat → Int}
theorem ly_nl_b {nf : Nat → Option Nat} {NT : nt_T} (hnt : nt_at n f nf NT) {k : Nat} (hk : k < 10) : 0 ≤ ly_nl w NT k ∧ ly_nl w NT k ≤ 10000 := by
  unfold ly_nl
  rcases hnt.2 k hk with ⟨_, h2⟩ | ⟨a, m, nn, tx, s, _, h2, _, h4⟩
  · rw [h2]; dsimp only; omega
  · rw [h2]; dsimp only; have := wd_lw_b m nn s w nn 0 0; have := h4.2.1; omega

set_option maxHeartbeats 4000000 in
set_option maxRecDepth 100000 in
theorem k_Layout_measureNotes_loop (hcx : ly_cx n f b bk B sty) (hA0 : ∀ k j, -100000 ≤ A k j ∧ A k j ≤ 100000) (hl : 0 ≤ ln ∧ ln ≤ 240) {nf : Nat → Option Nat} {NT : nt_T} (hnt : nt_at n f nf NT) (hw9 : 0 ≤ w ∧ w ≤ 1000) : ∀ (u : Nat) (k : Int) (o2 : Option Value), 0 ≤ k ∧ k + u = 10 →
    JW G (d + 3) mX3_measureNotes 2 [some (.ref b), some (.int (jI k)), o2] [] (n, ly_f b f bk w h ln pg (va_up A 1 (ji_map (ly_nl w NT) (A 1) k))) 0 0 (fun r9 h9 => r9 = .inl none ∧ h9 = (n, ly_f b f bk w h ln pg (va_up A 1 (ji_map (ly_nl w NT) (A 1) 10)))) := by
  intro u
  induction u with
  | zero =>
    intro k o2 hk
    have ek : k = 10 := by omega
    subst ek
    refine ji_iload_n dX3_measureNotes_2 rfl ?_
    refine ji_bipush dX3_measureNotes_3 rfl ?_
    refine ji_icmp_ge (tgt := 42) dX3_measureNotes_5 rfl (by omega) (by omega) (fun c5 => ?_) (fun c5 => absurd c5 (by omega))
    exact ji_return dX3_measureNotes_42 rfl ⟨rfl, rfl⟩
  | succ u ih =>
    intro k o2 hk
    have hnl : ∀ j : Nat, (j : Int) < k → 0 ≤ ly_nl w NT j ∧ ly_nl w NT j ≤ 10000 := fun j hj => ly_nl_b hnt (by omega)
    have hA : ∀ k' j, -100000 ≤ (va_up A 1 (ji_map (ly_nl w NT) (A 1) k)) k' j ∧ (va_up A 1 (ji_map (ly_nl w NT) (A 1) k)) k' j ≤ 100000 := ly_up hA0 (fun j => by unfold ji_map; split; have := hnl j (by assumption); omega; exact hA0 1 j)
    obtain ⟨hbb, hsty, hbk0, hko, hst⟩ := id hcx
    have hbk : bk_at (n, ly_f b f bk w h ln pg (va_up A 1 (ji_map (ly_nl w NT) (A 1) k))) bk B := hbk0.kept (ly_keep hbb)
    obtain ⟨ww, hwd, hwr⟩ := k_Book_words (G := G) hbk hko
    obtain ⟨t9, q9, hw, -⟩ := id hwd
    obtain ⟨xx1, xx2, xx3, hb, -⟩ := id hbk
    obtain ⟨hwo, k1, k2, k3⟩ := id hko
    obtain ⟨o1, o2, o3, o4⟩ := id hwo
    rcases hnt.2 k.toNat (by omega) with ⟨hf0, hN0⟩ | ⟨a0, m0, n0, tx0, s0, hf1, hN1, hw0, ho1⟩
    · refine ji_iload_n dX3_measureNotes_2 rfl ?_
      refine ji_bipush dX3_measureNotes_3 rfl ?_
      refine ji_icmp_ge (tgt := 42) dX3_measureNotes_5 rfl (by omega) (by omega) (fun c5 => absurd c5 (by omega)) (fun c5 => ?_)
      refine ji_aload_n dX3_measureNotes_8 rfl trivial ?_
      refine ji_iload_n dX3_measureNotes_9 rfl ?_
      refine ji_cV dX3_measureNotes_10 (k_Layout_textOfN hcx hA hl hnt (by omega) hf0) rfl (ly_0) rfl rfl wX3_textOf vX3_textOf lX3_70 rfl (Nat.le_of_ble_eq_true rfl) rfl ?_
      refine ji_astore_n dX3_measureNotes_13 (by decide) trivial rfl ?_
      refine ji_aload_n dX3_measureNotes_14 rfl trivial ?_
      refine ji_get (ci := 3) (k := 5) rfl dX3_measureNotes_15 lX3_9 (by decide) (ly_0) rfl ?_
      refine ji_iload_n dX3_measureNotes_18 rfl ?_
      refine ji_aload_n dX3_measureNotes_19 rfl trivial ?_
      refine ji_ifnonnullN dX3_measureNotes_20 ?_
      refine ji_iconst dX3_measureNotes_23 ?_
      refine ji_goto (tgt := 35) dX3_measureNotes_24 rfl ?_
      refine ji_iastoreE dX3_measureNotes_35 (ly_a1) (by omega) (ly_s1) ?_
      refine ji_iinc dX3_measureNotes_36 (by decide) rfl rfl ?_
      refine ji_goto (tgt := 2) dX3_measureNotes_39 rfl ?_
      exact ji_eqv (ih (k + 1) _ (by omega)) rfl rfl (by rw [va_up_idem, va_up_self, ji_map_s hk.1 (by unfold ly_nl; rw [hN0])])
    · have hw1 : wd_at (n, ly_f b f bk w h ln pg (va_up A 1 (ji_map (ly_nl w NT) (A 1) k))) a0 m0 n0 tx0 s0 := hw0.kept (ly_keep hbb)
      obtain ⟨t8, q8, hwt, -⟩ := id hw1
      refine ji_iload_n dX3_measureNotes_2 rfl ?_
      refine ji_bipush dX3_measureNotes_3 rfl ?_
      refine ji_icmp_ge (tgt := 42) dX3_measureNotes_5 rfl (by omega) (by omega) (fun c5 => absurd c5 (by omega)) (fun c5 => ?_)
      refine ji_aload_n dX3_measureNotes_8 rfl trivial ?_
      refine ji_iload_n dX3_measureNotes_9 rfl ?_
      refine ji_cV dX3_measureNotes_10 (k_Layout_textOfS hcx hA hl hnt (by omega) hf1) rfl (ly_0) rfl rfl wX3_textOf vX3_textOf lX3_70 rfl (Nat.le_of_ble_eq_true rfl) rfl ?_
      refine ji_astore_n dX3_measureNotes_13 (by decide) trivial rfl ?_
      refine ji_aload_n dX3_measureNotes_14 rfl trivial ?_
      refine ji_get (ci := 3) (k := 5) rfl dX3_measureNotes_15 lX3_9 (by decide) (ly_0) rfl ?_
      refine ji_iload_n dX3_measureNotes_18 rfl ?_
      refine ji_aload_n dX3_measureNotes_19 rfl trivial ?_
      refine ji_ifnonnull (tgt := 27) dX3_measureNotes_20 rfl ?_
      refine ji_aload_n dX3_measureNotes_27 rfl trivial ?_
      refine ji_aload_n dX3_measureNotes_28 rfl trivial ?_
      refine ji_get (ci := 3) (k := 3) rfl dX3_measureNotes_29 lX3_51 (by decide) (ly_0) rfl ?_
      refine ji_cV dX3_measureNotes_32 (k_Words_linesWithin hw1 ho1 (by omega)) rfl (hwt) rfl rfl wX6_linesWithin vX6_linesWithin lX3_74 rfl (Nat.le_of_ble_eq_true rfl) rfl ?_
      refine ji_iastoreE dX3_measureNotes_35 (ly_a1) (by omega) (ly_s1) ?_
      refine ji_iinc dX3_measureNotes_36 (by decide) rfl rfl ?_
      refine ji_goto (tgt := 2) dX3_measureNotes_39 rfl ?_
      exact ji_eqv (ih (k + 1) _ (by omega)) rfl rfl (by rw [va_up_idem, va_up_self, ji_map_s hk.1 (by unfold ly_nl; rw [hN1])])

set_option maxHeartbeats 4000000 in
set_option maxRecDepth 100000 in
theorem k_Layout_measureNotes (hcx : ly_cx n f b bk B sty) (hA0 : ∀ k j, -100000 ≤ A k j ∧ A k j ≤ 100000) (hl : 0 ≤ ln ∧ ln ≤ 240) {nf : Nat → Option Nat} {NT : nt_T} (hnt : nt_at n f nf NT) (hw9 : 0 ≤ w ∧ w ≤ 1000) : JR G (d + 3) mX3_measureNotes [.ref b] (n, ly_f b f bk w h ln pg A) 0 0 none (n, ly_f b f bk w h ln pg (va_up A 1 (ji_map (ly_nl w NT) (A 1) 10))) := by
  refine ji_ent (by decide) rfl (Nat.le_of_ble_eq_true rfl) rfl ?_
  refine ji_iconst dX3_measureNotes_0 ?_
  refine ji_istore_n dX3_measureNotes_1 (by decide) rfl ?_
  exact ji_eqv (k_Layout_measureNotes_loop hcx hA0 hl hnt hw9 10 0 _ (by omega)) rfl rfl (by rw [ji_map_0, va_up_same])

/-- one line more -/
def ly_add (B : bk_T) (A : Nat → Nat → Int) (ln p ind x y : Int) : Nat → Nat → Int :=
  va_up (va_up (va_up (va_up A 3 (va_up (A 3) ln.toNat p)) 4 (va_up (A 4) ln.toNat ind)) 2 (va_up (A 2) ln.toNat x)) 7 (va_up (A 7) ln.toNat (ly_rf B (y - x).toNat x 0))
def ly_bl1 (B : bk_T) (w : Int) (sty : Nat → Int) (p stop : Int) : Nat → Int → Int → Int → (Nat → Nat → Int) → Int × (Nat → Nat → Int)
  | 0, _, _, ln, A => (ln, A)
  | u + 1, x, ind, ln, A => if x < stop ∧ ln < 240 then ly_bl1 B w sty p stop u (wd_LE (bk_m B) (bk_n B) (bk_s B) x stop (w - ind)) (ly_li B sty p) (ln + 1) (ly_add B A ln p ind x (wd_LE (bk_m B) (bk_n B) (bk_s B) x stop (w - ind))) else (ln, A)
def ly_bl (B : bk_T) (w : Int) (sty : Nat → Int) : Nat → Int → Int × (Nat → Nat → Int) → Int × (Nat → Nat → Int)
  | 0, _, R => R
  | u + 1, p, R => ly_bl B w sty u (p + 1) (ly_bl1 B w sty p (bk_fw B (p + 1)) (bk_fw B (p + 1) - bk_fw B p).toNat (bk_fw B p) (ly_fi B sty p) R.1 R.2)
theorem ly_li_b {B : bk_T} {sty : Nat → Int} (hs : ∀ k, 0 ≤ sty k ∧ sty k ≤ 4) (p : Int) : 0 ≤ ly_li B sty p ∧ ly_li B sty p ≤ 4 := by have := ly_st_b hs 1; unfold ly_li; split <;> omega
theorem ly_fi_b {B : bk_T} {sty : Nat → Int} (hs : ∀ k, 0 ≤ sty k ∧ sty k ≤ 4) (p : Int) : 0 ≤ ly_fi B sty p ∧ ly_fi B sty p ≤ 4 := by have := ly_st_b hs 0; have := ly_li_b (B := B) hs p; unfold ly_fi; split <;> omega
theorem ly_add_b {B : bk_T} {A : Nat → Nat → Int} {ln p ind x y : Int} (hA : ∀ k j, -100000 ≤ A k j ∧ A k j ≤ 100000) (hp : 0 ≤ p ∧ p ≤ 10000) (hi : 0 ≤ ind ∧ ind ≤ 1000) (hx : 0 ≤ x ∧ x ≤ 20000) : ∀ k j, -100000 ≤ ly_add B A ln p ind x y k j ∧ ly_add B A ln p ind x y k j ≤ 100000 := by
  have h1 := ly_rf_b B (y - x).toNat x 0 (by omega)
  exact ly_up (ly_up (ly_up (ly_up hA (ly_up1 (hA 3) (by omega))) (ly_up1 (hA 4) (by omega))) (ly_up1 (hA 2) (by omega))) (ly_up1 (hA 7) (by omega))
theorem ly_bl1_b {B : bk_T} {w : Int} {sty : Nat → Int} {p stop : Int} (hs : ∀ k, 0 ≤ sty k ∧ sty k ≤ 4) (hp : 0 ≤ p ∧ p ≤ 1000) (hst : 0 ≤ stop ∧ stop ≤ 10000) : ∀ (u : Nat) (x ind ln : Int) (A : Nat → Nat → Int), (0 ≤ x ∧ x ≤ 10000) → (0 ≤ ind ∧ ind ≤ 4) → (0 ≤ ln ∧ ln ≤ 240) → (∀ k j, -100000 ≤ A k j ∧ A k j ≤ 100000) →
    (0 ≤ (ly_bl1 B w sty p stop u x ind ln A).1 ∧ (ly_bl1 B w sty p stop u x ind ln A).1 ≤ 240) ∧ ∀ k j, -100000 ≤ (ly_bl1 B w sty p stop u x ind ln A).2 k j ∧ (ly_bl1 B w sty p stop u x ind ln A).2 k j ≤ 100000
  | 0, x, ind, ln, A, h1, h2, h3, h4 => ⟨h3, h4⟩
  | u + 1, x, ind, ln, A, h1, h2, h3, h4 => by
    unfold ly_bl1
    split
    · have h5 := wd_LE_b (bk_m B) (bk_n B) (bk_s B) x stop (w - ind)
      exact ly_bl1_b hs hp hst u _ _ _ _ (by omega) (ly_li_b hs p) (by omega) (ly_add_b h4 (by omega) (by omega) (by omega))
    · exact ⟨h3, h4⟩

set_option maxHeartbeats 4000000 in
set_option maxRecDepth 100000 in
theorem k_Layout_breakLines_l1 (hcx : ly_cx n f b bk B sty) (hw9 : 0 ≤ w ∧ w ≤ 1000) {p stop : Int} (hp9 : 0 ≤ p ∧ p ≤ 100) (hs9 : 0 ≤ stop ∧ stop ≤ 10000) {ww : Nat} {bc bs : Nat} {Q : ji_R → ji_H → Prop} {RR : Int × (Nat → Nat → Int)} (K : ∀ o3 o4 o5 o6 : Option Value, JW G (d + 3) mX3_breakLines 156 [some (.ref b), some (.ref ww), some (.int (jI p)), o3, o4, o5, o6] [] (n, ly_f b f bk w h (RR.1) pg (RR.2)) bc bs Q) (hww : ∀ (ln : Int) (A : Nat → Nat → Int), wd_at (n, ly_f b f bk w h ln pg A) ww (bk_m B) (bk_n B) (bk_tx B) (bk_s B)) : ∀ (u : Nat) (x ind ln : Int) (A : Nat → Nat → Int) (o6 : Option Value), 0 ≤ x ∧ x ≤ 10000 → stop - x ≤ u → 0 ≤ ind ∧ ind ≤ 4 → 0 ≤ ln ∧ ln ≤ 240 → (∀ k j, -100000 ≤ A k j ∧ A k j ≤ 100000) → RR = ly_bl1 B w sty p stop u x ind ln A →
    JW G (d + 3) mX3_breakLines 54 [some (.ref b), some (.ref ww), some (.int (jI p)), some (.int (jI x)), some (.int (jI stop)), some (.int (jI ind)), o6] [] (n, ly_f b f bk w h ln pg A) bc bs Q := by
  intro u
  induction u with
  | zero =>
    intro x ind ln A o6 hx hu hi hl hA hR
    obtain ⟨hbb, hsty, hbk0, hko, hst⟩ := id hcx
    have hbk : bk_at (n, ly_f b f bk w h ln pg A) bk B := hbk0.kept (ly_keep hbb)
    have hwd := hww ln A
    obtain ⟨t9, q9, hw, -⟩ := id hwd
    obtain ⟨xx1, xx2, xx3, hb, -⟩ := id hbk
    obtain ⟨hwo, k1, k2, k3⟩ := id hko
    obtain ⟨o1, o2, o3, o4⟩ := id hwo
    refine ji_iload_n dX3_breakLines_54 rfl ?_
    refine ji_iload dX3_breakLines_55 rfl ?_
    refine ji_icmp_ge (tgt := 156) dX3_breakLines_57 rfl (by omega) (by omega) (fun c57 => ?_) (fun c57 => absurd c57 (by omega))
    subst hR; exact K _ _ _ _
  | succ u ih =>
    intro x ind ln A o6 hx hu hi hl hA hR
    obtain ⟨hbb, hsty, hbk0, hko, hst⟩ := id hcx
    have hbk : bk_at (n, ly_f b f bk w h ln pg A) bk B := hbk0.kept (ly_keep hbb)
    have hwd := hww ln A
    obtain ⟨t9, q9, hw, -⟩ := id hwd
    obtain ⟨xx1, xx2, xx3, hb, -⟩ := id hbk
    obtain ⟨hwo, k1, k2, k3⟩ := id hko
    obtain ⟨o1, o2, o3, o4⟩ := id hwo
    have h5 := wd_LE_b (bk_m B) (bk_n B) (bk_s B) x stop (w - ind)
    rw [ly_bl1] at hR
    refine ji_iload_n dX3_breakLines_54 rfl ?_
    refine ji_iload dX3_breakLines_55 rfl ?_
    refine ji_icmp_ge (tgt := 156) dX3_breakLines_57 rfl (by omega) (by omega) (fun c57 => ?_) (fun c57 => ?_)
    · rw [if_neg (by omega)] at hR; subst hR; exact K _ _ _ _
    · refine ji_aload_n dX3_breakLines_60 rfl trivial ?_
      refine ji_get (ci := 3) (k := 6) rfl dX3_breakLines_61 lX3_86 (by decide) (ly_0) rfl ?_
      refine ji_sipush dX3_breakLines_64 rfl ?_
      refine ji_icmp_ge (tgt := 156) dX3_breakLines_67 rfl (by omega) (by omega) (fun c67 => ?_) (fun c67 => ?_)
      · rw [if_neg (by omega)] at hR; subst hR; exact K _ _ _ _
      · refine ji_aload_n dX3_breakLines_70 rfl trivial ?_
        refine ji_iload_n dX3_breakLines_71 rfl ?_
        refine ji_iload dX3_breakLines_72 rfl ?_
        refine ji_aload_n dX3_breakLines_74 rfl trivial ?_
        refine ji_get (ci := 3) (k := 3) rfl dX3_breakLines_75 lX3_51 (by decide) (ly_0) rfl ?_
        refine ji_iload dX3_breakLines_78 rfl ?_
        refine ji_isub dX3_breakLines_80 ?_
        refine ji_cV dX3_breakLines_81 (k_Words_lineEnd hwd hwo (by omega) (by omega) (by omega)) rfl (hw) rfl rfl wX6_lineEnd vX6_lineEnd lX3_99 rfl (Nat.le_of_ble_eq_true rfl) rfl ?_
        refine ji_istore dX3_breakLines_84 (by decide) rfl ?_
        refine ji_aload_n dX3_breakLines_86 rfl trivial ?_
        refine ji_get (ci := 3) (k := 8) rfl dX3_breakLines_87 lX3_18 (by decide) (ly_0) rfl ?_
        refine ji_aload_n dX3_breakLines_90 rfl trivial ?_
        refine ji_get (ci := 3) (k := 6) rfl dX3_breakLines_91 lX3_86 (by decide) (ly_0) rfl ?_
        refine ji_iload_n dX3_breakLines_94 rfl ?_
        refine ji_iastoreE dX3_breakLines_95 (ly_a3) (by omega) (ly_s3) ?_
        refine ji_aload_n dX3_breakLines_96 rfl trivial ?_
        refine ji_get (ci := 3) (k := 9) rfl dX3_breakLines_97 lX3_21 (by decide) (ly_0) rfl ?_
        refine ji_aload_n dX3_breakLines_100 rfl trivial ?_
        refine ji_get (ci := 3) (k := 6) rfl dX3_breakLines_101 lX3_86 (by decide) (ly_0) rfl ?_
        refine ji_iload dX3_breakLines_104 rfl ?_
        refine ji_iastoreE dX3_breakLines_106 (ly_a4) (by omega) (ly_s4) ?_
        refine ji_aload_n dX3_breakLines_107 rfl trivial ?_
        refine ji_get (ci := 3) (k := 7) rfl dX3_breakLines_108 lX3_15 (by decide) (ly_0) rfl ?_
        refine ji_aload_n dX3_breakLines_111 rfl trivial ?_
        refine ji_get (ci := 3) (k := 6) rfl dX3_breakLines_112 lX3_86 (by decide) (ly_0) rfl ?_
        refine ji_iload_n dX3_breakLines_115 rfl ?_
        refine ji_iastoreE dX3_breakLines_116 (ly_a2) (by omega) (ly_s2) ?_
        refine ji_aload_n dX3_breakLines_117 rfl trivial ?_
        refine ji_get (ci := 3) (k := 12) rfl dX3_breakLines_118 lX3_31 (by decide) (ly_0) rfl ?_
        refine ji_aload_n dX3_breakLines_121 rfl trivial ?_
        refine ji_get (ci := 3) (k := 6) rfl dX3_breakLines_122 lX3_86 (by decide) (ly_0) rfl ?_
        refine ji_aload_n dX3_breakLines_125 rfl trivial ?_
        have hA3 : ∀ k j, -100000 ≤ (va_up (va_up (va_up A 3 (va_up (A 3) ln.toNat p)) 4 (va_up (A 4) ln.toNat ind)) 2 (va_up (A 2) ln.toNat x)) k j ∧ (va_up (va_up (va_up A 3 (va_up (A 3) ln.toNat p)) 4 (va_up (A 4) ln.toNat ind)) 2 (va_up (A 2) ln.toNat x)) k j ≤ 100000 := ly_up (ly_up (ly_up hA (ly_up1 (hA 3) (by omega))) (ly_up1 (hA 4) (by omega))) (ly_up1 (hA 2) (by omega))
        refine ji_iload_n dX3_breakLines_126 rfl ?_
        refine ji_iload dX3_breakLines_127 rfl ?_
        refine ji_cV dX3_breakLines_129 (k_Layout_referencesOf hcx (hA3) hl (by omega) (by omega)) rfl (ly_0) rfl rfl wX3_referencesOf vX3_referencesOf lX3_103 rfl (Nat.le_of_ble_eq_true rfl) rfl ?_
        refine ji_iastoreE dX3_breakLines_132 (ly_a7) (by omega) (ly_s7) ?_
        refine ji_aload_n dX3_breakLines_133 rfl trivial ?_
        refine ji_dup dX3_breakLines_134 rfl ?_
        refine ji_get (ci := 3) (k := 6) rfl dX3_breakLines_135 lX3_86 (by decide) (ly_0) rfl ?_
        refine ji_iconst dX3_breakLines_138 ?_
        refine ji_iadd dX3_breakLines_139 ?_
        refine ji_putE (ci := 3) (k := 6) rfl dX3_breakLines_140 lX3_86 (by decide) (ly_0) (by simp) (ji_fitI _) rfl (ly_pl) ?_
        refine ji_iload dX3_breakLines_143 rfl ?_
        refine ji_istore_n dX3_breakLines_145 (by decide) rfl ?_
        refine ji_aload_n dX3_breakLines_146 rfl trivial ?_
        refine ji_iload_n dX3_breakLines_147 rfl ?_
        refine ji_cV dX3_breakLines_148 (k_Layout_laterIndentOf hcx (ly_add_b hA (by omega) (by omega) (by omega)) (by omega) (by omega)) rfl (ly_0) rfl rfl wX3_laterIndentOf vX3_laterIndentOf lX3_107 rfl (Nat.le_of_ble_eq_true rfl) rfl ?_
        refine ji_istore dX3_breakLines_151 (by decide) rfl ?_
        refine ji_goto (tgt := 54) dX3_breakLines_153 rfl ?_
        exact ih _ _ _ _ _ (by omega) (by omega) (ly_li_b hst p) (by omega) (ly_add_b hA (by omega) (by omega) (by omega)) (by rw [hR, if_pos (by omega)])

end MLayout5
