/-! ===== new books ===== -/
def nw1 (h : ji_H) (n1 : Nat) (F : Nat → Int) : ji_H := (h.1 + 1, va_up h.2 h.1 (.inr (.int, n1, .inl F)))
theorem nw1_n {h : ji_H} {n1 : Nat} {F : Nat → Int} : (nw1 h n1 F).2 h.1 = .inr (.int, n1, .inl F) := va_up_self _ _ _
theorem nw1_x {h : ji_H} {n1 : Nat} {F : Nat → Int} : ji_ext h (nw1 h n1 F) 1 := ⟨rfl, fun a ha => va_up_ne _ _ (by omega)⟩
theorem nw1_s {h : ji_H} {n1 : Nat} {F F' : Nat → Int} : ((nw1 h n1 F).1, va_up (nw1 h n1 F).2 h.1 (.inr (.int, n1, .inl F'))) = nw1 h n1 F' := by unfold nw1; rw [va_up_idem]
def nw2 (h : ji_H) (n1 n2 : Nat) (K F : Nat → Int) : ji_H := (h.1 + 1 + 1, va_up (va_up h.2 h.1 (.inr (.int, n1, .inl K))) (h.1 + 1) (.inr (.int, n2, .inl F)))
theorem nw2_k {h : ji_H} {n1 n2 : Nat} {K F : Nat → Int} : (nw2 h n1 n2 K F).2 h.1 = .inr (.int, n1, .inl K) := (va_up_ne _ _ (by omega)).trans (va_up_self _ _ _)
theorem nw2_f {h : ji_H} {n1 n2 : Nat} {K F : Nat → Int} : (nw2 h n1 n2 K F).2 (h.1 + 1) = .inr (.int, n2, .inl F) := va_up_self _ _ _
theorem nw2_x {h : ji_H} {n1 n2 : Nat} {K F : Nat → Int} : ji_ext h (nw2 h n1 n2 K F) 2 := ⟨rfl, fun a ha => (va_up_ne _ _ (by omega)).trans (va_up_ne _ _ (by omega))⟩
theorem nw2_sk {h : ji_H} {n1 n2 : Nat} {K K' F : Nat → Int} : ((nw2 h n1 n2 K F).1, va_up (nw2 h n1 n2 K F).2 h.1 (.inr (.int, n1, .inl K'))) = nw2 h n1 n2 K' F := by
  unfold nw2; rw [va_up_comm _ (show h.1 + 1 ≠ h.1 by omega), va_up_idem]
theorem nw2_sf {h : ji_H} {n1 n2 : Nat} {K F F' : Nat → Int} : ((nw2 h n1 n2 K F).1, va_up (nw2 h n1 n2 K F).2 (h.1 + 1) (.inr (.int, n2, .inl F'))) = nw2 h n1 n2 K F' := by unfold nw2; rw [va_up_idem]
section MBook2
variable {G : ji_G} {d : Nat} {h : ji_H} {b : Nat} {B : bk_T}

set_option maxHeartbeats 4000000 in
set_option maxRecDepth 100000 in
theorem k_Book_init {w kq fq : Nat} {v0 v1 v2 : Value} (hb : h.2 b = .inl (0, [v0, v1, v2])) : JR G (d + 1) mX0_init [.ref b, .ref w, .ref kq, .ref fq] h 0 0 none (h.1, va_up h.2 b (.inl (0, [.ref w, .ref kq, .ref fq]))) := by
  refine ji_ent (by decide) rfl (Nat.le_of_ble_eq_true rfl) rfl ?_
  refine ji_aload_n dX0_init_0 rfl trivial ?_
  refine ji_objInit dX0_init_1 lX0_3 ji_wobj.1 ji_wobj.2 (Nat.le_of_ble_eq_true rfl) ?_
  refine ji_aload_n dX0_init_4 rfl trivial ?_
  refine ji_aload_n dX0_init_5 rfl trivial ?_
  refine ji_putF (ci := 0) (k := 0) rfl dX0_init_6 lX0_9 (by decide) (hb) (by simp) (ji_fitO _ trivial) rfl rfl rfl ?_
  refine ji_aload_n dX0_init_9 rfl trivial ?_
  refine ji_aload_n dX0_init_10 rfl trivial ?_
  refine ji_putF (ci := 0) (k := 1) rfl dX0_init_11 lX0_15 (by decide) (va_up_self _ _ _) (by simp) (ji_fitA _ trivial) rfl rfl rfl ?_
  refine ji_aload_n dX0_init_14 rfl trivial ?_
  refine ji_aload_n dX0_init_15 rfl trivial ?_
  refine ji_putF (ci := 0) (k := 2) rfl dX0_init_16 lX0_19 (by decide) (va_up_self _ _ _) (by simp) (ji_fitA _ trivial) rfl rfl rfl ?_
  exact ji_return dX0_init_19 rfl ⟨rfl, by rw [va_up_idem, va_up_idem]; rfl⟩

/-- the first words behind a paragraph move on -/
def bk_mv (fr : Nat → Int) (p : Nat) (more : Int) (i : Int) : Nat → Int := fun j => if p + 1 ≤ j ∧ (j : Int) < i then fr j + more else fr j
theorem bk_mv_s (fr : Nat → Int) (p : Nat) (more i : Int) (h0 : (p : Int) + 1 ≤ i) : va_up (bk_mv fr p more i) i.toNat (bk_mv fr p more i i.toNat + more) = bk_mv fr p more (i + 1) := by
  funext j
  unfold va_up bk_mv
  by_cases hj : j = i.toNat
  · rw [if_pos hj, hj, if_neg (by omega), if_pos (by omega)]
  · rw [if_neg hj]
    by_cases q : p + 1 ≤ j ∧ (j : Int) < i
    · rw [if_pos q, if_pos (by omega)]
    · rw [if_neg q, if_neg (by omega)]
theorem bk_mv_0 (fr : Nat → Int) (p : Nat) (more : Int) : fr = bk_mv fr p more (p + 1) := by
  funext j; unfold bk_mv; rw [if_neg (by omega)]

set_option maxHeartbeats 4000000 in
set_option maxRecDepth 100000 in
theorem k_Book_withWords_loop (hat : bk_at h b B) (hk : bk_ok B) {p w2 m2 n2 : Nat} {tx2 s2 : Nat → Int} (hp : p < bk_P B) (hw2 : wd_at h w2 m2 n2 tx2 s2) (hk2 : wd_ok m2 n2 tx2 s2) (h72 : 72 ≤ h.1) {bc bs : Nat} (hbc : 1 ≤ bc) (hbs : 3 ≤ bs) : ∀ (f : Nat) (i : Int), (p : Int) + 1 ≤ i → i + f = bk_P B + 1 →
    JW G (d + 2) mX0_withWords 30 [some (.ref b), some (.int (jI p)), some (.ref w2), some (.int (jI ((n2 : Int) - bk_n B))), some (.ref h.1), some (.int (jI i))] [] (nw1 h (bk_P B + 1) (bk_mv (bk_fr B) p ((n2 : Int) - bk_n B) i)) bc bs (fun r h' => r = .inl (some (.ref (h.1 + 1))) ∧ ji_ext h h' 2 ∧ bk_at h' (h.1 + 1) (m2, n2, bk_P B, tx2, s2, bk_kd B, bk_mv (bk_fr B) p ((n2 : Int) - bk_n B) (bk_P B + 1))) := by
  have hat0 := hat
  obtain ⟨w, kq, fq, hb, hkd, hfr, hwd, hdy, hlt⟩ := hat
  have hwd0 := hwd
  obtain ⟨t9, q9, hw, -⟩ := hwd
  obtain ⟨hko, k1, k2, k3⟩ := id hk
  have hko0 := hko
  obtain ⟨o1, o2, o3, o4⟩ := hko
  intro f
  induction f with
  | zero =>
    intro i hi hf
    have ei : i = bk_P B + 1 := by omega
    subst ei

    refine ji_iload dX0_withWords_30 rfl ?_
    refine ji_aload dX0_withWords_32 rfl trivial ?_
    refine ji_alen dX0_withWords_34 (nw1_n) (fun cy => rfl) ?_
    refine ji_icmp_ge (tgt := 58) dX0_withWords_35 rfl (by omega) (by omega) (fun c35 => ?_) (fun c35 => absurd c35 (by omega))
    refine ji_new (ci := 0) (fs := [.null, .null, .null]) rfl dX0_withWords_58 lX0_10 (fun G ad => by simp [ji_vs, ji_v]) (by decide) (by omega) (by omega) ?_
    refine ji_dup dX0_withWords_61 rfl ?_
    refine ji_aload_n dX0_withWords_62 rfl trivial ?_
    refine ji_aload_n dX0_withWords_63 rfl trivial ?_
    refine ji_get (ci := 0) (k := 1) rfl dX0_withWords_64 lX0_15 (by decide) ((va_up_ne _ _ (by show b ≠ h.1 + 1; omega)).trans ((nw1_x.2 b hlt.1).trans hb)) rfl ?_
    refine ji_aload dX0_withWords_67 rfl trivial ?_
    refine ji_callI dX0_withWords_69 (k_Book_init (v0 := .null) (v1 := .null) (v2 := .null) (va_up_self _ _ _)) rfl wX0_init rfl rfl iX0_init lX0_61 rfl (Nat.le_of_ble_eq_true rfl) rfl (by omega) (by omega) (fun r h' q => ?_) (fun E h' q => by cases q.1)
    obtain ⟨hq1, rfl⟩ := q
    cases hq1
    exact ji_areturn dX0_withWords_72 rfl (Or.inl ⟨_, rfl⟩) trivial ⟨rfl, ⟨rfl, fun a ha => (va_up_ne _ _ (by show a ≠ h.1 + 1; omega)).trans ((va_up_ne _ _ (by show a ≠ h.1 + 1; omega)).trans (nw1_x.2 a ha))⟩, w2, kq, h.1, va_up_self _ _ _, (va_up_ne _ _ (by show kq ≠ h.1 + 1; omega)).trans ((va_up_ne _ _ (by show kq ≠ h.1 + 1; omega)).trans ((nw1_x.2 kq hlt.2.1).trans hkd)), (va_up_ne _ _ (by show h.1 ≠ h.1 + 1; omega)).trans ((va_up_ne _ _ (by show h.1 ≠ h.1 + 1; omega)).trans nw1_n), hw2.kept ⟨by show h.1 ≤ h.1 + 1 + 1; omega, fun a _ ha => (va_up_ne _ _ (by show a ≠ h.1 + 1; omega)).trans ((va_up_ne _ _ (by show a ≠ h.1 + 1; omega)).trans (nw1_x.2 a ha))⟩, ⟨Or.inr (by omega), hdy.2.1, Or.inr h72⟩, (by show h.1 + 1 < h.1 + 1 + 1; omega), (by show kq < h.1 + 1 + 1; omega), (by show h.1 < h.1 + 1 + 1; omega)⟩
  | succ f ih =>
    intro i hi hf

    refine ji_iload dX0_withWords_30 rfl ?_
    refine ji_aload dX0_withWords_32 rfl trivial ?_
    refine ji_alen dX0_withWords_34 (nw1_n) (fun cy => rfl) ?_
    refine ji_icmp_ge (tgt := 58) dX0_withWords_35 rfl (by omega) (by omega) (fun c35 => absurd c35 (by omega)) (fun c35 => ?_)
    refine ji_iload dX0_withWords_38 rfl ?_
    refine ji_if_le (tgt := 52) dX0_withWords_40 rfl (by omega) (fun c40 => absurd c40 (by omega)) (fun c40 => ?_)
    refine ji_aload dX0_withWords_43 rfl trivial ?_
    refine ji_iload dX0_withWords_45 rfl ?_
    refine ji_dup2 dX0_withWords_47 rfl rfl ?_
    refine ji_iaload dX0_withWords_48 (nw1_n) (by omega) ?_
    refine ji_iload_n dX0_withWords_49 rfl ?_
    refine ji_iadd dX0_withWords_50 ?_
    refine ji_iastoreE dX0_withWords_51 (nw1_n) (by omega) (nw1_s) ?_
    refine ji_iinc dX0_withWords_52 (by decide) rfl rfl ?_
    refine ji_goto (tgt := 30) dX0_withWords_55 rfl ?_
    exact ji_eqv (ih (i + 1) (by omega) (by omega)) rfl rfl (by rw [bk_mv_s _ _ _ _ (by omega)])

theorem ji_wcl : ji_in (.sameMethod "[I" "java/lang/Object" "clone" "()Ljava/lang/Object;") ∧ ji_in (.native ⟨"java/lang/Object", "clone", "()Ljava/lang/Object;"⟩) ∧ ji_in (.instanceMethod ⟨"java/lang/Object", "clone", "()Ljava/lang/Object;"⟩) ∧ ji_in (.selects "[I" ⟨"[I", "clone", "()Ljava/lang/Object;"⟩ ⟨"java/lang/Object", "clone", "()Ljava/lang/Object;"⟩) := ⟨⟨by decide +kernel, by decide +kernel⟩, ⟨by decide +kernel, by decide +kernel⟩, ⟨by decide +kernel, by decide +kernel⟩, ⟨by decide +kernel, by decide +kernel⟩⟩
set_option maxHeartbeats 4000000 in
set_option maxRecDepth 100000 in
theorem k_Book_withWords (hat : bk_at h b B) (hk : bk_ok B) {p w2 m2 n2 : Nat} {tx2 s2 : Nat → Int} (hp : p < bk_P B) (hw2 : wd_at h w2 m2 n2 tx2 s2) (hk2 : wd_ok m2 n2 tx2 s2) (h72 : 72 ≤ h.1) : JM G (d + 2) mX0_withWords [.ref b, .int (jI p), .ref w2] h 2 (bk_P B + 1 + 3) (fun r h' => r = .inl (some (.ref (h.1 + 1))) ∧ ji_ext h h' 2 ∧ bk_at h' (h.1 + 1) (m2, n2, bk_P B, tx2, s2, bk_kd B, bk_mv (bk_fr B) p ((n2 : Int) - bk_n B) (bk_P B + 1))) := by
  have hat0 := hat
  obtain ⟨w, kq, fq, hb, hkd, hfr, hwd, hdy, hlt⟩ := hat
  have hwd0 := hwd
  obtain ⟨t9, q9, hw, -⟩ := hwd
  obtain ⟨hko, k1, k2, k3⟩ := id hk
  have hko0 := hko
  obtain ⟨o1, o2, o3, o4⟩ := hko
  obtain ⟨t8, q8, hw2c, -⟩ := id hw2
  refine ji_ent (by decide) rfl (Nat.le_of_ble_eq_true rfl) rfl ?_
  refine ji_aload_n dX0_withWords_0 rfl trivial ?_
  refine ji_cV dX0_withWords_1 (k_Words_size hw2 hk2) rfl (hw2c) rfl rfl wX6_size vX6_size lX0_53 rfl (Nat.le_of_ble_eq_true rfl) rfl ?_
  refine ji_aload_n dX0_withWords_4 rfl trivial ?_
  refine ji_get (ci := 0) (k := 0) rfl dX0_withWords_5 lX0_9 (by decide) (hb) rfl ?_
  refine ji_cV dX0_withWords_8 (k_Words_size hwd0 hko0) rfl (hw) rfl rfl wX6_size vX6_size lX0_53 rfl (Nat.le_of_ble_eq_true rfl) rfl ?_
  refine ji_isub dX0_withWords_11 ?_
  refine ji_istore_n dX0_withWords_12 (by decide) rfl ?_
  refine ji_aload_n dX0_withWords_13 rfl trivial ?_
  refine ji_get (ci := 0) (k := 2) rfl dX0_withWords_14 lX0_19 (by decide) (hb) rfl ?_
  refine ji_cloneI dX0_withWords_17 lX0_56 ji_wcl (hfr) (by omega) (by omega) (Nat.le_of_ble_eq_true rfl) ?_
  refine ji_castI dX0_withWords_20 lX0_57 (va_up_self _ _ _) ?_
  refine ji_astore dX0_withWords_23 (by decide) trivial rfl ?_
  refine ji_iload_n dX0_withWords_25 rfl ?_
  refine ji_iconst dX0_withWords_26 ?_
  refine ji_iadd dX0_withWords_27 ?_
  refine ji_istore dX0_withWords_28 (by decide) rfl ?_
  exact ji_eqv (h2 := nw1 h (bk_P B + 1) (bk_mv (bk_fr B) p ((n2 : Int) - bk_n B) (p + 1))) (k_Book_withWords_loop hat0 hk hp hw2 hk2 h72 (by omega) (by omega) (bk_P B - p) _ (by omega) (by omega)) rfl rfl (by rw [← bk_mv_0]; rfl)

end MBook2
