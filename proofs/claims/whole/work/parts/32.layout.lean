/-! ===== bits, notes, breaks ===== -/
def ly_bit (x k : Int) : Int := ((x.toNat / 2 ^ k.toNat % 2 : Nat) : Int)
def ly_or (x y : Int) : Int := ((x.toNat ||| y.toNat : Nat) : Int)
def ly_pow (k : Int) : Int := ((2 ^ k.toNat : Nat) : Int)
theorem ly_sh0 : ∀ x : Fin 1024, ∀ k : Fin 10, (jI (x.val : Int) >>> (jI (k.val : Int) &&& 31)) &&& jI 1 = jI ((x.val / 2 ^ k.val % 2 : Nat) : Int) := by decide +kernel
theorem ly_sh {x k : Int} (hx : 0 ≤ x ∧ x < 1024) (hk : 0 ≤ k ∧ k < 10) : (jI x >>> (jI k &&& 31)) &&& jI 1 = jI (ly_bit x k) := by
  have h := ly_sh0 ⟨x.toNat, by omega⟩ ⟨k.toNat, by omega⟩
  dsimp only at h
  rw [show ((x.toNat : Nat) : Int) = x by omega, show ((k.toNat : Nat) : Int) = k by omega] at h
  exact h
theorem ly_shl0 : ∀ k : Fin 10, jI 1 <<< (jI (k.val : Int) &&& 31) = jI ((2 ^ k.val : Nat) : Int) := by decide +kernel
theorem ly_shl {k : Int} (hk : 0 ≤ k ∧ k < 10) : jI 1 <<< (jI k &&& 31) = jI (ly_pow k) := by
  have h := ly_shl0 ⟨k.toNat, by omega⟩
  dsimp only at h
  rw [show ((k.toNat : Nat) : Int) = k by omega] at h
  exact h
theorem ly_orE {x y : Int} (hx : 0 ≤ x) (hy : 0 ≤ y) : jI x ||| jI y = jI (ly_or x y) := by
  obtain ⟨a, rfl⟩ := Int.eq_ofNat_of_zero_le hx
  obtain ⟨c, rfl⟩ := Int.eq_ofNat_of_zero_le hy
  unfold ly_or
  rw [Int.toNat_natCast, Int.toNat_natCast, ← jI_nat, ← jI_nat, ← jI_nat]
  apply Int32.toBitVec_inj.mp
  show BitVec.ofNat 32 a ||| BitVec.ofNat 32 c = BitVec.ofNat 32 (a ||| c)
  exact BitVec.ofNat_or.symm
theorem ly_or_b {x y : Int} (hx : 0 ≤ x ∧ x < 1024) (hy : 0 ≤ y ∧ y < 1024) : 0 ≤ ly_or x y ∧ ly_or x y < 1024 := by
  have h : x.toNat ||| y.toNat < 2 ^ 10 := Nat.or_lt_two_pow (by omega) (by omega)
  unfold ly_or; omega
theorem ly_bit_b (x k : Int) : 0 ≤ ly_bit x k ∧ ly_bit x k ≤ 1 := by unfold ly_bit; omega
theorem ly_pow_b {k : Int} (hk : 0 ≤ k ∧ k < 10) : 0 ≤ ly_pow k ∧ ly_pow k < 1024 := by
  have h : 2 ^ k.toNat < 1024 := Nat.lt_of_lt_of_le (Nat.pow_lt_pow_right (by omega) (show k.toNat < 10 by omega)) (Nat.le_refl _)
  exact ⟨Int.natCast_nonneg _, Int.ofNat_lt.mpr h⟩
def ly_sn (N : Nat → Int) (x : Int) : Nat → Int
  | 0 => 0
  | k + 1 => ly_sn N x k + (if ly_bit x k = 1 then N k else 0)
theorem ly_sn_b {N : Nat → Int} (hN : ∀ j, 0 ≤ N j ∧ N j ≤ 1000) (x : Int) : ∀ k : Nat, 0 ≤ ly_sn N x k ∧ ly_sn N x k ≤ 1000 * k
  | 0 => by simp [ly_sn]
  | k + 1 => by have h1 := ly_sn_b hN x k; have h2 := hN k; unfold ly_sn; split <;> omega
def ly_RN (sty N : Nat → Int) (x : Int) : Int := if x = 0 ∨ ly_st sty 4 = 0 then 0 else if 0 < ly_sn N x 10 then ly_sn N x 10 + 1 else 0
theorem ly_RN_b {sty N : Nat → Int} (hN : ∀ j, 0 ≤ N j ∧ N j ≤ 1000) (x : Int) : 0 ≤ ly_RN sty N x ∧ ly_RN sty N x ≤ 10001 := by have := ly_sn_b hN x 10; unfold ly_RN; split; omega; split <;> omega
section MLayout2
variable {G : ji_G} {d n b bk : Nat} {f : Nat → ji_C} {w h ln pg : Int} {A : Nat → Nat → Int} {B : bk_T} {sty : Nat → Int}

set_option maxHeartbeats 4000000 in
set_option maxRecDepth 100000 in
theorem k_Layout_rowsOfNotes_loop (hcx : ly_cx n f b bk B sty) (hA : ∀ k j, -100000 ≤ A k j ∧ A k j ≤ 100000) (hl : 0 ≤ ln ∧ ln ≤ 240) {x9 : Int} (hx : 0 ≤ x9 ∧ x9 < 1024) (hN : ∀ j, 0 ≤ A 1 j ∧ A 1 j ≤ 1000) {R : Int} (hR : R = if 0 < ly_sn (A 1) x9 10 then ly_sn (A 1) x9 10 + 1 else 0) : ∀ (u : Nat) (k r : Int), 0 ≤ k ∧ k + u = 10 → r = ly_sn (A 1) x9 k.toNat →
    JW G d mX3_rowsOfNotes 18 [some (.ref b), some (.int (jI x9)), some (.int (jI r)), some (.int (jI k))] [] (n, ly_f b f bk w h ln pg A) 0 0 (fun r9 h9 => r9 = .inl (some (.int (jI R))) ∧ h9 = (n, ly_f b f bk w h ln pg A)) := by
  obtain ⟨hbb, hsty, hbk0, hko, hst⟩ := id hcx
  have hbk : bk_at (n, ly_f b f bk w h ln pg A) bk B := hbk0.kept (ly_keep hbb)
  obtain ⟨ww, hwd, hwr⟩ := k_Book_words (G := G) hbk hko
  obtain ⟨t9, q9, hw, -⟩ := id hwd
  obtain ⟨xx1, xx2, xx3, hb, -⟩ := id hbk
  obtain ⟨hwo, k1, k2, k3⟩ := id hko
  obtain ⟨o1, o2, o3, o4⟩ := id hwo
  intro u
  induction u with
  | zero =>
    intro k r hk hr
    have ek : k = 10 := by omega
    subst ek
    have g1 := ly_sn_b hN x9 10
    have e3 : (10 : Int).toNat = 10 := rfl
    rw [e3] at hr

    refine ji_iload_n dX3_rowsOfNotes_18 rfl ?_
    refine ji_bipush dX3_rowsOfNotes_19 rfl ?_
    refine ji_icmp_ge (tgt := 52) dX3_rowsOfNotes_21 rfl (by omega) (by omega) (fun c21 => ?_) (fun c21 => absurd c21 (by omega))
    refine ji_iload_n dX3_rowsOfNotes_52 rfl ?_
    refine ji_if_le (tgt := 62) dX3_rowsOfNotes_53 rfl (by omega) (fun c53 => ?_) (fun c53 => ?_)
    · refine ji_iconst dX3_rowsOfNotes_62 ?_
      exact ji_ireturn dX3_rowsOfNotes_63 rfl (rfl) ⟨jr_i (by rw [hR]; first | (rw [if_pos (by omega)]; omega) | (rw [if_neg (by omega)]; done)), rfl⟩
    · refine ji_iload_n dX3_rowsOfNotes_56 rfl ?_
      refine ji_iconst dX3_rowsOfNotes_57 ?_
      refine ji_iadd dX3_rowsOfNotes_58 ?_
      refine ji_goto (tgt := 63) dX3_rowsOfNotes_59 rfl ?_
      exact ji_ireturn dX3_rowsOfNotes_63 rfl (rfl) ⟨jr_i (by rw [hR]; first | (rw [if_pos (by omega)]; omega) | (rw [if_neg (by omega)]; done)), rfl⟩
  | succ u ih =>
    intro k r hk hr
    have g2 := ly_bit_b x9 k
    have e1 : (k + 1).toNat = k.toNat + 1 := by omega
    have e2 : ((k.toNat : Nat) : Int) = k := by omega

    refine ji_iload_n dX3_rowsOfNotes_18 rfl ?_
    refine ji_bipush dX3_rowsOfNotes_19 rfl ?_
    refine ji_icmp_ge (tgt := 52) dX3_rowsOfNotes_21 rfl (by omega) (by omega) (fun c21 => absurd c21 (by omega)) (fun c21 => ?_)
    refine ji_iload_n dX3_rowsOfNotes_24 rfl ?_
    refine ji_iload_n dX3_rowsOfNotes_25 rfl ?_
    refine ji_iload_n dX3_rowsOfNotes_26 rfl ?_
    refine ji_iop dX3_rowsOfNotes_27 (Or.inr (Or.inr (Or.inr ⟨rfl, rfl⟩))) ?_
    refine ji_iconst dX3_rowsOfNotes_28 ?_
    refine ji_iop dX3_rowsOfNotes_29 (Or.inl ⟨rfl, rfl⟩) ?_
    rw [ly_sh hx (by omega)]
    refine ji_iconst dX3_rowsOfNotes_30 ?_
    refine ji_icmp_ne (tgt := 43) dX3_rowsOfNotes_31 rfl (by omega) (by omega) (fun c31 => ?_) (fun c31 => ?_)
    · refine ji_iconst dX3_rowsOfNotes_43 ?_
      refine ji_iadd dX3_rowsOfNotes_44 ?_
      refine ji_istore_n dX3_rowsOfNotes_45 (by decide) rfl ?_
      refine ji_iinc dX3_rowsOfNotes_46 (by decide) rfl rfl ?_
      refine ji_goto (tgt := 18) dX3_rowsOfNotes_49 rfl ?_
      exact ih _ _ (by omega) (by rw [e1, ly_sn, ← hr, e2]; first | (rw [if_pos (by omega)]; done) | (rw [if_neg (by omega)]; done))
    · refine ji_aload_n dX3_rowsOfNotes_34 rfl trivial ?_
      refine ji_get (ci := 3) (k := 5) rfl dX3_rowsOfNotes_35 lX3_9 (by decide) (ly_0) rfl ?_
      refine ji_iload_n dX3_rowsOfNotes_38 rfl ?_
      refine ji_iaload dX3_rowsOfNotes_39 (ly_a1) (by omega) ?_
      refine ji_goto (tgt := 44) dX3_rowsOfNotes_40 rfl ?_
      refine ji_iadd dX3_rowsOfNotes_44 ?_
      refine ji_istore_n dX3_rowsOfNotes_45 (by decide) rfl ?_
      refine ji_iinc dX3_rowsOfNotes_46 (by decide) rfl rfl ?_
      refine ji_goto (tgt := 18) dX3_rowsOfNotes_49 rfl ?_
      exact ih _ _ (by omega) (by rw [e1, ly_sn, ← hr, e2]; first | (rw [if_pos (by omega)]; done) | (rw [if_neg (by omega)]; done))

set_option maxHeartbeats 4000000 in
set_option maxRecDepth 100000 in
theorem k_Layout_rowsOfNotes (hcx : ly_cx n f b bk B sty) (hA : ∀ k j, -100000 ≤ A k j ∧ A k j ≤ 100000) (hl : 0 ≤ ln ∧ ln ≤ 240) {x9 : Int} (hx : 0 ≤ x9 ∧ x9 < 1024) (hN : ∀ j, 0 ≤ A 1 j ∧ A 1 j ≤ 1000) : JR G (d + 1) mX3_rowsOfNotes [.ref b, .int (jI (x9))] (n, ly_f b f bk w h ln pg A) 0 0 (some (.int (jI (ly_RN sty (A 1) x9)))) (n, ly_f b f bk w h ln pg A) := by
  obtain ⟨hbb, hsty, hbk0, hko, hst⟩ := id hcx
  have hbk : bk_at (n, ly_f b f bk w h ln pg A) bk B := hbk0.kept (ly_keep hbb)
  obtain ⟨ww, hwd, hwr⟩ := k_Book_words (G := G) hbk hko
  obtain ⟨t9, q9, hw, -⟩ := id hwd
  obtain ⟨xx1, xx2, xx3, hb, -⟩ := id hbk
  obtain ⟨hwo, k1, k2, k3⟩ := id hko
  obtain ⟨o1, o2, o3, o4⟩ := id hwo
  have g1 := ly_st_b hst 4
  refine ji_ent (by decide) rfl (Nat.le_of_ble_eq_true rfl) rfl ?_
  refine ji_iload_n dX3_rowsOfNotes_0 rfl ?_
  refine ji_if_eq (tgt := 12) dX3_rowsOfNotes_1 rfl (by omega) (fun c1 => ?_) (fun c1 => ?_)
  · refine ji_iconst dX3_rowsOfNotes_12 ?_
    exact ji_ireturn dX3_rowsOfNotes_13 rfl (rfl) ⟨jr_i (by unfold ly_RN; rw [if_pos (by omega)]), rfl⟩
  · refine ji_aload_n dX3_rowsOfNotes_4 rfl trivial ?_
    refine ji_iconst dX3_rowsOfNotes_5 ?_
    refine ji_cV dX3_rowsOfNotes_6 (k_Layout_styleOf hcx hA hl (by omega)) rfl (ly_0) rfl rfl wX3_styleOf vX3_styleOf lX3_126 rfl (Nat.le_of_ble_eq_true rfl) rfl ?_
    refine ji_if_ne (tgt := 14) dX3_rowsOfNotes_9 rfl (by omega) (fun c9 => ?_) (fun c9 => ?_)
    · refine ji_iconst dX3_rowsOfNotes_14 ?_
      refine ji_istore_n dX3_rowsOfNotes_15 (by decide) rfl ?_
      refine ji_iconst dX3_rowsOfNotes_16 ?_
      refine ji_istore_n dX3_rowsOfNotes_17 (by decide) rfl ?_
      exact k_Layout_rowsOfNotes_loop hcx hA hl hx hN (by unfold ly_RN; rw [if_neg (by omega)]) 10 0 0 (by omega) rfl
    · refine ji_iconst dX3_rowsOfNotes_12 ?_
      exact ji_ireturn dX3_rowsOfNotes_13 rfl (rfl) ⟨jr_i (by unfold ly_RN; rw [if_pos (by omega)]), rfl⟩

def ly_rf (B : bk_T) : Nat → Int → Int → Int
  | 0, _, x => x
  | u + 1, k, x => ly_rf B u (k + 1) (ly_or x (if 0 ≤ wd_ref (bk_m B) (bk_n B) (bk_tx B) (bk_s B) k ∧ wd_ref (bk_m B) (bk_n B) (bk_tx B) (bk_s B) k < 10 then ly_pow (wd_ref (bk_m B) (bk_n B) (bk_tx B) (bk_s B) k) else 0))
theorem wd_ref_b {m n : Nat} {tx s : Nat → Int} (hk : wd_ok m n tx s) (k : Int) : -48 ≤ wd_ref m n tx s k ∧ wd_ref m n tx s k < 128 := by
  have := wd_sign_b hk (wd_end m n s k - 1)
  unfold wd_ref; split <;> omega
theorem ly_rf_b (B : bk_T) : ∀ (u : Nat) (k x : Int), (0 ≤ x ∧ x < 1024) → 0 ≤ ly_rf B u k x ∧ ly_rf B u k x < 1024
  | 0, k, x, h => h
  | u + 1, k, x, h => by
    unfold ly_rf
    refine ly_rf_b B u _ _ (ly_or_b h ?_)
    split
    · exact ly_pow_b (by omega)
    · omega

set_option maxHeartbeats 4000000 in
set_option maxRecDepth 100000 in
theorem k_Layout_referencesOf_loop (hcx : ly_cx n f b bk B sty) (hA : ∀ k j, -100000 ≤ A k j ∧ A k j ≤ 100000) (hl : 0 ≤ ln ∧ ln ≤ 240) {x1 y1 R : Int} (h1 : 0 ≤ x1 ∧ x1 ≤ 10000) (h2 : 0 ≤ y1 ∧ y1 ≤ 20000) : ∀ (u : Nat) (k x : Int) (o5 : Option Value), x1 ≤ k → k + u = max y1 x1 → 0 ≤ x ∧ x < 1024 → R = ly_rf B u k x →
    JW G (d + 2) mX3_referencesOf 5 [some (.ref b), some (.int (jI x1)), some (.int (jI y1)), some (.int (jI x)), some (.int (jI k)), o5] [] (n, ly_f b f bk w h ln pg A) 0 0 (fun r9 h9 => r9 = .inl (some (.int (jI R))) ∧ h9 = (n, ly_f b f bk w h ln pg A)) := by
  obtain ⟨hbb, hsty, hbk0, hko, hst⟩ := id hcx
  have hbk : bk_at (n, ly_f b f bk w h ln pg A) bk B := hbk0.kept (ly_keep hbb)
  obtain ⟨ww, hwd, hwr⟩ := k_Book_words (G := G) hbk hko
  obtain ⟨t9, q9, hw, -⟩ := id hwd
  obtain ⟨xx1, xx2, xx3, hb, -⟩ := id hbk
  obtain ⟨hwo, k1, k2, k3⟩ := id hko
  obtain ⟨o1, o2, o3, o4⟩ := id hwo
  intro u
  induction u with
  | zero =>
    intro k x o5 h3 h4 h5 hR

    refine ji_iload dX3_referencesOf_5 rfl ?_
    refine ji_iload_n dX3_referencesOf_7 rfl ?_
    refine ji_icmp_ge (tgt := 54) dX3_referencesOf_8 rfl (by omega) (by omega) (fun c8 => ?_) (fun c8 => absurd c8 (by omega))
    refine ji_iload_n dX3_referencesOf_54 rfl ?_
    exact ji_ireturn dX3_referencesOf_55 rfl (rfl) ⟨jr_i (by rw [hR]; rfl), rfl⟩
  | succ u ih =>
    intro k x o5 h3 h4 h5 hR
    have g1 := wd_ref_b hwo k

    refine ji_iload dX3_referencesOf_5 rfl ?_
    refine ji_iload_n dX3_referencesOf_7 rfl ?_
    refine ji_icmp_ge (tgt := 54) dX3_referencesOf_8 rfl (by omega) (by omega) (fun c8 => absurd c8 (by omega)) (fun c8 => ?_)
    refine ji_aload_n dX3_referencesOf_11 rfl trivial ?_
    refine ji_get (ci := 3) (k := 2) rfl dX3_referencesOf_12 lX3_40 (by decide) (ly_0) rfl ?_
    refine ji_cV dX3_referencesOf_15 (hwr) rfl (hb) rfl rfl wX0_words vX0_words lX3_80 rfl (Nat.le_of_ble_eq_true rfl) rfl ?_
    refine ji_iload dX3_referencesOf_18 rfl ?_
    refine ji_cV dX3_referencesOf_20 (k_Words_referenceOf hwd hwo (by omega)) rfl (hw) rfl rfl wX6_referenceOf vX6_referenceOf lX3_113 rfl (Nat.le_of_ble_eq_true rfl) rfl ?_
    refine ji_istore dX3_referencesOf_23 (by decide) rfl ?_
    refine ji_iload_n dX3_referencesOf_25 rfl ?_
    refine ji_iload dX3_referencesOf_26 rfl ?_
    refine ji_if_lt (tgt := 45) dX3_referencesOf_28 rfl (by omega) (fun c28 => ?_) (fun c28 => ?_)
    · refine ji_iconst dX3_referencesOf_45 ?_
      refine ji_iop dX3_referencesOf_46 (Or.inr (Or.inl ⟨rfl, rfl⟩)) ?_
      first | rw [ly_orE h5.1 (by have := ly_pow_b (k := wd_ref (bk_m B) (bk_n B) (bk_tx B) (bk_s B) k) (by omega); omega)] | rw [ly_orE h5.1 (by omega)]
      refine ji_istore_n dX3_referencesOf_47 (by decide) rfl ?_
      refine ji_iinc dX3_referencesOf_48 (by decide) rfl rfl ?_
      refine ji_goto (tgt := 5) dX3_referencesOf_51 rfl ?_
      first | exact ih _ _ _ (by omega) (by omega) (ly_or_b h5 (ly_pow_b (by omega))) (by rw [hR, ly_rf, if_pos (by omega)]) | exact ih _ _ _ (by omega) (by omega) (ly_or_b h5 (by omega)) (by rw [hR, ly_rf, if_neg (by omega)])
    · refine ji_iload dX3_referencesOf_31 rfl ?_
      refine ji_bipush dX3_referencesOf_33 rfl ?_
      refine ji_icmp_ge (tgt := 45) dX3_referencesOf_35 rfl (by omega) (by omega) (fun c35 => ?_) (fun c35 => ?_)
      · refine ji_iconst dX3_referencesOf_45 ?_
        refine ji_iop dX3_referencesOf_46 (Or.inr (Or.inl ⟨rfl, rfl⟩)) ?_
        first | rw [ly_orE h5.1 (by have := ly_pow_b (k := wd_ref (bk_m B) (bk_n B) (bk_tx B) (bk_s B) k) (by omega); omega)] | rw [ly_orE h5.1 (by omega)]
        refine ji_istore_n dX3_referencesOf_47 (by decide) rfl ?_
        refine ji_iinc dX3_referencesOf_48 (by decide) rfl rfl ?_
        refine ji_goto (tgt := 5) dX3_referencesOf_51 rfl ?_
        first | exact ih _ _ _ (by omega) (by omega) (ly_or_b h5 (ly_pow_b (by omega))) (by rw [hR, ly_rf, if_pos (by omega)]) | exact ih _ _ _ (by omega) (by omega) (ly_or_b h5 (by omega)) (by rw [hR, ly_rf, if_neg (by omega)])
      · refine ji_iconst dX3_referencesOf_38 ?_
        refine ji_iload dX3_referencesOf_39 rfl ?_
        refine ji_iop dX3_referencesOf_41 (Or.inr (Or.inr (Or.inl ⟨rfl, rfl⟩))) ?_
        rw [ly_shl (by omega)]
        refine ji_goto (tgt := 46) dX3_referencesOf_42 rfl ?_
        refine ji_iop dX3_referencesOf_46 (Or.inr (Or.inl ⟨rfl, rfl⟩)) ?_
        first | rw [ly_orE h5.1 (by have := ly_pow_b (k := wd_ref (bk_m B) (bk_n B) (bk_tx B) (bk_s B) k) (by omega); omega)] | rw [ly_orE h5.1 (by omega)]
        refine ji_istore_n dX3_referencesOf_47 (by decide) rfl ?_
        refine ji_iinc dX3_referencesOf_48 (by decide) rfl rfl ?_
        refine ji_goto (tgt := 5) dX3_referencesOf_51 rfl ?_
        first | exact ih _ _ _ (by omega) (by omega) (ly_or_b h5 (ly_pow_b (by omega))) (by rw [hR, ly_rf, if_pos (by omega)]) | exact ih _ _ _ (by omega) (by omega) (ly_or_b h5 (by omega)) (by rw [hR, ly_rf, if_neg (by omega)])

set_option maxHeartbeats 4000000 in
set_option maxRecDepth 100000 in
theorem k_Layout_referencesOf (hcx : ly_cx n f b bk B sty) (hA : ∀ k j, -100000 ≤ A k j ∧ A k j ≤ 100000) (hl : 0 ≤ ln ∧ ln ≤ 240) {x1 y1 : Int} (h1 : 0 ≤ x1 ∧ x1 ≤ 10000) (h2 : 0 ≤ y1 ∧ y1 ≤ 20000) : JR G (d + 2) mX3_referencesOf [.ref b, .int (jI (x1)), .int (jI (y1))] (n, ly_f b f bk w h ln pg A) 0 0 (some (.int (jI (ly_rf B (y1 - x1).toNat x1 0)))) (n, ly_f b f bk w h ln pg A) := by
  obtain ⟨hbb, hsty, hbk0, hko, hst⟩ := id hcx
  have hbk : bk_at (n, ly_f b f bk w h ln pg A) bk B := hbk0.kept (ly_keep hbb)
  obtain ⟨ww, hwd, hwr⟩ := k_Book_words (G := G) hbk hko
  obtain ⟨t9, q9, hw, -⟩ := id hwd
  obtain ⟨xx1, xx2, xx3, hb, -⟩ := id hbk
  obtain ⟨hwo, k1, k2, k3⟩ := id hko
  obtain ⟨o1, o2, o3, o4⟩ := id hwo
  refine ji_ent (by decide) rfl (Nat.le_of_ble_eq_true rfl) rfl ?_
  refine ji_iconst dX3_referencesOf_0 ?_
  refine ji_istore_n dX3_referencesOf_1 (by decide) rfl ?_
  refine ji_iload_n dX3_referencesOf_2 rfl ?_
  refine ji_istore dX3_referencesOf_3 (by decide) rfl ?_
  exact k_Layout_referencesOf_loop hcx hA hl h1 h2 (y1 - x1).toNat x1 0 _ (by omega) (by omega) (by omega) rfl

def ly_np (ln : Int) (A : Nat → Int) : Nat → Int → Int → Int
  | 0, _, x => x
  | u + 1, l, x => ly_np ln A u (l + 1) (ly_or x (ly_g ln A 0 l))
theorem ly_np_b {ln : Int} {A : Nat → Int} (hA : ∀ j, 0 ≤ A j ∧ A j < 1024) : ∀ (u : Nat) (l x : Int), (0 ≤ x ∧ x < 1024) → 0 ≤ ly_np ln A u l x ∧ ly_np ln A u l x < 1024
  | 0, l, x, h => h
  | u + 1, l, x, h => by
    unfold ly_np
    refine ly_np_b hA u _ _ (ly_or_b h ?_)
    unfold ly_g; split; exact hA _; omega
/-- the notes of some lines -/
def ly_NP (ln : Int) (A : Nat → Int) (x y : Int) : Int := ly_np ln A (y - x).toNat x 0
theorem ly_NP_b {ln : Int} {A : Nat → Int} (hA : ∀ j, 0 ≤ A j ∧ A j < 1024) (x y : Int) : 0 ≤ ly_NP ln A x y ∧ ly_NP ln A x y < 1024 := ly_np_b hA _ _ _ (by omega)

set_option maxHeartbeats 4000000 in
set_option maxRecDepth 100000 in
theorem k_Layout_notesOfPage_loop (hcx : ly_cx n f b bk B sty) (hA : ∀ k j, -100000 ≤ A k j ∧ A k j ≤ 100000) (hl : 0 ≤ ln ∧ ln ≤ 240) {p9 e1 x1 R : Int} (h1 : 0 ≤ x1 ∧ x1 ≤ 240) (h2 : 0 ≤ e1 ∧ e1 ≤ 240) (h7 : ∀ j, 0 ≤ A 7 j ∧ A 7 j < 1024) : ∀ (u : Nat) (l x : Int), x1 ≤ l → l + u = max e1 x1 → 0 ≤ x ∧ x < 1024 → R = ly_np ln (A 7) u l x →
    JW G (d + 1) mX3_notesOfPage 17 [some (.ref b), some (.int (jI p9)), some (.int (jI x)), some (.int (jI e1)), some (.int (jI l))] [] (n, ly_f b f bk w h ln pg A) 0 0 (fun r9 h9 => r9 = .inl (some (.int (jI R))) ∧ h9 = (n, ly_f b f bk w h ln pg A)) := by
  obtain ⟨hbb, hsty, hbk0, hko, hst⟩ := id hcx
  have hbk : bk_at (n, ly_f b f bk w h ln pg A) bk B := hbk0.kept (ly_keep hbb)
  obtain ⟨ww, hwd, hwr⟩ := k_Book_words (G := G) hbk hko
  obtain ⟨t9, q9, hw, -⟩ := id hwd
  obtain ⟨xx1, xx2, xx3, hb, -⟩ := id hbk
  obtain ⟨hwo, k1, k2, k3⟩ := id hko
  obtain ⟨o1, o2, o3, o4⟩ := id hwo
  intro u
  induction u with
  | zero =>
    intro l x h3 h4 h5 hR

    refine ji_iload dX3_notesOfPage_17 rfl ?_
    refine ji_iload_n dX3_notesOfPage_19 rfl ?_
    refine ji_icmp_ge (tgt := 38) dX3_notesOfPage_20 rfl (by omega) (by omega) (fun c20 => ?_) (fun c20 => absurd c20 (by omega))
    refine ji_iload_n dX3_notesOfPage_38 rfl ?_
    exact ji_ireturn dX3_notesOfPage_39 rfl (rfl) ⟨jr_i (by rw [hR]; rfl), rfl⟩
  | succ u ih =>
    intro l x h3 h4 h5 hR
    have g1 : 0 ≤ ly_g ln (A 7) 0 l ∧ ly_g ln (A 7) 0 l < 1024 := by unfold ly_g; split; exact h7 _; omega

    refine ji_iload dX3_notesOfPage_17 rfl ?_
    refine ji_iload_n dX3_notesOfPage_19 rfl ?_
    refine ji_icmp_ge (tgt := 38) dX3_notesOfPage_20 rfl (by omega) (by omega) (fun c20 => absurd c20 (by omega)) (fun c20 => ?_)
    refine ji_iload_n dX3_notesOfPage_23 rfl ?_
    refine ji_aload_n dX3_notesOfPage_24 rfl trivial ?_
    refine ji_iload dX3_notesOfPage_25 rfl ?_
    refine ji_cV dX3_notesOfPage_27 (k_Layout_notesOfLine hcx hA hl (by omega)) rfl (ly_0) rfl rfl wX3_notesOfLine vX3_notesOfLine lX3_153 rfl (Nat.le_of_ble_eq_true rfl) rfl ?_
    refine ji_iop dX3_notesOfPage_30 (Or.inr (Or.inl ⟨rfl, rfl⟩)) ?_
    rw [ly_orE h5.1 g1.1]
    refine ji_istore_n dX3_notesOfPage_31 (by decide) rfl ?_
    refine ji_iinc dX3_notesOfPage_32 (by decide) rfl rfl ?_
    refine ji_goto (tgt := 17) dX3_notesOfPage_35 rfl ?_
    exact ih _ _ (by omega) (by omega) (ly_or_b h5 g1) (by rw [hR, ly_np])

set_option maxHeartbeats 4000000 in
set_option maxRecDepth 100000 in
theorem k_Layout_notesOfPage (hcx : ly_cx n f b bk B sty) (hA : ∀ k j, -100000 ≤ A k j ∧ A k j ≤ 100000) (hl : 0 ≤ ln ∧ ln ≤ 240) {p : Int} (hb9 : -500 ≤ p ∧ p ≤ 500) (hp : 0 ≤ pg ∧ pg ≤ 240) (h89 : ∀ j, (-1 ≤ A 8 j ∧ A 8 j ≤ 240) ∧ 0 ≤ A 9 j ∧ A 9 j ≤ 240) (h7 : ∀ j, 0 ≤ A 7 j ∧ A 7 j < 1024) : JR G (d + 1) mX3_notesOfPage [.ref b, .int (jI (p))] (n, ly_f b f bk w h ln pg A) 0 0 (some (.int (jI (ly_NP ln (A 7) (ly_g pg (A 9) ln p) (ly_g pg (A 9) ln (p + 1)))))) (n, ly_f b f bk w h ln pg A) := by
  obtain ⟨hbb, hsty, hbk0, hko, hst⟩ := id hcx
  have hbk : bk_at (n, ly_f b f bk w h ln pg A) bk B := hbk0.kept (ly_keep hbb)
  obtain ⟨ww, hwd, hwr⟩ := k_Book_words (G := G) hbk hko
  obtain ⟨t9, q9, hw, -⟩ := id hwd
  obtain ⟨xx1, xx2, xx3, hb, -⟩ := id hbk
  obtain ⟨hwo, k1, k2, k3⟩ := id hko
  obtain ⟨o1, o2, o3, o4⟩ := id hwo
  have g9 : ∀ x : Int, 0 ≤ ly_g pg (A 9) ln x ∧ ly_g pg (A 9) ln x ≤ 240 := fun x => by unfold ly_g; split; have := h89 x.toNat; omega; omega
  have g1 := g9 p
  have g2 := g9 (p + 1)
  refine ji_ent (by decide) rfl (Nat.le_of_ble_eq_true rfl) rfl ?_
  refine ji_iconst dX3_notesOfPage_0 ?_
  refine ji_istore_n dX3_notesOfPage_1 (by decide) rfl ?_
  refine ji_aload_n dX3_notesOfPage_2 rfl trivial ?_
  refine ji_iload_n dX3_notesOfPage_3 rfl ?_
  refine ji_iconst dX3_notesOfPage_4 ?_
  refine ji_iadd dX3_notesOfPage_5 ?_
  refine ji_cV dX3_notesOfPage_6 (k_Layout_firstLineOfPage hcx hA hl (by omega) hp) rfl (ly_0) rfl rfl wX3_firstLineOfPage vX3_firstLineOfPage lX3_176 rfl (Nat.le_of_ble_eq_true rfl) rfl ?_
  refine ji_istore_n dX3_notesOfPage_9 (by decide) rfl ?_
  refine ji_aload_n dX3_notesOfPage_10 rfl trivial ?_
  refine ji_iload_n dX3_notesOfPage_11 rfl ?_
  refine ji_cV dX3_notesOfPage_12 (k_Layout_firstLineOfPage hcx hA hl (by omega) hp) rfl (ly_0) rfl rfl wX3_firstLineOfPage vX3_firstLineOfPage lX3_176 rfl (Nat.le_of_ble_eq_true rfl) rfl ?_
  refine ji_istore dX3_notesOfPage_15 (by decide) rfl ?_
  exact k_Layout_notesOfPage_loop hcx hA hl g1 g2 h7 (ly_g pg (A 9) ln (p + 1) - ly_g pg (A 9) ln p).toNat _ 0 (by omega) (by omega) (by omega) rfl

set_option maxHeartbeats 4000000 in
set_option maxRecDepth 100000 in
theorem k_Layout_noteRowsOfPage (hcx : ly_cx n f b bk B sty) (hA : ∀ k j, -100000 ≤ A k j ∧ A k j ≤ 100000) (hl : 0 ≤ ln ∧ ln ≤ 240) {p : Int} (hb9 : -500 ≤ p ∧ p ≤ 500) (hp : 0 ≤ pg ∧ pg ≤ 240) (h89 : ∀ j, (-1 ≤ A 8 j ∧ A 8 j ≤ 240) ∧ 0 ≤ A 9 j ∧ A 9 j ≤ 240) (h7 : ∀ j, 0 ≤ A 7 j ∧ A 7 j < 1024) (hN : ∀ j, 0 ≤ A 1 j ∧ A 1 j ≤ 1000) : JR G (d + 2) mX3_noteRowsOfPage [.ref b, .int (jI (p))] (n, ly_f b f bk w h ln pg A) 0 0 (some (.int (jI (ly_RN sty (A 1) (ly_NP ln (A 7) (ly_g pg (A 9) ln p) (ly_g pg (A 9) ln (p + 1))))))) (n, ly_f b f bk w h ln pg A) := by
  obtain ⟨hbb, hsty, hbk0, hko, hst⟩ := id hcx
  have hbk : bk_at (n, ly_f b f bk w h ln pg A) bk B := hbk0.kept (ly_keep hbb)
  obtain ⟨ww, hwd, hwr⟩ := k_Book_words (G := G) hbk hko
  obtain ⟨t9, q9, hw, -⟩ := id hwd
  obtain ⟨xx1, xx2, xx3, hb, -⟩ := id hbk
  obtain ⟨hwo, k1, k2, k3⟩ := id hko
  obtain ⟨o1, o2, o3, o4⟩ := id hwo
  have g1 := ly_NP_b (ln := ln) h7 (ly_g pg (A 9) ln p) (ly_g pg (A 9) ln (p + 1))
  refine ji_ent (by decide) rfl (Nat.le_of_ble_eq_true rfl) rfl ?_
  refine ji_aload_n dX3_noteRowsOfPage_0 rfl trivial ?_
  refine ji_aload_n dX3_noteRowsOfPage_1 rfl trivial ?_
  refine ji_iload_n dX3_noteRowsOfPage_2 rfl ?_
  refine ji_cV dX3_noteRowsOfPage_3 (k_Layout_notesOfPage hcx hA hl (by omega) hp h89 h7) rfl (ly_0) rfl rfl wX3_notesOfPage vX3_notesOfPage lX3_182 rfl (Nat.le_of_ble_eq_true rfl) rfl ?_
  refine ji_cV dX3_noteRowsOfPage_6 (k_Layout_rowsOfNotes hcx hA hl (by omega) hN) rfl (ly_0) rfl rfl wX3_rowsOfNotes vX3_rowsOfNotes lX3_159 rfl (Nat.le_of_ble_eq_true rfl) rfl ?_
  exact ji_ireturn dX3_noteRowsOfPage_9 rfl (rfl) ⟨rfl, rfl⟩

def ly_no (x : Int) : Nat → Int → Int → Int
  | 0, _, _ => -1
  | u + 1, k, left => if ly_bit x k = 1 then (if left = 0 then k else ly_no x u (k + 1) (left - 1)) else ly_no x u (k + 1) left

set_option maxHeartbeats 4000000 in
set_option maxRecDepth 100000 in
theorem k_Layout_noteOnPage_loop (hcx : ly_cx n f b bk B sty) (hA : ∀ k j, -100000 ≤ A k j ∧ A k j ≤ 100000) (hl : 0 ≤ ln ∧ ln ≤ 240) {p9 i9 R : Int} {x9 : Int} (hx : 0 ≤ x9 ∧ x9 < 1024) : ∀ (u : Nat) (k left : Int), 0 ≤ k ∧ k + u = 10 → 0 ≤ left ∧ left ≤ 2147483647 → R = ly_no x9 u k left →
    JW G d mX3_noteOnPage 12 [some (.ref b), some (.int (jI p9)), some (.int (jI i9)), some (.int (jI x9)), some (.int (jI left)), some (.int (jI k))] [] (n, ly_f b f bk w h ln pg A) 0 0 (fun r9 h9 => r9 = .inl (some (.int (jI R))) ∧ h9 = (n, ly_f b f bk w h ln pg A)) := by
  obtain ⟨hbb, hsty, hbk0, hko, hst⟩ := id hcx
  have hbk : bk_at (n, ly_f b f bk w h ln pg A) bk B := hbk0.kept (ly_keep hbb)
  obtain ⟨ww, hwd, hwr⟩ := k_Book_words (G := G) hbk hko
  obtain ⟨t9, q9, hw, -⟩ := id hwd
  obtain ⟨xx1, xx2, xx3, hb, -⟩ := id hbk
  obtain ⟨hwo, k1, k2, k3⟩ := id hko
  obtain ⟨o1, o2, o3, o4⟩ := id hwo
  intro u
  induction u with
  | zero =>
    intro k left hk h3 hR

    refine ji_iload dX3_noteOnPage_12 rfl ?_
    refine ji_bipush dX3_noteOnPage_14 rfl ?_
    refine ji_icmp_ge (tgt := 46) dX3_noteOnPage_16 rfl (by omega) (by omega) (fun c16 => ?_) (fun c16 => absurd c16 (by omega))
    refine ji_iconst dX3_noteOnPage_46 ?_
    exact ji_ireturn dX3_noteOnPage_47 rfl (rfl) ⟨jr_i (by rw [hR]; rfl), rfl⟩
  | succ u ih =>
    intro k left hk h3 hR
    have g2 := ly_bit_b x9 k

    refine ji_iload dX3_noteOnPage_12 rfl ?_
    refine ji_bipush dX3_noteOnPage_14 rfl ?_
    refine ji_icmp_ge (tgt := 46) dX3_noteOnPage_16 rfl (by omega) (by omega) (fun c16 => absurd c16 (by omega)) (fun c16 => ?_)
    refine ji_iload_n dX3_noteOnPage_19 rfl ?_
    refine ji_iload dX3_noteOnPage_20 rfl ?_
    refine ji_iop dX3_noteOnPage_22 (Or.inr (Or.inr (Or.inr ⟨rfl, rfl⟩))) ?_
    refine ji_iconst dX3_noteOnPage_23 ?_
    refine ji_iop dX3_noteOnPage_24 (Or.inl ⟨rfl, rfl⟩) ?_
    rw [ly_sh hx (by omega)]
    refine ji_iconst dX3_noteOnPage_25 ?_
    refine ji_icmp_ne (tgt := 40) dX3_noteOnPage_26 rfl (by omega) (by omega) (fun c26 => ?_) (fun c26 => ?_)
    · refine ji_iinc dX3_noteOnPage_40 (by decide) rfl rfl ?_
      refine ji_goto (tgt := 12) dX3_noteOnPage_43 rfl ?_
      first | exact ih _ _ (by omega) (by omega) (by rw [hR, ly_no, if_pos (by omega), if_neg (by omega)]; rfl) | exact ih _ _ (by omega) (by omega) (by rw [hR, ly_no, if_neg (by omega)])
    · refine ji_iload dX3_noteOnPage_29 rfl ?_
      refine ji_if_ne (tgt := 37) dX3_noteOnPage_31 rfl (by omega) (fun c31 => ?_) (fun c31 => ?_)
      · refine ji_iinc dX3_noteOnPage_37 (by decide) rfl rfl ?_
        refine ji_iinc dX3_noteOnPage_40 (by decide) rfl rfl ?_
        refine ji_goto (tgt := 12) dX3_noteOnPage_43 rfl ?_
        first | exact ih _ _ (by omega) (by omega) (by rw [hR, ly_no, if_pos (by omega), if_neg (by omega)]; rfl) | exact ih _ _ (by omega) (by omega) (by rw [hR, ly_no, if_neg (by omega)])
      · refine ji_iload dX3_noteOnPage_34 rfl ?_
        exact ji_ireturn dX3_noteOnPage_36 rfl (rfl) ⟨jr_i (by rw [hR, ly_no, if_pos (by omega), if_pos (by omega)]), rfl⟩

set_option maxHeartbeats 4000000 in
set_option maxRecDepth 100000 in
theorem k_Layout_noteOnPage (hcx : ly_cx n f b bk B sty) (hA : ∀ k j, -100000 ≤ A k j ∧ A k j ≤ 100000) (hl : 0 ≤ ln ∧ ln ≤ 240) {p i9 : Int} (hi9 : 0 ≤ i9 ∧ i9 ≤ 2147483647) (hb9 : -500 ≤ p ∧ p ≤ 500) (hp : 0 ≤ pg ∧ pg ≤ 240) (h89 : ∀ j, (-1 ≤ A 8 j ∧ A 8 j ≤ 240) ∧ 0 ≤ A 9 j ∧ A 9 j ≤ 240) (h7 : ∀ j, 0 ≤ A 7 j ∧ A 7 j < 1024) : JR G (d + 2) mX3_noteOnPage [.ref b, .int (jI (p)), .int (jI (i9))] (n, ly_f b f bk w h ln pg A) 0 0 (some (.int (jI (ly_no (ly_NP ln (A 7) (ly_g pg (A 9) ln p) (ly_g pg (A 9) ln (p + 1))) 10 0 i9)))) (n, ly_f b f bk w h ln pg A) := by
  obtain ⟨hbb, hsty, hbk0, hko, hst⟩ := id hcx
  have hbk : bk_at (n, ly_f b f bk w h ln pg A) bk B := hbk0.kept (ly_keep hbb)
  obtain ⟨ww, hwd, hwr⟩ := k_Book_words (G := G) hbk hko
  obtain ⟨t9, q9, hw, -⟩ := id hwd
  obtain ⟨xx1, xx2, xx3, hb, -⟩ := id hbk
  obtain ⟨hwo, k1, k2, k3⟩ := id hko
  obtain ⟨o1, o2, o3, o4⟩ := id hwo
  have g1 := ly_NP_b (ln := ln) h7 (ly_g pg (A 9) ln p) (ly_g pg (A 9) ln (p + 1))
  refine ji_ent (by decide) rfl (Nat.le_of_ble_eq_true rfl) rfl ?_
  refine ji_aload_n dX3_noteOnPage_0 rfl trivial ?_
  refine ji_iload_n dX3_noteOnPage_1 rfl ?_
  refine ji_cV dX3_noteOnPage_2 (k_Layout_notesOfPage hcx hA hl (by omega) hp h89 h7) rfl (ly_0) rfl rfl wX3_notesOfPage vX3_notesOfPage lX3_182 rfl (Nat.le_of_ble_eq_true rfl) rfl ?_
  refine ji_istore_n dX3_noteOnPage_5 (by decide) rfl ?_
  refine ji_iload_n dX3_noteOnPage_6 rfl ?_
  refine ji_istore dX3_noteOnPage_7 (by decide) rfl ?_
  refine ji_iconst dX3_noteOnPage_9 ?_
  refine ji_istore dX3_noteOnPage_10 (by decide) rfl ?_
  exact k_Layout_noteOnPage_loop hcx hA hl g1 10 0 i9 (by omega) (by omega) rfl

end MLayout2
