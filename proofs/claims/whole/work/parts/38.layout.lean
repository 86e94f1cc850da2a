/-! ===== lay ===== -/
/-- what always holds of a layout's rows -/
def ly_iv (A : Nat → Nat → Int) : Prop := (∀ k j, -100000 ≤ A k j ∧ A k j ≤ 100000) ∧ (∀ j, 0 ≤ A 1 j ∧ A 1 j ≤ 1000) ∧ (∀ j, 0 ≤ A 3 j ∧ A 3 j ≤ 10) ∧ (∀ j, 0 ≤ A 5 j ∧ A 5 j ≤ 10) ∧ (∀ j, 0 ≤ A 7 j ∧ A 7 j < 1024) ∧ (∀ j, (-1 ≤ A 8 j ∧ A 8 j ≤ 240) ∧ 0 ≤ A 9 j ∧ A 9 j ≤ 240)
def nt_few (NT : nt_T) : Prop := ∀ k m nn tx s, NT k = some (m, nn, tx, s) → nn ≤ 100
theorem ly_nl_few {w : Int} {NT : nt_T} (h : nt_few NT) (k : Nat) : 0 ≤ ly_nl w NT k ∧ ly_nl w NT k ≤ 1000 := by
  unfold ly_nl
  split
  · omega
  · rename_i m nn tx s e
    have h1 := h k _ _ _ _ e
    have := wd_lw_b m nn s w nn 0 0
    omega
theorem ly_iv_A1 {w : Int} {NT : nt_T} {A : Nat → Nat → Int} (h : nt_few NT) (hA : ly_iv A) : ly_iv (ly_A1 w NT A) := by
  obtain ⟨h0, h1, h3, h5, h7, h8⟩ := hA
  have hb : ∀ j, 0 ≤ ji_map (ly_nl w NT) (A 1) 10 j ∧ ji_map (ly_nl w NT) (A 1) 10 j ≤ 1000 := fun j => by unfold ji_map; split; exact ly_nl_few h j; exact h1 j
  exact ⟨ly_up h0 (fun j => by have := hb j; omega), hb, h3, h5, h7, h8⟩
theorem ly_iv_add {B : bk_T} {A : Nat → Nat → Int} {ln p ind x y : Int} (hA : ly_iv A) (hp : 0 ≤ p ∧ p ≤ 10) (hi : 0 ≤ ind ∧ ind ≤ 1000) (hx : 0 ≤ x ∧ x ≤ 20000) : ly_iv (ly_add B A ln p ind x y) := by
  obtain ⟨h0, h1, h3, h5, h7, h8⟩ := hA
  refine ⟨ly_add_b h0 (by omega) hi hx, h1, fun j => ?_, h5, fun j => ?_, h8⟩
  · show 0 ≤ va_up (A 3) ln.toNat p j ∧ va_up (A 3) ln.toNat p j ≤ 10
    unfold va_up; split; exact hp; exact h3 j
  · show 0 ≤ va_up (A 7) ln.toNat (ly_rf B (y - x).toNat x 0) j ∧ va_up (A 7) ln.toNat (ly_rf B (y - x).toNat x 0) j < 1024
    unfold va_up; split; exact ly_rf_b B _ _ _ (by omega); exact h7 j
theorem ly_iv_bl1 {B : bk_T} {w : Int} {sty : Nat → Int} {p stop : Int} (hs : ∀ k, 0 ≤ sty k ∧ sty k ≤ 4) (hp : 0 ≤ p ∧ p ≤ 10) (hst : 0 ≤ stop ∧ stop ≤ 10000) : ∀ (u : Nat) (x ind ln : Int) (A : Nat → Nat → Int), (0 ≤ x ∧ x ≤ 10000) → (0 ≤ ind ∧ ind ≤ 4) → (0 ≤ ln ∧ ln ≤ 240) → ly_iv A → ly_iv (ly_bl1 B w sty p stop u x ind ln A).2 ∧ 0 ≤ (ly_bl1 B w sty p stop u x ind ln A).1 ∧ (ly_bl1 B w sty p stop u x ind ln A).1 ≤ 240
  | 0, x, ind, ln, A, h1, h2, h3, h4 => ⟨h4, h3⟩
  | u + 1, x, ind, ln, A, h1, h2, h3, h4 => by
    unfold ly_bl1
    split
    · have h5 := wd_LE_b (bk_m B) (bk_n B) (bk_s B) x stop (w - ind)
      exact ly_iv_bl1 hs hp hst u _ _ _ _ (by omega) (ly_li_b hs p) (by omega) (ly_iv_add h4 hp (by omega) (by omega))
    · exact ⟨h4, h3⟩
theorem ly_iv_bl {B : bk_T} {w : Int} {sty : Nat → Int} (hk : bk_ok B) (hs : ∀ k, 0 ≤ sty k ∧ sty k ≤ 4) : ∀ (u : Nat) (p : Int) (R : Int × (Nat → Nat → Int)), 0 ≤ p ∧ p + u ≤ 10 → (0 ≤ R.1 ∧ R.1 ≤ 240) → ly_iv R.2 → ly_iv (ly_bl B w sty u p R).2 ∧ 0 ≤ (ly_bl B w sty u p R).1 ∧ (ly_bl B w sty u p R).1 ≤ 240
  | 0, p, R, h1, h2, h3 => ⟨h3, h2⟩
  | u + 1, p, R, h1, h2, h3 => by
    unfold ly_bl
    have h4 := ly_iv_bl1 (B := B) (w := w) (p := p) hs (by omega) (bk_fw_b hk (p + 1)) (bk_fw B (p + 1) - bk_fw B p).toNat (bk_fw B p) (ly_fi B sty p) R.1 R.2 (bk_fw_b hk p) (ly_fi_b hs p) h2 h3
    exact ly_iv_bl hk hs u (p + 1) _ (by omega) h4.2 h4.1
theorem ly_iv_AL {B : bk_T} {R : Int × (Nat → Nat → Int)} (hk : bk_ok B) (h : ly_iv R.2) : ly_iv (ly_AL B R) := by
  obtain ⟨h0, h1, h3, h5, h7, h8⟩ := h
  have := hk.1.2.1
  exact ⟨ly_up h0 (ly_up1 (h0 2) (by omega)), h1, h3, h5, h7, h8⟩
theorem ly_iv_AM {B : bk_T} {ln l : Int} {sty : Nat → Int} {A : Nat → Nat → Int} (hs : ∀ k, 0 ≤ sty k ∧ sty k ≤ 4) (h : ly_iv A) : ly_iv (ly_AM B ln sty A l) := by
  obtain ⟨h0, h1, h3, h5, h7, h8⟩ := h
  refine ⟨ly_AM_b hs h0, h1, h3, fun j => ?_, h7, h8⟩
  show 0 ≤ ji_map (ly_g5 B ln sty (A 3)) (A 5) l j ∧ ji_map (ly_g5 B ln sty (A 3)) (A 5) l j ≤ 10
  unfold ji_map; split
  · have := ly_g5_b (B := B) (ln := ln) (A3 := A 3) hs j; omega
  · exact h5 j
theorem ly_pgl_b {h ln : Int} {sty : Nat → Int} {A : Nat → Nat → Int} (hl : ln ≤ 240) : ∀ (u : Nat) (x pg : Int) (P8 P9 : Nat → Int), (0 ≤ x ∧ x ≤ ln) → (0 ≤ pg ∧ pg ≤ x) → (∀ j, (-1 ≤ P8 j ∧ P8 j ≤ 240) ∧ 0 ≤ P9 j ∧ P9 j ≤ 240) →
    (0 ≤ (ly_pgl h ln sty A u x pg P8 P9).1 ∧ (ly_pgl h ln sty A u x pg P8 P9).1 ≤ ln) ∧ ∀ j, (-1 ≤ (ly_pgl h ln sty A u x pg P8 P9).2.1 j ∧ (ly_pgl h ln sty A u x pg P8 P9).2.1 j ≤ 240) ∧ 0 ≤ (ly_pgl h ln sty A u x pg P8 P9).2.2 j ∧ (ly_pgl h ln sty A u x pg P8 P9).2.2 j ≤ 240
  | 0, x, pg, P8, P9, h1, h2, h3 => ⟨by show 0 ≤ pg ∧ pg ≤ ln; omega, h3⟩
  | u + 1, x, pg, P8, P9, h1, h2, h3 => by
    unfold ly_pgl
    split
    · have h5 := ly_BF_b h ln sty A x
      refine ly_pgl_b hl u _ _ _ _ (by omega) (by omega) (fun j => ?_)
      have h6 := h3 j
      unfold ly_rg va_up
      split <;> split <;> omega
    · exact ⟨by show 0 ≤ pg ∧ pg ≤ ln; omega, h3⟩
theorem ly_Pg_b {h ln : Int} {sty : Nat → Int} {A : Nat → Nat → Int} (hl : 0 ≤ ln ∧ ln ≤ 240) (hA : ly_iv A) : (0 ≤ (ly_Pg h ln sty A).1 ∧ (ly_Pg h ln sty A).1 ≤ ln) ∧ ∀ j, (-1 ≤ (ly_Pg h ln sty A).2.1 j ∧ (ly_Pg h ln sty A).2.1 j ≤ 240) ∧ 0 ≤ (ly_Pg h ln sty A).2.2 j ∧ (ly_Pg h ln sty A).2.2 j ≤ 240 := ly_pgl_b hl.2 _ _ _ _ _ (by omega) (by omega) hA.2.2.2.2.2
theorem ly_iv_AF {h ln : Int} {sty : Nat → Int} {A : Nat → Nat → Int} (hl : 0 ≤ ln ∧ ln ≤ 240) (hA : ly_iv A) : ly_iv (ly_AF h ln sty A) := by
  have hP := ly_Pg_b (h := h) (sty := sty) hl hA
  obtain ⟨h0, h1, h3, h5, h7, h8⟩ := hA
  have h9 : ∀ j, (-1 ≤ (ly_Pg h ln sty A).2.1 j ∧ (ly_Pg h ln sty A).2.1 j ≤ 240) ∧ 0 ≤ va_up (ly_Pg h ln sty A).2.2 (ly_Pg h ln sty A).1.toNat ln j ∧ va_up (ly_Pg h ln sty A).2.2 (ly_Pg h ln sty A).1.toNat ln j ≤ 240 := fun j => by
    have := hP.2 j
    refine ⟨this.1, ?_⟩
    unfold va_up; split <;> omega
  exact ⟨ly_AP_b h0 (fun j => by have := h9 j; omega) (fun j => by have := h9 j; omega), h1, h3, h5, h7, h9⟩
theorem ly_iv_R {B : bk_T} {w : Int} {sty : Nat → Int} {NT : nt_T} {A : Nat → Nat → Int} (hk : bk_ok B) (hs : ∀ k, 0 ≤ sty k ∧ sty k ≤ 4) (hf : nt_few NT) (hA : ly_iv A) : ly_iv (ly_R B w sty NT A).2 ∧ 0 ≤ (ly_R B w sty NT A).1 ∧ (ly_R B w sty NT A).1 ≤ 240 := ly_iv_bl hk hs _ _ _ (by have := hk.2.1; omega) (by show (0 : Int) ≤ 0 ∧ (0 : Int) ≤ 240; omega) (ly_iv_A1 hf hA)
theorem ly_iv_A4 {B : bk_T} {w h : Int} {sty : Nat → Int} {NT : nt_T} {A : Nat → Nat → Int} (hk : bk_ok B) (hs : ∀ k, 0 ≤ sty k ∧ sty k ≤ 4) (hf : nt_few NT) (hA : ly_iv A) : ly_iv (ly_A4 B w h sty NT A) := ly_iv_AF (ly_iv_R hk hs hf hA).2 (ly_iv_AM hs (ly_iv_AL hk (ly_iv_R hk hs hf hA).1))
section MLayout8
variable {G : ji_G} {d n b bk : Nat} {f : Nat → ji_C} {w h ln pg : Int} {A : Nat → Nat → Int} {B : bk_T} {sty : Nat → Int}

set_option maxHeartbeats 4000000 in
set_option maxRecDepth 100000 in
theorem k_Layout_lay {bk2 : Nat} {w2 h2 : Int} (hcx : ly_cx n f b bk2 B sty) (hiv : ly_iv A) (hl : 0 ≤ ln ∧ ln ≤ 240) {nf : Nat → Option Nat} {NT : nt_T} (hnt : nt_at n f nf NT) (hfew : nt_few NT) (hw9 : 0 ≤ w2 ∧ w2 ≤ 1000) (hh : 0 ≤ h2 ∧ h2 ≤ 1000) : JR G (d + 4) mX3_lay [.ref b, .ref bk2, .int (jI w2), .int (jI h2)] (n, ly_f b f bk w h ln pg A) 0 0 none (n, ly_f b f bk2 w2 h2 (ly_ln B w2 sty NT A) (ly_pg B w2 h2 sty NT A) (ly_A4 B w2 h2 sty NT A)) := by
  obtain ⟨hbb, hsty, hbk0, hko, hst⟩ := id hcx
  have q1 := ly_iv_A1 (w := w2) hfew hiv
  have q2 := ly_iv_R (w := w2) hko hst hfew hiv
  have q3 := ly_iv_AL hko q2.1
  have q4 := ly_iv_AM (B := B) (ln := ly_ln B w2 sty NT A) (l := ly_ln B w2 sty NT A) hst q3
  refine ji_ent (by decide) rfl (Nat.le_of_ble_eq_true rfl) rfl ?_
  refine ji_aload_n dX3_lay_0 rfl trivial ?_
  refine ji_aload_n dX3_lay_1 rfl trivial ?_
  refine ji_putE (ci := 3) (k := 2) rfl dX3_lay_2 lX3_40 (by decide) (ly_0) (by simp) (ji_fitO _ trivial) rfl (ly_pb) ?_
  refine ji_aload_n dX3_lay_5 rfl trivial ?_
  refine ji_iload_n dX3_lay_6 rfl ?_
  refine ji_putE (ci := 3) (k := 3) rfl dX3_lay_7 lX3_51 (by decide) (ly_0) (by simp) (ji_fitI _) rfl (ly_pw) ?_
  refine ji_aload_n dX3_lay_10 rfl trivial ?_
  refine ji_iload_n dX3_lay_11 rfl ?_
  refine ji_putE (ci := 3) (k := 4) rfl dX3_lay_12 lX3_55 (by decide) (ly_0) (by simp) (ji_fitI _) rfl (ly_ph) ?_
  refine ji_aload_n dX3_lay_15 rfl trivial ?_
  refine ji_cVv dX3_lay_16 (k_Layout_measureNotes hcx hiv.1 hl hnt hw9) rfl (ly_0) rfl rfl wX3_measureNotes vX3_measureNotes lX3_58 rfl (Nat.le_of_ble_eq_true rfl) rfl ?_
  refine ji_aload_n dX3_lay_19 rfl trivial ?_
  refine ji_cVv dX3_lay_20 (k_Layout_breakLines hcx q1.1 hl hw9) rfl (ly_0) rfl rfl wX3_breakLines vX3_breakLines lX3_61 rfl (Nat.le_of_ble_eq_true rfl) rfl ?_
  refine ji_aload_n dX3_lay_23 rfl trivial ?_
  refine ji_cVv dX3_lay_24 (k_Layout_measureLines hcx q3.1 q2.2 q3.2.2.1) rfl (ly_0) rfl rfl wX3_measureLines vX3_measureLines lX3_64 rfl (Nat.le_of_ble_eq_true rfl) rfl ?_
  refine ji_aload_n dX3_lay_27 rfl trivial ?_
  refine ji_cVv dX3_lay_28 (k_Layout_breakPages hcx q4.1 q2.2 q4.2.1 q4.2.2.2.2.1 q4.2.2.2.1 hh) rfl (ly_0) rfl rfl wX3_breakPages vX3_breakPages lX3_67 rfl (Nat.le_of_ble_eq_true rfl) rfl ?_
  exact ji_return dX3_lay_31 rfl ⟨rfl, rfl⟩

end MLayout8
