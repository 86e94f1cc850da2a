/-! ===== both sides, call by call: insert, delete ===== -/
section PAIRS
variable {G : ji_G} {n n2 : Nat} {f g : Nat → ji_C} {I : in_T} {P : pg_T} {M M' : mk_T} {H H' : hi_T} {Y Z : ly_T} {B B' : bk_T} {NT : nt_T} {SB SB' : Nat → bk_T}
variable {th rs rr rq rp mm ln co ro pg : Int} {z kp nt nl bf lo lf lt pf z' kp' : Nat → Int} {hsh : Int64} {b b' : Int}
/-- where a word that is not the first begins -/
theorem st_x2 (hB : RB B z) (hX : BX B) (nl nt : Nat → Int) {p : Nat} (hp : p < bk_P B) {m : Int} (hm : 0 < m ∧ m < bk_fr B (p + 1) - bk_fr B p) : ∃ x : Nat, rf_ST (rf_sz z nl p) (rf_ch z nt p) m = x ∧ bk_ws B (bk_fw B p + m) = rS z p + x ∧ (x : Int) < z (85 + p) ∧ bd (xt (bk_tx B) (bk_m B)) (rS z p + x) ∧ 2 ≤ x ∧ (wd_cnt (xt (bk_tx B) (bk_m B)) (rS z p + x) : Int) = bk_fr B p + m := by
  have hRX := rx_rb hB hX.1
  obtain ⟨x, x1, x2, x3, x4, x5, x6⟩ := ST_eq hB nl nt hp (w := m) (by omega)
  obtain ⟨y, _, _, _, y4, _, y6⟩ := ST_eq hB nl nt hp (w := 0) (by omega)
  rw [y6 rfl] at y4
  have hx1 := x5 (by omega)
  have hrs := rS_m z (show p + 1 ≤ bk_P B by omega)
  rw [rS_s, hRX.2.2.2.2.2.1] at hrs
  have hbl : xt (bk_tx B) (bk_m B) (rS z p + x - 1) = 32 := by
    rcases x4 with q | ⟨_, q⟩
    · omega
    · exact q
  have hx2 : 2 ≤ x := by
    rcases Nat.lt_or_ge 1 x with q | q
    · exact q
    · exfalso
      have : x = 1 := by omega
      rw [this, Nat.add_sub_cancel] at hbl
      exact ex_b hRX.2.1 y4 (by omega) hbl
  refine ⟨x, x1, x2, x3, x4, hx2, ?_⟩
  have hfr0 := hX.2.2.1 p
  obtain ⟨c, hc⟩ : ∃ c : Nat, bk_fr B p + m = c := ⟨(bk_fr B p + m).toNat, by omega⟩
  have hn : bk_fr B (p + 1) ≤ bk_n B := by
    have q1 := hRX.2.2.2.2.2.2.2.2.1 (p + 1) (by omega)
    have q2 := rx_fn hRX
    have q3 := hRX.2.2.2.2.2.2.2.2.1 (bk_P B) (Nat.le_refl _)
    have q4 := ct_m (tx := xt (bk_tx B) (bk_m B)) (rS_m z (show p + 1 ≤ bk_P B by omega))
    omega
  have := ws_cnt hB (c := c) (y := rS z p + x) (by omega) (by rw [← hc, ← bk_fw_e (B := B) (p := p) (by omega), x2]; omega)
  rw [hc, this]
theorem ins_sv (hL : LK b n f I P M H Y Z B NT SB z kp nt nl bf) {p x s L u v : Nat} (hp : p < bk_P B) (hL' : z (85 + p) = L) (hx : x ≤ L) (h359 : L + s + 1 ≤ 359) (huv : (u = 0 ∧ v = s) ∨ (u = 1 ∧ v = 0)) (hR : RX B' (IN z bf p x s u v)) (hP' : bk_P B' = bk_P B) (hX : BX B') : SV B' (IN z bf p x s u v) (mk_og M ((rS z p : Int) + x) ((s + 1 : Nat) : Int)) := by
  have h3 := hL.2.1.2.2.2.2.1.2
  have h14 := hL.2.1.2.2.2.2.2.2.1.2
  have h10 := hL.2.1.1.2.2.1
  obtain ⟨a1, a2, a3, a4, a5, a6⟩ := IN_v (bf := bf) h3 h14 hL' (show p < 10 by omega) hx (show L + s + 1 ≤ 360 by omega) huv
  rw [show (s : Int) + 1 = ((s + 1 : Nat) : Int) by omega] at a1
  have hM := mr_ins hL.2.1.2.2.2 hp (by omega) (fun j hj => (hL.2.1.1.2.2.2.2.1 j hj).1) (fun j hj => by
    rw [a4 (85 + j) (by omega) (by omega)]
    by_cases c : j = p
    · rw [if_pos (by omega), if_pos c, hL']; omega
    · rw [if_neg (by omega), if_neg c]) a1
  refine ⟨(rb_rx hR).1, hX, ?_, by rw [hP']; exact hM⟩
  exact zx_in hL.2.1.2.2.1 h3 h14 (by omega) hL' (by omega) hx h359 huv hL.2.2.2.2.2.1 h10.1.2 hM
theorem del_sv (hL : LK b n f I P M H Y Z B NT SB z kp nt nl bf) {p x y L : Nat} {rf : Int} (hp : p < bk_P B) (hL' : z (85 + p) = L) (hxy : x ≤ y) (hy : y ≤ L) (hm : y - x < L) (hrf : rf = (rS z p : Int) + (if (x : Int) < z (85 + p) - (y - x) then (x : Int) else z (85 + p) - (y - x) - 1)) (hR : RX B' (rf_CS z p x y)) (hP' : bk_P B' = bk_P B) (hX : BX B') : SV B' (rf_CS z p x y) (mk_cg M ((rS z p : Int) + x) ((rS z p : Int) + y) rf) := by
  have h3 := hL.2.1.2.2.2.2.1.2
  have h14 := hL.2.1.2.2.2.2.2.2.1.2
  have h10 := hL.2.1.1.2.2.1
  have hle := hL.le hp
  obtain ⟨a1, a2, a3, a4, a5, a6⟩ := CS_v h3 h14 hL' (show p < 10 by omega) hxy hy (by omega)
  rw [← hL'] at a1
  have hM := mr_del hL.2.1.2.2.2 hp hxy (by omega) (fun j hj => (hL.2.1.1.2.2.2.2.1 j hj).1) (by omega) (fun j hj => by
    rw [a4 (85 + j) (by omega) (by omega)]
    by_cases c : j = p
    · rw [if_pos (by omega), if_pos c, hL']; omega
    · rw [if_neg (by omega), if_neg c]) hrf a1
  refine ⟨(rb_rx hR).1, hX, ?_, by rw [hP']; exact hM⟩
  exact zx_cs hL.2.1.2.2.1 h3 h14 (by omega) hL' (by omega) hxy hy (by omega) h10.1.2 hM
theorem p_insert (hL : LK b n f I P M H Y Z B NT SB z kp nt nl bf) (hb9 : b + 101 ≤ b' ∧ b' ≤ 800000) {v m : Int} (b_v : -2147483648 ≤ v ∧ v < 2147483648) (b_m : -2147483648 ≤ m ∧ m < 2147483648) : PR G 11 mX7_insert mX8_insert [.int (jI v), .int (jI m)] [eI, eS] b' n (cl_f (rf_f f th z kp H.1 nt nl P.2.2.1 P.2.2.2.1 P.2.1 I.1 bf rs rr rq rp mm ln lo lf lt co ro pg pf hsh) I P M H Y Z) := by
  have hb : b ≤ b' ∧ b' ≤ 800000 := by omega
  have hw := hL.w hb
  have hP := hL.P0
  have hB := hL.2.1.1
  have hww := (ff_eq (b := 0) (Or.inl rfl) hL.1.2.1.1.1 hL.2.2.2.2.1).2
  by_cases c1 : v < 0 ∨ bk_P B ≤ v
  · exact pr_x (i := 0) rfl rfl (x_insert0 hL.ok b_v c1) (fun f' => r_insert1 hL.rf b_v b_m (by omega)) hw
  obtain ⟨v9, rfl⟩ : ∃ k : Nat, v = k := ⟨v.toNat, by omega⟩
  have hv9 : v9 < bk_P B := by omega
  have hfw := fw_d hv9
  have hwo := wo_eq hB nt hv9
  have h10 := hB.2.2.1.1
  by_cases c2 : m < 0 ∨ bk_fr B (v9 + 1) - bk_fr B v9 < m
  · exact pr_x (i := 0) rfl rfl (x_insert1 hL.ok b_m (by omega) (by rw [hfw]; exact c2)) (fun f' => r_insert1 hL.rf b_v b_m (by rw [hwo]; omega)) hw
  have h0 := hL.1.2.1.1
  have hbf := hL.2.2.2.2.2.1
  rcases in_whole_b I.1 I.2.1 0 with c | c
  · exact pr_x (i := 1) rfl rfl (x_insert2 hL.ok (by omega) (by rw [hfw]; omega) c) (fun f' => r_insert2 hL.rf h0 hbf (by rw [hwo]; omega) (Or.inl (hww.symm.trans c))) (hw.iw (v := 0))
  have htm : in_tm I.2.1 32 I.1.toNat = in_tm bf 32 I.1.toNat := tm_c 32 _ fun j hj => hL.2.2.2.2.1 j (by omega)
  by_cases c3 : 24 < bk_fr B (v9 + 1) - bk_fr B v9 + (in_tm I.2.1 32 I.1.toNat + 1)
  · exact pr_x (i := 1) rfl rfl (x_insert3 hL.ok (by omega) (by rw [hfw]; omega) c (by rw [hfw]; exact c3)) (fun f' => r_insert2 hL.rf h0 hbf (by rw [hwo]; omega) (Or.inr (by rw [hwo, ← htm]; omega))) (hw.iw (v := 0))
  have hRX := rx_rb hB hL.2.1.2.1.1
  have hle := hL.le hv9
  obtain ⟨L, hL'⟩ : ∃ L : Nat, z (85 + v9) = L := ⟨(z (85 + v9)).toNat, by omega⟩
  obtain ⟨s, hs⟩ : ∃ s : Nat, I.1 = s := ⟨I.1.toNat, by omega⟩
  have hs2 : I.1.toNat = s := by omega
  have hrs := rS_m z (show v9 + 1 ≤ bk_P B by omega)
  rw [rS_s, hRX.2.2.2.2.2.1, hL', Int.toNat_natCast] at hrs
  have h359 : L + s + 1 ≤ 359 := by
    obtain ⟨t1, t2, t3⟩ := text_ok h0 c
    have u1 := wl_len t1.2.2 (b := 0) (L := I.1.toNat) (by omega)
    rw [Nat.zero_add, ← t2] at u1
    have u2 := wl_len hRX.2.1.2.2.2 (b := rS z v9) (L := L) (by omega)
    have u3 := hRX.2.2.2.2.2.2.2.2.1 (v9 + 1) (by omega)
    have u4 := hRX.2.2.2.2.2.2.2.2.1 v9 (by omega)
    have u5 := hRX.2.2.2.2.2.2.2.1 v9 hv9
    rw [hL', Int.toNat_natCast] at u5
    have u6 := ct_b u5
    rw [rS_s, hL', Int.toNat_natCast] at u3
    have u7 : wd_cnt I.2.1 0 = 0 := rfl
    omega
  have hm36 := rb_m hB
  have hIok : ∀ (x1 x2 : Int) (j : Nat), 0 ≤ in_pd (in_W I 0) x1 x2 j ∧ in_pd (in_W I 0) x1 x2 j < 128 := fun x1 x2 j => in_pd_b (I := in_W I 0) hL.1.2.1 j
  have h41 := hL.1.2.2.2.2.2.2.2.2.1
  have k2 := (hr_k hL.2.2.2.2.2.2.1 h41.1 h41.2.2.1 hL.2.1 P.2.2.2.2.1).2
  have h9 := hL.2.2.2.2.2.2.2.2.1
  have h3601 := hle.1
  by_cases c4 : m = bk_fr B (v9 + 1) - bk_fr B v9
  · obtain ⟨e1, e2⟩ := ST_end hB nl nt hv9 c4
    rw [hL', Int.toNat_natCast] at e2
    have hR2 := ins_b hB hL.2.1.2.1 hL.2.1.2.2.2 h0 c hL.1.2.1.2 hL.2.2.2.2.1 hv9 hL' e2 (by omega) (by omega)
    rw [hs2] at hR2
    have hX2 := bx_spl hR2 hL.2.1.2.1 (Nat.le_refl _) (by omega) (hIok 1 0)
    have hS2 := ins_sv hL hv9 hL' (Nat.le_refl L) h359 (Or.inr ⟨rfl, rfl⟩) hR2 rfl hX2
    have een : bk_end B (v9 : Int) = (rS z v9 : Int) + L := by rw [bk_end_e hB hv9, hL']
    have ees : (((1 + I.1 + 0).toNat : Nat) : Int) = ((s + 1 : Nat) : Int) := by omega
    have eM : mk_og M (bk_end B (v9 : Int)) (((1 + I.1 + 0).toNat : Nat) : Int) = mk_og M ((rS z v9 : Int) + L) ((s + 1 : Nat) : Int) := by rw [een, ees]
    rw [← eM] at hS2
    have hmo : mk_ok b' (mk_og M (bk_end B (v9 : Int)) (((1 + I.1 + 0).toNat : Nat) : Int)) := mo_w (mo_og hL.2.2.2.2.2.2.2.1.1 (by rw [een]; omega) (by omega)) hb9.1
    have hB2 := hS2.1
    have hwo9 := wo_eq hB2 nt (p := v9) hv9
    have hfw9 := fw_d (B := bk_spl B v9 (rS z v9 + L) (rS z v9 + L) (in_pd (in_W I 0) 1 0) (1 + I.1 + 0).toNat) (p := v9) hv9
    have ez : rf_PI z nl nt I.1 bf v9 m = IN z bf v9 L s 1 0 := by rw [hs]; exact PI_b (by omega) (by rw [hwo]; exact c4) (e1.trans hL')
    have hcb := wd_cnt_b (wd_spl (bk_m B) (bk_tx B) (in_pd (in_W I 0) 1 0) (rS z v9 + L) (rS z v9 + L) (1 + I.1 + 0).toNat) (bk_m B - ((rS z v9 + L) - (rS z v9 + L)) + (1 + I.1 + 0).toNat)
    exact pr_m (B' := bk_spl B v9 (rS z v9 + L) (rS z v9 + L) (in_pd (in_W I 0) 1 0) (1 + I.1 + 0).toNat) (NT' := NT) (SB' := hi_SB H SB B) (P' := P) (P9 := fun b2 => (P.1, P.2.1, P.2.2.1, P.2.2.2.1, b2, 1)) (p9 := fun b2 g => bk_at (n + 1 + 5, g) b2 (bk_spl B v9 (rS z v9 + L) (rS z v9 + L) (in_pd (in_W I 0) 1 0) (1 + I.1 + 0).toNat)) hL.1.1 (by omega) (by omega) (k_insertB hL.ok hv9 c (by rw [hfw]; omega) (by rw [hfw]; omega) (by rw [een]; omega) (by omega) (by omega) (rb_ok hB2 hX2).1) (fun _ => ⟨rfl, rfl, rfl⟩) (fun f' => jr_ed (jr_e (r_insert hL.rf h0 hbf (by rw [hwo]; omega) ⟨hww.symm.trans c, by rw [hwo, ← htm]; omega⟩ h41.1 (by rw [t85]; omega) ez (zx_rz hB2 hS2.2.2.1)) (hfw9.trans hwo9.symm)) k2) (fun g b2 hk hat => (hL.edi hb hk hat hS2 hmo).1.z0)
  · obtain ⟨x, x1, x2, x3, x4, x5, x6⟩ := ST_eq hB nl nt hv9 (w := m) (by omega)
    have hR2 := ins_f hB hL.2.1.2.1 hL.2.1.2.2.2 h0 c hL.1.2.1.2 hL.2.2.2.2.1 hv9 x3 x4 (by omega) (by omega)
    rw [hs2] at hR2
    have hX2 := bx_spl hR2 hL.2.1.2.1 (Nat.le_refl _) (by omega) (hIok 0 1)
    have hS2 := ins_sv hL hv9 hL' (x := x) (by omega) h359 (Or.inl ⟨rfl, rfl⟩) hR2 rfl hX2
    have ees : (((0 + I.1 + 1).toNat : Nat) : Int) = ((s + 1 : Nat) : Int) := by omega
    have eM : mk_og M (bk_ws B (bk_fw B (v9 : Int) + m)) (((0 + I.1 + 1).toNat : Nat) : Int) = mk_og M ((rS z v9 : Int) + x) ((s + 1 : Nat) : Int) := by rw [x2, ees]
    rw [← eM] at hS2
    have hmo : mk_ok b' (mk_og M (bk_ws B (bk_fw B (v9 : Int) + m)) (((0 + I.1 + 1).toNat : Nat) : Int)) := mo_w (mo_og hL.2.2.2.2.2.2.2.1.1 (by rw [x2]; omega) (by omega)) hb9.1
    have hB2 := hS2.1
    have hwo9 := wo_eq hB2 nt (p := v9) hv9
    have hfw9 := fw_d (B := bk_spl B v9 (rS z v9 + x) (rS z v9 + x) (in_pd (in_W I 0) 0 1) (0 + I.1 + 1).toNat) (p := v9) hv9
    have ez : rf_PI z nl nt I.1 bf v9 m = IN z bf v9 x s 0 s := by rw [hs]; exact PI_f (by omega) (by rw [hwo]; exact c4) x1
    have hcb := wd_cnt_b (wd_spl (bk_m B) (bk_tx B) (in_pd (in_W I 0) 0 1) (rS z v9 + x) (rS z v9 + x) (0 + I.1 + 1).toNat) (bk_m B - ((rS z v9 + x) - (rS z v9 + x)) + (0 + I.1 + 1).toNat)
    exact pr_m (B' := bk_spl B v9 (rS z v9 + x) (rS z v9 + x) (in_pd (in_W I 0) 0 1) (0 + I.1 + 1).toNat) (NT' := NT) (SB' := hi_SB H SB B) (P' := P) (P9 := fun b2 => (P.1, P.2.1, P.2.2.1, P.2.2.2.1, b2, 1)) (p9 := fun b2 g => bk_at (n + 1 + 5, g) b2 (bk_spl B v9 (rS z v9 + x) (rS z v9 + x) (in_pd (in_W I 0) 0 1) (0 + I.1 + 1).toNat)) hL.1.1 (by omega) (by omega) (k_insertF hL.ok hv9 c (by rw [hfw]; omega) (by rw [hfw]; omega) (by rw [x2]; omega) (by omega) (by omega) (rb_ok hB2 hX2).1) (fun _ => ⟨rfl, rfl, rfl⟩) (fun f' => jr_ed (jr_e (r_insert hL.rf h0 hbf (by rw [hwo]; omega) ⟨hww.symm.trans c, by rw [hwo, ← htm]; omega⟩ h41.1 (by rw [t85]; omega) ez (zx_rz hB2 hS2.2.2.1)) (hfw9.trans hwo9.symm)) k2) (fun g b2 hk hat => (hL.edi hb hk hat hS2 hmo).1.z0)
theorem p_delete (hL : LK b n f I P M H Y Z B NT SB z kp nt nl bf) (hb : b ≤ b' ∧ b' ≤ 800000) {v m o : Int} (b_v : -2147483648 ≤ v ∧ v < 2147483648) (b_m : -2147483648 ≤ m ∧ m < 2147483648) (b_o : -2147483648 ≤ o ∧ o < 2147483648) : PR G 11 mX7_delete mX8_delete [.int (jI v), .int (jI m), .int (jI o)] [eI, eS] b' n (cl_f (rf_f f th z kp H.1 nt nl P.2.2.1 P.2.2.2.1 P.2.1 I.1 bf rs rr rq rp mm ln lo lf lt co ro pg pf hsh) I P M H Y Z) := by
  have hw := hL.w hb
  have hP := hL.P0
  have hB := hL.2.1.1
  by_cases c1 : v < 0 ∨ bk_P B ≤ v
  · exact pr_x (i := 0) rfl rfl (x_delete0 hL.ok b_v c1) (fun f' => r_delete1 hL.rf b_v b_m b_o (by omega)) hw
  obtain ⟨v9, rfl⟩ : ∃ k : Nat, v = k := ⟨v.toNat, by omega⟩
  have hv9 : v9 < bk_P B := by omega
  have hfw := fw_d hv9
  have hwo := wo_eq hB nt hv9
  have h10 := hB.2.2.1.1
  have h24 := hB.2.2.2.2.2.2.2.2.2.2.1 v9 hv9
  by_cases c2 : m < 0 ∨ bk_fr B (v9 + 1) - bk_fr B v9 ≤ m ∨ o < 1 ∨ bk_fr B (v9 + 1) - bk_fr B v9 - m < o
  · exact pr_x (i := 0) rfl rfl (x_delete1 hL.ok b_m b_o (by omega) (by rw [hfw]; exact c2)) (fun f' => r_delete1 hL.rf b_v b_m b_o (by rw [hwo]; omega)) hw
  by_cases c3 : o = bk_fr B (v9 + 1) - bk_fr B v9
  · exact pr_x (i := 1) rfl rfl (x_delete2 hL.ok (by omega) (by rw [hfw]; omega) (by rw [hfw]; exact c3)) (fun f' => r_delete2 hL.rf (by rw [hwo]; omega) (by rw [hwo]; exact c3)) hw
  have hRX := rx_rb hB hL.2.1.2.1.1
  have hle := hL.le hv9
  obtain ⟨L, hL'⟩ : ∃ L : Nat, z (85 + v9) = L := ⟨(z (85 + v9)).toNat, by omega⟩
  have hrs := rS_m z (show v9 + 1 ≤ bk_P B by omega)
  rw [rS_s, hRX.2.2.2.2.2.1, hL', Int.toNat_natCast] at hrs
  have hm36 := rb_m hB
  have h41 := hL.1.2.2.2.2.2.2.2.2.1
  have k2 := (hr_k hL.2.2.2.2.2.2.1 h41.1 h41.2.2.1 hL.2.1 P.2.2.2.2.1).2
  have h9 := hw.2.2.2.2.2.2.2.2.1
  have een : bk_end B (v9 : Int) = (rS z v9 : Int) + L := by rw [bk_end_e hB hv9, hL']
  by_cases c4 : m + o = bk_fr B (v9 + 1) - bk_fr B v9
  · obtain ⟨x0, x1, x2, x3, x4, x5, x6⟩ := st_x2 hB hL.2.1.2.1 nl nt hv9 (m := m) (by omega)
    obtain ⟨e1, e2⟩ := ST_end hB nl nt hv9 c4
    rw [hL', Int.toNat_natCast] at e2
    obtain ⟨x, hx⟩ : ∃ x : Nat, x0 = x + 1 := ⟨x0 - 1, by omega⟩
    have hR2 := del_l hB hL.2.1.2.1 hL.2.1.2.2.2 hv9 hL' (x := x) (by omega) (by rw [← hx]; exact x4) e2
    have hX2 := bx_spl hR2 hL.2.1.2.1 (by omega) (by omega) (fun _ => by omega)
    have ex : bk_ws B (bk_fw B (v9 : Int) + m) - 1 = (rS z v9 : Int) + x := by rw [x2]; omega
    have hS2 := del_sv hL hv9 hL' (x := x) (y := L) (rf := bk_ws B (bk_fw B (v9 : Int) + m) - 1 - 1) (by omega) (Nat.le_refl _) (by omega) (by rw [ex, if_neg (by omega)]; omega) hR2 rfl hX2
    have eM : mk_cg M (bk_ws B (bk_fw B (v9 : Int) + m) - 1) (bk_end B (v9 : Int)) (bk_ws B (bk_fw B (v9 : Int) + m) - 1 - 1) = mk_cg M ((rS z v9 : Int) + x) ((rS z v9 : Int) + L) (bk_ws B (bk_fw B (v9 : Int) + m) - 1 - 1) := by rw [een, ex]
    rw [← eM] at hS2
    have hmo : mk_ok b' (mk_cg M (bk_ws B (bk_fw B (v9 : Int) + m) - 1) (bk_end B (v9 : Int)) (bk_ws B (bk_fw B (v9 : Int) + m) - 1 - 1)) := mo_cg hw.2.2.2.2.2.2.2.1.1 (by rw [een, ex]; omega) (by rw [ex]; omega)
    have hB2 := hS2.1
    have hwo9 := wo_eq hB2 nt (p := v9) hv9
    have hfw9 := fw_d (B := bk_spl B v9 (rS z v9 + x) (rS z v9 + L) (fun _ => 0) 0) (p := v9) hv9
    have ez : rf_CS z v9 (rf_ST (rf_sz z nl v9) (rf_ch z nt v9) m - 1) (rf_ST (rf_sz z nl v9) (rf_ch z nt v9) (m + o)) = rf_CS z v9 x L := by rw [x1, e1, hL', show (x0 : Int) - 1 = x by omega]
    have hcb := wd_cnt_b (wd_spl (bk_m B) (bk_tx B) (fun _ => 0) (rS z v9 + x) (rS z v9 + L) 0) (bk_m B - ((rS z v9 + L) - (rS z v9 + x)) + 0)
    exact pr_m (B' := bk_spl B v9 (rS z v9 + x) (rS z v9 + L) (fun _ => 0) 0) (NT' := NT) (SB' := hi_SB H SB B) (P' := P) (P9 := fun b2 => (P.1, P.2.1, P.2.2.1, P.2.2.2.1, b2, 1)) (p9 := fun b2 g => bk_at (n + 6, g) b2 (bk_spl B v9 (rS z v9 + x) (rS z v9 + L) (fun _ => 0) 0)) hL.1.1 (by omega) (by omega) (k_deleteL hL.ok hv9 (by rw [hfw]; omega) (by rw [hfw]; omega) (by rw [hfw]; exact c4) (by rw [ex]; omega) (by rw [een]; omega) (by omega) (by omega) (by omega) (rb_ok hB2 hX2).1) (fun _ => ⟨rfl, rfl, rfl⟩) (fun f' => jr_ed (jr_e (r_deleteL hL.rf (by rw [hwo]; omega) (by rw [hwo]; omega) (by rw [hwo]; exact c4) (by rw [x1, e1, hL']; omega) h41.1 ez (zx_rz hB2 hS2.2.2.1)) (hfw9.trans hwo9.symm)) k2) (fun g b2 hk hat => (hL.edi hb hk hat hS2 hmo).1)
  · obtain ⟨x, x1, x2, x3, x4, x5, x6⟩ := ST_eq hB nl nt hv9 (w := m) (by omega)
    obtain ⟨y, y1, y2, y3, y4, y5, y6⟩ := st_x2 hB hL.2.1.2.1 nl nt hv9 (m := m + o) (by omega)
    have hxy : x < y := by
      by_cases c5 : m = 0
      · rw [x6 c5]; omega
      · obtain ⟨x', q1, _, _, _, _, q6⟩ := st_x2 hB hL.2.1.2.1 nl nt hv9 (m := m) (by omega)
        have : x' = x := by rw [x1] at q1; omega
        rw [this] at q6
        rcases Nat.lt_or_ge x y with q | q
        · exact q
        · have := ct_m (tx := xt (bk_tx B) (bk_m B)) (show rS z v9 + y ≤ rS z v9 + x by omega)
          omega
    have hR2 := del_m hB hL.2.1.2.1 hL.2.1.2.2.2 hv9 hL' hxy (by omega) x4 y4
    have hX2 := bx_spl hR2 hL.2.1.2.1 (by omega) (by omega) (fun _ => by omega)
    have hS2 := del_sv hL hv9 hL' (x := x) (y := y) (rf := bk_ws B (bk_fw B (v9 : Int) + m)) (by omega) (by omega) (by omega) (by rw [x2, if_pos (by omega)]) hR2 rfl hX2
    have eM : mk_cg M (bk_ws B (bk_fw B (v9 : Int) + m)) (bk_ws B (bk_fw B (v9 : Int) + (m + o))) (bk_ws B (bk_fw B (v9 : Int) + m)) = mk_cg M ((rS z v9 : Int) + x) ((rS z v9 : Int) + y) (bk_ws B (bk_fw B (v9 : Int) + m)) := by rw [x2, y2]
    rw [← eM] at hS2
    have hmo : mk_ok b' (mk_cg M (bk_ws B (bk_fw B (v9 : Int) + m)) (bk_ws B (bk_fw B (v9 : Int) + (m + o))) (bk_ws B (bk_fw B (v9 : Int) + m))) := mo_cg hw.2.2.2.2.2.2.2.1.1 (by rw [x2, y2]; omega) (by rw [x2]; omega)
    have hB2 := hS2.1
    have hwo9 := wo_eq hB2 nt (p := v9) hv9
    have hfw9 := fw_d (B := bk_spl B v9 (rS z v9 + x) (rS z v9 + y) (fun _ => 0) 0) (p := v9) hv9
    have ez : rf_CS z v9 (rf_ST (rf_sz z nl v9) (rf_ch z nt v9) m - 0) (rf_ST (rf_sz z nl v9) (rf_ch z nt v9) (m + o)) = rf_CS z v9 x y := by rw [x1, y1, Int.sub_zero]
    have hcb := wd_cnt_b (wd_spl (bk_m B) (bk_tx B) (fun _ => 0) (rS z v9 + x) (rS z v9 + y) 0) (bk_m B - ((rS z v9 + y) - (rS z v9 + x)) + 0)
    exact pr_m (B' := bk_spl B v9 (rS z v9 + x) (rS z v9 + y) (fun _ => 0) 0) (NT' := NT) (SB' := hi_SB H SB B) (P' := P) (P9 := fun b2 => (P.1, P.2.1, P.2.2.1, P.2.2.2.1, b2, 1)) (p9 := fun b2 g => bk_at (n + 6, g) b2 (bk_spl B v9 (rS z v9 + x) (rS z v9 + y) (fun _ => 0) 0)) hL.1.1 (by omega) (by omega) (k_deleteM hL.ok hv9 (by rw [hfw]; omega) (by rw [hfw]; omega) (by rw [hfw]; exact c4) (by rw [x2]; omega) (by rw [y2]; omega) (by omega) (by omega) (by omega) (rb_ok hB2 hX2).1) (fun _ => ⟨rfl, rfl, rfl⟩) (fun f' => jr_ed (jr_e (r_deleteM hL.rf (by rw [hwo]; omega) (by rw [hwo]; omega) (by rw [hwo]; exact c4) (by rw [x1, y1]; omega) h41.1 ez (zx_rz hB2 hS2.2.2.1)) (hfw9.trans hwo9.symm)) k2) (fun g b2 hk hat => (hL.edi hb hk hat hS2 hmo).1)
end PAIRS
