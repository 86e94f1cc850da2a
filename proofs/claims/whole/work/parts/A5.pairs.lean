/-! ===== both sides, call by call: split, join ===== -/
section PAIRS
variable {G : ji_G} {n n2 : Nat} {f g : Nat → ji_C} {I : in_T} {P : pg_T} {M M' : mk_T} {H H' : hi_T} {Y Z : ly_T} {B B' : bk_T} {NT : nt_T} {SB SB' : Nat → bk_T}
variable {th rs rr rq rp mm ln co ro pg : Int} {z kp nt nl bf lo lf lt pf z' kp' : Nat → Int} {hsh : Int64} {b b' : Int}
theorem jr_ed {d : Nat} {m : ji_M} {as : List Value} {h0 : ji_H} {bc bs : Nat} {v : Option Value} {ed ed' wi ht sz : Int} {sy : Nat → Int} (h : JR G d m as h0 bc bs v (n, rf_f f th z kp ed nt nl wi ht sy sz bf rs rr rq rp mm ln lo lf lt co ro pg pf hsh)) (e : ed' = ed) : JR G d m as h0 bc bs v (n, rf_f f th z kp ed' nt nl wi ht sy sz bf rs rr rq rp mm ln lo lf lt co ro pg pf hsh) := e ▸ h
theorem fw_d {p : Nat} (hp : p < bk_P B) : bk_fw B ((p : Int) + 1) - bk_fw B (p : Int) = bk_fr B (p + 1) - bk_fr B p := by
  have := bk_fw_e (B := B) (p := p + 1) (by omega)
  rw [show ((p + 1 : Nat) : Int) = (p : Int) + 1 by omega] at this
  rw [this, bk_fw_e (by omega)]
theorem ws_cnt (h : RB B z) {c y : Nat} (hc : c < bk_n B) (e : bk_ws B (c : Int) = y) : wd_cnt (xt (bk_tx B) (bk_m B)) y = c := by
  have h1 := h.1
  have e2 : bk_ws B (c : Int) = wd_starts (bk_m B) (bk_tx B) c := by
    unfold bk_ws wd_start
    rw [if_pos (by omega), Int.toNat_natCast, h1.2]
  rw [e2] at e
  rcases st_at (tx := bk_tx B) (m := bk_m B) (c := c) (by omega) with ⟨q1, q2⟩ | ⟨i, q1, q2, q3, q4⟩
  · have : y = 0 := by omega
    rw [this, q1]; rfl
  · have : y = i + 1 := by omega
    have q5 := ct_b q2
    rw [this, xt_c (by omega)]; omega
theorem p_split (hL : LK b n f I P M H Y Z B NT SB z kp nt nl bf) (hb : b ≤ b' ∧ b' ≤ 800000) {v m : Int} (b_v : -2147483648 ≤ v ∧ v < 2147483648) (b_m : -2147483648 ≤ m ∧ m < 2147483648) : PR G 11 mX7_split mX8_split [.int (jI v), .int (jI m)] [eI, eS] b' n (cl_f (rf_f f th z kp H.1 nt nl P.2.2.1 P.2.2.2.1 P.2.1 I.1 bf rs rr rq rp mm ln lo lf lt co ro pg pf hsh) I P M H Y Z) := by
  have hw := hL.w hb
  have hP := hL.P0
  have hB := hL.2.1.1
  by_cases c1 : v < 0 ∨ bk_P B ≤ v
  · exact pr_x (i := 0) rfl rfl (x_split0 hL.ok b_v c1) (fun f' => r_split1 hL.rf b_v b_m (by omega)) hw
  obtain ⟨v9, rfl⟩ : ∃ k : Nat, v = k := ⟨v.toNat, by omega⟩
  have hv9 : v9 < bk_P B := by omega
  have hfw := fw_d hv9
  have hwo := wo_eq hB nt hv9
  have h24 := hB.2.2.2.2.2.2.2.2.2.2.1 v9 hv9
  have h10 := hB.2.2.1.1
  by_cases c2 : m < 1 ∨ bk_fr B (v9 + 1) - bk_fr B v9 ≤ m
  · exact pr_x (i := 0) rfl rfl (x_split1 hL.ok b_m (by omega) (by rw [hfw]; exact c2)) (fun f' => r_split1 hL.rf b_v b_m (by rw [hwo]; omega)) hw
  by_cases c3 : bk_P B = 10
  · exact pr_x (i := 1) rfl rfl (x_split2 hL.ok (by omega) (by rw [hfw]; omega) c3) (fun f' => r_split2 hL.rf (by rw [hwo]; omega) (by omega)) hw
  have hRX := rx_rb hB hL.2.1.2.1.1
  have hle := hL.le hv9
  obtain ⟨x, x1, x2, x3, x4, x5, x6⟩ := ST_eq hB nl nt hv9 (w := m) (by omega)
  obtain ⟨y, _, _, _, y4, _, y6⟩ := ST_eq hB nl nt hv9 (w := 0) (by omega)
  rw [y6 rfl] at y4
  have hx1 := x5 (by omega)
  obtain ⟨L, hL'⟩ : ∃ L : Nat, z (85 + v9) = L := ⟨(z (85 + v9)).toNat, by omega⟩
  have hM3 := hL.2.1.2.2.2.2.1.2
  have hM14 := hL.2.1.2.2.2.2.2.2.1.2
  have hrs := rS_m z (show v9 + 1 ≤ bk_P B by omega)
  rw [rS_s, hRX.2.2.2.2.2.1] at hrs
  have hbl : xt (bk_tx B) (bk_m B) (rS z v9 + x - 1) = 32 := by
    rcases x4 with q | ⟨_, q⟩
    · omega
    · exact q
  have hx2 : 2 ≤ x := by
    rcases Nat.lt_or_ge 1 x with q | q
    · exact q
    · exfalso
      have : x = 1 := by omega
      rw [this, Nat.add_sub_cancel] at hbl
      exact ex_b hRX.2.1 y4 (by omega) hbl
  obtain ⟨d1, d2, d3⟩ := DV_v (z := z) (q := v9) (x := x) (P := bk_P B) (L := L) hM3 hM14 hP (by omega) hv9 hL' (by omega) (by omega)
  have hfr0 := hL.2.1.2.1.2.2.1 v9
  have hcn : bk_fr B v9 + m = wd_cnt (xt (bk_tx B) (bk_m B)) (rS z v9 + x) := by
    obtain ⟨c, hc⟩ : ∃ c : Nat, bk_fr B v9 + m = c := ⟨(bk_fr B v9 + m).toNat, by omega⟩
    have hn : bk_fr B (v9 + 1) ≤ bk_n B := by
      have q1 := hRX.2.2.2.2.2.2.2.2.1 (v9 + 1) (by omega)
      have q2 := rx_fn hRX
      have q3 := hRX.2.2.2.2.2.2.2.2.1 (bk_P B) (Nat.le_refl _)
      have q4 := ct_m (tx := xt (bk_tx B) (bk_m B)) (rS_m z (show v9 + 1 ≤ bk_P B by omega))
      omega
    have := ws_cnt hB (c := c) (y := rS z v9 + x) (by omega) (by rw [← hc, ← bk_fw_e (B := B) (p := v9) (by omega), x2]; omega)
    rw [hc, this]
  have hR2 : RX (bk_split B v9 m) (rf_DV z v9 x) := rx_dv hRX (by omega) hv9 hL' hx2 (by omega) (by omega) (by omega) hcn hbl d3
  have hX2 := bx_dv hR2 hL.2.1.2.1
  have w8 : ∀ j, j ≤ bk_P B → rf_DV z v9 x (85 + j) = _ := fun j hj => (d3 (85 + j) (by omega)).trans (df_8 (by omega) hv9 hj)
  have hM2 := mr_dv hL.2.1.2.2.2 hRX.2.2.2.2.1 hv9 hL' hx2 (by omega) w8 d1
  have hZ2 := zx_dv (P := bk_P B) (Q := bk_P B + 1) hL.2.1.2.2.1 (by omega) (by omega) hv9 hL' hx2 (by omega) (by omega) hM2 ⟨d1.1, d1.2.1⟩ d2 d3
  have hB2 := (rb_rx hR2).1
  have ews : bk_ws B (bk_fw B v9 + m) - 1 = (rS z v9 : Int) + x - 1 := by rw [x2]
  have hS2 : SV (bk_split B v9 m) (rf_DV z v9 x) (mk_ct M (bk_ws B (bk_fw B v9 + m) - 1)) := ⟨hB2, hX2, hZ2, by rw [ews]; exact hM2⟩
  have h9 := hw.2.2.2.2.2.2.2.2.1
  have hmo : mk_ok b' (mk_ct M (bk_ws B (bk_fw B v9 + m) - 1)) := mo_ct hw.2.2.2.2.2.2.2.1.1 (by rw [ews]; omega)
  have h41 := hL.1.2.2.2.2.2.2.2.2.1
  have k2 := (hr_k hL.2.2.2.2.2.2.1 h41.1 h41.2.2.1 hL.2.1 P.2.2.2.2.1).2
  have hd0 := d3 0 (Or.inl rfl)
  rw [← x1] at hd0 hS2
  refine pr_m (B' := bk_split B v9 m) (NT' := NT) (SB' := hi_SB H SB B) (P' := P) (P9 := fun b2 => (P.1, P.2.1, P.2.2.1, P.2.2.2.1, b2, 1)) (p9 := fun b2 g => bk_at (n + 3, g) b2 (bk_split B v9 m)) hL.1.1 (by omega) (by omega) (k_split hL.ok hv9 (by rw [hfw]; omega) (by omega) (rb_ok hB2 hX2).1) (fun _ => ⟨rfl, rfl, rfl⟩) (fun f' => jr_ed (jr_e (r_split hL.rf (by rw [hwo]; omega) (by rw [hwo]; omega) h41.1) ?_) k2) (fun g b2 hk hat => (hL.edi hb hk hat hS2 hmo).1)
  rw [hd0]
  show ((bk_P B + 1 : Nat) : Int) = DF z v9 x (bk_P B) L 0
  unfold DF; rw [if_pos rfl]; omega
theorem p_join (hL : LK b n f I P M H Y Z B NT SB z kp nt nl bf) (hb : b ≤ b' ∧ b' ≤ 800000) {v : Int} (b_v : -2147483648 ≤ v ∧ v < 2147483648) : PR G 11 mX7_join mX8_join [.int (jI v)] [eI, eS] b' n (cl_f (rf_f f th z kp H.1 nt nl P.2.2.1 P.2.2.2.1 P.2.1 I.1 bf rs rr rq rp mm ln lo lf lt co ro pg pf hsh) I P M H Y Z) := by
  have hw := hL.w hb
  have hP := hL.P0
  have hB := hL.2.1.1
  by_cases c1 : v < 0 ∨ bk_P B ≤ v
  · exact pr_x (i := 0) rfl rfl (x_join0 hL.ok b_v c1) (fun f' => r_join1 hL.rf b_v (by omega)) hw
  by_cases c2 : v + 1 = bk_P B
  · exact pr_x (i := 0) rfl rfl (x_join1 hL.ok c2) (fun f' => r_join1 hL.rf b_v (by omega)) hw
  obtain ⟨v9, rfl⟩ : ∃ k : Nat, v = k := ⟨v.toNat, by omega⟩
  have hv9 : v9 + 1 < bk_P B := by omega
  have hfw := fw_d (B := B) (p := v9) (by omega)
  have hfw2 := fw_d (B := B) (p := v9 + 1) hv9
  rw [show ((v9 + 1 : Nat) : Int) = (v9 : Int) + 1 by omega] at hfw2
  have hwo := wo_eq hB nt (p := v9) (by omega)
  have hwo2 := wo_eq hB nt (p := v9 + 1) hv9
  rw [show ((v9 + 1 : Nat) : Int) = (v9 : Int) + 1 by omega] at hwo2
  have h10 := hB.2.2.1.1
  by_cases c3 : 24 < bk_fr B (v9 + 2) - bk_fr B v9
  · have e2 : bk_fr B (v9 + 1 + 1) = bk_fr B (v9 + 2) := rfl
    exact pr_x (i := 1) rfl rfl (x_join2 hL.ok (by omega) (by rw [hfw, hfw2]; omega)) (fun f' => r_join2 hL.rf (by omega) (by rw [hwo, hwo2]; omega)) hw
  have e2 : bk_fr B (v9 + 1 + 1) = bk_fr B (v9 + 2) := rfl
  have hRX := rx_rb hB hL.2.1.2.1.1
  have hle := hL.le (p := v9) (by omega)
  have hle2 := hL.le (p := v9 + 1) hv9
  have e86 : 85 + (v9 + 1) = 86 + v9 := by omega
  rw [e86] at hle2
  obtain ⟨L, hL'⟩ : ∃ L : Nat, z (85 + v9) = L := ⟨(z (85 + v9)).toNat, by omega⟩
  obtain ⟨K, hK'⟩ : ∃ K : Nat, z (86 + v9) = K := ⟨(z (86 + v9)).toNat, by omega⟩
  have hlen := un_len hRX hv9 hL' hK' (by omega)
  have hM3 := hL.2.1.2.2.2.2.1.2
  have hM14 := hL.2.1.2.2.2.2.2.2.1.2
  obtain ⟨d1, d2, d3⟩ := UN_v (z := z) (q := v9) (P := bk_P B) (L := L) (K := K) hM3 hM14 hP h10.2 hv9 hL' hK' hlen
  have hR2 : RX (bk_join B v9) (rf_UN z v9) := rx_un hRX hv9 hL' hK' (by omega) d3
  have hX2 := bx_un hv9 hR2 hL.2.1.2.1
  have w8 : ∀ j, j < bk_P B - 1 → rf_UN z v9 (85 + j) = _ := fun j hj => (d3 (85 + j) (by omega)).trans (uf_8 h10.2 hv9 hj)
  have hM2 := mr_un hL.2.1.2.2.2 hv9 hL' hK' w8 d1
  have hZ2 := zx_un (P := bk_P B) (Q := bk_P B - 1) hL.2.1.2.2.1 h10.2 (by omega) hv9 hlen hM2 ⟨d1.1, d1.2.1⟩ d2 d3
  have hB2 := (rb_rx hR2).1
  have hS2 : SV (bk_join B v9) (rf_UN z v9) M := ⟨hB2, hX2, hZ2, hM2⟩
  have h41 := hL.1.2.2.2.2.2.2.2.2.1
  have k2 := (hr_k hL.2.2.2.2.2.2.1 h41.1 h41.2.2.1 hL.2.1 P.2.2.2.2.1).2
  have hwo9 := wo_eq hB2 nt (p := v9) (show v9 < bk_P B - 1 by omega)
  have hfw9 := fw_d (B := bk_join B v9) (p := v9) (show v9 < bk_P B - 1 by omega)
  have t1 : (85 + (v9 : Int) + 1).toNat = 86 + v9 := by omega
  exact pr_m (B' := bk_join B v9) (NT' := NT) (SB' := hi_SB H SB B) (P' := P) (P9 := fun b2 => (P.1, P.2.1, P.2.2.1, P.2.2.2.1, b2, 1)) (p9 := fun b2 g => bk_at (n + 3, g) b2 (bk_join B v9)) hL.1.1 (by omega) (by omega) (k_join hL.ok hv9 (by rw [hfw, hfw2]; omega) (rb_ok hB2 hX2).1) (fun _ => ⟨rfl, rfl, rfl⟩) (fun f' => jr_ed (jr_e (r_join hL.rf (by omega) (by rw [hwo, hwo2]; omega) (by rw [t85, t1]; omega) h41.1 rfl (zx_rz hB2 hZ2)) (hfw9.trans hwo9.symm)) k2) (fun g b2 hk hat => (hL.edi hb hk hat hS2 hw.2.2.2.2.2.2.2.1.1).1)
end PAIRS
