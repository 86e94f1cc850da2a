/-! ===== refresh, checks, properties ===== -/
def in_W (I : in_T) (v : Int) : in_T := (I.1, I.2.1, (in_FF I.1 I.2.1 v).2)
theorem in_whole_b (len : Int) (g : Nat → Int) (v : Int) : in_whole len g v = 0 ∨ in_whole len g v = 1 := by unfold in_whole; split <;> omega
def cl_pl (B : bk_T) (Y : ly_T) (p : Int) : Int := bk_ws B (ly_g Y.2.2.2.1 (Y.2.2.2.2.2 2) (bk_n B) (ly_g Y.2.2.2.2.1 (Y.2.2.2.2.2 9) Y.2.2.2.1 p))
def cl_fl (Y : ly_T) (p : Int) : Int := ly_g Y.2.2.2.2.1 (Y.2.2.2.2.2 9) Y.2.2.2.1 p
def cl_fwl (B : bk_T) (Y : ly_T) (l : Int) : Int := ly_g Y.2.2.2.1 (Y.2.2.2.2.2 2) (bk_n B) l
def cl_pgo (Y : ly_T) (l : Int) : Int := ly_g Y.2.2.2.1 (Y.2.2.2.2.2 8) (-1) l
def cl_at (B : bk_T) (Y : ly_T) (place : Int) : Int := ly_PA B Y.2.2.2.1 Y.2.2.2.2.2 place
def cl_np (Y : ly_T) (p : Int) : Int := ly_NP Y.2.2.2.1 (Y.2.2.2.2.2 7) (cl_fl Y p) (cl_fl Y (p + 1))
def cl_rw (Y : ly_T) (x y : Int) : Int := ly_RB Y.2.2.2.1 (Y.2.2.2.2.2 5) x y
def cl_rn (P : pg_T) (Y : ly_T) (x : Int) : Int := ly_RN P.2.1 (Y.2.2.2.2.2 1) x
def cl_th (B : bk_T) (M : mk_T) : Int := if 0 < (bk_m B : Int) - (bk_P B - 1) then (M.1 - bk_PA B M.1) * 1000 / ((bk_m B : Int) - (bk_P B - 1)) else 0
def cl_cnt (B : bk_T) (M : mk_T) (Y : ly_T) (e v : Int) : Int :=
  if v = 0 then bk_P B else if v = 1 then bk_n B else if v = 2 then (bk_m B : Int) - (bk_P B - 1) else if v = 3 then Y.2.2.2.1 else if v = 4 then Y.2.2.2.2.1 else if v = 5 then cl_at B Y M.1 else if v = 6 then bk_pos B M.1 else if v = 7 then M.2.2.1
  else if v = 8 then mk_ls M.2.2.1 M.2.2.2.2.1 M.2.2.2.2.2.1 M.2.2.1.toNat else if v = 9 then M.2.1 else if v = 10 then e else cl_th B M
def cl_pp (B : bk_T) (Y : ly_T) (p v : Int) : Int := if v = 0 then bk_kind B p else if v = 1 then bk_fw B (p + 1) - bk_fw B p else if v = 2 then bk_end B p - bk_start B p else if v = 3 then ly_lp Y.2.2.2.1 (Y.2.2.2.2.2 3) p Y.2.2.2.1.toNat else cl_at B Y (bk_start B p)
def cl_po (Y : ly_T) (l : Int) : Int := ly_g Y.2.2.2.1 (Y.2.2.2.2.2 3) (-1) l
def cl_col (B : bk_T) (Y : ly_T) (l : Int) : Int := ly_g Y.2.2.2.1 (Y.2.2.2.2.2 4) 0 l + wd_end (bk_m B) (bk_n B) (bk_s B) (cl_fwl B Y (l + 1) - 1) - bk_ws B (cl_fwl B Y l)
def cl_lnp (B : bk_T) (Y : ly_T) (l v : Int) : Int := if v = 0 then cl_po Y l else if v = 1 then cl_fwl B Y l - bk_fw B (cl_po Y l) else if v = 2 then cl_fwl B Y (l + 1) - cl_fwl B Y l else if v = 3 then cl_col B Y l else if v = 4 then cl_pgo Y l else cl_rw Y (cl_fl Y (cl_pgo Y l)) (l + 1) - 1
def cl_pgp (B : bk_T) (P : pg_T) (M : mk_T) (Y : ly_T) (p v : Int) : Int := if v = 0 then bk_pos B (cl_pl B Y p) else if v = 1 then (if p + 1 < Y.2.2.2.2.1 then bk_pos B (cl_pl B Y (p + 1)) else -1) else if v = 2 then cl_fl Y (p + 1) - cl_fl Y p else if v = 3 then cl_rw Y (cl_fl Y p) (cl_fl Y (p + 1)) else if v = 4 then cl_rn P Y (cl_np Y p) else if v = 5 then ly_bc (cl_np Y p) else mk_bt M.2.2.1 M.2.2.2.2.1 M.2.2.2.2.2.1 (cl_pl B Y p) (cl_pl B Y (p + 1)) M.2.2.1.toNat
def cl_fm (M : mk_T) (k : Int) : Int := mk_get M.2.2.1 M.2.2.2.2.1 k
def cl_to (M : mk_T) (k : Int) : Int := mk_get M.2.2.1 M.2.2.2.2.2.1 k
def cl_anp (B : bk_T) (M : mk_T) (Y : ly_T) (k v : Int) : Int := if v = 0 then bk_PA B (cl_fm M k) else if v = 1 then cl_fm M k - bk_start B (bk_PA B (cl_fm M k)) else if v = 2 then cl_to M k - bk_start B (bk_PA B (cl_fm M k)) else if v = 3 then mk_get M.2.2.1 M.2.2.2.2.2.2 k else if v = 4 then (if cl_fm M k = cl_to M k then 1 else 0) else (if cl_fm M k = cl_to M k then -1 else cl_at B Y (cl_fm M k))
theorem bk_PA_b (B : bk_T) (place : Int) (hk : bk_ok B) : 0 ≤ bk_PA B place ∧ bk_PA B place ≤ 9 := by
  have := bk_pa_b B place (bk_P B - 1)
  have := hk.2.1
  unfold bk_PA; omega
theorem bk_st_b {B : bk_T} (hk : bk_ok B) (p : Int) : 0 ≤ bk_start B p ∧ bk_start B p ≤ 10001 := bk_ws_b hk _
theorem bk_en_b {B : bk_T} (hk : bk_ok B) (p : Int) : -1 ≤ bk_end B p ∧ bk_end B p ≤ 10000 := by
  have := bk_ws_b hk (bk_fw B (p + 1))
  unfold bk_end; omega
section PG
variable {G : ji_G} {d n : Nat} {f : Nat → ji_C} {I : in_T} {P : pg_T} {M : mk_T} {H : hi_T} {Y Z : ly_T} {B : bk_T} {NT : nt_T} {SB : Nat → bk_T}

set_option maxHeartbeats 4000000 in
set_option maxRecDepth 100000 in
theorem k_refresh0 (hok : cl_ok n f I P M H Y Z B NT SB) (q : P.2.2.2.2.2 = 0) : JR G (d + 5) mX7_refresh [.ref 0] (n, cl_f f I P M H Y Z) 0 0 none (n, cl_f f I P M H Y Z) := by
  obtain ⟨c1, c2, c3, c4, c5, c6, c7, c8, c9, c10, c11, c12⟩ := id hok
  obtain ⟨⟨hm1, hm1'⟩, hm2, hm3, hmJ, hmF, hmT⟩ := id c8
  obtain ⟨hbat, hbok, hbne⟩ := id c6
  obtain ⟨bw, bkq, bfq, hb0, hb1, hb2, hbw, ⟨hbd, -, -⟩, -⟩ := id hbat
  obtain ⟨⟨hw1, hw2⟩, hh1, hh2⟩ := id c5
  refine ji_ent (by decide) rfl (Nat.le_of_ble_eq_true rfl) rfl ?_
  refine ji_aload_n dX7_refresh_0 rfl trivial ?_
  refine ji_get (ci := 7) (k := 10) rfl dX7_refresh_1 lX7_71 (by decide) (cl_0h) rfl ?_
  refine ji_if_eq (tgt := 31) dX7_refresh_4 rfl (by omega) (fun c4 => ?_) (fun c4 => absurd c4 (by omega))
  exact ji_return dX7_refresh_31 rfl ⟨rfl, rfl⟩

set_option maxHeartbeats 4000000 in
set_option maxRecDepth 100000 in
theorem k_refresh1 (hok : cl_ok n f I P M H Y Z B NT SB) (q : P.2.2.2.2.2 = 1) : JR G (d + 5) mX7_refresh [.ref 0] (n, cl_f f I P M H Y Z) 0 0 none (n, cl_f f I (cl_RP P) M H (ly_Y P.2.2.2.2.1 B P.2.2.1 P.2.2.2.1 P.2.1 NT Y.2.2.2.2.2) Z) := by
  obtain ⟨c1, c2, c3, c4, c5, c6, c7, c8, c9, c10, c11, c12⟩ := id hok
  obtain ⟨⟨hm1, hm1'⟩, hm2, hm3, hmJ, hmF, hmT⟩ := id c8
  obtain ⟨hbat, hbok, hbne⟩ := id c6
  obtain ⟨bw, bkq, bfq, hb0, hb1, hb2, hbw, ⟨hbd, -, -⟩, -⟩ := id hbat
  obtain ⟨⟨hw1, hw2⟩, hh1, hh2⟩ := id c5
  refine ji_ent (by decide) rfl (Nat.le_of_ble_eq_true rfl) rfl ?_
  refine ji_aload_n dX7_refresh_0 rfl trivial ?_
  refine ji_get (ci := 7) (k := 10) rfl dX7_refresh_1 lX7_71 (by decide) (cl_0h) rfl ?_
  refine ji_if_eq (tgt := 31) dX7_refresh_4 rfl (by rw [q]; omega) (fun c4 => absurd c4 (by omega)) (fun c4 => ?_)
  refine ji_aload_n dX7_refresh_7 rfl trivial ?_
  refine ji_get (ci := 7) (k := 8) rfl dX7_refresh_8 lX7_64 (by decide) (cl_0h) rfl ?_
  refine ji_aload_n dX7_refresh_11 rfl trivial ?_
  refine ji_get (ci := 7) (k := 5) rfl dX7_refresh_12 lX7_41 (by decide) (cl_0h) rfl ?_
  refine ji_aload_n dX7_refresh_15 rfl trivial ?_
  refine ji_get (ci := 7) (k := 3) rfl dX7_refresh_16 lX7_26 (by decide) (cl_0h) rfl ?_
  refine ji_aload_n dX7_refresh_19 rfl trivial ?_
  refine ji_get (ci := 7) (k := 4) rfl dX7_refresh_20 lX7_30 (by decide) (cl_0h) rfl ?_
  refine ji_cVv dX7_refresh_23 (cl_jY (ly_Y P.2.2.2.2.1 B P.2.2.1 P.2.2.2.1 P.2.1 NT Y.2.2.2.2.2) (k_Layout_lay (cl_cx hok (by decide) rfl) c10.1 c10.2 (cl_nat hok) c3.2 (by show 0 ≤ P.2.2.1 ∧ P.2.2.1 ≤ 1000; omega) (by show 0 ≤ P.2.2.2.1 ∧ P.2.2.2.1 ≤ 1000; omega))) rfl (cl_40h) rfl rfl wX3_lay vX3_lay lX7_345 rfl (Nat.le_of_ble_eq_true rfl) rfl ?_
  refine ji_aload_n dX7_refresh_26 rfl trivial ?_
  refine ji_iconst dX7_refresh_27 ?_
  refine ji_putE (ci := 7) (k := 10) rfl dX7_refresh_28 lX7_71 (by decide) (cl_0h) (by simp [cl_c0]) (ji_fitZ (by first | omega | decide)) rfl (cl_ps) ?_
  exact ji_return dX7_refresh_31 rfl ⟨rfl, rfl⟩

theorem k_refresh (hok : cl_ok n f I P M H Y Z B NT SB) : JR G (d + 5) mX7_refresh [.ref 0] (n, cl_f f I P M H Y Z) 0 0 none (n, cl_f f I (cl_RP P) M H (cl_RY P Y B NT) Z) := by
  rcases hok.2.2.2.2.2.2.1 with q | q
  · have e1 : cl_RP P = P := by
      obtain ⟨x1, x2, x3, x4, x5, x6⟩ := P
      cases (show x6 = 0 from q)
      rfl
    have e2 : cl_RY P Y B NT = Y := if_pos q
    rw [e1, e2]; exact k_refresh0 hok q
  · have e2 : cl_RY P Y B NT = ly_Y P.2.2.2.2.1 B P.2.2.1 P.2.2.2.1 P.2.1 NT Y.2.2.2.2.2 := if_neg (by omega)
    rw [e2]; exact k_refresh1 hok q
set_option maxHeartbeats 4000000 in
set_option maxRecDepth 100000 in
theorem x_checkWordList (hok : cl_ok n f I P M H Y Z B NT SB) (hx : in_whole I.1 I.2.1 0 = 0) : JX G (d + 6) mX7_checkWordList [.ref 0] (n, cl_f f I P M H Y Z) 1 6 eS (n, cl_f f (in_W I 0) P M H Y Z) := by
  obtain ⟨c1, c2, c3, c4, c5, c6, c7, c8, c9, c10, c11, c12⟩ := id hok
  obtain ⟨⟨hm1, hm1'⟩, hm2, hm3, hmJ, hmF, hmT⟩ := id c8
  obtain ⟨hbat, hbok, hbne⟩ := id c6
  obtain ⟨bw, bkq, bfq, hb0, hb1, hb2, hbw, ⟨hbd, -, -⟩, -⟩ := id hbat
  obtain ⟨⟨hw1, hw2⟩, hh1, hh2⟩ := id c5
  refine ji_ent (by decide) rfl (Nat.le_of_ble_eq_true rfl) rfl ?_
  refine ji_aload_n dX7_checkWordList_0 rfl trivial ?_
  refine ji_get (ci := 7) (k := 0) rfl dX7_checkWordList_1 lX7_12 (by decide) (cl_0h) rfl ?_
  refine ji_iconst dX7_checkWordList_4 ?_
  refine ji_cV dX7_checkWordList_5 (cl_jI (in_W I 0) (k_Input_isWhole (Or.inl rfl) c2)) rfl (cl_1h) rfl rfl wX2_isWhole vX2_isWhole lX7_106 rfl (Nat.le_of_ble_eq_true rfl) rfl ?_
  refine ji_if_ne (tgt := 22) dX7_checkWordList_8 rfl (by omega) (fun c8 => ?_) (fun c8 => ?_)
  · try (exfalso; omega)
    all_goals
      exact ji_return dX7_checkWordList_22 rfl ⟨rfl, rfl⟩
  · try (exfalso; omega)
    all_goals
      exact ji_throwW (text := "the buffer is not a word list") ji_thrS rfl (by decide) rfl dX7_checkWordList_11 dX7_checkWordList_14 dX7_checkWordList_15 dX7_checkWordList_18 dX7_checkWordList_21 (by omega) (by omega) (Nat.le_of_ble_eq_true rfl) ⟨rfl, rfl⟩

set_option maxHeartbeats 4000000 in
set_option maxRecDepth 100000 in
theorem k_checkWordList (hok : cl_ok n f I P M H Y Z B NT SB) (hx : in_whole I.1 I.2.1 0 = 1) : JR G (d + 5) mX7_checkWordList [.ref 0] (n, cl_f f I P M H Y Z) 0 0 none (n, cl_f f (in_W I 0) P M H Y Z) := by
  obtain ⟨c1, c2, c3, c4, c5, c6, c7, c8, c9, c10, c11, c12⟩ := id hok
  obtain ⟨⟨hm1, hm1'⟩, hm2, hm3, hmJ, hmF, hmT⟩ := id c8
  obtain ⟨hbat, hbok, hbne⟩ := id c6
  obtain ⟨bw, bkq, bfq, hb0, hb1, hb2, hbw, ⟨hbd, -, -⟩, -⟩ := id hbat
  obtain ⟨⟨hw1, hw2⟩, hh1, hh2⟩ := id c5
  refine ji_ent (by decide) rfl (Nat.le_of_ble_eq_true rfl) rfl ?_
  refine ji_aload_n dX7_checkWordList_0 rfl trivial ?_
  refine ji_get (ci := 7) (k := 0) rfl dX7_checkWordList_1 lX7_12 (by decide) (cl_0h) rfl ?_
  refine ji_iconst dX7_checkWordList_4 ?_
  refine ji_cV dX7_checkWordList_5 (cl_jI (in_W I 0) (k_Input_isWhole (Or.inl rfl) c2)) rfl (cl_1h) rfl rfl wX2_isWhole vX2_isWhole lX7_106 rfl (Nat.le_of_ble_eq_true rfl) rfl ?_
  refine ji_if_ne (tgt := 22) dX7_checkWordList_8 rfl (by omega) (fun c8 => ?_) (fun c8 => ?_)
  · try (exfalso; omega)
    all_goals
      exact ji_return dX7_checkWordList_22 rfl ⟨rfl, rfl⟩
  · try (exfalso; omega)
    all_goals
      exact ji_throwW (text := "the buffer is not a word list") ji_thrS rfl (by decide) rfl dX7_checkWordList_11 dX7_checkWordList_14 dX7_checkWordList_15 dX7_checkWordList_18 dX7_checkWordList_21 (by omega) (by omega) (Nat.le_of_ble_eq_true rfl) ⟨rfl, rfl⟩

set_option maxHeartbeats 4000000 in
set_option maxRecDepth 100000 in
theorem x_checkPage (hok : cl_ok n f I P M H Y Z B NT SB) (hfr : cl_fr P Y B NT) {v : Int} (b_v : -2147483648 ≤ v ∧ v < 2147483648) (hx : v < 0 ∨ Y.2.2.2.2.1 ≤ v) : JX G (d + 6) mX7_checkPage [.ref 0, .int (jI (v))] (n, cl_f f I P M H Y Z) 1 6 eI (n, cl_f f I P M H Y Z) := by
  obtain ⟨c1, c2, c3, c4, c5, c6, c7, c8, c9, c10, c11, c12⟩ := id hok
  obtain ⟨⟨hm1, hm1'⟩, hm2, hm3, hmJ, hmF, hmT⟩ := id c8
  obtain ⟨hbat, hbok, hbne⟩ := id c6
  obtain ⟨bw, bkq, bfq, hb0, hb1, hb2, hbw, ⟨hbd, -, -⟩, -⟩ := id hbat
  obtain ⟨⟨hw1, hw2⟩, hh1, hh2⟩ := id c5
  obtain ⟨⟨hl1, hl2⟩, ⟨hp1, hp2⟩, hy1, hy2, hy3⟩ := id (cl_fr_b hok hfr)
  have hcx : ∀ {I' : in_T} {M' : mk_T} {H' : hi_T} {Y' Z' : ly_T}, ly_cx n (cl_f f I' P M' H' Y' Z') 40 Y.1 B P.2.1 := by rw [hy1]; exact cl_cx hok (by decide) rfl
  obtain ⟨hA0, hN, h3, h5, h7, h89⟩ := id c10.1
  have hl : 0 ≤ Y.2.2.2.1 ∧ Y.2.2.2.1 ≤ 240 := by omega
  have hp : 0 ≤ Y.2.2.2.2.1 ∧ Y.2.2.2.2.1 ≤ 240 := by omega
  refine ji_ent (by decide) rfl (Nat.le_of_ble_eq_true rfl) rfl ?_
  refine ji_iload_n dX7_checkPage_0 rfl ?_
  refine ji_if_lt (tgt := 15) dX7_checkPage_1 rfl (by omega) (fun c1 => ?_) (fun c1 => ?_)
  · try (exfalso; omega)
    all_goals
      exact ji_throwW (text := "the page does not exist") ji_thrI rfl (by decide) rfl dX7_checkPage_15 dX7_checkPage_18 dX7_checkPage_19 dX7_checkPage_22 dX7_checkPage_25 (by omega) (by omega) (Nat.le_of_ble_eq_true rfl) ⟨rfl, rfl⟩
  · try (exfalso; omega)
    all_goals
      refine ji_iload_n dX7_checkPage_4 rfl ?_
      refine ji_aload_n dX7_checkPage_5 rfl trivial ?_
      refine ji_get (ci := 7) (k := 8) rfl dX7_checkPage_6 lX7_64 (by decide) (cl_0h) rfl ?_
      refine ji_cV dX7_checkPage_9 (cl_jYs (k_Layout_pages hcx hA0 hl)) rfl (cl_40h) rfl rfl wX3_pages vX3_pages lX7_149 rfl (Nat.le_of_ble_eq_true rfl) rfl ?_
      refine ji_icmp_lt (tgt := 26) dX7_checkPage_12 rfl (by omega) (by omega) (fun c12 => ?_) (fun c12 => ?_)
      · try (exfalso; omega)
        all_goals
          exact ji_return dX7_checkPage_26 rfl ⟨rfl, rfl⟩
      · try (exfalso; omega)
        all_goals
          exact ji_throwW (text := "the page does not exist") ji_thrI rfl (by decide) rfl dX7_checkPage_15 dX7_checkPage_18 dX7_checkPage_19 dX7_checkPage_22 dX7_checkPage_25 (by omega) (by omega) (Nat.le_of_ble_eq_true rfl) ⟨rfl, rfl⟩

set_option maxHeartbeats 4000000 in
set_option maxRecDepth 100000 in
theorem k_checkPage (hok : cl_ok n f I P M H Y Z B NT SB) (hfr : cl_fr P Y B NT) {v : Int} (b_v : -2147483648 ≤ v ∧ v < 2147483648) (hx : 0 ≤ v ∧ v < Y.2.2.2.2.1) : JR G (d + 1) mX7_checkPage [.ref 0, .int (jI (v))] (n, cl_f f I P M H Y Z) 0 0 none (n, cl_f f I P M H Y Z) := by
  obtain ⟨c1, c2, c3, c4, c5, c6, c7, c8, c9, c10, c11, c12⟩ := id hok
  obtain ⟨⟨hm1, hm1'⟩, hm2, hm3, hmJ, hmF, hmT⟩ := id c8
  obtain ⟨hbat, hbok, hbne⟩ := id c6
  obtain ⟨bw, bkq, bfq, hb0, hb1, hb2, hbw, ⟨hbd, -, -⟩, -⟩ := id hbat
  obtain ⟨⟨hw1, hw2⟩, hh1, hh2⟩ := id c5
  obtain ⟨⟨hl1, hl2⟩, ⟨hp1, hp2⟩, hy1, hy2, hy3⟩ := id (cl_fr_b hok hfr)
  have hcx : ∀ {I' : in_T} {M' : mk_T} {H' : hi_T} {Y' Z' : ly_T}, ly_cx n (cl_f f I' P M' H' Y' Z') 40 Y.1 B P.2.1 := by rw [hy1]; exact cl_cx hok (by decide) rfl
  obtain ⟨hA0, hN, h3, h5, h7, h89⟩ := id c10.1
  have hl : 0 ≤ Y.2.2.2.1 ∧ Y.2.2.2.1 ≤ 240 := by omega
  have hp : 0 ≤ Y.2.2.2.2.1 ∧ Y.2.2.2.2.1 ≤ 240 := by omega
  refine ji_ent (by decide) rfl (Nat.le_of_ble_eq_true rfl) rfl ?_
  refine ji_iload_n dX7_checkPage_0 rfl ?_
  refine ji_if_lt (tgt := 15) dX7_checkPage_1 rfl (by omega) (fun c1 => ?_) (fun c1 => ?_)
  · try (exfalso; omega)
    all_goals
      exact ji_throwW (text := "the page does not exist") ji_thrI rfl (by decide) rfl dX7_checkPage_15 dX7_checkPage_18 dX7_checkPage_19 dX7_checkPage_22 dX7_checkPage_25 (by omega) (by omega) (Nat.le_of_ble_eq_true rfl) ⟨rfl, rfl⟩
  · try (exfalso; omega)
    all_goals
      refine ji_iload_n dX7_checkPage_4 rfl ?_
      refine ji_aload_n dX7_checkPage_5 rfl trivial ?_
      refine ji_get (ci := 7) (k := 8) rfl dX7_checkPage_6 lX7_64 (by decide) (cl_0h) rfl ?_
      refine ji_cV dX7_checkPage_9 (cl_jYs (k_Layout_pages hcx hA0 hl)) rfl (cl_40h) rfl rfl wX3_pages vX3_pages lX7_149 rfl (Nat.le_of_ble_eq_true rfl) rfl ?_
      refine ji_icmp_lt (tgt := 26) dX7_checkPage_12 rfl (by omega) (by omega) (fun c12 => ?_) (fun c12 => ?_)
      · try (exfalso; omega)
        all_goals
          exact ji_return dX7_checkPage_26 rfl ⟨rfl, rfl⟩
      · try (exfalso; omega)
        all_goals
          exact ji_throwW (text := "the page does not exist") ji_thrI rfl (by decide) rfl dX7_checkPage_15 dX7_checkPage_18 dX7_checkPage_19 dX7_checkPage_22 dX7_checkPage_25 (by omega) (by omega) (Nat.le_of_ble_eq_true rfl) ⟨rfl, rfl⟩

set_option maxHeartbeats 4000000 in
set_option maxRecDepth 100000 in
theorem x_checkLine (hok : cl_ok n f I P M H Y Z B NT SB) (hfr : cl_fr P Y B NT) {v : Int} (b_v : -2147483648 ≤ v ∧ v < 2147483648) (hx : v < 0 ∨ Y.2.2.2.1 ≤ v) : JX G (d + 6) mX7_checkLine [.ref 0, .int (jI (v))] (n, cl_f f I P M H Y Z) 1 6 eI (n, cl_f f I P M H Y Z) := by
  obtain ⟨c1, c2, c3, c4, c5, c6, c7, c8, c9, c10, c11, c12⟩ := id hok
  obtain ⟨⟨hm1, hm1'⟩, hm2, hm3, hmJ, hmF, hmT⟩ := id c8
  obtain ⟨hbat, hbok, hbne⟩ := id c6
  obtain ⟨bw, bkq, bfq, hb0, hb1, hb2, hbw, ⟨hbd, -, -⟩, -⟩ := id hbat
  obtain ⟨⟨hw1, hw2⟩, hh1, hh2⟩ := id c5
  obtain ⟨⟨hl1, hl2⟩, ⟨hp1, hp2⟩, hy1, hy2, hy3⟩ := id (cl_fr_b hok hfr)
  have hcx : ∀ {I' : in_T} {M' : mk_T} {H' : hi_T} {Y' Z' : ly_T}, ly_cx n (cl_f f I' P M' H' Y' Z') 40 Y.1 B P.2.1 := by rw [hy1]; exact cl_cx hok (by decide) rfl
  obtain ⟨hA0, hN, h3, h5, h7, h89⟩ := id c10.1
  have hl : 0 ≤ Y.2.2.2.1 ∧ Y.2.2.2.1 ≤ 240 := by omega
  have hp : 0 ≤ Y.2.2.2.2.1 ∧ Y.2.2.2.2.1 ≤ 240 := by omega
  refine ji_ent (by decide) rfl (Nat.le_of_ble_eq_true rfl) rfl ?_
  refine ji_iload_n dX7_checkLine_0 rfl ?_
  refine ji_if_lt (tgt := 15) dX7_checkLine_1 rfl (by omega) (fun c1 => ?_) (fun c1 => ?_)
  · try (exfalso; omega)
    all_goals
      exact ji_throwW (text := "the line does not exist") ji_thrI rfl (by decide) rfl dX7_checkLine_15 dX7_checkLine_18 dX7_checkLine_19 dX7_checkLine_22 dX7_checkLine_25 (by omega) (by omega) (Nat.le_of_ble_eq_true rfl) ⟨rfl, rfl⟩
  · try (exfalso; omega)
    all_goals
      refine ji_iload_n dX7_checkLine_4 rfl ?_
      refine ji_aload_n dX7_checkLine_5 rfl trivial ?_
      refine ji_get (ci := 7) (k := 8) rfl dX7_checkLine_6 lX7_64 (by decide) (cl_0h) rfl ?_
      refine ji_cV dX7_checkLine_9 (cl_jYs (k_Layout_lines hcx hA0 hl)) rfl (cl_40h) rfl rfl wX3_lines vX3_lines lX7_349 rfl (Nat.le_of_ble_eq_true rfl) rfl ?_
      refine ji_icmp_lt (tgt := 26) dX7_checkLine_12 rfl (by omega) (by omega) (fun c12 => ?_) (fun c12 => ?_)
      · try (exfalso; omega)
        all_goals
          exact ji_return dX7_checkLine_26 rfl ⟨rfl, rfl⟩
      · try (exfalso; omega)
        all_goals
          exact ji_throwW (text := "the line does not exist") ji_thrI rfl (by decide) rfl dX7_checkLine_15 dX7_checkLine_18 dX7_checkLine_19 dX7_checkLine_22 dX7_checkLine_25 (by omega) (by omega) (Nat.le_of_ble_eq_true rfl) ⟨rfl, rfl⟩

set_option maxHeartbeats 4000000 in
set_option maxRecDepth 100000 in
theorem k_checkLine (hok : cl_ok n f I P M H Y Z B NT SB) (hfr : cl_fr P Y B NT) {v : Int} (b_v : -2147483648 ≤ v ∧ v < 2147483648) (hx : 0 ≤ v ∧ v < Y.2.2.2.1) : JR G (d + 1) mX7_checkLine [.ref 0, .int (jI (v))] (n, cl_f f I P M H Y Z) 0 0 none (n, cl_f f I P M H Y Z) := by
  obtain ⟨c1, c2, c3, c4, c5, c6, c7, c8, c9, c10, c11, c12⟩ := id hok
  obtain ⟨⟨hm1, hm1'⟩, hm2, hm3, hmJ, hmF, hmT⟩ := id c8
  obtain ⟨hbat, hbok, hbne⟩ := id c6
  obtain ⟨bw, bkq, bfq, hb0, hb1, hb2, hbw, ⟨hbd, -, -⟩, -⟩ := id hbat
  obtain ⟨⟨hw1, hw2⟩, hh1, hh2⟩ := id c5
  obtain ⟨⟨hl1, hl2⟩, ⟨hp1, hp2⟩, hy1, hy2, hy3⟩ := id (cl_fr_b hok hfr)
  have hcx : ∀ {I' : in_T} {M' : mk_T} {H' : hi_T} {Y' Z' : ly_T}, ly_cx n (cl_f f I' P M' H' Y' Z') 40 Y.1 B P.2.1 := by rw [hy1]; exact cl_cx hok (by decide) rfl
  obtain ⟨hA0, hN, h3, h5, h7, h89⟩ := id c10.1
  have hl : 0 ≤ Y.2.2.2.1 ∧ Y.2.2.2.1 ≤ 240 := by omega
  have hp : 0 ≤ Y.2.2.2.2.1 ∧ Y.2.2.2.2.1 ≤ 240 := by omega
  refine ji_ent (by decide) rfl (Nat.le_of_ble_eq_true rfl) rfl ?_
  refine ji_iload_n dX7_checkLine_0 rfl ?_
  refine ji_if_lt (tgt := 15) dX7_checkLine_1 rfl (by omega) (fun c1 => ?_) (fun c1 => ?_)
  · try (exfalso; omega)
    all_goals
      exact ji_throwW (text := "the line does not exist") ji_thrI rfl (by decide) rfl dX7_checkLine_15 dX7_checkLine_18 dX7_checkLine_19 dX7_checkLine_22 dX7_checkLine_25 (by omega) (by omega) (Nat.le_of_ble_eq_true rfl) ⟨rfl, rfl⟩
  · try (exfalso; omega)
    all_goals
      refine ji_iload_n dX7_checkLine_4 rfl ?_
      refine ji_aload_n dX7_checkLine_5 rfl trivial ?_
      refine ji_get (ci := 7) (k := 8) rfl dX7_checkLine_6 lX7_64 (by decide) (cl_0h) rfl ?_
      refine ji_cV dX7_checkLine_9 (cl_jYs (k_Layout_lines hcx hA0 hl)) rfl (cl_40h) rfl rfl wX3_lines vX3_lines lX7_349 rfl (Nat.le_of_ble_eq_true rfl) rfl ?_
      refine ji_icmp_lt (tgt := 26) dX7_checkLine_12 rfl (by omega) (by omega) (fun c12 => ?_) (fun c12 => ?_)
      · try (exfalso; omega)
        all_goals
          exact ji_return dX7_checkLine_26 rfl ⟨rfl, rfl⟩
      · try (exfalso; omega)
        all_goals
          exact ji_throwW (text := "the line does not exist") ji_thrI rfl (by decide) rfl dX7_checkLine_15 dX7_checkLine_18 dX7_checkLine_19 dX7_checkLine_22 dX7_checkLine_25 (by omega) (by omega) (Nat.le_of_ble_eq_true rfl) ⟨rfl, rfl⟩

set_option maxHeartbeats 4000000 in
set_option maxRecDepth 100000 in
theorem x_checkParagraph (hok : cl_ok n f I P M H Y Z B NT SB) {v : Int} (b_v : -2147483648 ≤ v ∧ v < 2147483648) (hx : v < 0 ∨ bk_P B ≤ v) : JX G (d + 6) mX7_checkParagraph [.ref 0, .int (jI (v))] (n, cl_f f I P M H Y Z) 1 6 eI (n, cl_f f I P M H Y Z) := by
  obtain ⟨c1, c2, c3, c4, c5, c6, c7, c8, c9, c10, c11, c12⟩ := id hok
  obtain ⟨⟨hm1, hm1'⟩, hm2, hm3, hmJ, hmF, hmT⟩ := id c8
  obtain ⟨hbat, hbok, hbne⟩ := id c6
  obtain ⟨bw, bkq, bfq, hb0, hb1, hb2, hbw, ⟨hbd, -, -⟩, -⟩ := id hbat
  obtain ⟨⟨hw1, hw2⟩, hh1, hh2⟩ := id c5
  have hP10 := hbok.2.1
  refine ji_ent (by decide) rfl (Nat.le_of_ble_eq_true rfl) rfl ?_
  refine ji_iload_n dX7_checkParagraph_0 rfl ?_
  refine ji_if_lt (tgt := 15) dX7_checkParagraph_1 rfl (by omega) (fun c1 => ?_) (fun c1 => ?_)
  · try (exfalso; omega)
    all_goals
      exact ji_throwW (text := "the paragraph does not exist") ji_thrI rfl (by decide) rfl dX7_checkParagraph_15 dX7_checkParagraph_18 dX7_checkParagraph_19 dX7_checkParagraph_22 dX7_checkParagraph_25 (by omega) (by omega) (Nat.le_of_ble_eq_true rfl) ⟨rfl, rfl⟩
  · try (exfalso; omega)
    all_goals
      refine ji_iload_n dX7_checkParagraph_4 rfl ?_
      refine ji_aload_n dX7_checkParagraph_5 rfl trivial ?_
      refine ji_get (ci := 7) (k := 5) rfl dX7_checkParagraph_6 lX7_41 (by decide) (cl_0h) rfl ?_
      refine ji_cV dX7_checkParagraph_9 (k_Book_paragraphs (hbat.kept cl_kf) hbok) rfl ((cl_dh hbd).trans hb0) rfl rfl wX0_paragraphs vX0_paragraphs lX7_122 rfl (Nat.le_of_ble_eq_true rfl) rfl ?_
      refine ji_icmp_lt (tgt := 26) dX7_checkParagraph_12 rfl (by omega) (by omega) (fun c12 => ?_) (fun c12 => ?_)
      · try (exfalso; omega)
        all_goals
          exact ji_return dX7_checkParagraph_26 rfl ⟨rfl, rfl⟩
      · try (exfalso; omega)
        all_goals
          exact ji_throwW (text := "the paragraph does not exist") ji_thrI rfl (by decide) rfl dX7_checkParagraph_15 dX7_checkParagraph_18 dX7_checkParagraph_19 dX7_checkParagraph_22 dX7_checkParagraph_25 (by omega) (by omega) (Nat.le_of_ble_eq_true rfl) ⟨rfl, rfl⟩

set_option maxHeartbeats 4000000 in
set_option maxRecDepth 100000 in
theorem k_checkParagraph (hok : cl_ok n f I P M H Y Z B NT SB) {v : Int} (b_v : -2147483648 ≤ v ∧ v < 2147483648) (hx : 0 ≤ v ∧ v < bk_P B) : JR G (d + 1) mX7_checkParagraph [.ref 0, .int (jI (v))] (n, cl_f f I P M H Y Z) 0 0 none (n, cl_f f I P M H Y Z) := by
  obtain ⟨c1, c2, c3, c4, c5, c6, c7, c8, c9, c10, c11, c12⟩ := id hok
  obtain ⟨⟨hm1, hm1'⟩, hm2, hm3, hmJ, hmF, hmT⟩ := id c8
  obtain ⟨hbat, hbok, hbne⟩ := id c6
  obtain ⟨bw, bkq, bfq, hb0, hb1, hb2, hbw, ⟨hbd, -, -⟩, -⟩ := id hbat
  obtain ⟨⟨hw1, hw2⟩, hh1, hh2⟩ := id c5
  have hP10 := hbok.2.1
  refine ji_ent (by decide) rfl (Nat.le_of_ble_eq_true rfl) rfl ?_
  refine ji_iload_n dX7_checkParagraph_0 rfl ?_
  refine ji_if_lt (tgt := 15) dX7_checkParagraph_1 rfl (by omega) (fun c1 => ?_) (fun c1 => ?_)
  · try (exfalso; omega)
    all_goals
      exact ji_throwW (text := "the paragraph does not exist") ji_thrI rfl (by decide) rfl dX7_checkParagraph_15 dX7_checkParagraph_18 dX7_checkParagraph_19 dX7_checkParagraph_22 dX7_checkParagraph_25 (by omega) (by omega) (Nat.le_of_ble_eq_true rfl) ⟨rfl, rfl⟩
  · try (exfalso; omega)
    all_goals
      refine ji_iload_n dX7_checkParagraph_4 rfl ?_
      refine ji_aload_n dX7_checkParagraph_5 rfl trivial ?_
      refine ji_get (ci := 7) (k := 5) rfl dX7_checkParagraph_6 lX7_41 (by decide) (cl_0h) rfl ?_
      refine ji_cV dX7_checkParagraph_9 (k_Book_paragraphs (hbat.kept cl_kf) hbok) rfl ((cl_dh hbd).trans hb0) rfl rfl wX0_paragraphs vX0_paragraphs lX7_122 rfl (Nat.le_of_ble_eq_true rfl) rfl ?_
      refine ji_icmp_lt (tgt := 26) dX7_checkParagraph_12 rfl (by omega) (by omega) (fun c12 => ?_) (fun c12 => ?_)
      · try (exfalso; omega)
        all_goals
          exact ji_return dX7_checkParagraph_26 rfl ⟨rfl, rfl⟩
      · try (exfalso; omega)
        all_goals
          exact ji_throwW (text := "the paragraph does not exist") ji_thrI rfl (by decide) rfl dX7_checkParagraph_15 dX7_checkParagraph_18 dX7_checkParagraph_19 dX7_checkParagraph_22 dX7_checkParagraph_25 (by omega) (by omega) (Nat.le_of_ble_eq_true rfl) ⟨rfl, rfl⟩

set_option maxHeartbeats 4000000 in
set_option maxRecDepth 100000 in
theorem x_checkAnnotation (hok : cl_ok n f I P M H Y Z B NT SB) {v : Int} (b_v : -2147483648 ≤ v ∧ v < 2147483648) (hx : v < 0 ∨ M.2.2.1 ≤ v) : JX G (d + 6) mX7_checkAnnotation [.ref 0, .int (jI (v))] (n, cl_f f I P M H Y Z) 1 6 eI (n, cl_f f I P M H Y Z) := by
  obtain ⟨c1, c2, c3, c4, c5, c6, c7, c8, c9, c10, c11, c12⟩ := id hok
  obtain ⟨⟨hm1, hm1'⟩, hm2, hm3, hmJ, hmF, hmT⟩ := id c8
  obtain ⟨hbat, hbok, hbne⟩ := id c6
  obtain ⟨bw, bkq, bfq, hb0, hb1, hb2, hbw, ⟨hbd, -, -⟩, -⟩ := id hbat
  obtain ⟨⟨hw1, hw2⟩, hh1, hh2⟩ := id c5
  have hP10 := hbok.2.1
  refine ji_ent (by decide) rfl (Nat.le_of_ble_eq_true rfl) rfl ?_
  refine ji_iload_n dX7_checkAnnotation_0 rfl ?_
  refine ji_if_lt (tgt := 15) dX7_checkAnnotation_1 rfl (by omega) (fun c1 => ?_) (fun c1 => ?_)
  · try (exfalso; omega)
    all_goals
      exact ji_throwW (text := "the annotation does not exist") ji_thrI rfl (by decide) rfl dX7_checkAnnotation_15 dX7_checkAnnotation_18 dX7_checkAnnotation_19 dX7_checkAnnotation_22 dX7_checkAnnotation_25 (by omega) (by omega) (Nat.le_of_ble_eq_true rfl) ⟨rfl, rfl⟩
  · try (exfalso; omega)
    all_goals
      refine ji_iload_n dX7_checkAnnotation_4 rfl ?_
      refine ji_aload_n dX7_checkAnnotation_5 rfl trivial ?_
      refine ji_get (ci := 7) (k := 6) rfl dX7_checkAnnotation_6 lX7_48 (by decide) (cl_0h) rfl ?_
      refine ji_cV dX7_checkAnnotation_9 (cl_jMs k_Marks_annotations) rfl (cl_12h) rfl rfl wX4_annotations vX4_annotations lX7_256 rfl (Nat.le_of_ble_eq_true rfl) rfl ?_
      refine ji_icmp_lt (tgt := 26) dX7_checkAnnotation_12 rfl (by omega) (by omega) (fun c12 => ?_) (fun c12 => ?_)
      · try (exfalso; omega)
        all_goals
          exact ji_return dX7_checkAnnotation_26 rfl ⟨rfl, rfl⟩
      · try (exfalso; omega)
        all_goals
          exact ji_throwW (text := "the annotation does not exist") ji_thrI rfl (by decide) rfl dX7_checkAnnotation_15 dX7_checkAnnotation_18 dX7_checkAnnotation_19 dX7_checkAnnotation_22 dX7_checkAnnotation_25 (by omega) (by omega) (Nat.le_of_ble_eq_true rfl) ⟨rfl, rfl⟩

set_option maxHeartbeats 4000000 in
set_option maxRecDepth 100000 in
theorem k_checkAnnotation (hok : cl_ok n f I P M H Y Z B NT SB) {v : Int} (b_v : -2147483648 ≤ v ∧ v < 2147483648) (hx : 0 ≤ v ∧ v < M.2.2.1) : JR G (d + 1) mX7_checkAnnotation [.ref 0, .int (jI (v))] (n, cl_f f I P M H Y Z) 0 0 none (n, cl_f f I P M H Y Z) := by
  obtain ⟨c1, c2, c3, c4, c5, c6, c7, c8, c9, c10, c11, c12⟩ := id hok
  obtain ⟨⟨hm1, hm1'⟩, hm2, hm3, hmJ, hmF, hmT⟩ := id c8
  obtain ⟨hbat, hbok, hbne⟩ := id c6
  obtain ⟨bw, bkq, bfq, hb0, hb1, hb2, hbw, ⟨hbd, -, -⟩, -⟩ := id hbat
  obtain ⟨⟨hw1, hw2⟩, hh1, hh2⟩ := id c5
  have hP10 := hbok.2.1
  refine ji_ent (by decide) rfl (Nat.le_of_ble_eq_true rfl) rfl ?_
  refine ji_iload_n dX7_checkAnnotation_0 rfl ?_
  refine ji_if_lt (tgt := 15) dX7_checkAnnotation_1 rfl (by omega) (fun c1 => ?_) (fun c1 => ?_)
  · try (exfalso; omega)
    all_goals
      exact ji_throwW (text := "the annotation does not exist") ji_thrI rfl (by decide) rfl dX7_checkAnnotation_15 dX7_checkAnnotation_18 dX7_checkAnnotation_19 dX7_checkAnnotation_22 dX7_checkAnnotation_25 (by omega) (by omega) (Nat.le_of_ble_eq_true rfl) ⟨rfl, rfl⟩
  · try (exfalso; omega)
    all_goals
      refine ji_iload_n dX7_checkAnnotation_4 rfl ?_
      refine ji_aload_n dX7_checkAnnotation_5 rfl trivial ?_
      refine ji_get (ci := 7) (k := 6) rfl dX7_checkAnnotation_6 lX7_48 (by decide) (cl_0h) rfl ?_
      refine ji_cV dX7_checkAnnotation_9 (cl_jMs k_Marks_annotations) rfl (cl_12h) rfl rfl wX4_annotations vX4_annotations lX7_256 rfl (Nat.le_of_ble_eq_true rfl) rfl ?_
      refine ji_icmp_lt (tgt := 26) dX7_checkAnnotation_12 rfl (by omega) (by omega) (fun c12 => ?_) (fun c12 => ?_)
      · try (exfalso; omega)
        all_goals
          exact ji_return dX7_checkAnnotation_26 rfl ⟨rfl, rfl⟩
      · try (exfalso; omega)
        all_goals
          exact ji_throwW (text := "the annotation does not exist") ji_thrI rfl (by decide) rfl dX7_checkAnnotation_15 dX7_checkAnnotation_18 dX7_checkAnnotation_19 dX7_checkAnnotation_22 dX7_checkAnnotation_25 (by omega) (by omega) (Nat.le_of_ble_eq_true rfl) ⟨rfl, rfl⟩

set_option maxHeartbeats 4000000 in
set_option maxRecDepth 100000 in
theorem x_checkOffset0 (hok : cl_ok n f I P M H Y Z B NT SB) {v o : Int} (b_v : -2147483648 ≤ v ∧ v < 2147483648) (hx : v < 0 ∨ bk_P B ≤ v) : JX G (d + 7) mX7_checkOffset [.ref 0, .int (jI (v)), .int (jI (o))] (n, cl_f f I P M H Y Z) 1 6 eI (n, cl_f f I P M H Y Z) := by
  obtain ⟨c1, c2, c3, c4, c5, c6, c7, c8, c9, c10, c11, c12⟩ := id hok
  obtain ⟨⟨hm1, hm1'⟩, hm2, hm3, hmJ, hmF, hmT⟩ := id c8
  obtain ⟨hbat, hbok, hbne⟩ := id c6
  obtain ⟨bw, bkq, bfq, hb0, hb1, hb2, hbw, ⟨hbd, -, -⟩, -⟩ := id hbat
  obtain ⟨⟨hw1, hw2⟩, hh1, hh2⟩ := id c5
  refine ji_ent (by decide) rfl (Nat.le_of_ble_eq_true rfl) rfl ?_
  refine ji_aload_n dX7_checkOffset_0 rfl trivial ?_
  refine ji_iload_n dX7_checkOffset_1 rfl ?_
  exact ji_cVx dX7_checkOffset_2 (x_checkParagraph hok b_v hx) rfl (cl_0h) rfl rfl wX7_checkParagraph vX7_checkParagraph lX7_241 rfl (Nat.le_of_ble_eq_true rfl) rfl (by omega) (by omega)

set_option maxHeartbeats 4000000 in
set_option maxRecDepth 100000 in
theorem x_checkOffset1 (hok : cl_ok n f I P M H Y Z B NT SB) {v o : Int} (b_v : -2147483648 ≤ v ∧ v < 2147483648) (b_o : -2147483648 ≤ o ∧ o < 2147483648) (hv : 0 ≤ v ∧ v < bk_P B) (hx : o < 0 ∨ bk_end B v - bk_start B v ≤ o) : JX G (d + 7) mX7_checkOffset [.ref 0, .int (jI (v)), .int (jI (o))] (n, cl_f f I P M H Y Z) 1 6 eI (n, cl_f f I P M H Y Z) := by
  obtain ⟨c1, c2, c3, c4, c5, c6, c7, c8, c9, c10, c11, c12⟩ := id hok
  obtain ⟨⟨hm1, hm1'⟩, hm2, hm3, hmJ, hmF, hmT⟩ := id c8
  obtain ⟨hbat, hbok, hbne⟩ := id c6
  obtain ⟨bw, bkq, bfq, hb0, hb1, hb2, hbw, ⟨hbd, -, -⟩, -⟩ := id hbat
  obtain ⟨⟨hw1, hw2⟩, hh1, hh2⟩ := id c5
  have hP10 := hbok.2.1
  have hbs := bk_st_b hbok v
  have hbe := bk_en_b hbok v
  refine ji_ent (by decide) rfl (Nat.le_of_ble_eq_true rfl) rfl ?_
  refine ji_aload_n dX7_checkOffset_0 rfl trivial ?_
  refine ji_iload_n dX7_checkOffset_1 rfl ?_
  refine ji_cVv dX7_checkOffset_2 (k_checkParagraph hok b_v hv) rfl (cl_0h) rfl rfl wX7_checkParagraph vX7_checkParagraph lX7_241 rfl (Nat.le_of_ble_eq_true rfl) rfl ?_
  refine ji_iload_n dX7_checkOffset_5 rfl ?_
  refine ji_if_lt (tgt := 21) dX7_checkOffset_6 rfl (by omega) (fun c6 => ?_) (fun c6 => ?_)
  · try (exfalso; omega)
    all_goals
      exact ji_throwW (text := "the text has no such offset") ji_thrI rfl (by decide) rfl dX7_checkOffset_21 dX7_checkOffset_24 dX7_checkOffset_25 dX7_checkOffset_28 dX7_checkOffset_31 (by omega) (by omega) (Nat.le_of_ble_eq_true rfl) ⟨rfl, rfl⟩
  · try (exfalso; omega)
    all_goals
      refine ji_iload_n dX7_checkOffset_9 rfl ?_
      refine ji_aload_n dX7_checkOffset_10 rfl trivial ?_
      refine ji_get (ci := 7) (k := 5) rfl dX7_checkOffset_11 lX7_41 (by decide) (cl_0h) rfl ?_
      refine ji_iload_n dX7_checkOffset_14 rfl ?_
      refine ji_cV dX7_checkOffset_15 (k_Book_lengthOf (hbat.kept cl_kf) hbok (by omega)) rfl ((cl_dh hbd).trans hb0) rfl rfl wX0_lengthOf vX0_lengthOf lX7_249 rfl (Nat.le_of_ble_eq_true rfl) rfl ?_
      refine ji_icmp_lt (tgt := 32) dX7_checkOffset_18 rfl (by omega) (by omega) (fun c18 => ?_) (fun c18 => ?_)
      · try (exfalso; omega)
        all_goals
          exact ji_return dX7_checkOffset_32 rfl ⟨rfl, rfl⟩
      · try (exfalso; omega)
        all_goals
          exact ji_throwW (text := "the text has no such offset") ji_thrI rfl (by decide) rfl dX7_checkOffset_21 dX7_checkOffset_24 dX7_checkOffset_25 dX7_checkOffset_28 dX7_checkOffset_31 (by omega) (by omega) (Nat.le_of_ble_eq_true rfl) ⟨rfl, rfl⟩

set_option maxHeartbeats 4000000 in
set_option maxRecDepth 100000 in
theorem k_checkOffset (hok : cl_ok n f I P M H Y Z B NT SB) {v o : Int} (b_v : -2147483648 ≤ v ∧ v < 2147483648) (b_o : -2147483648 ≤ o ∧ o < 2147483648) (hv : 0 ≤ v ∧ v < bk_P B) (hx : 0 ≤ o ∧ o < bk_end B v - bk_start B v) : JR G (d + 3) mX7_checkOffset [.ref 0, .int (jI (v)), .int (jI (o))] (n, cl_f f I P M H Y Z) 0 0 none (n, cl_f f I P M H Y Z) := by
  obtain ⟨c1, c2, c3, c4, c5, c6, c7, c8, c9, c10, c11, c12⟩ := id hok
  obtain ⟨⟨hm1, hm1'⟩, hm2, hm3, hmJ, hmF, hmT⟩ := id c8
  obtain ⟨hbat, hbok, hbne⟩ := id c6
  obtain ⟨bw, bkq, bfq, hb0, hb1, hb2, hbw, ⟨hbd, -, -⟩, -⟩ := id hbat
  obtain ⟨⟨hw1, hw2⟩, hh1, hh2⟩ := id c5
  have hP10 := hbok.2.1
  have hbs := bk_st_b hbok v
  have hbe := bk_en_b hbok v
  refine ji_ent (by decide) rfl (Nat.le_of_ble_eq_true rfl) rfl ?_
  refine ji_aload_n dX7_checkOffset_0 rfl trivial ?_
  refine ji_iload_n dX7_checkOffset_1 rfl ?_
  refine ji_cVv dX7_checkOffset_2 (k_checkParagraph hok b_v hv) rfl (cl_0h) rfl rfl wX7_checkParagraph vX7_checkParagraph lX7_241 rfl (Nat.le_of_ble_eq_true rfl) rfl ?_
  refine ji_iload_n dX7_checkOffset_5 rfl ?_
  refine ji_if_lt (tgt := 21) dX7_checkOffset_6 rfl (by omega) (fun c6 => ?_) (fun c6 => ?_)
  · try (exfalso; omega)
    all_goals
      exact ji_throwW (text := "the text has no such offset") ji_thrI rfl (by decide) rfl dX7_checkOffset_21 dX7_checkOffset_24 dX7_checkOffset_25 dX7_checkOffset_28 dX7_checkOffset_31 (by omega) (by omega) (Nat.le_of_ble_eq_true rfl) ⟨rfl, rfl⟩
  · try (exfalso; omega)
    all_goals
      refine ji_iload_n dX7_checkOffset_9 rfl ?_
      refine ji_aload_n dX7_checkOffset_10 rfl trivial ?_
      refine ji_get (ci := 7) (k := 5) rfl dX7_checkOffset_11 lX7_41 (by decide) (cl_0h) rfl ?_
      refine ji_iload_n dX7_checkOffset_14 rfl ?_
      refine ji_cV dX7_checkOffset_15 (k_Book_lengthOf (hbat.kept cl_kf) hbok (by omega)) rfl ((cl_dh hbd).trans hb0) rfl rfl wX0_lengthOf vX0_lengthOf lX7_249 rfl (Nat.le_of_ble_eq_true rfl) rfl ?_
      refine ji_icmp_lt (tgt := 32) dX7_checkOffset_18 rfl (by omega) (by omega) (fun c18 => ?_) (fun c18 => ?_)
      · try (exfalso; omega)
        all_goals
          exact ji_return dX7_checkOffset_32 rfl ⟨rfl, rfl⟩
      · try (exfalso; omega)
        all_goals
          exact ji_throwW (text := "the text has no such offset") ji_thrI rfl (by decide) rfl dX7_checkOffset_21 dX7_checkOffset_24 dX7_checkOffset_25 dX7_checkOffset_28 dX7_checkOffset_31 (by omega) (by omega) (Nat.le_of_ble_eq_true rfl) ⟨rfl, rfl⟩

set_option maxHeartbeats 4000000 in
set_option maxRecDepth 100000 in
theorem k_presentPage (hok : cl_ok n f I P M H Y Z B NT SB) (hfr : cl_fr P Y B NT) : JR G (d + 3) mX7_presentPage [.ref 0] (n, cl_f f I P M H Y Z) 0 0 (some (.int (jI (cl_at B Y M.1)))) (n, cl_f f I P M H Y Z) := by
  obtain ⟨c1, c2, c3, c4, c5, c6, c7, c8, c9, c10, c11, c12⟩ := id hok
  obtain ⟨⟨hm1, hm1'⟩, hm2, hm3, hmJ, hmF, hmT⟩ := id c8
  obtain ⟨hbat, hbok, hbne⟩ := id c6
  obtain ⟨bw, bkq, bfq, hb0, hb1, hb2, hbw, ⟨hbd, -, -⟩, -⟩ := id hbat
  obtain ⟨⟨hw1, hw2⟩, hh1, hh2⟩ := id c5
  obtain ⟨⟨hl1, hl2⟩, ⟨hp1, hp2⟩, hy1, hy2, hy3⟩ := id (cl_fr_b hok hfr)
  have hcx : ∀ {I' : in_T} {M' : mk_T} {H' : hi_T} {Y' Z' : ly_T}, ly_cx n (cl_f f I' P M' H' Y' Z') 40 Y.1 B P.2.1 := by rw [hy1]; exact cl_cx hok (by decide) rfl
  obtain ⟨hA0, hN, h3, h5, h7, h89⟩ := id c10.1
  have hl : 0 ≤ Y.2.2.2.1 ∧ Y.2.2.2.1 ≤ 240 := by omega
  have hp : 0 ≤ Y.2.2.2.2.1 ∧ Y.2.2.2.2.1 ≤ 240 := by omega
  refine ji_ent (by decide) rfl (Nat.le_of_ble_eq_true rfl) rfl ?_
  refine ji_aload_n dX7_presentPage_0 rfl trivial ?_
  refine ji_get (ci := 7) (k := 8) rfl dX7_presentPage_1 lX7_64 (by decide) (cl_0h) rfl ?_
  refine ji_aload_n dX7_presentPage_4 rfl trivial ?_
  refine ji_get (ci := 7) (k := 6) rfl dX7_presentPage_5 lX7_48 (by decide) (cl_0h) rfl ?_
  refine ji_cV dX7_presentPage_8 (cl_jMs k_Marks_reader) rfl (cl_12h) rfl rfl wX4_reader vX4_reader lX7_352 rfl (Nat.le_of_ble_eq_true rfl) rfl ?_
  refine ji_cV dX7_presentPage_11 (cl_jYs (k_Layout_pageAt hcx hA0 hl (by omega) hl1)) rfl (cl_40h) rfl rfl wX3_pageAt vX3_pageAt lX7_195 rfl (Nat.le_of_ble_eq_true rfl) rfl ?_
  exact ji_ireturn dX7_presentPage_14 rfl (rfl) ⟨jr_i (by first | rfl | omega), rfl⟩

set_option maxHeartbeats 4000000 in
set_option maxRecDepth 100000 in
theorem k_thousandthsRead (hok : cl_ok n f I P M H Y Z B NT SB) (hfr : cl_fr P Y B NT) (hr : 9 ≤ M.1 ∨ bk_PA B M.1 ≤ M.1) : JR G (d + 4) mX7_thousandthsRead [.ref 0] (n, cl_f f I P M H Y Z) 0 0 (some (.int (jI (cl_th B M)))) (n, cl_f f I P M H Y Z) := by
  obtain ⟨c1, c2, c3, c4, c5, c6, c7, c8, c9, c10, c11, c12⟩ := id hok
  obtain ⟨⟨hm1, hm1'⟩, hm2, hm3, hmJ, hmF, hmT⟩ := id c8
  obtain ⟨hbat, hbok, hbne⟩ := id c6
  obtain ⟨bw, bkq, bfq, hb0, hb1, hb2, hbw, ⟨hbd, -, -⟩, -⟩ := id hbat
  obtain ⟨⟨hw1, hw2⟩, hh1, hh2⟩ := id c5
  obtain ⟨⟨hl1, hl2⟩, ⟨hp1, hp2⟩, hy1, hy2, hy3⟩ := id (cl_fr_b hok hfr)
  have hcx : ∀ {I' : in_T} {M' : mk_T} {H' : hi_T} {Y' Z' : ly_T}, ly_cx n (cl_f f I' P M' H' Y' Z') 40 Y.1 B P.2.1 := by rw [hy1]; exact cl_cx hok (by decide) rfl
  obtain ⟨hA0, hN, h3, h5, h7, h89⟩ := id c10.1
  have hl : 0 ≤ Y.2.2.2.1 ∧ Y.2.2.2.1 ≤ 240 := by omega
  have hp : 0 ≤ Y.2.2.2.2.1 ∧ Y.2.2.2.2.1 ≤ 240 := by omega
  have hP10 := hbok.2.1
  have hm0 := hbok.1.1
  have hpa := bk_PA_b B M.1 hbok
  refine ji_ent (by decide) rfl (Nat.le_of_ble_eq_true rfl) rfl ?_
  refine ji_aload_n dX7_thousandthsRead_0 rfl trivial ?_
  refine ji_get (ci := 7) (k := 5) rfl dX7_thousandthsRead_1 lX7_41 (by decide) (cl_0h) rfl ?_
  refine ji_cV dX7_thousandthsRead_4 (k_Book_characters (hbat.kept cl_kf) hbok) rfl ((cl_dh hbd).trans hb0) rfl rfl wX0_characters vX0_characters lX7_393 rfl (Nat.le_of_ble_eq_true rfl) rfl ?_
  refine ji_istore_n dX7_thousandthsRead_7 (by decide) rfl ?_
  refine ji_iload_n dX7_thousandthsRead_8 rfl ?_
  refine ji_if_le (tgt := 35) dX7_thousandthsRead_9 rfl (by omega) (fun c9 => ?_) (fun c9 => ?_)
  · try (exfalso; omega)
    all_goals
      refine ji_iconst dX7_thousandthsRead_35 ?_
      exact ji_ireturn dX7_thousandthsRead_36 rfl (rfl) ⟨jr_i (by unfold cl_th; first | (rw [if_pos (by omega)]; done) | (rw [if_neg (by omega)]; done)), rfl⟩
  · try (exfalso; omega)
    all_goals
      refine ji_aload_n dX7_thousandthsRead_12 rfl trivial ?_
      refine ji_get (ci := 7) (k := 5) rfl dX7_thousandthsRead_13 lX7_41 (by decide) (cl_0h) rfl ?_
      refine ji_aload_n dX7_thousandthsRead_16 rfl trivial ?_
      refine ji_get (ci := 7) (k := 6) rfl dX7_thousandthsRead_17 lX7_48 (by decide) (cl_0h) rfl ?_
      refine ji_cV dX7_thousandthsRead_20 (cl_jMs k_Marks_reader) rfl (cl_12h) rfl rfl wX4_reader vX4_reader lX7_352 rfl (Nat.le_of_ble_eq_true rfl) rfl ?_
      refine ji_cV dX7_thousandthsRead_23 (k_Book_charactersBefore (hbat.kept cl_kf) hbok (by omega)) rfl ((cl_dh hbd).trans hb0) rfl rfl wX0_charactersBefore vX0_charactersBefore lX7_402 rfl (Nat.le_of_ble_eq_true rfl) rfl ?_
      refine ji_sipush dX7_thousandthsRead_26 rfl ?_
      refine ji_imul dX7_thousandthsRead_29 ?_
      refine ji_iload_n dX7_thousandthsRead_30 rfl ?_
      refine ji_idiv dX7_thousandthsRead_31 (by omega) (by omega) ?_
      refine ji_goto (tgt := 36) dX7_thousandthsRead_32 rfl ?_
      exact ji_ireturn dX7_thousandthsRead_36 rfl (rfl) ⟨jr_i (by unfold cl_th; first | (rw [if_pos (by omega)]; done) | (rw [if_neg (by omega)]; done)), rfl⟩

set_option maxHeartbeats 4000000 in
set_option maxRecDepth 100000 in
theorem k_countOf0 (hok : cl_ok n f I P M H Y Z B NT SB) (hfr : cl_fr P Y B NT) (hr : 9 ≤ M.1 ∨ bk_PA B M.1 ≤ M.1) : JR G (d + 5) mX7_countOf [.ref 0, .int (jI (0))] (n, cl_f f I P M H Y Z) 0 0 (some (.int (jI ((bk_P B : Int))))) (n, cl_f f I P M H Y Z) := by
  obtain ⟨c1, c2, c3, c4, c5, c6, c7, c8, c9, c10, c11, c12⟩ := id hok
  obtain ⟨⟨hm1, hm1'⟩, hm2, hm3, hmJ, hmF, hmT⟩ := id c8
  obtain ⟨hbat, hbok, hbne⟩ := id c6
  obtain ⟨bw, bkq, bfq, hb0, hb1, hb2, hbw, ⟨hbd, -, -⟩, -⟩ := id hbat
  obtain ⟨⟨hw1, hw2⟩, hh1, hh2⟩ := id c5
  obtain ⟨⟨hl1, hl2⟩, ⟨hp1, hp2⟩, hy1, hy2, hy3⟩ := id (cl_fr_b hok hfr)
  have hcx : ∀ {I' : in_T} {M' : mk_T} {H' : hi_T} {Y' Z' : ly_T}, ly_cx n (cl_f f I' P M' H' Y' Z') 40 Y.1 B P.2.1 := by rw [hy1]; exact cl_cx hok (by decide) rfl
  obtain ⟨hA0, hN, h3, h5, h7, h89⟩ := id c10.1
  have hl : 0 ≤ Y.2.2.2.1 ∧ Y.2.2.2.1 ≤ 240 := by omega
  have hp : 0 ≤ Y.2.2.2.2.1 ∧ Y.2.2.2.2.1 ≤ 240 := by omega
  obtain ⟨wt, wq, hw0', -, -, ⟨hwd, -, -⟩, -⟩ := id hbw
  have hF9 : ∀ i, -1000000 ≤ M.2.2.2.2.1 i ∧ M.2.2.2.2.1 i ≤ 1000000 := fun i => by have := hmF i; omega
  have hT9 : ∀ i, -1000000 ≤ M.2.2.2.2.2.1 i ∧ M.2.2.2.2.2.1 i ≤ 1000000 := fun i => by have := hmT i; omega
  refine ji_ent (by decide) rfl (Nat.le_of_ble_eq_true rfl) rfl ?_
  refine ji_iload_n dX7_countOf_0 rfl ?_
  refine ji_tsw (tgt := 60) dX7_countOf_1 (by omega) (by omega) rfl rfl ?_
  refine ji_aload_n dX7_countOf_60 rfl trivial ?_
  refine ji_get (ci := 7) (k := 5) rfl dX7_countOf_61 lX7_41 (by decide) (cl_0h) rfl ?_
  refine ji_cV dX7_countOf_64 (k_Book_paragraphs (hbat.kept cl_kf) hbok) rfl ((cl_dh hbd).trans hb0) rfl rfl wX0_paragraphs vX0_paragraphs lX7_122 rfl (Nat.le_of_ble_eq_true rfl) rfl ?_
  exact ji_ireturn dX7_countOf_67 rfl (rfl) ⟨jr_i (by first | rfl | omega), rfl⟩

set_option maxHeartbeats 4000000 in
set_option maxRecDepth 100000 in
theorem k_countOf1 (hok : cl_ok n f I P M H Y Z B NT SB) (hfr : cl_fr P Y B NT) (hr : 9 ≤ M.1 ∨ bk_PA B M.1 ≤ M.1) : JR G (d + 5) mX7_countOf [.ref 0, .int (jI (1))] (n, cl_f f I P M H Y Z) 0 0 (some (.int (jI ((bk_n B : Int))))) (n, cl_f f I P M H Y Z) := by
  obtain ⟨c1, c2, c3, c4, c5, c6, c7, c8, c9, c10, c11, c12⟩ := id hok
  obtain ⟨⟨hm1, hm1'⟩, hm2, hm3, hmJ, hmF, hmT⟩ := id c8
  obtain ⟨hbat, hbok, hbne⟩ := id c6
  obtain ⟨bw, bkq, bfq, hb0, hb1, hb2, hbw, ⟨hbd, -, -⟩, -⟩ := id hbat
  obtain ⟨⟨hw1, hw2⟩, hh1, hh2⟩ := id c5
  obtain ⟨⟨hl1, hl2⟩, ⟨hp1, hp2⟩, hy1, hy2, hy3⟩ := id (cl_fr_b hok hfr)
  have hcx : ∀ {I' : in_T} {M' : mk_T} {H' : hi_T} {Y' Z' : ly_T}, ly_cx n (cl_f f I' P M' H' Y' Z') 40 Y.1 B P.2.1 := by rw [hy1]; exact cl_cx hok (by decide) rfl
  obtain ⟨hA0, hN, h3, h5, h7, h89⟩ := id c10.1
  have hl : 0 ≤ Y.2.2.2.1 ∧ Y.2.2.2.1 ≤ 240 := by omega
  have hp : 0 ≤ Y.2.2.2.2.1 ∧ Y.2.2.2.2.1 ≤ 240 := by omega
  obtain ⟨wt, wq, hw0', -, -, ⟨hwd, -, -⟩, -⟩ := id hbw
  have hF9 : ∀ i, -1000000 ≤ M.2.2.2.2.1 i ∧ M.2.2.2.2.1 i ≤ 1000000 := fun i => by have := hmF i; omega
  have hT9 : ∀ i, -1000000 ≤ M.2.2.2.2.2.1 i ∧ M.2.2.2.2.2.1 i ≤ 1000000 := fun i => by have := hmT i; omega
  refine ji_ent (by decide) rfl (Nat.le_of_ble_eq_true rfl) rfl ?_
  refine ji_iload_n dX7_countOf_0 rfl ?_
  refine ji_tsw (tgt := 68) dX7_countOf_1 (by omega) (by omega) rfl rfl ?_
  refine ji_aload_n dX7_countOf_68 rfl trivial ?_
  refine ji_get (ci := 7) (k := 5) rfl dX7_countOf_69 lX7_41 (by decide) (cl_0h) rfl ?_
  refine ji_cV dX7_countOf_72 (k_Book_words_w ((cl_dh hbd).trans hb0)) rfl ((cl_dh hbd).trans hb0) rfl rfl wX0_words vX0_words lX7_230 rfl (Nat.le_of_ble_eq_true rfl) rfl ?_
  refine ji_cV dX7_countOf_75 (k_Words_size (hbw.kept cl_kf) hbok.1) rfl ((cl_dh hwd).trans hw0') rfl rfl wX6_size vX6_size lX7_390 rfl (Nat.le_of_ble_eq_true rfl) rfl ?_
  exact ji_ireturn dX7_countOf_78 rfl (rfl) ⟨jr_i (by first | rfl | omega), rfl⟩

set_option maxHeartbeats 4000000 in
set_option maxRecDepth 100000 in
theorem k_countOf2 (hok : cl_ok n f I P M H Y Z B NT SB) (hfr : cl_fr P Y B NT) (hr : 9 ≤ M.1 ∨ bk_PA B M.1 ≤ M.1) : JR G (d + 5) mX7_countOf [.ref 0, .int (jI (2))] (n, cl_f f I P M H Y Z) 0 0 (some (.int (jI ((bk_m B : Int) - (bk_P B - 1))))) (n, cl_f f I P M H Y Z) := by
  obtain ⟨c1, c2, c3, c4, c5, c6, c7, c8, c9, c10, c11, c12⟩ := id hok
  obtain ⟨⟨hm1, hm1'⟩, hm2, hm3, hmJ, hmF, hmT⟩ := id c8
  obtain ⟨hbat, hbok, hbne⟩ := id c6
  obtain ⟨bw, bkq, bfq, hb0, hb1, hb2, hbw, ⟨hbd, -, -⟩, -⟩ := id hbat
  obtain ⟨⟨hw1, hw2⟩, hh1, hh2⟩ := id c5
  obtain ⟨⟨hl1, hl2⟩, ⟨hp1, hp2⟩, hy1, hy2, hy3⟩ := id (cl_fr_b hok hfr)
  have hcx : ∀ {I' : in_T} {M' : mk_T} {H' : hi_T} {Y' Z' : ly_T}, ly_cx n (cl_f f I' P M' H' Y' Z') 40 Y.1 B P.2.1 := by rw [hy1]; exact cl_cx hok (by decide) rfl
  obtain ⟨hA0, hN, h3, h5, h7, h89⟩ := id c10.1
  have hl : 0 ≤ Y.2.2.2.1 ∧ Y.2.2.2.1 ≤ 240 := by omega
  have hp : 0 ≤ Y.2.2.2.2.1 ∧ Y.2.2.2.2.1 ≤ 240 := by omega
  obtain ⟨wt, wq, hw0', -, -, ⟨hwd, -, -⟩, -⟩ := id hbw
  have hF9 : ∀ i, -1000000 ≤ M.2.2.2.2.1 i ∧ M.2.2.2.2.1 i ≤ 1000000 := fun i => by have := hmF i; omega
  have hT9 : ∀ i, -1000000 ≤ M.2.2.2.2.2.1 i ∧ M.2.2.2.2.2.1 i ≤ 1000000 := fun i => by have := hmT i; omega
  refine ji_ent (by decide) rfl (Nat.le_of_ble_eq_true rfl) rfl ?_
  refine ji_iload_n dX7_countOf_0 rfl ?_
  refine ji_tsw (tgt := 79) dX7_countOf_1 (by omega) (by omega) rfl rfl ?_
  refine ji_aload_n dX7_countOf_79 rfl trivial ?_
  refine ji_get (ci := 7) (k := 5) rfl dX7_countOf_80 lX7_41 (by decide) (cl_0h) rfl ?_
  refine ji_cV dX7_countOf_83 (k_Book_characters (hbat.kept cl_kf) hbok) rfl ((cl_dh hbd).trans hb0) rfl rfl wX0_characters vX0_characters lX7_393 rfl (Nat.le_of_ble_eq_true rfl) rfl ?_
  exact ji_ireturn dX7_countOf_86 rfl (rfl) ⟨jr_i (by first | rfl | omega), rfl⟩

set_option maxHeartbeats 4000000 in
set_option maxRecDepth 100000 in
theorem k_countOf3 (hok : cl_ok n f I P M H Y Z B NT SB) (hfr : cl_fr P Y B NT) (hr : 9 ≤ M.1 ∨ bk_PA B M.1 ≤ M.1) : JR G (d + 5) mX7_countOf [.ref 0, .int (jI (3))] (n, cl_f f I P M H Y Z) 0 0 (some (.int (jI (Y.2.2.2.1)))) (n, cl_f f I P M H Y Z) := by
  obtain ⟨c1, c2, c3, c4, c5, c6, c7, c8, c9, c10, c11, c12⟩ := id hok
  obtain ⟨⟨hm1, hm1'⟩, hm2, hm3, hmJ, hmF, hmT⟩ := id c8
  obtain ⟨hbat, hbok, hbne⟩ := id c6
  obtain ⟨bw, bkq, bfq, hb0, hb1, hb2, hbw, ⟨hbd, -, -⟩, -⟩ := id hbat
  obtain ⟨⟨hw1, hw2⟩, hh1, hh2⟩ := id c5
  obtain ⟨⟨hl1, hl2⟩, ⟨hp1, hp2⟩, hy1, hy2, hy3⟩ := id (cl_fr_b hok hfr)
  have hcx : ∀ {I' : in_T} {M' : mk_T} {H' : hi_T} {Y' Z' : ly_T}, ly_cx n (cl_f f I' P M' H' Y' Z') 40 Y.1 B P.2.1 := by rw [hy1]; exact cl_cx hok (by decide) rfl
  obtain ⟨hA0, hN, h3, h5, h7, h89⟩ := id c10.1
  have hl : 0 ≤ Y.2.2.2.1 ∧ Y.2.2.2.1 ≤ 240 := by omega
  have hp : 0 ≤ Y.2.2.2.2.1 ∧ Y.2.2.2.2.1 ≤ 240 := by omega
  obtain ⟨wt, wq, hw0', -, -, ⟨hwd, -, -⟩, -⟩ := id hbw
  have hF9 : ∀ i, -1000000 ≤ M.2.2.2.2.1 i ∧ M.2.2.2.2.1 i ≤ 1000000 := fun i => by have := hmF i; omega
  have hT9 : ∀ i, -1000000 ≤ M.2.2.2.2.2.1 i ∧ M.2.2.2.2.2.1 i ≤ 1000000 := fun i => by have := hmT i; omega
  refine ji_ent (by decide) rfl (Nat.le_of_ble_eq_true rfl) rfl ?_
  refine ji_iload_n dX7_countOf_0 rfl ?_
  refine ji_tsw (tgt := 87) dX7_countOf_1 (by omega) (by omega) rfl rfl ?_
  refine ji_aload_n dX7_countOf_87 rfl trivial ?_
  refine ji_get (ci := 7) (k := 8) rfl dX7_countOf_88 lX7_64 (by decide) (cl_0h) rfl ?_
  refine ji_cV dX7_countOf_91 (cl_jYs (k_Layout_lines hcx hA0 hl)) rfl (cl_40h) rfl rfl wX3_lines vX3_lines lX7_349 rfl (Nat.le_of_ble_eq_true rfl) rfl ?_
  exact ji_ireturn dX7_countOf_94 rfl (rfl) ⟨jr_i (by first | rfl | omega), rfl⟩

set_option maxHeartbeats 4000000 in
set_option maxRecDepth 100000 in
theorem k_countOf4 (hok : cl_ok n f I P M H Y Z B NT SB) (hfr : cl_fr P Y B NT) (hr : 9 ≤ M.1 ∨ bk_PA B M.1 ≤ M.1) : JR G (d + 5) mX7_countOf [.ref 0, .int (jI (4))] (n, cl_f f I P M H Y Z) 0 0 (some (.int (jI (Y.2.2.2.2.1)))) (n, cl_f f I P M H Y Z) := by
  obtain ⟨c1, c2, c3, c4, c5, c6, c7, c8, c9, c10, c11, c12⟩ := id hok
  obtain ⟨⟨hm1, hm1'⟩, hm2, hm3, hmJ, hmF, hmT⟩ := id c8
  obtain ⟨hbat, hbok, hbne⟩ := id c6
  obtain ⟨bw, bkq, bfq, hb0, hb1, hb2, hbw, ⟨hbd, -, -⟩, -⟩ := id hbat
  obtain ⟨⟨hw1, hw2⟩, hh1, hh2⟩ := id c5
  obtain ⟨⟨hl1, hl2⟩, ⟨hp1, hp2⟩, hy1, hy2, hy3⟩ := id (cl_fr_b hok hfr)
  have hcx : ∀ {I' : in_T} {M' : mk_T} {H' : hi_T} {Y' Z' : ly_T}, ly_cx n (cl_f f I' P M' H' Y' Z') 40 Y.1 B P.2.1 := by rw [hy1]; exact cl_cx hok (by decide) rfl
  obtain ⟨hA0, hN, h3, h5, h7, h89⟩ := id c10.1
  have hl : 0 ≤ Y.2.2.2.1 ∧ Y.2.2.2.1 ≤ 240 := by omega
  have hp : 0 ≤ Y.2.2.2.2.1 ∧ Y.2.2.2.2.1 ≤ 240 := by omega
  obtain ⟨wt, wq, hw0', -, -, ⟨hwd, -, -⟩, -⟩ := id hbw
  have hF9 : ∀ i, -1000000 ≤ M.2.2.2.2.1 i ∧ M.2.2.2.2.1 i ≤ 1000000 := fun i => by have := hmF i; omega
  have hT9 : ∀ i, -1000000 ≤ M.2.2.2.2.2.1 i ∧ M.2.2.2.2.2.1 i ≤ 1000000 := fun i => by have := hmT i; omega
  refine ji_ent (by decide) rfl (Nat.le_of_ble_eq_true rfl) rfl ?_
  refine ji_iload_n dX7_countOf_0 rfl ?_
  refine ji_tsw (tgt := 95) dX7_countOf_1 (by omega) (by omega) rfl rfl ?_
  refine ji_aload_n dX7_countOf_95 rfl trivial ?_
  refine ji_get (ci := 7) (k := 8) rfl dX7_countOf_96 lX7_64 (by decide) (cl_0h) rfl ?_
  refine ji_cV dX7_countOf_99 (cl_jYs (k_Layout_pages hcx hA0 hl)) rfl (cl_40h) rfl rfl wX3_pages vX3_pages lX7_149 rfl (Nat.le_of_ble_eq_true rfl) rfl ?_
  exact ji_ireturn dX7_countOf_102 rfl (rfl) ⟨jr_i (by first | rfl | omega), rfl⟩

set_option maxHeartbeats 4000000 in
set_option maxRecDepth 100000 in
theorem k_countOf5 (hok : cl_ok n f I P M H Y Z B NT SB) (hfr : cl_fr P Y B NT) (hr : 9 ≤ M.1 ∨ bk_PA B M.1 ≤ M.1) : JR G (d + 5) mX7_countOf [.ref 0, .int (jI (5))] (n, cl_f f I P M H Y Z) 0 0 (some (.int (jI (cl_at B Y M.1)))) (n, cl_f f I P M H Y Z) := by
  obtain ⟨c1, c2, c3, c4, c5, c6, c7, c8, c9, c10, c11, c12⟩ := id hok
  obtain ⟨⟨hm1, hm1'⟩, hm2, hm3, hmJ, hmF, hmT⟩ := id c8
  obtain ⟨hbat, hbok, hbne⟩ := id c6
  obtain ⟨bw, bkq, bfq, hb0, hb1, hb2, hbw, ⟨hbd, -, -⟩, -⟩ := id hbat
  obtain ⟨⟨hw1, hw2⟩, hh1, hh2⟩ := id c5
  obtain ⟨⟨hl1, hl2⟩, ⟨hp1, hp2⟩, hy1, hy2, hy3⟩ := id (cl_fr_b hok hfr)
  have hcx : ∀ {I' : in_T} {M' : mk_T} {H' : hi_T} {Y' Z' : ly_T}, ly_cx n (cl_f f I' P M' H' Y' Z') 40 Y.1 B P.2.1 := by rw [hy1]; exact cl_cx hok (by decide) rfl
  obtain ⟨hA0, hN, h3, h5, h7, h89⟩ := id c10.1
  have hl : 0 ≤ Y.2.2.2.1 ∧ Y.2.2.2.1 ≤ 240 := by omega
  have hp : 0 ≤ Y.2.2.2.2.1 ∧ Y.2.2.2.2.1 ≤ 240 := by omega
  obtain ⟨wt, wq, hw0', -, -, ⟨hwd, -, -⟩, -⟩ := id hbw
  have hF9 : ∀ i, -1000000 ≤ M.2.2.2.2.1 i ∧ M.2.2.2.2.1 i ≤ 1000000 := fun i => by have := hmF i; omega
  have hT9 : ∀ i, -1000000 ≤ M.2.2.2.2.2.1 i ∧ M.2.2.2.2.2.1 i ≤ 1000000 := fun i => by have := hmT i; omega
  refine ji_ent (by decide) rfl (Nat.le_of_ble_eq_true rfl) rfl ?_
  refine ji_iload_n dX7_countOf_0 rfl ?_
  refine ji_tsw (tgt := 103) dX7_countOf_1 (by omega) (by omega) rfl rfl ?_
  refine ji_aload_n dX7_countOf_103 rfl trivial ?_
  refine ji_cV dX7_countOf_104 (k_presentPage hok hfr) rfl (cl_0h) rfl rfl wX7_presentPage vX7_presentPage lX7_207 rfl (Nat.le_of_ble_eq_true rfl) rfl ?_
  exact ji_ireturn dX7_countOf_107 rfl (rfl) ⟨jr_i (by first | rfl | omega), rfl⟩

set_option maxHeartbeats 4000000 in
set_option maxRecDepth 100000 in
theorem k_countOf6 (hok : cl_ok n f I P M H Y Z B NT SB) (hfr : cl_fr P Y B NT) (hr : 9 ≤ M.1 ∨ bk_PA B M.1 ≤ M.1) : JR G (d + 5) mX7_countOf [.ref 0, .int (jI (6))] (n, cl_f f I P M H Y Z) 0 0 (some (.int (jI (bk_pos B M.1)))) (n, cl_f f I P M H Y Z) := by
  obtain ⟨c1, c2, c3, c4, c5, c6, c7, c8, c9, c10, c11, c12⟩ := id hok
  obtain ⟨⟨hm1, hm1'⟩, hm2, hm3, hmJ, hmF, hmT⟩ := id c8
  obtain ⟨hbat, hbok, hbne⟩ := id c6
  obtain ⟨bw, bkq, bfq, hb0, hb1, hb2, hbw, ⟨hbd, -, -⟩, -⟩ := id hbat
  obtain ⟨⟨hw1, hw2⟩, hh1, hh2⟩ := id c5
  obtain ⟨⟨hl1, hl2⟩, ⟨hp1, hp2⟩, hy1, hy2, hy3⟩ := id (cl_fr_b hok hfr)
  have hcx : ∀ {I' : in_T} {M' : mk_T} {H' : hi_T} {Y' Z' : ly_T}, ly_cx n (cl_f f I' P M' H' Y' Z') 40 Y.1 B P.2.1 := by rw [hy1]; exact cl_cx hok (by decide) rfl
  obtain ⟨hA0, hN, h3, h5, h7, h89⟩ := id c10.1
  have hl : 0 ≤ Y.2.2.2.1 ∧ Y.2.2.2.1 ≤ 240 := by omega
  have hp : 0 ≤ Y.2.2.2.2.1 ∧ Y.2.2.2.2.1 ≤ 240 := by omega
  obtain ⟨wt, wq, hw0', -, -, ⟨hwd, -, -⟩, -⟩ := id hbw
  have hF9 : ∀ i, -1000000 ≤ M.2.2.2.2.1 i ∧ M.2.2.2.2.1 i ≤ 1000000 := fun i => by have := hmF i; omega
  have hT9 : ∀ i, -1000000 ≤ M.2.2.2.2.2.1 i ∧ M.2.2.2.2.2.1 i ≤ 1000000 := fun i => by have := hmT i; omega
  refine ji_ent (by decide) rfl (Nat.le_of_ble_eq_true rfl) rfl ?_
  refine ji_iload_n dX7_countOf_0 rfl ?_
  refine ji_tsw (tgt := 108) dX7_countOf_1 (by omega) (by omega) rfl rfl ?_
  refine ji_aload_n dX7_countOf_108 rfl trivial ?_
  refine ji_get (ci := 7) (k := 5) rfl dX7_countOf_109 lX7_41 (by decide) (cl_0h) rfl ?_
  refine ji_aload_n dX7_countOf_112 rfl trivial ?_
  refine ji_get (ci := 7) (k := 6) rfl dX7_countOf_113 lX7_48 (by decide) (cl_0h) rfl ?_
  refine ji_cV dX7_countOf_116 (cl_jMs k_Marks_reader) rfl (cl_12h) rfl rfl wX4_reader vX4_reader lX7_352 rfl (Nat.le_of_ble_eq_true rfl) rfl ?_
  refine ji_cV dX7_countOf_119 (k_Book_positionOf (hbat.kept cl_kf) hbok (by omega)) rfl ((cl_dh hbd).trans hb0) rfl rfl wX0_positionOf vX0_positionOf lX7_235 rfl (Nat.le_of_ble_eq_true rfl) rfl ?_
  exact ji_ireturn dX7_countOf_122 rfl (rfl) ⟨jr_i (by first | rfl | omega), rfl⟩

set_option maxHeartbeats 4000000 in
set_option maxRecDepth 100000 in
theorem k_countOf7 (hok : cl_ok n f I P M H Y Z B NT SB) (hfr : cl_fr P Y B NT) (hr : 9 ≤ M.1 ∨ bk_PA B M.1 ≤ M.1) : JR G (d + 5) mX7_countOf [.ref 0, .int (jI (7))] (n, cl_f f I P M H Y Z) 0 0 (some (.int (jI (M.2.2.1)))) (n, cl_f f I P M H Y Z) := by
  obtain ⟨c1, c2, c3, c4, c5, c6, c7, c8, c9, c10, c11, c12⟩ := id hok
  obtain ⟨⟨hm1, hm1'⟩, hm2, hm3, hmJ, hmF, hmT⟩ := id c8
  obtain ⟨hbat, hbok, hbne⟩ := id c6
  obtain ⟨bw, bkq, bfq, hb0, hb1, hb2, hbw, ⟨hbd, -, -⟩, -⟩ := id hbat
  obtain ⟨⟨hw1, hw2⟩, hh1, hh2⟩ := id c5
  obtain ⟨⟨hl1, hl2⟩, ⟨hp1, hp2⟩, hy1, hy2, hy3⟩ := id (cl_fr_b hok hfr)
  have hcx : ∀ {I' : in_T} {M' : mk_T} {H' : hi_T} {Y' Z' : ly_T}, ly_cx n (cl_f f I' P M' H' Y' Z') 40 Y.1 B P.2.1 := by rw [hy1]; exact cl_cx hok (by decide) rfl
  obtain ⟨hA0, hN, h3, h5, h7, h89⟩ := id c10.1
  have hl : 0 ≤ Y.2.2.2.1 ∧ Y.2.2.2.1 ≤ 240 := by omega
  have hp : 0 ≤ Y.2.2.2.2.1 ∧ Y.2.2.2.2.1 ≤ 240 := by omega
  obtain ⟨wt, wq, hw0', -, -, ⟨hwd, -, -⟩, -⟩ := id hbw
  have hF9 : ∀ i, -1000000 ≤ M.2.2.2.2.1 i ∧ M.2.2.2.2.1 i ≤ 1000000 := fun i => by have := hmF i; omega
  have hT9 : ∀ i, -1000000 ≤ M.2.2.2.2.2.1 i ∧ M.2.2.2.2.2.1 i ≤ 1000000 := fun i => by have := hmT i; omega
  refine ji_ent (by decide) rfl (Nat.le_of_ble_eq_true rfl) rfl ?_
  refine ji_iload_n dX7_countOf_0 rfl ?_
  refine ji_tsw (tgt := 123) dX7_countOf_1 (by omega) (by omega) rfl rfl ?_
  refine ji_aload_n dX7_countOf_123 rfl trivial ?_
  refine ji_get (ci := 7) (k := 6) rfl dX7_countOf_124 lX7_48 (by decide) (cl_0h) rfl ?_
  refine ji_cV dX7_countOf_127 (cl_jMs k_Marks_annotations) rfl (cl_12h) rfl rfl wX4_annotations vX4_annotations lX7_256 rfl (Nat.le_of_ble_eq_true rfl) rfl ?_
  exact ji_ireturn dX7_countOf_130 rfl (rfl) ⟨jr_i (by first | rfl | omega), rfl⟩

set_option maxHeartbeats 4000000 in
set_option maxRecDepth 100000 in
theorem k_countOf8 (hok : cl_ok n f I P M H Y Z B NT SB) (hfr : cl_fr P Y B NT) (hr : 9 ≤ M.1 ∨ bk_PA B M.1 ≤ M.1) : JR G (d + 5) mX7_countOf [.ref 0, .int (jI (8))] (n, cl_f f I P M H Y Z) 0 0 (some (.int (jI (mk_ls M.2.2.1 M.2.2.2.2.1 M.2.2.2.2.2.1 M.2.2.1.toNat)))) (n, cl_f f I P M H Y Z) := by
  obtain ⟨c1, c2, c3, c4, c5, c6, c7, c8, c9, c10, c11, c12⟩ := id hok
  obtain ⟨⟨hm1, hm1'⟩, hm2, hm3, hmJ, hmF, hmT⟩ := id c8
  obtain ⟨hbat, hbok, hbne⟩ := id c6
  obtain ⟨bw, bkq, bfq, hb0, hb1, hb2, hbw, ⟨hbd, -, -⟩, -⟩ := id hbat
  obtain ⟨⟨hw1, hw2⟩, hh1, hh2⟩ := id c5
  obtain ⟨⟨hl1, hl2⟩, ⟨hp1, hp2⟩, hy1, hy2, hy3⟩ := id (cl_fr_b hok hfr)
  have hcx : ∀ {I' : in_T} {M' : mk_T} {H' : hi_T} {Y' Z' : ly_T}, ly_cx n (cl_f f I' P M' H' Y' Z') 40 Y.1 B P.2.1 := by rw [hy1]; exact cl_cx hok (by decide) rfl
  obtain ⟨hA0, hN, h3, h5, h7, h89⟩ := id c10.1
  have hl : 0 ≤ Y.2.2.2.1 ∧ Y.2.2.2.1 ≤ 240 := by omega
  have hp : 0 ≤ Y.2.2.2.2.1 ∧ Y.2.2.2.2.1 ≤ 240 := by omega
  obtain ⟨wt, wq, hw0', -, -, ⟨hwd, -, -⟩, -⟩ := id hbw
  have hF9 : ∀ i, -1000000 ≤ M.2.2.2.2.1 i ∧ M.2.2.2.2.1 i ≤ 1000000 := fun i => by have := hmF i; omega
  have hT9 : ∀ i, -1000000 ≤ M.2.2.2.2.2.1 i ∧ M.2.2.2.2.2.1 i ≤ 1000000 := fun i => by have := hmT i; omega
  refine ji_ent (by decide) rfl (Nat.le_of_ble_eq_true rfl) rfl ?_
  refine ji_iload_n dX7_countOf_0 rfl ?_
  refine ji_tsw (tgt := 131) dX7_countOf_1 (by omega) (by omega) rfl rfl ?_
  refine ji_aload_n dX7_countOf_131 rfl trivial ?_
  refine ji_get (ci := 7) (k := 6) rfl dX7_countOf_132 lX7_48 (by decide) (cl_0h) rfl ?_
  refine ji_cV dX7_countOf_135 (cl_jMs (k_Marks_lostAnnotations hm3 hF9 hT9)) rfl (cl_12h) rfl rfl wX4_lostAnnotations vX4_lostAnnotations lX7_396 rfl (Nat.le_of_ble_eq_true rfl) rfl ?_
  exact ji_ireturn dX7_countOf_138 rfl (rfl) ⟨jr_i (by first | rfl | omega), rfl⟩

set_option maxHeartbeats 4000000 in
set_option maxRecDepth 100000 in
theorem k_countOf9 (hok : cl_ok n f I P M H Y Z B NT SB) (hfr : cl_fr P Y B NT) (hr : 9 ≤ M.1 ∨ bk_PA B M.1 ≤ M.1) : JR G (d + 5) mX7_countOf [.ref 0, .int (jI (9))] (n, cl_f f I P M H Y Z) 0 0 (some (.int (jI (M.2.1)))) (n, cl_f f I P M H Y Z) := by
  obtain ⟨c1, c2, c3, c4, c5, c6, c7, c8, c9, c10, c11, c12⟩ := id hok
  obtain ⟨⟨hm1, hm1'⟩, hm2, hm3, hmJ, hmF, hmT⟩ := id c8
  obtain ⟨hbat, hbok, hbne⟩ := id c6
  obtain ⟨bw, bkq, bfq, hb0, hb1, hb2, hbw, ⟨hbd, -, -⟩, -⟩ := id hbat
  obtain ⟨⟨hw1, hw2⟩, hh1, hh2⟩ := id c5
  obtain ⟨⟨hl1, hl2⟩, ⟨hp1, hp2⟩, hy1, hy2, hy3⟩ := id (cl_fr_b hok hfr)
  have hcx : ∀ {I' : in_T} {M' : mk_T} {H' : hi_T} {Y' Z' : ly_T}, ly_cx n (cl_f f I' P M' H' Y' Z') 40 Y.1 B P.2.1 := by rw [hy1]; exact cl_cx hok (by decide) rfl
  obtain ⟨hA0, hN, h3, h5, h7, h89⟩ := id c10.1
  have hl : 0 ≤ Y.2.2.2.1 ∧ Y.2.2.2.1 ≤ 240 := by omega
  have hp : 0 ≤ Y.2.2.2.2.1 ∧ Y.2.2.2.2.1 ≤ 240 := by omega
  obtain ⟨wt, wq, hw0', -, -, ⟨hwd, -, -⟩, -⟩ := id hbw
  have hF9 : ∀ i, -1000000 ≤ M.2.2.2.2.1 i ∧ M.2.2.2.2.1 i ≤ 1000000 := fun i => by have := hmF i; omega
  have hT9 : ∀ i, -1000000 ≤ M.2.2.2.2.2.1 i ∧ M.2.2.2.2.2.1 i ≤ 1000000 := fun i => by have := hmT i; omega
  refine ji_ent (by decide) rfl (Nat.le_of_ble_eq_true rfl) rfl ?_
  refine ji_iload_n dX7_countOf_0 rfl ?_
  refine ji_tsw (tgt := 139) dX7_countOf_1 (by omega) (by omega) rfl rfl ?_
  refine ji_aload_n dX7_countOf_139 rfl trivial ?_
  refine ji_get (ci := 7) (k := 6) rfl dX7_countOf_140 lX7_48 (by decide) (cl_0h) rfl ?_
  refine ji_cV dX7_countOf_143 (cl_jMs k_Marks_jumps) rfl (cl_12h) rfl rfl wX4_jumps vX4_jumps lX7_216 rfl (Nat.le_of_ble_eq_true rfl) rfl ?_
  exact ji_ireturn dX7_countOf_146 rfl (rfl) ⟨jr_i (by first | rfl | omega), rfl⟩

set_option maxHeartbeats 4000000 in
set_option maxRecDepth 100000 in
theorem k_countOf10 (hok : cl_ok n f I P M H Y Z B NT SB) (hfr : cl_fr P Y B NT) (hr : 9 ≤ M.1 ∨ bk_PA B M.1 ≤ M.1) : JR G (d + 5) mX7_countOf [.ref 0, .int (jI (10))] (n, cl_f f I P M H Y Z) 0 0 (some (.int (jI (H.1)))) (n, cl_f f I P M H Y Z) := by
  obtain ⟨c1, c2, c3, c4, c5, c6, c7, c8, c9, c10, c11, c12⟩ := id hok
  obtain ⟨⟨hm1, hm1'⟩, hm2, hm3, hmJ, hmF, hmT⟩ := id c8
  obtain ⟨hbat, hbok, hbne⟩ := id c6
  obtain ⟨bw, bkq, bfq, hb0, hb1, hb2, hbw, ⟨hbd, -, -⟩, -⟩ := id hbat
  obtain ⟨⟨hw1, hw2⟩, hh1, hh2⟩ := id c5
  obtain ⟨⟨hl1, hl2⟩, ⟨hp1, hp2⟩, hy1, hy2, hy3⟩ := id (cl_fr_b hok hfr)
  have hcx : ∀ {I' : in_T} {M' : mk_T} {H' : hi_T} {Y' Z' : ly_T}, ly_cx n (cl_f f I' P M' H' Y' Z') 40 Y.1 B P.2.1 := by rw [hy1]; exact cl_cx hok (by decide) rfl
  obtain ⟨hA0, hN, h3, h5, h7, h89⟩ := id c10.1
  have hl : 0 ≤ Y.2.2.2.1 ∧ Y.2.2.2.1 ≤ 240 := by omega
  have hp : 0 ≤ Y.2.2.2.2.1 ∧ Y.2.2.2.2.1 ≤ 240 := by omega
  obtain ⟨wt, wq, hw0', -, -, ⟨hwd, -, -⟩, -⟩ := id hbw
  have hF9 : ∀ i, -1000000 ≤ M.2.2.2.2.1 i ∧ M.2.2.2.2.1 i ≤ 1000000 := fun i => by have := hmF i; omega
  have hT9 : ∀ i, -1000000 ≤ M.2.2.2.2.2.1 i ∧ M.2.2.2.2.2.1 i ≤ 1000000 := fun i => by have := hmT i; omega
  refine ji_ent (by decide) rfl (Nat.le_of_ble_eq_true rfl) rfl ?_
  refine ji_iload_n dX7_countOf_0 rfl ?_
  refine ji_tsw (tgt := 147) dX7_countOf_1 (by omega) (by omega) rfl rfl ?_
  refine ji_aload_n dX7_countOf_147 rfl trivial ?_
  refine ji_get (ci := 7) (k := 7) rfl dX7_countOf_148 lX7_55 (by decide) (cl_0h) rfl ?_
  refine ji_cV dX7_countOf_151 (cl_jHs k_History_edits) rfl (cl_17h) rfl rfl wX1_edits vX1_edits lX7_342 rfl (Nat.le_of_ble_eq_true rfl) rfl ?_
  exact ji_ireturn dX7_countOf_154 rfl (rfl) ⟨jr_i (by first | rfl | omega), rfl⟩

set_option maxHeartbeats 4000000 in
set_option maxRecDepth 100000 in
theorem k_countOf11 (hok : cl_ok n f I P M H Y Z B NT SB) (hfr : cl_fr P Y B NT) (hr : 9 ≤ M.1 ∨ bk_PA B M.1 ≤ M.1) : JR G (d + 5) mX7_countOf [.ref 0, .int (jI (11))] (n, cl_f f I P M H Y Z) 0 0 (some (.int (jI (cl_th B M)))) (n, cl_f f I P M H Y Z) := by
  obtain ⟨c1, c2, c3, c4, c5, c6, c7, c8, c9, c10, c11, c12⟩ := id hok
  obtain ⟨⟨hm1, hm1'⟩, hm2, hm3, hmJ, hmF, hmT⟩ := id c8
  obtain ⟨hbat, hbok, hbne⟩ := id c6
  obtain ⟨bw, bkq, bfq, hb0, hb1, hb2, hbw, ⟨hbd, -, -⟩, -⟩ := id hbat
  obtain ⟨⟨hw1, hw2⟩, hh1, hh2⟩ := id c5
  obtain ⟨⟨hl1, hl2⟩, ⟨hp1, hp2⟩, hy1, hy2, hy3⟩ := id (cl_fr_b hok hfr)
  have hcx : ∀ {I' : in_T} {M' : mk_T} {H' : hi_T} {Y' Z' : ly_T}, ly_cx n (cl_f f I' P M' H' Y' Z') 40 Y.1 B P.2.1 := by rw [hy1]; exact cl_cx hok (by decide) rfl
  obtain ⟨hA0, hN, h3, h5, h7, h89⟩ := id c10.1
  have hl : 0 ≤ Y.2.2.2.1 ∧ Y.2.2.2.1 ≤ 240 := by omega
  have hp : 0 ≤ Y.2.2.2.2.1 ∧ Y.2.2.2.2.1 ≤ 240 := by omega
  obtain ⟨wt, wq, hw0', -, -, ⟨hwd, -, -⟩, -⟩ := id hbw
  have hF9 : ∀ i, -1000000 ≤ M.2.2.2.2.1 i ∧ M.2.2.2.2.1 i ≤ 1000000 := fun i => by have := hmF i; omega
  have hT9 : ∀ i, -1000000 ≤ M.2.2.2.2.2.1 i ∧ M.2.2.2.2.2.1 i ≤ 1000000 := fun i => by have := hmT i; omega
  refine ji_ent (by decide) rfl (Nat.le_of_ble_eq_true rfl) rfl ?_
  refine ji_iload_n dX7_countOf_0 rfl ?_
  refine ji_tswD (tgt := 155) dX7_countOf_1 (by omega) (by omega) rfl ?_
  refine ji_aload_n dX7_countOf_155 rfl trivial ?_
  refine ji_cV dX7_countOf_156 (k_thousandthsRead hok hfr hr) rfl (cl_0h) rfl rfl wX7_thousandthsRead vX7_thousandthsRead lX7_399 rfl (Nat.le_of_ble_eq_true rfl) rfl ?_
  exact ji_ireturn dX7_countOf_159 rfl (rfl) ⟨jr_i (by first | rfl | omega), rfl⟩

set_option maxHeartbeats 4000000 in
set_option maxRecDepth 100000 in
theorem k_countOf (hok : cl_ok n f I P M H Y Z B NT SB) (hfr : cl_fr P Y B NT) (hr : 9 ≤ M.1 ∨ bk_PA B M.1 ≤ M.1) {v : Int} (hv : 0 ≤ v ∧ v < 12) : JR G (d + 5) mX7_countOf [.ref 0, .int (jI (v))] (n, cl_f f I P M H Y Z) 0 0 (some (.int (jI (cl_cnt B M Y H.1 v)))) (n, cl_f f I P M H Y Z) := by
  rcases (show v = 0 ∨ v = 1 ∨ v = 2 ∨ v = 3 ∨ v = 4 ∨ v = 5 ∨ v = 6 ∨ v = 7 ∨ v = 8 ∨ v = 9 ∨ v = 10 ∨ v = 11 by omega) with rfl | rfl | rfl | rfl | rfl | rfl | rfl | rfl | rfl | rfl | rfl | rfl
  · exact k_countOf0 hok hfr hr
  · exact k_countOf1 hok hfr hr
  · exact k_countOf2 hok hfr hr
  · exact k_countOf3 hok hfr hr
  · exact k_countOf4 hok hfr hr
  · exact k_countOf5 hok hfr hr
  · exact k_countOf6 hok hfr hr
  · exact k_countOf7 hok hfr hr
  · exact k_countOf8 hok hfr hr
  · exact k_countOf9 hok hfr hr
  · exact k_countOf10 hok hfr hr
  · exact k_countOf11 hok hfr hr

set_option maxHeartbeats 4000000 in
set_option maxRecDepth 100000 in
theorem k_paragraphProperty0 (hok : cl_ok n f I P M H Y Z B NT SB) (hfr : cl_fr P Y B NT) {x : Int} (hx : 0 ≤ x ∧ x < bk_P B) : JR G (d + 3) mX7_paragraphProperty [.ref 0, .int (jI (x)), .int (jI (0))] (n, cl_f f I P M H Y Z) 0 0 (some (.int (jI (bk_kind B x)))) (n, cl_f f I P M H Y Z) := by
  obtain ⟨c1, c2, c3, c4, c5, c6, c7, c8, c9, c10, c11, c12⟩ := id hok
  obtain ⟨⟨hm1, hm1'⟩, hm2, hm3, hmJ, hmF, hmT⟩ := id c8
  obtain ⟨hbat, hbok, hbne⟩ := id c6
  obtain ⟨bw, bkq, bfq, hb0, hb1, hb2, hbw, ⟨hbd, -, -⟩, -⟩ := id hbat
  obtain ⟨⟨hw1, hw2⟩, hh1, hh2⟩ := id c5
  obtain ⟨⟨hl1, hl2⟩, ⟨hp1, hp2⟩, hy1, hy2, hy3⟩ := id (cl_fr_b hok hfr)
  have hcx : ∀ {I' : in_T} {M' : mk_T} {H' : hi_T} {Y' Z' : ly_T}, ly_cx n (cl_f f I' P M' H' Y' Z') 40 Y.1 B P.2.1 := by rw [hy1]; exact cl_cx hok (by decide) rfl
  obtain ⟨hA0, hN, h3, h5, h7, h89⟩ := id c10.1
  have hl : 0 ≤ Y.2.2.2.1 ∧ Y.2.2.2.1 ≤ 240 := by omega
  have hp : 0 ≤ Y.2.2.2.2.1 ∧ Y.2.2.2.2.1 ≤ 240 := by omega
  have hP10 := hbok.2.1
  have hbs := bk_st_b hbok x
  refine ji_ent (by decide) rfl (Nat.le_of_ble_eq_true rfl) rfl ?_
  refine ji_iload_n dX7_paragraphProperty_0 rfl ?_
  refine ji_tsw (tgt := 32) dX7_paragraphProperty_1 (by omega) (by omega) rfl rfl ?_
  refine ji_aload_n dX7_paragraphProperty_32 rfl trivial ?_
  refine ji_get (ci := 7) (k := 5) rfl dX7_paragraphProperty_33 lX7_41 (by decide) (cl_0h) rfl ?_
  refine ji_iload_n dX7_paragraphProperty_36 rfl ?_
  refine ji_cV dX7_paragraphProperty_37 (k_Book_kindOf (hbat.kept cl_kf) hbok (by omega)) rfl ((cl_dh hbd).trans hb0) rfl rfl wX0_kindOf vX0_kindOf lX7_405 rfl (Nat.le_of_ble_eq_true rfl) rfl ?_
  exact ji_ireturn dX7_paragraphProperty_40 rfl (rfl) ⟨jr_i (by first | rfl | omega), rfl⟩

set_option maxHeartbeats 4000000 in
set_option maxRecDepth 100000 in
theorem k_paragraphProperty1 (hok : cl_ok n f I P M H Y Z B NT SB) (hfr : cl_fr P Y B NT) {x : Int} (hx : 0 ≤ x ∧ x < bk_P B) : JR G (d + 3) mX7_paragraphProperty [.ref 0, .int (jI (x)), .int (jI (1))] (n, cl_f f I P M H Y Z) 0 0 (some (.int (jI (bk_fw B (x + 1) - bk_fw B x)))) (n, cl_f f I P M H Y Z) := by
  obtain ⟨c1, c2, c3, c4, c5, c6, c7, c8, c9, c10, c11, c12⟩ := id hok
  obtain ⟨⟨hm1, hm1'⟩, hm2, hm3, hmJ, hmF, hmT⟩ := id c8
  obtain ⟨hbat, hbok, hbne⟩ := id c6
  obtain ⟨bw, bkq, bfq, hb0, hb1, hb2, hbw, ⟨hbd, -, -⟩, -⟩ := id hbat
  obtain ⟨⟨hw1, hw2⟩, hh1, hh2⟩ := id c5
  obtain ⟨⟨hl1, hl2⟩, ⟨hp1, hp2⟩, hy1, hy2, hy3⟩ := id (cl_fr_b hok hfr)
  have hcx : ∀ {I' : in_T} {M' : mk_T} {H' : hi_T} {Y' Z' : ly_T}, ly_cx n (cl_f f I' P M' H' Y' Z') 40 Y.1 B P.2.1 := by rw [hy1]; exact cl_cx hok (by decide) rfl
  obtain ⟨hA0, hN, h3, h5, h7, h89⟩ := id c10.1
  have hl : 0 ≤ Y.2.2.2.1 ∧ Y.2.2.2.1 ≤ 240 := by omega
  have hp : 0 ≤ Y.2.2.2.2.1 ∧ Y.2.2.2.2.1 ≤ 240 := by omega
  have hP10 := hbok.2.1
  have hbs := bk_st_b hbok x
  refine ji_ent (by decide) rfl (Nat.le_of_ble_eq_true rfl) rfl ?_
  refine ji_iload_n dX7_paragraphProperty_0 rfl ?_
  refine ji_tsw (tgt := 41) dX7_paragraphProperty_1 (by omega) (by omega) rfl rfl ?_
  refine ji_aload_n dX7_paragraphProperty_41 rfl trivial ?_
  refine ji_get (ci := 7) (k := 5) rfl dX7_paragraphProperty_42 lX7_41 (by decide) (cl_0h) rfl ?_
  refine ji_iload_n dX7_paragraphProperty_45 rfl ?_
  refine ji_cV dX7_paragraphProperty_46 (k_Book_wordsOf (hbat.kept cl_kf) hbok (by omega)) rfl ((cl_dh hbd).trans hb0) rfl rfl wX0_wordsOf vX0_wordsOf lX7_273 rfl (Nat.le_of_ble_eq_true rfl) rfl ?_
  exact ji_ireturn dX7_paragraphProperty_49 rfl (rfl) ⟨jr_i (by first | rfl | omega), rfl⟩

set_option maxHeartbeats 4000000 in
set_option maxRecDepth 100000 in
theorem k_paragraphProperty2 (hok : cl_ok n f I P M H Y Z B NT SB) (hfr : cl_fr P Y B NT) {x : Int} (hx : 0 ≤ x ∧ x < bk_P B) : JR G (d + 3) mX7_paragraphProperty [.ref 0, .int (jI (x)), .int (jI (2))] (n, cl_f f I P M H Y Z) 0 0 (some (.int (jI (bk_end B x - bk_start B x)))) (n, cl_f f I P M H Y Z) := by
  obtain ⟨c1, c2, c3, c4, c5, c6, c7, c8, c9, c10, c11, c12⟩ := id hok
  obtain ⟨⟨hm1, hm1'⟩, hm2, hm3, hmJ, hmF, hmT⟩ := id c8
  obtain ⟨hbat, hbok, hbne⟩ := id c6
  obtain ⟨bw, bkq, bfq, hb0, hb1, hb2, hbw, ⟨hbd, -, -⟩, -⟩ := id hbat
  obtain ⟨⟨hw1, hw2⟩, hh1, hh2⟩ := id c5
  obtain ⟨⟨hl1, hl2⟩, ⟨hp1, hp2⟩, hy1, hy2, hy3⟩ := id (cl_fr_b hok hfr)
  have hcx : ∀ {I' : in_T} {M' : mk_T} {H' : hi_T} {Y' Z' : ly_T}, ly_cx n (cl_f f I' P M' H' Y' Z') 40 Y.1 B P.2.1 := by rw [hy1]; exact cl_cx hok (by decide) rfl
  obtain ⟨hA0, hN, h3, h5, h7, h89⟩ := id c10.1
  have hl : 0 ≤ Y.2.2.2.1 ∧ Y.2.2.2.1 ≤ 240 := by omega
  have hp : 0 ≤ Y.2.2.2.2.1 ∧ Y.2.2.2.2.1 ≤ 240 := by omega
  have hP10 := hbok.2.1
  have hbs := bk_st_b hbok x
  refine ji_ent (by decide) rfl (Nat.le_of_ble_eq_true rfl) rfl ?_
  refine ji_iload_n dX7_paragraphProperty_0 rfl ?_
  refine ji_tsw (tgt := 50) dX7_paragraphProperty_1 (by omega) (by omega) rfl rfl ?_
  refine ji_aload_n dX7_paragraphProperty_50 rfl trivial ?_
  refine ji_get (ci := 7) (k := 5) rfl dX7_paragraphProperty_51 lX7_41 (by decide) (cl_0h) rfl ?_
  refine ji_iload_n dX7_paragraphProperty_54 rfl ?_
  refine ji_cV dX7_paragraphProperty_55 (k_Book_lengthOf (hbat.kept cl_kf) hbok (by omega)) rfl ((cl_dh hbd).trans hb0) rfl rfl wX0_lengthOf vX0_lengthOf lX7_249 rfl (Nat.le_of_ble_eq_true rfl) rfl ?_
  exact ji_ireturn dX7_paragraphProperty_58 rfl (rfl) ⟨jr_i (by first | rfl | omega), rfl⟩

set_option maxHeartbeats 4000000 in
set_option maxRecDepth 100000 in
theorem k_paragraphProperty3 (hok : cl_ok n f I P M H Y Z B NT SB) (hfr : cl_fr P Y B NT) {x : Int} (hx : 0 ≤ x ∧ x < bk_P B) : JR G (d + 3) mX7_paragraphProperty [.ref 0, .int (jI (x)), .int (jI (3))] (n, cl_f f I P M H Y Z) 0 0 (some (.int (jI (ly_lp Y.2.2.2.1 (Y.2.2.2.2.2 3) x Y.2.2.2.1.toNat)))) (n, cl_f f I P M H Y Z) := by
  obtain ⟨c1, c2, c3, c4, c5, c6, c7, c8, c9, c10, c11, c12⟩ := id hok
  obtain ⟨⟨hm1, hm1'⟩, hm2, hm3, hmJ, hmF, hmT⟩ := id c8
  obtain ⟨hbat, hbok, hbne⟩ := id c6
  obtain ⟨bw, bkq, bfq, hb0, hb1, hb2, hbw, ⟨hbd, -, -⟩, -⟩ := id hbat
  obtain ⟨⟨hw1, hw2⟩, hh1, hh2⟩ := id c5
  obtain ⟨⟨hl1, hl2⟩, ⟨hp1, hp2⟩, hy1, hy2, hy3⟩ := id (cl_fr_b hok hfr)
  have hcx : ∀ {I' : in_T} {M' : mk_T} {H' : hi_T} {Y' Z' : ly_T}, ly_cx n (cl_f f I' P M' H' Y' Z') 40 Y.1 B P.2.1 := by rw [hy1]; exact cl_cx hok (by decide) rfl
  obtain ⟨hA0, hN, h3, h5, h7, h89⟩ := id c10.1
  have hl : 0 ≤ Y.2.2.2.1 ∧ Y.2.2.2.1 ≤ 240 := by omega
  have hp : 0 ≤ Y.2.2.2.2.1 ∧ Y.2.2.2.2.1 ≤ 240 := by omega
  have hP10 := hbok.2.1
  have hbs := bk_st_b hbok x
  refine ji_ent (by decide) rfl (Nat.le_of_ble_eq_true rfl) rfl ?_
  refine ji_iload_n dX7_paragraphProperty_0 rfl ?_
  refine ji_tsw (tgt := 59) dX7_paragraphProperty_1 (by omega) (by omega) rfl rfl ?_
  refine ji_aload_n dX7_paragraphProperty_59 rfl trivial ?_
  refine ji_get (ci := 7) (k := 8) rfl dX7_paragraphProperty_60 lX7_64 (by decide) (cl_0h) rfl ?_
  refine ji_iload_n dX7_paragraphProperty_63 rfl ?_
  refine ji_cV dX7_paragraphProperty_64 (cl_jYs (k_Layout_linesOfParagraph hcx hA0 hl (by omega))) rfl (cl_40h) rfl rfl wX3_linesOfParagraph vX3_linesOfParagraph lX7_408 rfl (Nat.le_of_ble_eq_true rfl) rfl ?_
  exact ji_ireturn dX7_paragraphProperty_67 rfl (rfl) ⟨jr_i (by first | rfl | omega), rfl⟩

set_option maxHeartbeats 4000000 in
set_option maxRecDepth 100000 in
theorem k_paragraphProperty4 (hok : cl_ok n f I P M H Y Z B NT SB) (hfr : cl_fr P Y B NT) {x : Int} (hx : 0 ≤ x ∧ x < bk_P B) : JR G (d + 3) mX7_paragraphProperty [.ref 0, .int (jI (x)), .int (jI (4))] (n, cl_f f I P M H Y Z) 0 0 (some (.int (jI (cl_at B Y (bk_start B x))))) (n, cl_f f I P M H Y Z) := by
  obtain ⟨c1, c2, c3, c4, c5, c6, c7, c8, c9, c10, c11, c12⟩ := id hok
  obtain ⟨⟨hm1, hm1'⟩, hm2, hm3, hmJ, hmF, hmT⟩ := id c8
  obtain ⟨hbat, hbok, hbne⟩ := id c6
  obtain ⟨bw, bkq, bfq, hb0, hb1, hb2, hbw, ⟨hbd, -, -⟩, -⟩ := id hbat
  obtain ⟨⟨hw1, hw2⟩, hh1, hh2⟩ := id c5
  obtain ⟨⟨hl1, hl2⟩, ⟨hp1, hp2⟩, hy1, hy2, hy3⟩ := id (cl_fr_b hok hfr)
  have hcx : ∀ {I' : in_T} {M' : mk_T} {H' : hi_T} {Y' Z' : ly_T}, ly_cx n (cl_f f I' P M' H' Y' Z') 40 Y.1 B P.2.1 := by rw [hy1]; exact cl_cx hok (by decide) rfl
  obtain ⟨hA0, hN, h3, h5, h7, h89⟩ := id c10.1
  have hl : 0 ≤ Y.2.2.2.1 ∧ Y.2.2.2.1 ≤ 240 := by omega
  have hp : 0 ≤ Y.2.2.2.2.1 ∧ Y.2.2.2.2.1 ≤ 240 := by omega
  have hP10 := hbok.2.1
  have hbs := bk_st_b hbok x
  refine ji_ent (by decide) rfl (Nat.le_of_ble_eq_true rfl) rfl ?_
  refine ji_iload_n dX7_paragraphProperty_0 rfl ?_
  refine ji_tswD (tgt := 68) dX7_paragraphProperty_1 (by omega) (by omega) rfl ?_
  refine ji_aload_n dX7_paragraphProperty_68 rfl trivial ?_
  refine ji_get (ci := 7) (k := 8) rfl dX7_paragraphProperty_69 lX7_64 (by decide) (cl_0h) rfl ?_
  refine ji_aload_n dX7_paragraphProperty_72 rfl trivial ?_
  refine ji_get (ci := 7) (k := 5) rfl dX7_paragraphProperty_73 lX7_41 (by decide) (cl_0h) rfl ?_
  refine ji_iload_n dX7_paragraphProperty_76 rfl ?_
  refine ji_cV dX7_paragraphProperty_77 (k_Book_startOf (hbat.kept cl_kf) hbok (by omega)) rfl ((cl_dh hbd).trans hb0) rfl rfl wX0_startOf vX0_startOf lX7_192 rfl (Nat.le_of_ble_eq_true rfl) rfl ?_
  refine ji_cV dX7_paragraphProperty_80 (cl_jYs (k_Layout_pageAt hcx hA0 hl (by omega) hl1)) rfl (cl_40h) rfl rfl wX3_pageAt vX3_pageAt lX7_195 rfl (Nat.le_of_ble_eq_true rfl) rfl ?_
  exact ji_ireturn dX7_paragraphProperty_83 rfl (rfl) ⟨jr_i (by first | rfl | omega), rfl⟩

set_option maxHeartbeats 4000000 in
set_option maxRecDepth 100000 in
theorem k_paragraphProperty (hok : cl_ok n f I P M H Y Z B NT SB) (hfr : cl_fr P Y B NT) {x : Int} (hx : 0 ≤ x ∧ x < bk_P B) {v : Int} (hv : 0 ≤ v ∧ v < 5) : JR G (d + 3) mX7_paragraphProperty [.ref 0, .int (jI (x)), .int (jI (v))] (n, cl_f f I P M H Y Z) 0 0 (some (.int (jI (cl_pp B Y x v)))) (n, cl_f f I P M H Y Z) := by
  rcases (show v = 0 ∨ v = 1 ∨ v = 2 ∨ v = 3 ∨ v = 4 by omega) with rfl | rfl | rfl | rfl | rfl
  · exact k_paragraphProperty0 hok hfr hx
  · exact k_paragraphProperty1 hok hfr hx
  · exact k_paragraphProperty2 hok hfr hx
  · exact k_paragraphProperty3 hok hfr hx
  · exact k_paragraphProperty4 hok hfr hx

end PG
