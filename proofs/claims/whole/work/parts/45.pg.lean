/-! ===== properties of lines, pages, annotations ===== -/
section PG
variable {G : ji_G} {d n : Nat} {f : Nat → ji_C} {I : in_T} {P : pg_T} {M : mk_T} {H : hi_T} {Y Z : ly_T} {B : bk_T} {NT : nt_T} {SB : Nat → bk_T}

set_option maxHeartbeats 4000000 in
set_option maxRecDepth 100000 in
theorem k_lineProperty0 (hok : cl_ok n f I P M H Y Z B NT SB) (hfr : cl_fr P Y B NT) {x : Int} (hx : 0 ≤ x ∧ x < Y.2.2.2.1) : JR G (d + 3) mX7_lineProperty [.ref 0, .int (jI (x)), .int (jI (0))] (n, cl_f f I P M H Y Z) 0 0 (some (.int (jI (cl_po Y x)))) (n, cl_f f I P M H Y Z) := by
  obtain ⟨c1, c2, c3, c4, c5, c6, c7, c8, c9, c10, c11, c12⟩ := id hok
  obtain ⟨⟨hm1, hm1'⟩, hm2, hm3, hmJ, hmF, hmT⟩ := id c8
  obtain ⟨hbat, hbok, hbne⟩ := id c6
  obtain ⟨bw, bkq, bfq, hb0, hb1, hb2, hbw, ⟨hbd, -, -⟩, -⟩ := id hbat
  obtain ⟨⟨hw1, hw2⟩, hh1, hh2⟩ := id c5
  obtain ⟨⟨hl1, hl2⟩, ⟨hp1, hp2⟩, hy1, hy2, hy3⟩ := id (cl_fr_b hok hfr)
  have hcx : ∀ {I' : in_T} {M' : mk_T} {H' : hi_T} {Y' Z' : ly_T}, ly_cx n (cl_f f I' P M' H' Y' Z') 40 Y.1 B P.2.1 := by rw [hy1]; exact cl_cx hok (by decide) rfl
  obtain ⟨hA0, hN, h3, h5, h7, h89⟩ := id c10.1
  have hl : 0 ≤ Y.2.2.2.1 ∧ Y.2.2.2.1 ≤ 240 := by omega
  have hp : 0 ≤ Y.2.2.2.2.1 ∧ Y.2.2.2.2.1 ≤ 240 := by omega
  have hn0 := hbok.1.2.1
  have gp := ly_g_b (ln := Y.2.2.2.1) (hA0 3) (df := -1) (by omega) x
  have gp3 : -1 ≤ ly_g Y.2.2.2.1 (Y.2.2.2.2.2 3) (-1) x ∧ ly_g Y.2.2.2.1 (Y.2.2.2.2.2 3) (-1) x ≤ 10 := by unfold ly_g; split; have := h3 x.toNat; omega; omega
  refine ji_ent (by decide) rfl (Nat.le_of_ble_eq_true rfl) rfl ?_
  refine ji_aload_n dX7_lineProperty_0 rfl trivial ?_
  refine ji_get (ci := 7) (k := 8) rfl dX7_lineProperty_1 lX7_64 (by decide) (cl_0h) rfl ?_
  refine ji_iload_n dX7_lineProperty_4 rfl ?_
  refine ji_cV dX7_lineProperty_5 (cl_jYs (k_Layout_paragraphOfLine hcx hA0 hl (by omega))) rfl (cl_40h) rfl rfl wX3_paragraphOfLine vX3_paragraphOfLine lX7_411 rfl (Nat.le_of_ble_eq_true rfl) rfl ?_
  refine ji_istore_n dX7_lineProperty_8 (by decide) rfl ?_
  refine ji_iload_n dX7_lineProperty_9 rfl ?_
  refine ji_tsw (tgt := 44) dX7_lineProperty_10 (by omega) (by omega) rfl rfl ?_
  refine ji_iload_n dX7_lineProperty_44 rfl ?_
  exact ji_ireturn dX7_lineProperty_45 rfl (rfl) ⟨jr_i (by first | rfl | omega), rfl⟩

set_option maxHeartbeats 4000000 in
set_option maxRecDepth 100000 in
theorem k_lineProperty1 (hok : cl_ok n f I P M H Y Z B NT SB) (hfr : cl_fr P Y B NT) {x : Int} (hx : 0 ≤ x ∧ x < Y.2.2.2.1) : JR G (d + 3) mX7_lineProperty [.ref 0, .int (jI (x)), .int (jI (1))] (n, cl_f f I P M H Y Z) 0 0 (some (.int (jI (cl_fwl B Y x - bk_fw B (cl_po Y x))))) (n, cl_f f I P M H Y Z) := by
  obtain ⟨c1, c2, c3, c4, c5, c6, c7, c8, c9, c10, c11, c12⟩ := id hok
  obtain ⟨⟨hm1, hm1'⟩, hm2, hm3, hmJ, hmF, hmT⟩ := id c8
  obtain ⟨hbat, hbok, hbne⟩ := id c6
  obtain ⟨bw, bkq, bfq, hb0, hb1, hb2, hbw, ⟨hbd, -, -⟩, -⟩ := id hbat
  obtain ⟨⟨hw1, hw2⟩, hh1, hh2⟩ := id c5
  obtain ⟨⟨hl1, hl2⟩, ⟨hp1, hp2⟩, hy1, hy2, hy3⟩ := id (cl_fr_b hok hfr)
  have hcx : ∀ {I' : in_T} {M' : mk_T} {H' : hi_T} {Y' Z' : ly_T}, ly_cx n (cl_f f I' P M' H' Y' Z') 40 Y.1 B P.2.1 := by rw [hy1]; exact cl_cx hok (by decide) rfl
  obtain ⟨hA0, hN, h3, h5, h7, h89⟩ := id c10.1
  have hl : 0 ≤ Y.2.2.2.1 ∧ Y.2.2.2.1 ≤ 240 := by omega
  have hp : 0 ≤ Y.2.2.2.2.1 ∧ Y.2.2.2.2.1 ≤ 240 := by omega
  have hn0 := hbok.1.2.1
  have gp := ly_g_b (ln := Y.2.2.2.1) (hA0 3) (df := -1) (by omega) x
  have gp3 : -1 ≤ ly_g Y.2.2.2.1 (Y.2.2.2.2.2 3) (-1) x ∧ ly_g Y.2.2.2.1 (Y.2.2.2.2.2 3) (-1) x ≤ 10 := by unfold ly_g; split; have := h3 x.toNat; omega; omega
  refine ji_ent (by decide) rfl (Nat.le_of_ble_eq_true rfl) rfl ?_
  refine ji_aload_n dX7_lineProperty_0 rfl trivial ?_
  refine ji_get (ci := 7) (k := 8) rfl dX7_lineProperty_1 lX7_64 (by decide) (cl_0h) rfl ?_
  refine ji_iload_n dX7_lineProperty_4 rfl ?_
  refine ji_cV dX7_lineProperty_5 (cl_jYs (k_Layout_paragraphOfLine hcx hA0 hl (by omega))) rfl (cl_40h) rfl rfl wX3_paragraphOfLine vX3_paragraphOfLine lX7_411 rfl (Nat.le_of_ble_eq_true rfl) rfl ?_
  refine ji_istore_n dX7_lineProperty_8 (by decide) rfl ?_
  refine ji_iload_n dX7_lineProperty_9 rfl ?_
  refine ji_tsw (tgt := 46) dX7_lineProperty_10 (by omega) (by omega) rfl rfl ?_
  refine ji_aload_n dX7_lineProperty_46 rfl trivial ?_
  refine ji_get (ci := 7) (k := 8) rfl dX7_lineProperty_47 lX7_64 (by decide) (cl_0h) rfl ?_
  refine ji_iload_n dX7_lineProperty_50 rfl ?_
  refine ji_cV dX7_lineProperty_51 (cl_jYs (k_Layout_firstWordOfLine hcx hA0 hl (by omega))) rfl (cl_40h) rfl rfl wX3_firstWordOfLine vX3_firstWordOfLine lX7_414 rfl (Nat.le_of_ble_eq_true rfl) rfl ?_
  refine ji_aload_n dX7_lineProperty_54 rfl trivial ?_
  refine ji_get (ci := 7) (k := 5) rfl dX7_lineProperty_55 lX7_41 (by decide) (cl_0h) rfl ?_
  refine ji_iload_n dX7_lineProperty_58 rfl ?_
  refine ji_cV dX7_lineProperty_59 (k_Book_firstWordOf (hbat.kept cl_kf) hbok (by omega)) rfl ((cl_dh hbd).trans hb0) rfl rfl wX0_firstWordOf vX0_firstWordOf lX7_417 rfl (Nat.le_of_ble_eq_true rfl) rfl ?_
  refine ji_isub dX7_lineProperty_62 ?_
  exact ji_ireturn dX7_lineProperty_63 rfl (rfl) ⟨jr_i (by first | rfl | omega), rfl⟩

set_option maxHeartbeats 4000000 in
set_option maxRecDepth 100000 in
theorem k_lineProperty2 (hok : cl_ok n f I P M H Y Z B NT SB) (hfr : cl_fr P Y B NT) {x : Int} (hx : 0 ≤ x ∧ x < Y.2.2.2.1) : JR G (d + 3) mX7_lineProperty [.ref 0, .int (jI (x)), .int (jI (2))] (n, cl_f f I P M H Y Z) 0 0 (some (.int (jI (cl_fwl B Y (x + 1) - cl_fwl B Y x)))) (n, cl_f f I P M H Y Z) := by
  obtain ⟨c1, c2, c3, c4, c5, c6, c7, c8, c9, c10, c11, c12⟩ := id hok
  obtain ⟨⟨hm1, hm1'⟩, hm2, hm3, hmJ, hmF, hmT⟩ := id c8
  obtain ⟨hbat, hbok, hbne⟩ := id c6
  obtain ⟨bw, bkq, bfq, hb0, hb1, hb2, hbw, ⟨hbd, -, -⟩, -⟩ := id hbat
  obtain ⟨⟨hw1, hw2⟩, hh1, hh2⟩ := id c5
  obtain ⟨⟨hl1, hl2⟩, ⟨hp1, hp2⟩, hy1, hy2, hy3⟩ := id (cl_fr_b hok hfr)
  have hcx : ∀ {I' : in_T} {M' : mk_T} {H' : hi_T} {Y' Z' : ly_T}, ly_cx n (cl_f f I' P M' H' Y' Z') 40 Y.1 B P.2.1 := by rw [hy1]; exact cl_cx hok (by decide) rfl
  obtain ⟨hA0, hN, h3, h5, h7, h89⟩ := id c10.1
  have hl : 0 ≤ Y.2.2.2.1 ∧ Y.2.2.2.1 ≤ 240 := by omega
  have hp : 0 ≤ Y.2.2.2.2.1 ∧ Y.2.2.2.2.1 ≤ 240 := by omega
  have hn0 := hbok.1.2.1
  have gp := ly_g_b (ln := Y.2.2.2.1) (hA0 3) (df := -1) (by omega) x
  have gp3 : -1 ≤ ly_g Y.2.2.2.1 (Y.2.2.2.2.2 3) (-1) x ∧ ly_g Y.2.2.2.1 (Y.2.2.2.2.2 3) (-1) x ≤ 10 := by unfold ly_g; split; have := h3 x.toNat; omega; omega
  refine ji_ent (by decide) rfl (Nat.le_of_ble_eq_true rfl) rfl ?_
  refine ji_aload_n dX7_lineProperty_0 rfl trivial ?_
  refine ji_get (ci := 7) (k := 8) rfl dX7_lineProperty_1 lX7_64 (by decide) (cl_0h) rfl ?_
  refine ji_iload_n dX7_lineProperty_4 rfl ?_
  refine ji_cV dX7_lineProperty_5 (cl_jYs (k_Layout_paragraphOfLine hcx hA0 hl (by omega))) rfl (cl_40h) rfl rfl wX3_paragraphOfLine vX3_paragraphOfLine lX7_411 rfl (Nat.le_of_ble_eq_true rfl) rfl ?_
  refine ji_istore_n dX7_lineProperty_8 (by decide) rfl ?_
  refine ji_iload_n dX7_lineProperty_9 rfl ?_
  refine ji_tsw (tgt := 64) dX7_lineProperty_10 (by omega) (by omega) rfl rfl ?_
  refine ji_aload_n dX7_lineProperty_64 rfl trivial ?_
  refine ji_get (ci := 7) (k := 8) rfl dX7_lineProperty_65 lX7_64 (by decide) (cl_0h) rfl ?_
  refine ji_iload_n dX7_lineProperty_68 rfl ?_
  refine ji_iconst dX7_lineProperty_69 ?_
  refine ji_iadd dX7_lineProperty_70 ?_
  refine ji_cV dX7_lineProperty_71 (cl_jYs (k_Layout_firstWordOfLine hcx hA0 hl (by omega))) rfl (cl_40h) rfl rfl wX3_firstWordOfLine vX3_firstWordOfLine lX7_414 rfl (Nat.le_of_ble_eq_true rfl) rfl ?_
  refine ji_aload_n dX7_lineProperty_74 rfl trivial ?_
  refine ji_get (ci := 7) (k := 8) rfl dX7_lineProperty_75 lX7_64 (by decide) (cl_0h) rfl ?_
  refine ji_iload_n dX7_lineProperty_78 rfl ?_
  refine ji_cV dX7_lineProperty_79 (cl_jYs (k_Layout_firstWordOfLine hcx hA0 hl (by omega))) rfl (cl_40h) rfl rfl wX3_firstWordOfLine vX3_firstWordOfLine lX7_414 rfl (Nat.le_of_ble_eq_true rfl) rfl ?_
  refine ji_isub dX7_lineProperty_82 ?_
  exact ji_ireturn dX7_lineProperty_83 rfl (rfl) ⟨jr_i (by first | rfl | omega), rfl⟩

set_option maxHeartbeats 4000000 in
set_option maxRecDepth 100000 in
theorem k_lineProperty3 (hok : cl_ok n f I P M H Y Z B NT SB) (hfr : cl_fr P Y B NT) {x : Int} (hx : 0 ≤ x ∧ x < Y.2.2.2.1) : JR G (d + 3) mX7_lineProperty [.ref 0, .int (jI (x)), .int (jI (3))] (n, cl_f f I P M H Y Z) 0 0 (some (.int (jI (cl_col B Y x)))) (n, cl_f f I P M H Y Z) := by
  obtain ⟨c1, c2, c3, c4, c5, c6, c7, c8, c9, c10, c11, c12⟩ := id hok
  obtain ⟨⟨hm1, hm1'⟩, hm2, hm3, hmJ, hmF, hmT⟩ := id c8
  obtain ⟨hbat, hbok, hbne⟩ := id c6
  obtain ⟨bw, bkq, bfq, hb0, hb1, hb2, hbw, ⟨hbd, -, -⟩, -⟩ := id hbat
  obtain ⟨⟨hw1, hw2⟩, hh1, hh2⟩ := id c5
  obtain ⟨⟨hl1, hl2⟩, ⟨hp1, hp2⟩, hy1, hy2, hy3⟩ := id (cl_fr_b hok hfr)
  have hcx : ∀ {I' : in_T} {M' : mk_T} {H' : hi_T} {Y' Z' : ly_T}, ly_cx n (cl_f f I' P M' H' Y' Z') 40 Y.1 B P.2.1 := by rw [hy1]; exact cl_cx hok (by decide) rfl
  obtain ⟨hA0, hN, h3, h5, h7, h89⟩ := id c10.1
  have hl : 0 ≤ Y.2.2.2.1 ∧ Y.2.2.2.1 ≤ 240 := by omega
  have hp : 0 ≤ Y.2.2.2.2.1 ∧ Y.2.2.2.2.1 ≤ 240 := by omega
  have hn0 := hbok.1.2.1
  have gp := ly_g_b (ln := Y.2.2.2.1) (hA0 3) (df := -1) (by omega) x
  have gp3 : -1 ≤ ly_g Y.2.2.2.1 (Y.2.2.2.2.2 3) (-1) x ∧ ly_g Y.2.2.2.1 (Y.2.2.2.2.2 3) (-1) x ≤ 10 := by unfold ly_g; split; have := h3 x.toNat; omega; omega
  refine ji_ent (by decide) rfl (Nat.le_of_ble_eq_true rfl) rfl ?_
  refine ji_aload_n dX7_lineProperty_0 rfl trivial ?_
  refine ji_get (ci := 7) (k := 8) rfl dX7_lineProperty_1 lX7_64 (by decide) (cl_0h) rfl ?_
  refine ji_iload_n dX7_lineProperty_4 rfl ?_
  refine ji_cV dX7_lineProperty_5 (cl_jYs (k_Layout_paragraphOfLine hcx hA0 hl (by omega))) rfl (cl_40h) rfl rfl wX3_paragraphOfLine vX3_paragraphOfLine lX7_411 rfl (Nat.le_of_ble_eq_true rfl) rfl ?_
  refine ji_istore_n dX7_lineProperty_8 (by decide) rfl ?_
  refine ji_iload_n dX7_lineProperty_9 rfl ?_
  refine ji_tsw (tgt := 84) dX7_lineProperty_10 (by omega) (by omega) rfl rfl ?_
  refine ji_aload_n dX7_lineProperty_84 rfl trivial ?_
  refine ji_get (ci := 7) (k := 8) rfl dX7_lineProperty_85 lX7_64 (by decide) (cl_0h) rfl ?_
  refine ji_iload_n dX7_lineProperty_88 rfl ?_
  refine ji_cV dX7_lineProperty_89 (cl_jYs (k_Layout_columnsOfLine hcx hA0 hl (by omega))) rfl (cl_40h) rfl rfl wX3_columnsOfLine vX3_columnsOfLine lX7_420 rfl (Nat.le_of_ble_eq_true rfl) rfl ?_
  exact ji_ireturn dX7_lineProperty_92 rfl (rfl) ⟨jr_i (by first | rfl | omega), rfl⟩

set_option maxHeartbeats 4000000 in
set_option maxRecDepth 100000 in
theorem k_lineProperty4 (hok : cl_ok n f I P M H Y Z B NT SB) (hfr : cl_fr P Y B NT) {x : Int} (hx : 0 ≤ x ∧ x < Y.2.2.2.1) : JR G (d + 3) mX7_lineProperty [.ref 0, .int (jI (x)), .int (jI (4))] (n, cl_f f I P M H Y Z) 0 0 (some (.int (jI (cl_pgo Y x)))) (n, cl_f f I P M H Y Z) := by
  obtain ⟨c1, c2, c3, c4, c5, c6, c7, c8, c9, c10, c11, c12⟩ := id hok
  obtain ⟨⟨hm1, hm1'⟩, hm2, hm3, hmJ, hmF, hmT⟩ := id c8
  obtain ⟨hbat, hbok, hbne⟩ := id c6
  obtain ⟨bw, bkq, bfq, hb0, hb1, hb2, hbw, ⟨hbd, -, -⟩, -⟩ := id hbat
  obtain ⟨⟨hw1, hw2⟩, hh1, hh2⟩ := id c5
  obtain ⟨⟨hl1, hl2⟩, ⟨hp1, hp2⟩, hy1, hy2, hy3⟩ := id (cl_fr_b hok hfr)
  have hcx : ∀ {I' : in_T} {M' : mk_T} {H' : hi_T} {Y' Z' : ly_T}, ly_cx n (cl_f f I' P M' H' Y' Z') 40 Y.1 B P.2.1 := by rw [hy1]; exact cl_cx hok (by decide) rfl
  obtain ⟨hA0, hN, h3, h5, h7, h89⟩ := id c10.1
  have hl : 0 ≤ Y.2.2.2.1 ∧ Y.2.2.2.1 ≤ 240 := by omega
  have hp : 0 ≤ Y.2.2.2.2.1 ∧ Y.2.2.2.2.1 ≤ 240 := by omega
  have hn0 := hbok.1.2.1
  have gp := ly_g_b (ln := Y.2.2.2.1) (hA0 3) (df := -1) (by omega) x
  have gp3 : -1 ≤ ly_g Y.2.2.2.1 (Y.2.2.2.2.2 3) (-1) x ∧ ly_g Y.2.2.2.1 (Y.2.2.2.2.2 3) (-1) x ≤ 10 := by unfold ly_g; split; have := h3 x.toNat; omega; omega
  refine ji_ent (by decide) rfl (Nat.le_of_ble_eq_true rfl) rfl ?_
  refine ji_aload_n dX7_lineProperty_0 rfl trivial ?_
  refine ji_get (ci := 7) (k := 8) rfl dX7_lineProperty_1 lX7_64 (by decide) (cl_0h) rfl ?_
  refine ji_iload_n dX7_lineProperty_4 rfl ?_
  refine ji_cV dX7_lineProperty_5 (cl_jYs (k_Layout_paragraphOfLine hcx hA0 hl (by omega))) rfl (cl_40h) rfl rfl wX3_paragraphOfLine vX3_paragraphOfLine lX7_411 rfl (Nat.le_of_ble_eq_true rfl) rfl ?_
  refine ji_istore_n dX7_lineProperty_8 (by decide) rfl ?_
  refine ji_iload_n dX7_lineProperty_9 rfl ?_
  refine ji_tsw (tgt := 93) dX7_lineProperty_10 (by omega) (by omega) rfl rfl ?_
  refine ji_aload_n dX7_lineProperty_93 rfl trivial ?_
  refine ji_get (ci := 7) (k := 8) rfl dX7_lineProperty_94 lX7_64 (by decide) (cl_0h) rfl ?_
  refine ji_iload_n dX7_lineProperty_97 rfl ?_
  refine ji_cV dX7_lineProperty_98 (cl_jYs (k_Layout_pageOfLine hcx hA0 hl (by omega))) rfl (cl_40h) rfl rfl wX3_pageOfLine vX3_pageOfLine lX7_423 rfl (Nat.le_of_ble_eq_true rfl) rfl ?_
  exact ji_ireturn dX7_lineProperty_101 rfl (rfl) ⟨jr_i (by first | rfl | omega), rfl⟩

set_option maxHeartbeats 4000000 in
set_option maxRecDepth 100000 in
theorem k_lineProperty5 (hok : cl_ok n f I P M H Y Z B NT SB) (hfr : cl_fr P Y B NT) {x : Int} (hx : 0 ≤ x ∧ x < Y.2.2.2.1) : JR G (d + 3) mX7_lineProperty [.ref 0, .int (jI (x)), .int (jI (5))] (n, cl_f f I P M H Y Z) 0 0 (some (.int (jI (cl_rw Y (cl_fl Y (cl_pgo Y x)) (x + 1) - 1)))) (n, cl_f f I P M H Y Z) := by
  obtain ⟨c1, c2, c3, c4, c5, c6, c7, c8, c9, c10, c11, c12⟩ := id hok
  obtain ⟨⟨hm1, hm1'⟩, hm2, hm3, hmJ, hmF, hmT⟩ := id c8
  obtain ⟨hbat, hbok, hbne⟩ := id c6
  obtain ⟨bw, bkq, bfq, hb0, hb1, hb2, hbw, ⟨hbd, -, -⟩, -⟩ := id hbat
  obtain ⟨⟨hw1, hw2⟩, hh1, hh2⟩ := id c5
  obtain ⟨⟨hl1, hl2⟩, ⟨hp1, hp2⟩, hy1, hy2, hy3⟩ := id (cl_fr_b hok hfr)
  have hcx : ∀ {I' : in_T} {M' : mk_T} {H' : hi_T} {Y' Z' : ly_T}, ly_cx n (cl_f f I' P M' H' Y' Z') 40 Y.1 B P.2.1 := by rw [hy1]; exact cl_cx hok (by decide) rfl
  obtain ⟨hA0, hN, h3, h5, h7, h89⟩ := id c10.1
  have hl : 0 ≤ Y.2.2.2.1 ∧ Y.2.2.2.1 ≤ 240 := by omega
  have hp : 0 ≤ Y.2.2.2.2.1 ∧ Y.2.2.2.2.1 ≤ 240 := by omega
  have hn0 := hbok.1.2.1
  have gp := ly_g_b (ln := Y.2.2.2.1) (hA0 3) (df := -1) (by omega) x
  have gp3 : -1 ≤ ly_g Y.2.2.2.1 (Y.2.2.2.2.2 3) (-1) x ∧ ly_g Y.2.2.2.1 (Y.2.2.2.2.2 3) (-1) x ≤ 10 := by unfold ly_g; split; have := h3 x.toNat; omega; omega
  refine ji_ent (by decide) rfl (Nat.le_of_ble_eq_true rfl) rfl ?_
  refine ji_aload_n dX7_lineProperty_0 rfl trivial ?_
  refine ji_get (ci := 7) (k := 8) rfl dX7_lineProperty_1 lX7_64 (by decide) (cl_0h) rfl ?_
  refine ji_iload_n dX7_lineProperty_4 rfl ?_
  refine ji_cV dX7_lineProperty_5 (cl_jYs (k_Layout_paragraphOfLine hcx hA0 hl (by omega))) rfl (cl_40h) rfl rfl wX3_paragraphOfLine vX3_paragraphOfLine lX7_411 rfl (Nat.le_of_ble_eq_true rfl) rfl ?_
  refine ji_istore_n dX7_lineProperty_8 (by decide) rfl ?_
  refine ji_iload_n dX7_lineProperty_9 rfl ?_
  refine ji_tswD (tgt := 102) dX7_lineProperty_10 (by omega) (by omega) rfl ?_
  refine ji_aload_n dX7_lineProperty_102 rfl trivial ?_
  refine ji_get (ci := 7) (k := 8) rfl dX7_lineProperty_103 lX7_64 (by decide) (cl_0h) rfl ?_
  refine ji_iload_n dX7_lineProperty_106 rfl ?_
  refine ji_cV dX7_lineProperty_107 (cl_jYs (k_Layout_rowOfLine hcx hA0 hl (by omega) hp h89)) rfl (cl_40h) rfl rfl wX3_rowOfLine vX3_rowOfLine lX7_426 rfl (Nat.le_of_ble_eq_true rfl) rfl ?_
  exact ji_ireturn dX7_lineProperty_110 rfl (rfl) ⟨jr_i (by first | rfl | omega), rfl⟩

set_option maxHeartbeats 4000000 in
set_option maxRecDepth 100000 in
theorem k_lineProperty (hok : cl_ok n f I P M H Y Z B NT SB) (hfr : cl_fr P Y B NT) {x : Int} (hx : 0 ≤ x ∧ x < Y.2.2.2.1) {v : Int} (hv : 0 ≤ v ∧ v < 6) : JR G (d + 3) mX7_lineProperty [.ref 0, .int (jI (x)), .int (jI (v))] (n, cl_f f I P M H Y Z) 0 0 (some (.int (jI (cl_lnp B Y x v)))) (n, cl_f f I P M H Y Z) := by
  rcases (show v = 0 ∨ v = 1 ∨ v = 2 ∨ v = 3 ∨ v = 4 ∨ v = 5 by omega) with rfl | rfl | rfl | rfl | rfl | rfl
  · exact k_lineProperty0 hok hfr hx
  · exact k_lineProperty1 hok hfr hx
  · exact k_lineProperty2 hok hfr hx
  · exact k_lineProperty3 hok hfr hx
  · exact k_lineProperty4 hok hfr hx
  · exact k_lineProperty5 hok hfr hx

set_option maxHeartbeats 4000000 in
set_option maxRecDepth 100000 in
theorem k_pageProperty0 (hok : cl_ok n f I P M H Y Z B NT SB) (hfr : cl_fr P Y B NT) {x : Int} (hx : 0 ≤ x ∧ x < Y.2.2.2.2.1) : JR G (d + 4) mX7_pageProperty [.ref 0, .int (jI (x)), .int (jI (0))] (n, cl_f f I P M H Y Z) 0 0 (some (.int (jI (bk_pos B (cl_pl B Y x))))) (n, cl_f f I P M H Y Z) := by
  obtain ⟨c1, c2, c3, c4, c5, c6, c7, c8, c9, c10, c11, c12⟩ := id hok
  obtain ⟨⟨hm1, hm1'⟩, hm2, hm3, hmJ, hmF, hmT⟩ := id c8
  obtain ⟨hbat, hbok, hbne⟩ := id c6
  obtain ⟨bw, bkq, bfq, hb0, hb1, hb2, hbw, ⟨hbd, -, -⟩, -⟩ := id hbat
  obtain ⟨⟨hw1, hw2⟩, hh1, hh2⟩ := id c5
  obtain ⟨⟨hl1, hl2⟩, ⟨hp1, hp2⟩, hy1, hy2, hy3⟩ := id (cl_fr_b hok hfr)
  have hcx : ∀ {I' : in_T} {M' : mk_T} {H' : hi_T} {Y' Z' : ly_T}, ly_cx n (cl_f f I' P M' H' Y' Z') 40 Y.1 B P.2.1 := by rw [hy1]; exact cl_cx hok (by decide) rfl
  obtain ⟨hA0, hN, h3, h5, h7, h89⟩ := id c10.1
  have hl : 0 ≤ Y.2.2.2.1 ∧ Y.2.2.2.1 ≤ 240 := by omega
  have hp : 0 ≤ Y.2.2.2.2.1 ∧ Y.2.2.2.2.1 ≤ 240 := by omega
  have hF9 : ∀ i, -1000000 ≤ M.2.2.2.2.1 i ∧ M.2.2.2.2.1 i ≤ 1000000 := fun i => by have := hmF i; omega
  have hT9 : ∀ i, -1000000 ≤ M.2.2.2.2.2.1 i ∧ M.2.2.2.2.2.1 i ≤ 1000000 := fun i => by have := hmT i; omega
  have hn0 := hbok.1.2.1
  have w1 := bk_ws_b hbok (ly_g Y.2.2.2.1 (Y.2.2.2.2.2 2) (bk_n B) (ly_g Y.2.2.2.2.1 (Y.2.2.2.2.2 9) Y.2.2.2.1 x))
  have w2 := bk_ws_b hbok (ly_g Y.2.2.2.1 (Y.2.2.2.2.2 2) (bk_n B) (ly_g Y.2.2.2.2.1 (Y.2.2.2.2.2 9) Y.2.2.2.1 (x + 1)))
  have w3 := ly_NP_b (ln := Y.2.2.2.1) h7 (ly_g Y.2.2.2.2.1 (Y.2.2.2.2.2 9) Y.2.2.2.1 x) (ly_g Y.2.2.2.2.1 (Y.2.2.2.2.2 9) Y.2.2.2.1 (x + 1))
  refine ji_ent (by decide) rfl (Nat.le_of_ble_eq_true rfl) rfl ?_
  refine ji_iload_n dX7_pageProperty_0 rfl ?_
  refine ji_tsw (tgt := 40) dX7_pageProperty_1 (by omega) (by omega) rfl rfl ?_
  refine ji_aload_n dX7_pageProperty_40 rfl trivial ?_
  refine ji_get (ci := 7) (k := 5) rfl dX7_pageProperty_41 lX7_41 (by decide) (cl_0h) rfl ?_
  refine ji_aload_n dX7_pageProperty_44 rfl trivial ?_
  refine ji_get (ci := 7) (k := 8) rfl dX7_pageProperty_45 lX7_64 (by decide) (cl_0h) rfl ?_
  refine ji_iload_n dX7_pageProperty_48 rfl ?_
  refine ji_cV dX7_pageProperty_49 (cl_jYs (k_Layout_placeOfPage hcx hA0 hl (by omega) hp h89)) rfl (cl_40h) rfl rfl wX3_placeOfPage vX3_placeOfPage lX7_210 rfl (Nat.le_of_ble_eq_true rfl) rfl ?_
  refine ji_cV dX7_pageProperty_52 (k_Book_positionOf (hbat.kept cl_kf) hbok (by omega)) rfl ((cl_dh hbd).trans hb0) rfl rfl wX0_positionOf vX0_positionOf lX7_235 rfl (Nat.le_of_ble_eq_true rfl) rfl ?_
  exact ji_ireturn dX7_pageProperty_55 rfl (rfl) ⟨jr_i (by first | rfl | omega), rfl⟩

set_option maxHeartbeats 4000000 in
set_option maxRecDepth 100000 in
theorem k_pageProperty1 (hok : cl_ok n f I P M H Y Z B NT SB) (hfr : cl_fr P Y B NT) {x : Int} (hx : 0 ≤ x ∧ x < Y.2.2.2.2.1) : JR G (d + 4) mX7_pageProperty [.ref 0, .int (jI (x)), .int (jI (1))] (n, cl_f f I P M H Y Z) 0 0 (some (.int (jI (if x + 1 < Y.2.2.2.2.1 then bk_pos B (cl_pl B Y (x + 1)) else -1)))) (n, cl_f f I P M H Y Z) := by
  obtain ⟨c1, c2, c3, c4, c5, c6, c7, c8, c9, c10, c11, c12⟩ := id hok
  obtain ⟨⟨hm1, hm1'⟩, hm2, hm3, hmJ, hmF, hmT⟩ := id c8
  obtain ⟨hbat, hbok, hbne⟩ := id c6
  obtain ⟨bw, bkq, bfq, hb0, hb1, hb2, hbw, ⟨hbd, -, -⟩, -⟩ := id hbat
  obtain ⟨⟨hw1, hw2⟩, hh1, hh2⟩ := id c5
  obtain ⟨⟨hl1, hl2⟩, ⟨hp1, hp2⟩, hy1, hy2, hy3⟩ := id (cl_fr_b hok hfr)
  have hcx : ∀ {I' : in_T} {M' : mk_T} {H' : hi_T} {Y' Z' : ly_T}, ly_cx n (cl_f f I' P M' H' Y' Z') 40 Y.1 B P.2.1 := by rw [hy1]; exact cl_cx hok (by decide) rfl
  obtain ⟨hA0, hN, h3, h5, h7, h89⟩ := id c10.1
  have hl : 0 ≤ Y.2.2.2.1 ∧ Y.2.2.2.1 ≤ 240 := by omega
  have hp : 0 ≤ Y.2.2.2.2.1 ∧ Y.2.2.2.2.1 ≤ 240 := by omega
  have hF9 : ∀ i, -1000000 ≤ M.2.2.2.2.1 i ∧ M.2.2.2.2.1 i ≤ 1000000 := fun i => by have := hmF i; omega
  have hT9 : ∀ i, -1000000 ≤ M.2.2.2.2.2.1 i ∧ M.2.2.2.2.2.1 i ≤ 1000000 := fun i => by have := hmT i; omega
  have hn0 := hbok.1.2.1
  have w1 := bk_ws_b hbok (ly_g Y.2.2.2.1 (Y.2.2.2.2.2 2) (bk_n B) (ly_g Y.2.2.2.2.1 (Y.2.2.2.2.2 9) Y.2.2.2.1 x))
  have w2 := bk_ws_b hbok (ly_g Y.2.2.2.1 (Y.2.2.2.2.2 2) (bk_n B) (ly_g Y.2.2.2.2.1 (Y.2.2.2.2.2 9) Y.2.2.2.1 (x + 1)))
  have w3 := ly_NP_b (ln := Y.2.2.2.1) h7 (ly_g Y.2.2.2.2.1 (Y.2.2.2.2.2 9) Y.2.2.2.1 x) (ly_g Y.2.2.2.2.1 (Y.2.2.2.2.2 9) Y.2.2.2.1 (x + 1))
  refine ji_ent (by decide) rfl (Nat.le_of_ble_eq_true rfl) rfl ?_
  refine ji_iload_n dX7_pageProperty_0 rfl ?_
  refine ji_tsw (tgt := 56) dX7_pageProperty_1 (by omega) (by omega) rfl rfl ?_
  refine ji_iload_n dX7_pageProperty_56 rfl ?_
  refine ji_iconst dX7_pageProperty_57 ?_
  refine ji_iadd dX7_pageProperty_58 ?_
  refine ji_aload_n dX7_pageProperty_59 rfl trivial ?_
  refine ji_get (ci := 7) (k := 8) rfl dX7_pageProperty_60 lX7_64 (by decide) (cl_0h) rfl ?_
  refine ji_cV dX7_pageProperty_63 (cl_jYs (k_Layout_pages hcx hA0 hl)) rfl (cl_40h) rfl rfl wX3_pages vX3_pages lX7_149 rfl (Nat.le_of_ble_eq_true rfl) rfl ?_
  refine ji_icmp_ge (tgt := 89) dX7_pageProperty_66 rfl (by omega) (by omega) (fun c66 => ?_) (fun c66 => ?_)
  · try (exfalso; omega)
    all_goals
      refine ji_iconst dX7_pageProperty_89 ?_
      exact ji_ireturn dX7_pageProperty_90 rfl (rfl) ⟨jr_i (by first | (rw [if_pos (by omega)]; rfl) | rw [if_neg (by omega)]), rfl⟩
  · try (exfalso; omega)
    all_goals
      refine ji_aload_n dX7_pageProperty_69 rfl trivial ?_
      refine ji_get (ci := 7) (k := 5) rfl dX7_pageProperty_70 lX7_41 (by decide) (cl_0h) rfl ?_
      refine ji_aload_n dX7_pageProperty_73 rfl trivial ?_
      refine ji_get (ci := 7) (k := 8) rfl dX7_pageProperty_74 lX7_64 (by decide) (cl_0h) rfl ?_
      refine ji_iload_n dX7_pageProperty_77 rfl ?_
      refine ji_iconst dX7_pageProperty_78 ?_
      refine ji_iadd dX7_pageProperty_79 ?_
      refine ji_cV dX7_pageProperty_80 (cl_jYs (k_Layout_placeOfPage hcx hA0 hl (by omega) hp h89)) rfl (cl_40h) rfl rfl wX3_placeOfPage vX3_placeOfPage lX7_210 rfl (Nat.le_of_ble_eq_true rfl) rfl ?_
      refine ji_cV dX7_pageProperty_83 (k_Book_positionOf (hbat.kept cl_kf) hbok (by omega)) rfl ((cl_dh hbd).trans hb0) rfl rfl wX0_positionOf vX0_positionOf lX7_235 rfl (Nat.le_of_ble_eq_true rfl) rfl ?_
      refine ji_goto (tgt := 90) dX7_pageProperty_86 rfl ?_
      exact ji_ireturn dX7_pageProperty_90 rfl (rfl) ⟨jr_i (by first | (rw [if_pos (by omega)]; rfl) | rw [if_neg (by omega)]), rfl⟩

set_option maxHeartbeats 4000000 in
set_option maxRecDepth 100000 in
theorem k_pageProperty2 (hok : cl_ok n f I P M H Y Z B NT SB) (hfr : cl_fr P Y B NT) {x : Int} (hx : 0 ≤ x ∧ x < Y.2.2.2.2.1) : JR G (d + 4) mX7_pageProperty [.ref 0, .int (jI (x)), .int (jI (2))] (n, cl_f f I P M H Y Z) 0 0 (some (.int (jI (cl_fl Y (x + 1) - cl_fl Y x)))) (n, cl_f f I P M H Y Z) := by
  obtain ⟨c1, c2, c3, c4, c5, c6, c7, c8, c9, c10, c11, c12⟩ := id hok
  obtain ⟨⟨hm1, hm1'⟩, hm2, hm3, hmJ, hmF, hmT⟩ := id c8
  obtain ⟨hbat, hbok, hbne⟩ := id c6
  obtain ⟨bw, bkq, bfq, hb0, hb1, hb2, hbw, ⟨hbd, -, -⟩, -⟩ := id hbat
  obtain ⟨⟨hw1, hw2⟩, hh1, hh2⟩ := id c5
  obtain ⟨⟨hl1, hl2⟩, ⟨hp1, hp2⟩, hy1, hy2, hy3⟩ := id (cl_fr_b hok hfr)
  have hcx : ∀ {I' : in_T} {M' : mk_T} {H' : hi_T} {Y' Z' : ly_T}, ly_cx n (cl_f f I' P M' H' Y' Z') 40 Y.1 B P.2.1 := by rw [hy1]; exact cl_cx hok (by decide) rfl
  obtain ⟨hA0, hN, h3, h5, h7, h89⟩ := id c10.1
  have hl : 0 ≤ Y.2.2.2.1 ∧ Y.2.2.2.1 ≤ 240 := by omega
  have hp : 0 ≤ Y.2.2.2.2.1 ∧ Y.2.2.2.2.1 ≤ 240 := by omega
  have hF9 : ∀ i, -1000000 ≤ M.2.2.2.2.1 i ∧ M.2.2.2.2.1 i ≤ 1000000 := fun i => by have := hmF i; omega
  have hT9 : ∀ i, -1000000 ≤ M.2.2.2.2.2.1 i ∧ M.2.2.2.2.2.1 i ≤ 1000000 := fun i => by have := hmT i; omega
  have hn0 := hbok.1.2.1
  have w1 := bk_ws_b hbok (ly_g Y.2.2.2.1 (Y.2.2.2.2.2 2) (bk_n B) (ly_g Y.2.2.2.2.1 (Y.2.2.2.2.2 9) Y.2.2.2.1 x))
  have w2 := bk_ws_b hbok (ly_g Y.2.2.2.1 (Y.2.2.2.2.2 2) (bk_n B) (ly_g Y.2.2.2.2.1 (Y.2.2.2.2.2 9) Y.2.2.2.1 (x + 1)))
  have w3 := ly_NP_b (ln := Y.2.2.2.1) h7 (ly_g Y.2.2.2.2.1 (Y.2.2.2.2.2 9) Y.2.2.2.1 x) (ly_g Y.2.2.2.2.1 (Y.2.2.2.2.2 9) Y.2.2.2.1 (x + 1))
  refine ji_ent (by decide) rfl (Nat.le_of_ble_eq_true rfl) rfl ?_
  refine ji_iload_n dX7_pageProperty_0 rfl ?_
  refine ji_tsw (tgt := 91) dX7_pageProperty_1 (by omega) (by omega) rfl rfl ?_
  refine ji_aload_n dX7_pageProperty_91 rfl trivial ?_
  refine ji_get (ci := 7) (k := 8) rfl dX7_pageProperty_92 lX7_64 (by decide) (cl_0h) rfl ?_
  refine ji_iload_n dX7_pageProperty_95 rfl ?_
  refine ji_iconst dX7_pageProperty_96 ?_
  refine ji_iadd dX7_pageProperty_97 ?_
  refine ji_cV dX7_pageProperty_98 (cl_jYs (k_Layout_firstLineOfPage hcx hA0 hl (by omega) hp)) rfl (cl_40h) rfl rfl wX3_firstLineOfPage vX3_firstLineOfPage lX7_429 rfl (Nat.le_of_ble_eq_true rfl) rfl ?_
  refine ji_aload_n dX7_pageProperty_101 rfl trivial ?_
  refine ji_get (ci := 7) (k := 8) rfl dX7_pageProperty_102 lX7_64 (by decide) (cl_0h) rfl ?_
  refine ji_iload_n dX7_pageProperty_105 rfl ?_
  refine ji_cV dX7_pageProperty_106 (cl_jYs (k_Layout_firstLineOfPage hcx hA0 hl (by omega) hp)) rfl (cl_40h) rfl rfl wX3_firstLineOfPage vX3_firstLineOfPage lX7_429 rfl (Nat.le_of_ble_eq_true rfl) rfl ?_
  refine ji_isub dX7_pageProperty_109 ?_
  exact ji_ireturn dX7_pageProperty_110 rfl (rfl) ⟨jr_i (by first | rfl | omega), rfl⟩

set_option maxHeartbeats 4000000 in
set_option maxRecDepth 100000 in
theorem k_pageProperty3 (hok : cl_ok n f I P M H Y Z B NT SB) (hfr : cl_fr P Y B NT) {x : Int} (hx : 0 ≤ x ∧ x < Y.2.2.2.2.1) : JR G (d + 4) mX7_pageProperty [.ref 0, .int (jI (x)), .int (jI (3))] (n, cl_f f I P M H Y Z) 0 0 (some (.int (jI (cl_rw Y (cl_fl Y x) (cl_fl Y (x + 1)))))) (n, cl_f f I P M H Y Z) := by
  obtain ⟨c1, c2, c3, c4, c5, c6, c7, c8, c9, c10, c11, c12⟩ := id hok
  obtain ⟨⟨hm1, hm1'⟩, hm2, hm3, hmJ, hmF, hmT⟩ := id c8
  obtain ⟨hbat, hbok, hbne⟩ := id c6
  obtain ⟨bw, bkq, bfq, hb0, hb1, hb2, hbw, ⟨hbd, -, -⟩, -⟩ := id hbat
  obtain ⟨⟨hw1, hw2⟩, hh1, hh2⟩ := id c5
  obtain ⟨⟨hl1, hl2⟩, ⟨hp1, hp2⟩, hy1, hy2, hy3⟩ := id (cl_fr_b hok hfr)
  have hcx : ∀ {I' : in_T} {M' : mk_T} {H' : hi_T} {Y' Z' : ly_T}, ly_cx n (cl_f f I' P M' H' Y' Z') 40 Y.1 B P.2.1 := by rw [hy1]; exact cl_cx hok (by decide) rfl
  obtain ⟨hA0, hN, h3, h5, h7, h89⟩ := id c10.1
  have hl : 0 ≤ Y.2.2.2.1 ∧ Y.2.2.2.1 ≤ 240 := by omega
  have hp : 0 ≤ Y.2.2.2.2.1 ∧ Y.2.2.2.2.1 ≤ 240 := by omega
  have hF9 : ∀ i, -1000000 ≤ M.2.2.2.2.1 i ∧ M.2.2.2.2.1 i ≤ 1000000 := fun i => by have := hmF i; omega
  have hT9 : ∀ i, -1000000 ≤ M.2.2.2.2.2.1 i ∧ M.2.2.2.2.2.1 i ≤ 1000000 := fun i => by have := hmT i; omega
  have hn0 := hbok.1.2.1
  have w1 := bk_ws_b hbok (ly_g Y.2.2.2.1 (Y.2.2.2.2.2 2) (bk_n B) (ly_g Y.2.2.2.2.1 (Y.2.2.2.2.2 9) Y.2.2.2.1 x))
  have w2 := bk_ws_b hbok (ly_g Y.2.2.2.1 (Y.2.2.2.2.2 2) (bk_n B) (ly_g Y.2.2.2.2.1 (Y.2.2.2.2.2 9) Y.2.2.2.1 (x + 1)))
  have w3 := ly_NP_b (ln := Y.2.2.2.1) h7 (ly_g Y.2.2.2.2.1 (Y.2.2.2.2.2 9) Y.2.2.2.1 x) (ly_g Y.2.2.2.2.1 (Y.2.2.2.2.2 9) Y.2.2.2.1 (x + 1))
  refine ji_ent (by decide) rfl (Nat.le_of_ble_eq_true rfl) rfl ?_
  refine ji_iload_n dX7_pageProperty_0 rfl ?_
  refine ji_tsw (tgt := 111) dX7_pageProperty_1 (by omega) (by omega) rfl rfl ?_
  refine ji_aload_n dX7_pageProperty_111 rfl trivial ?_
  refine ji_get (ci := 7) (k := 8) rfl dX7_pageProperty_112 lX7_64 (by decide) (cl_0h) rfl ?_
  refine ji_iload_n dX7_pageProperty_115 rfl ?_
  refine ji_cV dX7_pageProperty_116 (cl_jYs (k_Layout_rowsOfPage hcx hA0 hl (by omega) hp h89)) rfl (cl_40h) rfl rfl wX3_rowsOfPage vX3_rowsOfPage lX7_357 rfl (Nat.le_of_ble_eq_true rfl) rfl ?_
  exact ji_ireturn dX7_pageProperty_119 rfl (rfl) ⟨jr_i (by first | rfl | omega), rfl⟩

set_option maxHeartbeats 4000000 in
set_option maxRecDepth 100000 in
theorem k_pageProperty4 (hok : cl_ok n f I P M H Y Z B NT SB) (hfr : cl_fr P Y B NT) {x : Int} (hx : 0 ≤ x ∧ x < Y.2.2.2.2.1) : JR G (d + 4) mX7_pageProperty [.ref 0, .int (jI (x)), .int (jI (4))] (n, cl_f f I P M H Y Z) 0 0 (some (.int (jI (cl_rn P Y (cl_np Y x))))) (n, cl_f f I P M H Y Z) := by
  obtain ⟨c1, c2, c3, c4, c5, c6, c7, c8, c9, c10, c11, c12⟩ := id hok
  obtain ⟨⟨hm1, hm1'⟩, hm2, hm3, hmJ, hmF, hmT⟩ := id c8
  obtain ⟨hbat, hbok, hbne⟩ := id c6
  obtain ⟨bw, bkq, bfq, hb0, hb1, hb2, hbw, ⟨hbd, -, -⟩, -⟩ := id hbat
  obtain ⟨⟨hw1, hw2⟩, hh1, hh2⟩ := id c5
  obtain ⟨⟨hl1, hl2⟩, ⟨hp1, hp2⟩, hy1, hy2, hy3⟩ := id (cl_fr_b hok hfr)
  have hcx : ∀ {I' : in_T} {M' : mk_T} {H' : hi_T} {Y' Z' : ly_T}, ly_cx n (cl_f f I' P M' H' Y' Z') 40 Y.1 B P.2.1 := by rw [hy1]; exact cl_cx hok (by decide) rfl
  obtain ⟨hA0, hN, h3, h5, h7, h89⟩ := id c10.1
  have hl : 0 ≤ Y.2.2.2.1 ∧ Y.2.2.2.1 ≤ 240 := by omega
  have hp : 0 ≤ Y.2.2.2.2.1 ∧ Y.2.2.2.2.1 ≤ 240 := by omega
  have hF9 : ∀ i, -1000000 ≤ M.2.2.2.2.1 i ∧ M.2.2.2.2.1 i ≤ 1000000 := fun i => by have := hmF i; omega
  have hT9 : ∀ i, -1000000 ≤ M.2.2.2.2.2.1 i ∧ M.2.2.2.2.2.1 i ≤ 1000000 := fun i => by have := hmT i; omega
  have hn0 := hbok.1.2.1
  have w1 := bk_ws_b hbok (ly_g Y.2.2.2.1 (Y.2.2.2.2.2 2) (bk_n B) (ly_g Y.2.2.2.2.1 (Y.2.2.2.2.2 9) Y.2.2.2.1 x))
  have w2 := bk_ws_b hbok (ly_g Y.2.2.2.1 (Y.2.2.2.2.2 2) (bk_n B) (ly_g Y.2.2.2.2.1 (Y.2.2.2.2.2 9) Y.2.2.2.1 (x + 1)))
  have w3 := ly_NP_b (ln := Y.2.2.2.1) h7 (ly_g Y.2.2.2.2.1 (Y.2.2.2.2.2 9) Y.2.2.2.1 x) (ly_g Y.2.2.2.2.1 (Y.2.2.2.2.2 9) Y.2.2.2.1 (x + 1))
  refine ji_ent (by decide) rfl (Nat.le_of_ble_eq_true rfl) rfl ?_
  refine ji_iload_n dX7_pageProperty_0 rfl ?_
  refine ji_tsw (tgt := 120) dX7_pageProperty_1 (by omega) (by omega) rfl rfl ?_
  refine ji_aload_n dX7_pageProperty_120 rfl trivial ?_
  refine ji_get (ci := 7) (k := 8) rfl dX7_pageProperty_121 lX7_64 (by decide) (cl_0h) rfl ?_
  refine ji_iload_n dX7_pageProperty_124 rfl ?_
  refine ji_cV dX7_pageProperty_125 (cl_jYs (k_Layout_noteRowsOfPage hcx hA0 hl (by omega) hp h89 h7 hN)) rfl (cl_40h) rfl rfl wX3_noteRowsOfPage vX3_noteRowsOfPage lX7_360 rfl (Nat.le_of_ble_eq_true rfl) rfl ?_
  exact ji_ireturn dX7_pageProperty_128 rfl (rfl) ⟨jr_i (by first | rfl | omega), rfl⟩

set_option maxHeartbeats 4000000 in
set_option maxRecDepth 100000 in
theorem k_pageProperty5 (hok : cl_ok n f I P M H Y Z B NT SB) (hfr : cl_fr P Y B NT) {x : Int} (hx : 0 ≤ x ∧ x < Y.2.2.2.2.1) : JR G (d + 4) mX7_pageProperty [.ref 0, .int (jI (x)), .int (jI (5))] (n, cl_f f I P M H Y Z) 0 0 (some (.int (jI (ly_bc (cl_np Y x))))) (n, cl_f f I P M H Y Z) := by
  obtain ⟨c1, c2, c3, c4, c5, c6, c7, c8, c9, c10, c11, c12⟩ := id hok
  obtain ⟨⟨hm1, hm1'⟩, hm2, hm3, hmJ, hmF, hmT⟩ := id c8
  obtain ⟨hbat, hbok, hbne⟩ := id c6
  obtain ⟨bw, bkq, bfq, hb0, hb1, hb2, hbw, ⟨hbd, -, -⟩, -⟩ := id hbat
  obtain ⟨⟨hw1, hw2⟩, hh1, hh2⟩ := id c5
  obtain ⟨⟨hl1, hl2⟩, ⟨hp1, hp2⟩, hy1, hy2, hy3⟩ := id (cl_fr_b hok hfr)
  have hcx : ∀ {I' : in_T} {M' : mk_T} {H' : hi_T} {Y' Z' : ly_T}, ly_cx n (cl_f f I' P M' H' Y' Z') 40 Y.1 B P.2.1 := by rw [hy1]; exact cl_cx hok (by decide) rfl
  obtain ⟨hA0, hN, h3, h5, h7, h89⟩ := id c10.1
  have hl : 0 ≤ Y.2.2.2.1 ∧ Y.2.2.2.1 ≤ 240 := by omega
  have hp : 0 ≤ Y.2.2.2.2.1 ∧ Y.2.2.2.2.1 ≤ 240 := by omega
  have hF9 : ∀ i, -1000000 ≤ M.2.2.2.2.1 i ∧ M.2.2.2.2.1 i ≤ 1000000 := fun i => by have := hmF i; omega
  have hT9 : ∀ i, -1000000 ≤ M.2.2.2.2.2.1 i ∧ M.2.2.2.2.2.1 i ≤ 1000000 := fun i => by have := hmT i; omega
  have hn0 := hbok.1.2.1
  have w1 := bk_ws_b hbok (ly_g Y.2.2.2.1 (Y.2.2.2.2.2 2) (bk_n B) (ly_g Y.2.2.2.2.1 (Y.2.2.2.2.2 9) Y.2.2.2.1 x))
  have w2 := bk_ws_b hbok (ly_g Y.2.2.2.1 (Y.2.2.2.2.2 2) (bk_n B) (ly_g Y.2.2.2.2.1 (Y.2.2.2.2.2 9) Y.2.2.2.1 (x + 1)))
  have w3 := ly_NP_b (ln := Y.2.2.2.1) h7 (ly_g Y.2.2.2.2.1 (Y.2.2.2.2.2 9) Y.2.2.2.1 x) (ly_g Y.2.2.2.2.1 (Y.2.2.2.2.2 9) Y.2.2.2.1 (x + 1))
  refine ji_ent (by decide) rfl (Nat.le_of_ble_eq_true rfl) rfl ?_
  refine ji_iload_n dX7_pageProperty_0 rfl ?_
  refine ji_tsw (tgt := 129) dX7_pageProperty_1 (by omega) (by omega) rfl rfl ?_
  refine ji_aload_n dX7_pageProperty_129 rfl trivial ?_
  refine ji_get (ci := 7) (k := 8) rfl dX7_pageProperty_130 lX7_64 (by decide) (cl_0h) rfl ?_
  refine ji_iload_n dX7_pageProperty_133 rfl ?_
  refine ji_cV dX7_pageProperty_134 (cl_jYs (k_Layout_notesOfPage hcx hA0 hl (by omega) hp h89 h7)) rfl (cl_40h) rfl rfl wX3_notesOfPage vX3_notesOfPage lX7_432 rfl (Nat.le_of_ble_eq_true rfl) rfl ?_
  refine ji_cS dX7_pageProperty_137 (k_bitCount w3) rfl wJ6_bc sJ6_bc lX7_bc rfl (Nat.le_of_ble_eq_true rfl) rfl ?_
  exact ji_ireturn dX7_pageProperty_140 rfl (rfl) ⟨jr_i (by first | rfl | omega), rfl⟩

set_option maxHeartbeats 4000000 in
set_option maxRecDepth 100000 in
theorem k_pageProperty6 (hok : cl_ok n f I P M H Y Z B NT SB) (hfr : cl_fr P Y B NT) {x : Int} (hx : 0 ≤ x ∧ x < Y.2.2.2.2.1) : JR G (d + 4) mX7_pageProperty [.ref 0, .int (jI (x)), .int (jI (6))] (n, cl_f f I P M H Y Z) 0 0 (some (.int (jI (mk_bt M.2.2.1 M.2.2.2.2.1 M.2.2.2.2.2.1 (cl_pl B Y x) (cl_pl B Y (x + 1)) M.2.2.1.toNat)))) (n, cl_f f I P M H Y Z) := by
  obtain ⟨c1, c2, c3, c4, c5, c6, c7, c8, c9, c10, c11, c12⟩ := id hok
  obtain ⟨⟨hm1, hm1'⟩, hm2, hm3, hmJ, hmF, hmT⟩ := id c8
  obtain ⟨hbat, hbok, hbne⟩ := id c6
  obtain ⟨bw, bkq, bfq, hb0, hb1, hb2, hbw, ⟨hbd, -, -⟩, -⟩ := id hbat
  obtain ⟨⟨hw1, hw2⟩, hh1, hh2⟩ := id c5
  obtain ⟨⟨hl1, hl2⟩, ⟨hp1, hp2⟩, hy1, hy2, hy3⟩ := id (cl_fr_b hok hfr)
  have hcx : ∀ {I' : in_T} {M' : mk_T} {H' : hi_T} {Y' Z' : ly_T}, ly_cx n (cl_f f I' P M' H' Y' Z') 40 Y.1 B P.2.1 := by rw [hy1]; exact cl_cx hok (by decide) rfl
  obtain ⟨hA0, hN, h3, h5, h7, h89⟩ := id c10.1
  have hl : 0 ≤ Y.2.2.2.1 ∧ Y.2.2.2.1 ≤ 240 := by omega
  have hp : 0 ≤ Y.2.2.2.2.1 ∧ Y.2.2.2.2.1 ≤ 240 := by omega
  have hF9 : ∀ i, -1000000 ≤ M.2.2.2.2.1 i ∧ M.2.2.2.2.1 i ≤ 1000000 := fun i => by have := hmF i; omega
  have hT9 : ∀ i, -1000000 ≤ M.2.2.2.2.2.1 i ∧ M.2.2.2.2.2.1 i ≤ 1000000 := fun i => by have := hmT i; omega
  have hn0 := hbok.1.2.1
  have w1 := bk_ws_b hbok (ly_g Y.2.2.2.1 (Y.2.2.2.2.2 2) (bk_n B) (ly_g Y.2.2.2.2.1 (Y.2.2.2.2.2 9) Y.2.2.2.1 x))
  have w2 := bk_ws_b hbok (ly_g Y.2.2.2.1 (Y.2.2.2.2.2 2) (bk_n B) (ly_g Y.2.2.2.2.1 (Y.2.2.2.2.2 9) Y.2.2.2.1 (x + 1)))
  have w3 := ly_NP_b (ln := Y.2.2.2.1) h7 (ly_g Y.2.2.2.2.1 (Y.2.2.2.2.2 9) Y.2.2.2.1 x) (ly_g Y.2.2.2.2.1 (Y.2.2.2.2.2 9) Y.2.2.2.1 (x + 1))
  refine ji_ent (by decide) rfl (Nat.le_of_ble_eq_true rfl) rfl ?_
  refine ji_iload_n dX7_pageProperty_0 rfl ?_
  refine ji_tswD (tgt := 141) dX7_pageProperty_1 (by omega) (by omega) rfl ?_
  refine ji_aload_n dX7_pageProperty_141 rfl trivial ?_
  refine ji_get (ci := 7) (k := 6) rfl dX7_pageProperty_142 lX7_48 (by decide) (cl_0h) rfl ?_
  refine ji_aload_n dX7_pageProperty_145 rfl trivial ?_
  refine ji_get (ci := 7) (k := 8) rfl dX7_pageProperty_146 lX7_64 (by decide) (cl_0h) rfl ?_
  refine ji_iload_n dX7_pageProperty_149 rfl ?_
  refine ji_cV dX7_pageProperty_150 (cl_jYs (k_Layout_placeOfPage hcx hA0 hl (by omega) hp h89)) rfl (cl_40h) rfl rfl wX3_placeOfPage vX3_placeOfPage lX7_210 rfl (Nat.le_of_ble_eq_true rfl) rfl ?_
  refine ji_aload_n dX7_pageProperty_153 rfl trivial ?_
  refine ji_get (ci := 7) (k := 8) rfl dX7_pageProperty_154 lX7_64 (by decide) (cl_0h) rfl ?_
  refine ji_iload_n dX7_pageProperty_157 rfl ?_
  refine ji_iconst dX7_pageProperty_158 ?_
  refine ji_iadd dX7_pageProperty_159 ?_
  refine ji_cV dX7_pageProperty_160 (cl_jYs (k_Layout_placeOfPage hcx hA0 hl (by omega) hp h89)) rfl (cl_40h) rfl rfl wX3_placeOfPage vX3_placeOfPage lX7_210 rfl (Nat.le_of_ble_eq_true rfl) rfl ?_
  refine ji_cV dX7_pageProperty_163 (cl_jM M (k_Marks_annotationsBetween hm3 hF9 hT9 (by omega) (by omega))) rfl (cl_12h) rfl rfl wX4_annotationsBetween vX4_annotationsBetween lX7_440 rfl (Nat.le_of_ble_eq_true rfl) rfl ?_
  exact ji_ireturn dX7_pageProperty_166 rfl (rfl) ⟨jr_i (by first | rfl | omega), rfl⟩

set_option maxHeartbeats 4000000 in
set_option maxRecDepth 100000 in
theorem k_pageProperty (hok : cl_ok n f I P M H Y Z B NT SB) (hfr : cl_fr P Y B NT) {x : Int} (hx : 0 ≤ x ∧ x < Y.2.2.2.2.1) {v : Int} (hv : 0 ≤ v ∧ v < 7) : JR G (d + 4) mX7_pageProperty [.ref 0, .int (jI (x)), .int (jI (v))] (n, cl_f f I P M H Y Z) 0 0 (some (.int (jI (cl_pgp B P M Y x v)))) (n, cl_f f I P M H Y Z) := by
  rcases (show v = 0 ∨ v = 1 ∨ v = 2 ∨ v = 3 ∨ v = 4 ∨ v = 5 ∨ v = 6 by omega) with rfl | rfl | rfl | rfl | rfl | rfl | rfl
  · exact k_pageProperty0 hok hfr hx
  · exact k_pageProperty1 hok hfr hx
  · exact k_pageProperty2 hok hfr hx
  · exact k_pageProperty3 hok hfr hx
  · exact k_pageProperty4 hok hfr hx
  · exact k_pageProperty5 hok hfr hx
  · exact k_pageProperty6 hok hfr hx

set_option maxHeartbeats 4000000 in
set_option maxRecDepth 100000 in
theorem k_annotationProperty0 (hok : cl_ok n f I P M H Y Z B NT SB) (hfr : cl_fr P Y B NT) {x : Int} (hx : 0 ≤ x ∧ x < M.2.2.1) : JR G (d + 3) mX7_annotationProperty [.ref 0, .int (jI (x)), .int (jI (0))] (n, cl_f f I P M H Y Z) 0 0 (some (.int (jI (bk_PA B (cl_fm M x))))) (n, cl_f f I P M H Y Z) := by
  obtain ⟨c1, c2, c3, c4, c5, c6, c7, c8, c9, c10, c11, c12⟩ := id hok
  obtain ⟨⟨hm1, hm1'⟩, hm2, hm3, hmJ, hmF, hmT⟩ := id c8
  obtain ⟨hbat, hbok, hbne⟩ := id c6
  obtain ⟨bw, bkq, bfq, hb0, hb1, hb2, hbw, ⟨hbd, -, -⟩, -⟩ := id hbat
  obtain ⟨⟨hw1, hw2⟩, hh1, hh2⟩ := id c5
  obtain ⟨⟨hl1, hl2⟩, ⟨hp1, hp2⟩, hy1, hy2, hy3⟩ := id (cl_fr_b hok hfr)
  have hcx : ∀ {I' : in_T} {M' : mk_T} {H' : hi_T} {Y' Z' : ly_T}, ly_cx n (cl_f f I' P M' H' Y' Z') 40 Y.1 B P.2.1 := by rw [hy1]; exact cl_cx hok (by decide) rfl
  obtain ⟨hA0, hN, h3, h5, h7, h89⟩ := id c10.1
  have hl : 0 ≤ Y.2.2.2.1 ∧ Y.2.2.2.1 ≤ 240 := by omega
  have hp : 0 ≤ Y.2.2.2.2.1 ∧ Y.2.2.2.2.1 ≤ 240 := by omega
  have hF9 : ∀ i, -1000000 ≤ M.2.2.2.2.1 i ∧ M.2.2.2.2.1 i ≤ 1000000 := fun i => by have := hmF i; omega
  have hT9 : ∀ i, -1000000 ≤ M.2.2.2.2.2.1 i ∧ M.2.2.2.2.2.1 i ≤ 1000000 := fun i => by have := hmT i; omega
  have w1 := mk_get_b (a := M.2.2.1) hF9 x
  have w2 := mk_get_b (a := M.2.2.1) hT9 x
  have w3 := bk_PA_b B (mk_get M.2.2.1 M.2.2.2.2.1 x) hbok
  have w4 := mk_lost_b M.2.2.1 M.2.2.2.2.1 M.2.2.2.2.2.1 x
  refine ji_ent (by decide) rfl (Nat.le_of_ble_eq_true rfl) rfl ?_
  refine ji_aload_n dX7_annotationProperty_0 rfl trivial ?_
  refine ji_get (ci := 7) (k := 6) rfl dX7_annotationProperty_1 lX7_48 (by decide) (cl_0h) rfl ?_
  refine ji_iload_n dX7_annotationProperty_4 rfl ?_
  refine ji_cV dX7_annotationProperty_5 (cl_jMs (k_Marks_fromOf (by omega) hm3)) rfl (cl_12h) rfl rfl wX4_fromOf vX4_fromOf lX7_443 rfl (Nat.le_of_ble_eq_true rfl) rfl ?_
  refine ji_istore_n dX7_annotationProperty_8 (by decide) rfl ?_
  refine ji_aload_n dX7_annotationProperty_9 rfl trivial ?_
  refine ji_get (ci := 7) (k := 5) rfl dX7_annotationProperty_10 lX7_41 (by decide) (cl_0h) rfl ?_
  refine ji_iload_n dX7_annotationProperty_13 rfl ?_
  refine ji_cV dX7_annotationProperty_14 (k_Book_paragraphAt (hbat.kept cl_kf) hbok (by omega)) rfl ((cl_dh hbd).trans hb0) rfl rfl wX0_paragraphAt vX0_paragraphAt lX7_446 rfl (Nat.le_of_ble_eq_true rfl) rfl ?_
  refine ji_istore dX7_annotationProperty_17 (by decide) rfl ?_
  refine ji_iload_n dX7_annotationProperty_19 rfl ?_
  refine ji_tsw (tgt := 56) dX7_annotationProperty_20 (by omega) (by omega) rfl rfl ?_
  refine ji_iload dX7_annotationProperty_56 rfl ?_
  exact ji_ireturn dX7_annotationProperty_58 rfl (rfl) ⟨jr_i (by first | rfl | omega), rfl⟩

set_option maxHeartbeats 4000000 in
set_option maxRecDepth 100000 in
theorem k_annotationProperty1 (hok : cl_ok n f I P M H Y Z B NT SB) (hfr : cl_fr P Y B NT) {x : Int} (hx : 0 ≤ x ∧ x < M.2.2.1) : JR G (d + 3) mX7_annotationProperty [.ref 0, .int (jI (x)), .int (jI (1))] (n, cl_f f I P M H Y Z) 0 0 (some (.int (jI (cl_fm M x - bk_start B (bk_PA B (cl_fm M x)))))) (n, cl_f f I P M H Y Z) := by
  obtain ⟨c1, c2, c3, c4, c5, c6, c7, c8, c9, c10, c11, c12⟩ := id hok
  obtain ⟨⟨hm1, hm1'⟩, hm2, hm3, hmJ, hmF, hmT⟩ := id c8
  obtain ⟨hbat, hbok, hbne⟩ := id c6
  obtain ⟨bw, bkq, bfq, hb0, hb1, hb2, hbw, ⟨hbd, -, -⟩, -⟩ := id hbat
  obtain ⟨⟨hw1, hw2⟩, hh1, hh2⟩ := id c5
  obtain ⟨⟨hl1, hl2⟩, ⟨hp1, hp2⟩, hy1, hy2, hy3⟩ := id (cl_fr_b hok hfr)
  have hcx : ∀ {I' : in_T} {M' : mk_T} {H' : hi_T} {Y' Z' : ly_T}, ly_cx n (cl_f f I' P M' H' Y' Z') 40 Y.1 B P.2.1 := by rw [hy1]; exact cl_cx hok (by decide) rfl
  obtain ⟨hA0, hN, h3, h5, h7, h89⟩ := id c10.1
  have hl : 0 ≤ Y.2.2.2.1 ∧ Y.2.2.2.1 ≤ 240 := by omega
  have hp : 0 ≤ Y.2.2.2.2.1 ∧ Y.2.2.2.2.1 ≤ 240 := by omega
  have hF9 : ∀ i, -1000000 ≤ M.2.2.2.2.1 i ∧ M.2.2.2.2.1 i ≤ 1000000 := fun i => by have := hmF i; omega
  have hT9 : ∀ i, -1000000 ≤ M.2.2.2.2.2.1 i ∧ M.2.2.2.2.2.1 i ≤ 1000000 := fun i => by have := hmT i; omega
  have w1 := mk_get_b (a := M.2.2.1) hF9 x
  have w2 := mk_get_b (a := M.2.2.1) hT9 x
  have w3 := bk_PA_b B (mk_get M.2.2.1 M.2.2.2.2.1 x) hbok
  have w4 := mk_lost_b M.2.2.1 M.2.2.2.2.1 M.2.2.2.2.2.1 x
  refine ji_ent (by decide) rfl (Nat.le_of_ble_eq_true rfl) rfl ?_
  refine ji_aload_n dX7_annotationProperty_0 rfl trivial ?_
  refine ji_get (ci := 7) (k := 6) rfl dX7_annotationProperty_1 lX7_48 (by decide) (cl_0h) rfl ?_
  refine ji_iload_n dX7_annotationProperty_4 rfl ?_
  refine ji_cV dX7_annotationProperty_5 (cl_jMs (k_Marks_fromOf (by omega) hm3)) rfl (cl_12h) rfl rfl wX4_fromOf vX4_fromOf lX7_443 rfl (Nat.le_of_ble_eq_true rfl) rfl ?_
  refine ji_istore_n dX7_annotationProperty_8 (by decide) rfl ?_
  refine ji_aload_n dX7_annotationProperty_9 rfl trivial ?_
  refine ji_get (ci := 7) (k := 5) rfl dX7_annotationProperty_10 lX7_41 (by decide) (cl_0h) rfl ?_
  refine ji_iload_n dX7_annotationProperty_13 rfl ?_
  refine ji_cV dX7_annotationProperty_14 (k_Book_paragraphAt (hbat.kept cl_kf) hbok (by omega)) rfl ((cl_dh hbd).trans hb0) rfl rfl wX0_paragraphAt vX0_paragraphAt lX7_446 rfl (Nat.le_of_ble_eq_true rfl) rfl ?_
  refine ji_istore dX7_annotationProperty_17 (by decide) rfl ?_
  refine ji_iload_n dX7_annotationProperty_19 rfl ?_
  refine ji_tsw (tgt := 59) dX7_annotationProperty_20 (by omega) (by omega) rfl rfl ?_
  refine ji_iload_n dX7_annotationProperty_59 rfl ?_
  refine ji_aload_n dX7_annotationProperty_60 rfl trivial ?_
  refine ji_get (ci := 7) (k := 5) rfl dX7_annotationProperty_61 lX7_41 (by decide) (cl_0h) rfl ?_
  refine ji_iload dX7_annotationProperty_64 rfl ?_
  refine ji_cV dX7_annotationProperty_66 (k_Book_startOf (hbat.kept cl_kf) hbok (by omega)) rfl ((cl_dh hbd).trans hb0) rfl rfl wX0_startOf vX0_startOf lX7_192 rfl (Nat.le_of_ble_eq_true rfl) rfl ?_
  refine ji_isub dX7_annotationProperty_69 ?_
  exact ji_ireturn dX7_annotationProperty_70 rfl (rfl) ⟨jr_i (by first | rfl | omega), rfl⟩

set_option maxHeartbeats 4000000 in
set_option maxRecDepth 100000 in
theorem k_annotationProperty2 (hok : cl_ok n f I P M H Y Z B NT SB) (hfr : cl_fr P Y B NT) {x : Int} (hx : 0 ≤ x ∧ x < M.2.2.1) : JR G (d + 3) mX7_annotationProperty [.ref 0, .int (jI (x)), .int (jI (2))] (n, cl_f f I P M H Y Z) 0 0 (some (.int (jI (cl_to M x - bk_start B (bk_PA B (cl_fm M x)))))) (n, cl_f f I P M H Y Z) := by
  obtain ⟨c1, c2, c3, c4, c5, c6, c7, c8, c9, c10, c11, c12⟩ := id hok
  obtain ⟨⟨hm1, hm1'⟩, hm2, hm3, hmJ, hmF, hmT⟩ := id c8
  obtain ⟨hbat, hbok, hbne⟩ := id c6
  obtain ⟨bw, bkq, bfq, hb0, hb1, hb2, hbw, ⟨hbd, -, -⟩, -⟩ := id hbat
  obtain ⟨⟨hw1, hw2⟩, hh1, hh2⟩ := id c5
  obtain ⟨⟨hl1, hl2⟩, ⟨hp1, hp2⟩, hy1, hy2, hy3⟩ := id (cl_fr_b hok hfr)
  have hcx : ∀ {I' : in_T} {M' : mk_T} {H' : hi_T} {Y' Z' : ly_T}, ly_cx n (cl_f f I' P M' H' Y' Z') 40 Y.1 B P.2.1 := by rw [hy1]; exact cl_cx hok (by decide) rfl
  obtain ⟨hA0, hN, h3, h5, h7, h89⟩ := id c10.1
  have hl : 0 ≤ Y.2.2.2.1 ∧ Y.2.2.2.1 ≤ 240 := by omega
  have hp : 0 ≤ Y.2.2.2.2.1 ∧ Y.2.2.2.2.1 ≤ 240 := by omega
  have hF9 : ∀ i, -1000000 ≤ M.2.2.2.2.1 i ∧ M.2.2.2.2.1 i ≤ 1000000 := fun i => by have := hmF i; omega
  have hT9 : ∀ i, -1000000 ≤ M.2.2.2.2.2.1 i ∧ M.2.2.2.2.2.1 i ≤ 1000000 := fun i => by have := hmT i; omega
  have w1 := mk_get_b (a := M.2.2.1) hF9 x
  have w2 := mk_get_b (a := M.2.2.1) hT9 x
  have w3 := bk_PA_b B (mk_get M.2.2.1 M.2.2.2.2.1 x) hbok
  have w4 := mk_lost_b M.2.2.1 M.2.2.2.2.1 M.2.2.2.2.2.1 x
  refine ji_ent (by decide) rfl (Nat.le_of_ble_eq_true rfl) rfl ?_
  refine ji_aload_n dX7_annotationProperty_0 rfl trivial ?_
  refine ji_get (ci := 7) (k := 6) rfl dX7_annotationProperty_1 lX7_48 (by decide) (cl_0h) rfl ?_
  refine ji_iload_n dX7_annotationProperty_4 rfl ?_
  refine ji_cV dX7_annotationProperty_5 (cl_jMs (k_Marks_fromOf (by omega) hm3)) rfl (cl_12h) rfl rfl wX4_fromOf vX4_fromOf lX7_443 rfl (Nat.le_of_ble_eq_true rfl) rfl ?_
  refine ji_istore_n dX7_annotationProperty_8 (by decide) rfl ?_
  refine ji_aload_n dX7_annotationProperty_9 rfl trivial ?_
  refine ji_get (ci := 7) (k := 5) rfl dX7_annotationProperty_10 lX7_41 (by decide) (cl_0h) rfl ?_
  refine ji_iload_n dX7_annotationProperty_13 rfl ?_
  refine ji_cV dX7_annotationProperty_14 (k_Book_paragraphAt (hbat.kept cl_kf) hbok (by omega)) rfl ((cl_dh hbd).trans hb0) rfl rfl wX0_paragraphAt vX0_paragraphAt lX7_446 rfl (Nat.le_of_ble_eq_true rfl) rfl ?_
  refine ji_istore dX7_annotationProperty_17 (by decide) rfl ?_
  refine ji_iload_n dX7_annotationProperty_19 rfl ?_
  refine ji_tsw (tgt := 71) dX7_annotationProperty_20 (by omega) (by omega) rfl rfl ?_
  refine ji_aload_n dX7_annotationProperty_71 rfl trivial ?_
  refine ji_get (ci := 7) (k := 6) rfl dX7_annotationProperty_72 lX7_48 (by decide) (cl_0h) rfl ?_
  refine ji_iload_n dX7_annotationProperty_75 rfl ?_
  refine ji_cV dX7_annotationProperty_76 (cl_jMs (k_Marks_toOf (by omega) hm3)) rfl (cl_12h) rfl rfl wX4_toOf vX4_toOf lX7_449 rfl (Nat.le_of_ble_eq_true rfl) rfl ?_
  refine ji_aload_n dX7_annotationProperty_79 rfl trivial ?_
  refine ji_get (ci := 7) (k := 5) rfl dX7_annotationProperty_80 lX7_41 (by decide) (cl_0h) rfl ?_
  refine ji_iload dX7_annotationProperty_83 rfl ?_
  refine ji_cV dX7_annotationProperty_85 (k_Book_startOf (hbat.kept cl_kf) hbok (by omega)) rfl ((cl_dh hbd).trans hb0) rfl rfl wX0_startOf vX0_startOf lX7_192 rfl (Nat.le_of_ble_eq_true rfl) rfl ?_
  refine ji_isub dX7_annotationProperty_88 ?_
  exact ji_ireturn dX7_annotationProperty_89 rfl (rfl) ⟨jr_i (by first | rfl | omega), rfl⟩

set_option maxHeartbeats 4000000 in
set_option maxRecDepth 100000 in
theorem k_annotationProperty3 (hok : cl_ok n f I P M H Y Z B NT SB) (hfr : cl_fr P Y B NT) {x : Int} (hx : 0 ≤ x ∧ x < M.2.2.1) : JR G (d + 3) mX7_annotationProperty [.ref 0, .int (jI (x)), .int (jI (3))] (n, cl_f f I P M H Y Z) 0 0 (some (.int (jI (mk_get M.2.2.1 M.2.2.2.2.2.2 x)))) (n, cl_f f I P M H Y Z) := by
  obtain ⟨c1, c2, c3, c4, c5, c6, c7, c8, c9, c10, c11, c12⟩ := id hok
  obtain ⟨⟨hm1, hm1'⟩, hm2, hm3, hmJ, hmF, hmT⟩ := id c8
  obtain ⟨hbat, hbok, hbne⟩ := id c6
  obtain ⟨bw, bkq, bfq, hb0, hb1, hb2, hbw, ⟨hbd, -, -⟩, -⟩ := id hbat
  obtain ⟨⟨hw1, hw2⟩, hh1, hh2⟩ := id c5
  obtain ⟨⟨hl1, hl2⟩, ⟨hp1, hp2⟩, hy1, hy2, hy3⟩ := id (cl_fr_b hok hfr)
  have hcx : ∀ {I' : in_T} {M' : mk_T} {H' : hi_T} {Y' Z' : ly_T}, ly_cx n (cl_f f I' P M' H' Y' Z') 40 Y.1 B P.2.1 := by rw [hy1]; exact cl_cx hok (by decide) rfl
  obtain ⟨hA0, hN, h3, h5, h7, h89⟩ := id c10.1
  have hl : 0 ≤ Y.2.2.2.1 ∧ Y.2.2.2.1 ≤ 240 := by omega
  have hp : 0 ≤ Y.2.2.2.2.1 ∧ Y.2.2.2.2.1 ≤ 240 := by omega
  have hF9 : ∀ i, -1000000 ≤ M.2.2.2.2.1 i ∧ M.2.2.2.2.1 i ≤ 1000000 := fun i => by have := hmF i; omega
  have hT9 : ∀ i, -1000000 ≤ M.2.2.2.2.2.1 i ∧ M.2.2.2.2.2.1 i ≤ 1000000 := fun i => by have := hmT i; omega
  have w1 := mk_get_b (a := M.2.2.1) hF9 x
  have w2 := mk_get_b (a := M.2.2.1) hT9 x
  have w3 := bk_PA_b B (mk_get M.2.2.1 M.2.2.2.2.1 x) hbok
  have w4 := mk_lost_b M.2.2.1 M.2.2.2.2.1 M.2.2.2.2.2.1 x
  refine ji_ent (by decide) rfl (Nat.le_of_ble_eq_true rfl) rfl ?_
  refine ji_aload_n dX7_annotationProperty_0 rfl trivial ?_
  refine ji_get (ci := 7) (k := 6) rfl dX7_annotationProperty_1 lX7_48 (by decide) (cl_0h) rfl ?_
  refine ji_iload_n dX7_annotationProperty_4 rfl ?_
  refine ji_cV dX7_annotationProperty_5 (cl_jMs (k_Marks_fromOf (by omega) hm3)) rfl (cl_12h) rfl rfl wX4_fromOf vX4_fromOf lX7_443 rfl (Nat.le_of_ble_eq_true rfl) rfl ?_
  refine ji_istore_n dX7_annotationProperty_8 (by decide) rfl ?_
  refine ji_aload_n dX7_annotationProperty_9 rfl trivial ?_
  refine ji_get (ci := 7) (k := 5) rfl dX7_annotationProperty_10 lX7_41 (by decide) (cl_0h) rfl ?_
  refine ji_iload_n dX7_annotationProperty_13 rfl ?_
  refine ji_cV dX7_annotationProperty_14 (k_Book_paragraphAt (hbat.kept cl_kf) hbok (by omega)) rfl ((cl_dh hbd).trans hb0) rfl rfl wX0_paragraphAt vX0_paragraphAt lX7_446 rfl (Nat.le_of_ble_eq_true rfl) rfl ?_
  refine ji_istore dX7_annotationProperty_17 (by decide) rfl ?_
  refine ji_iload_n dX7_annotationProperty_19 rfl ?_
  refine ji_tsw (tgt := 90) dX7_annotationProperty_20 (by omega) (by omega) rfl rfl ?_
  refine ji_aload_n dX7_annotationProperty_90 rfl trivial ?_
  refine ji_get (ci := 7) (k := 6) rfl dX7_annotationProperty_91 lX7_48 (by decide) (cl_0h) rfl ?_
  refine ji_iload_n dX7_annotationProperty_94 rfl ?_
  refine ji_cV dX7_annotationProperty_95 (cl_jMs (k_Marks_colorOf (by omega) hm3)) rfl (cl_12h) rfl rfl wX4_colorOf vX4_colorOf lX7_452 rfl (Nat.le_of_ble_eq_true rfl) rfl ?_
  exact ji_ireturn dX7_annotationProperty_98 rfl (rfl) ⟨jr_i (by first | rfl | omega), rfl⟩

set_option maxHeartbeats 4000000 in
set_option maxRecDepth 100000 in
theorem k_annotationProperty4 (hok : cl_ok n f I P M H Y Z B NT SB) (hfr : cl_fr P Y B NT) {x : Int} (hx : 0 ≤ x ∧ x < M.2.2.1) : JR G (d + 3) mX7_annotationProperty [.ref 0, .int (jI (x)), .int (jI (4))] (n, cl_f f I P M H Y Z) 0 0 (some (.int (jI (if cl_fm M x = cl_to M x then 1 else 0)))) (n, cl_f f I P M H Y Z) := by
  obtain ⟨c1, c2, c3, c4, c5, c6, c7, c8, c9, c10, c11, c12⟩ := id hok
  obtain ⟨⟨hm1, hm1'⟩, hm2, hm3, hmJ, hmF, hmT⟩ := id c8
  obtain ⟨hbat, hbok, hbne⟩ := id c6
  obtain ⟨bw, bkq, bfq, hb0, hb1, hb2, hbw, ⟨hbd, -, -⟩, -⟩ := id hbat
  obtain ⟨⟨hw1, hw2⟩, hh1, hh2⟩ := id c5
  obtain ⟨⟨hl1, hl2⟩, ⟨hp1, hp2⟩, hy1, hy2, hy3⟩ := id (cl_fr_b hok hfr)
  have hcx : ∀ {I' : in_T} {M' : mk_T} {H' : hi_T} {Y' Z' : ly_T}, ly_cx n (cl_f f I' P M' H' Y' Z') 40 Y.1 B P.2.1 := by rw [hy1]; exact cl_cx hok (by decide) rfl
  obtain ⟨hA0, hN, h3, h5, h7, h89⟩ := id c10.1
  have hl : 0 ≤ Y.2.2.2.1 ∧ Y.2.2.2.1 ≤ 240 := by omega
  have hp : 0 ≤ Y.2.2.2.2.1 ∧ Y.2.2.2.2.1 ≤ 240 := by omega
  have hF9 : ∀ i, -1000000 ≤ M.2.2.2.2.1 i ∧ M.2.2.2.2.1 i ≤ 1000000 := fun i => by have := hmF i; omega
  have hT9 : ∀ i, -1000000 ≤ M.2.2.2.2.2.1 i ∧ M.2.2.2.2.2.1 i ≤ 1000000 := fun i => by have := hmT i; omega
  have w1 := mk_get_b (a := M.2.2.1) hF9 x
  have w2 := mk_get_b (a := M.2.2.1) hT9 x
  have w3 := bk_PA_b B (mk_get M.2.2.1 M.2.2.2.2.1 x) hbok
  have w4 := mk_lost_b M.2.2.1 M.2.2.2.2.1 M.2.2.2.2.2.1 x
  refine ji_ent (by decide) rfl (Nat.le_of_ble_eq_true rfl) rfl ?_
  refine ji_aload_n dX7_annotationProperty_0 rfl trivial ?_
  refine ji_get (ci := 7) (k := 6) rfl dX7_annotationProperty_1 lX7_48 (by decide) (cl_0h) rfl ?_
  refine ji_iload_n dX7_annotationProperty_4 rfl ?_
  refine ji_cV dX7_annotationProperty_5 (cl_jMs (k_Marks_fromOf (by omega) hm3)) rfl (cl_12h) rfl rfl wX4_fromOf vX4_fromOf lX7_443 rfl (Nat.le_of_ble_eq_true rfl) rfl ?_
  refine ji_istore_n dX7_annotationProperty_8 (by decide) rfl ?_
  refine ji_aload_n dX7_annotationProperty_9 rfl trivial ?_
  refine ji_get (ci := 7) (k := 5) rfl dX7_annotationProperty_10 lX7_41 (by decide) (cl_0h) rfl ?_
  refine ji_iload_n dX7_annotationProperty_13 rfl ?_
  refine ji_cV dX7_annotationProperty_14 (k_Book_paragraphAt (hbat.kept cl_kf) hbok (by omega)) rfl ((cl_dh hbd).trans hb0) rfl rfl wX0_paragraphAt vX0_paragraphAt lX7_446 rfl (Nat.le_of_ble_eq_true rfl) rfl ?_
  refine ji_istore dX7_annotationProperty_17 (by decide) rfl ?_
  refine ji_iload_n dX7_annotationProperty_19 rfl ?_
  refine ji_tsw (tgt := 99) dX7_annotationProperty_20 (by omega) (by omega) rfl rfl ?_
  refine ji_aload_n dX7_annotationProperty_99 rfl trivial ?_
  refine ji_get (ci := 7) (k := 6) rfl dX7_annotationProperty_100 lX7_48 (by decide) (cl_0h) rfl ?_
  refine ji_iload_n dX7_annotationProperty_103 rfl ?_
  refine ji_cV dX7_annotationProperty_104 (cl_jMs (k_Marks_isLost (by omega) hm3 hF9 hT9)) rfl (cl_12h) rfl rfl wX4_isLost vX4_isLost lX7_455 rfl (Nat.le_of_ble_eq_true rfl) rfl ?_
  refine ji_if_eq (tgt := 114) dX7_annotationProperty_107 rfl (by omega) (fun c107 => ?_) (fun c107 => ?_)
  · try (exfalso; omega)
    all_goals
      refine ji_iconst dX7_annotationProperty_114 ?_
      exact ji_ireturn dX7_annotationProperty_115 rfl (rfl) ⟨jr_i (by first | (have z : mk_get M.2.2.1 M.2.2.2.2.1 x = mk_get M.2.2.1 M.2.2.2.2.2.1 x := (by by_cases z : mk_get M.2.2.1 M.2.2.2.2.1 x = mk_get M.2.2.1 M.2.2.2.2.2.1 x; exact z; (have : mk_lost M.2.2.1 M.2.2.2.2.1 M.2.2.2.2.2.1 x = 0 := if_neg z); omega); exact (if_pos z).symm) | (have z : ¬ mk_get M.2.2.1 M.2.2.2.2.1 x = mk_get M.2.2.1 M.2.2.2.2.2.1 x := (fun z => by (have : mk_lost M.2.2.1 M.2.2.2.2.1 M.2.2.2.2.2.1 x = 1 := if_pos z); omega); exact (if_neg z).symm)), rfl⟩
  · try (exfalso; omega)
    all_goals
      refine ji_iconst dX7_annotationProperty_110 ?_
      refine ji_goto (tgt := 115) dX7_annotationProperty_111 rfl ?_
      exact ji_ireturn dX7_annotationProperty_115 rfl (rfl) ⟨jr_i (by first | (have z : mk_get M.2.2.1 M.2.2.2.2.1 x = mk_get M.2.2.1 M.2.2.2.2.2.1 x := (by by_cases z : mk_get M.2.2.1 M.2.2.2.2.1 x = mk_get M.2.2.1 M.2.2.2.2.2.1 x; exact z; (have : mk_lost M.2.2.1 M.2.2.2.2.1 M.2.2.2.2.2.1 x = 0 := if_neg z); omega); exact (if_pos z).symm) | (have z : ¬ mk_get M.2.2.1 M.2.2.2.2.1 x = mk_get M.2.2.1 M.2.2.2.2.2.1 x := (fun z => by (have : mk_lost M.2.2.1 M.2.2.2.2.1 M.2.2.2.2.2.1 x = 1 := if_pos z); omega); exact (if_neg z).symm)), rfl⟩

set_option maxHeartbeats 4000000 in
set_option maxRecDepth 100000 in
theorem k_annotationProperty5 (hok : cl_ok n f I P M H Y Z B NT SB) (hfr : cl_fr P Y B NT) {x : Int} (hx : 0 ≤ x ∧ x < M.2.2.1) : JR G (d + 3) mX7_annotationProperty [.ref 0, .int (jI (x)), .int (jI (5))] (n, cl_f f I P M H Y Z) 0 0 (some (.int (jI (if cl_fm M x = cl_to M x then -1 else cl_at B Y (cl_fm M x))))) (n, cl_f f I P M H Y Z) := by
  obtain ⟨c1, c2, c3, c4, c5, c6, c7, c8, c9, c10, c11, c12⟩ := id hok
  obtain ⟨⟨hm1, hm1'⟩, hm2, hm3, hmJ, hmF, hmT⟩ := id c8
  obtain ⟨hbat, hbok, hbne⟩ := id c6
  obtain ⟨bw, bkq, bfq, hb0, hb1, hb2, hbw, ⟨hbd, -, -⟩, -⟩ := id hbat
  obtain ⟨⟨hw1, hw2⟩, hh1, hh2⟩ := id c5
  obtain ⟨⟨hl1, hl2⟩, ⟨hp1, hp2⟩, hy1, hy2, hy3⟩ := id (cl_fr_b hok hfr)
  have hcx : ∀ {I' : in_T} {M' : mk_T} {H' : hi_T} {Y' Z' : ly_T}, ly_cx n (cl_f f I' P M' H' Y' Z') 40 Y.1 B P.2.1 := by rw [hy1]; exact cl_cx hok (by decide) rfl
  obtain ⟨hA0, hN, h3, h5, h7, h89⟩ := id c10.1
  have hl : 0 ≤ Y.2.2.2.1 ∧ Y.2.2.2.1 ≤ 240 := by omega
  have hp : 0 ≤ Y.2.2.2.2.1 ∧ Y.2.2.2.2.1 ≤ 240 := by omega
  have hF9 : ∀ i, -1000000 ≤ M.2.2.2.2.1 i ∧ M.2.2.2.2.1 i ≤ 1000000 := fun i => by have := hmF i; omega
  have hT9 : ∀ i, -1000000 ≤ M.2.2.2.2.2.1 i ∧ M.2.2.2.2.2.1 i ≤ 1000000 := fun i => by have := hmT i; omega
  have w1 := mk_get_b (a := M.2.2.1) hF9 x
  have w2 := mk_get_b (a := M.2.2.1) hT9 x
  have w3 := bk_PA_b B (mk_get M.2.2.1 M.2.2.2.2.1 x) hbok
  have w4 := mk_lost_b M.2.2.1 M.2.2.2.2.1 M.2.2.2.2.2.1 x
  refine ji_ent (by decide) rfl (Nat.le_of_ble_eq_true rfl) rfl ?_
  refine ji_aload_n dX7_annotationProperty_0 rfl trivial ?_
  refine ji_get (ci := 7) (k := 6) rfl dX7_annotationProperty_1 lX7_48 (by decide) (cl_0h) rfl ?_
  refine ji_iload_n dX7_annotationProperty_4 rfl ?_
  refine ji_cV dX7_annotationProperty_5 (cl_jMs (k_Marks_fromOf (by omega) hm3)) rfl (cl_12h) rfl rfl wX4_fromOf vX4_fromOf lX7_443 rfl (Nat.le_of_ble_eq_true rfl) rfl ?_
  refine ji_istore_n dX7_annotationProperty_8 (by decide) rfl ?_
  refine ji_aload_n dX7_annotationProperty_9 rfl trivial ?_
  refine ji_get (ci := 7) (k := 5) rfl dX7_annotationProperty_10 lX7_41 (by decide) (cl_0h) rfl ?_
  refine ji_iload_n dX7_annotationProperty_13 rfl ?_
  refine ji_cV dX7_annotationProperty_14 (k_Book_paragraphAt (hbat.kept cl_kf) hbok (by omega)) rfl ((cl_dh hbd).trans hb0) rfl rfl wX0_paragraphAt vX0_paragraphAt lX7_446 rfl (Nat.le_of_ble_eq_true rfl) rfl ?_
  refine ji_istore dX7_annotationProperty_17 (by decide) rfl ?_
  refine ji_iload_n dX7_annotationProperty_19 rfl ?_
  refine ji_tswD (tgt := 116) dX7_annotationProperty_20 (by omega) (by omega) rfl ?_
  refine ji_aload_n dX7_annotationProperty_116 rfl trivial ?_
  refine ji_get (ci := 7) (k := 6) rfl dX7_annotationProperty_117 lX7_48 (by decide) (cl_0h) rfl ?_
  refine ji_iload_n dX7_annotationProperty_120 rfl ?_
  refine ji_cV dX7_annotationProperty_121 (cl_jMs (k_Marks_isLost (by omega) hm3 hF9 hT9)) rfl (cl_12h) rfl rfl wX4_isLost vX4_isLost lX7_455 rfl (Nat.le_of_ble_eq_true rfl) rfl ?_
  refine ji_if_eq (tgt := 131) dX7_annotationProperty_124 rfl (by omega) (fun c124 => ?_) (fun c124 => ?_)
  · try (exfalso; omega)
    all_goals
      refine ji_aload_n dX7_annotationProperty_131 rfl trivial ?_
      refine ji_get (ci := 7) (k := 8) rfl dX7_annotationProperty_132 lX7_64 (by decide) (cl_0h) rfl ?_
      refine ji_iload_n dX7_annotationProperty_135 rfl ?_
      refine ji_cV dX7_annotationProperty_136 (cl_jYs (k_Layout_pageAt hcx hA0 hl (by omega) hl1)) rfl (cl_40h) rfl rfl wX3_pageAt vX3_pageAt lX7_195 rfl (Nat.le_of_ble_eq_true rfl) rfl ?_
      exact ji_ireturn dX7_annotationProperty_139 rfl (rfl) ⟨jr_i (by first | (have z : mk_get M.2.2.1 M.2.2.2.2.1 x = mk_get M.2.2.1 M.2.2.2.2.2.1 x := (by by_cases z : mk_get M.2.2.1 M.2.2.2.2.1 x = mk_get M.2.2.1 M.2.2.2.2.2.1 x; exact z; (have : mk_lost M.2.2.1 M.2.2.2.2.1 M.2.2.2.2.2.1 x = 0 := if_neg z); omega); exact (if_pos z).symm) | (have z : ¬ mk_get M.2.2.1 M.2.2.2.2.1 x = mk_get M.2.2.1 M.2.2.2.2.2.1 x := (fun z => by (have : mk_lost M.2.2.1 M.2.2.2.2.1 M.2.2.2.2.2.1 x = 1 := if_pos z); omega); exact (if_neg z).symm)), rfl⟩
  · try (exfalso; omega)
    all_goals
      refine ji_iconst dX7_annotationProperty_127 ?_
      refine ji_goto (tgt := 139) dX7_annotationProperty_128 rfl ?_
      exact ji_ireturn dX7_annotationProperty_139 rfl (rfl) ⟨jr_i (by first | (have z : mk_get M.2.2.1 M.2.2.2.2.1 x = mk_get M.2.2.1 M.2.2.2.2.2.1 x := (by by_cases z : mk_get M.2.2.1 M.2.2.2.2.1 x = mk_get M.2.2.1 M.2.2.2.2.2.1 x; exact z; (have : mk_lost M.2.2.1 M.2.2.2.2.1 M.2.2.2.2.2.1 x = 0 := if_neg z); omega); exact (if_pos z).symm) | (have z : ¬ mk_get M.2.2.1 M.2.2.2.2.1 x = mk_get M.2.2.1 M.2.2.2.2.2.1 x := (fun z => by (have : mk_lost M.2.2.1 M.2.2.2.2.1 M.2.2.2.2.2.1 x = 1 := if_pos z); omega); exact (if_neg z).symm)), rfl⟩

set_option maxHeartbeats 4000000 in
set_option maxRecDepth 100000 in
theorem k_annotationProperty (hok : cl_ok n f I P M H Y Z B NT SB) (hfr : cl_fr P Y B NT) {x : Int} (hx : 0 ≤ x ∧ x < M.2.2.1) {v : Int} (hv : 0 ≤ v ∧ v < 6) : JR G (d + 3) mX7_annotationProperty [.ref 0, .int (jI (x)), .int (jI (v))] (n, cl_f f I P M H Y Z) 0 0 (some (.int (jI (cl_anp B M Y x v)))) (n, cl_f f I P M H Y Z) := by
  rcases (show v = 0 ∨ v = 1 ∨ v = 2 ∨ v = 3 ∨ v = 4 ∨ v = 5 by omega) with rfl | rfl | rfl | rfl | rfl | rfl
  · exact k_annotationProperty0 hok hfr hx
  · exact k_annotationProperty1 hok hfr hx
  · exact k_annotationProperty2 hok hfr hx
  · exact k_annotationProperty3 hok hfr hx
  · exact k_annotationProperty4 hok hfr hx
  · exact k_annotationProperty5 hok hfr hx

def nt_wd (NT : nt_T) (k : Nat) : Int := match NT k with
  | none => 0
  | some (_, nn, _, _) => (nn : Int) - 1
set_option maxHeartbeats 4000000 in
set_option maxRecDepth 100000 in
theorem k_wordsOfNoteN (hok : cl_ok n f I P M H Y Z B NT SB) {x : Int} (hx : 0 ≤ x ∧ x < 10) (hf : P.1 x.toNat = none) : JR G (d + 1) mX7_wordsOfNote [.ref 0, .int (jI (x))] (n, cl_f f I P M H Y Z) 0 0 (some (.int (jI (0)))) (n, cl_f f I P M H Y Z) := by
  obtain ⟨c1, c2, c3, c4, c5, c6, c7, c8, c9, c10, c11, c12⟩ := id hok
  obtain ⟨⟨hm1, hm1'⟩, hm2, hm3, hmJ, hmF, hmT⟩ := id c8
  obtain ⟨hbat, hbok, hbne⟩ := id c6
  obtain ⟨bw, bkq, bfq, hb0, hb1, hb2, hbw, ⟨hbd, -, -⟩, -⟩ := id hbat
  obtain ⟨⟨hw1, hw2⟩, hh1, hh2⟩ := id c5
  refine ji_ent (by decide) rfl (Nat.le_of_ble_eq_true rfl) rfl ?_
  refine ji_iload_n dX7_wordsOfNote_0 rfl ?_
  refine ji_if_lt (tgt := 22) dX7_wordsOfNote_1 rfl (by omega) (fun c1 => absurd c1 (by omega)) (fun c1 => ?_)
  refine ji_iload_n dX7_wordsOfNote_4 rfl ?_
  refine ji_aload_n dX7_wordsOfNote_5 rfl trivial ?_
  refine ji_get (ci := 7) (k := 1) rfl dX7_wordsOfNote_6 lX7_18 (by decide) (cl_0h) rfl ?_
  refine ji_alen dX7_wordsOfNote_9 (cl_4h) (fun cy => rfl) ?_
  refine ji_icmp_ge (tgt := 22) dX7_wordsOfNote_10 rfl (by omega) (by omega) (fun c10 => absurd c10 (by omega)) (fun c10 => ?_)
  refine ji_aload_n dX7_wordsOfNote_13 rfl trivial ?_
  refine ji_get (ci := 7) (k := 1) rfl dX7_wordsOfNote_14 lX7_18 (by decide) (cl_0h) rfl ?_
  refine ji_iload_n dX7_wordsOfNote_17 rfl ?_
  refine ji_aaloadN dX7_wordsOfNote_18 (cl_4h) (fun cy => rfl) (by omega) (hf) ?_
  refine ji_goto (tgt := 23) dX7_wordsOfNote_19 rfl ?_
  refine ji_astore_n dX7_wordsOfNote_23 (by decide) trivial rfl ?_
  refine ji_aload_n dX7_wordsOfNote_24 rfl trivial ?_
  refine ji_ifnonnullN dX7_wordsOfNote_25 ?_
  refine ji_iconst dX7_wordsOfNote_28 ?_
  refine ji_goto (tgt := 38) dX7_wordsOfNote_29 rfl ?_
  exact ji_ireturn dX7_wordsOfNote_38 rfl (rfl) ⟨jr_i (by first | rfl | omega), rfl⟩

set_option maxHeartbeats 4000000 in
set_option maxRecDepth 100000 in
theorem k_wordsOfNoteS (hok : cl_ok n f I P M H Y Z B NT SB) {x : Int} (hx : 0 ≤ x ∧ x < 10) {a m nn : Nat} {tx s : Nat → Int} (hf : P.1 x.toNat = some a) (hw : wd_at (n, f) a m nn tx s) (hk : wd_ok m nn tx s) : JR G (d + 1) mX7_wordsOfNote [.ref 0, .int (jI (x))] (n, cl_f f I P M H Y Z) 0 0 (some (.int (jI ((nn : Int) - 1)))) (n, cl_f f I P M H Y Z) := by
  obtain ⟨c1, c2, c3, c4, c5, c6, c7, c8, c9, c10, c11, c12⟩ := id hok
  obtain ⟨⟨hm1, hm1'⟩, hm2, hm3, hmJ, hmF, hmT⟩ := id c8
  obtain ⟨hbat, hbok, hbne⟩ := id c6
  obtain ⟨bw, bkq, bfq, hb0, hb1, hb2, hbw, ⟨hbd, -, -⟩, -⟩ := id hbat
  obtain ⟨⟨hw1, hw2⟩, hh1, hh2⟩ := id c5
  obtain ⟨wt, wq, hn0', -, -, ⟨hnd, -, -⟩, -⟩ := id hw
  refine ji_ent (by decide) rfl (Nat.le_of_ble_eq_true rfl) rfl ?_
  refine ji_iload_n dX7_wordsOfNote_0 rfl ?_
  refine ji_if_lt (tgt := 22) dX7_wordsOfNote_1 rfl (by omega) (fun c1 => absurd c1 (by omega)) (fun c1 => ?_)
  refine ji_iload_n dX7_wordsOfNote_4 rfl ?_
  refine ji_aload_n dX7_wordsOfNote_5 rfl trivial ?_
  refine ji_get (ci := 7) (k := 1) rfl dX7_wordsOfNote_6 lX7_18 (by decide) (cl_0h) rfl ?_
  refine ji_alen dX7_wordsOfNote_9 (cl_4h) (fun cy => rfl) ?_
  refine ji_icmp_ge (tgt := 22) dX7_wordsOfNote_10 rfl (by omega) (by omega) (fun c10 => absurd c10 (by omega)) (fun c10 => ?_)
  refine ji_aload_n dX7_wordsOfNote_13 rfl trivial ?_
  refine ji_get (ci := 7) (k := 1) rfl dX7_wordsOfNote_14 lX7_18 (by decide) (cl_0h) rfl ?_
  refine ji_iload_n dX7_wordsOfNote_17 rfl ?_
  refine ji_aaloadS dX7_wordsOfNote_18 (cl_4h) (fun cy => rfl) (by omega) (hf) ?_
  refine ji_goto (tgt := 23) dX7_wordsOfNote_19 rfl ?_
  refine ji_astore_n dX7_wordsOfNote_23 (by decide) trivial rfl ?_
  refine ji_aload_n dX7_wordsOfNote_24 rfl trivial ?_
  refine ji_ifnonnull (tgt := 32) dX7_wordsOfNote_25 rfl ?_
  refine ji_aload_n dX7_wordsOfNote_32 rfl trivial ?_
  refine ji_cV dX7_wordsOfNote_33 (k_Words_size (hw.kept cl_kf) hk) rfl ((cl_dh hnd).trans hn0') rfl rfl wX6_size vX6_size lX7_390 rfl (Nat.le_of_ble_eq_true rfl) rfl ?_
  refine ji_iconst dX7_wordsOfNote_36 ?_
  refine ji_isub dX7_wordsOfNote_37 ?_
  exact ji_ireturn dX7_wordsOfNote_38 rfl (rfl) ⟨jr_i (by first | rfl | omega), rfl⟩

theorem k_wordsOfNote (hok : cl_ok n f I P M H Y Z B NT SB) {x : Int} (hx : 0 ≤ x ∧ x < 10) : JR G (d + 1) mX7_wordsOfNote [.ref 0, .int (jI (x))] (n, cl_f f I P M H Y Z) 0 0 (some (.int (jI (nt_wd NT x.toNat)))) (n, cl_f f I P M H Y Z) := by
  rcases hok.2.2.1.1 x.toNat (by omega) with ⟨q1, q2⟩ | ⟨a, m, nn, tx, s, q1, q2, q3, q4⟩
  · have e : nt_wd NT x.toNat = 0 := by unfold nt_wd; rw [q2]
    rw [e]; exact k_wordsOfNoteN hok hx q1
  · have e : nt_wd NT x.toNat = (nn : Int) - 1 := by unfold nt_wd; rw [q2]
    rw [e]; exact k_wordsOfNoteS hok hx q1 q3 q4
end PG
