/-! ===== public methods: input, sizes ===== -/
section PG
variable {G : ji_G} {d n : Nat} {f : Nat → ji_C} {I : in_T} {P : pg_T} {M : mk_T} {H : hi_T} {Y Z : ly_T} {B : bk_T} {NT : nt_T} {SB : Nat → bk_T}

set_option maxHeartbeats 4000000 in
set_option maxRecDepth 100000 in
theorem x_append1 (hok : cl_ok n f I P M H Y Z B NT SB) {v : Int} (b_v : -2147483648 ≤ v ∧ v < 2147483648) (hx : v < 32 ∨ 126 < v) : JX G (d + 6) mX7_append [.ref 0, .int (jI (v))] (n, cl_f f I P M H Y Z) 1 6 eA (n, cl_f f I P M H Y Z) := by
  obtain ⟨c1, c2, c3, c4, c5, c6, c7, c8, c9, c10, c11, c12⟩ := id hok
  obtain ⟨⟨hm1, hm1'⟩, hm2, hm3, hmJ, hmF, hmT⟩ := id c8
  obtain ⟨hbat, hbok, hbne⟩ := id c6
  obtain ⟨bw, bkq, bfq, hb0, hb1, hb2, hbw, ⟨hbd, -, -⟩, -⟩ := id hbat
  obtain ⟨⟨hw1, hw2⟩, hh1, hh2⟩ := id c5
  refine ji_ent (by decide) rfl (Nat.le_of_ble_eq_true rfl) rfl ?_
  refine ji_iload_n dX7_append_0 rfl ?_
  refine ji_bipush dX7_append_1 rfl ?_
  refine ji_icmp_lt (tgt := 12) dX7_append_3 rfl (by omega) (by omega) (fun c3 => ?_) (fun c3 => ?_)
  · try (exfalso; omega)
    all_goals
      exact ji_throw (text := "code is not 32 to 126") ji_thrA rfl (by decide) rfl dX7_append_12 dX7_append_15 dX7_append_16 dX7_append_18 dX7_append_21 (by omega) (by omega) (Nat.le_of_ble_eq_true rfl) ⟨rfl, rfl⟩
  · try (exfalso; omega)
    all_goals
      refine ji_iload_n dX7_append_6 rfl ?_
      refine ji_bipush dX7_append_7 rfl ?_
      refine ji_icmp_le (tgt := 22) dX7_append_9 rfl (by omega) (by omega) (fun c9 => ?_) (fun c9 => ?_)
      · try (exfalso; omega)
        all_goals
          refine ji_aload_n dX7_append_22 rfl trivial ?_
          refine ji_get (ci := 7) (k := 0) rfl dX7_append_23 lX7_12 (by decide) (cl_0h) rfl ?_
          refine ji_cV dX7_append_26 (cl_jIs (k_Input_isFull c2)) rfl (cl_1h) rfl rfl wX2_isFull vX2_isFull lX7_82 rfl (Nat.le_of_ble_eq_true rfl) rfl ?_
          refine ji_if_eq (tgt := 42) dX7_append_29 rfl (by omega) (fun c29 => ?_) (fun c29 => ?_)
          · try (exfalso; omega)
            all_goals
              refine ji_aload_n dX7_append_42 rfl trivial ?_
              refine ji_get (ci := 7) (k := 0) rfl dX7_append_43 lX7_12 (by decide) (cl_0h) rfl ?_
              refine ji_iload_n dX7_append_46 rfl ?_
              refine ji_i2c dX7_append_47 (by omega) ?_
              fail "no contract for Input.put at 48"
          · try (exfalso; omega)
            all_goals
              exact ji_throw (text := "the buffer is full") ji_thrS rfl (by decide) rfl dX7_append_32 dX7_append_35 dX7_append_36 dX7_append_38 dX7_append_41 (by omega) (by omega) (Nat.le_of_ble_eq_true rfl) ⟨rfl, rfl⟩
      · try (exfalso; omega)
        all_goals
          exact ji_throw (text := "code is not 32 to 126") ji_thrA rfl (by decide) rfl dX7_append_12 dX7_append_15 dX7_append_16 dX7_append_18 dX7_append_21 (by omega) (by omega) (Nat.le_of_ble_eq_true rfl) ⟨rfl, rfl⟩

set_option maxHeartbeats 4000000 in
set_option maxRecDepth 100000 in
theorem x_append2 (hok : cl_ok n f I P M H Y Z B NT SB) {v : Int} (hv : 32 ≤ v ∧ v ≤ 126) (hx : I.1 = 100) : JX G (d + 6) mX7_append [.ref 0, .int (jI (v))] (n, cl_f f I P M H Y Z) 1 6 eS (n, cl_f f I P M H Y Z) := by
  obtain ⟨c1, c2, c3, c4, c5, c6, c7, c8, c9, c10, c11, c12⟩ := id hok
  obtain ⟨⟨hm1, hm1'⟩, hm2, hm3, hmJ, hmF, hmT⟩ := id c8
  obtain ⟨hbat, hbok, hbne⟩ := id c6
  obtain ⟨bw, bkq, bfq, hb0, hb1, hb2, hbw, ⟨hbd, -, -⟩, -⟩ := id hbat
  obtain ⟨⟨hw1, hw2⟩, hh1, hh2⟩ := id c5
  have hfu : in_full I.1 = 0 ∨ in_full I.1 = 1 := by unfold in_full; split <;> omega
  have hlen := c2.1
  have hf1 : in_full I.1 = 1 := if_neg (by omega)
  refine ji_ent (by decide) rfl (Nat.le_of_ble_eq_true rfl) rfl ?_
  refine ji_iload_n dX7_append_0 rfl ?_
  refine ji_bipush dX7_append_1 rfl ?_
  refine ji_icmp_lt (tgt := 12) dX7_append_3 rfl (by omega) (by omega) (fun c3 => ?_) (fun c3 => ?_)
  · try (exfalso; omega)
    all_goals
      exact ji_throw (text := "code is not 32 to 126") ji_thrA rfl (by decide) rfl dX7_append_12 dX7_append_15 dX7_append_16 dX7_append_18 dX7_append_21 (by omega) (by omega) (Nat.le_of_ble_eq_true rfl) ⟨rfl, rfl⟩
  · try (exfalso; omega)
    all_goals
      refine ji_iload_n dX7_append_6 rfl ?_
      refine ji_bipush dX7_append_7 rfl ?_
      refine ji_icmp_le (tgt := 22) dX7_append_9 rfl (by omega) (by omega) (fun c9 => ?_) (fun c9 => ?_)
      · try (exfalso; omega)
        all_goals
          refine ji_aload_n dX7_append_22 rfl trivial ?_
          refine ji_get (ci := 7) (k := 0) rfl dX7_append_23 lX7_12 (by decide) (cl_0h) rfl ?_
          refine ji_cV dX7_append_26 (cl_jIs (k_Input_isFull c2)) rfl (cl_1h) rfl rfl wX2_isFull vX2_isFull lX7_82 rfl (Nat.le_of_ble_eq_true rfl) rfl ?_
          refine ji_if_eq (tgt := 42) dX7_append_29 rfl (by omega) (fun c29 => ?_) (fun c29 => ?_)
          · try (exfalso; omega)
            all_goals
              refine ji_aload_n dX7_append_42 rfl trivial ?_
              refine ji_get (ci := 7) (k := 0) rfl dX7_append_43 lX7_12 (by decide) (cl_0h) rfl ?_
              refine ji_iload_n dX7_append_46 rfl ?_
              refine ji_i2c dX7_append_47 (by omega) ?_
              fail "no contract for Input.put at 48"
          · try (exfalso; omega)
            all_goals
              exact ji_throw (text := "the buffer is full") ji_thrS rfl (by decide) rfl dX7_append_32 dX7_append_35 dX7_append_36 dX7_append_38 dX7_append_41 (by omega) (by omega) (Nat.le_of_ble_eq_true rfl) ⟨rfl, rfl⟩
      · try (exfalso; omega)
        all_goals
          exact ji_throw (text := "code is not 32 to 126") ji_thrA rfl (by decide) rfl dX7_append_12 dX7_append_15 dX7_append_16 dX7_append_18 dX7_append_21 (by omega) (by omega) (Nat.le_of_ble_eq_true rfl) ⟨rfl, rfl⟩

set_option maxHeartbeats 4000000 in
set_option maxRecDepth 100000 in
theorem k_append (hok : cl_ok n f I P M H Y Z B NT SB) {v : Int} (hv : 32 ≤ v ∧ v ≤ 126) (hx : I.1 < 100) : JR G (d + 1) mX7_append [.ref 0, .int (jI (v))] (n, cl_f f I P M H Y Z) 0 0 (some (.int (jI (I.1 + 1)))) (n, cl_f f (I.1 + 1, va_up I.2.1 I.1.toNat v, I.2.2) P M H Y Z) := by
  obtain ⟨c1, c2, c3, c4, c5, c6, c7, c8, c9, c10, c11, c12⟩ := id hok
  obtain ⟨⟨hm1, hm1'⟩, hm2, hm3, hmJ, hmF, hmT⟩ := id c8
  obtain ⟨hbat, hbok, hbne⟩ := id c6
  obtain ⟨bw, bkq, bfq, hb0, hb1, hb2, hbw, ⟨hbd, -, -⟩, -⟩ := id hbat
  obtain ⟨⟨hw1, hw2⟩, hh1, hh2⟩ := id c5
  have hfu : in_full I.1 = 0 ∨ in_full I.1 = 1 := by unfold in_full; split <;> omega
  have hlen := c2.1
  have hf1 : in_full I.1 = 0 := if_pos (by omega)
  refine ji_ent (by decide) rfl (Nat.le_of_ble_eq_true rfl) rfl ?_
  refine ji_iload_n dX7_append_0 rfl ?_
  refine ji_bipush dX7_append_1 rfl ?_
  refine ji_icmp_lt (tgt := 12) dX7_append_3 rfl (by omega) (by omega) (fun c3 => ?_) (fun c3 => ?_)
  · try (exfalso; omega)
    all_goals
      exact ji_throw (text := "code is not 32 to 126") ji_thrA rfl (by decide) rfl dX7_append_12 dX7_append_15 dX7_append_16 dX7_append_18 dX7_append_21 (by omega) (by omega) (Nat.le_of_ble_eq_true rfl) ⟨jr_i (by first | rfl | omega), rfl⟩
  · try (exfalso; omega)
    all_goals
      refine ji_iload_n dX7_append_6 rfl ?_
      refine ji_bipush dX7_append_7 rfl ?_
      refine ji_icmp_le (tgt := 22) dX7_append_9 rfl (by omega) (by omega) (fun c9 => ?_) (fun c9 => ?_)
      · try (exfalso; omega)
        all_goals
          refine ji_aload_n dX7_append_22 rfl trivial ?_
          refine ji_get (ci := 7) (k := 0) rfl dX7_append_23 lX7_12 (by decide) (cl_0h) rfl ?_
          refine ji_cV dX7_append_26 (cl_jIs (k_Input_isFull c2)) rfl (cl_1h) rfl rfl wX2_isFull vX2_isFull lX7_82 rfl (Nat.le_of_ble_eq_true rfl) rfl ?_
          refine ji_if_eq (tgt := 42) dX7_append_29 rfl (by omega) (fun c29 => ?_) (fun c29 => ?_)
          · try (exfalso; omega)
            all_goals
              refine ji_aload_n dX7_append_42 rfl trivial ?_
              refine ji_get (ci := 7) (k := 0) rfl dX7_append_43 lX7_12 (by decide) (cl_0h) rfl ?_
              refine ji_iload_n dX7_append_46 rfl ?_
              refine ji_i2c dX7_append_47 (by omega) ?_
              refine ji_cVv dX7_append_48 (cl_jI (I.1 + 1, va_up I.2.1 I.1.toNat v, I.2.2) (k_Input_put (by omega) (by omega))) rfl (cl_1h) rfl rfl wX2_put vX2_put lX7_91 rfl (Nat.le_of_ble_eq_true rfl) rfl ?_
              refine ji_aload_n dX7_append_51 rfl trivial ?_
              refine ji_get (ci := 7) (k := 0) rfl dX7_append_52 lX7_12 (by decide) (cl_0h) rfl ?_
              refine ji_cV dX7_append_55 (cl_jIs k_Input_length) rfl (cl_1h) rfl rfl wX2_length vX2_length lX7_95 rfl (Nat.le_of_ble_eq_true rfl) rfl ?_
              exact ji_ireturn dX7_append_58 rfl (rfl) ⟨jr_i (by first | rfl | omega), rfl⟩
          · try (exfalso; omega)
            all_goals
              exact ji_throw (text := "the buffer is full") ji_thrS rfl (by decide) rfl dX7_append_32 dX7_append_35 dX7_append_36 dX7_append_38 dX7_append_41 (by omega) (by omega) (Nat.le_of_ble_eq_true rfl) ⟨jr_i (by first | rfl | omega), rfl⟩
      · try (exfalso; omega)
        all_goals
          exact ji_throw (text := "code is not 32 to 126") ji_thrA rfl (by decide) rfl dX7_append_12 dX7_append_15 dX7_append_16 dX7_append_18 dX7_append_21 (by omega) (by omega) (Nat.le_of_ble_eq_true rfl) ⟨jr_i (by first | rfl | omega), rfl⟩

set_option maxHeartbeats 4000000 in
set_option maxRecDepth 100000 in
theorem k_clearInput (hok : cl_ok n f I P M H Y Z B NT SB) : JR G (d + 1) mX7_clearInput [.ref 0] (n, cl_f f I P M H Y Z) 0 0 (some (.int (jI (I.1)))) (n, cl_f f (0, I.2.1, I.2.2) P M H Y Z) := by
  obtain ⟨c1, c2, c3, c4, c5, c6, c7, c8, c9, c10, c11, c12⟩ := id hok
  obtain ⟨⟨hm1, hm1'⟩, hm2, hm3, hmJ, hmF, hmT⟩ := id c8
  obtain ⟨hbat, hbok, hbne⟩ := id c6
  obtain ⟨bw, bkq, bfq, hb0, hb1, hb2, hbw, ⟨hbd, -, -⟩, -⟩ := id hbat
  obtain ⟨⟨hw1, hw2⟩, hh1, hh2⟩ := id c5
  refine ji_ent (by decide) rfl (Nat.le_of_ble_eq_true rfl) rfl ?_
  refine ji_aload_n dX7_clearInput_0 rfl trivial ?_
  refine ji_get (ci := 7) (k := 0) rfl dX7_clearInput_1 lX7_12 (by decide) (cl_0h) rfl ?_
  refine ji_cV dX7_clearInput_4 (cl_jIs k_Input_length) rfl (cl_1h) rfl rfl wX2_length vX2_length lX7_95 rfl (Nat.le_of_ble_eq_true rfl) rfl ?_
  refine ji_istore_n dX7_clearInput_7 (by decide) rfl ?_
  refine ji_aload_n dX7_clearInput_8 rfl trivial ?_
  refine ji_get (ci := 7) (k := 0) rfl dX7_clearInput_9 lX7_12 (by decide) (cl_0h) rfl ?_
  refine ji_cVv dX7_clearInput_12 (cl_jI (0, I.2.1, I.2.2) k_Input_empty) rfl (cl_1h) rfl rfl wX2_empty vX2_empty lX7_99 rfl (Nat.le_of_ble_eq_true rfl) rfl ?_
  refine ji_iload_n dX7_clearInput_15 rfl ?_
  exact ji_ireturn dX7_clearInput_16 rfl (rfl) ⟨jr_i (by first | rfl | omega), rfl⟩

set_option maxHeartbeats 4000000 in
set_option maxRecDepth 100000 in
theorem k_firstError (hok : cl_ok n f I P M H Y Z B NT SB) {v : Int} (hv : v = 0 ∨ v = 1) : JR G (d + 4) mX7_firstError [.ref 0, .int (jI (v))] (n, cl_f f I P M H Y Z) 0 0 (some (.int (jI ((in_FF I.1 I.2.1 v).1)))) (n, cl_f f (in_W I v) P M H Y Z) := by
  obtain ⟨c1, c2, c3, c4, c5, c6, c7, c8, c9, c10, c11, c12⟩ := id hok
  obtain ⟨⟨hm1, hm1'⟩, hm2, hm3, hmJ, hmF, hmT⟩ := id c8
  obtain ⟨hbat, hbok, hbne⟩ := id c6
  obtain ⟨bw, bkq, bfq, hb0, hb1, hb2, hbw, ⟨hbd, -, -⟩, -⟩ := id hbat
  obtain ⟨⟨hw1, hw2⟩, hh1, hh2⟩ := id c5
  refine ji_ent (by decide) rfl (Nat.le_of_ble_eq_true rfl) rfl ?_
  refine ji_aload_n dX7_firstError_0 rfl trivial ?_
  refine ji_get (ci := 7) (k := 0) rfl dX7_firstError_1 lX7_12 (by decide) (cl_0h) rfl ?_
  refine ji_iload_n dX7_firstError_4 rfl ?_
  refine ji_cV dX7_firstError_5 (cl_jI (in_W I v) (k_Input_firstFault hv c2)) rfl (cl_1h) rfl rfl wX2_firstFault vX2_firstFault lX7_102 rfl (Nat.le_of_ble_eq_true rfl) rfl ?_
  exact ji_ireturn dX7_firstError_8 rfl (rfl) ⟨jr_i (by first | rfl | omega), rfl⟩

set_option maxHeartbeats 4000000 in
set_option maxRecDepth 100000 in
theorem x_setSize (hok : cl_ok n f I P M H Y Z B NT SB) {v m : Int} (b_v : -2147483648 ≤ v ∧ v < 2147483648) (b_m : -2147483648 ≤ m ∧ m < 2147483648) (hx : ¬ ((18 ≤ v ∧ v ≤ 60) ∧ 2 ≤ m ∧ m ≤ 20)) : JX G (d + 7) mX7_setSize [.ref 0, .int (jI (v)), .int (jI (m))] (n, cl_f f I P M H Y Z) 1 6 eA (n, cl_f f I P M H Y Z) := by
  obtain ⟨c1, c2, c3, c4, c5, c6, c7, c8, c9, c10, c11, c12⟩ := id hok
  obtain ⟨⟨hm1, hm1'⟩, hm2, hm3, hmJ, hmF, hmT⟩ := id c8
  obtain ⟨hbat, hbok, hbne⟩ := id c6
  obtain ⟨bw, bkq, bfq, hb0, hb1, hb2, hbw, ⟨hbd, -, -⟩, -⟩ := id hbat
  obtain ⟨⟨hw1, hw2⟩, hh1, hh2⟩ := id c5
  refine ji_ent (by decide) rfl (Nat.le_of_ble_eq_true rfl) rfl ?_
  refine ji_iload_n dX7_setSize_0 rfl ?_
  refine ji_iload_n dX7_setSize_1 rfl ?_
  exact ji_cSx dX7_setSize_2 (x_checkSize b_v b_m hx) rfl wX7_checkSize sX7_checkSize lX7_142 rfl (Nat.le_of_ble_eq_true rfl) rfl (by omega) (by omega)

theorem cl_okS (hok : cl_ok n f I P M H Y Z B NT SB) {v m : Int} (hx : (18 ≤ v ∧ v ≤ 60) ∧ 2 ≤ m ∧ m ≤ 20) : cl_ok n f I (P.1, P.2.1, v, m, P.2.2.2.2.1, 1) M H Y Z B NT SB := by
  obtain ⟨c1, c2, c3, c4, c5, c6, c7, c8, c9, c10, c11, c12⟩ := hok
  exact ⟨c1, c2, c3, c4, hx, c6, Or.inr rfl, c8, c9, c10, c11, fun q => absurd (show (1 : Int) = 0 from q) (by decide)⟩
set_option maxHeartbeats 4000000 in
set_option maxRecDepth 100000 in
theorem k_setSize_r (hok : cl_ok n f I P M H Y Z B NT SB) (hfr : cl_fr P Y B NT) {v m : Int} (hx : (18 ≤ v ∧ v ≤ 60) ∧ 2 ≤ m ∧ m ≤ 20) : JW G (d + 6) mX7_setSize 24 [some (.ref 0), some (.int (jI (v))), some (.int (jI (m)))] [] (n, cl_f f I P M H Y Z) 0 0 (fun r9 h9 => r9 = .inl (some (.int (jI (Y.2.2.2.2.1)))) ∧ h9 = (n, cl_f f I P M H Y Z)) := by
  obtain ⟨c1, c2, c3, c4, c5, c6, c7, c8, c9, c10, c11, c12⟩ := id hok
  obtain ⟨⟨hm1, hm1'⟩, hm2, hm3, hmJ, hmF, hmT⟩ := id c8
  obtain ⟨hbat, hbok, hbne⟩ := id c6
  obtain ⟨bw, bkq, bfq, hb0, hb1, hb2, hbw, ⟨hbd, -, -⟩, -⟩ := id hbat
  obtain ⟨⟨hw1, hw2⟩, hh1, hh2⟩ := id c5
  obtain ⟨⟨hl1, hl2⟩, ⟨hp1, hp2⟩, hy1, hy2, hy3⟩ := id (cl_fr_b hok hfr)
  have hcx : ∀ {I' : in_T} {M' : mk_T} {H' : hi_T} {Y' Z' : ly_T}, ly_cx n (cl_f f I' P M' H' Y' Z') 40 Y.1 B P.2.1 := by rw [hy1]; exact cl_cx hok (by decide) rfl
  obtain ⟨hA0, hN, h3, h5, h7, h89⟩ := id c10.1
  have hl : 0 ≤ Y.2.2.2.1 ∧ Y.2.2.2.1 ≤ 240 := by omega
  have hp : 0 ≤ Y.2.2.2.2.1 ∧ Y.2.2.2.2.1 ≤ 240 := by omega
  refine ji_aload_n dX7_setSize_24 rfl trivial ?_
  refine ji_get (ci := 7) (k := 8) rfl dX7_setSize_25 lX7_64 (by decide) (cl_0h) rfl ?_
  refine ji_cV dX7_setSize_28 (cl_jYs (k_Layout_pages hcx hA0 hl)) rfl (cl_40h) rfl rfl wX3_pages vX3_pages lX7_149 rfl (Nat.le_of_ble_eq_true rfl) rfl ?_
  exact ji_ireturn dX7_setSize_31 rfl (rfl) ⟨jr_i (by first | rfl | omega), rfl⟩

set_option maxHeartbeats 4000000 in
set_option maxRecDepth 100000 in
theorem k_setSize (hok : cl_ok n f I P M H Y Z B NT SB) {v m : Int} (hx : (18 ≤ v ∧ v ≤ 60) ∧ 2 ≤ m ∧ m ≤ 20) : JR G (d + 6) mX7_setSize [.ref 0, .int (jI (v)), .int (jI (m))] (n, cl_f f I P M H Y Z) 0 0 (some (.int (jI ((cl_RY (P.1, P.2.1, v, m, P.2.2.2.2.1, 1) Y B NT).2.2.2.2.1)))) (n, cl_f f I (cl_RP (P.1, P.2.1, v, m, P.2.2.2.2.1, 1)) M H (cl_RY (P.1, P.2.1, v, m, P.2.2.2.2.1, 1) Y B NT) Z) := by
  obtain ⟨c1, c2, c3, c4, c5, c6, c7, c8, c9, c10, c11, c12⟩ := id hok
  obtain ⟨⟨hm1, hm1'⟩, hm2, hm3, hmJ, hmF, hmT⟩ := id c8
  obtain ⟨hbat, hbok, hbne⟩ := id c6
  obtain ⟨bw, bkq, bfq, hb0, hb1, hb2, hbw, ⟨hbd, -, -⟩, -⟩ := id hbat
  obtain ⟨⟨hw1, hw2⟩, hh1, hh2⟩ := id c5
  refine ji_ent (by decide) rfl (Nat.le_of_ble_eq_true rfl) rfl ?_
  refine ji_iload_n dX7_setSize_0 rfl ?_
  refine ji_iload_n dX7_setSize_1 rfl ?_
  refine ji_cSv dX7_setSize_2 (k_checkSize (by omega) (by omega) hx) rfl wX7_checkSize sX7_checkSize lX7_142 rfl (Nat.le_of_ble_eq_true rfl) rfl ?_
  refine ji_aload_n dX7_setSize_5 rfl trivial ?_
  refine ji_iload_n dX7_setSize_6 rfl ?_
  refine ji_putE (ci := 7) (k := 3) rfl dX7_setSize_7 lX7_26 (by decide) (cl_0h) (by simp [cl_c0]) (ji_fitI _) rfl (cl_pw) ?_
  refine ji_aload_n dX7_setSize_10 rfl trivial ?_
  refine ji_iload_n dX7_setSize_11 rfl ?_
  refine ji_putE (ci := 7) (k := 4) rfl dX7_setSize_12 lX7_30 (by decide) (cl_0h) (by simp [cl_c0]) (ji_fitI _) rfl (cl_ph) ?_
  refine ji_aload_n dX7_setSize_15 rfl trivial ?_
  refine ji_iconst dX7_setSize_16 ?_
  refine ji_putE (ci := 7) (k := 10) rfl dX7_setSize_17 lX7_71 (by decide) (cl_0h) (by simp [cl_c0]) (ji_fitZ (by first | omega | decide)) rfl (cl_ps) ?_
  refine ji_aload_n dX7_setSize_20 rfl trivial ?_
  refine ji_cVv dX7_setSize_21 (k_refresh (cl_okS hok hx)) rfl (cl_0h) rfl rfl wX7_refresh vX7_refresh lX7_146 rfl (Nat.le_of_ble_eq_true rfl) rfl ?_
  exact k_setSize_r (cl_fr_ok (cl_okS hok hx)).2 (cl_fr_ok (cl_okS hok hx)).1 hx

def st_lim (k : Int) : Int := if k < 2 then 4 else if k = 2 then 2 else 1
theorem st_lim_eq {k : Int} (h : 0 ≤ k ∧ k < 5) : ([4, 4, 2, 1, 1] : List Int).getD k.toNat 0 = st_lim k := by
  rcases (show k = 0 ∨ k = 1 ∨ k = 2 ∨ k = 3 ∨ k = 4 by omega) with rfl | rfl | rfl | rfl | rfl <;> decide
theorem cl_s5 {v : Nat → Int} : ((n, cl_f f I P M H Y Z).1, va_up (n, cl_f f I P M H Y Z).2 5 (.inr (.int, 5, .inl v))) = (n, cl_f f I (P.1, v, P.2.2) M H Y Z) := congrArg (Prod.mk n) cl_st
set_option maxHeartbeats 4000000 in
set_option maxRecDepth 100000 in
theorem x_setStyle1 (hok : cl_ok n f I P M H Y Z B NT SB) {v m : Int} (b_v : -2147483648 ≤ v ∧ v < 2147483648) (hx : v < 0 ∨ 5 ≤ v) : JX G (d + 6) mX7_setStyle [.ref 0, .int (jI (v)), .int (jI (m))] (n, cl_f f I P M H Y Z) 1 6 eA (n, cl_f f I P M H Y Z) := by
  obtain ⟨c1, c2, c3, c4, c5, c6, c7, c8, c9, c10, c11, c12⟩ := id hok
  obtain ⟨⟨hm1, hm1'⟩, hm2, hm3, hmJ, hmF, hmT⟩ := id c8
  obtain ⟨hbat, hbok, hbne⟩ := id c6
  obtain ⟨bw, bkq, bfq, hb0, hb1, hb2, hbw, ⟨hbd, -, -⟩, -⟩ := id hbat
  obtain ⟨⟨hw1, hw2⟩, hh1, hh2⟩ := id c5
  have hsl : ∀ k : Int, 0 ≤ k ∧ k < 5 → ([4, 4, 2, 1, 1] : List Int).getD k.toNat 0 = st_lim k := fun k h => st_lim_eq h
  have hs9 : st_lim v = 4 ∨ st_lim v = 2 ∨ st_lim v = 1 := by unfold st_lim; split; omega; split <;> omega
  refine ji_ent (by decide) rfl (Nat.le_of_ble_eq_true rfl) rfl ?_
  refine ji_iload_n dX7_setStyle_0 rfl ?_
  refine ji_if_lt (tgt := 21) dX7_setStyle_1 rfl (by first | omega | (rw [st_lim_eq (by omega)]; omega)) (fun c1 => ?_) (fun c1 => ?_)
  · try (exfalso; omega)
    all_goals
      exact ji_throw (text := "there is no such part of the style") ji_thrA rfl (by decide) rfl dX7_setStyle_21 dX7_setStyle_24 dX7_setStyle_25 dX7_setStyle_27 dX7_setStyle_30 (by omega) (by omega) (Nat.le_of_ble_eq_true rfl) ⟨rfl, rfl⟩
  · try (exfalso; omega)
    all_goals
      refine ji_iload_n dX7_setStyle_4 rfl ?_
      refine ji_gets dX7_setStyle_5 rfl lX7_152 ?_
      refine ji_slen dX7_setStyle_8 ?_
      refine ji_icmp_ge (tgt := 21) dX7_setStyle_9 rfl (by first | omega | (rw [st_lim_eq (by omega)]; omega)) (by first | omega | (rw [st_lim_eq (by omega)]; omega)) (fun c9 => ?_) (fun c9 => ?_)
      · try (exfalso; omega)
        all_goals
          exact ji_throw (text := "there is no such part of the style") ji_thrA rfl (by decide) rfl dX7_setStyle_21 dX7_setStyle_24 dX7_setStyle_25 dX7_setStyle_27 dX7_setStyle_30 (by omega) (by omega) (Nat.le_of_ble_eq_true rfl) ⟨rfl, rfl⟩
      · try (exfalso; omega)
        all_goals
          refine ji_iload_n dX7_setStyle_12 rfl ?_
          refine ji_aload_n dX7_setStyle_13 rfl trivial ?_
          refine ji_get (ci := 7) (k := 2) rfl dX7_setStyle_14 lX7_22 (by decide) (cl_0h) rfl ?_
          refine ji_alen dX7_setStyle_17 (cl_5h) (fun cy => rfl) ?_
          refine ji_icmp_lt (tgt := 31) dX7_setStyle_18 rfl (by first | omega | (rw [st_lim_eq (by omega)]; omega)) (by first | omega | (rw [st_lim_eq (by omega)]; omega)) (fun c18 => ?_) (fun c18 => ?_)
          · try (exfalso; omega)
            all_goals
              refine ji_iload_n dX7_setStyle_31 rfl ?_
              refine ji_if_lt (tgt := 44) dX7_setStyle_32 rfl (by first | omega | (rw [st_lim_eq (by omega)]; omega)) (fun c32 => ?_) (fun c32 => ?_)
              · try (exfalso; omega)
                all_goals
                  exact ji_throw (text := "value is out of range") ji_thrA rfl (by decide) rfl dX7_setStyle_44 dX7_setStyle_47 dX7_setStyle_48 dX7_setStyle_50 dX7_setStyle_53 (by omega) (by omega) (Nat.le_of_ble_eq_true rfl) ⟨rfl, rfl⟩
              · try (exfalso; omega)
                all_goals
                  refine ji_iload_n dX7_setStyle_35 rfl ?_
                  refine ji_gets dX7_setStyle_36 rfl lX7_152 ?_
                  refine ji_iload_n dX7_setStyle_39 rfl ?_
                  refine ji_sld dX7_setStyle_40 (by first | omega | (rw [st_lim_eq (by omega)]; omega)) ?_
                  refine ji_icmp_le (tgt := 54) dX7_setStyle_41 rfl (by first | omega | (rw [st_lim_eq (by omega)]; omega)) (by first | omega | (rw [st_lim_eq (by omega)]; omega)) (fun c41 => ?_) (fun c41 => ?_)
                  · try (exfalso; omega)
                    all_goals
                      refine ji_aload_n dX7_setStyle_54 rfl trivial ?_
                      refine ji_get (ci := 7) (k := 2) rfl dX7_setStyle_55 lX7_22 (by decide) (cl_0h) rfl ?_
                      refine ji_iload_n dX7_setStyle_58 rfl ?_
                      refine ji_iaload dX7_setStyle_59 (cl_5h) (by first | omega | (rw [st_lim_eq (by omega)]; omega)) ?_
                      refine ji_istore_n dX7_setStyle_60 (by decide) rfl ?_
                      refine ji_aload_n dX7_setStyle_61 rfl trivial ?_
                      refine ji_get (ci := 7) (k := 2) rfl dX7_setStyle_62 lX7_22 (by decide) (cl_0h) rfl ?_
                      refine ji_iload_n dX7_setStyle_65 rfl ?_
                      refine ji_iload_n dX7_setStyle_66 rfl ?_
                      refine ji_iastore dX7_setStyle_67 (cl_5h) (by first | omega | (rw [st_lim_eq (by omega)]; omega)) ?_
                      refine ji_aload_n dX7_setStyle_68 rfl trivial ?_
                      refine ji_iconst dX7_setStyle_69 ?_
                      refine ji_putE (ci := 7) (k := 10) rfl dX7_setStyle_70 lX7_71 (by decide) (cl_0h) (by simp [cl_c0]) (ji_fitZ (by first | omega | decide)) rfl (cl_ps) ?_
                      refine ji_iload_n dX7_setStyle_73 rfl ?_
                      exact ji_ireturn dX7_setStyle_74 rfl (rfl) ⟨rfl, rfl⟩
                  · try (exfalso; omega)
                    all_goals
                      exact ji_throw (text := "value is out of range") ji_thrA rfl (by decide) rfl dX7_setStyle_44 dX7_setStyle_47 dX7_setStyle_48 dX7_setStyle_50 dX7_setStyle_53 (by omega) (by omega) (Nat.le_of_ble_eq_true rfl) ⟨rfl, rfl⟩
          · try (exfalso; omega)
            all_goals
              exact ji_throw (text := "there is no such part of the style") ji_thrA rfl (by decide) rfl dX7_setStyle_21 dX7_setStyle_24 dX7_setStyle_25 dX7_setStyle_27 dX7_setStyle_30 (by omega) (by omega) (Nat.le_of_ble_eq_true rfl) ⟨rfl, rfl⟩

set_option maxHeartbeats 4000000 in
set_option maxRecDepth 100000 in
theorem x_setStyle2 (hok : cl_ok n f I P M H Y Z B NT SB) {v m : Int} (b_m : -2147483648 ≤ m ∧ m < 2147483648) (hv : 0 ≤ v ∧ v < 5) (hx : m < 0 ∨ st_lim v < m) : JX G (d + 6) mX7_setStyle [.ref 0, .int (jI (v)), .int (jI (m))] (n, cl_f f I P M H Y Z) 1 6 eA (n, cl_f f I P M H Y Z) := by
  obtain ⟨c1, c2, c3, c4, c5, c6, c7, c8, c9, c10, c11, c12⟩ := id hok
  obtain ⟨⟨hm1, hm1'⟩, hm2, hm3, hmJ, hmF, hmT⟩ := id c8
  obtain ⟨hbat, hbok, hbne⟩ := id c6
  obtain ⟨bw, bkq, bfq, hb0, hb1, hb2, hbw, ⟨hbd, -, -⟩, -⟩ := id hbat
  obtain ⟨⟨hw1, hw2⟩, hh1, hh2⟩ := id c5
  have hsl : ∀ k : Int, 0 ≤ k ∧ k < 5 → ([4, 4, 2, 1, 1] : List Int).getD k.toNat 0 = st_lim k := fun k h => st_lim_eq h
  have hs9 : st_lim v = 4 ∨ st_lim v = 2 ∨ st_lim v = 1 := by unfold st_lim; split; omega; split <;> omega
  have hq := hsl v hv
  refine ji_ent (by decide) rfl (Nat.le_of_ble_eq_true rfl) rfl ?_
  refine ji_iload_n dX7_setStyle_0 rfl ?_
  refine ji_if_lt (tgt := 21) dX7_setStyle_1 rfl (by first | omega | (rw [st_lim_eq (by omega)]; omega)) (fun c1 => ?_) (fun c1 => ?_)
  · try (exfalso; omega)
    all_goals
      exact ji_throw (text := "there is no such part of the style") ji_thrA rfl (by decide) rfl dX7_setStyle_21 dX7_setStyle_24 dX7_setStyle_25 dX7_setStyle_27 dX7_setStyle_30 (by omega) (by omega) (Nat.le_of_ble_eq_true rfl) ⟨rfl, rfl⟩
  · try (exfalso; omega)
    all_goals
      refine ji_iload_n dX7_setStyle_4 rfl ?_
      refine ji_gets dX7_setStyle_5 rfl lX7_152 ?_
      refine ji_slen dX7_setStyle_8 ?_
      refine ji_icmp_ge (tgt := 21) dX7_setStyle_9 rfl (by first | omega | (rw [st_lim_eq (by omega)]; omega)) (by first | omega | (rw [st_lim_eq (by omega)]; omega)) (fun c9 => ?_) (fun c9 => ?_)
      · try (exfalso; omega)
        all_goals
          exact ji_throw (text := "there is no such part of the style") ji_thrA rfl (by decide) rfl dX7_setStyle_21 dX7_setStyle_24 dX7_setStyle_25 dX7_setStyle_27 dX7_setStyle_30 (by omega) (by omega) (Nat.le_of_ble_eq_true rfl) ⟨rfl, rfl⟩
      · try (exfalso; omega)
        all_goals
          refine ji_iload_n dX7_setStyle_12 rfl ?_
          refine ji_aload_n dX7_setStyle_13 rfl trivial ?_
          refine ji_get (ci := 7) (k := 2) rfl dX7_setStyle_14 lX7_22 (by decide) (cl_0h) rfl ?_
          refine ji_alen dX7_setStyle_17 (cl_5h) (fun cy => rfl) ?_
          refine ji_icmp_lt (tgt := 31) dX7_setStyle_18 rfl (by first | omega | (rw [st_lim_eq (by omega)]; omega)) (by first | omega | (rw [st_lim_eq (by omega)]; omega)) (fun c18 => ?_) (fun c18 => ?_)
          · try (exfalso; omega)
            all_goals
              refine ji_iload_n dX7_setStyle_31 rfl ?_
              refine ji_if_lt (tgt := 44) dX7_setStyle_32 rfl (by first | omega | (rw [st_lim_eq (by omega)]; omega)) (fun c32 => ?_) (fun c32 => ?_)
              · try (exfalso; omega)
                all_goals
                  exact ji_throw (text := "value is out of range") ji_thrA rfl (by decide) rfl dX7_setStyle_44 dX7_setStyle_47 dX7_setStyle_48 dX7_setStyle_50 dX7_setStyle_53 (by omega) (by omega) (Nat.le_of_ble_eq_true rfl) ⟨rfl, rfl⟩
              · try (exfalso; omega)
                all_goals
                  refine ji_iload_n dX7_setStyle_35 rfl ?_
                  refine ji_gets dX7_setStyle_36 rfl lX7_152 ?_
                  refine ji_iload_n dX7_setStyle_39 rfl ?_
                  refine ji_sld dX7_setStyle_40 (by first | omega | (rw [st_lim_eq (by omega)]; omega)) ?_
                  refine ji_icmp_le (tgt := 54) dX7_setStyle_41 rfl (by first | omega | (rw [st_lim_eq (by omega)]; omega)) (by first | omega | (rw [st_lim_eq (by omega)]; omega)) (fun c41 => ?_) (fun c41 => ?_)
                  · try (exfalso; omega)
                    all_goals
                      refine ji_aload_n dX7_setStyle_54 rfl trivial ?_
                      refine ji_get (ci := 7) (k := 2) rfl dX7_setStyle_55 lX7_22 (by decide) (cl_0h) rfl ?_
                      refine ji_iload_n dX7_setStyle_58 rfl ?_
                      refine ji_iaload dX7_setStyle_59 (cl_5h) (by first | omega | (rw [st_lim_eq (by omega)]; omega)) ?_
                      refine ji_istore_n dX7_setStyle_60 (by decide) rfl ?_
                      refine ji_aload_n dX7_setStyle_61 rfl trivial ?_
                      refine ji_get (ci := 7) (k := 2) rfl dX7_setStyle_62 lX7_22 (by decide) (cl_0h) rfl ?_
                      refine ji_iload_n dX7_setStyle_65 rfl ?_
                      refine ji_iload_n dX7_setStyle_66 rfl ?_
                      refine ji_iastore dX7_setStyle_67 (cl_5h) (by first | omega | (rw [st_lim_eq (by omega)]; omega)) ?_
                      refine ji_aload_n dX7_setStyle_68 rfl trivial ?_
                      refine ji_iconst dX7_setStyle_69 ?_
                      refine ji_putE (ci := 7) (k := 10) rfl dX7_setStyle_70 lX7_71 (by decide) (cl_0h) (by simp [cl_c0]) (ji_fitZ (by first | omega | decide)) rfl (cl_ps) ?_
                      refine ji_iload_n dX7_setStyle_73 rfl ?_
                      exact ji_ireturn dX7_setStyle_74 rfl (rfl) ⟨rfl, rfl⟩
                  · try (exfalso; omega)
                    all_goals
                      exact ji_throw (text := "value is out of range") ji_thrA rfl (by decide) rfl dX7_setStyle_44 dX7_setStyle_47 dX7_setStyle_48 dX7_setStyle_50 dX7_setStyle_53 (by omega) (by omega) (Nat.le_of_ble_eq_true rfl) ⟨rfl, rfl⟩
          · try (exfalso; omega)
            all_goals
              exact ji_throw (text := "there is no such part of the style") ji_thrA rfl (by decide) rfl dX7_setStyle_21 dX7_setStyle_24 dX7_setStyle_25 dX7_setStyle_27 dX7_setStyle_30 (by omega) (by omega) (Nat.le_of_ble_eq_true rfl) ⟨rfl, rfl⟩

set_option maxHeartbeats 4000000 in
set_option maxRecDepth 100000 in
theorem k_setStyle (hok : cl_ok n f I P M H Y Z B NT SB) {v m : Int} (hv : 0 ≤ v ∧ v < 5) (hx : 0 ≤ m ∧ m ≤ st_lim v) : JR G d mX7_setStyle [.ref 0, .int (jI (v)), .int (jI (m))] (n, cl_f f I P M H Y Z) 0 0 (some (.int (jI (P.2.1 v.toNat)))) (n, cl_f f I (P.1, va_up P.2.1 v.toNat m, P.2.2.1, P.2.2.2.1, P.2.2.2.2.1, 1) M H Y Z) := by
  obtain ⟨c1, c2, c3, c4, c5, c6, c7, c8, c9, c10, c11, c12⟩ := id hok
  obtain ⟨⟨hm1, hm1'⟩, hm2, hm3, hmJ, hmF, hmT⟩ := id c8
  obtain ⟨hbat, hbok, hbne⟩ := id c6
  obtain ⟨bw, bkq, bfq, hb0, hb1, hb2, hbw, ⟨hbd, -, -⟩, -⟩ := id hbat
  obtain ⟨⟨hw1, hw2⟩, hh1, hh2⟩ := id c5
  have hsl : ∀ k : Int, 0 ≤ k ∧ k < 5 → ([4, 4, 2, 1, 1] : List Int).getD k.toNat 0 = st_lim k := fun k h => st_lim_eq h
  have hs9 : st_lim v = 4 ∨ st_lim v = 2 ∨ st_lim v = 1 := by unfold st_lim; split; omega; split <;> omega
  have hq := hsl v hv
  refine ji_ent (by decide) rfl (Nat.le_of_ble_eq_true rfl) rfl ?_
  refine ji_iload_n dX7_setStyle_0 rfl ?_
  refine ji_if_lt (tgt := 21) dX7_setStyle_1 rfl (by first | omega | (rw [st_lim_eq (by omega)]; omega)) (fun c1 => ?_) (fun c1 => ?_)
  · try (exfalso; omega)
    all_goals
      exact ji_throw (text := "there is no such part of the style") ji_thrA rfl (by decide) rfl dX7_setStyle_21 dX7_setStyle_24 dX7_setStyle_25 dX7_setStyle_27 dX7_setStyle_30 (by omega) (by omega) (Nat.le_of_ble_eq_true rfl) ⟨jr_i (by first | rfl | omega), rfl⟩
  · try (exfalso; omega)
    all_goals
      refine ji_iload_n dX7_setStyle_4 rfl ?_
      refine ji_gets dX7_setStyle_5 rfl lX7_152 ?_
      refine ji_slen dX7_setStyle_8 ?_
      refine ji_icmp_ge (tgt := 21) dX7_setStyle_9 rfl (by first | omega | (rw [st_lim_eq (by omega)]; omega)) (by first | omega | (rw [st_lim_eq (by omega)]; omega)) (fun c9 => ?_) (fun c9 => ?_)
      · try (exfalso; omega)
        all_goals
          exact ji_throw (text := "there is no such part of the style") ji_thrA rfl (by decide) rfl dX7_setStyle_21 dX7_setStyle_24 dX7_setStyle_25 dX7_setStyle_27 dX7_setStyle_30 (by omega) (by omega) (Nat.le_of_ble_eq_true rfl) ⟨jr_i (by first | rfl | omega), rfl⟩
      · try (exfalso; omega)
        all_goals
          refine ji_iload_n dX7_setStyle_12 rfl ?_
          refine ji_aload_n dX7_setStyle_13 rfl trivial ?_
          refine ji_get (ci := 7) (k := 2) rfl dX7_setStyle_14 lX7_22 (by decide) (cl_0h) rfl ?_
          refine ji_alen dX7_setStyle_17 (cl_5h) (fun cy => rfl) ?_
          refine ji_icmp_lt (tgt := 31) dX7_setStyle_18 rfl (by first | omega | (rw [st_lim_eq (by omega)]; omega)) (by first | omega | (rw [st_lim_eq (by omega)]; omega)) (fun c18 => ?_) (fun c18 => ?_)
          · try (exfalso; omega)
            all_goals
              refine ji_iload_n dX7_setStyle_31 rfl ?_
              refine ji_if_lt (tgt := 44) dX7_setStyle_32 rfl (by first | omega | (rw [st_lim_eq (by omega)]; omega)) (fun c32 => ?_) (fun c32 => ?_)
              · try (exfalso; omega)
                all_goals
                  exact ji_throw (text := "value is out of range") ji_thrA rfl (by decide) rfl dX7_setStyle_44 dX7_setStyle_47 dX7_setStyle_48 dX7_setStyle_50 dX7_setStyle_53 (by omega) (by omega) (Nat.le_of_ble_eq_true rfl) ⟨jr_i (by first | rfl | omega), rfl⟩
              · try (exfalso; omega)
                all_goals
                  refine ji_iload_n dX7_setStyle_35 rfl ?_
                  refine ji_gets dX7_setStyle_36 rfl lX7_152 ?_
                  refine ji_iload_n dX7_setStyle_39 rfl ?_
                  refine ji_sld dX7_setStyle_40 (by first | omega | (rw [st_lim_eq (by omega)]; omega)) ?_
                  refine ji_icmp_le (tgt := 54) dX7_setStyle_41 rfl (by first | omega | (rw [st_lim_eq (by omega)]; omega)) (by first | omega | (rw [st_lim_eq (by omega)]; omega)) (fun c41 => ?_) (fun c41 => ?_)
                  · try (exfalso; omega)
                    all_goals
                      refine ji_aload_n dX7_setStyle_54 rfl trivial ?_
                      refine ji_get (ci := 7) (k := 2) rfl dX7_setStyle_55 lX7_22 (by decide) (cl_0h) rfl ?_
                      refine ji_iload_n dX7_setStyle_58 rfl ?_
                      refine ji_iaload dX7_setStyle_59 (cl_5h) (by first | omega | (rw [st_lim_eq (by omega)]; omega)) ?_
                      refine ji_istore_n dX7_setStyle_60 (by decide) rfl ?_
                      refine ji_aload_n dX7_setStyle_61 rfl trivial ?_
                      refine ji_get (ci := 7) (k := 2) rfl dX7_setStyle_62 lX7_22 (by decide) (cl_0h) rfl ?_
                      refine ji_iload_n dX7_setStyle_65 rfl ?_
                      refine ji_iload_n dX7_setStyle_66 rfl ?_
                      refine ji_iastoreE dX7_setStyle_67 (cl_5h) (by first | omega | (rw [st_lim_eq (by omega)]; omega)) (cl_s5) ?_
                      refine ji_aload_n dX7_setStyle_68 rfl trivial ?_
                      refine ji_iconst dX7_setStyle_69 ?_
                      refine ji_putE (ci := 7) (k := 10) rfl dX7_setStyle_70 lX7_71 (by decide) (cl_0h) (by simp [cl_c0]) (ji_fitZ (by first | omega | decide)) rfl (cl_ps) ?_
                      refine ji_iload_n dX7_setStyle_73 rfl ?_
                      exact ji_ireturn dX7_setStyle_74 rfl (rfl) ⟨jr_i (by first | rfl | omega), rfl⟩
                  · try (exfalso; omega)
                    all_goals
                      exact ji_throw (text := "value is out of range") ji_thrA rfl (by decide) rfl dX7_setStyle_44 dX7_setStyle_47 dX7_setStyle_48 dX7_setStyle_50 dX7_setStyle_53 (by omega) (by omega) (Nat.le_of_ble_eq_true rfl) ⟨jr_i (by first | rfl | omega), rfl⟩
          · try (exfalso; omega)
            all_goals
              exact ji_throw (text := "there is no such part of the style") ji_thrA rfl (by decide) rfl dX7_setStyle_21 dX7_setStyle_24 dX7_setStyle_25 dX7_setStyle_27 dX7_setStyle_30 (by omega) (by omega) (Nat.le_of_ble_eq_true rfl) ⟨jr_i (by first | rfl | omega), rfl⟩

set_option maxHeartbeats 4000000 in
set_option maxRecDepth 100000 in
theorem x_page1_r (hok : cl_ok n f I P M H Y Z B NT SB) (hfr : cl_fr P Y B NT) {v m : Int} (b_v : -2147483648 ≤ v ∧ v < 2147483648) (hx : v < 0 ∨ Y.2.2.2.2.1 ≤ v) : JW G (d + 7) mX7_page 4 [some (.ref 0), some (.int (jI (v))), some (.int (jI (m)))] [] (n, cl_f f I P M H Y Z) 1 6 (fun r9 h9 => r9 = .inr eI ∧ h9 = (n, cl_f f I P M H Y Z)) := by
  obtain ⟨c1, c2, c3, c4, c5, c6, c7, c8, c9, c10, c11, c12⟩ := id hok
  obtain ⟨⟨hm1, hm1'⟩, hm2, hm3, hmJ, hmF, hmT⟩ := id c8
  obtain ⟨hbat, hbok, hbne⟩ := id c6
  obtain ⟨bw, bkq, bfq, hb0, hb1, hb2, hbw, ⟨hbd, -, -⟩, -⟩ := id hbat
  obtain ⟨⟨hw1, hw2⟩, hh1, hh2⟩ := id c5
  obtain ⟨⟨hl1, hl2⟩, ⟨hp1, hp2⟩, hy1, hy2, hy3⟩ := id (cl_fr_b hok hfr)
  have hcx : ∀ {I' : in_T} {M' : mk_T} {H' : hi_T} {Y' Z' : ly_T}, ly_cx n (cl_f f I' P M' H' Y' Z') 40 Y.1 B P.2.1 := by rw [hy1]; exact cl_cx hok (by decide) rfl
  obtain ⟨hA0, hN, h3, h5, h7, h89⟩ := id c10.1
  have hl : 0 ≤ Y.2.2.2.1 ∧ Y.2.2.2.1 ≤ 240 := by omega
  have hp : 0 ≤ Y.2.2.2.2.1 ∧ Y.2.2.2.2.1 ≤ 240 := by omega
  refine ji_aload_n dX7_page_4 rfl trivial ?_
  refine ji_iload_n dX7_page_5 rfl ?_
  exact ji_cVx dX7_page_6 (x_checkPage hok hfr b_v hx) rfl (cl_0h) rfl rfl wX7_checkPage vX7_checkPage lX7_159 rfl (Nat.le_of_ble_eq_true rfl) rfl (by omega) (by omega)

set_option maxHeartbeats 4000000 in
set_option maxRecDepth 100000 in
theorem x_page1 (hok : cl_ok n f I P M H Y Z B NT SB) {v m : Int} (b_v : -2147483648 ≤ v ∧ v < 2147483648) (hx : v < 0 ∨ (cl_RY P Y B NT).2.2.2.2.1 ≤ v) : JX G (d + 7) mX7_page [.ref 0, .int (jI (v)), .int (jI (m))] (n, cl_f f I P M H Y Z) 1 6 eI (n, cl_f f I (cl_RP P) M H (cl_RY P Y B NT) Z) := by
  obtain ⟨c1, c2, c3, c4, c5, c6, c7, c8, c9, c10, c11, c12⟩ := id hok
  obtain ⟨⟨hm1, hm1'⟩, hm2, hm3, hmJ, hmF, hmT⟩ := id c8
  obtain ⟨hbat, hbok, hbne⟩ := id c6
  obtain ⟨bw, bkq, bfq, hb0, hb1, hb2, hbw, ⟨hbd, -, -⟩, -⟩ := id hbat
  obtain ⟨⟨hw1, hw2⟩, hh1, hh2⟩ := id c5
  refine ji_ent (by decide) rfl (Nat.le_of_ble_eq_true rfl) rfl ?_
  refine ji_aload_n dX7_page_0 rfl trivial ?_
  refine ji_cVv dX7_page_1 (k_refresh hok) rfl (cl_0h) rfl rfl wX7_refresh vX7_refresh lX7_146 rfl (Nat.le_of_ble_eq_true rfl) rfl ?_
  exact x_page1_r (cl_fr_ok hok).2 (cl_fr_ok hok).1 b_v hx

set_option maxHeartbeats 4000000 in
set_option maxRecDepth 100000 in
theorem x_page2_r (hok : cl_ok n f I P M H Y Z B NT SB) (hfr : cl_fr P Y B NT) {v m : Int} (b_v : -2147483648 ≤ v ∧ v < 2147483648) (b_m : -2147483648 ≤ m ∧ m < 2147483648) (hv : 0 ≤ v ∧ v < Y.2.2.2.2.1) (hx : m < 0 ∨ 7 ≤ m) : JW G (d + 7) mX7_page 4 [some (.ref 0), some (.int (jI (v))), some (.int (jI (m)))] [] (n, cl_f f I P M H Y Z) 1 6 (fun r9 h9 => r9 = .inr eA ∧ h9 = (n, cl_f f I P M H Y Z)) := by
  obtain ⟨c1, c2, c3, c4, c5, c6, c7, c8, c9, c10, c11, c12⟩ := id hok
  obtain ⟨⟨hm1, hm1'⟩, hm2, hm3, hmJ, hmF, hmT⟩ := id c8
  obtain ⟨hbat, hbok, hbne⟩ := id c6
  obtain ⟨bw, bkq, bfq, hb0, hb1, hb2, hbw, ⟨hbd, -, -⟩, -⟩ := id hbat
  obtain ⟨⟨hw1, hw2⟩, hh1, hh2⟩ := id c5
  obtain ⟨⟨hl1, hl2⟩, ⟨hp1, hp2⟩, hy1, hy2, hy3⟩ := id (cl_fr_b hok hfr)
  have hcx : ∀ {I' : in_T} {M' : mk_T} {H' : hi_T} {Y' Z' : ly_T}, ly_cx n (cl_f f I' P M' H' Y' Z') 40 Y.1 B P.2.1 := by rw [hy1]; exact cl_cx hok (by decide) rfl
  obtain ⟨hA0, hN, h3, h5, h7, h89⟩ := id c10.1
  have hl : 0 ≤ Y.2.2.2.1 ∧ Y.2.2.2.1 ≤ 240 := by omega
  have hp : 0 ≤ Y.2.2.2.2.1 ∧ Y.2.2.2.2.1 ≤ 240 := by omega
  refine ji_aload_n dX7_page_4 rfl trivial ?_
  refine ji_iload_n dX7_page_5 rfl ?_
  refine ji_cVv dX7_page_6 (k_checkPage hok hfr b_v hv) rfl (cl_0h) rfl rfl wX7_checkPage vX7_checkPage lX7_159 rfl (Nat.le_of_ble_eq_true rfl) rfl ?_
  refine ji_iload_n dX7_page_9 rfl ?_
  refine ji_bipush dX7_page_10 rfl ?_
  exact ji_cSx dX7_page_12 (x_checkWhat b_m (by omega) hx) rfl wX7_checkWhat sX7_checkWhat lX7_162 rfl (Nat.le_of_ble_eq_true rfl) rfl (by omega) (by omega)

set_option maxHeartbeats 4000000 in
set_option maxRecDepth 100000 in
theorem x_page2 (hok : cl_ok n f I P M H Y Z B NT SB) {v m : Int} (b_v : -2147483648 ≤ v ∧ v < 2147483648) (b_m : -2147483648 ≤ m ∧ m < 2147483648) (hv : 0 ≤ v ∧ v < (cl_RY P Y B NT).2.2.2.2.1) (hx : m < 0 ∨ 7 ≤ m) : JX G (d + 7) mX7_page [.ref 0, .int (jI (v)), .int (jI (m))] (n, cl_f f I P M H Y Z) 1 6 eA (n, cl_f f I (cl_RP P) M H (cl_RY P Y B NT) Z) := by
  obtain ⟨c1, c2, c3, c4, c5, c6, c7, c8, c9, c10, c11, c12⟩ := id hok
  obtain ⟨⟨hm1, hm1'⟩, hm2, hm3, hmJ, hmF, hmT⟩ := id c8
  obtain ⟨hbat, hbok, hbne⟩ := id c6
  obtain ⟨bw, bkq, bfq, hb0, hb1, hb2, hbw, ⟨hbd, -, -⟩, -⟩ := id hbat
  obtain ⟨⟨hw1, hw2⟩, hh1, hh2⟩ := id c5
  refine ji_ent (by decide) rfl (Nat.le_of_ble_eq_true rfl) rfl ?_
  refine ji_aload_n dX7_page_0 rfl trivial ?_
  refine ji_cVv dX7_page_1 (k_refresh hok) rfl (cl_0h) rfl rfl wX7_refresh vX7_refresh lX7_146 rfl (Nat.le_of_ble_eq_true rfl) rfl ?_
  exact x_page2_r (cl_fr_ok hok).2 (cl_fr_ok hok).1 b_v b_m hv hx

set_option maxHeartbeats 4000000 in
set_option maxRecDepth 100000 in
theorem k_page_r (hok : cl_ok n f I P M H Y Z B NT SB) (hfr : cl_fr P Y B NT) {v m : Int} (b_v : -2147483648 ≤ v ∧ v < 2147483648) (b_m : -2147483648 ≤ m ∧ m < 2147483648) (hv : 0 ≤ v ∧ v < Y.2.2.2.2.1) (hx : 0 ≤ m ∧ m < 7) : JW G (d + 6) mX7_page 4 [some (.ref 0), some (.int (jI (v))), some (.int (jI (m)))] [] (n, cl_f f I P M H Y Z) 0 0 (fun r9 h9 => r9 = .inl (some (.int (jI (cl_pgp B P M Y v m)))) ∧ h9 = (n, cl_f f I P M H Y Z)) := by
  obtain ⟨c1, c2, c3, c4, c5, c6, c7, c8, c9, c10, c11, c12⟩ := id hok
  obtain ⟨⟨hm1, hm1'⟩, hm2, hm3, hmJ, hmF, hmT⟩ := id c8
  obtain ⟨hbat, hbok, hbne⟩ := id c6
  obtain ⟨bw, bkq, bfq, hb0, hb1, hb2, hbw, ⟨hbd, -, -⟩, -⟩ := id hbat
  obtain ⟨⟨hw1, hw2⟩, hh1, hh2⟩ := id c5
  obtain ⟨⟨hl1, hl2⟩, ⟨hp1, hp2⟩, hy1, hy2, hy3⟩ := id (cl_fr_b hok hfr)
  have hcx : ∀ {I' : in_T} {M' : mk_T} {H' : hi_T} {Y' Z' : ly_T}, ly_cx n (cl_f f I' P M' H' Y' Z') 40 Y.1 B P.2.1 := by rw [hy1]; exact cl_cx hok (by decide) rfl
  obtain ⟨hA0, hN, h3, h5, h7, h89⟩ := id c10.1
  have hl : 0 ≤ Y.2.2.2.1 ∧ Y.2.2.2.1 ≤ 240 := by omega
  have hp : 0 ≤ Y.2.2.2.2.1 ∧ Y.2.2.2.2.1 ≤ 240 := by omega
  refine ji_aload_n dX7_page_4 rfl trivial ?_
  refine ji_iload_n dX7_page_5 rfl ?_
  refine ji_cVv dX7_page_6 (k_checkPage hok hfr b_v hv) rfl (cl_0h) rfl rfl wX7_checkPage vX7_checkPage lX7_159 rfl (Nat.le_of_ble_eq_true rfl) rfl ?_
  refine ji_iload_n dX7_page_9 rfl ?_
  refine ji_bipush dX7_page_10 rfl ?_
  refine ji_cSv dX7_page_12 (k_checkWhat b_m (by omega) hx) rfl wX7_checkWhat sX7_checkWhat lX7_162 rfl (Nat.le_of_ble_eq_true rfl) rfl ?_
  refine ji_aload_n dX7_page_15 rfl trivial ?_
  refine ji_iload_n dX7_page_16 rfl ?_
  refine ji_iload_n dX7_page_17 rfl ?_
  refine ji_cV dX7_page_18 (k_pageProperty hok hfr hv hx) rfl (cl_0h) rfl rfl wX7_pageProperty vX7_pageProperty lX7_165 rfl (Nat.le_of_ble_eq_true rfl) rfl ?_
  exact ji_ireturn dX7_page_21 rfl (rfl) ⟨jr_i (by first | rfl | omega), rfl⟩

set_option maxHeartbeats 4000000 in
set_option maxRecDepth 100000 in
theorem k_page (hok : cl_ok n f I P M H Y Z B NT SB) {v m : Int} (b_v : -2147483648 ≤ v ∧ v < 2147483648) (b_m : -2147483648 ≤ m ∧ m < 2147483648) (hv : 0 ≤ v ∧ v < (cl_RY P Y B NT).2.2.2.2.1) (hx : 0 ≤ m ∧ m < 7) : JR G (d + 6) mX7_page [.ref 0, .int (jI (v)), .int (jI (m))] (n, cl_f f I P M H Y Z) 0 0 (some (.int (jI (cl_pgp B (cl_RP P) M (cl_RY P Y B NT) v m)))) (n, cl_f f I (cl_RP P) M H (cl_RY P Y B NT) Z) := by
  obtain ⟨c1, c2, c3, c4, c5, c6, c7, c8, c9, c10, c11, c12⟩ := id hok
  obtain ⟨⟨hm1, hm1'⟩, hm2, hm3, hmJ, hmF, hmT⟩ := id c8
  obtain ⟨hbat, hbok, hbne⟩ := id c6
  obtain ⟨bw, bkq, bfq, hb0, hb1, hb2, hbw, ⟨hbd, -, -⟩, -⟩ := id hbat
  obtain ⟨⟨hw1, hw2⟩, hh1, hh2⟩ := id c5
  refine ji_ent (by decide) rfl (Nat.le_of_ble_eq_true rfl) rfl ?_
  refine ji_aload_n dX7_page_0 rfl trivial ?_
  refine ji_cVv dX7_page_1 (k_refresh hok) rfl (cl_0h) rfl rfl wX7_refresh vX7_refresh lX7_146 rfl (Nat.le_of_ble_eq_true rfl) rfl ?_
  exact k_page_r (cl_fr_ok hok).2 (cl_fr_ok hok).1 b_v b_m hv hx

set_option maxHeartbeats 4000000 in
set_option maxRecDepth 100000 in
theorem x_line1_r (hok : cl_ok n f I P M H Y Z B NT SB) (hfr : cl_fr P Y B NT) {v m : Int} (b_v : -2147483648 ≤ v ∧ v < 2147483648) (hx : v < 0 ∨ Y.2.2.2.1 ≤ v) : JW G (d + 7) mX7_line 4 [some (.ref 0), some (.int (jI (v))), some (.int (jI (m)))] [] (n, cl_f f I P M H Y Z) 1 6 (fun r9 h9 => r9 = .inr eI ∧ h9 = (n, cl_f f I P M H Y Z)) := by
  obtain ⟨c1, c2, c3, c4, c5, c6, c7, c8, c9, c10, c11, c12⟩ := id hok
  obtain ⟨⟨hm1, hm1'⟩, hm2, hm3, hmJ, hmF, hmT⟩ := id c8
  obtain ⟨hbat, hbok, hbne⟩ := id c6
  obtain ⟨bw, bkq, bfq, hb0, hb1, hb2, hbw, ⟨hbd, -, -⟩, -⟩ := id hbat
  obtain ⟨⟨hw1, hw2⟩, hh1, hh2⟩ := id c5
  obtain ⟨⟨hl1, hl2⟩, ⟨hp1, hp2⟩, hy1, hy2, hy3⟩ := id (cl_fr_b hok hfr)
  have hcx : ∀ {I' : in_T} {M' : mk_T} {H' : hi_T} {Y' Z' : ly_T}, ly_cx n (cl_f f I' P M' H' Y' Z') 40 Y.1 B P.2.1 := by rw [hy1]; exact cl_cx hok (by decide) rfl
  obtain ⟨hA0, hN, h3, h5, h7, h89⟩ := id c10.1
  have hl : 0 ≤ Y.2.2.2.1 ∧ Y.2.2.2.1 ≤ 240 := by omega
  have hp : 0 ≤ Y.2.2.2.2.1 ∧ Y.2.2.2.2.1 ≤ 240 := by omega
  refine ji_aload_n dX7_line_4 rfl trivial ?_
  refine ji_iload_n dX7_line_5 rfl ?_
  exact ji_cVx dX7_line_6 (x_checkLine hok hfr b_v hx) rfl (cl_0h) rfl rfl wX7_checkLine vX7_checkLine lX7_169 rfl (Nat.le_of_ble_eq_true rfl) rfl (by omega) (by omega)

set_option maxHeartbeats 4000000 in
set_option maxRecDepth 100000 in
theorem x_line1 (hok : cl_ok n f I P M H Y Z B NT SB) {v m : Int} (b_v : -2147483648 ≤ v ∧ v < 2147483648) (hx : v < 0 ∨ (cl_RY P Y B NT).2.2.2.1 ≤ v) : JX G (d + 7) mX7_line [.ref 0, .int (jI (v)), .int (jI (m))] (n, cl_f f I P M H Y Z) 1 6 eI (n, cl_f f I (cl_RP P) M H (cl_RY P Y B NT) Z) := by
  obtain ⟨c1, c2, c3, c4, c5, c6, c7, c8, c9, c10, c11, c12⟩ := id hok
  obtain ⟨⟨hm1, hm1'⟩, hm2, hm3, hmJ, hmF, hmT⟩ := id c8
  obtain ⟨hbat, hbok, hbne⟩ := id c6
  obtain ⟨bw, bkq, bfq, hb0, hb1, hb2, hbw, ⟨hbd, -, -⟩, -⟩ := id hbat
  obtain ⟨⟨hw1, hw2⟩, hh1, hh2⟩ := id c5
  refine ji_ent (by decide) rfl (Nat.le_of_ble_eq_true rfl) rfl ?_
  refine ji_aload_n dX7_line_0 rfl trivial ?_
  refine ji_cVv dX7_line_1 (k_refresh hok) rfl (cl_0h) rfl rfl wX7_refresh vX7_refresh lX7_146 rfl (Nat.le_of_ble_eq_true rfl) rfl ?_
  exact x_line1_r (cl_fr_ok hok).2 (cl_fr_ok hok).1 b_v hx

set_option maxHeartbeats 4000000 in
set_option maxRecDepth 100000 in
theorem x_line2_r (hok : cl_ok n f I P M H Y Z B NT SB) (hfr : cl_fr P Y B NT) {v m : Int} (b_v : -2147483648 ≤ v ∧ v < 2147483648) (b_m : -2147483648 ≤ m ∧ m < 2147483648) (hv : 0 ≤ v ∧ v < Y.2.2.2.1) (hx : m < 0 ∨ 6 ≤ m) : JW G (d + 7) mX7_line 4 [some (.ref 0), some (.int (jI (v))), some (.int (jI (m)))] [] (n, cl_f f I P M H Y Z) 1 6 (fun r9 h9 => r9 = .inr eA ∧ h9 = (n, cl_f f I P M H Y Z)) := by
  obtain ⟨c1, c2, c3, c4, c5, c6, c7, c8, c9, c10, c11, c12⟩ := id hok
  obtain ⟨⟨hm1, hm1'⟩, hm2, hm3, hmJ, hmF, hmT⟩ := id c8
  obtain ⟨hbat, hbok, hbne⟩ := id c6
  obtain ⟨bw, bkq, bfq, hb0, hb1, hb2, hbw, ⟨hbd, -, -⟩, -⟩ := id hbat
  obtain ⟨⟨hw1, hw2⟩, hh1, hh2⟩ := id c5
  obtain ⟨⟨hl1, hl2⟩, ⟨hp1, hp2⟩, hy1, hy2, hy3⟩ := id (cl_fr_b hok hfr)
  have hcx : ∀ {I' : in_T} {M' : mk_T} {H' : hi_T} {Y' Z' : ly_T}, ly_cx n (cl_f f I' P M' H' Y' Z') 40 Y.1 B P.2.1 := by rw [hy1]; exact cl_cx hok (by decide) rfl
  obtain ⟨hA0, hN, h3, h5, h7, h89⟩ := id c10.1
  have hl : 0 ≤ Y.2.2.2.1 ∧ Y.2.2.2.1 ≤ 240 := by omega
  have hp : 0 ≤ Y.2.2.2.2.1 ∧ Y.2.2.2.2.1 ≤ 240 := by omega
  refine ji_aload_n dX7_line_4 rfl trivial ?_
  refine ji_iload_n dX7_line_5 rfl ?_
  refine ji_cVv dX7_line_6 (k_checkLine hok hfr b_v hv) rfl (cl_0h) rfl rfl wX7_checkLine vX7_checkLine lX7_169 rfl (Nat.le_of_ble_eq_true rfl) rfl ?_
  refine ji_iload_n dX7_line_9 rfl ?_
  refine ji_bipush dX7_line_10 rfl ?_
  exact ji_cSx dX7_line_12 (x_checkWhat b_m (by omega) hx) rfl wX7_checkWhat sX7_checkWhat lX7_162 rfl (Nat.le_of_ble_eq_true rfl) rfl (by omega) (by omega)

set_option maxHeartbeats 4000000 in
set_option maxRecDepth 100000 in
theorem x_line2 (hok : cl_ok n f I P M H Y Z B NT SB) {v m : Int} (b_v : -2147483648 ≤ v ∧ v < 2147483648) (b_m : -2147483648 ≤ m ∧ m < 2147483648) (hv : 0 ≤ v ∧ v < (cl_RY P Y B NT).2.2.2.1) (hx : m < 0 ∨ 6 ≤ m) : JX G (d + 7) mX7_line [.ref 0, .int (jI (v)), .int (jI (m))] (n, cl_f f I P M H Y Z) 1 6 eA (n, cl_f f I (cl_RP P) M H (cl_RY P Y B NT) Z) := by
  obtain ⟨c1, c2, c3, c4, c5, c6, c7, c8, c9, c10, c11, c12⟩ := id hok
  obtain ⟨⟨hm1, hm1'⟩, hm2, hm3, hmJ, hmF, hmT⟩ := id c8
  obtain ⟨hbat, hbok, hbne⟩ := id c6
  obtain ⟨bw, bkq, bfq, hb0, hb1, hb2, hbw, ⟨hbd, -, -⟩, -⟩ := id hbat
  obtain ⟨⟨hw1, hw2⟩, hh1, hh2⟩ := id c5
  refine ji_ent (by decide) rfl (Nat.le_of_ble_eq_true rfl) rfl ?_
  refine ji_aload_n dX7_line_0 rfl trivial ?_
  refine ji_cVv dX7_line_1 (k_refresh hok) rfl (cl_0h) rfl rfl wX7_refresh vX7_refresh lX7_146 rfl (Nat.le_of_ble_eq_true rfl) rfl ?_
  exact x_line2_r (cl_fr_ok hok).2 (cl_fr_ok hok).1 b_v b_m hv hx

set_option maxHeartbeats 4000000 in
set_option maxRecDepth 100000 in
theorem k_line_r (hok : cl_ok n f I P M H Y Z B NT SB) (hfr : cl_fr P Y B NT) {v m : Int} (b_v : -2147483648 ≤ v ∧ v < 2147483648) (b_m : -2147483648 ≤ m ∧ m < 2147483648) (hv : 0 ≤ v ∧ v < Y.2.2.2.1) (hx : 0 ≤ m ∧ m < 6) : JW G (d + 6) mX7_line 4 [some (.ref 0), some (.int (jI (v))), some (.int (jI (m)))] [] (n, cl_f f I P M H Y Z) 0 0 (fun r9 h9 => r9 = .inl (some (.int (jI (cl_lnp B Y v m)))) ∧ h9 = (n, cl_f f I P M H Y Z)) := by
  obtain ⟨c1, c2, c3, c4, c5, c6, c7, c8, c9, c10, c11, c12⟩ := id hok
  obtain ⟨⟨hm1, hm1'⟩, hm2, hm3, hmJ, hmF, hmT⟩ := id c8
  obtain ⟨hbat, hbok, hbne⟩ := id c6
  obtain ⟨bw, bkq, bfq, hb0, hb1, hb2, hbw, ⟨hbd, -, -⟩, -⟩ := id hbat
  obtain ⟨⟨hw1, hw2⟩, hh1, hh2⟩ := id c5
  obtain ⟨⟨hl1, hl2⟩, ⟨hp1, hp2⟩, hy1, hy2, hy3⟩ := id (cl_fr_b hok hfr)
  have hcx : ∀ {I' : in_T} {M' : mk_T} {H' : hi_T} {Y' Z' : ly_T}, ly_cx n (cl_f f I' P M' H' Y' Z') 40 Y.1 B P.2.1 := by rw [hy1]; exact cl_cx hok (by decide) rfl
  obtain ⟨hA0, hN, h3, h5, h7, h89⟩ := id c10.1
  have hl : 0 ≤ Y.2.2.2.1 ∧ Y.2.2.2.1 ≤ 240 := by omega
  have hp : 0 ≤ Y.2.2.2.2.1 ∧ Y.2.2.2.2.1 ≤ 240 := by omega
  refine ji_aload_n dX7_line_4 rfl trivial ?_
  refine ji_iload_n dX7_line_5 rfl ?_
  refine ji_cVv dX7_line_6 (k_checkLine hok hfr b_v hv) rfl (cl_0h) rfl rfl wX7_checkLine vX7_checkLine lX7_169 rfl (Nat.le_of_ble_eq_true rfl) rfl ?_
  refine ji_iload_n dX7_line_9 rfl ?_
  refine ji_bipush dX7_line_10 rfl ?_
  refine ji_cSv dX7_line_12 (k_checkWhat b_m (by omega) hx) rfl wX7_checkWhat sX7_checkWhat lX7_162 rfl (Nat.le_of_ble_eq_true rfl) rfl ?_
  refine ji_aload_n dX7_line_15 rfl trivial ?_
  refine ji_iload_n dX7_line_16 rfl ?_
  refine ji_iload_n dX7_line_17 rfl ?_
  refine ji_cV dX7_line_18 (k_lineProperty hok hfr hv hx) rfl (cl_0h) rfl rfl wX7_lineProperty vX7_lineProperty lX7_172 rfl (Nat.le_of_ble_eq_true rfl) rfl ?_
  exact ji_ireturn dX7_line_21 rfl (rfl) ⟨jr_i (by first | rfl | omega), rfl⟩

set_option maxHeartbeats 4000000 in
set_option maxRecDepth 100000 in
theorem k_line (hok : cl_ok n f I P M H Y Z B NT SB) {v m : Int} (b_v : -2147483648 ≤ v ∧ v < 2147483648) (b_m : -2147483648 ≤ m ∧ m < 2147483648) (hv : 0 ≤ v ∧ v < (cl_RY P Y B NT).2.2.2.1) (hx : 0 ≤ m ∧ m < 6) : JR G (d + 6) mX7_line [.ref 0, .int (jI (v)), .int (jI (m))] (n, cl_f f I P M H Y Z) 0 0 (some (.int (jI (cl_lnp B (cl_RY P Y B NT) v m)))) (n, cl_f f I (cl_RP P) M H (cl_RY P Y B NT) Z) := by
  obtain ⟨c1, c2, c3, c4, c5, c6, c7, c8, c9, c10, c11, c12⟩ := id hok
  obtain ⟨⟨hm1, hm1'⟩, hm2, hm3, hmJ, hmF, hmT⟩ := id c8
  obtain ⟨hbat, hbok, hbne⟩ := id c6
  obtain ⟨bw, bkq, bfq, hb0, hb1, hb2, hbw, ⟨hbd, -, -⟩, -⟩ := id hbat
  obtain ⟨⟨hw1, hw2⟩, hh1, hh2⟩ := id c5
  refine ji_ent (by decide) rfl (Nat.le_of_ble_eq_true rfl) rfl ?_
  refine ji_aload_n dX7_line_0 rfl trivial ?_
  refine ji_cVv dX7_line_1 (k_refresh hok) rfl (cl_0h) rfl rfl wX7_refresh vX7_refresh lX7_146 rfl (Nat.le_of_ble_eq_true rfl) rfl ?_
  exact k_line_r (cl_fr_ok hok).2 (cl_fr_ok hok).1 b_v b_m hv hx


end PG
