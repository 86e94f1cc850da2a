/-! ===== public methods: pages, the reader, annotations ===== -/
def cl_sa (B : bk_T) (P : pg_T) (Y : ly_T) (NT : nt_T) (p r c : Int) : Int := ly_SA Y.2.1 Y.2.2.1 Y.2.2.2.1 Y.2.2.2.2.1 B P.2.1 NT Y.2.2.2.2.2 p r c
theorem ly_no_b (x : Int) : ∀ (u : Nat) (k l : Int), 0 ≤ k → -1 ≤ ly_no x u k l ∧ ly_no x u k l < k + u
  | 0, k, l, h => by unfold ly_no; omega
  | u + 1, k, l, h => by
    have h1 := ly_no_b x u (k + 1) (l - 1) (by omega)
    have h2 := ly_no_b x u (k + 1) l (by omega)
    unfold ly_no
    split
    · split <;> omega
    · omega
def mk_jt (M : mk_T) (v : Int) : mk_T := if M.2.1 < 5 then (v, M.2.1 + 1, M.2.2.1, va_up M.2.2.2.1 M.2.1.toNat M.1, M.2.2.2.2) else (v, 4 + 1, M.2.2.1, va_up (va_cpy M.2.2.2.1 M.2.2.2.1 1 0 4) 4 M.1, M.2.2.2.2)
def mk_jb (M : mk_T) : mk_T := (M.2.2.2.1 (M.2.1 - 1).toNat, M.2.1 - 1, M.2.2)
theorem va_cpy_b {J D : Nat → Int} {lo hi : Int} {a b c : Nat} (h1 : ∀ i, lo ≤ J i ∧ J i ≤ hi) (h2 : ∀ i, lo ≤ D i ∧ D i ≤ hi) (i : Nat) : lo ≤ va_cpy J D a b c i ∧ va_cpy J D a b c i ≤ hi := by unfold va_cpy; split; exact h1 _; exact h2 _
theorem va_up_b {J : Nat → Int} {lo hi v : Int} {k : Nat} (h1 : ∀ i, lo ≤ J i ∧ J i ≤ hi) (hv : lo ≤ v ∧ v ≤ hi) (i : Nat) : lo ≤ va_up J k v i ∧ va_up J k v i ≤ hi := by unfold va_up; split; exact hv; exact h1 _
theorem mk_ok_jt {b v : Int} {M : mk_T} (h : mk_ok b M) (hv : -b ≤ v ∧ v ≤ b) : mk_ok b (mk_jt M v) := by
  obtain ⟨h1, h2, h3, h4, h5, h6⟩ := h
  unfold mk_jt
  split
  · exact ⟨hv, by show 0 ≤ M.2.1 + 1 ∧ M.2.1 + 1 ≤ 5; omega, h3, va_up_b h4 h1, h5, h6⟩
  · exact ⟨hv, by show (0 : Int) ≤ 4 + 1 ∧ (4 : Int) + 1 ≤ 5; omega, h3, va_up_b (va_cpy_b h4 h4) h1, h5, h6⟩
theorem mk_ok_jb {b : Int} {M : mk_T} (h : mk_ok b M) (hj : 0 < M.2.1) : mk_ok b (mk_jb M) := by
  obtain ⟨h1, h2, h3, h4, h5, h6⟩ := h
  exact ⟨h4 _, by show 0 ≤ M.2.1 - 1 ∧ M.2.1 - 1 ≤ 5; omega, h3, h4, h5, h6⟩
theorem cl_wb_b (I : in_T) (B : bk_T) (r : Int) : ∀ (u : Nat) (k : Int), 0 ≤ k → -1 ≤ cl_wb I B r u k ∧ (cl_wb I B r u k < k + u)
  | 0, k, h => by unfold cl_wb; omega
  | u + 1, k, h => by
    have h1 := cl_wb_b I B r u (k + 1) (by omega)
    rw [cl_wb_s]
    split <;> omega
theorem cl_wf_b (I : in_T) (B : bk_T) (r : Int) : ∀ (u : Nat), -1 ≤ cl_wf I B r u ∧ (cl_wf I B r u < u)
  | 0 => by unfold cl_wf; omega
  | u + 1 => by
    have h1 := cl_wf_b I B r u
    rw [cl_wf_s]
    split <;> omega
section PG
variable {G : ji_G} {d n : Nat} {f : Nat → ji_C} {I : in_T} {P : pg_T} {M : mk_T} {H : hi_T} {Y Z : ly_T} {B : bk_T} {NT : nt_T} {SB : Nat → bk_T}

theorem cl_okM (hok : cl_ok n f I P M H Y Z B NT SB) {M' : mk_T} (hm : mk_ok 900000 M') : cl_ok n f I P M' H Y Z B NT SB := by
  obtain ⟨c1, c2, c3, c4, c5, c6, c7, c8, c9, c10, c11, c12⟩ := hok
  exact ⟨c1, c2, c3, c4, c5, c6, c7, hm, c9, c10, c11, c12⟩
theorem c_jumpTo {v : Int} (hj : 0 ≤ M.2.1 ∧ M.2.1 ≤ 5) : JR G (d + 1) mX4_jumpTo [.ref 12, .int (jI v)] (n, cl_f f I P M H Y Z) 0 0 none (n, cl_f f I P (mk_jt M v) H Y Z) := by
  by_cases q : M.2.1 < 5
  · have e : mk_jt M v = (v, M.2.1 + 1, M.2.2.1, va_up M.2.2.2.1 M.2.1.toNat M.1, M.2.2.2.2) := if_pos q
    rw [e]; exact cl_jM _ (k_Marks_jumpTo ⟨hj.1, q⟩)
  · have e : mk_jt M v = (v, 4 + 1, M.2.2.1, va_up (va_cpy M.2.2.2.1 M.2.2.2.1 1 0 4) 4 M.1, M.2.2.2.2) := if_neg q
    rw [e]; exact cl_jM _ (k_Marks_jumpTo5 (by omega))
set_option maxHeartbeats 4000000 in
set_option maxRecDepth 100000 in
theorem x_shown1_r (hok : cl_ok n f I P M H Y Z B NT SB) (hfr : cl_fr P Y B NT) {v m o : Int} (b_v : -2147483648 ≤ v ∧ v < 2147483648) (hx : v < 0 ∨ Y.2.2.2.2.1 ≤ v) : JW G (d + 7) mX7_shown 4 [some (.ref 0), some (.int (jI (v))), some (.int (jI (m))), some (.int (jI (o)))] [] (n, cl_f f I P M H Y Z) 1 6 (fun r9 h9 => r9 = .inr eI ∧ h9 = (n, cl_f f I P M H Y Z)) := by
  obtain ⟨c1, c2, c3, c4, c5, c6, c7, c8, c9, c10, c11, c12⟩ := id hok
  obtain ⟨⟨hm1, hm1'⟩, hm2, hm3, hmJ, hmF, hmT⟩ := id c8
  obtain ⟨hbat, hbok, hbne⟩ := id c6
  obtain ⟨bw, bkq, bfq, hb0, hb1, hb2, hbw, ⟨hbd, -, -⟩, -⟩ := id hbat
  obtain ⟨⟨hw1, hw2⟩, hh1, hh2⟩ := id c5
  obtain ⟨⟨hl1, hl2⟩, ⟨hp1, hp2⟩, hy1, hy2, hy3⟩ := id (cl_fr_b hok hfr)
  have hcx : ∀ {I' : in_T} {M' : mk_T} {H' : hi_T} {Y' Z' : ly_T}, ly_cx n (cl_f f I' P M' H' Y' Z') 40 Y.1 B P.2.1 := by rw [hy1]; exact cl_cx hok (by decide) rfl
  obtain ⟨hA0, hN, h3, h5, h7, h89⟩ := id c10.1
  have hl : 0 ≤ Y.2.2.2.1 ∧ Y.2.2.2.1 ≤ 240 := by omega
  have hp : 0 ≤ Y.2.2.2.2.1 ∧ Y.2.2.2.2.1 ≤ 240 := by omega
  refine ji_aload_n dX7_shown_4 rfl trivial ?_
  refine ji_iload_n dX7_shown_5 rfl ?_
  exact ji_cVx dX7_shown_6 (x_checkPage hok hfr b_v hx) rfl (cl_0h) rfl rfl wX7_checkPage vX7_checkPage lX7_159 rfl (Nat.le_of_ble_eq_true rfl) rfl (by omega) (by omega)

set_option maxHeartbeats 4000000 in
set_option maxRecDepth 100000 in
theorem x_shown1 (hok : cl_ok n f I P M H Y Z B NT SB) {v m o : Int} (b_v : -2147483648 ≤ v ∧ v < 2147483648) (hx : v < 0 ∨ (cl_RY P Y B NT).2.2.2.2.1 ≤ v) : JX G (d + 7) mX7_shown [.ref 0, .int (jI (v)), .int (jI (m)), .int (jI (o))] (n, cl_f f I P M H Y Z) 1 6 eI (n, cl_f f I (cl_RP P) M H (cl_RY P Y B NT) Z) := by
  obtain ⟨c1, c2, c3, c4, c5, c6, c7, c8, c9, c10, c11, c12⟩ := id hok
  obtain ⟨⟨hm1, hm1'⟩, hm2, hm3, hmJ, hmF, hmT⟩ := id c8
  obtain ⟨hbat, hbok, hbne⟩ := id c6
  obtain ⟨bw, bkq, bfq, hb0, hb1, hb2, hbw, ⟨hbd, -, -⟩, -⟩ := id hbat
  obtain ⟨⟨hw1, hw2⟩, hh1, hh2⟩ := id c5
  refine ji_ent (by decide) rfl (Nat.le_of_ble_eq_true rfl) rfl ?_
  refine ji_aload_n dX7_shown_0 rfl trivial ?_
  refine ji_cVv dX7_shown_1 (k_refresh hok) rfl (cl_0h) rfl rfl wX7_refresh vX7_refresh lX7_146 rfl (Nat.le_of_ble_eq_true rfl) rfl ?_
  exact x_shown1_r (cl_fr_ok hok).2 (cl_fr_ok hok).1 b_v hx

set_option maxHeartbeats 4000000 in
set_option maxRecDepth 100000 in
theorem x_shown2_r (hok : cl_ok n f I P M H Y Z B NT SB) (hfr : cl_fr P Y B NT) {v m o : Int} (b_v : -2147483648 ≤ v ∧ v < 2147483648) (b_m : -2147483648 ≤ m ∧ m < 2147483648) (b_o : -2147483648 ≤ o ∧ o < 2147483648) (hv : 0 ≤ v ∧ v < Y.2.2.2.2.1) (hx : ¬ ((0 ≤ m ∧ m < P.2.2.2.1) ∧ 0 ≤ o ∧ o < P.2.2.1)) : JW G (d + 7) mX7_shown 4 [some (.ref 0), some (.int (jI (v))), some (.int (jI (m))), some (.int (jI (o)))] [] (n, cl_f f I P M H Y Z) 1 6 (fun r9 h9 => r9 = .inr eA ∧ h9 = (n, cl_f f I P M H Y Z)) := by
  obtain ⟨c1, c2, c3, c4, c5, c6, c7, c8, c9, c10, c11, c12⟩ := id hok
  obtain ⟨⟨hm1, hm1'⟩, hm2, hm3, hmJ, hmF, hmT⟩ := id c8
  obtain ⟨hbat, hbok, hbne⟩ := id c6
  obtain ⟨bw, bkq, bfq, hb0, hb1, hb2, hbw, ⟨hbd, -, -⟩, -⟩ := id hbat
  obtain ⟨⟨hw1, hw2⟩, hh1, hh2⟩ := id c5
  obtain ⟨⟨hl1, hl2⟩, ⟨hp1, hp2⟩, hy1, hy2, hy3⟩ := id (cl_fr_b hok hfr)
  have hcx : ∀ {I' : in_T} {M' : mk_T} {H' : hi_T} {Y' Z' : ly_T}, ly_cx n (cl_f f I' P M' H' Y' Z') 40 Y.1 B P.2.1 := by rw [hy1]; exact cl_cx hok (by decide) rfl
  obtain ⟨hA0, hN, h3, h5, h7, h89⟩ := id c10.1
  have hl : 0 ≤ Y.2.2.2.1 ∧ Y.2.2.2.1 ≤ 240 := by omega
  have hp : 0 ≤ Y.2.2.2.2.1 ∧ Y.2.2.2.2.1 ≤ 240 := by omega
  refine ji_aload_n dX7_shown_4 rfl trivial ?_
  refine ji_iload_n dX7_shown_5 rfl ?_
  refine ji_cVv dX7_shown_6 (k_checkPage hok hfr b_v hv) rfl (cl_0h) rfl rfl wX7_checkPage vX7_checkPage lX7_159 rfl (Nat.le_of_ble_eq_true rfl) rfl ?_
  refine ji_iload_n dX7_shown_9 rfl ?_
  refine ji_if_lt (tgt := 33) dX7_shown_10 rfl (by omega) (fun c10 => ?_) (fun c10 => ?_)
  · try (exfalso; omega)
    all_goals
      exact ji_throw (text := "row or column is out of range") ji_thrA rfl (by decide) rfl dX7_shown_33 dX7_shown_36 dX7_shown_37 dX7_shown_39 dX7_shown_42 (by omega) (by omega) (Nat.le_of_ble_eq_true rfl) ⟨rfl, rfl⟩
  · try (exfalso; omega)
    all_goals
      refine ji_iload_n dX7_shown_13 rfl ?_
      refine ji_aload_n dX7_shown_14 rfl trivial ?_
      refine ji_get (ci := 7) (k := 4) rfl dX7_shown_15 lX7_30 (by decide) (cl_0h) rfl ?_
      refine ji_icmp_ge (tgt := 33) dX7_shown_18 rfl (by omega) (by omega) (fun c18 => ?_) (fun c18 => ?_)
      · try (exfalso; omega)
        all_goals
          exact ji_throw (text := "row or column is out of range") ji_thrA rfl (by decide) rfl dX7_shown_33 dX7_shown_36 dX7_shown_37 dX7_shown_39 dX7_shown_42 (by omega) (by omega) (Nat.le_of_ble_eq_true rfl) ⟨rfl, rfl⟩
      · try (exfalso; omega)
        all_goals
          refine ji_iload_n dX7_shown_21 rfl ?_
          refine ji_if_lt (tgt := 33) dX7_shown_22 rfl (by omega) (fun c22 => ?_) (fun c22 => ?_)
          · try (exfalso; omega)
            all_goals
              exact ji_throw (text := "row or column is out of range") ji_thrA rfl (by decide) rfl dX7_shown_33 dX7_shown_36 dX7_shown_37 dX7_shown_39 dX7_shown_42 (by omega) (by omega) (Nat.le_of_ble_eq_true rfl) ⟨rfl, rfl⟩
          · try (exfalso; omega)
            all_goals
              refine ji_iload_n dX7_shown_25 rfl ?_
              refine ji_aload_n dX7_shown_26 rfl trivial ?_
              refine ji_get (ci := 7) (k := 3) rfl dX7_shown_27 lX7_26 (by decide) (cl_0h) rfl ?_
              refine ji_icmp_lt (tgt := 43) dX7_shown_30 rfl (by omega) (by omega) (fun c30 => ?_) (fun c30 => ?_)
              · try (exfalso; omega)
                all_goals
                  refine ji_aload_n dX7_shown_43 rfl trivial ?_
                  refine ji_get (ci := 7) (k := 8) rfl dX7_shown_44 lX7_64 (by decide) (cl_0h) rfl ?_
                  refine ji_iload_n dX7_shown_47 rfl ?_
                  refine ji_iload_n dX7_shown_48 rfl ?_
                  refine ji_iload_n dX7_shown_49 rfl ?_
                  fail "no contract for Layout.signAt at 50"
              · try (exfalso; omega)
                all_goals
                  exact ji_throw (text := "row or column is out of range") ji_thrA rfl (by decide) rfl dX7_shown_33 dX7_shown_36 dX7_shown_37 dX7_shown_39 dX7_shown_42 (by omega) (by omega) (Nat.le_of_ble_eq_true rfl) ⟨rfl, rfl⟩

set_option maxHeartbeats 4000000 in
set_option maxRecDepth 100000 in
theorem x_shown2 (hok : cl_ok n f I P M H Y Z B NT SB) {v m o : Int} (b_v : -2147483648 ≤ v ∧ v < 2147483648) (b_m : -2147483648 ≤ m ∧ m < 2147483648) (b_o : -2147483648 ≤ o ∧ o < 2147483648) (hv : 0 ≤ v ∧ v < (cl_RY P Y B NT).2.2.2.2.1) (hx : ¬ ((0 ≤ m ∧ m < (cl_RP P).2.2.2.1) ∧ 0 ≤ o ∧ o < (cl_RP P).2.2.1)) : JX G (d + 7) mX7_shown [.ref 0, .int (jI (v)), .int (jI (m)), .int (jI (o))] (n, cl_f f I P M H Y Z) 1 6 eA (n, cl_f f I (cl_RP P) M H (cl_RY P Y B NT) Z) := by
  obtain ⟨c1, c2, c3, c4, c5, c6, c7, c8, c9, c10, c11, c12⟩ := id hok
  obtain ⟨⟨hm1, hm1'⟩, hm2, hm3, hmJ, hmF, hmT⟩ := id c8
  obtain ⟨hbat, hbok, hbne⟩ := id c6
  obtain ⟨bw, bkq, bfq, hb0, hb1, hb2, hbw, ⟨hbd, -, -⟩, -⟩ := id hbat
  obtain ⟨⟨hw1, hw2⟩, hh1, hh2⟩ := id c5
  refine ji_ent (by decide) rfl (Nat.le_of_ble_eq_true rfl) rfl ?_
  refine ji_aload_n dX7_shown_0 rfl trivial ?_
  refine ji_cVv dX7_shown_1 (k_refresh hok) rfl (cl_0h) rfl rfl wX7_refresh vX7_refresh lX7_146 rfl (Nat.le_of_ble_eq_true rfl) rfl ?_
  exact x_shown2_r (cl_fr_ok hok).2 (cl_fr_ok hok).1 b_v b_m b_o hv hx

set_option maxHeartbeats 4000000 in
set_option maxRecDepth 100000 in
theorem k_shown_r (hok : cl_ok n f I P M H Y Z B NT SB) (hfr : cl_fr P Y B NT) {v m o : Int} (b_v : -2147483648 ≤ v ∧ v < 2147483648) (b_m : -2147483648 ≤ m ∧ m < 2147483648) (b_o : -2147483648 ≤ o ∧ o < 2147483648) (hv : 0 ≤ v ∧ v < Y.2.2.2.2.1) (hx : (0 ≤ m ∧ m < P.2.2.2.1) ∧ 0 ≤ o ∧ o < P.2.2.1) : JW G (d + 6) mX7_shown 4 [some (.ref 0), some (.int (jI (v))), some (.int (jI (m))), some (.int (jI (o)))] [] (n, cl_f f I P M H Y Z) 0 0 (fun r9 h9 => r9 = .inl (some (.int (jI (cl_sa B P Y NT v m o)))) ∧ h9 = (n, cl_f f I P M H Y Z)) := by
  obtain ⟨c1, c2, c3, c4, c5, c6, c7, c8, c9, c10, c11, c12⟩ := id hok
  obtain ⟨⟨hm1, hm1'⟩, hm2, hm3, hmJ, hmF, hmT⟩ := id c8
  obtain ⟨hbat, hbok, hbne⟩ := id c6
  obtain ⟨bw, bkq, bfq, hb0, hb1, hb2, hbw, ⟨hbd, -, -⟩, -⟩ := id hbat
  obtain ⟨⟨hw1, hw2⟩, hh1, hh2⟩ := id c5
  obtain ⟨⟨hl1, hl2⟩, ⟨hp1, hp2⟩, hy1, hy2, hy3⟩ := id (cl_fr_b hok hfr)
  have hcx : ∀ {I' : in_T} {M' : mk_T} {H' : hi_T} {Y' Z' : ly_T}, ly_cx n (cl_f f I' P M' H' Y' Z') 40 Y.1 B P.2.1 := by rw [hy1]; exact cl_cx hok (by decide) rfl
  obtain ⟨hA0, hN, h3, h5, h7, h89⟩ := id c10.1
  have hl : 0 ≤ Y.2.2.2.1 ∧ Y.2.2.2.1 ≤ 240 := by omega
  have hp : 0 ≤ Y.2.2.2.2.1 ∧ Y.2.2.2.2.1 ≤ 240 := by omega
  refine ji_aload_n dX7_shown_4 rfl trivial ?_
  refine ji_iload_n dX7_shown_5 rfl ?_
  refine ji_cVv dX7_shown_6 (k_checkPage hok hfr b_v hv) rfl (cl_0h) rfl rfl wX7_checkPage vX7_checkPage lX7_159 rfl (Nat.le_of_ble_eq_true rfl) rfl ?_
  refine ji_iload_n dX7_shown_9 rfl ?_
  refine ji_if_lt (tgt := 33) dX7_shown_10 rfl (by omega) (fun c10 => ?_) (fun c10 => ?_)
  · try (exfalso; omega)
    all_goals
      exact ji_throw (text := "row or column is out of range") ji_thrA rfl (by decide) rfl dX7_shown_33 dX7_shown_36 dX7_shown_37 dX7_shown_39 dX7_shown_42 (by omega) (by omega) (Nat.le_of_ble_eq_true rfl) ⟨jr_i (by first | rfl | omega), rfl⟩
  · try (exfalso; omega)
    all_goals
      refine ji_iload_n dX7_shown_13 rfl ?_
      refine ji_aload_n dX7_shown_14 rfl trivial ?_
      refine ji_get (ci := 7) (k := 4) rfl dX7_shown_15 lX7_30 (by decide) (cl_0h) rfl ?_
      refine ji_icmp_ge (tgt := 33) dX7_shown_18 rfl (by omega) (by omega) (fun c18 => ?_) (fun c18 => ?_)
      · try (exfalso; omega)
        all_goals
          exact ji_throw (text := "row or column is out of range") ji_thrA rfl (by decide) rfl dX7_shown_33 dX7_shown_36 dX7_shown_37 dX7_shown_39 dX7_shown_42 (by omega) (by omega) (Nat.le_of_ble_eq_true rfl) ⟨jr_i (by first | rfl | omega), rfl⟩
      · try (exfalso; omega)
        all_goals
          refine ji_iload_n dX7_shown_21 rfl ?_
          refine ji_if_lt (tgt := 33) dX7_shown_22 rfl (by omega) (fun c22 => ?_) (fun c22 => ?_)
          · try (exfalso; omega)
            all_goals
              exact ji_throw (text := "row or column is out of range") ji_thrA rfl (by decide) rfl dX7_shown_33 dX7_shown_36 dX7_shown_37 dX7_shown_39 dX7_shown_42 (by omega) (by omega) (Nat.le_of_ble_eq_true rfl) ⟨jr_i (by first | rfl | omega), rfl⟩
          · try (exfalso; omega)
            all_goals
              refine ji_iload_n dX7_shown_25 rfl ?_
              refine ji_aload_n dX7_shown_26 rfl trivial ?_
              refine ji_get (ci := 7) (k := 3) rfl dX7_shown_27 lX7_26 (by decide) (cl_0h) rfl ?_
              refine ji_icmp_lt (tgt := 43) dX7_shown_30 rfl (by omega) (by omega) (fun c30 => ?_) (fun c30 => ?_)
              · try (exfalso; omega)
                all_goals
                  refine ji_aload_n dX7_shown_43 rfl trivial ?_
                  refine ji_get (ci := 7) (k := 8) rfl dX7_shown_44 lX7_64 (by decide) (cl_0h) rfl ?_
                  refine ji_iload_n dX7_shown_47 rfl ?_
                  refine ji_iload_n dX7_shown_48 rfl ?_
                  refine ji_iload_n dX7_shown_49 rfl ?_
                  refine ji_cV dX7_shown_50 (cl_jYs (k_Layout_signAt hcx hA0 hl (cl_nat hok) hN h7 h5 hp h89 (by omega) (by omega) (by omega) (by omega) (by omega))) rfl (cl_40h) rfl rfl wX3_signAt vX3_signAt lX7_177 rfl (Nat.le_of_ble_eq_true rfl) rfl ?_
                  exact ji_ireturn dX7_shown_53 rfl (rfl) ⟨jr_i (by first | rfl | omega), rfl⟩
              · try (exfalso; omega)
                all_goals
                  exact ji_throw (text := "row or column is out of range") ji_thrA rfl (by decide) rfl dX7_shown_33 dX7_shown_36 dX7_shown_37 dX7_shown_39 dX7_shown_42 (by omega) (by omega) (Nat.le_of_ble_eq_true rfl) ⟨jr_i (by first | rfl | omega), rfl⟩

set_option maxHeartbeats 4000000 in
set_option maxRecDepth 100000 in
theorem k_shown (hok : cl_ok n f I P M H Y Z B NT SB) {v m o : Int} (b_v : -2147483648 ≤ v ∧ v < 2147483648) (b_m : -2147483648 ≤ m ∧ m < 2147483648) (b_o : -2147483648 ≤ o ∧ o < 2147483648) (hv : 0 ≤ v ∧ v < (cl_RY P Y B NT).2.2.2.2.1) (hx : (0 ≤ m ∧ m < (cl_RP P).2.2.2.1) ∧ 0 ≤ o ∧ o < (cl_RP P).2.2.1) : JR G (d + 6) mX7_shown [.ref 0, .int (jI (v)), .int (jI (m)), .int (jI (o))] (n, cl_f f I P M H Y Z) 0 0 (some (.int (jI (cl_sa B (cl_RP P) (cl_RY P Y B NT) NT v m o)))) (n, cl_f f I (cl_RP P) M H (cl_RY P Y B NT) Z) := by
  obtain ⟨c1, c2, c3, c4, c5, c6, c7, c8, c9, c10, c11, c12⟩ := id hok
  obtain ⟨⟨hm1, hm1'⟩, hm2, hm3, hmJ, hmF, hmT⟩ := id c8
  obtain ⟨hbat, hbok, hbne⟩ := id c6
  obtain ⟨bw, bkq, bfq, hb0, hb1, hb2, hbw, ⟨hbd, -, -⟩, -⟩ := id hbat
  obtain ⟨⟨hw1, hw2⟩, hh1, hh2⟩ := id c5
  refine ji_ent (by decide) rfl (Nat.le_of_ble_eq_true rfl) rfl ?_
  refine ji_aload_n dX7_shown_0 rfl trivial ?_
  refine ji_cVv dX7_shown_1 (k_refresh hok) rfl (cl_0h) rfl rfl wX7_refresh vX7_refresh lX7_146 rfl (Nat.le_of_ble_eq_true rfl) rfl ?_
  exact k_shown_r (cl_fr_ok hok).2 (cl_fr_ok hok).1 b_v b_m b_o hv hx

set_option maxHeartbeats 4000000 in
set_option maxRecDepth 100000 in
theorem x_noteOn1_r (hok : cl_ok n f I P M H Y Z B NT SB) (hfr : cl_fr P Y B NT) {v m : Int} (b_v : -2147483648 ≤ v ∧ v < 2147483648) (hx : v < 0 ∨ Y.2.2.2.2.1 ≤ v) : JW G (d + 7) mX7_noteOn 4 [some (.ref 0), some (.int (jI (v))), some (.int (jI (m))), none] [] (n, cl_f f I P M H Y Z) 1 6 (fun r9 h9 => r9 = .inr eI ∧ h9 = (n, cl_f f I P M H Y Z)) := by
  obtain ⟨c1, c2, c3, c4, c5, c6, c7, c8, c9, c10, c11, c12⟩ := id hok
  obtain ⟨⟨hm1, hm1'⟩, hm2, hm3, hmJ, hmF, hmT⟩ := id c8
  obtain ⟨hbat, hbok, hbne⟩ := id c6
  obtain ⟨bw, bkq, bfq, hb0, hb1, hb2, hbw, ⟨hbd, -, -⟩, -⟩ := id hbat
  obtain ⟨⟨hw1, hw2⟩, hh1, hh2⟩ := id c5
  obtain ⟨⟨hl1, hl2⟩, ⟨hp1, hp2⟩, hy1, hy2, hy3⟩ := id (cl_fr_b hok hfr)
  have hcx : ∀ {I' : in_T} {M' : mk_T} {H' : hi_T} {Y' Z' : ly_T}, ly_cx n (cl_f f I' P M' H' Y' Z') 40 Y.1 B P.2.1 := by rw [hy1]; exact cl_cx hok (by decide) rfl
  obtain ⟨hA0, hN, h3, h5, h7, h89⟩ := id c10.1
  have hl : 0 ≤ Y.2.2.2.1 ∧ Y.2.2.2.1 ≤ 240 := by omega
  have hp : 0 ≤ Y.2.2.2.2.1 ∧ Y.2.2.2.2.1 ≤ 240 := by omega
  refine ji_aload_n dX7_noteOn_4 rfl trivial ?_
  refine ji_iload_n dX7_noteOn_5 rfl ?_
  exact ji_cVx dX7_noteOn_6 (x_checkPage hok hfr b_v hx) rfl (cl_0h) rfl rfl wX7_checkPage vX7_checkPage lX7_159 rfl (Nat.le_of_ble_eq_true rfl) rfl (by omega) (by omega)

set_option maxHeartbeats 4000000 in
set_option maxRecDepth 100000 in
theorem x_noteOn1 (hok : cl_ok n f I P M H Y Z B NT SB) {v m : Int} (b_v : -2147483648 ≤ v ∧ v < 2147483648) (hx : v < 0 ∨ (cl_RY P Y B NT).2.2.2.2.1 ≤ v) : JX G (d + 7) mX7_noteOn [.ref 0, .int (jI (v)), .int (jI (m))] (n, cl_f f I P M H Y Z) 1 6 eI (n, cl_f f I (cl_RP P) M H (cl_RY P Y B NT) Z) := by
  obtain ⟨c1, c2, c3, c4, c5, c6, c7, c8, c9, c10, c11, c12⟩ := id hok
  obtain ⟨⟨hm1, hm1'⟩, hm2, hm3, hmJ, hmF, hmT⟩ := id c8
  obtain ⟨hbat, hbok, hbne⟩ := id c6
  obtain ⟨bw, bkq, bfq, hb0, hb1, hb2, hbw, ⟨hbd, -, -⟩, -⟩ := id hbat
  obtain ⟨⟨hw1, hw2⟩, hh1, hh2⟩ := id c5
  refine ji_ent (by decide) rfl (Nat.le_of_ble_eq_true rfl) rfl ?_
  refine ji_aload_n dX7_noteOn_0 rfl trivial ?_
  refine ji_cVv dX7_noteOn_1 (k_refresh hok) rfl (cl_0h) rfl rfl wX7_refresh vX7_refresh lX7_146 rfl (Nat.le_of_ble_eq_true rfl) rfl ?_
  exact x_noteOn1_r (cl_fr_ok hok).2 (cl_fr_ok hok).1 b_v hx

set_option maxHeartbeats 4000000 in
set_option maxRecDepth 100000 in
theorem x_noteOn2_r (hok : cl_ok n f I P M H Y Z B NT SB) (hfr : cl_fr P Y B NT) {v m : Int} (b_v : -2147483648 ≤ v ∧ v < 2147483648) (b_m : -2147483648 ≤ m ∧ m < 2147483648) (hv : 0 ≤ v ∧ v < Y.2.2.2.2.1) (hx : m < 0 ∨ ly_no (cl_np Y v) 10 0 m = -1) : JW G (d + 7) mX7_noteOn 4 [some (.ref 0), some (.int (jI (v))), some (.int (jI (m))), none] [] (n, cl_f f I P M H Y Z) 1 6 (fun r9 h9 => r9 = .inr eI ∧ h9 = (n, cl_f f I P M H Y Z)) := by
  obtain ⟨c1, c2, c3, c4, c5, c6, c7, c8, c9, c10, c11, c12⟩ := id hok
  obtain ⟨⟨hm1, hm1'⟩, hm2, hm3, hmJ, hmF, hmT⟩ := id c8
  obtain ⟨hbat, hbok, hbne⟩ := id c6
  obtain ⟨bw, bkq, bfq, hb0, hb1, hb2, hbw, ⟨hbd, -, -⟩, -⟩ := id hbat
  obtain ⟨⟨hw1, hw2⟩, hh1, hh2⟩ := id c5
  obtain ⟨⟨hl1, hl2⟩, ⟨hp1, hp2⟩, hy1, hy2, hy3⟩ := id (cl_fr_b hok hfr)
  have hcx : ∀ {I' : in_T} {M' : mk_T} {H' : hi_T} {Y' Z' : ly_T}, ly_cx n (cl_f f I' P M' H' Y' Z') 40 Y.1 B P.2.1 := by rw [hy1]; exact cl_cx hok (by decide) rfl
  obtain ⟨hA0, hN, h3, h5, h7, h89⟩ := id c10.1
  have hl : 0 ≤ Y.2.2.2.1 ∧ Y.2.2.2.1 ≤ 240 := by omega
  have hp : 0 ≤ Y.2.2.2.2.1 ∧ Y.2.2.2.2.1 ≤ 240 := by omega
  have w3 := ly_no_b (cl_np Y v) 10 0 m (by omega)
  have w4 : ly_no (cl_np Y v) 10 0 m = ly_no (ly_NP Y.2.2.2.1 (Y.2.2.2.2.2 7) (ly_g Y.2.2.2.2.1 (Y.2.2.2.2.2 9) Y.2.2.2.1 v) (ly_g Y.2.2.2.2.1 (Y.2.2.2.2.2 9) Y.2.2.2.1 (v + 1))) 10 0 m := rfl
  refine ji_aload_n dX7_noteOn_4 rfl trivial ?_
  refine ji_iload_n dX7_noteOn_5 rfl ?_
  refine ji_cVv dX7_noteOn_6 (k_checkPage hok hfr b_v hv) rfl (cl_0h) rfl rfl wX7_checkPage vX7_checkPage lX7_159 rfl (Nat.le_of_ble_eq_true rfl) rfl ?_
  refine ji_iload_n dX7_noteOn_9 rfl ?_
  refine ji_if_ge (tgt := 17) dX7_noteOn_10 rfl (by omega) (fun c10 => ?_) (fun c10 => ?_)
  · try (exfalso; omega)
    all_goals
      refine ji_aload_n dX7_noteOn_17 rfl trivial ?_
      refine ji_get (ci := 7) (k := 8) rfl dX7_noteOn_18 lX7_64 (by decide) (cl_0h) rfl ?_
      refine ji_iload_n dX7_noteOn_21 rfl ?_
      refine ji_iload_n dX7_noteOn_22 rfl ?_
      refine ji_cV dX7_noteOn_23 (cl_jYs (k_Layout_noteOnPage hcx hA0 hl (by omega) (by omega) hp h89 h7)) rfl (cl_40h) rfl rfl wX3_noteOnPage vX3_noteOnPage lX7_181 rfl (Nat.le_of_ble_eq_true rfl) rfl ?_
      refine ji_istore_n dX7_noteOn_26 (by decide) rfl ?_
      refine ji_iload_n dX7_noteOn_27 rfl ?_
      refine ji_iconst dX7_noteOn_28 ?_
      refine ji_icmp_ne (tgt := 42) dX7_noteOn_29 rfl (by omega) (by omega) (fun c29 => ?_) (fun c29 => ?_)
      · try (exfalso; omega)
        all_goals
          refine ji_iload_n dX7_noteOn_42 rfl ?_
          exact ji_ireturn dX7_noteOn_43 rfl (rfl) ⟨rfl, rfl⟩
      · try (exfalso; omega)
        all_goals
          exact ji_throw (text := "the page has no such note") ji_thrI rfl (by decide) rfl dX7_noteOn_32 dX7_noteOn_35 dX7_noteOn_36 dX7_noteOn_38 dX7_noteOn_41 (by omega) (by omega) (Nat.le_of_ble_eq_true rfl) ⟨rfl, rfl⟩
  · try (exfalso; omega)
    all_goals
      refine ji_iconst dX7_noteOn_13 ?_
      refine ji_goto (tgt := 26) dX7_noteOn_14 rfl ?_
      refine ji_istore_n dX7_noteOn_26 (by decide) rfl ?_
      refine ji_iload_n dX7_noteOn_27 rfl ?_
      refine ji_iconst dX7_noteOn_28 ?_
      refine ji_icmp_ne (tgt := 42) dX7_noteOn_29 rfl (by omega) (by omega) (fun c29 => ?_) (fun c29 => ?_)
      · try (exfalso; omega)
        all_goals
          refine ji_iload_n dX7_noteOn_42 rfl ?_
          exact ji_ireturn dX7_noteOn_43 rfl (rfl) ⟨rfl, rfl⟩
      · try (exfalso; omega)
        all_goals
          exact ji_throw (text := "the page has no such note") ji_thrI rfl (by decide) rfl dX7_noteOn_32 dX7_noteOn_35 dX7_noteOn_36 dX7_noteOn_38 dX7_noteOn_41 (by omega) (by omega) (Nat.le_of_ble_eq_true rfl) ⟨rfl, rfl⟩

set_option maxHeartbeats 4000000 in
set_option maxRecDepth 100000 in
theorem x_noteOn2 (hok : cl_ok n f I P M H Y Z B NT SB) {v m : Int} (b_v : -2147483648 ≤ v ∧ v < 2147483648) (b_m : -2147483648 ≤ m ∧ m < 2147483648) (hv : 0 ≤ v ∧ v < (cl_RY P Y B NT).2.2.2.2.1) (hx : m < 0 ∨ ly_no (cl_np (cl_RY P Y B NT) v) 10 0 m = -1) : JX G (d + 7) mX7_noteOn [.ref 0, .int (jI (v)), .int (jI (m))] (n, cl_f f I P M H Y Z) 1 6 eI (n, cl_f f I (cl_RP P) M H (cl_RY P Y B NT) Z) := by
  obtain ⟨c1, c2, c3, c4, c5, c6, c7, c8, c9, c10, c11, c12⟩ := id hok
  obtain ⟨⟨hm1, hm1'⟩, hm2, hm3, hmJ, hmF, hmT⟩ := id c8
  obtain ⟨hbat, hbok, hbne⟩ := id c6
  obtain ⟨bw, bkq, bfq, hb0, hb1, hb2, hbw, ⟨hbd, -, -⟩, -⟩ := id hbat
  obtain ⟨⟨hw1, hw2⟩, hh1, hh2⟩ := id c5
  refine ji_ent (by decide) rfl (Nat.le_of_ble_eq_true rfl) rfl ?_
  refine ji_aload_n dX7_noteOn_0 rfl trivial ?_
  refine ji_cVv dX7_noteOn_1 (k_refresh hok) rfl (cl_0h) rfl rfl wX7_refresh vX7_refresh lX7_146 rfl (Nat.le_of_ble_eq_true rfl) rfl ?_
  exact x_noteOn2_r (cl_fr_ok hok).2 (cl_fr_ok hok).1 b_v b_m hv hx

set_option maxHeartbeats 4000000 in
set_option maxRecDepth 100000 in
theorem k_noteOn_r (hok : cl_ok n f I P M H Y Z B NT SB) (hfr : cl_fr P Y B NT) {v m : Int} (b_v : -2147483648 ≤ v ∧ v < 2147483648) (b_m : -2147483648 ≤ m ∧ m < 2147483648) (hv : 0 ≤ v ∧ v < Y.2.2.2.2.1) (hx : 0 ≤ m ∧ ¬ ly_no (cl_np Y v) 10 0 m = -1) : JW G (d + 6) mX7_noteOn 4 [some (.ref 0), some (.int (jI (v))), some (.int (jI (m))), none] [] (n, cl_f f I P M H Y Z) 0 0 (fun r9 h9 => r9 = .inl (some (.int (jI (ly_no (cl_np Y v) 10 0 m)))) ∧ h9 = (n, cl_f f I P M H Y Z)) := by
  obtain ⟨c1, c2, c3, c4, c5, c6, c7, c8, c9, c10, c11, c12⟩ := id hok
  obtain ⟨⟨hm1, hm1'⟩, hm2, hm3, hmJ, hmF, hmT⟩ := id c8
  obtain ⟨hbat, hbok, hbne⟩ := id c6
  obtain ⟨bw, bkq, bfq, hb0, hb1, hb2, hbw, ⟨hbd, -, -⟩, -⟩ := id hbat
  obtain ⟨⟨hw1, hw2⟩, hh1, hh2⟩ := id c5
  obtain ⟨⟨hl1, hl2⟩, ⟨hp1, hp2⟩, hy1, hy2, hy3⟩ := id (cl_fr_b hok hfr)
  have hcx : ∀ {I' : in_T} {M' : mk_T} {H' : hi_T} {Y' Z' : ly_T}, ly_cx n (cl_f f I' P M' H' Y' Z') 40 Y.1 B P.2.1 := by rw [hy1]; exact cl_cx hok (by decide) rfl
  obtain ⟨hA0, hN, h3, h5, h7, h89⟩ := id c10.1
  have hl : 0 ≤ Y.2.2.2.1 ∧ Y.2.2.2.1 ≤ 240 := by omega
  have hp : 0 ≤ Y.2.2.2.2.1 ∧ Y.2.2.2.2.1 ≤ 240 := by omega
  have w3 := ly_no_b (cl_np Y v) 10 0 m (by omega)
  have w4 : ly_no (cl_np Y v) 10 0 m = ly_no (ly_NP Y.2.2.2.1 (Y.2.2.2.2.2 7) (ly_g Y.2.2.2.2.1 (Y.2.2.2.2.2 9) Y.2.2.2.1 v) (ly_g Y.2.2.2.2.1 (Y.2.2.2.2.2 9) Y.2.2.2.1 (v + 1))) 10 0 m := rfl
  refine ji_aload_n dX7_noteOn_4 rfl trivial ?_
  refine ji_iload_n dX7_noteOn_5 rfl ?_
  refine ji_cVv dX7_noteOn_6 (k_checkPage hok hfr b_v hv) rfl (cl_0h) rfl rfl wX7_checkPage vX7_checkPage lX7_159 rfl (Nat.le_of_ble_eq_true rfl) rfl ?_
  refine ji_iload_n dX7_noteOn_9 rfl ?_
  refine ji_if_ge (tgt := 17) dX7_noteOn_10 rfl (by omega) (fun c10 => ?_) (fun c10 => ?_)
  · try (exfalso; omega)
    all_goals
      refine ji_aload_n dX7_noteOn_17 rfl trivial ?_
      refine ji_get (ci := 7) (k := 8) rfl dX7_noteOn_18 lX7_64 (by decide) (cl_0h) rfl ?_
      refine ji_iload_n dX7_noteOn_21 rfl ?_
      refine ji_iload_n dX7_noteOn_22 rfl ?_
      refine ji_cV dX7_noteOn_23 (cl_jYs (k_Layout_noteOnPage hcx hA0 hl (by omega) (by omega) hp h89 h7)) rfl (cl_40h) rfl rfl wX3_noteOnPage vX3_noteOnPage lX7_181 rfl (Nat.le_of_ble_eq_true rfl) rfl ?_
      refine ji_istore_n dX7_noteOn_26 (by decide) rfl ?_
      refine ji_iload_n dX7_noteOn_27 rfl ?_
      refine ji_iconst dX7_noteOn_28 ?_
      refine ji_icmp_ne (tgt := 42) dX7_noteOn_29 rfl (by omega) (by omega) (fun c29 => ?_) (fun c29 => ?_)
      · try (exfalso; omega)
        all_goals
          refine ji_iload_n dX7_noteOn_42 rfl ?_
          exact ji_ireturn dX7_noteOn_43 rfl (rfl) ⟨jr_i (by first | rfl | omega), rfl⟩
      · try (exfalso; omega)
        all_goals
          exact ji_throw (text := "the page has no such note") ji_thrI rfl (by decide) rfl dX7_noteOn_32 dX7_noteOn_35 dX7_noteOn_36 dX7_noteOn_38 dX7_noteOn_41 (by omega) (by omega) (Nat.le_of_ble_eq_true rfl) ⟨jr_i (by first | rfl | omega), rfl⟩
  · try (exfalso; omega)
    all_goals
      refine ji_iconst dX7_noteOn_13 ?_
      refine ji_goto (tgt := 26) dX7_noteOn_14 rfl ?_
      refine ji_istore_n dX7_noteOn_26 (by decide) rfl ?_
      refine ji_iload_n dX7_noteOn_27 rfl ?_
      refine ji_iconst dX7_noteOn_28 ?_
      refine ji_icmp_ne (tgt := 42) dX7_noteOn_29 rfl (by omega) (by omega) (fun c29 => ?_) (fun c29 => ?_)
      · try (exfalso; omega)
        all_goals
          refine ji_iload_n dX7_noteOn_42 rfl ?_
          exact ji_ireturn dX7_noteOn_43 rfl (rfl) ⟨jr_i (by first | rfl | omega), rfl⟩
      · try (exfalso; omega)
        all_goals
          exact ji_throw (text := "the page has no such note") ji_thrI rfl (by decide) rfl dX7_noteOn_32 dX7_noteOn_35 dX7_noteOn_36 dX7_noteOn_38 dX7_noteOn_41 (by omega) (by omega) (Nat.le_of_ble_eq_true rfl) ⟨jr_i (by first | rfl | omega), rfl⟩

set_option maxHeartbeats 4000000 in
set_option maxRecDepth 100000 in
theorem k_noteOn (hok : cl_ok n f I P M H Y Z B NT SB) {v m : Int} (b_v : -2147483648 ≤ v ∧ v < 2147483648) (b_m : -2147483648 ≤ m ∧ m < 2147483648) (hv : 0 ≤ v ∧ v < (cl_RY P Y B NT).2.2.2.2.1) (hx : 0 ≤ m ∧ ¬ ly_no (cl_np (cl_RY P Y B NT) v) 10 0 m = -1) : JR G (d + 6) mX7_noteOn [.ref 0, .int (jI (v)), .int (jI (m))] (n, cl_f f I P M H Y Z) 0 0 (some (.int (jI (ly_no (cl_np (cl_RY P Y B NT) v) 10 0 m)))) (n, cl_f f I (cl_RP P) M H (cl_RY P Y B NT) Z) := by
  obtain ⟨c1, c2, c3, c4, c5, c6, c7, c8, c9, c10, c11, c12⟩ := id hok
  obtain ⟨⟨hm1, hm1'⟩, hm2, hm3, hmJ, hmF, hmT⟩ := id c8
  obtain ⟨hbat, hbok, hbne⟩ := id c6
  obtain ⟨bw, bkq, bfq, hb0, hb1, hb2, hbw, ⟨hbd, -, -⟩, -⟩ := id hbat
  obtain ⟨⟨hw1, hw2⟩, hh1, hh2⟩ := id c5
  refine ji_ent (by decide) rfl (Nat.le_of_ble_eq_true rfl) rfl ?_
  refine ji_aload_n dX7_noteOn_0 rfl trivial ?_
  refine ji_cVv dX7_noteOn_1 (k_refresh hok) rfl (cl_0h) rfl rfl wX7_refresh vX7_refresh lX7_146 rfl (Nat.le_of_ble_eq_true rfl) rfl ?_
  exact k_noteOn_r (cl_fr_ok hok).2 (cl_fr_ok hok).1 b_v b_m hv hx

set_option maxHeartbeats 4000000 in
set_option maxRecDepth 100000 in
theorem x_pageOf0 (hok : cl_ok n f I P M H Y Z B NT SB) {v o : Int} (b_v : -2147483648 ≤ v ∧ v < 2147483648) (hx : v < 0 ∨ bk_P B ≤ v) : JX G (d + 8) mX7_pageOf [.ref 0, .int (jI (v)), .int (jI (o))] (n, cl_f f I P M H Y Z) 1 6 eI (n, cl_f f I P M H Y Z) := by
  obtain ⟨c1, c2, c3, c4, c5, c6, c7, c8, c9, c10, c11, c12⟩ := id hok
  obtain ⟨⟨hm1, hm1'⟩, hm2, hm3, hmJ, hmF, hmT⟩ := id c8
  obtain ⟨hbat, hbok, hbne⟩ := id c6
  obtain ⟨bw, bkq, bfq, hb0, hb1, hb2, hbw, ⟨hbd, -, -⟩, -⟩ := id hbat
  obtain ⟨⟨hw1, hw2⟩, hh1, hh2⟩ := id c5
  refine ji_ent (by decide) rfl (Nat.le_of_ble_eq_true rfl) rfl ?_
  refine ji_aload_n dX7_pageOf_0 rfl trivial ?_
  refine ji_iload_n dX7_pageOf_1 rfl ?_
  refine ji_iload_n dX7_pageOf_2 rfl ?_
  exact ji_cVx dX7_pageOf_3 (x_checkOffset0 hok b_v hx) rfl (cl_0h) rfl rfl wX7_checkOffset vX7_checkOffset lX7_189 rfl (Nat.le_of_ble_eq_true rfl) rfl (by omega) (by omega)

set_option maxHeartbeats 4000000 in
set_option maxRecDepth 100000 in
theorem x_pageOf1 (hok : cl_ok n f I P M H Y Z B NT SB) {v o : Int} (b_v : -2147483648 ≤ v ∧ v < 2147483648) (b_o : -2147483648 ≤ o ∧ o < 2147483648) (hv : 0 ≤ v ∧ v < bk_P B) (hx : o < 0 ∨ bk_end B v - bk_start B v ≤ o) : JX G (d + 8) mX7_pageOf [.ref 0, .int (jI (v)), .int (jI (o))] (n, cl_f f I P M H Y Z) 1 6 eI (n, cl_f f I P M H Y Z) := by
  obtain ⟨c1, c2, c3, c4, c5, c6, c7, c8, c9, c10, c11, c12⟩ := id hok
  obtain ⟨⟨hm1, hm1'⟩, hm2, hm3, hmJ, hmF, hmT⟩ := id c8
  obtain ⟨hbat, hbok, hbne⟩ := id c6
  obtain ⟨bw, bkq, bfq, hb0, hb1, hb2, hbw, ⟨hbd, -, -⟩, -⟩ := id hbat
  obtain ⟨⟨hw1, hw2⟩, hh1, hh2⟩ := id c5
  refine ji_ent (by decide) rfl (Nat.le_of_ble_eq_true rfl) rfl ?_
  refine ji_aload_n dX7_pageOf_0 rfl trivial ?_
  refine ji_iload_n dX7_pageOf_1 rfl ?_
  refine ji_iload_n dX7_pageOf_2 rfl ?_
  exact ji_cVx dX7_pageOf_3 (x_checkOffset1 hok b_v b_o hv hx) rfl (cl_0h) rfl rfl wX7_checkOffset vX7_checkOffset lX7_189 rfl (Nat.le_of_ble_eq_true rfl) rfl (by omega) (by omega)

set_option maxHeartbeats 4000000 in
set_option maxRecDepth 100000 in
theorem x_go0 (hok : cl_ok n f I P M H Y Z B NT SB) {v o : Int} (b_v : -2147483648 ≤ v ∧ v < 2147483648) (hx : v < 0 ∨ bk_P B ≤ v) : JX G (d + 8) mX7_go [.ref 0, .int (jI (v)), .int (jI (o))] (n, cl_f f I P M H Y Z) 1 6 eI (n, cl_f f I P M H Y Z) := by
  obtain ⟨c1, c2, c3, c4, c5, c6, c7, c8, c9, c10, c11, c12⟩ := id hok
  obtain ⟨⟨hm1, hm1'⟩, hm2, hm3, hmJ, hmF, hmT⟩ := id c8
  obtain ⟨hbat, hbok, hbne⟩ := id c6
  obtain ⟨bw, bkq, bfq, hb0, hb1, hb2, hbw, ⟨hbd, -, -⟩, -⟩ := id hbat
  obtain ⟨⟨hw1, hw2⟩, hh1, hh2⟩ := id c5
  refine ji_ent (by decide) rfl (Nat.le_of_ble_eq_true rfl) rfl ?_
  refine ji_aload_n dX7_go_0 rfl trivial ?_
  refine ji_iload_n dX7_go_1 rfl ?_
  refine ji_iload_n dX7_go_2 rfl ?_
  exact ji_cVx dX7_go_3 (x_checkOffset0 hok b_v hx) rfl (cl_0h) rfl rfl wX7_checkOffset vX7_checkOffset lX7_189 rfl (Nat.le_of_ble_eq_true rfl) rfl (by omega) (by omega)

set_option maxHeartbeats 4000000 in
set_option maxRecDepth 100000 in
theorem x_go1 (hok : cl_ok n f I P M H Y Z B NT SB) {v o : Int} (b_v : -2147483648 ≤ v ∧ v < 2147483648) (b_o : -2147483648 ≤ o ∧ o < 2147483648) (hv : 0 ≤ v ∧ v < bk_P B) (hx : o < 0 ∨ bk_end B v - bk_start B v ≤ o) : JX G (d + 8) mX7_go [.ref 0, .int (jI (v)), .int (jI (o))] (n, cl_f f I P M H Y Z) 1 6 eI (n, cl_f f I P M H Y Z) := by
  obtain ⟨c1, c2, c3, c4, c5, c6, c7, c8, c9, c10, c11, c12⟩ := id hok
  obtain ⟨⟨hm1, hm1'⟩, hm2, hm3, hmJ, hmF, hmT⟩ := id c8
  obtain ⟨hbat, hbok, hbne⟩ := id c6
  obtain ⟨bw, bkq, bfq, hb0, hb1, hb2, hbw, ⟨hbd, -, -⟩, -⟩ := id hbat
  obtain ⟨⟨hw1, hw2⟩, hh1, hh2⟩ := id c5
  refine ji_ent (by decide) rfl (Nat.le_of_ble_eq_true rfl) rfl ?_
  refine ji_aload_n dX7_go_0 rfl trivial ?_
  refine ji_iload_n dX7_go_1 rfl ?_
  refine ji_iload_n dX7_go_2 rfl ?_
  exact ji_cVx dX7_go_3 (x_checkOffset1 hok b_v b_o hv hx) rfl (cl_0h) rfl rfl wX7_checkOffset vX7_checkOffset lX7_189 rfl (Nat.le_of_ble_eq_true rfl) rfl (by omega) (by omega)

set_option maxHeartbeats 4000000 in
set_option maxRecDepth 100000 in
theorem x_letter0 (hok : cl_ok n f I P M H Y Z B NT SB) {v o : Int} (b_v : -2147483648 ≤ v ∧ v < 2147483648) (hx : v < 0 ∨ bk_P B ≤ v) : JX G (d + 8) mX7_letter [.ref 0, .int (jI (v)), .int (jI (o))] (n, cl_f f I P M H Y Z) 1 6 eI (n, cl_f f I P M H Y Z) := by
  obtain ⟨c1, c2, c3, c4, c5, c6, c7, c8, c9, c10, c11, c12⟩ := id hok
  obtain ⟨⟨hm1, hm1'⟩, hm2, hm3, hmJ, hmF, hmT⟩ := id c8
  obtain ⟨hbat, hbok, hbne⟩ := id c6
  obtain ⟨bw, bkq, bfq, hb0, hb1, hb2, hbw, ⟨hbd, -, -⟩, -⟩ := id hbat
  obtain ⟨⟨hw1, hw2⟩, hh1, hh2⟩ := id c5
  refine ji_ent (by decide) rfl (Nat.le_of_ble_eq_true rfl) rfl ?_
  refine ji_aload_n dX7_letter_0 rfl trivial ?_
  refine ji_iload_n dX7_letter_1 rfl ?_
  refine ji_iload_n dX7_letter_2 rfl ?_
  exact ji_cVx dX7_letter_3 (x_checkOffset0 hok b_v hx) rfl (cl_0h) rfl rfl wX7_checkOffset vX7_checkOffset lX7_189 rfl (Nat.le_of_ble_eq_true rfl) rfl (by omega) (by omega)

set_option maxHeartbeats 4000000 in
set_option maxRecDepth 100000 in
theorem x_letter1 (hok : cl_ok n f I P M H Y Z B NT SB) {v o : Int} (b_v : -2147483648 ≤ v ∧ v < 2147483648) (b_o : -2147483648 ≤ o ∧ o < 2147483648) (hv : 0 ≤ v ∧ v < bk_P B) (hx : o < 0 ∨ bk_end B v - bk_start B v ≤ o) : JX G (d + 8) mX7_letter [.ref 0, .int (jI (v)), .int (jI (o))] (n, cl_f f I P M H Y Z) 1 6 eI (n, cl_f f I P M H Y Z) := by
  obtain ⟨c1, c2, c3, c4, c5, c6, c7, c8, c9, c10, c11, c12⟩ := id hok
  obtain ⟨⟨hm1, hm1'⟩, hm2, hm3, hmJ, hmF, hmT⟩ := id c8
  obtain ⟨hbat, hbok, hbne⟩ := id c6
  obtain ⟨bw, bkq, bfq, hb0, hb1, hb2, hbw, ⟨hbd, -, -⟩, -⟩ := id hbat
  obtain ⟨⟨hw1, hw2⟩, hh1, hh2⟩ := id c5
  refine ji_ent (by decide) rfl (Nat.le_of_ble_eq_true rfl) rfl ?_
  refine ji_aload_n dX7_letter_0 rfl trivial ?_
  refine ji_iload_n dX7_letter_1 rfl ?_
  refine ji_iload_n dX7_letter_2 rfl ?_
  exact ji_cVx dX7_letter_3 (x_checkOffset1 hok b_v b_o hv hx) rfl (cl_0h) rfl rfl wX7_checkOffset vX7_checkOffset lX7_189 rfl (Nat.le_of_ble_eq_true rfl) rfl (by omega) (by omega)

set_option maxHeartbeats 4000000 in
set_option maxRecDepth 100000 in
theorem k_pageOf_r (hok : cl_ok n f I P M H Y Z B NT SB) (hfr : cl_fr P Y B NT) {v o : Int} (b_v : -2147483648 ≤ v ∧ v < 2147483648) (b_o : -2147483648 ≤ o ∧ o < 2147483648) (hv : 0 ≤ v ∧ v < bk_P B) (hx : 0 ≤ o ∧ o < bk_end B v - bk_start B v) : JW G (d + 6) mX7_pageOf 10 [some (.ref 0), some (.int (jI (v))), some (.int (jI (o)))] [] (n, cl_f f I P M H Y Z) 0 0 (fun r9 h9 => r9 = .inl (some (.int (jI (cl_at B Y (bk_start B v + o))))) ∧ h9 = (n, cl_f f I P M H Y Z)) := by
  obtain ⟨c1, c2, c3, c4, c5, c6, c7, c8, c9, c10, c11, c12⟩ := id hok
  obtain ⟨⟨hm1, hm1'⟩, hm2, hm3, hmJ, hmF, hmT⟩ := id c8
  obtain ⟨hbat, hbok, hbne⟩ := id c6
  obtain ⟨bw, bkq, bfq, hb0, hb1, hb2, hbw, ⟨hbd, -, -⟩, -⟩ := id hbat
  obtain ⟨⟨hw1, hw2⟩, hh1, hh2⟩ := id c5
  obtain ⟨⟨hl1, hl2⟩, ⟨hp1, hp2⟩, hy1, hy2, hy3⟩ := id (cl_fr_b hok hfr)
  have hcx : ∀ {I' : in_T} {M' : mk_T} {H' : hi_T} {Y' Z' : ly_T}, ly_cx n (cl_f f I' P M' H' Y' Z') 40 Y.1 B P.2.1 := by rw [hy1]; exact cl_cx hok (by decide) rfl
  obtain ⟨hA0, hN, h3, h5, h7, h89⟩ := id c10.1
  have hl : 0 ≤ Y.2.2.2.1 ∧ Y.2.2.2.1 ≤ 240 := by omega
  have hp : 0 ≤ Y.2.2.2.2.1 ∧ Y.2.2.2.2.1 ≤ 240 := by omega
  have hP10 := hbok.2.1
  have hbs := bk_st_b hbok v
  have hbe := bk_en_b hbok v
  refine ji_aload_n dX7_pageOf_10 rfl trivial ?_
  refine ji_get (ci := 7) (k := 8) rfl dX7_pageOf_11 lX7_64 (by decide) (cl_0h) rfl ?_
  refine ji_aload_n dX7_pageOf_14 rfl trivial ?_
  refine ji_get (ci := 7) (k := 5) rfl dX7_pageOf_15 lX7_41 (by decide) (cl_0h) rfl ?_
  refine ji_iload_n dX7_pageOf_18 rfl ?_
  refine ji_cV dX7_pageOf_19 (k_Book_startOf (hbat.kept cl_kf) hbok (by omega)) rfl ((cl_dh hbd).trans hb0) rfl rfl wX0_startOf vX0_startOf lX7_192 rfl (Nat.le_of_ble_eq_true rfl) rfl ?_
  refine ji_iload_n dX7_pageOf_22 rfl ?_
  refine ji_iadd dX7_pageOf_23 ?_
  refine ji_cV dX7_pageOf_24 (cl_jYs (k_Layout_pageAt hcx hA0 hl (by omega) hl1)) rfl (cl_40h) rfl rfl wX3_pageAt vX3_pageAt lX7_195 rfl (Nat.le_of_ble_eq_true rfl) rfl ?_
  exact ji_ireturn dX7_pageOf_27 rfl (rfl) ⟨jr_i (by first | rfl | omega), rfl⟩

set_option maxHeartbeats 4000000 in
set_option maxRecDepth 100000 in
theorem k_pageOf (hok : cl_ok n f I P M H Y Z B NT SB) {v o : Int} (b_v : -2147483648 ≤ v ∧ v < 2147483648) (b_o : -2147483648 ≤ o ∧ o < 2147483648) (hv : 0 ≤ v ∧ v < bk_P B) (hx : 0 ≤ o ∧ o < bk_end B v - bk_start B v) : JR G (d + 6) mX7_pageOf [.ref 0, .int (jI (v)), .int (jI (o))] (n, cl_f f I P M H Y Z) 0 0 (some (.int (jI (cl_at B (cl_RY P Y B NT) (bk_start B v + o))))) (n, cl_f f I (cl_RP P) M H (cl_RY P Y B NT) Z) := by
  obtain ⟨c1, c2, c3, c4, c5, c6, c7, c8, c9, c10, c11, c12⟩ := id hok
  obtain ⟨⟨hm1, hm1'⟩, hm2, hm3, hmJ, hmF, hmT⟩ := id c8
  obtain ⟨hbat, hbok, hbne⟩ := id c6
  obtain ⟨bw, bkq, bfq, hb0, hb1, hb2, hbw, ⟨hbd, -, -⟩, -⟩ := id hbat
  obtain ⟨⟨hw1, hw2⟩, hh1, hh2⟩ := id c5
  refine ji_ent (by decide) rfl (Nat.le_of_ble_eq_true rfl) rfl ?_
  refine ji_aload_n dX7_pageOf_0 rfl trivial ?_
  refine ji_iload_n dX7_pageOf_1 rfl ?_
  refine ji_iload_n dX7_pageOf_2 rfl ?_
  refine ji_cVv dX7_pageOf_3 (k_checkOffset hok b_v b_o hv hx) rfl (cl_0h) rfl rfl wX7_checkOffset vX7_checkOffset lX7_189 rfl (Nat.le_of_ble_eq_true rfl) rfl ?_
  refine ji_aload_n dX7_pageOf_6 rfl trivial ?_
  refine ji_cVv dX7_pageOf_7 (k_refresh hok) rfl (cl_0h) rfl rfl wX7_refresh vX7_refresh lX7_146 rfl (Nat.le_of_ble_eq_true rfl) rfl ?_
  exact k_pageOf_r (cl_fr_ok hok).2 (cl_fr_ok hok).1 b_v b_o hv hx

set_option maxHeartbeats 4000000 in
set_option maxRecDepth 100000 in
theorem k_go_r (hok : cl_ok n f I P M H Y Z B NT SB) (hfr : cl_fr P Y B NT) {v o : Int} (b_v : -2147483648 ≤ v ∧ v < 2147483648) (b_o : -2147483648 ≤ o ∧ o < 2147483648) (hv : 0 ≤ v ∧ v < bk_P B) (hx : 0 ≤ o ∧ o < bk_end B v - bk_start B v) : JW G (d + 6) mX7_go 10 [some (.ref 0), some (.int (jI (v))), some (.int (jI (o)))] [] (n, cl_f f I P M H Y Z) 0 0 (fun r9 h9 => r9 = .inl (some (.int (jI (cl_at B Y (bk_start B v + o))))) ∧ h9 = (n, cl_f f I P (mk_jt M (bk_start B v + o)) H Y Z)) := by
  obtain ⟨c1, c2, c3, c4, c5, c6, c7, c8, c9, c10, c11, c12⟩ := id hok
  obtain ⟨⟨hm1, hm1'⟩, hm2, hm3, hmJ, hmF, hmT⟩ := id c8
  obtain ⟨hbat, hbok, hbne⟩ := id c6
  obtain ⟨bw, bkq, bfq, hb0, hb1, hb2, hbw, ⟨hbd, -, -⟩, -⟩ := id hbat
  obtain ⟨⟨hw1, hw2⟩, hh1, hh2⟩ := id c5
  obtain ⟨⟨hl1, hl2⟩, ⟨hp1, hp2⟩, hy1, hy2, hy3⟩ := id (cl_fr_b hok hfr)
  have hcx : ∀ {I' : in_T} {M' : mk_T} {H' : hi_T} {Y' Z' : ly_T}, ly_cx n (cl_f f I' P M' H' Y' Z') 40 Y.1 B P.2.1 := by rw [hy1]; exact cl_cx hok (by decide) rfl
  obtain ⟨hA0, hN, h3, h5, h7, h89⟩ := id c10.1
  have hl : 0 ≤ Y.2.2.2.1 ∧ Y.2.2.2.1 ≤ 240 := by omega
  have hp : 0 ≤ Y.2.2.2.2.1 ∧ Y.2.2.2.2.1 ≤ 240 := by omega
  have hP10 := hbok.2.1
  have hbs := bk_st_b hbok v
  have hbe := bk_en_b hbok v
  have hmk : mk_ok 900000 (mk_jt M (bk_start B v + o)) := mk_ok_jt c8 (by omega)
  have hmr : (mk_jt M (bk_start B v + o)).1 = bk_start B v + o := by unfold mk_jt; split <;> rfl
  refine ji_aload_n dX7_go_10 rfl trivial ?_
  refine ji_get (ci := 7) (k := 6) rfl dX7_go_11 lX7_48 (by decide) (cl_0h) rfl ?_
  refine ji_aload_n dX7_go_14 rfl trivial ?_
  refine ji_get (ci := 7) (k := 5) rfl dX7_go_15 lX7_41 (by decide) (cl_0h) rfl ?_
  refine ji_iload_n dX7_go_18 rfl ?_
  refine ji_cV dX7_go_19 (k_Book_startOf (hbat.kept cl_kf) hbok (by omega)) rfl ((cl_dh hbd).trans hb0) rfl rfl wX0_startOf vX0_startOf lX7_192 rfl (Nat.le_of_ble_eq_true rfl) rfl ?_
  refine ji_iload_n dX7_go_22 rfl ?_
  refine ji_iadd dX7_go_23 ?_
  refine ji_cVv dX7_go_24 (c_jumpTo hm2) rfl (cl_12h) rfl rfl wX4_jumpTo vX4_jumpTo lX7_204 rfl (Nat.le_of_ble_eq_true rfl) rfl ?_
  refine ji_aload_n dX7_go_27 rfl trivial ?_
  refine ji_cV dX7_go_28 (k_presentPage (cl_okM hok hmk) hfr) rfl (cl_0h) rfl rfl wX7_presentPage vX7_presentPage lX7_207 rfl (Nat.le_of_ble_eq_true rfl) rfl ?_
  exact ji_ireturn dX7_go_31 rfl (rfl) ⟨jr_i (by rw [hmr]), rfl⟩

set_option maxHeartbeats 4000000 in
set_option maxRecDepth 100000 in
theorem k_go (hok : cl_ok n f I P M H Y Z B NT SB) {v o : Int} (b_v : -2147483648 ≤ v ∧ v < 2147483648) (b_o : -2147483648 ≤ o ∧ o < 2147483648) (hv : 0 ≤ v ∧ v < bk_P B) (hx : 0 ≤ o ∧ o < bk_end B v - bk_start B v) : JR G (d + 6) mX7_go [.ref 0, .int (jI (v)), .int (jI (o))] (n, cl_f f I P M H Y Z) 0 0 (some (.int (jI (cl_at B (cl_RY P Y B NT) (bk_start B v + o))))) (n, cl_f f I (cl_RP P) (mk_jt M (bk_start B v + o)) H (cl_RY P Y B NT) Z) := by
  obtain ⟨c1, c2, c3, c4, c5, c6, c7, c8, c9, c10, c11, c12⟩ := id hok
  obtain ⟨⟨hm1, hm1'⟩, hm2, hm3, hmJ, hmF, hmT⟩ := id c8
  obtain ⟨hbat, hbok, hbne⟩ := id c6
  obtain ⟨bw, bkq, bfq, hb0, hb1, hb2, hbw, ⟨hbd, -, -⟩, -⟩ := id hbat
  obtain ⟨⟨hw1, hw2⟩, hh1, hh2⟩ := id c5
  refine ji_ent (by decide) rfl (Nat.le_of_ble_eq_true rfl) rfl ?_
  refine ji_aload_n dX7_go_0 rfl trivial ?_
  refine ji_iload_n dX7_go_1 rfl ?_
  refine ji_iload_n dX7_go_2 rfl ?_
  refine ji_cVv dX7_go_3 (k_checkOffset hok b_v b_o hv hx) rfl (cl_0h) rfl rfl wX7_checkOffset vX7_checkOffset lX7_189 rfl (Nat.le_of_ble_eq_true rfl) rfl ?_
  refine ji_aload_n dX7_go_6 rfl trivial ?_
  refine ji_cVv dX7_go_7 (k_refresh hok) rfl (cl_0h) rfl rfl wX7_refresh vX7_refresh lX7_146 rfl (Nat.le_of_ble_eq_true rfl) rfl ?_
  exact k_go_r (cl_fr_ok hok).2 (cl_fr_ok hok).1 b_v b_o hv hx

set_option maxHeartbeats 4000000 in
set_option maxRecDepth 100000 in
theorem k_letter (hok : cl_ok n f I P M H Y Z B NT SB) {v o : Int} (b_v : -2147483648 ≤ v ∧ v < 2147483648) (b_o : -2147483648 ≤ o ∧ o < 2147483648) (hv : 0 ≤ v ∧ v < bk_P B) (hx : 0 ≤ o ∧ o < bk_end B v - bk_start B v) : JR G (d + 4) mX7_letter [.ref 0, .int (jI (v)), .int (jI (o))] (n, cl_f f I P M H Y Z) 0 0 (some (.int (jI (wd_sign (bk_m B) (bk_tx B) (bk_start B v + o))))) (n, cl_f f I P M H Y Z) := by
  obtain ⟨c1, c2, c3, c4, c5, c6, c7, c8, c9, c10, c11, c12⟩ := id hok
  obtain ⟨⟨hm1, hm1'⟩, hm2, hm3, hmJ, hmF, hmT⟩ := id c8
  obtain ⟨hbat, hbok, hbne⟩ := id c6
  obtain ⟨bw, bkq, bfq, hb0, hb1, hb2, hbw, ⟨hbd, -, -⟩, -⟩ := id hbat
  obtain ⟨⟨hw1, hw2⟩, hh1, hh2⟩ := id c5
  obtain ⟨wt, wq, hw0', -, -, ⟨hwd, -, -⟩, -⟩ := id hbw
  have hP10 := hbok.2.1
  have hbs := bk_st_b hbok v
  have hbe := bk_en_b hbok v
  refine ji_ent (by decide) rfl (Nat.le_of_ble_eq_true rfl) rfl ?_
  refine ji_aload_n dX7_letter_0 rfl trivial ?_
  refine ji_iload_n dX7_letter_1 rfl ?_
  refine ji_iload_n dX7_letter_2 rfl ?_
  refine ji_cVv dX7_letter_3 (k_checkOffset hok b_v b_o hv hx) rfl (cl_0h) rfl rfl wX7_checkOffset vX7_checkOffset lX7_189 rfl (Nat.le_of_ble_eq_true rfl) rfl ?_
  refine ji_aload_n dX7_letter_6 rfl trivial ?_
  refine ji_get (ci := 7) (k := 5) rfl dX7_letter_7 lX7_41 (by decide) (cl_0h) rfl ?_
  refine ji_cV dX7_letter_10 (k_Book_words_w ((cl_dh hbd).trans hb0)) rfl ((cl_dh hbd).trans hb0) rfl rfl wX0_words vX0_words lX7_230 rfl (Nat.le_of_ble_eq_true rfl) rfl ?_
  refine ji_aload_n dX7_letter_13 rfl trivial ?_
  refine ji_get (ci := 7) (k := 5) rfl dX7_letter_14 lX7_41 (by decide) (cl_0h) rfl ?_
  refine ji_iload_n dX7_letter_17 rfl ?_
  refine ji_cV dX7_letter_18 (k_Book_startOf (hbat.kept cl_kf) hbok (by omega)) rfl ((cl_dh hbd).trans hb0) rfl rfl wX0_startOf vX0_startOf lX7_192 rfl (Nat.le_of_ble_eq_true rfl) rfl ?_
  refine ji_iload_n dX7_letter_21 rfl ?_
  refine ji_iadd dX7_letter_22 ?_
  refine ji_cV dX7_letter_23 (k_Words_signAt (hbw.kept cl_kf) hbok.1 (by omega)) rfl ((cl_dh hwd).trans hw0') rfl rfl wX6_signAt vX6_signAt lX7_247 rfl (Nat.le_of_ble_eq_true rfl) rfl ?_
  exact ji_ireturn dX7_letter_26 rfl (rfl) ⟨jr_i (by first | rfl | omega), rfl⟩

set_option maxHeartbeats 4000000 in
set_option maxRecDepth 100000 in
theorem x_floating_r (hok : cl_ok n f I P M H Y Z B NT SB) (hfr : cl_fr P Y B NT) {v m : Int} (b_v : -2147483648 ≤ v ∧ v < 2147483648) (hx : v < 0 ∨ Y.2.2.2.1 ≤ v) : JW G (d + 7) mX7_floating 4 [some (.ref 0), some (.int (jI (v))), some (.int (jI (m)))] [] (n, cl_f f I P M H Y Z) 1 6 (fun r9 h9 => r9 = .inr eI ∧ h9 = (n, cl_f f I P M H Y Z)) := by
  obtain ⟨c1, c2, c3, c4, c5, c6, c7, c8, c9, c10, c11, c12⟩ := id hok
  obtain ⟨⟨hm1, hm1'⟩, hm2, hm3, hmJ, hmF, hmT⟩ := id c8
  obtain ⟨hbat, hbok, hbne⟩ := id c6
  obtain ⟨bw, bkq, bfq, hb0, hb1, hb2, hbw, ⟨hbd, -, -⟩, -⟩ := id hbat
  obtain ⟨⟨hw1, hw2⟩, hh1, hh2⟩ := id c5
  obtain ⟨⟨hl1, hl2⟩, ⟨hp1, hp2⟩, hy1, hy2, hy3⟩ := id (cl_fr_b hok hfr)
  have hcx : ∀ {I' : in_T} {M' : mk_T} {H' : hi_T} {Y' Z' : ly_T}, ly_cx n (cl_f f I' P M' H' Y' Z') 40 Y.1 B P.2.1 := by rw [hy1]; exact cl_cx hok (by decide) rfl
  obtain ⟨hA0, hN, h3, h5, h7, h89⟩ := id c10.1
  have hl : 0 ≤ Y.2.2.2.1 ∧ Y.2.2.2.1 ≤ 240 := by omega
  have hp : 0 ≤ Y.2.2.2.2.1 ∧ Y.2.2.2.2.1 ≤ 240 := by omega
  refine ji_aload_n dX7_floating_4 rfl trivial ?_
  refine ji_iload_n dX7_floating_5 rfl ?_
  exact ji_cVx dX7_floating_6 (x_checkLine hok hfr b_v hx) rfl (cl_0h) rfl rfl wX7_checkLine vX7_checkLine lX7_169 rfl (Nat.le_of_ble_eq_true rfl) rfl (by omega) (by omega)

set_option maxHeartbeats 4000000 in
set_option maxRecDepth 100000 in
theorem x_floating (hok : cl_ok n f I P M H Y Z B NT SB) {v m : Int} (b_v : -2147483648 ≤ v ∧ v < 2147483648) (hx : v < 0 ∨ (cl_RY P Y B NT).2.2.2.1 ≤ v) : JX G (d + 7) mX7_floating [.ref 0, .int (jI (v)), .int (jI (m))] (n, cl_f f I P M H Y Z) 1 6 eI (n, cl_f f I (cl_RP P) M H (cl_RY P Y B NT) Z) := by
  obtain ⟨c1, c2, c3, c4, c5, c6, c7, c8, c9, c10, c11, c12⟩ := id hok
  obtain ⟨⟨hm1, hm1'⟩, hm2, hm3, hmJ, hmF, hmT⟩ := id c8
  obtain ⟨hbat, hbok, hbne⟩ := id c6
  obtain ⟨bw, bkq, bfq, hb0, hb1, hb2, hbw, ⟨hbd, -, -⟩, -⟩ := id hbat
  obtain ⟨⟨hw1, hw2⟩, hh1, hh2⟩ := id c5
  refine ji_ent (by decide) rfl (Nat.le_of_ble_eq_true rfl) rfl ?_
  refine ji_aload_n dX7_floating_0 rfl trivial ?_
  refine ji_cVv dX7_floating_1 (k_refresh hok) rfl (cl_0h) rfl rfl wX7_refresh vX7_refresh lX7_146 rfl (Nat.le_of_ble_eq_true rfl) rfl ?_
  exact x_floating_r (cl_fr_ok hok).2 (cl_fr_ok hok).1 b_v hx

set_option maxHeartbeats 4000000 in
set_option maxRecDepth 100000 in
theorem k_floating1_r (hok : cl_ok n f I P M H Y Z B NT SB) (hfr : cl_fr P Y B NT) {v : Int} (b_v : -2147483648 ≤ v ∧ v < 2147483648) (hv : 0 ≤ v ∧ v < Y.2.2.2.1) : JW G (d + 6) mX7_floating 4 [some (.ref 0), some (.int (jI (v))), some (.int (jI (1)))] [] (n, cl_f f I P M H Y Z) 0 0 (fun r9 h9 => r9 = .inl (some (.int (jI (ly_BF Y.2.2.1 Y.2.2.2.1 P.2.1 Y.2.2.2.2.2 v)))) ∧ h9 = (n, cl_f f I P M H Y Z)) := by
  obtain ⟨c1, c2, c3, c4, c5, c6, c7, c8, c9, c10, c11, c12⟩ := id hok
  obtain ⟨⟨hm1, hm1'⟩, hm2, hm3, hmJ, hmF, hmT⟩ := id c8
  obtain ⟨hbat, hbok, hbne⟩ := id c6
  obtain ⟨bw, bkq, bfq, hb0, hb1, hb2, hbw, ⟨hbd, -, -⟩, -⟩ := id hbat
  obtain ⟨⟨hw1, hw2⟩, hh1, hh2⟩ := id c5
  obtain ⟨⟨hl1, hl2⟩, ⟨hp1, hp2⟩, hy1, hy2, hy3⟩ := id (cl_fr_b hok hfr)
  have hcx : ∀ {I' : in_T} {M' : mk_T} {H' : hi_T} {Y' Z' : ly_T}, ly_cx n (cl_f f I' P M' H' Y' Z') 40 Y.1 B P.2.1 := by rw [hy1]; exact cl_cx hok (by decide) rfl
  obtain ⟨hA0, hN, h3, h5, h7, h89⟩ := id c10.1
  have hl : 0 ≤ Y.2.2.2.1 ∧ Y.2.2.2.1 ≤ 240 := by omega
  have hp : 0 ≤ Y.2.2.2.2.1 ∧ Y.2.2.2.2.1 ≤ 240 := by omega
  refine ji_aload_n dX7_floating_4 rfl trivial ?_
  refine ji_iload_n dX7_floating_5 rfl ?_
  refine ji_cVv dX7_floating_6 (k_checkLine hok hfr b_v hv) rfl (cl_0h) rfl rfl wX7_checkLine vX7_checkLine lX7_169 rfl (Nat.le_of_ble_eq_true rfl) rfl ?_
  refine ji_iload_n dX7_floating_9 rfl ?_
  refine ji_if_eq (tgt := 24) dX7_floating_10 rfl (by omega) (fun c10 => ?_) (fun c10 => ?_)
  · try (exfalso; omega)
    all_goals
      refine ji_aload_n dX7_floating_24 rfl trivial ?_
      refine ji_get (ci := 7) (k := 8) rfl dX7_floating_25 lX7_64 (by decide) (cl_0h) rfl ?_
      refine ji_iload_n dX7_floating_28 rfl ?_
      refine ji_cV dX7_floating_29 (cl_jYs (k_Layout_farthestBefore hcx hA0 hl (by omega) hN h7 h5 (by omega))) rfl (cl_40h) rfl rfl wX3_farthestBefore vX3_farthestBefore lX7_201 rfl (Nat.le_of_ble_eq_true rfl) rfl ?_
      exact ji_ireturn dX7_floating_32 rfl (rfl) ⟨jr_i (by first | rfl | omega), rfl⟩
  · try (exfalso; omega)
    all_goals
      refine ji_aload_n dX7_floating_13 rfl trivial ?_
      refine ji_get (ci := 7) (k := 8) rfl dX7_floating_14 lX7_64 (by decide) (cl_0h) rfl ?_
      refine ji_iload_n dX7_floating_17 rfl ?_
      refine ji_cV dX7_floating_18 (cl_jYs (k_Layout_breakFrom hcx hA0 hl (by omega) hN h7 h5 (by omega))) rfl (cl_40h) rfl rfl wX3_breakFrom vX3_breakFrom lX7_198 rfl (Nat.le_of_ble_eq_true rfl) rfl ?_
      refine ji_goto (tgt := 32) dX7_floating_21 rfl ?_
      exact ji_ireturn dX7_floating_32 rfl (rfl) ⟨jr_i (by first | rfl | omega), rfl⟩

set_option maxHeartbeats 4000000 in
set_option maxRecDepth 100000 in
theorem k_floating1 (hok : cl_ok n f I P M H Y Z B NT SB) {v : Int} (b_v : -2147483648 ≤ v ∧ v < 2147483648) (hv : 0 ≤ v ∧ v < (cl_RY P Y B NT).2.2.2.1) : JR G (d + 6) mX7_floating [.ref 0, .int (jI (v)), .int (jI (1))] (n, cl_f f I P M H Y Z) 0 0 (some (.int (jI (ly_BF (cl_RY P Y B NT).2.2.1 (cl_RY P Y B NT).2.2.2.1 (cl_RP P).2.1 (cl_RY P Y B NT).2.2.2.2.2 v)))) (n, cl_f f I (cl_RP P) M H (cl_RY P Y B NT) Z) := by
  obtain ⟨c1, c2, c3, c4, c5, c6, c7, c8, c9, c10, c11, c12⟩ := id hok
  obtain ⟨⟨hm1, hm1'⟩, hm2, hm3, hmJ, hmF, hmT⟩ := id c8
  obtain ⟨hbat, hbok, hbne⟩ := id c6
  obtain ⟨bw, bkq, bfq, hb0, hb1, hb2, hbw, ⟨hbd, -, -⟩, -⟩ := id hbat
  obtain ⟨⟨hw1, hw2⟩, hh1, hh2⟩ := id c5
  refine ji_ent (by decide) rfl (Nat.le_of_ble_eq_true rfl) rfl ?_
  refine ji_aload_n dX7_floating_0 rfl trivial ?_
  refine ji_cVv dX7_floating_1 (k_refresh hok) rfl (cl_0h) rfl rfl wX7_refresh vX7_refresh lX7_146 rfl (Nat.le_of_ble_eq_true rfl) rfl ?_
  exact k_floating1_r (cl_fr_ok hok).2 (cl_fr_ok hok).1 b_v hv

set_option maxHeartbeats 4000000 in
set_option maxRecDepth 100000 in
theorem k_floating0_r (hok : cl_ok n f I P M H Y Z B NT SB) (hfr : cl_fr P Y B NT) {v : Int} (b_v : -2147483648 ≤ v ∧ v < 2147483648) (hv : 0 ≤ v ∧ v < Y.2.2.2.1) : JW G (d + 6) mX7_floating 4 [some (.ref 0), some (.int (jI (v))), some (.int (jI (0)))] [] (n, cl_f f I P M H Y Z) 0 0 (fun r9 h9 => r9 = .inl (some (.int (jI (ly_fb Y.2.2.1 Y.2.2.2.1 P.2.1 Y.2.2.2.2.2 v (v - max 0 (v - Y.2.2.1)).toNat (max 0 (v - Y.2.2.1)))))) ∧ h9 = (n, cl_f f I P M H Y Z)) := by
  obtain ⟨c1, c2, c3, c4, c5, c6, c7, c8, c9, c10, c11, c12⟩ := id hok
  obtain ⟨⟨hm1, hm1'⟩, hm2, hm3, hmJ, hmF, hmT⟩ := id c8
  obtain ⟨hbat, hbok, hbne⟩ := id c6
  obtain ⟨bw, bkq, bfq, hb0, hb1, hb2, hbw, ⟨hbd, -, -⟩, -⟩ := id hbat
  obtain ⟨⟨hw1, hw2⟩, hh1, hh2⟩ := id c5
  obtain ⟨⟨hl1, hl2⟩, ⟨hp1, hp2⟩, hy1, hy2, hy3⟩ := id (cl_fr_b hok hfr)
  have hcx : ∀ {I' : in_T} {M' : mk_T} {H' : hi_T} {Y' Z' : ly_T}, ly_cx n (cl_f f I' P M' H' Y' Z') 40 Y.1 B P.2.1 := by rw [hy1]; exact cl_cx hok (by decide) rfl
  obtain ⟨hA0, hN, h3, h5, h7, h89⟩ := id c10.1
  have hl : 0 ≤ Y.2.2.2.1 ∧ Y.2.2.2.1 ≤ 240 := by omega
  have hp : 0 ≤ Y.2.2.2.2.1 ∧ Y.2.2.2.2.1 ≤ 240 := by omega
  refine ji_aload_n dX7_floating_4 rfl trivial ?_
  refine ji_iload_n dX7_floating_5 rfl ?_
  refine ji_cVv dX7_floating_6 (k_checkLine hok hfr b_v hv) rfl (cl_0h) rfl rfl wX7_checkLine vX7_checkLine lX7_169 rfl (Nat.le_of_ble_eq_true rfl) rfl ?_
  refine ji_iload_n dX7_floating_9 rfl ?_
  refine ji_if_eq (tgt := 24) dX7_floating_10 rfl (by omega) (fun c10 => ?_) (fun c10 => ?_)
  · try (exfalso; omega)
    all_goals
      refine ji_aload_n dX7_floating_24 rfl trivial ?_
      refine ji_get (ci := 7) (k := 8) rfl dX7_floating_25 lX7_64 (by decide) (cl_0h) rfl ?_
      refine ji_iload_n dX7_floating_28 rfl ?_
      refine ji_cV dX7_floating_29 (cl_jYs (k_Layout_farthestBefore hcx hA0 hl (by omega) hN h7 h5 (by omega))) rfl (cl_40h) rfl rfl wX3_farthestBefore vX3_farthestBefore lX7_201 rfl (Nat.le_of_ble_eq_true rfl) rfl ?_
      exact ji_ireturn dX7_floating_32 rfl (rfl) ⟨jr_i (by first | rfl | omega), rfl⟩
  · try (exfalso; omega)
    all_goals
      refine ji_aload_n dX7_floating_13 rfl trivial ?_
      refine ji_get (ci := 7) (k := 8) rfl dX7_floating_14 lX7_64 (by decide) (cl_0h) rfl ?_
      refine ji_iload_n dX7_floating_17 rfl ?_
      refine ji_cV dX7_floating_18 (cl_jYs (k_Layout_breakFrom hcx hA0 hl (by omega) hN h7 h5 (by omega))) rfl (cl_40h) rfl rfl wX3_breakFrom vX3_breakFrom lX7_198 rfl (Nat.le_of_ble_eq_true rfl) rfl ?_
      refine ji_goto (tgt := 32) dX7_floating_21 rfl ?_
      exact ji_ireturn dX7_floating_32 rfl (rfl) ⟨jr_i (by first | rfl | omega), rfl⟩

set_option maxHeartbeats 4000000 in
set_option maxRecDepth 100000 in
theorem k_floating0 (hok : cl_ok n f I P M H Y Z B NT SB) {v : Int} (b_v : -2147483648 ≤ v ∧ v < 2147483648) (hv : 0 ≤ v ∧ v < (cl_RY P Y B NT).2.2.2.1) : JR G (d + 6) mX7_floating [.ref 0, .int (jI (v)), .int (jI (0))] (n, cl_f f I P M H Y Z) 0 0 (some (.int (jI (ly_fb (cl_RY P Y B NT).2.2.1 (cl_RY P Y B NT).2.2.2.1 (cl_RP P).2.1 (cl_RY P Y B NT).2.2.2.2.2 v (v - max 0 (v - (cl_RY P Y B NT).2.2.1)).toNat (max 0 (v - (cl_RY P Y B NT).2.2.1)))))) (n, cl_f f I (cl_RP P) M H (cl_RY P Y B NT) Z) := by
  obtain ⟨c1, c2, c3, c4, c5, c6, c7, c8, c9, c10, c11, c12⟩ := id hok
  obtain ⟨⟨hm1, hm1'⟩, hm2, hm3, hmJ, hmF, hmT⟩ := id c8
  obtain ⟨hbat, hbok, hbne⟩ := id c6
  obtain ⟨bw, bkq, bfq, hb0, hb1, hb2, hbw, ⟨hbd, -, -⟩, -⟩ := id hbat
  obtain ⟨⟨hw1, hw2⟩, hh1, hh2⟩ := id c5
  refine ji_ent (by decide) rfl (Nat.le_of_ble_eq_true rfl) rfl ?_
  refine ji_aload_n dX7_floating_0 rfl trivial ?_
  refine ji_cVv dX7_floating_1 (k_refresh hok) rfl (cl_0h) rfl rfl wX7_refresh vX7_refresh lX7_146 rfl (Nat.le_of_ble_eq_true rfl) rfl ?_
  exact k_floating0_r (cl_fr_ok hok).2 (cl_fr_ok hok).1 b_v hv

set_option maxHeartbeats 4000000 in
set_option maxRecDepth 100000 in
theorem k_turn1N_r (hok : cl_ok n f I P M H Y Z B NT SB) (hfr : cl_fr P Y B NT) (hx : (cl_at B Y M.1 + 1) < 0 ∨ Y.2.2.2.2.1 ≤ (cl_at B Y M.1 + 1)) : JW G (d + 6) mX7_turn 4 [some (.ref 0), some (.int (jI (1))), none] [] (n, cl_f f I P M H Y Z) 0 0 (fun r9 h9 => r9 = .inl (some (.int (jI (-1)))) ∧ h9 = (n, cl_f f I P M H Y Z)) := by
  obtain ⟨c1, c2, c3, c4, c5, c6, c7, c8, c9, c10, c11, c12⟩ := id hok
  obtain ⟨⟨hm1, hm1'⟩, hm2, hm3, hmJ, hmF, hmT⟩ := id c8
  obtain ⟨hbat, hbok, hbne⟩ := id c6
  obtain ⟨bw, bkq, bfq, hb0, hb1, hb2, hbw, ⟨hbd, -, -⟩, -⟩ := id hbat
  obtain ⟨⟨hw1, hw2⟩, hh1, hh2⟩ := id c5
  obtain ⟨⟨hl1, hl2⟩, ⟨hp1, hp2⟩, hy1, hy2, hy3⟩ := id (cl_fr_b hok hfr)
  have hcx : ∀ {I' : in_T} {M' : mk_T} {H' : hi_T} {Y' Z' : ly_T}, ly_cx n (cl_f f I' P M' H' Y' Z') 40 Y.1 B P.2.1 := by rw [hy1]; exact cl_cx hok (by decide) rfl
  obtain ⟨hA0, hN, h3, h5, h7, h89⟩ := id c10.1
  have hl : 0 ≤ Y.2.2.2.1 ∧ Y.2.2.2.1 ≤ 240 := by omega
  have hp : 0 ≤ Y.2.2.2.2.1 ∧ Y.2.2.2.2.1 ≤ 240 := by omega
  have w1 : -1 ≤ cl_at B Y M.1 ∧ cl_at B Y M.1 ≤ 240 := by unfold cl_at ly_PA ly_g; split; exact (h89 _).1; omega
  have w5 := fun z : Int => bk_ws_b hbok (ly_g Y.2.2.2.1 (Y.2.2.2.2.2 2) (bk_n B) (ly_g Y.2.2.2.2.1 (Y.2.2.2.2.2 9) Y.2.2.2.1 z))
  refine ji_aload_n dX7_turn_4 rfl trivial ?_
  refine ji_cV dX7_turn_5 (k_presentPage hok hfr) rfl (cl_0h) rfl rfl wX7_presentPage vX7_presentPage lX7_207 rfl (Nat.le_of_ble_eq_true rfl) rfl ?_
  refine ji_iload_n dX7_turn_8 rfl ?_
  refine ji_if_eq (tgt := 16) dX7_turn_9 rfl (by omega) (fun c9 => ?_) (fun c9 => ?_)
  · try (exfalso; omega)
    all_goals
      refine ji_iconst dX7_turn_16 ?_
      refine ji_iadd dX7_turn_17 ?_
      refine ji_istore_n dX7_turn_18 (by decide) rfl ?_
      refine ji_iload_n dX7_turn_19 rfl ?_
      refine ji_if_lt (tgt := 34) dX7_turn_20 rfl (by omega) (fun c20 => ?_) (fun c20 => ?_)
      · try (exfalso; omega)
        all_goals
          refine ji_iconst dX7_turn_34 ?_
          exact ji_ireturn dX7_turn_35 rfl (rfl) ⟨jr_i (by first | rfl | omega), rfl⟩
      · try (exfalso; omega)
        all_goals
          refine ji_iload_n dX7_turn_23 rfl ?_
          refine ji_aload_n dX7_turn_24 rfl trivial ?_
          refine ji_get (ci := 7) (k := 8) rfl dX7_turn_25 lX7_64 (by decide) (cl_0h) rfl ?_
          refine ji_cV dX7_turn_28 (cl_jYs (k_Layout_pages hcx hA0 hl)) rfl (cl_40h) rfl rfl wX3_pages vX3_pages lX7_149 rfl (Nat.le_of_ble_eq_true rfl) rfl ?_
          refine ji_icmp_lt (tgt := 36) dX7_turn_31 rfl (by omega) (by omega) (fun c31 => ?_) (fun c31 => ?_)
          · try (exfalso; omega)
            all_goals
              refine ji_aload_n dX7_turn_36 rfl trivial ?_
              refine ji_get (ci := 7) (k := 6) rfl dX7_turn_37 lX7_48 (by decide) (cl_0h) rfl ?_
              refine ji_aload_n dX7_turn_40 rfl trivial ?_
              refine ji_get (ci := 7) (k := 8) rfl dX7_turn_41 lX7_64 (by decide) (cl_0h) rfl ?_
              refine ji_iload_n dX7_turn_44 rfl ?_
              refine ji_cV dX7_turn_45 (cl_jYs (k_Layout_placeOfPage hcx hA0 hl (by omega) hp h89)) rfl (cl_40h) rfl rfl wX3_placeOfPage vX3_placeOfPage lX7_210 rfl (Nat.le_of_ble_eq_true rfl) rfl ?_
              fail "no contract for Marks.setReader at 48"
          · try (exfalso; omega)
            all_goals
              refine ji_iconst dX7_turn_34 ?_
              exact ji_ireturn dX7_turn_35 rfl (rfl) ⟨jr_i (by first | rfl | omega), rfl⟩
  · try (exfalso; omega)
    all_goals
      refine ji_iconst dX7_turn_12 ?_
      refine ji_goto (tgt := 17) dX7_turn_13 rfl ?_
      refine ji_iadd dX7_turn_17 ?_
      refine ji_istore_n dX7_turn_18 (by decide) rfl ?_
      refine ji_iload_n dX7_turn_19 rfl ?_
      refine ji_if_lt (tgt := 34) dX7_turn_20 rfl (by omega) (fun c20 => ?_) (fun c20 => ?_)
      · try (exfalso; omega)
        all_goals
          refine ji_iconst dX7_turn_34 ?_
          exact ji_ireturn dX7_turn_35 rfl (rfl) ⟨jr_i (by first | rfl | omega), rfl⟩
      · try (exfalso; omega)
        all_goals
          refine ji_iload_n dX7_turn_23 rfl ?_
          refine ji_aload_n dX7_turn_24 rfl trivial ?_
          refine ji_get (ci := 7) (k := 8) rfl dX7_turn_25 lX7_64 (by decide) (cl_0h) rfl ?_
          refine ji_cV dX7_turn_28 (cl_jYs (k_Layout_pages hcx hA0 hl)) rfl (cl_40h) rfl rfl wX3_pages vX3_pages lX7_149 rfl (Nat.le_of_ble_eq_true rfl) rfl ?_
          refine ji_icmp_lt (tgt := 36) dX7_turn_31 rfl (by omega) (by omega) (fun c31 => ?_) (fun c31 => ?_)
          · try (exfalso; omega)
            all_goals
              refine ji_aload_n dX7_turn_36 rfl trivial ?_
              refine ji_get (ci := 7) (k := 6) rfl dX7_turn_37 lX7_48 (by decide) (cl_0h) rfl ?_
              refine ji_aload_n dX7_turn_40 rfl trivial ?_
              refine ji_get (ci := 7) (k := 8) rfl dX7_turn_41 lX7_64 (by decide) (cl_0h) rfl ?_
              refine ji_iload_n dX7_turn_44 rfl ?_
              refine ji_cV dX7_turn_45 (cl_jYs (k_Layout_placeOfPage hcx hA0 hl (by omega) hp h89)) rfl (cl_40h) rfl rfl wX3_placeOfPage vX3_placeOfPage lX7_210 rfl (Nat.le_of_ble_eq_true rfl) rfl ?_
              fail "no contract for Marks.setReader at 48"
          · try (exfalso; omega)
            all_goals
              refine ji_iconst dX7_turn_34 ?_
              exact ji_ireturn dX7_turn_35 rfl (rfl) ⟨jr_i (by first | rfl | omega), rfl⟩

set_option maxHeartbeats 4000000 in
set_option maxRecDepth 100000 in
theorem k_turn1N (hok : cl_ok n f I P M H Y Z B NT SB) (hx : (cl_at B (cl_RY P Y B NT) M.1 + 1) < 0 ∨ (cl_RY P Y B NT).2.2.2.2.1 ≤ (cl_at B (cl_RY P Y B NT) M.1 + 1)) : JR G (d + 6) mX7_turn [.ref 0, .int (jI (1))] (n, cl_f f I P M H Y Z) 0 0 (some (.int (jI (-1)))) (n, cl_f f I (cl_RP P) M H (cl_RY P Y B NT) Z) := by
  obtain ⟨c1, c2, c3, c4, c5, c6, c7, c8, c9, c10, c11, c12⟩ := id hok
  obtain ⟨⟨hm1, hm1'⟩, hm2, hm3, hmJ, hmF, hmT⟩ := id c8
  obtain ⟨hbat, hbok, hbne⟩ := id c6
  obtain ⟨bw, bkq, bfq, hb0, hb1, hb2, hbw, ⟨hbd, -, -⟩, -⟩ := id hbat
  obtain ⟨⟨hw1, hw2⟩, hh1, hh2⟩ := id c5
  refine ji_ent (by decide) rfl (Nat.le_of_ble_eq_true rfl) rfl ?_
  refine ji_aload_n dX7_turn_0 rfl trivial ?_
  refine ji_cVv dX7_turn_1 (k_refresh hok) rfl (cl_0h) rfl rfl wX7_refresh vX7_refresh lX7_146 rfl (Nat.le_of_ble_eq_true rfl) rfl ?_
  exact k_turn1N_r (cl_fr_ok hok).2 (cl_fr_ok hok).1 hx

set_option maxHeartbeats 4000000 in
set_option maxRecDepth 100000 in
theorem k_turn1_r (hok : cl_ok n f I P M H Y Z B NT SB) (hfr : cl_fr P Y B NT) (hx : 0 ≤ (cl_at B Y M.1 + 1) ∧ (cl_at B Y M.1 + 1) < Y.2.2.2.2.1) : JW G (d + 6) mX7_turn 4 [some (.ref 0), some (.int (jI (1))), none] [] (n, cl_f f I P M H Y Z) 0 0 (fun r9 h9 => r9 = .inl (some (.int (jI ((cl_at B Y M.1 + 1))))) ∧ h9 = (n, cl_f f I P (cl_pl B Y (cl_at B Y M.1 + 1), M.2) H Y Z)) := by
  obtain ⟨c1, c2, c3, c4, c5, c6, c7, c8, c9, c10, c11, c12⟩ := id hok
  obtain ⟨⟨hm1, hm1'⟩, hm2, hm3, hmJ, hmF, hmT⟩ := id c8
  obtain ⟨hbat, hbok, hbne⟩ := id c6
  obtain ⟨bw, bkq, bfq, hb0, hb1, hb2, hbw, ⟨hbd, -, -⟩, -⟩ := id hbat
  obtain ⟨⟨hw1, hw2⟩, hh1, hh2⟩ := id c5
  obtain ⟨⟨hl1, hl2⟩, ⟨hp1, hp2⟩, hy1, hy2, hy3⟩ := id (cl_fr_b hok hfr)
  have hcx : ∀ {I' : in_T} {M' : mk_T} {H' : hi_T} {Y' Z' : ly_T}, ly_cx n (cl_f f I' P M' H' Y' Z') 40 Y.1 B P.2.1 := by rw [hy1]; exact cl_cx hok (by decide) rfl
  obtain ⟨hA0, hN, h3, h5, h7, h89⟩ := id c10.1
  have hl : 0 ≤ Y.2.2.2.1 ∧ Y.2.2.2.1 ≤ 240 := by omega
  have hp : 0 ≤ Y.2.2.2.2.1 ∧ Y.2.2.2.2.1 ≤ 240 := by omega
  have w1 : -1 ≤ cl_at B Y M.1 ∧ cl_at B Y M.1 ≤ 240 := by unfold cl_at ly_PA ly_g; split; exact (h89 _).1; omega
  have w5 := fun z : Int => bk_ws_b hbok (ly_g Y.2.2.2.1 (Y.2.2.2.2.2 2) (bk_n B) (ly_g Y.2.2.2.2.1 (Y.2.2.2.2.2 9) Y.2.2.2.1 z))
  refine ji_aload_n dX7_turn_4 rfl trivial ?_
  refine ji_cV dX7_turn_5 (k_presentPage hok hfr) rfl (cl_0h) rfl rfl wX7_presentPage vX7_presentPage lX7_207 rfl (Nat.le_of_ble_eq_true rfl) rfl ?_
  refine ji_iload_n dX7_turn_8 rfl ?_
  refine ji_if_eq (tgt := 16) dX7_turn_9 rfl (by omega) (fun c9 => ?_) (fun c9 => ?_)
  · try (exfalso; omega)
    all_goals
      refine ji_iconst dX7_turn_16 ?_
      refine ji_iadd dX7_turn_17 ?_
      refine ji_istore_n dX7_turn_18 (by decide) rfl ?_
      refine ji_iload_n dX7_turn_19 rfl ?_
      refine ji_if_lt (tgt := 34) dX7_turn_20 rfl (by omega) (fun c20 => ?_) (fun c20 => ?_)
      · try (exfalso; omega)
        all_goals
          refine ji_iconst dX7_turn_34 ?_
          exact ji_ireturn dX7_turn_35 rfl (rfl) ⟨jr_i (by first | rfl | omega), rfl⟩
      · try (exfalso; omega)
        all_goals
          refine ji_iload_n dX7_turn_23 rfl ?_
          refine ji_aload_n dX7_turn_24 rfl trivial ?_
          refine ji_get (ci := 7) (k := 8) rfl dX7_turn_25 lX7_64 (by decide) (cl_0h) rfl ?_
          refine ji_cV dX7_turn_28 (cl_jYs (k_Layout_pages hcx hA0 hl)) rfl (cl_40h) rfl rfl wX3_pages vX3_pages lX7_149 rfl (Nat.le_of_ble_eq_true rfl) rfl ?_
          refine ji_icmp_lt (tgt := 36) dX7_turn_31 rfl (by omega) (by omega) (fun c31 => ?_) (fun c31 => ?_)
          · try (exfalso; omega)
            all_goals
              refine ji_aload_n dX7_turn_36 rfl trivial ?_
              refine ji_get (ci := 7) (k := 6) rfl dX7_turn_37 lX7_48 (by decide) (cl_0h) rfl ?_
              refine ji_aload_n dX7_turn_40 rfl trivial ?_
              refine ji_get (ci := 7) (k := 8) rfl dX7_turn_41 lX7_64 (by decide) (cl_0h) rfl ?_
              refine ji_iload_n dX7_turn_44 rfl ?_
              refine ji_cV dX7_turn_45 (cl_jYs (k_Layout_placeOfPage hcx hA0 hl (by omega) hp h89)) rfl (cl_40h) rfl rfl wX3_placeOfPage vX3_placeOfPage lX7_210 rfl (Nat.le_of_ble_eq_true rfl) rfl ?_
              refine ji_cVv dX7_turn_48 (cl_jM (cl_pl B Y (cl_at B Y M.1 + 1), M.2) k_Marks_setReader) rfl (cl_12h) rfl rfl wX4_setReader vX4_setReader lX7_213 rfl (Nat.le_of_ble_eq_true rfl) rfl ?_
              refine ji_iload_n dX7_turn_51 rfl ?_
              exact ji_ireturn dX7_turn_52 rfl (rfl) ⟨jr_i (by first | rfl | omega), rfl⟩
          · try (exfalso; omega)
            all_goals
              refine ji_iconst dX7_turn_34 ?_
              exact ji_ireturn dX7_turn_35 rfl (rfl) ⟨jr_i (by first | rfl | omega), rfl⟩
  · try (exfalso; omega)
    all_goals
      refine ji_iconst dX7_turn_12 ?_
      refine ji_goto (tgt := 17) dX7_turn_13 rfl ?_
      refine ji_iadd dX7_turn_17 ?_
      refine ji_istore_n dX7_turn_18 (by decide) rfl ?_
      refine ji_iload_n dX7_turn_19 rfl ?_
      refine ji_if_lt (tgt := 34) dX7_turn_20 rfl (by omega) (fun c20 => ?_) (fun c20 => ?_)
      · try (exfalso; omega)
        all_goals
          refine ji_iconst dX7_turn_34 ?_
          exact ji_ireturn dX7_turn_35 rfl (rfl) ⟨jr_i (by first | rfl | omega), rfl⟩
      · try (exfalso; omega)
        all_goals
          refine ji_iload_n dX7_turn_23 rfl ?_
          refine ji_aload_n dX7_turn_24 rfl trivial ?_
          refine ji_get (ci := 7) (k := 8) rfl dX7_turn_25 lX7_64 (by decide) (cl_0h) rfl ?_
          refine ji_cV dX7_turn_28 (cl_jYs (k_Layout_pages hcx hA0 hl)) rfl (cl_40h) rfl rfl wX3_pages vX3_pages lX7_149 rfl (Nat.le_of_ble_eq_true rfl) rfl ?_
          refine ji_icmp_lt (tgt := 36) dX7_turn_31 rfl (by omega) (by omega) (fun c31 => ?_) (fun c31 => ?_)
          · try (exfalso; omega)
            all_goals
              refine ji_aload_n dX7_turn_36 rfl trivial ?_
              refine ji_get (ci := 7) (k := 6) rfl dX7_turn_37 lX7_48 (by decide) (cl_0h) rfl ?_
              refine ji_aload_n dX7_turn_40 rfl trivial ?_
              refine ji_get (ci := 7) (k := 8) rfl dX7_turn_41 lX7_64 (by decide) (cl_0h) rfl ?_
              refine ji_iload_n dX7_turn_44 rfl ?_
              refine ji_cV dX7_turn_45 (cl_jYs (k_Layout_placeOfPage hcx hA0 hl (by omega) hp h89)) rfl (cl_40h) rfl rfl wX3_placeOfPage vX3_placeOfPage lX7_210 rfl (Nat.le_of_ble_eq_true rfl) rfl ?_
              refine ji_cVv dX7_turn_48 (cl_jM (cl_pl B Y (cl_at B Y M.1 + 1), M.2) k_Marks_setReader) rfl (cl_12h) rfl rfl wX4_setReader vX4_setReader lX7_213 rfl (Nat.le_of_ble_eq_true rfl) rfl ?_
              refine ji_iload_n dX7_turn_51 rfl ?_
              exact ji_ireturn dX7_turn_52 rfl (rfl) ⟨jr_i (by first | rfl | omega), rfl⟩
          · try (exfalso; omega)
            all_goals
              refine ji_iconst dX7_turn_34 ?_
              exact ji_ireturn dX7_turn_35 rfl (rfl) ⟨jr_i (by first | rfl | omega), rfl⟩

set_option maxHeartbeats 4000000 in
set_option maxRecDepth 100000 in
theorem k_turn1 (hok : cl_ok n f I P M H Y Z B NT SB) (hx : 0 ≤ (cl_at B (cl_RY P Y B NT) M.1 + 1) ∧ (cl_at B (cl_RY P Y B NT) M.1 + 1) < (cl_RY P Y B NT).2.2.2.2.1) : JR G (d + 6) mX7_turn [.ref 0, .int (jI (1))] (n, cl_f f I P M H Y Z) 0 0 (some (.int (jI ((cl_at B (cl_RY P Y B NT) M.1 + 1))))) (n, cl_f f I (cl_RP P) (cl_pl B (cl_RY P Y B NT) (cl_at B (cl_RY P Y B NT) M.1 + 1), M.2) H (cl_RY P Y B NT) Z) := by
  obtain ⟨c1, c2, c3, c4, c5, c6, c7, c8, c9, c10, c11, c12⟩ := id hok
  obtain ⟨⟨hm1, hm1'⟩, hm2, hm3, hmJ, hmF, hmT⟩ := id c8
  obtain ⟨hbat, hbok, hbne⟩ := id c6
  obtain ⟨bw, bkq, bfq, hb0, hb1, hb2, hbw, ⟨hbd, -, -⟩, -⟩ := id hbat
  obtain ⟨⟨hw1, hw2⟩, hh1, hh2⟩ := id c5
  refine ji_ent (by decide) rfl (Nat.le_of_ble_eq_true rfl) rfl ?_
  refine ji_aload_n dX7_turn_0 rfl trivial ?_
  refine ji_cVv dX7_turn_1 (k_refresh hok) rfl (cl_0h) rfl rfl wX7_refresh vX7_refresh lX7_146 rfl (Nat.le_of_ble_eq_true rfl) rfl ?_
  exact k_turn1_r (cl_fr_ok hok).2 (cl_fr_ok hok).1 hx

set_option maxHeartbeats 4000000 in
set_option maxRecDepth 100000 in
theorem k_turn0N_r (hok : cl_ok n f I P M H Y Z B NT SB) (hfr : cl_fr P Y B NT) (hx : (cl_at B Y M.1 + -1) < 0 ∨ Y.2.2.2.2.1 ≤ (cl_at B Y M.1 + -1)) : JW G (d + 6) mX7_turn 4 [some (.ref 0), some (.int (jI (0))), none] [] (n, cl_f f I P M H Y Z) 0 0 (fun r9 h9 => r9 = .inl (some (.int (jI (-1)))) ∧ h9 = (n, cl_f f I P M H Y Z)) := by
  obtain ⟨c1, c2, c3, c4, c5, c6, c7, c8, c9, c10, c11, c12⟩ := id hok
  obtain ⟨⟨hm1, hm1'⟩, hm2, hm3, hmJ, hmF, hmT⟩ := id c8
  obtain ⟨hbat, hbok, hbne⟩ := id c6
  obtain ⟨bw, bkq, bfq, hb0, hb1, hb2, hbw, ⟨hbd, -, -⟩, -⟩ := id hbat
  obtain ⟨⟨hw1, hw2⟩, hh1, hh2⟩ := id c5
  obtain ⟨⟨hl1, hl2⟩, ⟨hp1, hp2⟩, hy1, hy2, hy3⟩ := id (cl_fr_b hok hfr)
  have hcx : ∀ {I' : in_T} {M' : mk_T} {H' : hi_T} {Y' Z' : ly_T}, ly_cx n (cl_f f I' P M' H' Y' Z') 40 Y.1 B P.2.1 := by rw [hy1]; exact cl_cx hok (by decide) rfl
  obtain ⟨hA0, hN, h3, h5, h7, h89⟩ := id c10.1
  have hl : 0 ≤ Y.2.2.2.1 ∧ Y.2.2.2.1 ≤ 240 := by omega
  have hp : 0 ≤ Y.2.2.2.2.1 ∧ Y.2.2.2.2.1 ≤ 240 := by omega
  have w1 : -1 ≤ cl_at B Y M.1 ∧ cl_at B Y M.1 ≤ 240 := by unfold cl_at ly_PA ly_g; split; exact (h89 _).1; omega
  have w5 := fun z : Int => bk_ws_b hbok (ly_g Y.2.2.2.1 (Y.2.2.2.2.2 2) (bk_n B) (ly_g Y.2.2.2.2.1 (Y.2.2.2.2.2 9) Y.2.2.2.1 z))
  refine ji_aload_n dX7_turn_4 rfl trivial ?_
  refine ji_cV dX7_turn_5 (k_presentPage hok hfr) rfl (cl_0h) rfl rfl wX7_presentPage vX7_presentPage lX7_207 rfl (Nat.le_of_ble_eq_true rfl) rfl ?_
  refine ji_iload_n dX7_turn_8 rfl ?_
  refine ji_if_eq (tgt := 16) dX7_turn_9 rfl (by omega) (fun c9 => ?_) (fun c9 => ?_)
  · try (exfalso; omega)
    all_goals
      refine ji_iconst dX7_turn_16 ?_
      refine ji_iadd dX7_turn_17 ?_
      refine ji_istore_n dX7_turn_18 (by decide) rfl ?_
      refine ji_iload_n dX7_turn_19 rfl ?_
      refine ji_if_lt (tgt := 34) dX7_turn_20 rfl (by omega) (fun c20 => ?_) (fun c20 => ?_)
      · try (exfalso; omega)
        all_goals
          refine ji_iconst dX7_turn_34 ?_
          exact ji_ireturn dX7_turn_35 rfl (rfl) ⟨jr_i (by first | rfl | omega), rfl⟩
      · try (exfalso; omega)
        all_goals
          refine ji_iload_n dX7_turn_23 rfl ?_
          refine ji_aload_n dX7_turn_24 rfl trivial ?_
          refine ji_get (ci := 7) (k := 8) rfl dX7_turn_25 lX7_64 (by decide) (cl_0h) rfl ?_
          refine ji_cV dX7_turn_28 (cl_jYs (k_Layout_pages hcx hA0 hl)) rfl (cl_40h) rfl rfl wX3_pages vX3_pages lX7_149 rfl (Nat.le_of_ble_eq_true rfl) rfl ?_
          refine ji_icmp_lt (tgt := 36) dX7_turn_31 rfl (by omega) (by omega) (fun c31 => ?_) (fun c31 => ?_)
          · try (exfalso; omega)
            all_goals
              refine ji_aload_n dX7_turn_36 rfl trivial ?_
              refine ji_get (ci := 7) (k := 6) rfl dX7_turn_37 lX7_48 (by decide) (cl_0h) rfl ?_
              refine ji_aload_n dX7_turn_40 rfl trivial ?_
              refine ji_get (ci := 7) (k := 8) rfl dX7_turn_41 lX7_64 (by decide) (cl_0h) rfl ?_
              refine ji_iload_n dX7_turn_44 rfl ?_
              refine ji_cV dX7_turn_45 (cl_jYs (k_Layout_placeOfPage hcx hA0 hl (by omega) hp h89)) rfl (cl_40h) rfl rfl wX3_placeOfPage vX3_placeOfPage lX7_210 rfl (Nat.le_of_ble_eq_true rfl) rfl ?_
              fail "no contract for Marks.setReader at 48"
          · try (exfalso; omega)
            all_goals
              refine ji_iconst dX7_turn_34 ?_
              exact ji_ireturn dX7_turn_35 rfl (rfl) ⟨jr_i (by first | rfl | omega), rfl⟩
  · try (exfalso; omega)
    all_goals
      refine ji_iconst dX7_turn_12 ?_
      refine ji_goto (tgt := 17) dX7_turn_13 rfl ?_
      refine ji_iadd dX7_turn_17 ?_
      refine ji_istore_n dX7_turn_18 (by decide) rfl ?_
      refine ji_iload_n dX7_turn_19 rfl ?_
      refine ji_if_lt (tgt := 34) dX7_turn_20 rfl (by omega) (fun c20 => ?_) (fun c20 => ?_)
      · try (exfalso; omega)
        all_goals
          refine ji_iconst dX7_turn_34 ?_
          exact ji_ireturn dX7_turn_35 rfl (rfl) ⟨jr_i (by first | rfl | omega), rfl⟩
      · try (exfalso; omega)
        all_goals
          refine ji_iload_n dX7_turn_23 rfl ?_
          refine ji_aload_n dX7_turn_24 rfl trivial ?_
          refine ji_get (ci := 7) (k := 8) rfl dX7_turn_25 lX7_64 (by decide) (cl_0h) rfl ?_
          refine ji_cV dX7_turn_28 (cl_jYs (k_Layout_pages hcx hA0 hl)) rfl (cl_40h) rfl rfl wX3_pages vX3_pages lX7_149 rfl (Nat.le_of_ble_eq_true rfl) rfl ?_
          refine ji_icmp_lt (tgt := 36) dX7_turn_31 rfl (by omega) (by omega) (fun c31 => ?_) (fun c31 => ?_)
          · try (exfalso; omega)
            all_goals
              refine ji_aload_n dX7_turn_36 rfl trivial ?_
              refine ji_get (ci := 7) (k := 6) rfl dX7_turn_37 lX7_48 (by decide) (cl_0h) rfl ?_
              refine ji_aload_n dX7_turn_40 rfl trivial ?_
              refine ji_get (ci := 7) (k := 8) rfl dX7_turn_41 lX7_64 (by decide) (cl_0h) rfl ?_
              refine ji_iload_n dX7_turn_44 rfl ?_
              refine ji_cV dX7_turn_45 (cl_jYs (k_Layout_placeOfPage hcx hA0 hl (by omega) hp h89)) rfl (cl_40h) rfl rfl wX3_placeOfPage vX3_placeOfPage lX7_210 rfl (Nat.le_of_ble_eq_true rfl) rfl ?_
              fail "no contract for Marks.setReader at 48"
          · try (exfalso; omega)
            all_goals
              refine ji_iconst dX7_turn_34 ?_
              exact ji_ireturn dX7_turn_35 rfl (rfl) ⟨jr_i (by first | rfl | omega), rfl⟩

set_option maxHeartbeats 4000000 in
set_option maxRecDepth 100000 in
theorem k_turn0N (hok : cl_ok n f I P M H Y Z B NT SB) (hx : (cl_at B (cl_RY P Y B NT) M.1 + -1) < 0 ∨ (cl_RY P Y B NT).2.2.2.2.1 ≤ (cl_at B (cl_RY P Y B NT) M.1 + -1)) : JR G (d + 6) mX7_turn [.ref 0, .int (jI (0))] (n, cl_f f I P M H Y Z) 0 0 (some (.int (jI (-1)))) (n, cl_f f I (cl_RP P) M H (cl_RY P Y B NT) Z) := by
  obtain ⟨c1, c2, c3, c4, c5, c6, c7, c8, c9, c10, c11, c12⟩ := id hok
  obtain ⟨⟨hm1, hm1'⟩, hm2, hm3, hmJ, hmF, hmT⟩ := id c8
  obtain ⟨hbat, hbok, hbne⟩ := id c6
  obtain ⟨bw, bkq, bfq, hb0, hb1, hb2, hbw, ⟨hbd, -, -⟩, -⟩ := id hbat
  obtain ⟨⟨hw1, hw2⟩, hh1, hh2⟩ := id c5
  refine ji_ent (by decide) rfl (Nat.le_of_ble_eq_true rfl) rfl ?_
  refine ji_aload_n dX7_turn_0 rfl trivial ?_
  refine ji_cVv dX7_turn_1 (k_refresh hok) rfl (cl_0h) rfl rfl wX7_refresh vX7_refresh lX7_146 rfl (Nat.le_of_ble_eq_true rfl) rfl ?_
  exact k_turn0N_r (cl_fr_ok hok).2 (cl_fr_ok hok).1 hx

set_option maxHeartbeats 4000000 in
set_option maxRecDepth 100000 in
theorem k_turn0_r (hok : cl_ok n f I P M H Y Z B NT SB) (hfr : cl_fr P Y B NT) (hx : 0 ≤ (cl_at B Y M.1 + -1) ∧ (cl_at B Y M.1 + -1) < Y.2.2.2.2.1) : JW G (d + 6) mX7_turn 4 [some (.ref 0), some (.int (jI (0))), none] [] (n, cl_f f I P M H Y Z) 0 0 (fun r9 h9 => r9 = .inl (some (.int (jI ((cl_at B Y M.1 + -1))))) ∧ h9 = (n, cl_f f I P (cl_pl B Y (cl_at B Y M.1 + -1), M.2) H Y Z)) := by
  obtain ⟨c1, c2, c3, c4, c5, c6, c7, c8, c9, c10, c11, c12⟩ := id hok
  obtain ⟨⟨hm1, hm1'⟩, hm2, hm3, hmJ, hmF, hmT⟩ := id c8
  obtain ⟨hbat, hbok, hbne⟩ := id c6
  obtain ⟨bw, bkq, bfq, hb0, hb1, hb2, hbw, ⟨hbd, -, -⟩, -⟩ := id hbat
  obtain ⟨⟨hw1, hw2⟩, hh1, hh2⟩ := id c5
  obtain ⟨⟨hl1, hl2⟩, ⟨hp1, hp2⟩, hy1, hy2, hy3⟩ := id (cl_fr_b hok hfr)
  have hcx : ∀ {I' : in_T} {M' : mk_T} {H' : hi_T} {Y' Z' : ly_T}, ly_cx n (cl_f f I' P M' H' Y' Z') 40 Y.1 B P.2.1 := by rw [hy1]; exact cl_cx hok (by decide) rfl
  obtain ⟨hA0, hN, h3, h5, h7, h89⟩ := id c10.1
  have hl : 0 ≤ Y.2.2.2.1 ∧ Y.2.2.2.1 ≤ 240 := by omega
  have hp : 0 ≤ Y.2.2.2.2.1 ∧ Y.2.2.2.2.1 ≤ 240 := by omega
  have w1 : -1 ≤ cl_at B Y M.1 ∧ cl_at B Y M.1 ≤ 240 := by unfold cl_at ly_PA ly_g; split; exact (h89 _).1; omega
  have w5 := fun z : Int => bk_ws_b hbok (ly_g Y.2.2.2.1 (Y.2.2.2.2.2 2) (bk_n B) (ly_g Y.2.2.2.2.1 (Y.2.2.2.2.2 9) Y.2.2.2.1 z))
  refine ji_aload_n dX7_turn_4 rfl trivial ?_
  refine ji_cV dX7_turn_5 (k_presentPage hok hfr) rfl (cl_0h) rfl rfl wX7_presentPage vX7_presentPage lX7_207 rfl (Nat.le_of_ble_eq_true rfl) rfl ?_
  refine ji_iload_n dX7_turn_8 rfl ?_
  refine ji_if_eq (tgt := 16) dX7_turn_9 rfl (by omega) (fun c9 => ?_) (fun c9 => ?_)
  · try (exfalso; omega)
    all_goals
      refine ji_iconst dX7_turn_16 ?_
      refine ji_iadd dX7_turn_17 ?_
      refine ji_istore_n dX7_turn_18 (by decide) rfl ?_
      refine ji_iload_n dX7_turn_19 rfl ?_
      refine ji_if_lt (tgt := 34) dX7_turn_20 rfl (by omega) (fun c20 => ?_) (fun c20 => ?_)
      · try (exfalso; omega)
        all_goals
          refine ji_iconst dX7_turn_34 ?_
          exact ji_ireturn dX7_turn_35 rfl (rfl) ⟨jr_i (by first | rfl | omega), rfl⟩
      · try (exfalso; omega)
        all_goals
          refine ji_iload_n dX7_turn_23 rfl ?_
          refine ji_aload_n dX7_turn_24 rfl trivial ?_
          refine ji_get (ci := 7) (k := 8) rfl dX7_turn_25 lX7_64 (by decide) (cl_0h) rfl ?_
          refine ji_cV dX7_turn_28 (cl_jYs (k_Layout_pages hcx hA0 hl)) rfl (cl_40h) rfl rfl wX3_pages vX3_pages lX7_149 rfl (Nat.le_of_ble_eq_true rfl) rfl ?_
          refine ji_icmp_lt (tgt := 36) dX7_turn_31 rfl (by omega) (by omega) (fun c31 => ?_) (fun c31 => ?_)
          · try (exfalso; omega)
            all_goals
              refine ji_aload_n dX7_turn_36 rfl trivial ?_
              refine ji_get (ci := 7) (k := 6) rfl dX7_turn_37 lX7_48 (by decide) (cl_0h) rfl ?_
              refine ji_aload_n dX7_turn_40 rfl trivial ?_
              refine ji_get (ci := 7) (k := 8) rfl dX7_turn_41 lX7_64 (by decide) (cl_0h) rfl ?_
              refine ji_iload_n dX7_turn_44 rfl ?_
              refine ji_cV dX7_turn_45 (cl_jYs (k_Layout_placeOfPage hcx hA0 hl (by omega) hp h89)) rfl (cl_40h) rfl rfl wX3_placeOfPage vX3_placeOfPage lX7_210 rfl (Nat.le_of_ble_eq_true rfl) rfl ?_
              refine ji_cVv dX7_turn_48 (cl_jM (cl_pl B Y (cl_at B Y M.1 + -1), M.2) k_Marks_setReader) rfl (cl_12h) rfl rfl wX4_setReader vX4_setReader lX7_213 rfl (Nat.le_of_ble_eq_true rfl) rfl ?_
              refine ji_iload_n dX7_turn_51 rfl ?_
              exact ji_ireturn dX7_turn_52 rfl (rfl) ⟨jr_i (by first | rfl | omega), rfl⟩
          · try (exfalso; omega)
            all_goals
              refine ji_iconst dX7_turn_34 ?_
              exact ji_ireturn dX7_turn_35 rfl (rfl) ⟨jr_i (by first | rfl | omega), rfl⟩
  · try (exfalso; omega)
    all_goals
      refine ji_iconst dX7_turn_12 ?_
      refine ji_goto (tgt := 17) dX7_turn_13 rfl ?_
      refine ji_iadd dX7_turn_17 ?_
      refine ji_istore_n dX7_turn_18 (by decide) rfl ?_
      refine ji_iload_n dX7_turn_19 rfl ?_
      refine ji_if_lt (tgt := 34) dX7_turn_20 rfl (by omega) (fun c20 => ?_) (fun c20 => ?_)
      · try (exfalso; omega)
        all_goals
          refine ji_iconst dX7_turn_34 ?_
          exact ji_ireturn dX7_turn_35 rfl (rfl) ⟨jr_i (by first | rfl | omega), rfl⟩
      · try (exfalso; omega)
        all_goals
          refine ji_iload_n dX7_turn_23 rfl ?_
          refine ji_aload_n dX7_turn_24 rfl trivial ?_
          refine ji_get (ci := 7) (k := 8) rfl dX7_turn_25 lX7_64 (by decide) (cl_0h) rfl ?_
          refine ji_cV dX7_turn_28 (cl_jYs (k_Layout_pages hcx hA0 hl)) rfl (cl_40h) rfl rfl wX3_pages vX3_pages lX7_149 rfl (Nat.le_of_ble_eq_true rfl) rfl ?_
          refine ji_icmp_lt (tgt := 36) dX7_turn_31 rfl (by omega) (by omega) (fun c31 => ?_) (fun c31 => ?_)
          · try (exfalso; omega)
            all_goals
              refine ji_aload_n dX7_turn_36 rfl trivial ?_
              refine ji_get (ci := 7) (k := 6) rfl dX7_turn_37 lX7_48 (by decide) (cl_0h) rfl ?_
              refine ji_aload_n dX7_turn_40 rfl trivial ?_
              refine ji_get (ci := 7) (k := 8) rfl dX7_turn_41 lX7_64 (by decide) (cl_0h) rfl ?_
              refine ji_iload_n dX7_turn_44 rfl ?_
              refine ji_cV dX7_turn_45 (cl_jYs (k_Layout_placeOfPage hcx hA0 hl (by omega) hp h89)) rfl (cl_40h) rfl rfl wX3_placeOfPage vX3_placeOfPage lX7_210 rfl (Nat.le_of_ble_eq_true rfl) rfl ?_
              refine ji_cVv dX7_turn_48 (cl_jM (cl_pl B Y (cl_at B Y M.1 + -1), M.2) k_Marks_setReader) rfl (cl_12h) rfl rfl wX4_setReader vX4_setReader lX7_213 rfl (Nat.le_of_ble_eq_true rfl) rfl ?_
              refine ji_iload_n dX7_turn_51 rfl ?_
              exact ji_ireturn dX7_turn_52 rfl (rfl) ⟨jr_i (by first | rfl | omega), rfl⟩
          · try (exfalso; omega)
            all_goals
              refine ji_iconst dX7_turn_34 ?_
              exact ji_ireturn dX7_turn_35 rfl (rfl) ⟨jr_i (by first | rfl | omega), rfl⟩

set_option maxHeartbeats 4000000 in
set_option maxRecDepth 100000 in
theorem k_turn0 (hok : cl_ok n f I P M H Y Z B NT SB) (hx : 0 ≤ (cl_at B (cl_RY P Y B NT) M.1 + -1) ∧ (cl_at B (cl_RY P Y B NT) M.1 + -1) < (cl_RY P Y B NT).2.2.2.2.1) : JR G (d + 6) mX7_turn [.ref 0, .int (jI (0))] (n, cl_f f I P M H Y Z) 0 0 (some (.int (jI ((cl_at B (cl_RY P Y B NT) M.1 + -1))))) (n, cl_f f I (cl_RP P) (cl_pl B (cl_RY P Y B NT) (cl_at B (cl_RY P Y B NT) M.1 + -1), M.2) H (cl_RY P Y B NT) Z) := by
  obtain ⟨c1, c2, c3, c4, c5, c6, c7, c8, c9, c10, c11, c12⟩ := id hok
  obtain ⟨⟨hm1, hm1'⟩, hm2, hm3, hmJ, hmF, hmT⟩ := id c8
  obtain ⟨hbat, hbok, hbne⟩ := id c6
  obtain ⟨bw, bkq, bfq, hb0, hb1, hb2, hbw, ⟨hbd, -, -⟩, -⟩ := id hbat
  obtain ⟨⟨hw1, hw2⟩, hh1, hh2⟩ := id c5
  refine ji_ent (by decide) rfl (Nat.le_of_ble_eq_true rfl) rfl ?_
  refine ji_aload_n dX7_turn_0 rfl trivial ?_
  refine ji_cVv dX7_turn_1 (k_refresh hok) rfl (cl_0h) rfl rfl wX7_refresh vX7_refresh lX7_146 rfl (Nat.le_of_ble_eq_true rfl) rfl ?_
  exact k_turn0_r (cl_fr_ok hok).2 (cl_fr_ok hok).1 hx

set_option maxHeartbeats 4000000 in
set_option maxRecDepth 100000 in
theorem x_back (hok : cl_ok n f I P M H Y Z B NT SB) (hx : M.2.1 = 0) : JX G (d + 6) mX7_back [.ref 0] (n, cl_f f I P M H Y Z) 1 6 eS (n, cl_f f I P M H Y Z) := by
  obtain ⟨c1, c2, c3, c4, c5, c6, c7, c8, c9, c10, c11, c12⟩ := id hok
  obtain ⟨⟨hm1, hm1'⟩, hm2, hm3, hmJ, hmF, hmT⟩ := id c8
  obtain ⟨hbat, hbok, hbne⟩ := id c6
  obtain ⟨bw, bkq, bfq, hb0, hb1, hb2, hbw, ⟨hbd, -, -⟩, -⟩ := id hbat
  obtain ⟨⟨hw1, hw2⟩, hh1, hh2⟩ := id c5
  refine ji_ent (by decide) rfl (Nat.le_of_ble_eq_true rfl) rfl ?_
  refine ji_aload_n dX7_back_0 rfl trivial ?_
  refine ji_get (ci := 7) (k := 6) rfl dX7_back_1 lX7_48 (by decide) (cl_0h) rfl ?_
  refine ji_cV dX7_back_4 (cl_jMs k_Marks_jumps) rfl (cl_12h) rfl rfl wX4_jumps vX4_jumps lX7_216 rfl (Nat.le_of_ble_eq_true rfl) rfl ?_
  refine ji_if_ne (tgt := 20) dX7_back_7 rfl (by omega) (fun c7 => ?_) (fun c7 => ?_)
  · try (exfalso; omega)
    all_goals
      refine ji_aload_n dX7_back_20 rfl trivial ?_
      fail "no contract for BookPager.refresh at 21"
  · try (exfalso; omega)
    all_goals
      exact ji_throw (text := "no jump is kept") ji_thrS rfl (by decide) rfl dX7_back_10 dX7_back_13 dX7_back_14 dX7_back_16 dX7_back_19 (by omega) (by omega) (Nat.le_of_ble_eq_true rfl) ⟨rfl, rfl⟩

set_option maxHeartbeats 4000000 in
set_option maxRecDepth 100000 in
theorem k_back_r (hok : cl_ok n f I P M H Y Z B NT SB) (hfr : cl_fr P Y B NT) (hx : 0 < M.2.1) : JW G (d + 6) mX7_back 24 [some (.ref 0)] [] (n, cl_f f I P M H Y Z) 0 0 (fun r9 h9 => r9 = .inl (some (.int (jI (cl_at B Y (M.2.2.2.1 (M.2.1 - 1).toNat))))) ∧ h9 = (n, cl_f f I P (mk_jb M) H Y Z)) := by
  obtain ⟨c1, c2, c3, c4, c5, c6, c7, c8, c9, c10, c11, c12⟩ := id hok
  obtain ⟨⟨hm1, hm1'⟩, hm2, hm3, hmJ, hmF, hmT⟩ := id c8
  obtain ⟨hbat, hbok, hbne⟩ := id c6
  obtain ⟨bw, bkq, bfq, hb0, hb1, hb2, hbw, ⟨hbd, -, -⟩, -⟩ := id hbat
  obtain ⟨⟨hw1, hw2⟩, hh1, hh2⟩ := id c5
  obtain ⟨⟨hl1, hl2⟩, ⟨hp1, hp2⟩, hy1, hy2, hy3⟩ := id (cl_fr_b hok hfr)
  have hcx : ∀ {I' : in_T} {M' : mk_T} {H' : hi_T} {Y' Z' : ly_T}, ly_cx n (cl_f f I' P M' H' Y' Z') 40 Y.1 B P.2.1 := by rw [hy1]; exact cl_cx hok (by decide) rfl
  obtain ⟨hA0, hN, h3, h5, h7, h89⟩ := id c10.1
  have hl : 0 ≤ Y.2.2.2.1 ∧ Y.2.2.2.1 ≤ 240 := by omega
  have hp : 0 ≤ Y.2.2.2.2.1 ∧ Y.2.2.2.2.1 ≤ 240 := by omega
  have hmk : mk_ok 900000 (mk_jb M) := mk_ok_jb c8 hx
  refine ji_aload_n dX7_back_24 rfl trivial ?_
  refine ji_get (ci := 7) (k := 6) rfl dX7_back_25 lX7_48 (by decide) (cl_0h) rfl ?_
  refine ji_cVv dX7_back_28 (cl_jM (mk_jb M) (k_Marks_jumpBack (by omega))) rfl (cl_12h) rfl rfl wX4_jumpBack vX4_jumpBack lX7_221 rfl (Nat.le_of_ble_eq_true rfl) rfl ?_
  refine ji_aload_n dX7_back_31 rfl trivial ?_
  refine ji_cV dX7_back_32 (k_presentPage (cl_okM hok hmk) hfr) rfl (cl_0h) rfl rfl wX7_presentPage vX7_presentPage lX7_207 rfl (Nat.le_of_ble_eq_true rfl) rfl ?_
  exact ji_ireturn dX7_back_35 rfl (rfl) ⟨jr_i (by first | rfl | omega), rfl⟩

set_option maxHeartbeats 4000000 in
set_option maxRecDepth 100000 in
theorem k_back (hok : cl_ok n f I P M H Y Z B NT SB) (hx : 0 < M.2.1) : JR G (d + 6) mX7_back [.ref 0] (n, cl_f f I P M H Y Z) 0 0 (some (.int (jI (cl_at B (cl_RY P Y B NT) (M.2.2.2.1 (M.2.1 - 1).toNat))))) (n, cl_f f I (cl_RP P) (mk_jb M) H (cl_RY P Y B NT) Z) := by
  obtain ⟨c1, c2, c3, c4, c5, c6, c7, c8, c9, c10, c11, c12⟩ := id hok
  obtain ⟨⟨hm1, hm1'⟩, hm2, hm3, hmJ, hmF, hmT⟩ := id c8
  obtain ⟨hbat, hbok, hbne⟩ := id c6
  obtain ⟨bw, bkq, bfq, hb0, hb1, hb2, hbw, ⟨hbd, -, -⟩, -⟩ := id hbat
  obtain ⟨⟨hw1, hw2⟩, hh1, hh2⟩ := id c5
  refine ji_ent (by decide) rfl (Nat.le_of_ble_eq_true rfl) rfl ?_
  refine ji_aload_n dX7_back_0 rfl trivial ?_
  refine ji_get (ci := 7) (k := 6) rfl dX7_back_1 lX7_48 (by decide) (cl_0h) rfl ?_
  refine ji_cV dX7_back_4 (cl_jMs k_Marks_jumps) rfl (cl_12h) rfl rfl wX4_jumps vX4_jumps lX7_216 rfl (Nat.le_of_ble_eq_true rfl) rfl ?_
  refine ji_if_ne (tgt := 20) dX7_back_7 rfl (by omega) (fun c7 => ?_) (fun c7 => ?_)
  · try (exfalso; omega)
    all_goals
      refine ji_aload_n dX7_back_20 rfl trivial ?_
      refine ji_cVv dX7_back_21 (k_refresh hok) rfl (cl_0h) rfl rfl wX7_refresh vX7_refresh lX7_146 rfl (Nat.le_of_ble_eq_true rfl) rfl ?_
      exact k_back_r (cl_fr_ok hok).2 (cl_fr_ok hok).1 hx
  · try (exfalso; omega)
    all_goals
      exact ji_throw (text := "no jump is kept") ji_thrS rfl (by decide) rfl dX7_back_10 dX7_back_13 dX7_back_14 dX7_back_16 dX7_back_19 (by omega) (by omega) (Nat.le_of_ble_eq_true rfl) ⟨jr_i (by first | rfl | omega), rfl⟩

set_option maxHeartbeats 4000000 in
set_option maxRecDepth 100000 in
theorem x_find (hok : cl_ok n f I P M H Y Z B NT SB) {v : Int} (hx : in_whole I.1 I.2.1 0 = 0) : JX G (d + 7) mX7_find [.ref 0, .int (jI (v))] (n, cl_f f I P M H Y Z) 1 6 eS (n, cl_f f (in_W I 0) P M H Y Z) := by
  obtain ⟨c1, c2, c3, c4, c5, c6, c7, c8, c9, c10, c11, c12⟩ := id hok
  obtain ⟨⟨hm1, hm1'⟩, hm2, hm3, hmJ, hmF, hmT⟩ := id c8
  obtain ⟨hbat, hbok, hbne⟩ := id c6
  obtain ⟨bw, bkq, bfq, hb0, hb1, hb2, hbw, ⟨hbd, -, -⟩, -⟩ := id hbat
  obtain ⟨⟨hw1, hw2⟩, hh1, hh2⟩ := id c5
  refine ji_ent (by decide) rfl (Nat.le_of_ble_eq_true rfl) rfl ?_
  refine ji_aload_n dX7_find_0 rfl trivial ?_
  exact ji_cVx dX7_find_1 (x_checkWordList hok hx) rfl (cl_0h) rfl rfl wX7_checkWordList vX7_checkWordList lX7_129 rfl (Nat.le_of_ble_eq_true rfl) rfl (by omega) (by omega)

set_option maxHeartbeats 4000000 in
set_option maxRecDepth 100000 in
theorem k_find1 (hok : cl_ok n f I P M H Y Z B NT SB) (hx : in_whole I.1 I.2.1 0 = 1) : JR G (d + 6) mX7_find [.ref 0, .int (jI (1))] (n, cl_f f I P M H Y Z) 0 0 (some (.int (jI (if cl_wb (in_W I 0) B M.1 (bk_n B) 0 = -1 then -1 else bk_pos B (bk_ws B (cl_wb (in_W I 0) B M.1 (bk_n B) 0)))))) (n, cl_f f (in_W I 0) P M H Y Z) := by
  obtain ⟨c1, c2, c3, c4, c5, c6, c7, c8, c9, c10, c11, c12⟩ := id hok
  obtain ⟨⟨hm1, hm1'⟩, hm2, hm3, hmJ, hmF, hmT⟩ := id c8
  obtain ⟨hbat, hbok, hbne⟩ := id c6
  obtain ⟨bw, bkq, bfq, hb0, hb1, hb2, hbw, ⟨hbd, -, -⟩, -⟩ := id hbat
  obtain ⟨⟨hw1, hw2⟩, hh1, hh2⟩ := id c5
  obtain ⟨wt, wq, hw0', -, -, ⟨hwd, -, -⟩, -⟩ := id hbw
  have hn0 := hbok.1.2.1
  have hfb := cl_wb_b (in_W I 0) B M.1 (bk_n B) 0 (by omega)
  have w1 := bk_ws_b hbok (cl_wb (in_W I 0) B M.1 (bk_n B) 0)
  have w2 : bk_ws B (cl_wb (in_W I 0) B M.1 (bk_n B) 0) = wd_start (bk_m B) (bk_n B) (bk_s B) (cl_wb (in_W I 0) B M.1 (bk_n B) 0) := rfl
  refine ji_ent (by decide) rfl (Nat.le_of_ble_eq_true rfl) rfl ?_
  refine ji_aload_n dX7_find_0 rfl trivial ?_
  refine ji_cVv dX7_find_1 (k_checkWordList hok hx) rfl (cl_0h) rfl rfl wX7_checkWordList vX7_checkWordList lX7_129 rfl (Nat.le_of_ble_eq_true rfl) rfl ?_
  refine ji_iload_n dX7_find_4 rfl ?_
  refine ji_if_eq (tgt := 15) dX7_find_5 rfl (by omega) (fun c5 => ?_) (fun c5 => ?_)
  · try (exfalso; omega)
    all_goals
      refine ji_aload_n dX7_find_15 rfl trivial ?_
      fail "no contract for BookPager.wordBeforeReader at 16"
  · try (exfalso; omega)
    all_goals
      refine ji_aload_n dX7_find_8 rfl trivial ?_
      refine ji_cV dX7_find_9 (k_wordBehindReader (I := in_W I 0) hok) rfl (cl_0h) rfl rfl wX7_wordBehindReader vX7_wordBehindReader lX7_224 rfl (Nat.le_of_ble_eq_true rfl) rfl ?_
      refine ji_goto (tgt := 19) dX7_find_12 rfl ?_
      refine ji_istore_n dX7_find_19 (by decide) rfl ?_
      refine ji_iload_n dX7_find_20 rfl ?_
      refine ji_iconst dX7_find_21 ?_
      refine ji_icmp_ne (tgt := 29) dX7_find_22 rfl (by omega) (by omega) (fun c22 => ?_) (fun c22 => ?_)
      · try (exfalso; omega)
        all_goals
          refine ji_aload_n dX7_find_29 rfl trivial ?_
          refine ji_get (ci := 7) (k := 5) rfl dX7_find_30 lX7_41 (by decide) (cl_0h) rfl ?_
          refine ji_aload_n dX7_find_33 rfl trivial ?_
          refine ji_get (ci := 7) (k := 5) rfl dX7_find_34 lX7_41 (by decide) (cl_0h) rfl ?_
          refine ji_cV dX7_find_37 (k_Book_words_w ((cl_dh hbd).trans hb0)) rfl ((cl_dh hbd).trans hb0) rfl rfl wX0_words vX0_words lX7_230 rfl (Nat.le_of_ble_eq_true rfl) rfl ?_
          refine ji_iload_n dX7_find_40 rfl ?_
          refine ji_cV dX7_find_41 (k_Words_startOf (hbw.kept cl_kf) hbok.1 (by omega)) rfl ((cl_dh hwd).trans hw0') rfl rfl wX6_startOf vX6_startOf lX7_234 rfl (Nat.le_of_ble_eq_true rfl) rfl ?_
          refine ji_cV dX7_find_44 (k_Book_positionOf (hbat.kept cl_kf) hbok (by omega)) rfl ((cl_dh hbd).trans hb0) rfl rfl wX0_positionOf vX0_positionOf lX7_235 rfl (Nat.le_of_ble_eq_true rfl) rfl ?_
          exact ji_ireturn dX7_find_47 rfl (rfl) ⟨jr_i (by first | (rw [if_pos (by omega)]; done) | (rw [if_neg (by omega)]; rfl)), rfl⟩
      · try (exfalso; omega)
        all_goals
          refine ji_iconst dX7_find_25 ?_
          refine ji_goto (tgt := 47) dX7_find_26 rfl ?_
          exact ji_ireturn dX7_find_47 rfl (rfl) ⟨jr_i (by first | (rw [if_pos (by omega)]; done) | (rw [if_neg (by omega)]; rfl)), rfl⟩

set_option maxHeartbeats 4000000 in
set_option maxRecDepth 100000 in
theorem k_find0 (hok : cl_ok n f I P M H Y Z B NT SB) (hx : in_whole I.1 I.2.1 0 = 1) : JR G (d + 6) mX7_find [.ref 0, .int (jI (0))] (n, cl_f f I P M H Y Z) 0 0 (some (.int (jI (if cl_wf (in_W I 0) B M.1 (bk_n B) = -1 then -1 else bk_pos B (bk_ws B (cl_wf (in_W I 0) B M.1 (bk_n B))))))) (n, cl_f f (in_W I 0) P M H Y Z) := by
  obtain ⟨c1, c2, c3, c4, c5, c6, c7, c8, c9, c10, c11, c12⟩ := id hok
  obtain ⟨⟨hm1, hm1'⟩, hm2, hm3, hmJ, hmF, hmT⟩ := id c8
  obtain ⟨hbat, hbok, hbne⟩ := id c6
  obtain ⟨bw, bkq, bfq, hb0, hb1, hb2, hbw, ⟨hbd, -, -⟩, -⟩ := id hbat
  obtain ⟨⟨hw1, hw2⟩, hh1, hh2⟩ := id c5
  obtain ⟨wt, wq, hw0', -, -, ⟨hwd, -, -⟩, -⟩ := id hbw
  have hn0 := hbok.1.2.1
  have hfb := cl_wf_b (in_W I 0) B M.1 (bk_n B)
  have w1 := bk_ws_b hbok (cl_wf (in_W I 0) B M.1 (bk_n B))
  have w2 : bk_ws B (cl_wf (in_W I 0) B M.1 (bk_n B)) = wd_start (bk_m B) (bk_n B) (bk_s B) (cl_wf (in_W I 0) B M.1 (bk_n B)) := rfl
  refine ji_ent (by decide) rfl (Nat.le_of_ble_eq_true rfl) rfl ?_
  refine ji_aload_n dX7_find_0 rfl trivial ?_
  refine ji_cVv dX7_find_1 (k_checkWordList hok hx) rfl (cl_0h) rfl rfl wX7_checkWordList vX7_checkWordList lX7_129 rfl (Nat.le_of_ble_eq_true rfl) rfl ?_
  refine ji_iload_n dX7_find_4 rfl ?_
  refine ji_if_eq (tgt := 15) dX7_find_5 rfl (by omega) (fun c5 => ?_) (fun c5 => ?_)
  · try (exfalso; omega)
    all_goals
      refine ji_aload_n dX7_find_15 rfl trivial ?_
      refine ji_cV dX7_find_16 (k_wordBeforeReader (I := in_W I 0) hok) rfl (cl_0h) rfl rfl wX7_wordBeforeReader vX7_wordBeforeReader lX7_227 rfl (Nat.le_of_ble_eq_true rfl) rfl ?_
      refine ji_istore_n dX7_find_19 (by decide) rfl ?_
      refine ji_iload_n dX7_find_20 rfl ?_
      refine ji_iconst dX7_find_21 ?_
      refine ji_icmp_ne (tgt := 29) dX7_find_22 rfl (by omega) (by omega) (fun c22 => ?_) (fun c22 => ?_)
      · try (exfalso; omega)
        all_goals
          refine ji_aload_n dX7_find_29 rfl trivial ?_
          refine ji_get (ci := 7) (k := 5) rfl dX7_find_30 lX7_41 (by decide) (cl_0h) rfl ?_
          refine ji_aload_n dX7_find_33 rfl trivial ?_
          refine ji_get (ci := 7) (k := 5) rfl dX7_find_34 lX7_41 (by decide) (cl_0h) rfl ?_
          refine ji_cV dX7_find_37 (k_Book_words_w ((cl_dh hbd).trans hb0)) rfl ((cl_dh hbd).trans hb0) rfl rfl wX0_words vX0_words lX7_230 rfl (Nat.le_of_ble_eq_true rfl) rfl ?_
          refine ji_iload_n dX7_find_40 rfl ?_
          refine ji_cV dX7_find_41 (k_Words_startOf (hbw.kept cl_kf) hbok.1 (by omega)) rfl ((cl_dh hwd).trans hw0') rfl rfl wX6_startOf vX6_startOf lX7_234 rfl (Nat.le_of_ble_eq_true rfl) rfl ?_
          refine ji_cV dX7_find_44 (k_Book_positionOf (hbat.kept cl_kf) hbok (by omega)) rfl ((cl_dh hbd).trans hb0) rfl rfl wX0_positionOf vX0_positionOf lX7_235 rfl (Nat.le_of_ble_eq_true rfl) rfl ?_
          exact ji_ireturn dX7_find_47 rfl (rfl) ⟨jr_i (by first | (rw [if_pos (by omega)]; done) | (rw [if_neg (by omega)]; rfl)), rfl⟩
      · try (exfalso; omega)
        all_goals
          refine ji_iconst dX7_find_25 ?_
          refine ji_goto (tgt := 47) dX7_find_26 rfl ?_
          exact ji_ireturn dX7_find_47 rfl (rfl) ⟨jr_i (by first | (rw [if_pos (by omega)]; done) | (rw [if_neg (by omega)]; rfl)), rfl⟩
  · try (exfalso; omega)
    all_goals
      refine ji_aload_n dX7_find_8 rfl trivial ?_
      fail "no contract for BookPager.wordBehindReader at 9"

set_option maxHeartbeats 4000000 in
set_option maxRecDepth 100000 in
theorem x_count (hok : cl_ok n f I P M H Y Z B NT SB) {v : Int} (b_v : -2147483648 ≤ v ∧ v < 2147483648) (hx : v < 0 ∨ 12 ≤ v) : JX G (d + 7) mX7_count [.ref 0, .int (jI (v))] (n, cl_f f I P M H Y Z) 1 6 eA (n, cl_f f I P M H Y Z) := by
  obtain ⟨c1, c2, c3, c4, c5, c6, c7, c8, c9, c10, c11, c12⟩ := id hok
  obtain ⟨⟨hm1, hm1'⟩, hm2, hm3, hmJ, hmF, hmT⟩ := id c8
  obtain ⟨hbat, hbok, hbne⟩ := id c6
  obtain ⟨bw, bkq, bfq, hb0, hb1, hb2, hbw, ⟨hbd, -, -⟩, -⟩ := id hbat
  obtain ⟨⟨hw1, hw2⟩, hh1, hh2⟩ := id c5
  refine ji_ent (by decide) rfl (Nat.le_of_ble_eq_true rfl) rfl ?_
  refine ji_iload_n dX7_count_0 rfl ?_
  refine ji_bipush dX7_count_1 rfl ?_
  exact ji_cSx dX7_count_3 (x_checkWhat b_v (by omega) hx) rfl wX7_checkWhat sX7_checkWhat lX7_162 rfl (Nat.le_of_ble_eq_true rfl) rfl (by omega) (by omega)

set_option maxHeartbeats 4000000 in
set_option maxRecDepth 100000 in
theorem k_count_r (hok : cl_ok n f I P M H Y Z B NT SB) (hfr : cl_fr P Y B NT) {v : Int} (hx : 0 ≤ v ∧ v < 12) (hr : 9 ≤ M.1 ∨ bk_PA B M.1 ≤ M.1) : JW G (d + 6) mX7_count 10 [some (.ref 0), some (.int (jI (v)))] [] (n, cl_f f I P M H Y Z) 0 0 (fun r9 h9 => r9 = .inl (some (.int (jI (cl_cnt B M Y H.1 v)))) ∧ h9 = (n, cl_f f I P M H Y Z)) := by
  obtain ⟨c1, c2, c3, c4, c5, c6, c7, c8, c9, c10, c11, c12⟩ := id hok
  obtain ⟨⟨hm1, hm1'⟩, hm2, hm3, hmJ, hmF, hmT⟩ := id c8
  obtain ⟨hbat, hbok, hbne⟩ := id c6
  obtain ⟨bw, bkq, bfq, hb0, hb1, hb2, hbw, ⟨hbd, -, -⟩, -⟩ := id hbat
  obtain ⟨⟨hw1, hw2⟩, hh1, hh2⟩ := id c5
  obtain ⟨⟨hl1, hl2⟩, ⟨hp1, hp2⟩, hy1, hy2, hy3⟩ := id (cl_fr_b hok hfr)
  have hcx : ∀ {I' : in_T} {M' : mk_T} {H' : hi_T} {Y' Z' : ly_T}, ly_cx n (cl_f f I' P M' H' Y' Z') 40 Y.1 B P.2.1 := by rw [hy1]; exact cl_cx hok (by decide) rfl
  obtain ⟨hA0, hN, h3, h5, h7, h89⟩ := id c10.1
  have hl : 0 ≤ Y.2.2.2.1 ∧ Y.2.2.2.1 ≤ 240 := by omega
  have hp : 0 ≤ Y.2.2.2.2.1 ∧ Y.2.2.2.2.1 ≤ 240 := by omega
  refine ji_aload_n dX7_count_10 rfl trivial ?_
  refine ji_iload_n dX7_count_11 rfl ?_
  refine ji_cV dX7_count_12 (k_countOf hok hfr hr hx) rfl (cl_0h) rfl rfl wX7_countOf vX7_countOf lX7_238 rfl (Nat.le_of_ble_eq_true rfl) rfl ?_
  exact ji_ireturn dX7_count_15 rfl (rfl) ⟨jr_i (by first | rfl | omega), rfl⟩

set_option maxHeartbeats 4000000 in
set_option maxRecDepth 100000 in
theorem k_count (hok : cl_ok n f I P M H Y Z B NT SB) {v : Int} (hx : 0 ≤ v ∧ v < 12) (hr : 9 ≤ M.1 ∨ bk_PA B M.1 ≤ M.1) : JR G (d + 6) mX7_count [.ref 0, .int (jI (v))] (n, cl_f f I P M H Y Z) 0 0 (some (.int (jI (cl_cnt B M (cl_RY P Y B NT) H.1 v)))) (n, cl_f f I (cl_RP P) M H (cl_RY P Y B NT) Z) := by
  obtain ⟨c1, c2, c3, c4, c5, c6, c7, c8, c9, c10, c11, c12⟩ := id hok
  obtain ⟨⟨hm1, hm1'⟩, hm2, hm3, hmJ, hmF, hmT⟩ := id c8
  obtain ⟨hbat, hbok, hbne⟩ := id c6
  obtain ⟨bw, bkq, bfq, hb0, hb1, hb2, hbw, ⟨hbd, -, -⟩, -⟩ := id hbat
  obtain ⟨⟨hw1, hw2⟩, hh1, hh2⟩ := id c5
  refine ji_ent (by decide) rfl (Nat.le_of_ble_eq_true rfl) rfl ?_
  refine ji_iload_n dX7_count_0 rfl ?_
  refine ji_bipush dX7_count_1 rfl ?_
  refine ji_cSv dX7_count_3 (k_checkWhat (by omega) (by omega) hx) rfl wX7_checkWhat sX7_checkWhat lX7_162 rfl (Nat.le_of_ble_eq_true rfl) rfl ?_
  refine ji_aload_n dX7_count_6 rfl trivial ?_
  refine ji_cVv dX7_count_7 (k_refresh hok) rfl (cl_0h) rfl rfl wX7_refresh vX7_refresh lX7_146 rfl (Nat.le_of_ble_eq_true rfl) rfl ?_
  exact k_count_r (cl_fr_ok hok).2 (cl_fr_ok hok).1 hx hr

set_option maxHeartbeats 4000000 in
set_option maxRecDepth 100000 in
theorem x_paragraph1 (hok : cl_ok n f I P M H Y Z B NT SB) {v m : Int} (b_v : -2147483648 ≤ v ∧ v < 2147483648) (hx : v < 0 ∨ bk_P B ≤ v) : JX G (d + 7) mX7_paragraph [.ref 0, .int (jI (v)), .int (jI (m))] (n, cl_f f I P M H Y Z) 1 6 eI (n, cl_f f I P M H Y Z) := by
  obtain ⟨c1, c2, c3, c4, c5, c6, c7, c8, c9, c10, c11, c12⟩ := id hok
  obtain ⟨⟨hm1, hm1'⟩, hm2, hm3, hmJ, hmF, hmT⟩ := id c8
  obtain ⟨hbat, hbok, hbne⟩ := id c6
  obtain ⟨bw, bkq, bfq, hb0, hb1, hb2, hbw, ⟨hbd, -, -⟩, -⟩ := id hbat
  obtain ⟨⟨hw1, hw2⟩, hh1, hh2⟩ := id c5
  refine ji_ent (by decide) rfl (Nat.le_of_ble_eq_true rfl) rfl ?_
  refine ji_aload_n dX7_paragraph_0 rfl trivial ?_
  refine ji_iload_n dX7_paragraph_1 rfl ?_
  exact ji_cVx dX7_paragraph_2 (x_checkParagraph hok b_v hx) rfl (cl_0h) rfl rfl wX7_checkParagraph vX7_checkParagraph lX7_241 rfl (Nat.le_of_ble_eq_true rfl) rfl (by omega) (by omega)

set_option maxHeartbeats 4000000 in
set_option maxRecDepth 100000 in
theorem x_paragraph2 (hok : cl_ok n f I P M H Y Z B NT SB) {v m : Int} (b_v : -2147483648 ≤ v ∧ v < 2147483648) (b_m : -2147483648 ≤ m ∧ m < 2147483648) (hv : 0 ≤ v ∧ v < bk_P B) (hx : m < 0 ∨ 5 ≤ m) : JX G (d + 7) mX7_paragraph [.ref 0, .int (jI (v)), .int (jI (m))] (n, cl_f f I P M H Y Z) 1 6 eA (n, cl_f f I P M H Y Z) := by
  obtain ⟨c1, c2, c3, c4, c5, c6, c7, c8, c9, c10, c11, c12⟩ := id hok
  obtain ⟨⟨hm1, hm1'⟩, hm2, hm3, hmJ, hmF, hmT⟩ := id c8
  obtain ⟨hbat, hbok, hbne⟩ := id c6
  obtain ⟨bw, bkq, bfq, hb0, hb1, hb2, hbw, ⟨hbd, -, -⟩, -⟩ := id hbat
  obtain ⟨⟨hw1, hw2⟩, hh1, hh2⟩ := id c5
  refine ji_ent (by decide) rfl (Nat.le_of_ble_eq_true rfl) rfl ?_
  refine ji_aload_n dX7_paragraph_0 rfl trivial ?_
  refine ji_iload_n dX7_paragraph_1 rfl ?_
  refine ji_cVv dX7_paragraph_2 (k_checkParagraph hok b_v hv) rfl (cl_0h) rfl rfl wX7_checkParagraph vX7_checkParagraph lX7_241 rfl (Nat.le_of_ble_eq_true rfl) rfl ?_
  refine ji_iload_n dX7_paragraph_5 rfl ?_
  refine ji_iconst dX7_paragraph_6 ?_
  exact ji_cSx dX7_paragraph_7 (x_checkWhat b_m (by omega) hx) rfl wX7_checkWhat sX7_checkWhat lX7_162 rfl (Nat.le_of_ble_eq_true rfl) rfl (by omega) (by omega)

set_option maxHeartbeats 4000000 in
set_option maxRecDepth 100000 in
theorem k_paragraph_r (hok : cl_ok n f I P M H Y Z B NT SB) (hfr : cl_fr P Y B NT) {v m : Int} (b_v : -2147483648 ≤ v ∧ v < 2147483648) (b_m : -2147483648 ≤ m ∧ m < 2147483648) (hv : 0 ≤ v ∧ v < bk_P B) (hx : 0 ≤ m ∧ m < 5) : JW G (d + 6) mX7_paragraph 14 [some (.ref 0), some (.int (jI (v))), some (.int (jI (m)))] [] (n, cl_f f I P M H Y Z) 0 0 (fun r9 h9 => r9 = .inl (some (.int (jI (cl_pp B Y v m)))) ∧ h9 = (n, cl_f f I P M H Y Z)) := by
  obtain ⟨c1, c2, c3, c4, c5, c6, c7, c8, c9, c10, c11, c12⟩ := id hok
  obtain ⟨⟨hm1, hm1'⟩, hm2, hm3, hmJ, hmF, hmT⟩ := id c8
  obtain ⟨hbat, hbok, hbne⟩ := id c6
  obtain ⟨bw, bkq, bfq, hb0, hb1, hb2, hbw, ⟨hbd, -, -⟩, -⟩ := id hbat
  obtain ⟨⟨hw1, hw2⟩, hh1, hh2⟩ := id c5
  obtain ⟨⟨hl1, hl2⟩, ⟨hp1, hp2⟩, hy1, hy2, hy3⟩ := id (cl_fr_b hok hfr)
  have hcx : ∀ {I' : in_T} {M' : mk_T} {H' : hi_T} {Y' Z' : ly_T}, ly_cx n (cl_f f I' P M' H' Y' Z') 40 Y.1 B P.2.1 := by rw [hy1]; exact cl_cx hok (by decide) rfl
  obtain ⟨hA0, hN, h3, h5, h7, h89⟩ := id c10.1
  have hl : 0 ≤ Y.2.2.2.1 ∧ Y.2.2.2.1 ≤ 240 := by omega
  have hp : 0 ≤ Y.2.2.2.2.1 ∧ Y.2.2.2.2.1 ≤ 240 := by omega
  refine ji_aload_n dX7_paragraph_14 rfl trivial ?_
  refine ji_iload_n dX7_paragraph_15 rfl ?_
  refine ji_iload_n dX7_paragraph_16 rfl ?_
  refine ji_cV dX7_paragraph_17 (k_paragraphProperty hok hfr hv hx) rfl (cl_0h) rfl rfl wX7_paragraphProperty vX7_paragraphProperty lX7_244 rfl (Nat.le_of_ble_eq_true rfl) rfl ?_
  exact ji_ireturn dX7_paragraph_20 rfl (rfl) ⟨jr_i (by first | rfl | omega), rfl⟩

set_option maxHeartbeats 4000000 in
set_option maxRecDepth 100000 in
theorem k_paragraph (hok : cl_ok n f I P M H Y Z B NT SB) {v m : Int} (b_v : -2147483648 ≤ v ∧ v < 2147483648) (b_m : -2147483648 ≤ m ∧ m < 2147483648) (hv : 0 ≤ v ∧ v < bk_P B) (hx : 0 ≤ m ∧ m < 5) : JR G (d + 6) mX7_paragraph [.ref 0, .int (jI (v)), .int (jI (m))] (n, cl_f f I P M H Y Z) 0 0 (some (.int (jI (cl_pp B (cl_RY P Y B NT) v m)))) (n, cl_f f I (cl_RP P) M H (cl_RY P Y B NT) Z) := by
  obtain ⟨c1, c2, c3, c4, c5, c6, c7, c8, c9, c10, c11, c12⟩ := id hok
  obtain ⟨⟨hm1, hm1'⟩, hm2, hm3, hmJ, hmF, hmT⟩ := id c8
  obtain ⟨hbat, hbok, hbne⟩ := id c6
  obtain ⟨bw, bkq, bfq, hb0, hb1, hb2, hbw, ⟨hbd, -, -⟩, -⟩ := id hbat
  obtain ⟨⟨hw1, hw2⟩, hh1, hh2⟩ := id c5
  refine ji_ent (by decide) rfl (Nat.le_of_ble_eq_true rfl) rfl ?_
  refine ji_aload_n dX7_paragraph_0 rfl trivial ?_
  refine ji_iload_n dX7_paragraph_1 rfl ?_
  refine ji_cVv dX7_paragraph_2 (k_checkParagraph hok b_v hv) rfl (cl_0h) rfl rfl wX7_checkParagraph vX7_checkParagraph lX7_241 rfl (Nat.le_of_ble_eq_true rfl) rfl ?_
  refine ji_iload_n dX7_paragraph_5 rfl ?_
  refine ji_iconst dX7_paragraph_6 ?_
  refine ji_cSv dX7_paragraph_7 (k_checkWhat b_m (by omega) hx) rfl wX7_checkWhat sX7_checkWhat lX7_162 rfl (Nat.le_of_ble_eq_true rfl) rfl ?_
  refine ji_aload_n dX7_paragraph_10 rfl trivial ?_
  refine ji_cVv dX7_paragraph_11 (k_refresh hok) rfl (cl_0h) rfl rfl wX7_refresh vX7_refresh lX7_146 rfl (Nat.le_of_ble_eq_true rfl) rfl ?_
  exact k_paragraph_r (cl_fr_ok hok).2 (cl_fr_ok hok).1 b_v b_m hv hx

set_option maxHeartbeats 4000000 in
set_option maxRecDepth 100000 in
theorem x_annotation1 (hok : cl_ok n f I P M H Y Z B NT SB) {v m : Int} (b_v : -2147483648 ≤ v ∧ v < 2147483648) (hx : v < 0 ∨ M.2.2.1 ≤ v) : JX G (d + 7) mX7_annotation [.ref 0, .int (jI (v)), .int (jI (m))] (n, cl_f f I P M H Y Z) 1 6 eI (n, cl_f f I P M H Y Z) := by
  obtain ⟨c1, c2, c3, c4, c5, c6, c7, c8, c9, c10, c11, c12⟩ := id hok
  obtain ⟨⟨hm1, hm1'⟩, hm2, hm3, hmJ, hmF, hmT⟩ := id c8
  obtain ⟨hbat, hbok, hbne⟩ := id c6
  obtain ⟨bw, bkq, bfq, hb0, hb1, hb2, hbw, ⟨hbd, -, -⟩, -⟩ := id hbat
  obtain ⟨⟨hw1, hw2⟩, hh1, hh2⟩ := id c5
  refine ji_ent (by decide) rfl (Nat.le_of_ble_eq_true rfl) rfl ?_
  refine ji_aload_n dX7_annotation_0 rfl trivial ?_
  refine ji_iload_n dX7_annotation_1 rfl ?_
  exact ji_cVx dX7_annotation_2 (x_checkAnnotation hok b_v hx) rfl (cl_0h) rfl rfl wX7_checkAnnotation vX7_checkAnnotation lX7_264 rfl (Nat.le_of_ble_eq_true rfl) rfl (by omega) (by omega)

set_option maxHeartbeats 4000000 in
set_option maxRecDepth 100000 in
theorem x_annotation2 (hok : cl_ok n f I P M H Y Z B NT SB) {v m : Int} (b_v : -2147483648 ≤ v ∧ v < 2147483648) (b_m : -2147483648 ≤ m ∧ m < 2147483648) (hv : 0 ≤ v ∧ v < M.2.2.1) (hx : m < 0 ∨ 6 ≤ m) : JX G (d + 7) mX7_annotation [.ref 0, .int (jI (v)), .int (jI (m))] (n, cl_f f I P M H Y Z) 1 6 eA (n, cl_f f I P M H Y Z) := by
  obtain ⟨c1, c2, c3, c4, c5, c6, c7, c8, c9, c10, c11, c12⟩ := id hok
  obtain ⟨⟨hm1, hm1'⟩, hm2, hm3, hmJ, hmF, hmT⟩ := id c8
  obtain ⟨hbat, hbok, hbne⟩ := id c6
  obtain ⟨bw, bkq, bfq, hb0, hb1, hb2, hbw, ⟨hbd, -, -⟩, -⟩ := id hbat
  obtain ⟨⟨hw1, hw2⟩, hh1, hh2⟩ := id c5
  refine ji_ent (by decide) rfl (Nat.le_of_ble_eq_true rfl) rfl ?_
  refine ji_aload_n dX7_annotation_0 rfl trivial ?_
  refine ji_iload_n dX7_annotation_1 rfl ?_
  refine ji_cVv dX7_annotation_2 (k_checkAnnotation hok b_v hv) rfl (cl_0h) rfl rfl wX7_checkAnnotation vX7_checkAnnotation lX7_264 rfl (Nat.le_of_ble_eq_true rfl) rfl ?_
  refine ji_iload_n dX7_annotation_5 rfl ?_
  refine ji_bipush dX7_annotation_6 rfl ?_
  exact ji_cSx dX7_annotation_8 (x_checkWhat b_m (by omega) hx) rfl wX7_checkWhat sX7_checkWhat lX7_162 rfl (Nat.le_of_ble_eq_true rfl) rfl (by omega) (by omega)

set_option maxHeartbeats 4000000 in
set_option maxRecDepth 100000 in
theorem k_annotation_r (hok : cl_ok n f I P M H Y Z B NT SB) (hfr : cl_fr P Y B NT) {v m : Int} (b_v : -2147483648 ≤ v ∧ v < 2147483648) (b_m : -2147483648 ≤ m ∧ m < 2147483648) (hv : 0 ≤ v ∧ v < M.2.2.1) (hx : 0 ≤ m ∧ m < 6) : JW G (d + 6) mX7_annotation 15 [some (.ref 0), some (.int (jI (v))), some (.int (jI (m)))] [] (n, cl_f f I P M H Y Z) 0 0 (fun r9 h9 => r9 = .inl (some (.int (jI (cl_anp B M Y v m)))) ∧ h9 = (n, cl_f f I P M H Y Z)) := by
  obtain ⟨c1, c2, c3, c4, c5, c6, c7, c8, c9, c10, c11, c12⟩ := id hok
  obtain ⟨⟨hm1, hm1'⟩, hm2, hm3, hmJ, hmF, hmT⟩ := id c8
  obtain ⟨hbat, hbok, hbne⟩ := id c6
  obtain ⟨bw, bkq, bfq, hb0, hb1, hb2, hbw, ⟨hbd, -, -⟩, -⟩ := id hbat
  obtain ⟨⟨hw1, hw2⟩, hh1, hh2⟩ := id c5
  obtain ⟨⟨hl1, hl2⟩, ⟨hp1, hp2⟩, hy1, hy2, hy3⟩ := id (cl_fr_b hok hfr)
  have hcx : ∀ {I' : in_T} {M' : mk_T} {H' : hi_T} {Y' Z' : ly_T}, ly_cx n (cl_f f I' P M' H' Y' Z') 40 Y.1 B P.2.1 := by rw [hy1]; exact cl_cx hok (by decide) rfl
  obtain ⟨hA0, hN, h3, h5, h7, h89⟩ := id c10.1
  have hl : 0 ≤ Y.2.2.2.1 ∧ Y.2.2.2.1 ≤ 240 := by omega
  have hp : 0 ≤ Y.2.2.2.2.1 ∧ Y.2.2.2.2.1 ≤ 240 := by omega
  refine ji_aload_n dX7_annotation_15 rfl trivial ?_
  refine ji_iload_n dX7_annotation_16 rfl ?_
  refine ji_iload_n dX7_annotation_17 rfl ?_
  refine ji_cV dX7_annotation_18 (k_annotationProperty hok hfr hv hx) rfl (cl_0h) rfl rfl wX7_annotationProperty vX7_annotationProperty lX7_267 rfl (Nat.le_of_ble_eq_true rfl) rfl ?_
  exact ji_ireturn dX7_annotation_21 rfl (rfl) ⟨jr_i (by first | rfl | omega), rfl⟩

set_option maxHeartbeats 4000000 in
set_option maxRecDepth 100000 in
theorem k_annotation (hok : cl_ok n f I P M H Y Z B NT SB) {v m : Int} (b_v : -2147483648 ≤ v ∧ v < 2147483648) (b_m : -2147483648 ≤ m ∧ m < 2147483648) (hv : 0 ≤ v ∧ v < M.2.2.1) (hx : 0 ≤ m ∧ m < 6) : JR G (d + 6) mX7_annotation [.ref 0, .int (jI (v)), .int (jI (m))] (n, cl_f f I P M H Y Z) 0 0 (some (.int (jI (cl_anp B M (cl_RY P Y B NT) v m)))) (n, cl_f f I (cl_RP P) M H (cl_RY P Y B NT) Z) := by
  obtain ⟨c1, c2, c3, c4, c5, c6, c7, c8, c9, c10, c11, c12⟩ := id hok
  obtain ⟨⟨hm1, hm1'⟩, hm2, hm3, hmJ, hmF, hmT⟩ := id c8
  obtain ⟨hbat, hbok, hbne⟩ := id c6
  obtain ⟨bw, bkq, bfq, hb0, hb1, hb2, hbw, ⟨hbd, -, -⟩, -⟩ := id hbat
  obtain ⟨⟨hw1, hw2⟩, hh1, hh2⟩ := id c5
  refine ji_ent (by decide) rfl (Nat.le_of_ble_eq_true rfl) rfl ?_
  refine ji_aload_n dX7_annotation_0 rfl trivial ?_
  refine ji_iload_n dX7_annotation_1 rfl ?_
  refine ji_cVv dX7_annotation_2 (k_checkAnnotation hok b_v hv) rfl (cl_0h) rfl rfl wX7_checkAnnotation vX7_checkAnnotation lX7_264 rfl (Nat.le_of_ble_eq_true rfl) rfl ?_
  refine ji_iload_n dX7_annotation_5 rfl ?_
  refine ji_bipush dX7_annotation_6 rfl ?_
  refine ji_cSv dX7_annotation_8 (k_checkWhat b_m (by omega) hx) rfl wX7_checkWhat sX7_checkWhat lX7_162 rfl (Nat.le_of_ble_eq_true rfl) rfl ?_
  refine ji_aload_n dX7_annotation_11 rfl trivial ?_
  refine ji_cVv dX7_annotation_12 (k_refresh hok) rfl (cl_0h) rfl rfl wX7_refresh vX7_refresh lX7_146 rfl (Nat.le_of_ble_eq_true rfl) rfl ?_
  exact k_annotation_r (cl_fr_ok hok).2 (cl_fr_ok hok).1 b_v b_m hv hx

set_option maxHeartbeats 4000000 in
set_option maxRecDepth 100000 in
theorem x_removeAnnotation (hok : cl_ok n f I P M H Y Z B NT SB) {v : Int} (b_v : -2147483648 ≤ v ∧ v < 2147483648) (hx : v < 0 ∨ M.2.2.1 ≤ v) : JX G (d + 7) mX7_removeAnnotation [.ref 0, .int (jI (v))] (n, cl_f f I P M H Y Z) 1 6 eI (n, cl_f f I P M H Y Z) := by
  obtain ⟨c1, c2, c3, c4, c5, c6, c7, c8, c9, c10, c11, c12⟩ := id hok
  obtain ⟨⟨hm1, hm1'⟩, hm2, hm3, hmJ, hmF, hmT⟩ := id c8
  obtain ⟨hbat, hbok, hbne⟩ := id c6
  obtain ⟨bw, bkq, bfq, hb0, hb1, hb2, hbw, ⟨hbd, -, -⟩, -⟩ := id hbat
  obtain ⟨⟨hw1, hw2⟩, hh1, hh2⟩ := id c5
  refine ji_ent (by decide) rfl (Nat.le_of_ble_eq_true rfl) rfl ?_
  refine ji_aload_n dX7_removeAnnotation_0 rfl trivial ?_
  refine ji_iload_n dX7_removeAnnotation_1 rfl ?_
  exact ji_cVx dX7_removeAnnotation_2 (x_checkAnnotation hok b_v hx) rfl (cl_0h) rfl rfl wX7_checkAnnotation vX7_checkAnnotation lX7_264 rfl (Nat.le_of_ble_eq_true rfl) rfl (by omega) (by omega)

set_option maxHeartbeats 4000000 in
set_option maxRecDepth 100000 in
theorem k_removeAnnotation (hok : cl_ok n f I P M H Y Z B NT SB) {v : Int} (hv : 0 ≤ v ∧ v < M.2.2.1) : JR G (d + 3) mX7_removeAnnotation [.ref 0, .int (jI (v))] (n, cl_f f I P M H Y Z) 0 0 (some (.int (jI (M.2.2.1 - 1)))) (n, cl_f f I P (M.1, M.2.1, M.2.2.1 - 1, M.2.2.2.1, va_cpy M.2.2.2.2.1 M.2.2.2.2.1 (v + 1).toNat v.toNat (M.2.2.1 - 1 - v).toNat, va_cpy M.2.2.2.2.2.1 M.2.2.2.2.2.1 (v + 1).toNat v.toNat (M.2.2.1 - 1 - v).toNat, va_cpy M.2.2.2.2.2.2 M.2.2.2.2.2.2 (v + 1).toNat v.toNat (M.2.2.1 - 1 - v).toNat) H Y Z) := by
  obtain ⟨c1, c2, c3, c4, c5, c6, c7, c8, c9, c10, c11, c12⟩ := id hok
  obtain ⟨⟨hm1, hm1'⟩, hm2, hm3, hmJ, hmF, hmT⟩ := id c8
  obtain ⟨hbat, hbok, hbne⟩ := id c6
  obtain ⟨bw, bkq, bfq, hb0, hb1, hb2, hbw, ⟨hbd, -, -⟩, -⟩ := id hbat
  obtain ⟨⟨hw1, hw2⟩, hh1, hh2⟩ := id c5
  refine ji_ent (by decide) rfl (Nat.le_of_ble_eq_true rfl) rfl ?_
  refine ji_aload_n dX7_removeAnnotation_0 rfl trivial ?_
  refine ji_iload_n dX7_removeAnnotation_1 rfl ?_
  refine ji_cVv dX7_removeAnnotation_2 (k_checkAnnotation hok (by omega) hv) rfl (cl_0h) rfl rfl wX7_checkAnnotation vX7_checkAnnotation lX7_264 rfl (Nat.le_of_ble_eq_true rfl) rfl ?_
  refine ji_aload_n dX7_removeAnnotation_5 rfl trivial ?_
  refine ji_get (ci := 7) (k := 6) rfl dX7_removeAnnotation_6 lX7_48 (by decide) (cl_0h) rfl ?_
  refine ji_iload_n dX7_removeAnnotation_9 rfl ?_
  refine ji_cVv dX7_removeAnnotation_10 (cl_jM (M.1, M.2.1, M.2.2.1 - 1, M.2.2.2.1, va_cpy M.2.2.2.2.1 M.2.2.2.2.1 (v + 1).toNat v.toNat (M.2.2.1 - 1 - v).toNat, va_cpy M.2.2.2.2.2.1 M.2.2.2.2.2.1 (v + 1).toNat v.toNat (M.2.2.1 - 1 - v).toNat, va_cpy M.2.2.2.2.2.2 M.2.2.2.2.2.2 (v + 1).toNat v.toNat (M.2.2.1 - 1 - v).toNat) (k_Marks_dropAnnotation (by omega))) rfl (cl_12h) rfl rfl wX4_dropAnnotation vX4_dropAnnotation lX7_270 rfl (Nat.le_of_ble_eq_true rfl) rfl ?_
  refine ji_aload_n dX7_removeAnnotation_13 rfl trivial ?_
  refine ji_get (ci := 7) (k := 6) rfl dX7_removeAnnotation_14 lX7_48 (by decide) (cl_0h) rfl ?_
  refine ji_cV dX7_removeAnnotation_17 (cl_jMs k_Marks_annotations) rfl (cl_12h) rfl rfl wX4_annotations vX4_annotations lX7_256 rfl (Nat.le_of_ble_eq_true rfl) rfl ?_
  exact ji_ireturn dX7_removeAnnotation_20 rfl (rfl) ⟨jr_i (by first | rfl | omega), rfl⟩

set_option maxHeartbeats 4000000 in
set_option maxRecDepth 100000 in
theorem x_annotate0 (hok : cl_ok n f I P M H Y Z B NT SB) {v o m c : Int} (b_v : -2147483648 ≤ v ∧ v < 2147483648) (hx : v < 0 ∨ bk_P B ≤ v) : JX G (d + 8) mX7_annotate [.ref 0, .int (jI (v)), .int (jI (o)), .int (jI (m)), .int (jI (c))] (n, cl_f f I P M H Y Z) 1 6 eI (n, cl_f f I P M H Y Z) := by
  obtain ⟨c1, c2, c3, c4, c5, c6, c7, c8, c9, c10, c11, c12⟩ := id hok
  obtain ⟨⟨hm1, hm1'⟩, hm2, hm3, hmJ, hmF, hmT⟩ := id c8
  obtain ⟨hbat, hbok, hbne⟩ := id c6
  obtain ⟨bw, bkq, bfq, hb0, hb1, hb2, hbw, ⟨hbd, -, -⟩, -⟩ := id hbat
  obtain ⟨⟨hw1, hw2⟩, hh1, hh2⟩ := id c5
  refine ji_ent (by decide) rfl (Nat.le_of_ble_eq_true rfl) rfl ?_
  refine ji_aload_n dX7_annotate_0 rfl trivial ?_
  refine ji_iload_n dX7_annotate_1 rfl ?_
  refine ji_iload_n dX7_annotate_2 rfl ?_
  exact ji_cVx dX7_annotate_3 (x_checkOffset0 hok b_v hx) rfl (cl_0h) rfl rfl wX7_checkOffset vX7_checkOffset lX7_189 rfl (Nat.le_of_ble_eq_true rfl) rfl (by omega) (by omega)

set_option maxHeartbeats 4000000 in
set_option maxRecDepth 100000 in
theorem x_annotate1 (hok : cl_ok n f I P M H Y Z B NT SB) {v o m c : Int} (b_v : -2147483648 ≤ v ∧ v < 2147483648) (b_o : -2147483648 ≤ o ∧ o < 2147483648) (hv : 0 ≤ v ∧ v < bk_P B) (hx : o < 0 ∨ bk_end B v - bk_start B v ≤ o) : JX G (d + 8) mX7_annotate [.ref 0, .int (jI (v)), .int (jI (o)), .int (jI (m)), .int (jI (c))] (n, cl_f f I P M H Y Z) 1 6 eI (n, cl_f f I P M H Y Z) := by
  obtain ⟨c1, c2, c3, c4, c5, c6, c7, c8, c9, c10, c11, c12⟩ := id hok
  obtain ⟨⟨hm1, hm1'⟩, hm2, hm3, hmJ, hmF, hmT⟩ := id c8
  obtain ⟨hbat, hbok, hbne⟩ := id c6
  obtain ⟨bw, bkq, bfq, hb0, hb1, hb2, hbw, ⟨hbd, -, -⟩, -⟩ := id hbat
  obtain ⟨⟨hw1, hw2⟩, hh1, hh2⟩ := id c5
  refine ji_ent (by decide) rfl (Nat.le_of_ble_eq_true rfl) rfl ?_
  refine ji_aload_n dX7_annotate_0 rfl trivial ?_
  refine ji_iload_n dX7_annotate_1 rfl ?_
  refine ji_iload_n dX7_annotate_2 rfl ?_
  exact ji_cVx dX7_annotate_3 (x_checkOffset1 hok b_v b_o hv hx) rfl (cl_0h) rfl rfl wX7_checkOffset vX7_checkOffset lX7_189 rfl (Nat.le_of_ble_eq_true rfl) rfl (by omega) (by omega)

set_option maxHeartbeats 4000000 in
set_option maxRecDepth 100000 in
theorem x_annotate2 (hok : cl_ok n f I P M H Y Z B NT SB) {v o m c : Int} (b_v : -2147483648 ≤ v ∧ v < 2147483648) (b_o : -2147483648 ≤ o ∧ o < 2147483648) (b_m : -2147483648 ≤ m ∧ m < 2147483648) (b_c : -2147483648 ≤ c ∧ c < 2147483648) (hv : 0 ≤ v ∧ v < bk_P B) (hx : 0 ≤ o ∧ o < bk_end B v - bk_start B v) (hy : m ≤ o ∨ bk_end B v - bk_start B v < m) : JX G (d + 6) mX7_annotate [.ref 0, .int (jI (v)), .int (jI (o)), .int (jI (m)), .int (jI (c))] (n, cl_f f I P M H Y Z) 1 6 eI (n, cl_f f I P M H Y Z) := by
  obtain ⟨c1, c2, c3, c4, c5, c6, c7, c8, c9, c10, c11, c12⟩ := id hok
  obtain ⟨⟨hm1, hm1'⟩, hm2, hm3, hmJ, hmF, hmT⟩ := id c8
  obtain ⟨hbat, hbok, hbne⟩ := id c6
  obtain ⟨bw, bkq, bfq, hb0, hb1, hb2, hbw, ⟨hbd, -, -⟩, -⟩ := id hbat
  obtain ⟨⟨hw1, hw2⟩, hh1, hh2⟩ := id c5
  have hP10 := hbok.2.1
  have hbs := bk_st_b hbok v
  have hbe := bk_en_b hbok v
  refine ji_ent (by decide) rfl (Nat.le_of_ble_eq_true rfl) rfl ?_
  refine ji_aload_n dX7_annotate_0 rfl trivial ?_
  refine ji_iload_n dX7_annotate_1 rfl ?_
  refine ji_iload_n dX7_annotate_2 rfl ?_
  refine ji_cVv dX7_annotate_3 (k_checkOffset hok b_v b_o hv hx) rfl (cl_0h) rfl rfl wX7_checkOffset vX7_checkOffset lX7_189 rfl (Nat.le_of_ble_eq_true rfl) rfl ?_
  refine ji_iload_n dX7_annotate_6 rfl ?_
  refine ji_iload_n dX7_annotate_7 rfl ?_
  refine ji_icmp_le (tgt := 23) dX7_annotate_8 rfl (by omega) (by omega) (fun c8 => ?_) (fun c8 => ?_)
  · try (exfalso; omega)
    all_goals
      exact ji_throw (text := "the text has no such offsets") ji_thrI rfl (by decide) rfl dX7_annotate_23 dX7_annotate_26 dX7_annotate_27 dX7_annotate_29 dX7_annotate_32 (by omega) (by omega) (Nat.le_of_ble_eq_true rfl) ⟨rfl, rfl⟩
  · try (exfalso; omega)
    all_goals
      refine ji_iload_n dX7_annotate_11 rfl ?_
      refine ji_aload_n dX7_annotate_12 rfl trivial ?_
      refine ji_get (ci := 7) (k := 5) rfl dX7_annotate_13 lX7_41 (by decide) (cl_0h) rfl ?_
      refine ji_iload_n dX7_annotate_16 rfl ?_
      refine ji_cV dX7_annotate_17 (k_Book_lengthOf (hbat.kept cl_kf) hbok (by omega)) rfl ((cl_dh hbd).trans hb0) rfl rfl wX0_lengthOf vX0_lengthOf lX7_249 rfl (Nat.le_of_ble_eq_true rfl) rfl ?_
      refine ji_icmp_le (tgt := 33) dX7_annotate_20 rfl (by omega) (by omega) (fun c20 => ?_) (fun c20 => ?_)
      · try (exfalso; omega)
        all_goals
          refine ji_iload dX7_annotate_33 rfl ?_
          refine ji_if_lt (tgt := 45) dX7_annotate_35 rfl (by omega) (fun c35 => ?_) (fun c35 => ?_)
          · try (exfalso; omega)
            all_goals
              exact ji_throw (text := "color is out of range") ji_thrA rfl (by decide) rfl dX7_annotate_45 dX7_annotate_48 dX7_annotate_49 dX7_annotate_51 dX7_annotate_54 (by omega) (by omega) (Nat.le_of_ble_eq_true rfl) ⟨rfl, rfl⟩
          · try (exfalso; omega)
            all_goals
              refine ji_iload dX7_annotate_38 rfl ?_
              refine ji_bipush dX7_annotate_40 rfl ?_
              refine ji_icmp_lt (tgt := 55) dX7_annotate_42 rfl (by omega) (by omega) (fun c42 => ?_) (fun c42 => ?_)
              · try (exfalso; omega)
                all_goals
                  refine ji_aload_n dX7_annotate_55 rfl trivial ?_
                  refine ji_get (ci := 7) (k := 6) rfl dX7_annotate_56 lX7_48 (by decide) (cl_0h) rfl ?_
                  refine ji_cV dX7_annotate_59 (cl_jMs k_Marks_annotations) rfl (cl_12h) rfl rfl wX4_annotations vX4_annotations lX7_256 rfl (Nat.le_of_ble_eq_true rfl) rfl ?_
                  refine ji_bipush dX7_annotate_62 rfl ?_
                  refine ji_icmp_lt (tgt := 78) dX7_annotate_64 rfl (by omega) (by omega) (fun c64 => ?_) (fun c64 => ?_)
                  · try (exfalso; omega)
                    all_goals
                      refine ji_aload_n dX7_annotate_78 rfl trivial ?_
                      refine ji_get (ci := 7) (k := 5) rfl dX7_annotate_79 lX7_41 (by decide) (cl_0h) rfl ?_
                      refine ji_iload_n dX7_annotate_82 rfl ?_
                      refine ji_cV dX7_annotate_83 (k_Book_startOf (hbat.kept cl_kf) hbok (by omega)) rfl ((cl_dh hbd).trans hb0) rfl rfl wX0_startOf vX0_startOf lX7_192 rfl (Nat.le_of_ble_eq_true rfl) rfl ?_
                      refine ji_istore dX7_annotate_86 (by decide) rfl ?_
                      refine ji_aload_n dX7_annotate_88 rfl trivial ?_
                      refine ji_get (ci := 7) (k := 6) rfl dX7_annotate_89 lX7_48 (by decide) (cl_0h) rfl ?_
                      refine ji_iload dX7_annotate_92 rfl ?_
                      refine ji_iload_n dX7_annotate_94 rfl ?_
                      refine ji_iadd dX7_annotate_95 ?_
                      refine ji_iload dX7_annotate_96 rfl ?_
                      refine ji_iload_n dX7_annotate_98 rfl ?_
                      refine ji_iadd dX7_annotate_99 ?_
                      refine ji_iload dX7_annotate_100 rfl ?_
                      fail "no contract for Marks.addAnnotation at 102"
                  · try (exfalso; omega)
                    all_goals
                      exact ji_throwW (text := "there are 12 annotations") ji_thrS rfl (by decide) rfl dX7_annotate_67 dX7_annotate_70 dX7_annotate_71 dX7_annotate_74 dX7_annotate_77 (by omega) (by omega) (Nat.le_of_ble_eq_true rfl) ⟨rfl, rfl⟩
              · try (exfalso; omega)
                all_goals
                  exact ji_throw (text := "color is out of range") ji_thrA rfl (by decide) rfl dX7_annotate_45 dX7_annotate_48 dX7_annotate_49 dX7_annotate_51 dX7_annotate_54 (by omega) (by omega) (Nat.le_of_ble_eq_true rfl) ⟨rfl, rfl⟩
      · try (exfalso; omega)
        all_goals
          exact ji_throw (text := "the text has no such offsets") ji_thrI rfl (by decide) rfl dX7_annotate_23 dX7_annotate_26 dX7_annotate_27 dX7_annotate_29 dX7_annotate_32 (by omega) (by omega) (Nat.le_of_ble_eq_true rfl) ⟨rfl, rfl⟩

set_option maxHeartbeats 4000000 in
set_option maxRecDepth 100000 in
theorem x_annotate3 (hok : cl_ok n f I P M H Y Z B NT SB) {v o m c : Int} (b_v : -2147483648 ≤ v ∧ v < 2147483648) (b_o : -2147483648 ≤ o ∧ o < 2147483648) (b_m : -2147483648 ≤ m ∧ m < 2147483648) (b_c : -2147483648 ≤ c ∧ c < 2147483648) (hv : 0 ≤ v ∧ v < bk_P B) (hx : 0 ≤ o ∧ o < bk_end B v - bk_start B v) (hy : o < m ∧ m ≤ bk_end B v - bk_start B v) (hz : c < 0 ∨ 8 ≤ c) : JX G (d + 6) mX7_annotate [.ref 0, .int (jI (v)), .int (jI (o)), .int (jI (m)), .int (jI (c))] (n, cl_f f I P M H Y Z) 1 6 eA (n, cl_f f I P M H Y Z) := by
  obtain ⟨c1, c2, c3, c4, c5, c6, c7, c8, c9, c10, c11, c12⟩ := id hok
  obtain ⟨⟨hm1, hm1'⟩, hm2, hm3, hmJ, hmF, hmT⟩ := id c8
  obtain ⟨hbat, hbok, hbne⟩ := id c6
  obtain ⟨bw, bkq, bfq, hb0, hb1, hb2, hbw, ⟨hbd, -, -⟩, -⟩ := id hbat
  obtain ⟨⟨hw1, hw2⟩, hh1, hh2⟩ := id c5
  have hP10 := hbok.2.1
  have hbs := bk_st_b hbok v
  have hbe := bk_en_b hbok v
  refine ji_ent (by decide) rfl (Nat.le_of_ble_eq_true rfl) rfl ?_
  refine ji_aload_n dX7_annotate_0 rfl trivial ?_
  refine ji_iload_n dX7_annotate_1 rfl ?_
  refine ji_iload_n dX7_annotate_2 rfl ?_
  refine ji_cVv dX7_annotate_3 (k_checkOffset hok b_v b_o hv hx) rfl (cl_0h) rfl rfl wX7_checkOffset vX7_checkOffset lX7_189 rfl (Nat.le_of_ble_eq_true rfl) rfl ?_
  refine ji_iload_n dX7_annotate_6 rfl ?_
  refine ji_iload_n dX7_annotate_7 rfl ?_
  refine ji_icmp_le (tgt := 23) dX7_annotate_8 rfl (by omega) (by omega) (fun c8 => ?_) (fun c8 => ?_)
  · try (exfalso; omega)
    all_goals
      exact ji_throw (text := "the text has no such offsets") ji_thrI rfl (by decide) rfl dX7_annotate_23 dX7_annotate_26 dX7_annotate_27 dX7_annotate_29 dX7_annotate_32 (by omega) (by omega) (Nat.le_of_ble_eq_true rfl) ⟨rfl, rfl⟩
  · try (exfalso; omega)
    all_goals
      refine ji_iload_n dX7_annotate_11 rfl ?_
      refine ji_aload_n dX7_annotate_12 rfl trivial ?_
      refine ji_get (ci := 7) (k := 5) rfl dX7_annotate_13 lX7_41 (by decide) (cl_0h) rfl ?_
      refine ji_iload_n dX7_annotate_16 rfl ?_
      refine ji_cV dX7_annotate_17 (k_Book_lengthOf (hbat.kept cl_kf) hbok (by omega)) rfl ((cl_dh hbd).trans hb0) rfl rfl wX0_lengthOf vX0_lengthOf lX7_249 rfl (Nat.le_of_ble_eq_true rfl) rfl ?_
      refine ji_icmp_le (tgt := 33) dX7_annotate_20 rfl (by omega) (by omega) (fun c20 => ?_) (fun c20 => ?_)
      · try (exfalso; omega)
        all_goals
          refine ji_iload dX7_annotate_33 rfl ?_
          refine ji_if_lt (tgt := 45) dX7_annotate_35 rfl (by omega) (fun c35 => ?_) (fun c35 => ?_)
          · try (exfalso; omega)
            all_goals
              exact ji_throw (text := "color is out of range") ji_thrA rfl (by decide) rfl dX7_annotate_45 dX7_annotate_48 dX7_annotate_49 dX7_annotate_51 dX7_annotate_54 (by omega) (by omega) (Nat.le_of_ble_eq_true rfl) ⟨rfl, rfl⟩
          · try (exfalso; omega)
            all_goals
              refine ji_iload dX7_annotate_38 rfl ?_
              refine ji_bipush dX7_annotate_40 rfl ?_
              refine ji_icmp_lt (tgt := 55) dX7_annotate_42 rfl (by omega) (by omega) (fun c42 => ?_) (fun c42 => ?_)
              · try (exfalso; omega)
                all_goals
                  refine ji_aload_n dX7_annotate_55 rfl trivial ?_
                  refine ji_get (ci := 7) (k := 6) rfl dX7_annotate_56 lX7_48 (by decide) (cl_0h) rfl ?_
                  refine ji_cV dX7_annotate_59 (cl_jMs k_Marks_annotations) rfl (cl_12h) rfl rfl wX4_annotations vX4_annotations lX7_256 rfl (Nat.le_of_ble_eq_true rfl) rfl ?_
                  refine ji_bipush dX7_annotate_62 rfl ?_
                  refine ji_icmp_lt (tgt := 78) dX7_annotate_64 rfl (by omega) (by omega) (fun c64 => ?_) (fun c64 => ?_)
                  · try (exfalso; omega)
                    all_goals
                      refine ji_aload_n dX7_annotate_78 rfl trivial ?_
                      refine ji_get (ci := 7) (k := 5) rfl dX7_annotate_79 lX7_41 (by decide) (cl_0h) rfl ?_
                      refine ji_iload_n dX7_annotate_82 rfl ?_
                      refine ji_cV dX7_annotate_83 (k_Book_startOf (hbat.kept cl_kf) hbok (by omega)) rfl ((cl_dh hbd).trans hb0) rfl rfl wX0_startOf vX0_startOf lX7_192 rfl (Nat.le_of_ble_eq_true rfl) rfl ?_
                      refine ji_istore dX7_annotate_86 (by decide) rfl ?_
                      refine ji_aload_n dX7_annotate_88 rfl trivial ?_
                      refine ji_get (ci := 7) (k := 6) rfl dX7_annotate_89 lX7_48 (by decide) (cl_0h) rfl ?_
                      refine ji_iload dX7_annotate_92 rfl ?_
                      refine ji_iload_n dX7_annotate_94 rfl ?_
                      refine ji_iadd dX7_annotate_95 ?_
                      refine ji_iload dX7_annotate_96 rfl ?_
                      refine ji_iload_n dX7_annotate_98 rfl ?_
                      refine ji_iadd dX7_annotate_99 ?_
                      refine ji_iload dX7_annotate_100 rfl ?_
                      fail "no contract for Marks.addAnnotation at 102"
                  · try (exfalso; omega)
                    all_goals
                      exact ji_throwW (text := "there are 12 annotations") ji_thrS rfl (by decide) rfl dX7_annotate_67 dX7_annotate_70 dX7_annotate_71 dX7_annotate_74 dX7_annotate_77 (by omega) (by omega) (Nat.le_of_ble_eq_true rfl) ⟨rfl, rfl⟩
              · try (exfalso; omega)
                all_goals
                  exact ji_throw (text := "color is out of range") ji_thrA rfl (by decide) rfl dX7_annotate_45 dX7_annotate_48 dX7_annotate_49 dX7_annotate_51 dX7_annotate_54 (by omega) (by omega) (Nat.le_of_ble_eq_true rfl) ⟨rfl, rfl⟩
      · try (exfalso; omega)
        all_goals
          exact ji_throw (text := "the text has no such offsets") ji_thrI rfl (by decide) rfl dX7_annotate_23 dX7_annotate_26 dX7_annotate_27 dX7_annotate_29 dX7_annotate_32 (by omega) (by omega) (Nat.le_of_ble_eq_true rfl) ⟨rfl, rfl⟩

set_option maxHeartbeats 4000000 in
set_option maxRecDepth 100000 in
theorem x_annotate4 (hok : cl_ok n f I P M H Y Z B NT SB) {v o m c : Int} (b_v : -2147483648 ≤ v ∧ v < 2147483648) (b_o : -2147483648 ≤ o ∧ o < 2147483648) (b_m : -2147483648 ≤ m ∧ m < 2147483648) (b_c : -2147483648 ≤ c ∧ c < 2147483648) (hv : 0 ≤ v ∧ v < bk_P B) (hx : 0 ≤ o ∧ o < bk_end B v - bk_start B v) (hy : o < m ∧ m ≤ bk_end B v - bk_start B v) (hz : 0 ≤ c ∧ c < 8) (hw : M.2.2.1 = 12) : JX G (d + 6) mX7_annotate [.ref 0, .int (jI (v)), .int (jI (o)), .int (jI (m)), .int (jI (c))] (n, cl_f f I P M H Y Z) 1 6 eS (n, cl_f f I P M H Y Z) := by
  obtain ⟨c1, c2, c3, c4, c5, c6, c7, c8, c9, c10, c11, c12⟩ := id hok
  obtain ⟨⟨hm1, hm1'⟩, hm2, hm3, hmJ, hmF, hmT⟩ := id c8
  obtain ⟨hbat, hbok, hbne⟩ := id c6
  obtain ⟨bw, bkq, bfq, hb0, hb1, hb2, hbw, ⟨hbd, -, -⟩, -⟩ := id hbat
  obtain ⟨⟨hw1, hw2⟩, hh1, hh2⟩ := id c5
  have hP10 := hbok.2.1
  have hbs := bk_st_b hbok v
  have hbe := bk_en_b hbok v
  refine ji_ent (by decide) rfl (Nat.le_of_ble_eq_true rfl) rfl ?_
  refine ji_aload_n dX7_annotate_0 rfl trivial ?_
  refine ji_iload_n dX7_annotate_1 rfl ?_
  refine ji_iload_n dX7_annotate_2 rfl ?_
  refine ji_cVv dX7_annotate_3 (k_checkOffset hok b_v b_o hv hx) rfl (cl_0h) rfl rfl wX7_checkOffset vX7_checkOffset lX7_189 rfl (Nat.le_of_ble_eq_true rfl) rfl ?_
  refine ji_iload_n dX7_annotate_6 rfl ?_
  refine ji_iload_n dX7_annotate_7 rfl ?_
  refine ji_icmp_le (tgt := 23) dX7_annotate_8 rfl (by omega) (by omega) (fun c8 => ?_) (fun c8 => ?_)
  · try (exfalso; omega)
    all_goals
      exact ji_throw (text := "the text has no such offsets") ji_thrI rfl (by decide) rfl dX7_annotate_23 dX7_annotate_26 dX7_annotate_27 dX7_annotate_29 dX7_annotate_32 (by omega) (by omega) (Nat.le_of_ble_eq_true rfl) ⟨rfl, rfl⟩
  · try (exfalso; omega)
    all_goals
      refine ji_iload_n dX7_annotate_11 rfl ?_
      refine ji_aload_n dX7_annotate_12 rfl trivial ?_
      refine ji_get (ci := 7) (k := 5) rfl dX7_annotate_13 lX7_41 (by decide) (cl_0h) rfl ?_
      refine ji_iload_n dX7_annotate_16 rfl ?_
      refine ji_cV dX7_annotate_17 (k_Book_lengthOf (hbat.kept cl_kf) hbok (by omega)) rfl ((cl_dh hbd).trans hb0) rfl rfl wX0_lengthOf vX0_lengthOf lX7_249 rfl (Nat.le_of_ble_eq_true rfl) rfl ?_
      refine ji_icmp_le (tgt := 33) dX7_annotate_20 rfl (by omega) (by omega) (fun c20 => ?_) (fun c20 => ?_)
      · try (exfalso; omega)
        all_goals
          refine ji_iload dX7_annotate_33 rfl ?_
          refine ji_if_lt (tgt := 45) dX7_annotate_35 rfl (by omega) (fun c35 => ?_) (fun c35 => ?_)
          · try (exfalso; omega)
            all_goals
              exact ji_throw (text := "color is out of range") ji_thrA rfl (by decide) rfl dX7_annotate_45 dX7_annotate_48 dX7_annotate_49 dX7_annotate_51 dX7_annotate_54 (by omega) (by omega) (Nat.le_of_ble_eq_true rfl) ⟨rfl, rfl⟩
          · try (exfalso; omega)
            all_goals
              refine ji_iload dX7_annotate_38 rfl ?_
              refine ji_bipush dX7_annotate_40 rfl ?_
              refine ji_icmp_lt (tgt := 55) dX7_annotate_42 rfl (by omega) (by omega) (fun c42 => ?_) (fun c42 => ?_)
              · try (exfalso; omega)
                all_goals
                  refine ji_aload_n dX7_annotate_55 rfl trivial ?_
                  refine ji_get (ci := 7) (k := 6) rfl dX7_annotate_56 lX7_48 (by decide) (cl_0h) rfl ?_
                  refine ji_cV dX7_annotate_59 (cl_jMs k_Marks_annotations) rfl (cl_12h) rfl rfl wX4_annotations vX4_annotations lX7_256 rfl (Nat.le_of_ble_eq_true rfl) rfl ?_
                  refine ji_bipush dX7_annotate_62 rfl ?_
                  refine ji_icmp_lt (tgt := 78) dX7_annotate_64 rfl (by omega) (by omega) (fun c64 => ?_) (fun c64 => ?_)
                  · try (exfalso; omega)
                    all_goals
                      refine ji_aload_n dX7_annotate_78 rfl trivial ?_
                      refine ji_get (ci := 7) (k := 5) rfl dX7_annotate_79 lX7_41 (by decide) (cl_0h) rfl ?_
                      refine ji_iload_n dX7_annotate_82 rfl ?_
                      refine ji_cV dX7_annotate_83 (k_Book_startOf (hbat.kept cl_kf) hbok (by omega)) rfl ((cl_dh hbd).trans hb0) rfl rfl wX0_startOf vX0_startOf lX7_192 rfl (Nat.le_of_ble_eq_true rfl) rfl ?_
                      refine ji_istore dX7_annotate_86 (by decide) rfl ?_
                      refine ji_aload_n dX7_annotate_88 rfl trivial ?_
                      refine ji_get (ci := 7) (k := 6) rfl dX7_annotate_89 lX7_48 (by decide) (cl_0h) rfl ?_
                      refine ji_iload dX7_annotate_92 rfl ?_
                      refine ji_iload_n dX7_annotate_94 rfl ?_
                      refine ji_iadd dX7_annotate_95 ?_
                      refine ji_iload dX7_annotate_96 rfl ?_
                      refine ji_iload_n dX7_annotate_98 rfl ?_
                      refine ji_iadd dX7_annotate_99 ?_
                      refine ji_iload dX7_annotate_100 rfl ?_
                      fail "no contract for Marks.addAnnotation at 102"
                  · try (exfalso; omega)
                    all_goals
                      exact ji_throwW (text := "there are 12 annotations") ji_thrS rfl (by decide) rfl dX7_annotate_67 dX7_annotate_70 dX7_annotate_71 dX7_annotate_74 dX7_annotate_77 (by omega) (by omega) (Nat.le_of_ble_eq_true rfl) ⟨rfl, rfl⟩
              · try (exfalso; omega)
                all_goals
                  exact ji_throw (text := "color is out of range") ji_thrA rfl (by decide) rfl dX7_annotate_45 dX7_annotate_48 dX7_annotate_49 dX7_annotate_51 dX7_annotate_54 (by omega) (by omega) (Nat.le_of_ble_eq_true rfl) ⟨rfl, rfl⟩
      · try (exfalso; omega)
        all_goals
          exact ji_throw (text := "the text has no such offsets") ji_thrI rfl (by decide) rfl dX7_annotate_23 dX7_annotate_26 dX7_annotate_27 dX7_annotate_29 dX7_annotate_32 (by omega) (by omega) (Nat.le_of_ble_eq_true rfl) ⟨rfl, rfl⟩

set_option maxHeartbeats 4000000 in
set_option maxRecDepth 100000 in
theorem k_annotate (hok : cl_ok n f I P M H Y Z B NT SB) {v o m c : Int} (b_v : -2147483648 ≤ v ∧ v < 2147483648) (b_o : -2147483648 ≤ o ∧ o < 2147483648) (b_m : -2147483648 ≤ m ∧ m < 2147483648) (b_c : -2147483648 ≤ c ∧ c < 2147483648) (hv : 0 ≤ v ∧ v < bk_P B) (hx : 0 ≤ o ∧ o < bk_end B v - bk_start B v) (hy : o < m ∧ m ≤ bk_end B v - bk_start B v) (hz : 0 ≤ c ∧ c < 8) (hw : M.2.2.1 < 12) : JR G (d + 4) mX7_annotate [.ref 0, .int (jI (v)), .int (jI (o)), .int (jI (m)), .int (jI (c))] (n, cl_f f I P M H Y Z) 0 0 (some (.int (jI (M.2.2.1)))) (n, cl_f f I P (M.1, M.2.1, M.2.2.1 + 1, M.2.2.2.1, va_up M.2.2.2.2.1 M.2.2.1.toNat (bk_start B v + o), va_up M.2.2.2.2.2.1 M.2.2.1.toNat (bk_start B v + m), va_up M.2.2.2.2.2.2 M.2.2.1.toNat c) H Y Z) := by
  obtain ⟨c1, c2, c3, c4, c5, c6, c7, c8, c9, c10, c11, c12⟩ := id hok
  obtain ⟨⟨hm1, hm1'⟩, hm2, hm3, hmJ, hmF, hmT⟩ := id c8
  obtain ⟨hbat, hbok, hbne⟩ := id c6
  obtain ⟨bw, bkq, bfq, hb0, hb1, hb2, hbw, ⟨hbd, -, -⟩, -⟩ := id hbat
  obtain ⟨⟨hw1, hw2⟩, hh1, hh2⟩ := id c5
  have hP10 := hbok.2.1
  have hbs := bk_st_b hbok v
  have hbe := bk_en_b hbok v
  refine ji_ent (by decide) rfl (Nat.le_of_ble_eq_true rfl) rfl ?_
  refine ji_aload_n dX7_annotate_0 rfl trivial ?_
  refine ji_iload_n dX7_annotate_1 rfl ?_
  refine ji_iload_n dX7_annotate_2 rfl ?_
  refine ji_cVv dX7_annotate_3 (k_checkOffset hok b_v b_o hv hx) rfl (cl_0h) rfl rfl wX7_checkOffset vX7_checkOffset lX7_189 rfl (Nat.le_of_ble_eq_true rfl) rfl ?_
  refine ji_iload_n dX7_annotate_6 rfl ?_
  refine ji_iload_n dX7_annotate_7 rfl ?_
  refine ji_icmp_le (tgt := 23) dX7_annotate_8 rfl (by omega) (by omega) (fun c8 => ?_) (fun c8 => ?_)
  · try (exfalso; omega)
    all_goals
      exact ji_throw (text := "the text has no such offsets") ji_thrI rfl (by decide) rfl dX7_annotate_23 dX7_annotate_26 dX7_annotate_27 dX7_annotate_29 dX7_annotate_32 (by omega) (by omega) (Nat.le_of_ble_eq_true rfl) ⟨jr_i (by first | rfl | omega), rfl⟩
  · try (exfalso; omega)
    all_goals
      refine ji_iload_n dX7_annotate_11 rfl ?_
      refine ji_aload_n dX7_annotate_12 rfl trivial ?_
      refine ji_get (ci := 7) (k := 5) rfl dX7_annotate_13 lX7_41 (by decide) (cl_0h) rfl ?_
      refine ji_iload_n dX7_annotate_16 rfl ?_
      refine ji_cV dX7_annotate_17 (k_Book_lengthOf (hbat.kept cl_kf) hbok (by omega)) rfl ((cl_dh hbd).trans hb0) rfl rfl wX0_lengthOf vX0_lengthOf lX7_249 rfl (Nat.le_of_ble_eq_true rfl) rfl ?_
      refine ji_icmp_le (tgt := 33) dX7_annotate_20 rfl (by omega) (by omega) (fun c20 => ?_) (fun c20 => ?_)
      · try (exfalso; omega)
        all_goals
          refine ji_iload dX7_annotate_33 rfl ?_
          refine ji_if_lt (tgt := 45) dX7_annotate_35 rfl (by omega) (fun c35 => ?_) (fun c35 => ?_)
          · try (exfalso; omega)
            all_goals
              exact ji_throw (text := "color is out of range") ji_thrA rfl (by decide) rfl dX7_annotate_45 dX7_annotate_48 dX7_annotate_49 dX7_annotate_51 dX7_annotate_54 (by omega) (by omega) (Nat.le_of_ble_eq_true rfl) ⟨jr_i (by first | rfl | omega), rfl⟩
          · try (exfalso; omega)
            all_goals
              refine ji_iload dX7_annotate_38 rfl ?_
              refine ji_bipush dX7_annotate_40 rfl ?_
              refine ji_icmp_lt (tgt := 55) dX7_annotate_42 rfl (by omega) (by omega) (fun c42 => ?_) (fun c42 => ?_)
              · try (exfalso; omega)
                all_goals
                  refine ji_aload_n dX7_annotate_55 rfl trivial ?_
                  refine ji_get (ci := 7) (k := 6) rfl dX7_annotate_56 lX7_48 (by decide) (cl_0h) rfl ?_
                  refine ji_cV dX7_annotate_59 (cl_jMs k_Marks_annotations) rfl (cl_12h) rfl rfl wX4_annotations vX4_annotations lX7_256 rfl (Nat.le_of_ble_eq_true rfl) rfl ?_
                  refine ji_bipush dX7_annotate_62 rfl ?_
                  refine ji_icmp_lt (tgt := 78) dX7_annotate_64 rfl (by omega) (by omega) (fun c64 => ?_) (fun c64 => ?_)
                  · try (exfalso; omega)
                    all_goals
                      refine ji_aload_n dX7_annotate_78 rfl trivial ?_
                      refine ji_get (ci := 7) (k := 5) rfl dX7_annotate_79 lX7_41 (by decide) (cl_0h) rfl ?_
                      refine ji_iload_n dX7_annotate_82 rfl ?_
                      refine ji_cV dX7_annotate_83 (k_Book_startOf (hbat.kept cl_kf) hbok (by omega)) rfl ((cl_dh hbd).trans hb0) rfl rfl wX0_startOf vX0_startOf lX7_192 rfl (Nat.le_of_ble_eq_true rfl) rfl ?_
                      refine ji_istore dX7_annotate_86 (by decide) rfl ?_
                      refine ji_aload_n dX7_annotate_88 rfl trivial ?_
                      refine ji_get (ci := 7) (k := 6) rfl dX7_annotate_89 lX7_48 (by decide) (cl_0h) rfl ?_
                      refine ji_iload dX7_annotate_92 rfl ?_
                      refine ji_iload_n dX7_annotate_94 rfl ?_
                      refine ji_iadd dX7_annotate_95 ?_
                      refine ji_iload dX7_annotate_96 rfl ?_
                      refine ji_iload_n dX7_annotate_98 rfl ?_
                      refine ji_iadd dX7_annotate_99 ?_
                      refine ji_iload dX7_annotate_100 rfl ?_
                      refine ji_cV dX7_annotate_102 (cl_jM (M.1, M.2.1, M.2.2.1 + 1, M.2.2.2.1, va_up M.2.2.2.2.1 M.2.2.1.toNat (bk_start B v + o), va_up M.2.2.2.2.2.1 M.2.2.1.toNat (bk_start B v + m), va_up M.2.2.2.2.2.2 M.2.2.1.toNat c) (k_Marks_addAnnotation (by omega))) rfl (cl_12h) rfl rfl wX4_addAnnotation vX4_addAnnotation lX7_261 rfl (Nat.le_of_ble_eq_true rfl) rfl ?_
                      exact ji_ireturn dX7_annotate_105 rfl (rfl) ⟨jr_i (by first | rfl | omega), rfl⟩
                  · try (exfalso; omega)
                    all_goals
                      exact ji_throwW (text := "there are 12 annotations") ji_thrS rfl (by decide) rfl dX7_annotate_67 dX7_annotate_70 dX7_annotate_71 dX7_annotate_74 dX7_annotate_77 (by omega) (by omega) (Nat.le_of_ble_eq_true rfl) ⟨jr_i (by first | rfl | omega), rfl⟩
              · try (exfalso; omega)
                all_goals
                  exact ji_throw (text := "color is out of range") ji_thrA rfl (by decide) rfl dX7_annotate_45 dX7_annotate_48 dX7_annotate_49 dX7_annotate_51 dX7_annotate_54 (by omega) (by omega) (Nat.le_of_ble_eq_true rfl) ⟨jr_i (by first | rfl | omega), rfl⟩
      · try (exfalso; omega)
        all_goals
          exact ji_throw (text := "the text has no such offsets") ji_thrI rfl (by decide) rfl dX7_annotate_23 dX7_annotate_26 dX7_annotate_27 dX7_annotate_29 dX7_annotate_32 (by omega) (by omega) (Nat.le_of_ble_eq_true rfl) ⟨jr_i (by first | rfl | omega), rfl⟩

set_option maxHeartbeats 4000000 in
set_option maxRecDepth 100000 in
theorem x_undo (hok : cl_ok n f I P M H Y Z B NT SB) (hx : H.1 = 0) : JX G (d + 6) mX7_undo [.ref 0] (n, cl_f f I P M H Y Z) 1 6 eS (n, cl_f f I P M H Y Z) := by
  obtain ⟨c1, c2, c3, c4, c5, c6, c7, c8, c9, c10, c11, c12⟩ := id hok
  obtain ⟨⟨hm1, hm1'⟩, hm2, hm3, hmJ, hmF, hmT⟩ := id c8
  obtain ⟨hbat, hbok, hbne⟩ := id c6
  obtain ⟨bw, bkq, bfq, hb0, hb1, hb2, hbw, ⟨hbd, -, -⟩, -⟩ := id hbat
  obtain ⟨⟨hw1, hw2⟩, hh1, hh2⟩ := id c5
  refine ji_ent (by decide) rfl (Nat.le_of_ble_eq_true rfl) rfl ?_
  refine ji_aload_n dX7_undo_0 rfl trivial ?_
  refine ji_get (ci := 7) (k := 7) rfl dX7_undo_1 lX7_55 (by decide) (cl_0h) rfl ?_
  refine ji_cV dX7_undo_4 (cl_jHs (k_History_latestBookN hx)) rfl (cl_17h) rfl rfl wX1_latestBook vX1_latestBook lX7_333 rfl (Nat.le_of_ble_eq_true rfl) rfl ?_
  refine ji_astore_n dX7_undo_7 (by decide) trivial rfl ?_
  refine ji_aload_n dX7_undo_8 rfl trivial ?_
  refine ji_ifnonnullN dX7_undo_9 ?_
  exact ji_throwW (text := "no edit can be undone") ji_thrS rfl (by decide) rfl dX7_undo_12 dX7_undo_15 dX7_undo_16 dX7_undo_19 dX7_undo_22 (by omega) (by omega) (Nat.le_of_ble_eq_true rfl) ⟨rfl, rfl⟩

set_option maxHeartbeats 4000000 in
set_option maxRecDepth 100000 in
theorem k_undo (hok : cl_ok n f I P M H Y Z B NT SB) (hx : 0 < H.1) {b2 : Nat} (hbb : H.2.1 (H.1 - 1).toNat = some b2) : JR G (d + 3) mX7_undo [.ref 0] (n, cl_f f I P M H Y Z) 0 0 (some (.int (jI (H.1 - 1)))) (n, cl_f f I (P.1, P.2.1, P.2.2.1, P.2.2.2.1, b2, 1) (mk_cp M (H.2.2.2 (H.2.2.1 (H.1 - 1).toNat))) (H.1 - 1, H.2) Y Z) := by
  obtain ⟨c1, c2, c3, c4, c5, c6, c7, c8, c9, c10, c11, c12⟩ := id hok
  obtain ⟨⟨hm1, hm1'⟩, hm2, hm3, hmJ, hmF, hmT⟩ := id c8
  obtain ⟨hbat, hbok, hbne⟩ := id c6
  obtain ⟨bw, bkq, bfq, hb0, hb1, hb2, hbw, ⟨hbd, -, -⟩, -⟩ := id hbat
  obtain ⟨⟨hw1, hw2⟩, hh1, hh2⟩ := id c5
  have hh1 := c9.1
  refine ji_ent (by decide) rfl (Nat.le_of_ble_eq_true rfl) rfl ?_
  refine ji_aload_n dX7_undo_0 rfl trivial ?_
  refine ji_get (ci := 7) (k := 7) rfl dX7_undo_1 lX7_55 (by decide) (cl_0h) rfl ?_
  refine ji_cV dX7_undo_4 (cl_jHs (k_History_latestBook (by omega) hbb)) rfl (cl_17h) rfl rfl wX1_latestBook vX1_latestBook lX7_333 rfl (Nat.le_of_ble_eq_true rfl) rfl ?_
  refine ji_astore_n dX7_undo_7 (by decide) trivial rfl ?_
  refine ji_aload_n dX7_undo_8 rfl trivial ?_
  refine ji_ifnonnull (tgt := 23) dX7_undo_9 rfl ?_
  refine ji_aload_n dX7_undo_23 rfl trivial ?_
  refine ji_aload_n dX7_undo_24 rfl trivial ?_
  refine ji_putE (ci := 7) (k := 5) rfl dX7_undo_25 lX7_41 (by decide) (cl_0h) (by simp [cl_c0]) (ji_fitO _ trivial) rfl (cl_pb) ?_
  refine ji_aload_n dX7_undo_28 rfl trivial ?_
  refine ji_get (ci := 7) (k := 7) rfl dX7_undo_29 lX7_55 (by decide) (cl_0h) rfl ?_
  refine ji_aload_n dX7_undo_32 rfl trivial ?_
  refine ji_get (ci := 7) (k := 6) rfl dX7_undo_33 lX7_48 (by decide) (cl_0h) rfl ?_
  refine ji_cVv dX7_undo_36 (c_bringBack c9 hx) rfl (cl_17h) rfl rfl wX1_bringBack vX1_bringBack lX7_338 rfl (Nat.le_of_ble_eq_true rfl) rfl ?_
  refine ji_aload_n dX7_undo_39 rfl trivial ?_
  refine ji_iconst dX7_undo_40 ?_
  refine ji_putE (ci := 7) (k := 10) rfl dX7_undo_41 lX7_71 (by decide) (cl_0h) (by simp [cl_c0]) (ji_fitZ (by first | omega | decide)) rfl (cl_ps) ?_
  refine ji_aload_n dX7_undo_44 rfl trivial ?_
  refine ji_get (ci := 7) (k := 7) rfl dX7_undo_45 lX7_55 (by decide) (cl_0h) rfl ?_
  refine ji_cV dX7_undo_48 (cl_jHs k_History_edits) rfl (cl_17h) rfl rfl wX1_edits vX1_edits lX7_342 rfl (Nat.le_of_ble_eq_true rfl) rfl ?_
  exact ji_ireturn dX7_undo_51 rfl (rfl) ⟨jr_i (by first | rfl | omega), rfl⟩


end PG
