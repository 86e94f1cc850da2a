/-- a row whose places below i are new -/
def ji_map (g o : Nat → Int) (i : Int) : Nat → Int := fun j => if (j : Int) < i then g j else o j
theorem ji_map_s {g o : Nat → Int} {i v : Int} (h0 : 0 ≤ i) (hv : v = g i.toNat) : va_up (ji_map g o i) i.toNat v = ji_map g o (i + 1) := by
  funext j
  unfold va_up ji_map
  by_cases hj : j = i.toNat
  · rw [if_pos hj, hv, hj, if_pos (by omega)]
  · rw [if_neg hj]
    by_cases q : (j : Int) < i
    · rw [if_pos q, if_pos (by omega)]
    · rw [if_neg q, if_neg (by omega)]
theorem ji_map_0 (g o : Nat → Int) : ji_map g o 0 = o := funext fun j => if_neg (by omega)
theorem ji_map_at {g o : Nat → Int} {i : Int} (h0 : 0 ≤ i) : ji_map g o i i.toNat = o i.toNat := if_neg (by omega)
def mk_op (p gap many : Int) : Int := if gap ≤ p then p + many else p
def mk_cl (p x y refuge : Int) : Int := if p < x then p else if y ≤ p then p - (y - x) else refuge
/-- the end of an annotation where characters come in -/
def mk_oT (F T : Nat → Int) (gap many : Int) (k : Nat) : Int := if T k = gap ∧ ¬ F k = gap then gap else mk_op (T k) gap many
def mk_cut (v blank : Int) : Int := if v = blank then blank - 1 else v
def mk_cT (F T : Nat → Int) (blank : Int) (k : Nat) : Int := if F k ≤ blank ∧ blank < T k then blank else T k
section MMarks2
variable {G : ji_G} {d n b : Nat} {f : Nat → ji_C} {r j a : Int} {J F T C : Nat → Int}

set_option maxHeartbeats 4000000 in
set_option maxRecDepth 100000 in
theorem k_Marks_opened {h : ji_H} {p gap many : Int} (b_p : -1000000 ≤ p ∧ p ≤ 1000000) (b_gap : -1000000 ≤ gap ∧ gap ≤ 1000000) : JR G d mX4_opened [.int (jI p), .int (jI gap), .int (jI many)] h 0 0 (some (.int (jI (mk_op p gap many)))) h := by
  refine ji_ent (by decide) rfl (Nat.le_of_ble_eq_true rfl) rfl ?_
  refine ji_iload_n dX4_opened_0 rfl ?_
  refine ji_iload_n dX4_opened_1 rfl ?_
  refine ji_icmp_gt (tgt := 11) dX4_opened_2 rfl (by omega) (by omega) (fun c2 => ?_) (fun c2 => ?_)
  · refine ji_iload_n dX4_opened_11 rfl ?_
    exact ji_ireturn dX4_opened_12 rfl (rfl) ⟨jr_i (by unfold mk_op; first | (rw [if_pos (by omega)] <;> omega) | (rw [if_neg (by omega)] <;> omega)), rfl⟩
  · refine ji_iload_n dX4_opened_5 rfl ?_
    refine ji_iload_n dX4_opened_6 rfl ?_
    refine ji_iadd dX4_opened_7 ?_
    refine ji_goto (tgt := 12) dX4_opened_8 rfl ?_
    exact ji_ireturn dX4_opened_12 rfl (rfl) ⟨jr_i (by unfold mk_op; first | (rw [if_pos (by omega)] <;> omega) | (rw [if_neg (by omega)] <;> omega)), rfl⟩

set_option maxHeartbeats 4000000 in
set_option maxRecDepth 100000 in
theorem k_Marks_closed {h : ji_H} {p xa ya refuge : Int} (b_p : -1000000 ≤ p ∧ p ≤ 1000000) (b_xa : -1000000 ≤ xa ∧ xa ≤ 1000000) (b_ya : -1000000 ≤ ya ∧ ya ≤ 1000000) : JR G d mX4_closed [.int (jI p), .int (jI xa), .int (jI ya), .int (jI refuge)] h 0 0 (some (.int (jI (mk_cl p xa ya refuge)))) h := by
  refine ji_ent (by decide) rfl (Nat.le_of_ble_eq_true rfl) rfl ?_
  refine ji_iload_n dX4_closed_0 rfl ?_
  refine ji_iload_n dX4_closed_1 rfl ?_
  refine ji_icmp_ge (tgt := 7) dX4_closed_2 rfl (by omega) (by omega) (fun c2 => ?_) (fun c2 => ?_)
  · refine ji_iload_n dX4_closed_7 rfl ?_
    refine ji_iload_n dX4_closed_8 rfl ?_
    refine ji_icmp_lt (tgt := 20) dX4_closed_9 rfl (by omega) (by omega) (fun c9 => ?_) (fun c9 => ?_)
    · refine ji_iload_n dX4_closed_20 rfl ?_
      exact ji_ireturn dX4_closed_21 rfl (rfl) ⟨jr_i (by unfold mk_cl; first | (rw [if_pos (by omega)]; done) | (rw [if_neg (by omega), if_pos (by omega)]; done) | (rw [if_neg (by omega), if_neg (by omega)]; done)), rfl⟩
    · refine ji_iload_n dX4_closed_12 rfl ?_
      refine ji_iload_n dX4_closed_13 rfl ?_
      refine ji_iload_n dX4_closed_14 rfl ?_
      refine ji_isub dX4_closed_15 ?_
      refine ji_isub dX4_closed_16 ?_
      refine ji_goto (tgt := 21) dX4_closed_17 rfl ?_
      exact ji_ireturn dX4_closed_21 rfl (rfl) ⟨jr_i (by unfold mk_cl; first | (rw [if_pos (by omega)]; done) | (rw [if_neg (by omega), if_pos (by omega)]; done) | (rw [if_neg (by omega), if_neg (by omega)]; done)), rfl⟩
  · refine ji_iload_n dX4_closed_5 rfl ?_
    exact ji_ireturn dX4_closed_6 rfl (rfl) ⟨jr_i (by unfold mk_cl; first | (rw [if_pos (by omega)]; done) | (rw [if_neg (by omega), if_pos (by omega)]; done) | (rw [if_neg (by omega), if_neg (by omega)]; done)), rfl⟩

set_option maxHeartbeats 4000000 in
set_option maxRecDepth 100000 in
theorem k_Marks_openGap_l2  {gap many : Int} (b_gap : -1000000 ≤ gap ∧ gap ≤ 1000000) (hr : -1000000 ≤ r ∧ r ≤ 1000000) (hJ : ∀ i, -1000000 ≤ J i ∧ J i ≤ 1000000) (hF : ∀ i, -1000000 ≤ F i ∧ F i ≤ 1000000) (hT : ∀ i, -1000000 ≤ T i ∧ T i ≤ 1000000) : ∀ (g : Nat) (i : Int) (o4 : Option Value), 0 ≤ i ∧ i + g = 12 →
    JW G (d + 1) mX4_openGap 45 [some (.ref b), some (.int (jI gap)), some (.int (jI many)), some (.int (jI i)), o4] [] (n, mk_h b f (mk_op r gap many) j a (ji_map (fun k => mk_op (J k) gap many) J 5) (ji_map (fun k => mk_op (F k) gap many) F i) (ji_map (mk_oT F T gap many) T i) C) 0 0 (fun r9 h9 => r9 = .inl none ∧ h9 = (n, mk_h b f (mk_op r gap many) j a (ji_map (fun k => mk_op (J k) gap many) J 5) (ji_map (fun k => mk_op (F k) gap many) F 12) (ji_map (mk_oT F T gap many) T 12) C)) := by
  intro g
  induction g with
  | zero =>
    intro i o4 hi
    have ei : i = 12 := by omega
    subst ei

    refine ji_iload_n dX4_openGap_45 rfl ?_
    refine ji_bipush dX4_openGap_46 rfl ?_
    refine ji_icmp_ge (tgt := 127) dX4_openGap_48 rfl (by omega) (by omega) (fun c48 => ?_) (fun c48 => absurd c48 (by omega))
    exact ji_return dX4_openGap_127 rfl ⟨rfl, rfl⟩
  | succ g ih =>
    intro i o4 hi
    have q1 := hF i.toNat
    have q2 := hT i.toNat
    have z1 := ji_map_at (g := mk_oT F T gap many) (o := T) hi.1
    have z2 := ji_map_at (g := fun k => mk_op (F k) gap many) (o := F) hi.1

    refine ji_iload_n dX4_openGap_45 rfl ?_
    refine ji_bipush dX4_openGap_46 rfl ?_
    refine ji_icmp_ge (tgt := 127) dX4_openGap_48 rfl (by first | omega | (rw [z1]; omega) | (rw [z2]; omega)) (by first | omega | (rw [z1]; omega) | (rw [z2]; omega)) (fun c48 => absurd c48 (by omega)) (fun c48 => ?_)
    refine ji_aload_n dX4_openGap_51 rfl trivial ?_
    refine ji_get (ci := 4) (k := 5) rfl dX4_openGap_52 lX4_18 (by decide) (mk_0) rfl ?_
    refine ji_iload_n dX4_openGap_55 rfl ?_
    refine ji_iaload dX4_openGap_56 (mk_3) (by first | omega | (rw [z1]; omega) | (rw [z2]; omega)) ?_
    refine ji_iload_n dX4_openGap_57 rfl ?_
    refine ji_icmp_ne (tgt := 75) dX4_openGap_58 rfl (by first | omega | (rw [z1]; omega) | (rw [z2]; omega)) (by first | omega | (rw [z1]; omega) | (rw [z2]; omega)) (fun c58 => ?_) (fun c58 => ?_)
    · refine ji_iconst dX4_openGap_75 ?_
      refine ji_istore dX4_openGap_76 (by decide) rfl ?_
      refine ji_aload_n dX4_openGap_78 rfl trivial ?_
      refine ji_get (ci := 4) (k := 4) rfl dX4_openGap_79 lX4_15 (by decide) (mk_0) rfl ?_
      refine ji_iload_n dX4_openGap_82 rfl ?_
      refine ji_aload_n dX4_openGap_83 rfl trivial ?_
      refine ji_get (ci := 4) (k := 4) rfl dX4_openGap_84 lX4_15 (by decide) (mk_0) rfl ?_
      refine ji_iload_n dX4_openGap_87 rfl ?_
      refine ji_iaload dX4_openGap_88 (mk_2) (by first | omega | (rw [z1]; omega) | (rw [z2]; omega)) ?_
      refine ji_iload_n dX4_openGap_89 rfl ?_
      refine ji_iload_n dX4_openGap_90 rfl ?_
      refine ji_cS dX4_openGap_91 (k_Marks_opened (by rw [z2]; omega) (by omega)) rfl wX4_opened sX4_opened lX4_54 rfl (Nat.le_of_ble_eq_true rfl) rfl ?_
      refine ji_iastoreE dX4_openGap_94 (mk_2) (by first | omega | (rw [z1]; omega) | (rw [z2]; omega)) (mk_sF) ?_
      refine ji_aload_n dX4_openGap_95 rfl trivial ?_
      refine ji_get (ci := 4) (k := 5) rfl dX4_openGap_96 lX4_18 (by decide) (mk_0) rfl ?_
      refine ji_iload_n dX4_openGap_99 rfl ?_
      refine ji_iload dX4_openGap_100 rfl ?_
      refine ji_if_eq (tgt := 109) dX4_openGap_102 rfl (by first | omega | (rw [z1]; omega) | (rw [z2]; omega)) (fun c102 => ?_) (fun c102 => ?_)
      · refine ji_aload_n dX4_openGap_109 rfl trivial ?_
        refine ji_get (ci := 4) (k := 5) rfl dX4_openGap_110 lX4_18 (by decide) (mk_0) rfl ?_
        refine ji_iload_n dX4_openGap_113 rfl ?_
        refine ji_iaload dX4_openGap_114 (mk_3) (by first | omega | (rw [z1]; omega) | (rw [z2]; omega)) ?_
        refine ji_iload_n dX4_openGap_115 rfl ?_
        refine ji_iload_n dX4_openGap_116 rfl ?_
        refine ji_cS dX4_openGap_117 (k_Marks_opened (by rw [z1]; omega) (by omega)) rfl wX4_opened sX4_opened lX4_54 rfl (Nat.le_of_ble_eq_true rfl) rfl ?_
        refine ji_iastoreE dX4_openGap_120 (mk_3) (by first | omega | (rw [z1]; omega) | (rw [z2]; omega)) (mk_sT) ?_
        refine ji_iinc dX4_openGap_121 (by decide) rfl rfl ?_
        refine ji_goto (tgt := 45) dX4_openGap_124 rfl ?_
        first | (exfalso; rw [z1] at *; rw [z2] at *; omega) | exact ji_eqv (ih (i + 1) _ (by omega)) rfl rfl (by rw [ji_map_s hi.1 (by rw [z2]), ji_map_s hi.1 (by first | (unfold mk_oT; rw [if_pos ⟨by omega, by omega⟩]; done) | (rw [z1]; unfold mk_oT; rw [if_neg (by omega)]; done))])
      · refine ji_iload_n dX4_openGap_105 rfl ?_
        refine ji_goto (tgt := 120) dX4_openGap_106 rfl ?_
        refine ji_iastoreE dX4_openGap_120 (mk_3) (by first | omega | (rw [z1]; omega) | (rw [z2]; omega)) (mk_sT) ?_
        refine ji_iinc dX4_openGap_121 (by decide) rfl rfl ?_
        refine ji_goto (tgt := 45) dX4_openGap_124 rfl ?_
        first | (exfalso; rw [z1] at *; rw [z2] at *; omega) | exact ji_eqv (ih (i + 1) _ (by omega)) rfl rfl (by rw [ji_map_s hi.1 (by rw [z2]), ji_map_s hi.1 (by first | (unfold mk_oT; rw [if_pos ⟨by omega, by omega⟩]; done) | (rw [z1]; unfold mk_oT; rw [if_neg (by omega)]; done))])
    · refine ji_aload_n dX4_openGap_61 rfl trivial ?_
      refine ji_get (ci := 4) (k := 4) rfl dX4_openGap_62 lX4_15 (by decide) (mk_0) rfl ?_
      refine ji_iload_n dX4_openGap_65 rfl ?_
      refine ji_iaload dX4_openGap_66 (mk_2) (by first | omega | (rw [z1]; omega) | (rw [z2]; omega)) ?_
      refine ji_iload_n dX4_openGap_67 rfl ?_
      refine ji_icmp_eq (tgt := 75) dX4_openGap_68 rfl (by first | omega | (rw [z1]; omega) | (rw [z2]; omega)) (by first | omega | (rw [z1]; omega) | (rw [z2]; omega)) (fun c68 => ?_) (fun c68 => ?_)
      · refine ji_iconst dX4_openGap_75 ?_
        refine ji_istore dX4_openGap_76 (by decide) rfl ?_
        refine ji_aload_n dX4_openGap_78 rfl trivial ?_
        refine ji_get (ci := 4) (k := 4) rfl dX4_openGap_79 lX4_15 (by decide) (mk_0) rfl ?_
        refine ji_iload_n dX4_openGap_82 rfl ?_
        refine ji_aload_n dX4_openGap_83 rfl trivial ?_
        refine ji_get (ci := 4) (k := 4) rfl dX4_openGap_84 lX4_15 (by decide) (mk_0) rfl ?_
        refine ji_iload_n dX4_openGap_87 rfl ?_
        refine ji_iaload dX4_openGap_88 (mk_2) (by first | omega | (rw [z1]; omega) | (rw [z2]; omega)) ?_
        refine ji_iload_n dX4_openGap_89 rfl ?_
        refine ji_iload_n dX4_openGap_90 rfl ?_
        refine ji_cS dX4_openGap_91 (k_Marks_opened (by rw [z2]; omega) (by omega)) rfl wX4_opened sX4_opened lX4_54 rfl (Nat.le_of_ble_eq_true rfl) rfl ?_
        refine ji_iastoreE dX4_openGap_94 (mk_2) (by first | omega | (rw [z1]; omega) | (rw [z2]; omega)) (mk_sF) ?_
        refine ji_aload_n dX4_openGap_95 rfl trivial ?_
        refine ji_get (ci := 4) (k := 5) rfl dX4_openGap_96 lX4_18 (by decide) (mk_0) rfl ?_
        refine ji_iload_n dX4_openGap_99 rfl ?_
        refine ji_iload dX4_openGap_100 rfl ?_
        refine ji_if_eq (tgt := 109) dX4_openGap_102 rfl (by first | omega | (rw [z1]; omega) | (rw [z2]; omega)) (fun c102 => ?_) (fun c102 => ?_)
        · refine ji_aload_n dX4_openGap_109 rfl trivial ?_
          refine ji_get (ci := 4) (k := 5) rfl dX4_openGap_110 lX4_18 (by decide) (mk_0) rfl ?_
          refine ji_iload_n dX4_openGap_113 rfl ?_
          refine ji_iaload dX4_openGap_114 (mk_3) (by first | omega | (rw [z1]; omega) | (rw [z2]; omega)) ?_
          refine ji_iload_n dX4_openGap_115 rfl ?_
          refine ji_iload_n dX4_openGap_116 rfl ?_
          refine ji_cS dX4_openGap_117 (k_Marks_opened (by rw [z1]; omega) (by omega)) rfl wX4_opened sX4_opened lX4_54 rfl (Nat.le_of_ble_eq_true rfl) rfl ?_
          refine ji_iastoreE dX4_openGap_120 (mk_3) (by first | omega | (rw [z1]; omega) | (rw [z2]; omega)) (mk_sT) ?_
          refine ji_iinc dX4_openGap_121 (by decide) rfl rfl ?_
          refine ji_goto (tgt := 45) dX4_openGap_124 rfl ?_
          first | (exfalso; rw [z1] at *; rw [z2] at *; omega) | exact ji_eqv (ih (i + 1) _ (by omega)) rfl rfl (by rw [ji_map_s hi.1 (by rw [z2]), ji_map_s hi.1 (by first | (unfold mk_oT; rw [if_pos ⟨by omega, by omega⟩]; done) | (rw [z1]; unfold mk_oT; rw [if_neg (by omega)]; done))])
        · refine ji_iload_n dX4_openGap_105 rfl ?_
          refine ji_goto (tgt := 120) dX4_openGap_106 rfl ?_
          refine ji_iastoreE dX4_openGap_120 (mk_3) (by first | omega | (rw [z1]; omega) | (rw [z2]; omega)) (mk_sT) ?_
          refine ji_iinc dX4_openGap_121 (by decide) rfl rfl ?_
          refine ji_goto (tgt := 45) dX4_openGap_124 rfl ?_
          first | (exfalso; rw [z1] at *; rw [z2] at *; omega) | exact ji_eqv (ih (i + 1) _ (by omega)) rfl rfl (by rw [ji_map_s hi.1 (by rw [z2]), ji_map_s hi.1 (by first | (unfold mk_oT; rw [if_pos ⟨by omega, by omega⟩]; done) | (rw [z1]; unfold mk_oT; rw [if_neg (by omega)]; done))])
      · refine ji_iconst dX4_openGap_71 ?_
        refine ji_goto (tgt := 76) dX4_openGap_72 rfl ?_
        refine ji_istore dX4_openGap_76 (by decide) rfl ?_
        refine ji_aload_n dX4_openGap_78 rfl trivial ?_
        refine ji_get (ci := 4) (k := 4) rfl dX4_openGap_79 lX4_15 (by decide) (mk_0) rfl ?_
        refine ji_iload_n dX4_openGap_82 rfl ?_
        refine ji_aload_n dX4_openGap_83 rfl trivial ?_
        refine ji_get (ci := 4) (k := 4) rfl dX4_openGap_84 lX4_15 (by decide) (mk_0) rfl ?_
        refine ji_iload_n dX4_openGap_87 rfl ?_
        refine ji_iaload dX4_openGap_88 (mk_2) (by first | omega | (rw [z1]; omega) | (rw [z2]; omega)) ?_
        refine ji_iload_n dX4_openGap_89 rfl ?_
        refine ji_iload_n dX4_openGap_90 rfl ?_
        refine ji_cS dX4_openGap_91 (k_Marks_opened (by rw [z2]; omega) (by omega)) rfl wX4_opened sX4_opened lX4_54 rfl (Nat.le_of_ble_eq_true rfl) rfl ?_
        refine ji_iastoreE dX4_openGap_94 (mk_2) (by first | omega | (rw [z1]; omega) | (rw [z2]; omega)) (mk_sF) ?_
        refine ji_aload_n dX4_openGap_95 rfl trivial ?_
        refine ji_get (ci := 4) (k := 5) rfl dX4_openGap_96 lX4_18 (by decide) (mk_0) rfl ?_
        refine ji_iload_n dX4_openGap_99 rfl ?_
        refine ji_iload dX4_openGap_100 rfl ?_
        refine ji_if_eq (tgt := 109) dX4_openGap_102 rfl (by first | omega | (rw [z1]; omega) | (rw [z2]; omega)) (fun c102 => ?_) (fun c102 => ?_)
        · refine ji_aload_n dX4_openGap_109 rfl trivial ?_
          refine ji_get (ci := 4) (k := 5) rfl dX4_openGap_110 lX4_18 (by decide) (mk_0) rfl ?_
          refine ji_iload_n dX4_openGap_113 rfl ?_
          refine ji_iaload dX4_openGap_114 (mk_3) (by first | omega | (rw [z1]; omega) | (rw [z2]; omega)) ?_
          refine ji_iload_n dX4_openGap_115 rfl ?_
          refine ji_iload_n dX4_openGap_116 rfl ?_
          refine ji_cS dX4_openGap_117 (k_Marks_opened (by rw [z1]; omega) (by omega)) rfl wX4_opened sX4_opened lX4_54 rfl (Nat.le_of_ble_eq_true rfl) rfl ?_
          refine ji_iastoreE dX4_openGap_120 (mk_3) (by first | omega | (rw [z1]; omega) | (rw [z2]; omega)) (mk_sT) ?_
          refine ji_iinc dX4_openGap_121 (by decide) rfl rfl ?_
          refine ji_goto (tgt := 45) dX4_openGap_124 rfl ?_
          first | (exfalso; rw [z1] at *; rw [z2] at *; omega) | exact ji_eqv (ih (i + 1) _ (by omega)) rfl rfl (by rw [ji_map_s hi.1 (by rw [z2]), ji_map_s hi.1 (by first | (unfold mk_oT; rw [if_pos ⟨by omega, by omega⟩]; done) | (rw [z1]; unfold mk_oT; rw [if_neg (by omega)]; done))])
        · refine ji_iload_n dX4_openGap_105 rfl ?_
          refine ji_goto (tgt := 120) dX4_openGap_106 rfl ?_
          refine ji_iastoreE dX4_openGap_120 (mk_3) (by first | omega | (rw [z1]; omega) | (rw [z2]; omega)) (mk_sT) ?_
          refine ji_iinc dX4_openGap_121 (by decide) rfl rfl ?_
          refine ji_goto (tgt := 45) dX4_openGap_124 rfl ?_
          first | (exfalso; rw [z1] at *; rw [z2] at *; omega) | exact ji_eqv (ih (i + 1) _ (by omega)) rfl rfl (by rw [ji_map_s hi.1 (by rw [z2]), ji_map_s hi.1 (by first | (unfold mk_oT; rw [if_pos ⟨by omega, by omega⟩]; done) | (rw [z1]; unfold mk_oT; rw [if_neg (by omega)]; done))])

set_option maxHeartbeats 4000000 in
set_option maxRecDepth 100000 in
theorem k_Marks_openGap_l1  {gap many : Int} (b_gap : -1000000 ≤ gap ∧ gap ≤ 1000000) (hr : -1000000 ≤ r ∧ r ≤ 1000000) (hJ : ∀ i, -1000000 ≤ J i ∧ J i ≤ 1000000) (hF : ∀ i, -1000000 ≤ F i ∧ F i ≤ 1000000) (hT : ∀ i, -1000000 ≤ T i ∧ T i ≤ 1000000) : ∀ (g : Nat) (i : Int) (o4 : Option Value), 0 ≤ i ∧ i + g = 5 →
    JW G (d + 1) mX4_openGap 15 [some (.ref b), some (.int (jI gap)), some (.int (jI many)), some (.int (jI i)), o4] [] (n, mk_h b f (mk_op r gap many) j a (ji_map (fun k => mk_op (J k) gap many) J i) F T C) 0 0 (fun r9 h9 => r9 = .inl none ∧ h9 = (n, mk_h b f (mk_op r gap many) j a (ji_map (fun k => mk_op (J k) gap many) J 5) (ji_map (fun k => mk_op (F k) gap many) F 12) (ji_map (mk_oT F T gap many) T 12) C)) := by
  intro g
  induction g with
  | zero =>
    intro i o4 hi
    have ei : i = 5 := by omega
    subst ei

    refine ji_iload_n dX4_openGap_15 rfl ?_
    refine ji_iconst dX4_openGap_16 ?_
    refine ji_icmp_ge (tgt := 43) dX4_openGap_17 rfl (by omega) (by omega) (fun c17 => ?_) (fun c17 => absurd c17 (by omega))
    refine ji_iconst dX4_openGap_43 ?_
    refine ji_istore_n dX4_openGap_44 (by decide) rfl ?_
    exact ji_eqv (k_Marks_openGap_l2 b_gap hr hJ hF hT 12 0 _ (by omega)) rfl rfl (by rw [ji_map_0, ji_map_0])
  | succ g ih =>
    intro i o4 hi
    have q1 := hJ i.toNat
    have z3 := ji_map_at (g := fun k => mk_op (J k) gap many) (o := J) hi.1

    refine ji_iload_n dX4_openGap_15 rfl ?_
    refine ji_iconst dX4_openGap_16 ?_
    refine ji_icmp_ge (tgt := 43) dX4_openGap_17 rfl (by first | omega | (rw [z3]; omega)) (by first | omega | (rw [z3]; omega)) (fun c17 => absurd c17 (by omega)) (fun c17 => ?_)
    refine ji_aload_n dX4_openGap_20 rfl trivial ?_
    refine ji_get (ci := 4) (k := 2) rfl dX4_openGap_21 lX4_9 (by decide) (mk_0) rfl ?_
    refine ji_iload_n dX4_openGap_24 rfl ?_
    refine ji_aload_n dX4_openGap_25 rfl trivial ?_
    refine ji_get (ci := 4) (k := 2) rfl dX4_openGap_26 lX4_9 (by decide) (mk_0) rfl ?_
    refine ji_iload_n dX4_openGap_29 rfl ?_
    refine ji_iaload dX4_openGap_30 (mk_1) (by first | omega | (rw [z3]; omega)) ?_
    refine ji_iload_n dX4_openGap_31 rfl ?_
    refine ji_iload_n dX4_openGap_32 rfl ?_
    refine ji_cS dX4_openGap_33 (k_Marks_opened (by first | omega | (rw [z3]; omega)) (by omega)) rfl wX4_opened sX4_opened lX4_54 rfl (Nat.le_of_ble_eq_true rfl) rfl ?_
    refine ji_iastoreE dX4_openGap_36 (mk_1) (by first | omega | (rw [z3]; omega)) (mk_sJ) ?_
    refine ji_iinc dX4_openGap_37 (by decide) rfl rfl ?_
    refine ji_goto (tgt := 15) dX4_openGap_40 rfl ?_
    exact ji_eqv (ih (i + 1) _ (by omega)) rfl rfl (by rw [ji_map_s hi.1 (by rw [z3])])

set_option maxHeartbeats 4000000 in
set_option maxRecDepth 100000 in
theorem k_Marks_openGap  {gap many : Int} (b_gap : -1000000 ≤ gap ∧ gap ≤ 1000000) (hr : -1000000 ≤ r ∧ r ≤ 1000000) (hJ : ∀ i, -1000000 ≤ J i ∧ J i ≤ 1000000) (hF : ∀ i, -1000000 ≤ F i ∧ F i ≤ 1000000) (hT : ∀ i, -1000000 ≤ T i ∧ T i ≤ 1000000) : JR G (d + 1) mX4_openGap [.ref b, .int (jI (gap)), .int (jI (many))] (n, mk_h b f r j a J F T C) 0 0 none (n, mk_h b f (mk_op r gap many) j a (ji_map (fun k => mk_op (J k) gap many) J 5) (ji_map (fun k => mk_op (F k) gap many) F 12) (ji_map (mk_oT F T gap many) T 12) C) := by
  refine ji_ent (by decide) rfl (Nat.le_of_ble_eq_true rfl) rfl ?_
  refine ji_aload_n dX4_openGap_0 rfl trivial ?_
  refine ji_aload_n dX4_openGap_1 rfl trivial ?_
  refine ji_get (ci := 4) (k := 0) rfl dX4_openGap_2 lX4_24 (by decide) (mk_0) rfl ?_
  refine ji_iload_n dX4_openGap_5 rfl ?_
  refine ji_iload_n dX4_openGap_6 rfl ?_
  refine ji_cS dX4_openGap_7 (k_Marks_opened (by first | omega | (rw [z3]; omega)) (by omega)) rfl wX4_opened sX4_opened lX4_54 rfl (Nat.le_of_ble_eq_true rfl) rfl ?_
  refine ji_putE (ci := 4) (k := 0) rfl dX4_openGap_10 lX4_24 (by decide) (mk_0) (by simp) (ji_fitI _) rfl (mk_pr) ?_
  refine ji_iconst dX4_openGap_13 ?_
  refine ji_istore_n dX4_openGap_14 (by decide) rfl ?_
  exact ji_eqv (k_Marks_openGap_l1 b_gap hr hJ hF hT 5 0 _ (by omega)) rfl rfl (by rw [ji_map_0])

set_option maxHeartbeats 4000000 in
set_option maxRecDepth 100000 in
theorem k_Marks_closeGap_l2  {xa ya refuge : Int} (b_xa : -1000000 ≤ xa ∧ xa ≤ 1000000) (b_ya : -1000000 ≤ ya ∧ ya ≤ 1000000) (hr : -1000000 ≤ r ∧ r ≤ 1000000) (hJ : ∀ i, -1000000 ≤ J i ∧ J i ≤ 1000000) (hF : ∀ i, -1000000 ≤ F i ∧ F i ≤ 1000000) (hT : ∀ i, -1000000 ≤ T i ∧ T i ≤ 1000000) : ∀ (g : Nat) (i : Int), 0 ≤ i ∧ i + g = 12 →
    JW G (d + 1) mX4_closeGap 52 [some (.ref b), some (.int (jI xa)), some (.int (jI ya)), some (.int (jI refuge)), some (.int (jI i))] [] (n, mk_h b f (mk_cl r xa ya refuge) j a (ji_map (fun k => mk_cl (J k) xa ya refuge) J 5) (ji_map (fun k => mk_cl (F k) xa ya xa) F i) (ji_map (fun k => mk_cl (T k) xa ya xa) T i) C) 0 0 (fun r9 h9 => r9 = .inl none ∧ h9 = (n, mk_h b f (mk_cl r xa ya refuge) j a (ji_map (fun k => mk_cl (J k) xa ya refuge) J 5) (ji_map (fun k => mk_cl (F k) xa ya xa) F 12) (ji_map (fun k => mk_cl (T k) xa ya xa) T 12) C)) := by
  intro g
  induction g with
  | zero =>
    intro i hi
    have ei : i = 12 := by omega
    subst ei

    refine ji_iload dX4_closeGap_52 rfl ?_
    refine ji_bipush dX4_closeGap_54 rfl ?_
    refine ji_icmp_ge (tgt := 105) dX4_closeGap_56 rfl (by omega) (by omega) (fun c56 => ?_) (fun c56 => absurd c56 (by omega))
    exact ji_return dX4_closeGap_105 rfl ⟨rfl, rfl⟩
  | succ g ih =>
    intro i hi
    have q1 := hF i.toNat
    have q2 := hT i.toNat
    have z1 := ji_map_at (g := fun k => mk_cl (T k) xa ya xa) (o := T) hi.1
    have z2 := ji_map_at (g := fun k => mk_cl (F k) xa ya xa) (o := F) hi.1

    refine ji_iload dX4_closeGap_52 rfl ?_
    refine ji_bipush dX4_closeGap_54 rfl ?_
    refine ji_icmp_ge (tgt := 105) dX4_closeGap_56 rfl (by first | omega | (rw [z1]; omega) | (rw [z2]; omega)) (by first | omega | (rw [z1]; omega) | (rw [z2]; omega)) (fun c56 => absurd c56 (by omega)) (fun c56 => ?_)
    refine ji_aload_n dX4_closeGap_59 rfl trivial ?_
    refine ji_get (ci := 4) (k := 4) rfl dX4_closeGap_60 lX4_15 (by decide) (mk_0) rfl ?_
    refine ji_iload dX4_closeGap_63 rfl ?_
    refine ji_aload_n dX4_closeGap_65 rfl trivial ?_
    refine ji_get (ci := 4) (k := 4) rfl dX4_closeGap_66 lX4_15 (by decide) (mk_0) rfl ?_
    refine ji_iload dX4_closeGap_69 rfl ?_
    refine ji_iaload dX4_closeGap_71 (mk_2) (by first | omega | (rw [z1]; omega) | (rw [z2]; omega)) ?_
    refine ji_iload_n dX4_closeGap_72 rfl ?_
    refine ji_iload_n dX4_closeGap_73 rfl ?_
    refine ji_iload_n dX4_closeGap_74 rfl ?_
    refine ji_cS dX4_closeGap_75 (k_Marks_closed (by rw [z2]; omega) (by omega) (by omega)) rfl wX4_closed sX4_closed lX4_58 rfl (Nat.le_of_ble_eq_true rfl) rfl ?_
    refine ji_iastoreE dX4_closeGap_78 (mk_2) (by first | omega | (rw [z1]; omega) | (rw [z2]; omega)) (mk_sF) ?_
    refine ji_aload_n dX4_closeGap_79 rfl trivial ?_
    refine ji_get (ci := 4) (k := 5) rfl dX4_closeGap_80 lX4_18 (by decide) (mk_0) rfl ?_
    refine ji_iload dX4_closeGap_83 rfl ?_
    refine ji_aload_n dX4_closeGap_85 rfl trivial ?_
    refine ji_get (ci := 4) (k := 5) rfl dX4_closeGap_86 lX4_18 (by decide) (mk_0) rfl ?_
    refine ji_iload dX4_closeGap_89 rfl ?_
    refine ji_iaload dX4_closeGap_91 (mk_3) (by first | omega | (rw [z1]; omega) | (rw [z2]; omega)) ?_
    refine ji_iload_n dX4_closeGap_92 rfl ?_
    refine ji_iload_n dX4_closeGap_93 rfl ?_
    refine ji_iload_n dX4_closeGap_94 rfl ?_
    refine ji_cS dX4_closeGap_95 (k_Marks_closed (by rw [z1]; omega) (by omega) (by omega)) rfl wX4_closed sX4_closed lX4_58 rfl (Nat.le_of_ble_eq_true rfl) rfl ?_
    refine ji_iastoreE dX4_closeGap_98 (mk_3) (by first | omega | (rw [z1]; omega) | (rw [z2]; omega)) (mk_sT) ?_
    refine ji_iinc dX4_closeGap_99 (by decide) rfl rfl ?_
    refine ji_goto (tgt := 52) dX4_closeGap_102 rfl ?_
    exact ji_eqv (ih (i + 1) (by omega)) rfl rfl (by rw [ji_map_s hi.1 (by rw [z2]), ji_map_s hi.1 (by rw [z1])])

set_option maxHeartbeats 4000000 in
set_option maxRecDepth 100000 in
theorem k_Marks_closeGap_l1  {xa ya refuge : Int} (b_xa : -1000000 ≤ xa ∧ xa ≤ 1000000) (b_ya : -1000000 ≤ ya ∧ ya ≤ 1000000) (hr : -1000000 ≤ r ∧ r ≤ 1000000) (hJ : ∀ i, -1000000 ≤ J i ∧ J i ≤ 1000000) (hF : ∀ i, -1000000 ≤ F i ∧ F i ≤ 1000000) (hT : ∀ i, -1000000 ≤ T i ∧ T i ≤ 1000000) : ∀ (g : Nat) (i : Int), 0 ≤ i ∧ i + g = 5 →
    JW G (d + 1) mX4_closeGap 17 [some (.ref b), some (.int (jI xa)), some (.int (jI ya)), some (.int (jI refuge)), some (.int (jI i))] [] (n, mk_h b f (mk_cl r xa ya refuge) j a (ji_map (fun k => mk_cl (J k) xa ya refuge) J i) F T C) 0 0 (fun r9 h9 => r9 = .inl none ∧ h9 = (n, mk_h b f (mk_cl r xa ya refuge) j a (ji_map (fun k => mk_cl (J k) xa ya refuge) J 5) (ji_map (fun k => mk_cl (F k) xa ya xa) F 12) (ji_map (fun k => mk_cl (T k) xa ya xa) T 12) C)) := by
  intro g
  induction g with
  | zero =>
    intro i hi
    have ei : i = 5 := by omega
    subst ei

    refine ji_iload dX4_closeGap_17 rfl ?_
    refine ji_iconst dX4_closeGap_19 ?_
    refine ji_icmp_ge (tgt := 49) dX4_closeGap_20 rfl (by omega) (by omega) (fun c20 => ?_) (fun c20 => absurd c20 (by omega))
    refine ji_iconst dX4_closeGap_49 ?_
    refine ji_istore dX4_closeGap_50 (by decide) rfl ?_
    exact ji_eqv (k_Marks_closeGap_l2 b_xa b_ya hr hJ hF hT 12 0 (by omega)) rfl rfl (by rw [ji_map_0, ji_map_0])
  | succ g ih =>
    intro i hi
    have q1 := hJ i.toNat
    have z3 := ji_map_at (g := fun k => mk_cl (J k) xa ya refuge) (o := J) hi.1

    refine ji_iload dX4_closeGap_17 rfl ?_
    refine ji_iconst dX4_closeGap_19 ?_
    refine ji_icmp_ge (tgt := 49) dX4_closeGap_20 rfl (by first | omega | (rw [z3]; omega)) (by first | omega | (rw [z3]; omega)) (fun c20 => absurd c20 (by omega)) (fun c20 => ?_)
    refine ji_aload_n dX4_closeGap_23 rfl trivial ?_
    refine ji_get (ci := 4) (k := 2) rfl dX4_closeGap_24 lX4_9 (by decide) (mk_0) rfl ?_
    refine ji_iload dX4_closeGap_27 rfl ?_
    refine ji_aload_n dX4_closeGap_29 rfl trivial ?_
    refine ji_get (ci := 4) (k := 2) rfl dX4_closeGap_30 lX4_9 (by decide) (mk_0) rfl ?_
    refine ji_iload dX4_closeGap_33 rfl ?_
    refine ji_iaload dX4_closeGap_35 (mk_1) (by first | omega | (rw [z3]; omega)) ?_
    refine ji_iload_n dX4_closeGap_36 rfl ?_
    refine ji_iload_n dX4_closeGap_37 rfl ?_
    refine ji_iload_n dX4_closeGap_38 rfl ?_
    refine ji_cS dX4_closeGap_39 (k_Marks_closed (by first | omega | (rw [z3]; omega)) (by omega) (by omega)) rfl wX4_closed sX4_closed lX4_58 rfl (Nat.le_of_ble_eq_true rfl) rfl ?_
    refine ji_iastoreE dX4_closeGap_42 (mk_1) (by first | omega | (rw [z3]; omega)) (mk_sJ) ?_
    refine ji_iinc dX4_closeGap_43 (by decide) rfl rfl ?_
    refine ji_goto (tgt := 17) dX4_closeGap_46 rfl ?_
    exact ji_eqv (ih (i + 1) (by omega)) rfl rfl (by rw [ji_map_s hi.1 (by rw [z3])])

set_option maxHeartbeats 4000000 in
set_option maxRecDepth 100000 in
theorem k_Marks_closeGap  {xa ya refuge : Int} (b_xa : -1000000 ≤ xa ∧ xa ≤ 1000000) (b_ya : -1000000 ≤ ya ∧ ya ≤ 1000000) (hr : -1000000 ≤ r ∧ r ≤ 1000000) (hJ : ∀ i, -1000000 ≤ J i ∧ J i ≤ 1000000) (hF : ∀ i, -1000000 ≤ F i ∧ F i ≤ 1000000) (hT : ∀ i, -1000000 ≤ T i ∧ T i ≤ 1000000) : JR G (d + 1) mX4_closeGap [.ref b, .int (jI (xa)), .int (jI (ya)), .int (jI (refuge))] (n, mk_h b f r j a J F T C) 0 0 none (n, mk_h b f (mk_cl r xa ya refuge) j a (ji_map (fun k => mk_cl (J k) xa ya refuge) J 5) (ji_map (fun k => mk_cl (F k) xa ya xa) F 12) (ji_map (fun k => mk_cl (T k) xa ya xa) T 12) C) := by
  refine ji_ent (by decide) rfl (Nat.le_of_ble_eq_true rfl) rfl ?_
  refine ji_aload_n dX4_closeGap_0 rfl trivial ?_
  refine ji_aload_n dX4_closeGap_1 rfl trivial ?_
  refine ji_get (ci := 4) (k := 0) rfl dX4_closeGap_2 lX4_24 (by decide) (mk_0) rfl ?_
  refine ji_iload_n dX4_closeGap_5 rfl ?_
  refine ji_iload_n dX4_closeGap_6 rfl ?_
  refine ji_iload_n dX4_closeGap_7 rfl ?_
  refine ji_cS dX4_closeGap_8 (k_Marks_closed (by first | omega | (rw [z3]; omega)) (by omega) (by omega)) rfl wX4_closed sX4_closed lX4_58 rfl (Nat.le_of_ble_eq_true rfl) rfl ?_
  refine ji_putE (ci := 4) (k := 0) rfl dX4_closeGap_11 lX4_24 (by decide) (mk_0) (by simp) (ji_fitI _) rfl (mk_pr) ?_
  refine ji_iconst dX4_closeGap_14 ?_
  refine ji_istore dX4_closeGap_15 (by decide) rfl ?_
  exact ji_eqv (k_Marks_closeGap_l1 b_xa b_ya hr hJ hF hT 5 0 (by omega)) rfl rfl (by rw [ji_map_0])

set_option maxHeartbeats 4000000 in
set_option maxRecDepth 100000 in
theorem k_Marks_cutAt_l2  {blank : Int} (b_blank : -1000000 ≤ blank ∧ blank ≤ 1000000) (hr : -1000000 ≤ r ∧ r ≤ 1000000) (hJ : ∀ i, -1000000 ≤ J i ∧ J i ≤ 1000000) (hF : ∀ i, -1000000 ≤ F i ∧ F i ≤ 1000000) (hT : ∀ i, -1000000 ≤ T i ∧ T i ≤ 1000000) : ∀ (g : Nat) (i : Int) (o3 : Option Value), 0 ≤ i ∧ i + g = 12 →
    JW G (d + 1) mX4_cutAt 65 [some (.ref b), some (.int (jI blank)), some (.int (jI i)), o3] [] (n, mk_h b f (mk_cut r blank) j a (ji_map (fun k => mk_cut (J k) blank) J 5) F (ji_map (mk_cT F T blank) T i) C) 0 0 (fun r9 h9 => r9 = .inl none ∧ h9 = (n, mk_h b f (mk_cut r blank) j a (ji_map (fun k => mk_cut (J k) blank) J 5) F (ji_map (mk_cT F T blank) T 12) C)) := by
  intro g
  induction g with
  | zero =>
    intro i o3 hi
    have ei : i = 12 := by omega
    subst ei

    refine ji_iload_n dX4_cutAt_65 rfl ?_
    refine ji_bipush dX4_cutAt_66 rfl ?_
    refine ji_icmp_ge (tgt := 123) dX4_cutAt_68 rfl (by omega) (by omega) (fun c68 => ?_) (fun c68 => absurd c68 (by omega))
    exact ji_return dX4_cutAt_123 rfl ⟨rfl, rfl⟩
  | succ g ih =>
    intro i o3 hi
    have q1 := hF i.toNat
    have q2 := hT i.toNat
    have z1 := ji_map_at (g := mk_cT F T blank) (o := T) hi.1

    refine ji_iload_n dX4_cutAt_65 rfl ?_
    refine ji_bipush dX4_cutAt_66 rfl ?_
    refine ji_icmp_ge (tgt := 123) dX4_cutAt_68 rfl (by first | omega | (rw [z1]; omega)) (by first | omega | (rw [z1]; omega)) (fun c68 => absurd c68 (by omega)) (fun c68 => ?_)
    refine ji_aload_n dX4_cutAt_71 rfl trivial ?_
    refine ji_get (ci := 4) (k := 4) rfl dX4_cutAt_72 lX4_15 (by decide) (mk_0) rfl ?_
    refine ji_iload_n dX4_cutAt_75 rfl ?_
    refine ji_iaload dX4_cutAt_76 (mk_2) (by first | omega | (rw [z1]; omega)) ?_
    refine ji_iload_n dX4_cutAt_77 rfl ?_
    refine ji_icmp_gt (tgt := 95) dX4_cutAt_78 rfl (by first | omega | (rw [z1]; omega)) (by first | omega | (rw [z1]; omega)) (fun c78 => ?_) (fun c78 => ?_)
    · refine ji_iconst dX4_cutAt_95 ?_
      refine ji_istore_n dX4_cutAt_96 (by decide) rfl ?_
      refine ji_aload_n dX4_cutAt_97 rfl trivial ?_
      refine ji_get (ci := 4) (k := 5) rfl dX4_cutAt_98 lX4_18 (by decide) (mk_0) rfl ?_
      refine ji_iload_n dX4_cutAt_101 rfl ?_
      refine ji_iload_n dX4_cutAt_102 rfl ?_
      refine ji_if_eq (tgt := 110) dX4_cutAt_103 rfl (by first | omega | (rw [z1]; omega)) (fun c103 => ?_) (fun c103 => ?_)
      · refine ji_aload_n dX4_cutAt_110 rfl trivial ?_
        refine ji_get (ci := 4) (k := 5) rfl dX4_cutAt_111 lX4_18 (by decide) (mk_0) rfl ?_
        refine ji_iload_n dX4_cutAt_114 rfl ?_
        refine ji_iaload dX4_cutAt_115 (mk_3) (by first | omega | (rw [z1]; omega)) ?_
        refine ji_iastoreE dX4_cutAt_116 (mk_3) (by first | omega | (rw [z1]; omega)) (mk_sT) ?_
        refine ji_iinc dX4_cutAt_117 (by decide) rfl rfl ?_
        refine ji_goto (tgt := 65) dX4_cutAt_120 rfl ?_
        first | (exfalso; rw [z1] at *; omega) | exact ji_eqv (ih (i + 1) _ (by omega)) rfl rfl (by rw [ji_map_s hi.1 (by first | (unfold mk_cT; rw [if_pos ⟨by omega, by omega⟩]; done) | (rw [z1]; unfold mk_cT; rw [if_neg (by omega)]; done))])
      · refine ji_iload_n dX4_cutAt_106 rfl ?_
        refine ji_goto (tgt := 116) dX4_cutAt_107 rfl ?_
        refine ji_iastoreE dX4_cutAt_116 (mk_3) (by first | omega | (rw [z1]; omega)) (mk_sT) ?_
        refine ji_iinc dX4_cutAt_117 (by decide) rfl rfl ?_
        refine ji_goto (tgt := 65) dX4_cutAt_120 rfl ?_
        first | (exfalso; rw [z1] at *; omega) | exact ji_eqv (ih (i + 1) _ (by omega)) rfl rfl (by rw [ji_map_s hi.1 (by first | (unfold mk_cT; rw [if_pos ⟨by omega, by omega⟩]; done) | (rw [z1]; unfold mk_cT; rw [if_neg (by omega)]; done))])
    · refine ji_aload_n dX4_cutAt_81 rfl trivial ?_
      refine ji_get (ci := 4) (k := 5) rfl dX4_cutAt_82 lX4_18 (by decide) (mk_0) rfl ?_
      refine ji_iload_n dX4_cutAt_85 rfl ?_
      refine ji_iaload dX4_cutAt_86 (mk_3) (by first | omega | (rw [z1]; omega)) ?_
      refine ji_iload_n dX4_cutAt_87 rfl ?_
      refine ji_icmp_le (tgt := 95) dX4_cutAt_88 rfl (by first | omega | (rw [z1]; omega)) (by first | omega | (rw [z1]; omega)) (fun c88 => ?_) (fun c88 => ?_)
      · refine ji_iconst dX4_cutAt_95 ?_
        refine ji_istore_n dX4_cutAt_96 (by decide) rfl ?_
        refine ji_aload_n dX4_cutAt_97 rfl trivial ?_
        refine ji_get (ci := 4) (k := 5) rfl dX4_cutAt_98 lX4_18 (by decide) (mk_0) rfl ?_
        refine ji_iload_n dX4_cutAt_101 rfl ?_
        refine ji_iload_n dX4_cutAt_102 rfl ?_
        refine ji_if_eq (tgt := 110) dX4_cutAt_103 rfl (by first | omega | (rw [z1]; omega)) (fun c103 => ?_) (fun c103 => ?_)
        · refine ji_aload_n dX4_cutAt_110 rfl trivial ?_
          refine ji_get (ci := 4) (k := 5) rfl dX4_cutAt_111 lX4_18 (by decide) (mk_0) rfl ?_
          refine ji_iload_n dX4_cutAt_114 rfl ?_
          refine ji_iaload dX4_cutAt_115 (mk_3) (by first | omega | (rw [z1]; omega)) ?_
          refine ji_iastoreE dX4_cutAt_116 (mk_3) (by first | omega | (rw [z1]; omega)) (mk_sT) ?_
          refine ji_iinc dX4_cutAt_117 (by decide) rfl rfl ?_
          refine ji_goto (tgt := 65) dX4_cutAt_120 rfl ?_
          first | (exfalso; rw [z1] at *; omega) | exact ji_eqv (ih (i + 1) _ (by omega)) rfl rfl (by rw [ji_map_s hi.1 (by first | (unfold mk_cT; rw [if_pos ⟨by omega, by omega⟩]; done) | (rw [z1]; unfold mk_cT; rw [if_neg (by omega)]; done))])
        · refine ji_iload_n dX4_cutAt_106 rfl ?_
          refine ji_goto (tgt := 116) dX4_cutAt_107 rfl ?_
          refine ji_iastoreE dX4_cutAt_116 (mk_3) (by first | omega | (rw [z1]; omega)) (mk_sT) ?_
          refine ji_iinc dX4_cutAt_117 (by decide) rfl rfl ?_
          refine ji_goto (tgt := 65) dX4_cutAt_120 rfl ?_
          first | (exfalso; rw [z1] at *; omega) | exact ji_eqv (ih (i + 1) _ (by omega)) rfl rfl (by rw [ji_map_s hi.1 (by first | (unfold mk_cT; rw [if_pos ⟨by omega, by omega⟩]; done) | (rw [z1]; unfold mk_cT; rw [if_neg (by omega)]; done))])
      · refine ji_iconst dX4_cutAt_91 ?_
        refine ji_goto (tgt := 96) dX4_cutAt_92 rfl ?_
        refine ji_istore_n dX4_cutAt_96 (by decide) rfl ?_
        refine ji_aload_n dX4_cutAt_97 rfl trivial ?_
        refine ji_get (ci := 4) (k := 5) rfl dX4_cutAt_98 lX4_18 (by decide) (mk_0) rfl ?_
        refine ji_iload_n dX4_cutAt_101 rfl ?_
        refine ji_iload_n dX4_cutAt_102 rfl ?_
        refine ji_if_eq (tgt := 110) dX4_cutAt_103 rfl (by first | omega | (rw [z1]; omega)) (fun c103 => ?_) (fun c103 => ?_)
        · refine ji_aload_n dX4_cutAt_110 rfl trivial ?_
          refine ji_get (ci := 4) (k := 5) rfl dX4_cutAt_111 lX4_18 (by decide) (mk_0) rfl ?_
          refine ji_iload_n dX4_cutAt_114 rfl ?_
          refine ji_iaload dX4_cutAt_115 (mk_3) (by first | omega | (rw [z1]; omega)) ?_
          refine ji_iastoreE dX4_cutAt_116 (mk_3) (by first | omega | (rw [z1]; omega)) (mk_sT) ?_
          refine ji_iinc dX4_cutAt_117 (by decide) rfl rfl ?_
          refine ji_goto (tgt := 65) dX4_cutAt_120 rfl ?_
          first | (exfalso; rw [z1] at *; omega) | exact ji_eqv (ih (i + 1) _ (by omega)) rfl rfl (by rw [ji_map_s hi.1 (by first | (unfold mk_cT; rw [if_pos ⟨by omega, by omega⟩]; done) | (rw [z1]; unfold mk_cT; rw [if_neg (by omega)]; done))])
        · refine ji_iload_n dX4_cutAt_106 rfl ?_
          refine ji_goto (tgt := 116) dX4_cutAt_107 rfl ?_
          refine ji_iastoreE dX4_cutAt_116 (mk_3) (by first | omega | (rw [z1]; omega)) (mk_sT) ?_
          refine ji_iinc dX4_cutAt_117 (by decide) rfl rfl ?_
          refine ji_goto (tgt := 65) dX4_cutAt_120 rfl ?_
          first | (exfalso; rw [z1] at *; omega) | exact ji_eqv (ih (i + 1) _ (by omega)) rfl rfl (by rw [ji_map_s hi.1 (by first | (unfold mk_cT; rw [if_pos ⟨by omega, by omega⟩]; done) | (rw [z1]; unfold mk_cT; rw [if_neg (by omega)]; done))])

set_option maxHeartbeats 4000000 in
set_option maxRecDepth 100000 in
theorem k_Marks_cutAt_l1  {blank : Int} (b_blank : -1000000 ≤ blank ∧ blank ≤ 1000000) (hr : -1000000 ≤ r ∧ r ≤ 1000000) (hJ : ∀ i, -1000000 ≤ J i ∧ J i ≤ 1000000) (hF : ∀ i, -1000000 ≤ F i ∧ F i ≤ 1000000) (hT : ∀ i, -1000000 ≤ T i ∧ T i ≤ 1000000) : ∀ (g : Nat) (i : Int) (o3 : Option Value), 0 ≤ i ∧ i + g = 5 →
    JW G (d + 1) mX4_cutAt 24 [some (.ref b), some (.int (jI blank)), some (.int (jI i)), o3] [] (n, mk_h b f (mk_cut r blank) j a (ji_map (fun k => mk_cut (J k) blank) J i) F T C) 0 0 (fun r9 h9 => r9 = .inl none ∧ h9 = (n, mk_h b f (mk_cut r blank) j a (ji_map (fun k => mk_cut (J k) blank) J 5) F (ji_map (mk_cT F T blank) T 12) C)) := by
  intro g
  induction g with
  | zero =>
    intro i o3 hi
    have ei : i = 5 := by omega
    subst ei

    refine ji_iload_n dX4_cutAt_24 rfl ?_
    refine ji_iconst dX4_cutAt_25 ?_
    refine ji_icmp_ge (tgt := 63) dX4_cutAt_26 rfl (by omega) (by omega) (fun c26 => ?_) (fun c26 => absurd c26 (by omega))
    refine ji_iconst dX4_cutAt_63 ?_
    refine ji_istore_n dX4_cutAt_64 (by decide) rfl ?_
    exact ji_eqv (k_Marks_cutAt_l2 b_blank hr hJ hF hT 12 0 _ (by omega)) rfl rfl (by rw [ji_map_0])
  | succ g ih =>
    intro i o3 hi
    have q1 := hJ i.toNat
    have z3 := ji_map_at (g := fun k => mk_cut (J k) blank) (o := J) hi.1

    refine ji_iload_n dX4_cutAt_24 rfl ?_
    refine ji_iconst dX4_cutAt_25 ?_
    refine ji_icmp_ge (tgt := 63) dX4_cutAt_26 rfl (by first | omega | (rw [z3]; omega)) (by first | omega | (rw [z3]; omega)) (fun c26 => absurd c26 (by omega)) (fun c26 => ?_)
    refine ji_aload_n dX4_cutAt_29 rfl trivial ?_
    refine ji_get (ci := 4) (k := 2) rfl dX4_cutAt_30 lX4_9 (by decide) (mk_0) rfl ?_
    refine ji_iload_n dX4_cutAt_33 rfl ?_
    refine ji_aload_n dX4_cutAt_34 rfl trivial ?_
    refine ji_get (ci := 4) (k := 2) rfl dX4_cutAt_35 lX4_9 (by decide) (mk_0) rfl ?_
    refine ji_iload_n dX4_cutAt_38 rfl ?_
    refine ji_iaload dX4_cutAt_39 (mk_1) (by first | omega | (rw [z3]; omega)) ?_
    refine ji_iload_n dX4_cutAt_40 rfl ?_
    refine ji_icmp_ne (tgt := 50) dX4_cutAt_41 rfl (by first | omega | (rw [z3]; omega)) (by first | omega | (rw [z3]; omega)) (fun c41 => ?_) (fun c41 => ?_)
    · refine ji_aload_n dX4_cutAt_50 rfl trivial ?_
      refine ji_get (ci := 4) (k := 2) rfl dX4_cutAt_51 lX4_9 (by decide) (mk_0) rfl ?_
      refine ji_iload_n dX4_cutAt_54 rfl ?_
      refine ji_iaload dX4_cutAt_55 (mk_1) (by first | omega | (rw [z3]; omega)) ?_
      refine ji_iastoreE dX4_cutAt_56 (mk_1) (by first | omega | (rw [z3]; omega)) (mk_sJ) ?_
      refine ji_iinc dX4_cutAt_57 (by decide) rfl rfl ?_
      refine ji_goto (tgt := 24) dX4_cutAt_60 rfl ?_
      exact ji_eqv (ih (i + 1) _ (by omega)) rfl rfl (by rw [ji_map_s hi.1 (by first | (unfold mk_cut; rw [if_pos (by omega)]; done) | (rw [z3]; unfold mk_cut; rw [if_neg (by omega)]; done))])
    · refine ji_iload_n dX4_cutAt_44 rfl ?_
      refine ji_iconst dX4_cutAt_45 ?_
      refine ji_isub dX4_cutAt_46 ?_
      refine ji_goto (tgt := 56) dX4_cutAt_47 rfl ?_
      refine ji_iastoreE dX4_cutAt_56 (mk_1) (by first | omega | (rw [z3]; omega)) (mk_sJ) ?_
      refine ji_iinc dX4_cutAt_57 (by decide) rfl rfl ?_
      refine ji_goto (tgt := 24) dX4_cutAt_60 rfl ?_
      exact ji_eqv (ih (i + 1) _ (by omega)) rfl rfl (by rw [ji_map_s hi.1 (by first | (unfold mk_cut; rw [if_pos (by omega)]; done) | (rw [z3]; unfold mk_cut; rw [if_neg (by omega)]; done))])

set_option maxHeartbeats 4000000 in
set_option maxRecDepth 100000 in
theorem k_Marks_cutAt  {blank : Int} (b_blank : -1000000 ≤ blank ∧ blank ≤ 1000000) (hr : -1000000 ≤ r ∧ r ≤ 1000000) (hJ : ∀ i, -1000000 ≤ J i ∧ J i ≤ 1000000) (hF : ∀ i, -1000000 ≤ F i ∧ F i ≤ 1000000) (hT : ∀ i, -1000000 ≤ T i ∧ T i ≤ 1000000) : JR G (d + 1) mX4_cutAt [.ref b, .int (jI (blank))] (n, mk_h b f r j a J F T C) 0 0 none (n, mk_h b f (mk_cut r blank) j a (ji_map (fun k => mk_cut (J k) blank) J 5) F (ji_map (mk_cT F T blank) T 12) C) := by
  refine ji_ent (by decide) rfl (Nat.le_of_ble_eq_true rfl) rfl ?_
  refine ji_aload_n dX4_cutAt_0 rfl trivial ?_
  refine ji_aload_n dX4_cutAt_1 rfl trivial ?_
  refine ji_get (ci := 4) (k := 0) rfl dX4_cutAt_2 lX4_24 (by decide) (mk_0) rfl ?_
  refine ji_iload_n dX4_cutAt_5 rfl ?_
  refine ji_icmp_ne (tgt := 15) dX4_cutAt_6 rfl (by omega) (by omega) (fun c6 => ?_) (fun c6 => ?_)
  · refine ji_aload_n dX4_cutAt_15 rfl trivial ?_
    refine ji_get (ci := 4) (k := 0) rfl dX4_cutAt_16 lX4_24 (by decide) (mk_0) rfl ?_
    refine ji_putE (ci := 4) (k := 0) rfl dX4_cutAt_19 lX4_24 (by decide) (mk_0) (by simp) (ji_fitI _) rfl (mk_pr) ?_
    refine ji_iconst dX4_cutAt_22 ?_
    refine ji_istore_n dX4_cutAt_23 (by decide) rfl ?_
    exact ji_eqv (k_Marks_cutAt_l1 b_blank hr hJ hF hT 5 0 _ (by omega)) rfl rfl (by rw [ji_map_0]; unfold mk_cut; first | (rw [if_pos (by omega)]; done) | (rw [if_neg (by omega)]; done))
  · refine ji_iload_n dX4_cutAt_9 rfl ?_
    refine ji_iconst dX4_cutAt_10 ?_
    refine ji_isub dX4_cutAt_11 ?_
    refine ji_goto (tgt := 19) dX4_cutAt_12 rfl ?_
    refine ji_putE (ci := 4) (k := 0) rfl dX4_cutAt_19 lX4_24 (by decide) (mk_0) (by simp) (ji_fitI _) rfl (mk_pr) ?_
    refine ji_iconst dX4_cutAt_22 ?_
    refine ji_istore_n dX4_cutAt_23 (by decide) rfl ?_
    exact ji_eqv (k_Marks_cutAt_l1 b_blank hr hJ hF hT 5 0 _ (by omega)) rfl rfl (by rw [ji_map_0]; unfold mk_cut; first | (rw [if_pos (by omega)]; done) | (rw [if_neg (by omega)]; done))

end MMarks2
