/-! ===== the reference: edits ===== -/
def rf_O2 (z : Nat → Int) (q x m : Int) : Nat → Int := va_up (va_cpy z z (95 + 360 * q + x).toNat (95 + 360 * q + x + m).toNat (z (85 + q).toNat - x).toNat) (85 + q).toNat (z (85 + q).toNat + m)
def rf_O3 (z : Nat → Int) (q x m : Int) : Nat → Int := rf_pl id_a (op_b q x m) (rf_O2 z q x m) (rf_O2 z q x m 3 + 1).toNat
def rf_OP (z : Nat → Int) (q x m : Int) : Nat → Int := rf_mk id_0 (op_1 q x m) (op_2 q x m) id_4 (rf_O3 z q x m) (rf_O3 z q x m 14).toNat
theorem rf_O2_l {z : Nat → Int} {q x m : Int} (hq : 0 ≤ q ∧ q < 10) (hx : 0 ≤ x) (hm : 0 ≤ m) {j : Nat} (hj : j < 75) : rf_O2 z q x m j = z j := by
  unfold rf_O2; rw [va_up_ne _ _ (by omega), va_cpy_r (by omega)]
theorem rf_O2_b {z : Nat → Int} {q x m : Int} (hB : ∀ j, -10000 ≤ z j ∧ z j ≤ 10000) (hL : 0 ≤ z (85 + q).toNat + m ∧ z (85 + q).toNat + m ≤ 1000) (j : Nat) : -10000 ≤ rf_O2 z q x m j ∧ rf_O2 z q x m j ≤ 10000 := by
  unfold rf_O2; exact va_up_b (fun i => va_cpy_b hB hB i) (by omega) j
theorem op_bb {q x m : Int} (hm : 0 ≤ m ∧ m ≤ 400) (u v : Int) (h : -10000 ≤ v ∧ v ≤ 10000) : -10400 ≤ op_b q x m u v ∧ op_b q x m u v ≤ 10400 := by unfold op_b; split <;> omega
theorem rf_O3_b {z : Nat → Int} {q x m : Int} (hB : ∀ j, -10000 ≤ z j ∧ z j ≤ 10000) (hL : 0 ≤ z (85 + q).toNat + m ∧ z (85 + q).toNat + m ≤ 1000) (hm : 0 ≤ m ∧ m ≤ 400) (j : Nat) : -10400 ≤ rf_O3 z q x m j ∧ rf_O3 z q x m j ≤ 10400 :=
  rf_pl_b (rf_O2_b hB hL) (by omega) (fun u v h _ => by unfold id_a; omega) (fun u v _ h => op_bb hm u v h) _ j
def rf_PI (z nl nt : Nat → Int) (sz : Int) (bf : Nat → Int) (q w : Int) : Nat → Int :=
  if w = rf_WO z nt q then va_up (va_cpy bf (rf_OP z q (rf_ST (rf_sz z nl q) (rf_ch z nt q) w) (sz + 1)) 0 (95 + 360 * q + rf_ST (rf_sz z nl q) (rf_ch z nt q) w + 1).toNat sz.toNat) (95 + 360 * q + rf_ST (rf_sz z nl q) (rf_ch z nt q) w + 0).toNat 32
  else va_up (va_cpy bf (rf_OP z q (rf_ST (rf_sz z nl q) (rf_ch z nt q) w) (sz + 1)) 0 (95 + 360 * q + rf_ST (rf_sz z nl q) (rf_ch z nt q) w + 0).toNat sz.toNat) (95 + 360 * q + rf_ST (rf_sz z nl q) (rf_ch z nt q) w + sz).toNat 32
def rf_C2 (z : Nat → Int) (q x y : Int) : Nat → Int := va_up (va_cpy z z (95 + 360 * q + y).toNat (95 + 360 * q + x).toNat (z (85 + q).toNat - y).toNat) (85 + q).toNat (z (85 + q).toNat - (y - x))
def rf_C3 (z : Nat → Int) (q x y : Int) : Nat → Int := rf_pl id_a (cs_b q x y (z (85 + q).toNat - (y - x))) (rf_C2 z q x y) (rf_C2 z q x y 3 + 1).toNat
def rf_CS (z : Nat → Int) (q x y : Int) : Nat → Int := rf_mk id_0 (cs_1 q x y) (cs_2 q x y) (cs_4 q x y) (rf_C3 z q x y) (rf_C3 z q x y 14).toNat
theorem rf_C2_l {z : Nat → Int} {q x y : Int} (hq : 0 ≤ q ∧ q < 10) (hx : 0 ≤ x) {j : Nat} (hj : j < 75) : rf_C2 z q x y j = z j := by
  unfold rf_C2; rw [va_up_ne _ _ (by omega), va_cpy_r (by omega)]
theorem rf_C2_b {z : Nat → Int} {q x y : Int} (hB : ∀ j, -10000 ≤ z j ∧ z j ≤ 10000) (hL : 0 ≤ z (85 + q).toNat - (y - x) ∧ z (85 + q).toNat - (y - x) ≤ 1000) (j : Nat) : -10000 ≤ rf_C2 z q x y j ∧ rf_C2 z q x y j ≤ 10000 := by
  unfold rf_C2; exact va_up_b (fun i => va_cpy_b hB hB i) (by omega) j
theorem cs_bb {q x y L : Int} (hx : 0 ≤ x ∧ x ≤ y ∧ y ≤ 400) (hL : 0 ≤ L ∧ L ≤ 1000) (u v : Int) (h : -10000 ≤ v ∧ v ≤ 10000) : -11000 ≤ cs_b q x y L u v ∧ cs_b q x y L u v ≤ 11000 := by unfold cs_b rf_bh; (repeat' split) <;> omega
theorem rf_C3_b {z : Nat → Int} {q x y : Int} (hB : ∀ j, -10000 ≤ z j ∧ z j ≤ 10000) (hL : 0 ≤ z (85 + q).toNat - (y - x) ∧ z (85 + q).toNat - (y - x) ≤ 1000) (hx : 0 ≤ x ∧ x ≤ y ∧ y ≤ 400) (j : Nat) : -11000 ≤ rf_C3 z q x y j ∧ rf_C3 z q x y j ≤ 11000 :=
  rf_pl_b (rf_C2_b hB hL) (by omega) (fun u v h _ => by unfold id_a; omega) (fun u v _ h => cs_bb hx hL u v h) _ j
section RF
variable {G : ji_G} {d n : Nat} {f : Nat → ji_C} {th ed wi ht sz rs rr rq rp mm ln co ro pg : Int} {z kp nt nl sy bf lo lf lt pf : Nat → Int} {hsh : Int64}
set_option maxHeartbeats 4000000 in
set_option maxRecDepth 100000 in
theorem r_open_a {bc bs : Nat} {Q : ji_R → ji_H → Prop} {q x m : Int} (hq : 0 ≤ q ∧ q < 10) (hx : 0 ≤ x ∧ x ≤ z (85 + q).toNat) (hm : 0 ≤ m ∧ z (85 + q).toNat + m ≤ 360) (kk : ∀ k, JW G d mX8_open 59 [some (.ref 60), some (.int (jI q)), some (.int (jI x)), some (.int (jI m)), some (.int (jI k)), none, none] [] (n, rf_f f th (va_cpy z z (95 + 360 * q + (x)).toNat (95 + 360 * q + (x) + m).toNat (z (85 + q).toNat - (x)).toNat) kp ed nt nl wi ht sy sz bf rs rr rq rp mm ln lo lf lt co ro pg pf hsh) bc bs Q) : ∀ (u : Nat) (k : Int), x ≤ k + 1 ∧ k + 1 = x + u ∧ k < z (85 + q).toNat →
    JW G d mX8_open 13 [some (.ref 60), some (.int (jI q)), some (.int (jI x)), some (.int (jI m)), some (.int (jI k)), none, none] [] (n, rf_f f th (va_cpy z z (95 + 360 * q + (k + 1)).toNat (95 + 360 * q + (k + 1) + m).toNat (z (85 + q).toNat - (k + 1)).toNat) kp ed nt nl wi ht sy sz bf rs rr rq rp mm ln lo lf lt co ro pg pf hsh) bc bs Q := by
  intro u
  induction u with
  | zero =>
    intro k hk
    refine ji_iload dX8_open_13 rfl ?_
    refine ji_iload_n dX8_open_15 rfl ?_
    refine ji_icmp_lt (tgt := 59) dX8_open_16 rfl (by omega) (by omega) (fun c16 => ?_) (fun c16 => absurd c16 (by omega))
    exact ji_eqv (kk k) rfl rfl (by rw [show k + 1 = x by omega])
  | succ u ih =>
    intro k hk
    refine ji_iload dX8_open_13 rfl ?_
    refine ji_iload_n dX8_open_15 rfl ?_
    refine ji_icmp_lt (tgt := 59) dX8_open_16 rfl (by omega) (by omega) (fun c16 => absurd c16 (by omega)) (fun c16 => ?_)
    refine ji_aload_n dX8_open_19 rfl trivial ?_
    refine ji_get (ci := 8) (k := 1) rfl dX8_open_20 lX8_7 (by decide) (rf_60) rfl ?_
    refine ji_bipush dX8_open_23 rfl ?_
    refine ji_sipush dX8_open_25 rfl ?_
    refine ji_iload_n dX8_open_28 rfl ?_
    refine ji_imul dX8_open_29 ?_
    refine ji_iadd dX8_open_30 ?_
    refine ji_iload dX8_open_31 rfl ?_
    refine ji_iadd dX8_open_33 ?_
    refine ji_iload_n dX8_open_34 rfl ?_
    refine ji_iadd dX8_open_35 ?_
    refine ji_aload_n dX8_open_36 rfl trivial ?_
    refine ji_get (ci := 8) (k := 1) rfl dX8_open_37 lX8_7 (by decide) (rf_60) rfl ?_
    refine ji_bipush dX8_open_40 rfl ?_
    refine ji_sipush dX8_open_42 rfl ?_
    refine ji_iload_n dX8_open_45 rfl ?_
    refine ji_imul dX8_open_46 ?_
    refine ji_iadd dX8_open_47 ?_
    refine ji_iload dX8_open_48 rfl ?_
    refine ji_iadd dX8_open_50 ?_
    refine ji_iaload dX8_open_51 (rf_61) (by omega) ?_
    rw [va_cpy_r (by omega)]
    refine ji_iastoreE dX8_open_52 (rf_61) (by omega) (rf_s61) ?_
    refine ji_iinc dX8_open_53 (by decide) rfl rfl ?_
    refine ji_goto (tgt := 13) dX8_open_56 rfl ?_
    exact ji_eqv (ih (k + -1) (by omega)) rfl rfl (by rw [show k + -1 + 1 = k by omega, show (95 + 360 * q + (k + 1)).toNat = (95 + 360 * q + k).toNat + 1 by omega, show (95 + 360 * q + (k + 1) + m).toNat = (95 + 360 * q + k).toNat + 1 + m.toNat by omega, show (95 + 360 * q + k + m).toNat = (95 + 360 * q + k).toNat + m.toNat by omega, va_cpy_d, show (z (85 + q).toNat - (k + 1)).toNat + 1 = (z (85 + q).toNat - k).toNat by omega])

set_option maxHeartbeats 4000000 in
set_option maxRecDepth 100000 in
theorem r_open {q x m : Int} (hq : 0 ≤ q ∧ q < 10) (hx : 0 ≤ x ∧ x ≤ z (85 + q).toNat) (hm : 0 ≤ m ∧ z (85 + q).toNat + m ≤ 360) (hB : ∀ j, -10000 ≤ z j ∧ z j ≤ 10000) (h3 : 0 ≤ z 3 ∧ z 3 ≤ 5) (h14 : 0 ≤ z 14 ∧ z 14 ≤ 12) : JR G d mX8_open [.ref 60, .int (jI q), .int (jI x), .int (jI m)] (n, rf_f f th z kp ed nt nl wi ht sy sz bf rs rr rq rp mm ln lo lf lt co ro pg pf hsh) 0 0 none (n, rf_f f th (rf_OP z q x m) kp ed nt nl wi ht sy sz bf rs rr rq rp mm ln lo lf lt co ro pg pf hsh) := by
  have e3 : rf_O2 z q x m 3 = z 3 := rf_O2_l hq hx.1 hm.1 (by omega)
  have e14 : rf_O3 z q x m 14 = z 14 := (rf_pl_h (by omega) (by omega)).trans (rf_O2_l hq hx.1 hm.1 (by omega))
  refine ji_ent (by decide) rfl (Nat.le_of_ble_eq_true rfl) rfl ?_
  refine ji_aload_n dX8_open_0 rfl trivial ?_
  refine ji_get (ci := 8) (k := 1) rfl dX8_open_1 lX8_7 (by decide) (rf_60) rfl ?_
  refine ji_bipush dX8_open_4 rfl ?_
  refine ji_iload_n dX8_open_6 rfl ?_
  refine ji_iadd dX8_open_7 ?_
  refine ji_iaload dX8_open_8 (rf_61) (by omega) ?_
  refine ji_iconst dX8_open_9 ?_
  refine ji_isub dX8_open_10 ?_
  refine ji_istore dX8_open_11 (by decide) rfl ?_
  refine ji_eqv (h2 := (n, rf_f f th (va_cpy z z (95 + 360 * q + (z (85 + q).toNat - 1 + 1)).toNat (95 + 360 * q + (z (85 + q).toNat - 1 + 1) + m).toNat (z (85 + q).toNat - (z (85 + q).toNat - 1 + 1)).toNat) kp ed nt nl wi ht sy sz bf rs rr rq rp mm ln lo lf lt co ro pg pf hsh)) (r_open_a hq hx hm (fun k => ?_) (z (85 + q).toNat - x).toNat (z (85 + q).toNat - 1) (by omega)) rfl rfl (by rw [show (z (85 + q).toNat - (z (85 + q).toNat - 1 + 1)).toNat = 0 by omega, va_cpy_0])
  refine ji_aload_n dX8_open_59 rfl trivial ?_
  refine ji_get (ci := 8) (k := 1) rfl dX8_open_60 lX8_7 (by decide) (rf_60) rfl ?_
  refine ji_bipush dX8_open_63 rfl ?_
  refine ji_iload_n dX8_open_65 rfl ?_
  refine ji_iadd dX8_open_66 ?_
  refine ji_dup2 dX8_open_67 rfl rfl ?_
  refine ji_iaload dX8_open_68 (rf_61) (by omega) ?_
  rw [va_cpy_r (by omega)]
  refine ji_iload_n dX8_open_69 rfl ?_
  refine ji_iadd dX8_open_70 ?_
  refine ji_iastoreE dX8_open_71 (rf_61) (by omega) (rf_s61) ?_
  refine ji_iconst dX8_open_72 ?_
  refine ji_istore dX8_open_73 (by decide) rfl ?_
  refine ji_eqv (h2 := (n, rf_f f th (rf_pl id_a (op_b q x m) (rf_O2 z q x m) (0 : Int).toNat) kp ed nt nl wi ht sy sz bf rs rr rq rp mm ln lo lf lt co ro pg pf hsh)) (r_open_p (z := rf_O2 z q x m) hq (by omega) (by omega) (fun j => by have := rf_O2_b hB (q := q) (x := x) (m := m) (by omega) j; omega) (by omega) (fun k o => ?_) (rf_O2 z q x m 3 + 1).toNat 0 _ (by omega)) rfl rfl (by rw [show (0 : Int).toNat = 0 from rfl, rf_pl_0]; rfl)
  refine ji_iconst dX8_open_152 ?_
  refine ji_istore dX8_open_153 (by decide) rfl ?_
  exact ji_eqv (h2 := (n, rf_f f th (rf_mk id_0 (op_1 q x m) (op_2 q x m) id_4 (rf_O3 z q x m) (0 : Int).toNat) kp ed nt nl wi ht sy sz bf rs rr rq rp mm ln lo lf lt co ro pg pf hsh)) (r_open_m (z := rf_O3 z q x m) hq (by omega) (by omega) (fun j => by have := rf_O3_b hB (q := q) (x := x) (m := m) (by omega) (by omega) j; omega) (by omega) (rf_O3 z q x m 14).toNat 0 _ _ (by omega)) rfl rfl (by rw [show (0 : Int).toNat = 0 from rfl, rf_mk_0]; rfl)

set_option maxHeartbeats 4000000 in
set_option maxRecDepth 100000 in
theorem r_listWords_l {bc bs : Nat} (hz9 : 0 ≤ sz ∧ sz ≤ 100) (hbf : ∀ k, 0 ≤ bf k ∧ bf k < 128) : ∀ (u : Nat) (c k : Int), 0 ≤ k ∧ k + u = sz → c = 1 + in_tm bf 32 k.toNat →
    JW G d mX8_listWords 4 [some (.ref 60), some (.int (jI c)), some (.int (jI k))] [] (n, rf_f f th z kp ed nt nl wi ht sy sz bf rs rr rq rp mm ln lo lf lt co ro pg pf hsh) bc bs (fun r9 h9 => r9 = .inl (some (.int (jI (1 + in_tm bf 32 sz.toNat)))) ∧ h9 = (n, rf_f f th z kp ed nt nl wi ht sy sz bf rs rr rq rp mm ln lo lf lt co ro pg pf hsh)) := by
  intro u
  induction u with
  | zero =>
    intro c k hk hc
    refine ji_iload_n dX8_listWords_4 rfl ?_
    refine ji_aload_n dX8_listWords_5 rfl trivial ?_
    refine ji_get (ci := 8) (k := 9) rfl dX8_listWords_6 lX8_54 (by decide) (rf_60) rfl ?_
    refine ji_icmp_ge (tgt := 37) dX8_listWords_9 rfl (by omega) (by omega) (fun c9 => ?_) (fun c9 => absurd c9 (by omega))
    refine ji_iload_n dX8_listWords_37 rfl ?_
    exact ji_ireturn dX8_listWords_38 rfl (rfl) ⟨jr_i (by rw [hc, show k = sz by omega]), rfl⟩
  | succ u ih =>
    intro c k hk hc
    have wb := hbf k.toNat
    refine ji_iload_n dX8_listWords_4 rfl ?_
    refine ji_aload_n dX8_listWords_5 rfl trivial ?_
    refine ji_get (ci := 8) (k := 9) rfl dX8_listWords_6 lX8_54 (by decide) (rf_60) rfl ?_
    refine ji_icmp_ge (tgt := 37) dX8_listWords_9 rfl (by omega) (by omega) (fun c9 => absurd c9 (by omega)) (fun c9 => ?_)
    refine ji_iload_n dX8_listWords_12 rfl ?_
    refine ji_aload_n dX8_listWords_13 rfl trivial ?_
    refine ji_get (ci := 8) (k := 10) rfl dX8_listWords_14 lX8_32 (by decide) (rf_60) rfl ?_
    refine ji_iload_n dX8_listWords_17 rfl ?_
    refine ji_iaload dX8_listWords_18 (rf_66) (by omega) ?_
    refine ji_bipush dX8_listWords_19 rfl ?_
    refine ji_icmp_ne (tgt := 28) dX8_listWords_21 rfl (by omega) (by omega) (fun c21 => ?_) (fun c21 => ?_)
    · try (exfalso; omega)
      all_goals
        refine ji_iconst dX8_listWords_28 ?_
        refine ji_iadd dX8_listWords_29 ?_
        refine ji_istore_n dX8_listWords_30 (by decide) rfl ?_
        refine ji_iinc dX8_listWords_31 (by decide) rfl rfl ?_
        refine ji_goto (tgt := 4) dX8_listWords_34 rfl ?_
        exact ih _ _ (by omega) (by rw [show (k + 1).toNat = k.toNat + 1 by omega, in_tm, hc]; first | (rw [if_pos (by omega)]; omega) | (rw [if_neg (by omega)]; omega))
    · try (exfalso; omega)
      all_goals
        refine ji_iconst dX8_listWords_24 ?_
        refine ji_goto (tgt := 29) dX8_listWords_25 rfl ?_
        refine ji_iadd dX8_listWords_29 ?_
        refine ji_istore_n dX8_listWords_30 (by decide) rfl ?_
        refine ji_iinc dX8_listWords_31 (by decide) rfl rfl ?_
        refine ji_goto (tgt := 4) dX8_listWords_34 rfl ?_
        exact ih _ _ (by omega) (by rw [show (k + 1).toNat = k.toNat + 1 by omega, in_tm, hc]; first | (rw [if_pos (by omega)]; omega) | (rw [if_neg (by omega)]; omega))

set_option maxHeartbeats 4000000 in
set_option maxRecDepth 100000 in
theorem r_listWords (hz9 : 0 ≤ sz ∧ sz ≤ 100) (hbf : ∀ k, 0 ≤ bf k ∧ bf k < 128) : JR G d mX8_listWords [.ref 60] (n, rf_f f th z kp ed nt nl wi ht sy sz bf rs rr rq rp mm ln lo lf lt co ro pg pf hsh) 0 0 (some (.int (jI (1 + in_tm bf 32 sz.toNat)))) (n, rf_f f th z kp ed nt nl wi ht sy sz bf rs rr rq rp mm ln lo lf lt co ro pg pf hsh) := by
  refine ji_ent (by decide) rfl (Nat.le_of_ble_eq_true rfl) rfl ?_
  refine ji_iconst dX8_listWords_0 ?_
  refine ji_istore_n dX8_listWords_1 (by decide) rfl ?_
  refine ji_iconst dX8_listWords_2 ?_
  refine ji_istore_n dX8_listWords_3 (by decide) rfl ?_
  exact r_listWords_l hz9 hbf sz.toNat 1 0 (by omega) rfl

set_option maxHeartbeats 4000000 in
set_option maxRecDepth 100000 in
theorem r_putIn_l1 {bc bs : Nat} {q w x s : Int} (hz9 : 0 ≤ sz ∧ sz ≤ 100) (hs : 0 ≤ s ∧ s + sz + 1 ≤ 3695) : ∀ (u : Nat) (k : Int), 0 ≤ k ∧ k + u = sz →
    JW G d mX8_putIn 52 [some (.ref 60), some (.int (jI q)), some (.int (jI w)), some (.int (jI 1)), some (.int (jI x)), some (.int (jI s)), some (.int (jI k))] [] (n, rf_f f th (va_cpy bf z 0 (s + 1).toNat k.toNat) kp ed nt nl wi ht sy sz bf rs rr rq rp mm ln lo lf lt co ro pg pf hsh) bc bs (fun r9 h9 => r9 = .inl none ∧ h9 = (n, rf_f f th (va_up (va_cpy bf z 0 (s + 1).toNat sz.toNat) (s + 0).toNat 32) kp ed nt nl wi ht sy sz bf rs rr rq rp mm ln lo lf lt co ro pg pf hsh)) := by
  intro u
  induction u with
  | zero =>
    intro k hk
    refine ji_iload dX8_putIn_52 rfl ?_
    refine ji_aload_n dX8_putIn_54 rfl trivial ?_
    refine ji_get (ci := 8) (k := 9) rfl dX8_putIn_55 lX8_54 (by decide) (rf_60) rfl ?_
    refine ji_icmp_ge (tgt := 94) dX8_putIn_58 rfl (by omega) (by omega) (fun c58 => ?_) (fun c58 => absurd c58 (by omega))
    refine ji_aload_n dX8_putIn_94 rfl trivial ?_
    refine ji_get (ci := 8) (k := 1) rfl dX8_putIn_95 lX8_7 (by decide) (rf_60) rfl ?_
    refine ji_iload dX8_putIn_98 rfl ?_
    refine ji_iload_n dX8_putIn_100 rfl ?_
    refine ji_if_eq (tgt := 108) dX8_putIn_101 rfl (by omega) (fun c101 => ?_) (fun c101 => ?_)
    · try (exfalso; omega)
      all_goals
        refine ji_aload_n dX8_putIn_108 rfl trivial ?_
        refine ji_get (ci := 8) (k := 9) rfl dX8_putIn_109 lX8_54 (by decide) (rf_60) rfl ?_
        refine ji_iadd dX8_putIn_112 ?_
        refine ji_bipush dX8_putIn_113 rfl ?_
        refine ji_iastoreE dX8_putIn_115 (rf_61) (by omega) (rf_s61) ?_
        exact ji_return dX8_putIn_116 rfl ⟨rfl, by rw [show k.toNat = sz.toNat by omega]⟩
    · try (exfalso; omega)
      all_goals
        refine ji_iconst dX8_putIn_104 ?_
        refine ji_goto (tgt := 112) dX8_putIn_105 rfl ?_
        refine ji_iadd dX8_putIn_112 ?_
        refine ji_bipush dX8_putIn_113 rfl ?_
        refine ji_iastoreE dX8_putIn_115 (rf_61) (by omega) (rf_s61) ?_
        exact ji_return dX8_putIn_116 rfl ⟨rfl, by rw [show k.toNat = sz.toNat by omega]⟩
  | succ u ih =>
    intro k hk
    refine ji_iload dX8_putIn_52 rfl ?_
    refine ji_aload_n dX8_putIn_54 rfl trivial ?_
    refine ji_get (ci := 8) (k := 9) rfl dX8_putIn_55 lX8_54 (by decide) (rf_60) rfl ?_
    refine ji_icmp_ge (tgt := 94) dX8_putIn_58 rfl (by omega) (by omega) (fun c58 => absurd c58 (by omega)) (fun c58 => ?_)
    refine ji_aload_n dX8_putIn_61 rfl trivial ?_
    refine ji_get (ci := 8) (k := 1) rfl dX8_putIn_62 lX8_7 (by decide) (rf_60) rfl ?_
    refine ji_iload dX8_putIn_65 rfl ?_
    refine ji_iload dX8_putIn_67 rfl ?_
    refine ji_iadd dX8_putIn_69 ?_
    refine ji_iload_n dX8_putIn_70 rfl ?_
    refine ji_if_eq (tgt := 78) dX8_putIn_71 rfl (by omega) (fun c71 => ?_) (fun c71 => ?_)
    · try (exfalso; omega)
      all_goals
        refine ji_iconst dX8_putIn_78 ?_
        refine ji_iadd dX8_putIn_79 ?_
        refine ji_aload_n dX8_putIn_80 rfl trivial ?_
        refine ji_get (ci := 8) (k := 10) rfl dX8_putIn_81 lX8_32 (by decide) (rf_60) rfl ?_
        refine ji_iload dX8_putIn_84 rfl ?_
        refine ji_iaload dX8_putIn_86 (rf_66) (by omega) ?_
        refine ji_iastoreE dX8_putIn_87 (rf_61) (by omega) (rf_s61) ?_
        refine ji_iinc dX8_putIn_88 (by decide) rfl rfl ?_
        refine ji_goto (tgt := 52) dX8_putIn_91 rfl ?_
        exact ji_eqv (ih (k + 1) (by omega)) rfl rfl (by rw [show (k + 1).toNat = k.toNat + 1 by omega, ← va_cpy_u, show (s + 1).toNat + k.toNat = (s + k + 1).toNat by omega, show 0 + k.toNat = k.toNat by omega])
    · try (exfalso; omega)
      all_goals
        refine ji_iconst dX8_putIn_74 ?_
        refine ji_goto (tgt := 79) dX8_putIn_75 rfl ?_
        refine ji_iadd dX8_putIn_79 ?_
        refine ji_aload_n dX8_putIn_80 rfl trivial ?_
        refine ji_get (ci := 8) (k := 10) rfl dX8_putIn_81 lX8_32 (by decide) (rf_60) rfl ?_
        refine ji_iload dX8_putIn_84 rfl ?_
        refine ji_iaload dX8_putIn_86 (rf_66) (by omega) ?_
        refine ji_iastoreE dX8_putIn_87 (rf_61) (by omega) (rf_s61) ?_
        refine ji_iinc dX8_putIn_88 (by decide) rfl rfl ?_
        refine ji_goto (tgt := 52) dX8_putIn_91 rfl ?_
        exact ji_eqv (ih (k + 1) (by omega)) rfl rfl (by rw [show (k + 1).toNat = k.toNat + 1 by omega, ← va_cpy_u, show (s + 1).toNat + k.toNat = (s + k + 1).toNat by omega, show 0 + k.toNat = k.toNat by omega])

set_option maxHeartbeats 4000000 in
set_option maxRecDepth 100000 in
theorem r_putIn_l0 {bc bs : Nat} {q w x s : Int} (hz9 : 0 ≤ sz ∧ sz ≤ 100) (hs : 0 ≤ s ∧ s + sz + 1 ≤ 3695) : ∀ (u : Nat) (k : Int), 0 ≤ k ∧ k + u = sz →
    JW G d mX8_putIn 52 [some (.ref 60), some (.int (jI q)), some (.int (jI w)), some (.int (jI 0)), some (.int (jI x)), some (.int (jI s)), some (.int (jI k))] [] (n, rf_f f th (va_cpy bf z 0 (s + 0).toNat k.toNat) kp ed nt nl wi ht sy sz bf rs rr rq rp mm ln lo lf lt co ro pg pf hsh) bc bs (fun r9 h9 => r9 = .inl none ∧ h9 = (n, rf_f f th (va_up (va_cpy bf z 0 (s + 0).toNat sz.toNat) (s + sz).toNat 32) kp ed nt nl wi ht sy sz bf rs rr rq rp mm ln lo lf lt co ro pg pf hsh)) := by
  intro u
  induction u with
  | zero =>
    intro k hk
    refine ji_iload dX8_putIn_52 rfl ?_
    refine ji_aload_n dX8_putIn_54 rfl trivial ?_
    refine ji_get (ci := 8) (k := 9) rfl dX8_putIn_55 lX8_54 (by decide) (rf_60) rfl ?_
    refine ji_icmp_ge (tgt := 94) dX8_putIn_58 rfl (by omega) (by omega) (fun c58 => ?_) (fun c58 => absurd c58 (by omega))
    refine ji_aload_n dX8_putIn_94 rfl trivial ?_
    refine ji_get (ci := 8) (k := 1) rfl dX8_putIn_95 lX8_7 (by decide) (rf_60) rfl ?_
    refine ji_iload dX8_putIn_98 rfl ?_
    refine ji_iload_n dX8_putIn_100 rfl ?_
    refine ji_if_eq (tgt := 108) dX8_putIn_101 rfl (by omega) (fun c101 => ?_) (fun c101 => ?_)
    · try (exfalso; omega)
      all_goals
        refine ji_aload_n dX8_putIn_108 rfl trivial ?_
        refine ji_get (ci := 8) (k := 9) rfl dX8_putIn_109 lX8_54 (by decide) (rf_60) rfl ?_
        refine ji_iadd dX8_putIn_112 ?_
        refine ji_bipush dX8_putIn_113 rfl ?_
        refine ji_iastoreE dX8_putIn_115 (rf_61) (by omega) (rf_s61) ?_
        exact ji_return dX8_putIn_116 rfl ⟨rfl, by rw [show k.toNat = sz.toNat by omega]⟩
    · try (exfalso; omega)
      all_goals
        refine ji_iconst dX8_putIn_104 ?_
        refine ji_goto (tgt := 112) dX8_putIn_105 rfl ?_
        refine ji_iadd dX8_putIn_112 ?_
        refine ji_bipush dX8_putIn_113 rfl ?_
        refine ji_iastoreE dX8_putIn_115 (rf_61) (by omega) (rf_s61) ?_
        exact ji_return dX8_putIn_116 rfl ⟨rfl, by rw [show k.toNat = sz.toNat by omega]⟩
  | succ u ih =>
    intro k hk
    refine ji_iload dX8_putIn_52 rfl ?_
    refine ji_aload_n dX8_putIn_54 rfl trivial ?_
    refine ji_get (ci := 8) (k := 9) rfl dX8_putIn_55 lX8_54 (by decide) (rf_60) rfl ?_
    refine ji_icmp_ge (tgt := 94) dX8_putIn_58 rfl (by omega) (by omega) (fun c58 => absurd c58 (by omega)) (fun c58 => ?_)
    refine ji_aload_n dX8_putIn_61 rfl trivial ?_
    refine ji_get (ci := 8) (k := 1) rfl dX8_putIn_62 lX8_7 (by decide) (rf_60) rfl ?_
    refine ji_iload dX8_putIn_65 rfl ?_
    refine ji_iload dX8_putIn_67 rfl ?_
    refine ji_iadd dX8_putIn_69 ?_
    refine ji_iload_n dX8_putIn_70 rfl ?_
    refine ji_if_eq (tgt := 78) dX8_putIn_71 rfl (by omega) (fun c71 => ?_) (fun c71 => ?_)
    · try (exfalso; omega)
      all_goals
        refine ji_iconst dX8_putIn_78 ?_
        refine ji_iadd dX8_putIn_79 ?_
        refine ji_aload_n dX8_putIn_80 rfl trivial ?_
        refine ji_get (ci := 8) (k := 10) rfl dX8_putIn_81 lX8_32 (by decide) (rf_60) rfl ?_
        refine ji_iload dX8_putIn_84 rfl ?_
        refine ji_iaload dX8_putIn_86 (rf_66) (by omega) ?_
        refine ji_iastoreE dX8_putIn_87 (rf_61) (by omega) (rf_s61) ?_
        refine ji_iinc dX8_putIn_88 (by decide) rfl rfl ?_
        refine ji_goto (tgt := 52) dX8_putIn_91 rfl ?_
        exact ji_eqv (ih (k + 1) (by omega)) rfl rfl (by rw [show (k + 1).toNat = k.toNat + 1 by omega, ← va_cpy_u, show (s + 0).toNat + k.toNat = (s + k + 0).toNat by omega, show 0 + k.toNat = k.toNat by omega])
    · try (exfalso; omega)
      all_goals
        refine ji_iconst dX8_putIn_74 ?_
        refine ji_goto (tgt := 79) dX8_putIn_75 rfl ?_
        refine ji_iadd dX8_putIn_79 ?_
        refine ji_aload_n dX8_putIn_80 rfl trivial ?_
        refine ji_get (ci := 8) (k := 10) rfl dX8_putIn_81 lX8_32 (by decide) (rf_60) rfl ?_
        refine ji_iload dX8_putIn_84 rfl ?_
        refine ji_iaload dX8_putIn_86 (rf_66) (by omega) ?_
        refine ji_iastoreE dX8_putIn_87 (rf_61) (by omega) (rf_s61) ?_
        refine ji_iinc dX8_putIn_88 (by decide) rfl rfl ?_
        refine ji_goto (tgt := 52) dX8_putIn_91 rfl ?_
        exact ji_eqv (ih (k + 1) (by omega)) rfl rfl (by rw [show (k + 1).toNat = k.toNat + 1 by omega, ← va_cpy_u, show (s + 0).toNat + k.toNat = (s + k + 0).toNat by omega, show 0 + k.toNat = k.toNat by omega])

set_option maxHeartbeats 4000000 in
set_option maxRecDepth 100000 in
theorem r_putIn {q w : Int} (hq : 0 ≤ q ∧ q < 10) (hw : 0 ≤ w ∧ w ≤ 100) (hz : rz_ok z) (hn : nl_ok nl nt) (hz9 : 0 ≤ sz ∧ sz ≤ 100) (h3 : 0 ≤ z 3 ∧ z 3 ≤ 5) (h14 : 0 ≤ z 14 ∧ z 14 ≤ 12) (hm : z (85 + q).toNat + (sz + 1) ≤ 360) : JR G (d + 3) mX8_putIn [.ref 60, .int (jI q), .int (jI w)] (n, rf_f f th z kp ed nt nl wi ht sy sz bf rs rr rq rp mm ln lo lf lt co ro pg pf hsh) 0 0 none (n, rf_f f th (rf_PI z nl nt sz bf q w) kp ed nt nl wi ht sy sz bf rs rr rq rp mm ln lo lf lt co ro pg pf hsh) := by
  have hB := hz.1
  have ws := rf_ST_b hz hn hq w
  have es : rf_sz z nl q = z (85 + q).toNat := if_pos (by omega)
  have zl := hz.2.2.1 (85 + q).toNat (by omega) (by omega)
  have ww := rf_WO_b hz nt hq
  refine ji_ent (by decide) rfl (Nat.le_of_ble_eq_true rfl) rfl ?_
  refine ji_iload_n dX8_putIn_0 rfl ?_
  refine ji_aload_n dX8_putIn_1 rfl trivial ?_
  refine ji_iload_n dX8_putIn_2 rfl ?_
  refine ji_cV dX8_putIn_3 (r_wordsOf hz hn (by omega)) rfl (rf_60) rfl rfl wX8_wordsOf vX8_wordsOf lX8_260 rfl (Nat.le_of_ble_eq_true rfl) rfl ?_
  refine ji_icmp_ne (tgt := 13) dX8_putIn_6 rfl (by omega) (by omega) (fun c6 => ?_) (fun c6 => ?_)
  · try (exfalso; omega)
    all_goals
      refine ji_iconst dX8_putIn_13 ?_
      refine ji_istore_n dX8_putIn_14 (by decide) rfl ?_
      refine ji_aload_n dX8_putIn_15 rfl trivial ?_
      refine ji_iload_n dX8_putIn_16 rfl ?_
      refine ji_iload_n dX8_putIn_17 rfl ?_
      refine ji_cV dX8_putIn_18 (r_startOf hz hn (by omega) (by omega)) rfl (rf_60) rfl rfl wX8_startOf vX8_startOf lX8_290 rfl (Nat.le_of_ble_eq_true rfl) rfl ?_
      refine ji_istore dX8_putIn_21 (by decide) rfl ?_
      refine ji_aload_n dX8_putIn_23 rfl trivial ?_
      refine ji_iload_n dX8_putIn_24 rfl ?_
      refine ji_iload dX8_putIn_25 rfl ?_
      refine ji_aload_n dX8_putIn_27 rfl trivial ?_
      refine ji_get (ci := 8) (k := 9) rfl dX8_putIn_28 lX8_54 (by decide) (rf_60) rfl ?_
      refine ji_iconst dX8_putIn_31 ?_
      refine ji_iadd dX8_putIn_32 ?_
      refine ji_cVv dX8_putIn_33 (r_open (by omega) (by omega) (by omega) hB h3 h14) rfl (rf_60) rfl rfl wX8_open vX8_open lX8_293 rfl (Nat.le_of_ble_eq_true rfl) rfl ?_
      refine ji_bipush dX8_putIn_36 rfl ?_
      refine ji_sipush dX8_putIn_38 rfl ?_
      refine ji_iload_n dX8_putIn_41 rfl ?_
      refine ji_imul dX8_putIn_42 ?_
      refine ji_iadd dX8_putIn_43 ?_
      refine ji_iload dX8_putIn_44 rfl ?_
      refine ji_iadd dX8_putIn_46 ?_
      refine ji_istore dX8_putIn_47 (by decide) rfl ?_
      refine ji_iconst dX8_putIn_49 ?_
      refine ji_istore dX8_putIn_50 (by decide) rfl ?_
      first | (rw [show rf_PI z nl nt sz bf q w = _ from if_pos (by omega)]; exact ji_eqv (r_putIn_l1 (z := rf_OP z q (rf_ST (rf_sz z nl q) (rf_ch z nt q) w) (sz + 1)) (s := 95 + 360 * q + (rf_ST (rf_sz z nl q) (rf_ch z nt q) w)) hz9 (by omega) sz.toNat 0 (by omega)) rfl rfl (by rw [show (0 : Int).toNat = 0 from rfl, va_cpy_0])) | (rw [show rf_PI z nl nt sz bf q w = _ from if_neg (by omega)]; exact ji_eqv (r_putIn_l0 (z := rf_OP z q (rf_ST (rf_sz z nl q) (rf_ch z nt q) w) (sz + 1)) (s := 95 + 360 * q + (rf_ST (rf_sz z nl q) (rf_ch z nt q) w)) hz9 (by omega) sz.toNat 0 (by omega)) rfl rfl (by rw [show (0 : Int).toNat = 0 from rfl, va_cpy_0]))
  · try (exfalso; omega)
    all_goals
      refine ji_iconst dX8_putIn_9 ?_
      refine ji_goto (tgt := 14) dX8_putIn_10 rfl ?_
      refine ji_istore_n dX8_putIn_14 (by decide) rfl ?_
      refine ji_aload_n dX8_putIn_15 rfl trivial ?_
      refine ji_iload_n dX8_putIn_16 rfl ?_
      refine ji_iload_n dX8_putIn_17 rfl ?_
      refine ji_cV dX8_putIn_18 (r_startOf hz hn (by omega) (by omega)) rfl (rf_60) rfl rfl wX8_startOf vX8_startOf lX8_290 rfl (Nat.le_of_ble_eq_true rfl) rfl ?_
      refine ji_istore dX8_putIn_21 (by decide) rfl ?_
      refine ji_aload_n dX8_putIn_23 rfl trivial ?_
      refine ji_iload_n dX8_putIn_24 rfl ?_
      refine ji_iload dX8_putIn_25 rfl ?_
      refine ji_aload_n dX8_putIn_27 rfl trivial ?_
      refine ji_get (ci := 8) (k := 9) rfl dX8_putIn_28 lX8_54 (by decide) (rf_60) rfl ?_
      refine ji_iconst dX8_putIn_31 ?_
      refine ji_iadd dX8_putIn_32 ?_
      refine ji_cVv dX8_putIn_33 (r_open (by omega) (by omega) (by omega) hB h3 h14) rfl (rf_60) rfl rfl wX8_open vX8_open lX8_293 rfl (Nat.le_of_ble_eq_true rfl) rfl ?_
      refine ji_bipush dX8_putIn_36 rfl ?_
      refine ji_sipush dX8_putIn_38 rfl ?_
      refine ji_iload_n dX8_putIn_41 rfl ?_
      refine ji_imul dX8_putIn_42 ?_
      refine ji_iadd dX8_putIn_43 ?_
      refine ji_iload dX8_putIn_44 rfl ?_
      refine ji_iadd dX8_putIn_46 ?_
      refine ji_istore dX8_putIn_47 (by decide) rfl ?_
      refine ji_iconst dX8_putIn_49 ?_
      refine ji_istore dX8_putIn_50 (by decide) rfl ?_
      first | (rw [show rf_PI z nl nt sz bf q w = _ from if_pos (by omega)]; exact ji_eqv (r_putIn_l1 (z := rf_OP z q (rf_ST (rf_sz z nl q) (rf_ch z nt q) w) (sz + 1)) (s := 95 + 360 * q + (rf_ST (rf_sz z nl q) (rf_ch z nt q) w)) hz9 (by omega) sz.toNat 0 (by omega)) rfl rfl (by rw [show (0 : Int).toNat = 0 from rfl, va_cpy_0])) | (rw [show rf_PI z nl nt sz bf q w = _ from if_neg (by omega)]; exact ji_eqv (r_putIn_l0 (z := rf_OP z q (rf_ST (rf_sz z nl q) (rf_ch z nt q) w) (sz + 1)) (s := 95 + 360 * q + (rf_ST (rf_sz z nl q) (rf_ch z nt q) w)) hz9 (by omega) sz.toNat 0 (by omega)) rfl rfl (by rw [show (0 : Int).toNat = 0 from rfl, va_cpy_0]))

set_option maxHeartbeats 4000000 in
set_option maxRecDepth 100000 in
theorem r_insert1 (hrf : rf_ok wi ht z nl nt sy) {q w : Int} (b_q : -2147483648 ≤ q ∧ q < 2147483648) (b_w : -2147483648 ≤ w ∧ w < 2147483648) (hx : ¬ ((0 ≤ q ∧ q < z 0) ∧ 0 ≤ w ∧ w ≤ rf_WO z nt q)) : JR G (d + 6) mX8_insert [.ref 60, .int (jI q), .int (jI w)] (n, rf_f f th z kp ed nt nl wi ht sy sz bf rs rr rq rp mm ln lo lf lt co ro pg pf hsh) 0 0 (some (.int (jI 0))) (n, rf_f f 1 z kp ed nt nl wi ht sy sz bf rs rr rq rp mm ln lo lf lt co ro pg pf hsh) := by
  obtain ⟨hz, hn, hk, hrc, ⟨hw9, hh9⟩, ⟨hm9, hj9⟩, hll⟩ := id hrf
  have zb := hz.2.1
  have wq := rf_in_d q 0 (z 0 - 1)
  have wiw : 0 ≤ q → q < z 0 → 1 ≤ rf_WO z nt q ∧ rf_WO z nt q ≤ 360 := fun a b => rf_WO_b hz nt (by omega)
  have wi2 := rf_in_d w 0 (rf_WO z nt q)
  have wtx := rf_TX_b sz bf 0
  have wtm := in_tm_b bf 32 sz.toNat
  refine ji_ent (by decide) rfl (Nat.le_of_ble_eq_true rfl) rfl ?_
  refine ji_aload_n dX8_insert_0 rfl trivial ?_
  refine ji_iload_n dX8_insert_1 rfl ?_
  refine ji_cV dX8_insert_2 (r_isParagraph hz (by omega)) rfl (rf_60) rfl rfl wX8_isParagraph vX8_isParagraph lX8_278 rfl (Nat.le_of_ble_eq_true rfl) rfl ?_
  refine ji_if_eq (tgt := 25) dX8_insert_5 rfl (by omega) (fun c5 => ?_) (fun c5 => ?_)
  · try (exfalso; omega)
    all_goals
      refine ji_iconst dX8_insert_25 ?_
      refine ji_istore_n dX8_insert_26 (by decide) rfl ?_
      refine ji_aload_n dX8_insert_27 rfl trivial ?_
      refine ji_iload_n dX8_insert_28 rfl ?_
      refine ji_if_ne (tgt := 36) dX8_insert_29 rfl (by omega) (fun c29 => ?_) (fun c29 => ?_)
      · try (exfalso; omega)
        all_goals
          exfalso; omega
      · try (exfalso; omega)
        all_goals
          refine ji_iconst dX8_insert_32 ?_
          refine ji_goto (tgt := 64) dX8_insert_33 rfl ?_
          refine ji_putE (ci := 8) (k := 0) rfl dX8_insert_64 lX8_47 (by decide) (rf_60) (by simp [rf_c]) (ji_fitI _) rfl (rf_pth) ?_
          refine ji_aload_n dX8_insert_67 rfl trivial ?_
          refine ji_get (ci := 8) (k := 0) rfl dX8_insert_68 lX8_47 (by decide) (rf_60) rfl ?_
          refine ji_if_le (tgt := 76) dX8_insert_71 rfl (by omega) (fun c71 => absurd c71 (by omega)) (fun c71 => ?_)
          refine ji_iconst dX8_insert_74 ?_
          exact ji_ireturn dX8_insert_75 rfl (rfl) ⟨jr_i (by first | rfl | omega), rfl⟩
  · try (exfalso; omega)
    all_goals
      refine ji_iload_n dX8_insert_8 rfl ?_
      refine ji_iconst dX8_insert_9 ?_
      refine ji_aload_n dX8_insert_10 rfl trivial ?_
      refine ji_iload_n dX8_insert_11 rfl ?_
      refine ji_cV dX8_insert_12 (r_wordsOf hz hn (by omega)) rfl (rf_60) rfl rfl wX8_wordsOf vX8_wordsOf lX8_260 rfl (Nat.le_of_ble_eq_true rfl) rfl ?_
      refine ji_cS dX8_insert_15 (r_within (by omega) (by omega) (by omega)) rfl wX8_within sX8_within lX8_50 rfl (Nat.le_of_ble_eq_true rfl) rfl ?_
      refine ji_if_eq (tgt := 25) dX8_insert_18 rfl (by omega) (fun c18 => ?_) (fun c18 => ?_)
      · try (exfalso; omega)
        all_goals
          refine ji_iconst dX8_insert_25 ?_
          refine ji_istore_n dX8_insert_26 (by decide) rfl ?_
          refine ji_aload_n dX8_insert_27 rfl trivial ?_
          refine ji_iload_n dX8_insert_28 rfl ?_
          refine ji_if_ne (tgt := 36) dX8_insert_29 rfl (by omega) (fun c29 => ?_) (fun c29 => ?_)
          · try (exfalso; omega)
            all_goals
              exfalso; omega
          · try (exfalso; omega)
            all_goals
              refine ji_iconst dX8_insert_32 ?_
              refine ji_goto (tgt := 64) dX8_insert_33 rfl ?_
              refine ji_putE (ci := 8) (k := 0) rfl dX8_insert_64 lX8_47 (by decide) (rf_60) (by simp [rf_c]) (ji_fitI _) rfl (rf_pth) ?_
              refine ji_aload_n dX8_insert_67 rfl trivial ?_
              refine ji_get (ci := 8) (k := 0) rfl dX8_insert_68 lX8_47 (by decide) (rf_60) rfl ?_
              refine ji_if_le (tgt := 76) dX8_insert_71 rfl (by omega) (fun c71 => absurd c71 (by omega)) (fun c71 => ?_)
              refine ji_iconst dX8_insert_74 ?_
              exact ji_ireturn dX8_insert_75 rfl (rfl) ⟨jr_i (by first | rfl | omega), rfl⟩
      · try (exfalso; omega)
        all_goals
          refine ji_iconst dX8_insert_21 ?_
          refine ji_goto (tgt := 26) dX8_insert_22 rfl ?_
          refine ji_istore_n dX8_insert_26 (by decide) rfl ?_
          refine ji_aload_n dX8_insert_27 rfl trivial ?_
          refine ji_iload_n dX8_insert_28 rfl ?_
          refine ji_if_ne (tgt := 36) dX8_insert_29 rfl (by omega) (fun c29 => ?_) (fun c29 => ?_)
          · try (exfalso; omega)
            all_goals
              exfalso; omega
          · try (exfalso; omega)
            all_goals
              refine ji_iconst dX8_insert_32 ?_
              refine ji_goto (tgt := 64) dX8_insert_33 rfl ?_
              refine ji_putE (ci := 8) (k := 0) rfl dX8_insert_64 lX8_47 (by decide) (rf_60) (by simp [rf_c]) (ji_fitI _) rfl (rf_pth) ?_
              refine ji_aload_n dX8_insert_67 rfl trivial ?_
              refine ji_get (ci := 8) (k := 0) rfl dX8_insert_68 lX8_47 (by decide) (rf_60) rfl ?_
              refine ji_if_le (tgt := 76) dX8_insert_71 rfl (by omega) (fun c71 => absurd c71 (by omega)) (fun c71 => ?_)
              refine ji_iconst dX8_insert_74 ?_
              exact ji_ireturn dX8_insert_75 rfl (rfl) ⟨jr_i (by first | rfl | omega), rfl⟩

set_option maxHeartbeats 4000000 in
set_option maxRecDepth 100000 in
theorem r_insert2 (hrf : rf_ok wi ht z nl nt sy) (hz9 : 0 ≤ sz ∧ sz ≤ 100) (hbf : ∀ k, 0 ≤ bf k ∧ bf k < 128) {q w : Int} (hx : (0 ≤ q ∧ q < z 0) ∧ 0 ≤ w ∧ w ≤ rf_WO z nt q) (hy : rf_TX sz bf 0 = 0 ∨ 24 < rf_WO z nt q + (1 + in_tm bf 32 sz.toNat)) : JR G (d + 6) mX8_insert [.ref 60, .int (jI q), .int (jI w)] (n, rf_f f th z kp ed nt nl wi ht sy sz bf rs rr rq rp mm ln lo lf lt co ro pg pf hsh) 0 0 (some (.int (jI 0))) (n, rf_f f 2 z kp ed nt nl wi ht sy sz bf ((rf_RL sz bf 0).2.1) ((rf_RL sz bf 0).2.2.1) ((rf_RL sz bf 0).2.2.2.1) ((rf_RL sz bf 0).2.2.2.2.1) ((rf_RL sz bf 0).2.2.2.2.2) ln lo lf lt co ro pg pf hsh) := by
  obtain ⟨hz, hn, hk, hrc, ⟨hw9, hh9⟩, ⟨hm9, hj9⟩, hll⟩ := id hrf
  have zb := hz.2.1
  have wq := rf_in_d q 0 (z 0 - 1)
  have wiw : 0 ≤ q → q < z 0 → 1 ≤ rf_WO z nt q ∧ rf_WO z nt q ≤ 360 := fun a b => rf_WO_b hz nt (by omega)
  have wi2 := rf_in_d w 0 (rf_WO z nt q)
  have wtx := rf_TX_b sz bf 0
  have wtm := in_tm_b bf 32 sz.toNat
  refine ji_ent (by decide) rfl (Nat.le_of_ble_eq_true rfl) rfl ?_
  refine ji_aload_n dX8_insert_0 rfl trivial ?_
  refine ji_iload_n dX8_insert_1 rfl ?_
  refine ji_cV dX8_insert_2 (r_isParagraph hz (by omega)) rfl (rf_60) rfl rfl wX8_isParagraph vX8_isParagraph lX8_278 rfl (Nat.le_of_ble_eq_true rfl) rfl ?_
  refine ji_if_eq (tgt := 25) dX8_insert_5 rfl (by omega) (fun c5 => absurd c5 (by omega)) (fun c5 => ?_)
  refine ji_iload_n dX8_insert_8 rfl ?_
  refine ji_iconst dX8_insert_9 ?_
  refine ji_aload_n dX8_insert_10 rfl trivial ?_
  refine ji_iload_n dX8_insert_11 rfl ?_
  refine ji_cV dX8_insert_12 (r_wordsOf hz hn (by omega)) rfl (rf_60) rfl rfl wX8_wordsOf vX8_wordsOf lX8_260 rfl (Nat.le_of_ble_eq_true rfl) rfl ?_
  refine ji_cS dX8_insert_15 (r_within (by omega) (by omega) (by omega)) rfl wX8_within sX8_within lX8_50 rfl (Nat.le_of_ble_eq_true rfl) rfl ?_
  refine ji_if_eq (tgt := 25) dX8_insert_18 rfl (by omega) (fun c18 => absurd c18 (by omega)) (fun c18 => ?_)
  refine ji_iconst dX8_insert_21 ?_
  refine ji_goto (tgt := 26) dX8_insert_22 rfl ?_
  refine ji_istore_n dX8_insert_26 (by decide) rfl ?_
  refine ji_aload_n dX8_insert_27 rfl trivial ?_
  refine ji_iload_n dX8_insert_28 rfl ?_
  refine ji_if_ne (tgt := 36) dX8_insert_29 rfl (by omega) (fun c29 => ?_) (fun c29 => absurd c29 (by omega))
  refine ji_aload_n dX8_insert_36 rfl trivial ?_
  refine ji_iconst dX8_insert_37 ?_
  refine ji_cV dX8_insert_38 (r_isText (b := 0) (by omega) hz9 hbf) rfl (rf_60) rfl rfl wX8_isText vX8_isText lX8_96 rfl (Nat.le_of_ble_eq_true rfl) rfl ?_
  refine ji_if_eq (tgt := 63) dX8_insert_41 rfl (by omega) (fun c41 => ?_) (fun c41 => ?_)
  · try (exfalso; omega)
    all_goals
      refine ji_iconst dX8_insert_63 ?_
      refine ji_putE (ci := 8) (k := 0) rfl dX8_insert_64 lX8_47 (by decide) (rf_60) (by simp [rf_c]) (ji_fitI _) rfl (rf_pth) ?_
      refine ji_aload_n dX8_insert_67 rfl trivial ?_
      refine ji_get (ci := 8) (k := 0) rfl dX8_insert_68 lX8_47 (by decide) (rf_60) rfl ?_
      refine ji_if_le (tgt := 76) dX8_insert_71 rfl (by omega) (fun c71 => absurd c71 (by omega)) (fun c71 => ?_)
      refine ji_iconst dX8_insert_74 ?_
      exact ji_ireturn dX8_insert_75 rfl (rfl) ⟨jr_i (by first | rfl | omega), rfl⟩
  · try (exfalso; omega)
    all_goals
      refine ji_aload_n dX8_insert_44 rfl trivial ?_
      refine ji_iload_n dX8_insert_45 rfl ?_
      refine ji_cV dX8_insert_46 (r_wordsOf hz hn (by omega)) rfl (rf_60) rfl rfl wX8_wordsOf vX8_wordsOf lX8_260 rfl (Nat.le_of_ble_eq_true rfl) rfl ?_
      refine ji_aload_n dX8_insert_49 rfl trivial ?_
      refine ji_cV dX8_insert_50 (r_listWords hz9 hbf) rfl (rf_60) rfl rfl wX8_listWords vX8_listWords lX8_297 rfl (Nat.le_of_ble_eq_true rfl) rfl ?_
      refine ji_iadd dX8_insert_53 ?_
      refine ji_bipush dX8_insert_54 rfl ?_
      refine ji_icmp_gt (tgt := 63) dX8_insert_56 rfl (by omega) (by omega) (fun c56 => ?_) (fun c56 => ?_)
      · try (exfalso; omega)
        all_goals
          refine ji_iconst dX8_insert_63 ?_
          refine ji_putE (ci := 8) (k := 0) rfl dX8_insert_64 lX8_47 (by decide) (rf_60) (by simp [rf_c]) (ji_fitI _) rfl (rf_pth) ?_
          refine ji_aload_n dX8_insert_67 rfl trivial ?_
          refine ji_get (ci := 8) (k := 0) rfl dX8_insert_68 lX8_47 (by decide) (rf_60) rfl ?_
          refine ji_if_le (tgt := 76) dX8_insert_71 rfl (by omega) (fun c71 => absurd c71 (by omega)) (fun c71 => ?_)
          refine ji_iconst dX8_insert_74 ?_
          exact ji_ireturn dX8_insert_75 rfl (rfl) ⟨jr_i (by first | rfl | omega), rfl⟩
      · try (exfalso; omega)
        all_goals
          refine ji_iconst dX8_insert_59 ?_
          refine ji_goto (tgt := 64) dX8_insert_60 rfl ?_
          refine ji_putE (ci := 8) (k := 0) rfl dX8_insert_64 lX8_47 (by decide) (rf_60) (by simp [rf_c]) (ji_fitI _) rfl (rf_pth) ?_
          refine ji_aload_n dX8_insert_67 rfl trivial ?_
          refine ji_get (ci := 8) (k := 0) rfl dX8_insert_68 lX8_47 (by decide) (rf_60) rfl ?_
          refine ji_if_le (tgt := 76) dX8_insert_71 rfl (by omega) (fun c71 => absurd c71 (by omega)) (fun c71 => ?_)
          refine ji_iconst dX8_insert_74 ?_
          exact ji_ireturn dX8_insert_75 rfl (rfl) ⟨jr_i (by first | rfl | omega), rfl⟩

set_option maxHeartbeats 4000000 in
set_option maxRecDepth 100000 in
theorem r_insert (hrf : rf_ok wi ht z nl nt sy) (hz9 : 0 ≤ sz ∧ sz ≤ 100) (hbf : ∀ k, 0 ≤ bf k ∧ bf k < 128) {q w : Int} (hx : (0 ≤ q ∧ q < z 0) ∧ 0 ≤ w ∧ w ≤ rf_WO z nt q) (hy : rf_TX sz bf 0 = 1 ∧ rf_WO z nt q + (1 + in_tm bf 32 sz.toNat) ≤ 24) (he : 0 ≤ ed ∧ ed ≤ 4) (hm9 : z (85 + q).toNat + (sz + 1) ≤ 360) {z9 : Nat → Int} (ez : rf_PI z nl nt sz bf q w = z9) (hz2 : rz_ok z9) : JR G (d + 6) mX8_insert [.ref 60, .int (jI q), .int (jI w)] (n, rf_f f th z kp ed nt nl wi ht sy sz bf rs rr rq rp mm ln lo lf lt co ro pg pf hsh) 0 0 (some (.int (jI (rf_WO z9 nt q)))) (n, rf_f f 0 z9 (rf_KP z kp ed) (rf_KE ed) nt nl wi ht sy 0 bf ((rf_RL sz bf 0).2.1) ((rf_RL sz bf 0).2.2.1) ((rf_RL sz bf 0).2.2.2.1) ((rf_RL sz bf 0).2.2.2.2.1) ((rf_RL sz bf 0).2.2.2.2.2) ln lo lf lt co ro pg pf hsh) := by
  obtain ⟨hz, hn, hk, hrc, ⟨hw9, hh9⟩, ⟨hm0, hj9⟩, hll⟩ := id hrf
  have zb := hz.2.1
  have wq := rf_in_d q 0 (z 0 - 1)
  have wiw : 0 ≤ q → q < z 0 → 1 ≤ rf_WO z nt q ∧ rf_WO z nt q ≤ 360 := fun a b => rf_WO_b hz nt (by omega)
  have wi2 := rf_in_d w 0 (rf_WO z nt q)
  have wtx := rf_TX_b sz bf 0
  have wtm := in_tm_b bf 32 sz.toNat
  have h3 := hj9
  have h14 := hm0
  refine ji_ent (by decide) rfl (Nat.le_of_ble_eq_true rfl) rfl ?_
  refine ji_aload_n dX8_insert_0 rfl trivial ?_
  refine ji_iload_n dX8_insert_1 rfl ?_
  refine ji_cV dX8_insert_2 (r_isParagraph hz (by omega)) rfl (rf_60) rfl rfl wX8_isParagraph vX8_isParagraph lX8_278 rfl (Nat.le_of_ble_eq_true rfl) rfl ?_
  refine ji_if_eq (tgt := 25) dX8_insert_5 rfl (by omega) (fun c5 => absurd c5 (by omega)) (fun c5 => ?_)
  refine ji_iload_n dX8_insert_8 rfl ?_
  refine ji_iconst dX8_insert_9 ?_
  refine ji_aload_n dX8_insert_10 rfl trivial ?_
  refine ji_iload_n dX8_insert_11 rfl ?_
  refine ji_cV dX8_insert_12 (r_wordsOf hz hn (by omega)) rfl (rf_60) rfl rfl wX8_wordsOf vX8_wordsOf lX8_260 rfl (Nat.le_of_ble_eq_true rfl) rfl ?_
  refine ji_cS dX8_insert_15 (r_within (by omega) (by omega) (by omega)) rfl wX8_within sX8_within lX8_50 rfl (Nat.le_of_ble_eq_true rfl) rfl ?_
  refine ji_if_eq (tgt := 25) dX8_insert_18 rfl (by omega) (fun c18 => absurd c18 (by omega)) (fun c18 => ?_)
  refine ji_iconst dX8_insert_21 ?_
  refine ji_goto (tgt := 26) dX8_insert_22 rfl ?_
  refine ji_istore_n dX8_insert_26 (by decide) rfl ?_
  refine ji_aload_n dX8_insert_27 rfl trivial ?_
  refine ji_iload_n dX8_insert_28 rfl ?_
  refine ji_if_ne (tgt := 36) dX8_insert_29 rfl (by omega) (fun c29 => ?_) (fun c29 => absurd c29 (by omega))
  refine ji_aload_n dX8_insert_36 rfl trivial ?_
  refine ji_iconst dX8_insert_37 ?_
  refine ji_cV dX8_insert_38 (r_isText (b := 0) (by omega) hz9 hbf) rfl (rf_60) rfl rfl wX8_isText vX8_isText lX8_96 rfl (Nat.le_of_ble_eq_true rfl) rfl ?_
  refine ji_if_eq (tgt := 63) dX8_insert_41 rfl (by omega) (fun c41 => absurd c41 (by omega)) (fun c41 => ?_)
  refine ji_aload_n dX8_insert_44 rfl trivial ?_
  refine ji_iload_n dX8_insert_45 rfl ?_
  refine ji_cV dX8_insert_46 (r_wordsOf hz hn (by omega)) rfl (rf_60) rfl rfl wX8_wordsOf vX8_wordsOf lX8_260 rfl (Nat.le_of_ble_eq_true rfl) rfl ?_
  refine ji_aload_n dX8_insert_49 rfl trivial ?_
  refine ji_cV dX8_insert_50 (r_listWords hz9 hbf) rfl (rf_60) rfl rfl wX8_listWords vX8_listWords lX8_297 rfl (Nat.le_of_ble_eq_true rfl) rfl ?_
  refine ji_iadd dX8_insert_53 ?_
  refine ji_bipush dX8_insert_54 rfl ?_
  refine ji_icmp_gt (tgt := 63) dX8_insert_56 rfl (by omega) (by omega) (fun c56 => absurd c56 (by omega)) (fun c56 => ?_)
  refine ji_iconst dX8_insert_59 ?_
  refine ji_goto (tgt := 64) dX8_insert_60 rfl ?_
  refine ji_putE (ci := 8) (k := 0) rfl dX8_insert_64 lX8_47 (by decide) (rf_60) (by simp [rf_c]) (ji_fitI _) rfl (rf_pth) ?_
  refine ji_aload_n dX8_insert_67 rfl trivial ?_
  refine ji_get (ci := 8) (k := 0) rfl dX8_insert_68 lX8_47 (by decide) (rf_60) rfl ?_
  refine ji_if_le (tgt := 76) dX8_insert_71 rfl (by omega) (fun c71 => ?_) (fun c71 => absurd c71 (by omega))
  refine ji_aload_n dX8_insert_76 rfl trivial ?_
  refine ji_cVv dX8_insert_77 (r_keep (by omega)) rfl (rf_60) rfl rfl wX8_keep vX8_keep lX8_300 rfl (Nat.le_of_ble_eq_true rfl) rfl ?_
  refine ji_aload_n dX8_insert_80 rfl trivial ?_
  refine ji_iload_n dX8_insert_81 rfl ?_
  refine ji_iload_n dX8_insert_82 rfl ?_
  refine ji_cVv dX8_insert_83 (r_putIn (by omega) (by omega) hz hn hz9 h3 h14 hm9) rfl (rf_60) rfl rfl wX8_putIn vX8_putIn lX8_303 rfl (Nat.le_of_ble_eq_true rfl) rfl ?_
  rw [ez]
  refine ji_aload_n dX8_insert_86 rfl trivial ?_
  refine ji_iconst dX8_insert_87 ?_
  refine ji_putE (ci := 8) (k := 9) rfl dX8_insert_88 lX8_54 (by decide) (rf_60) (by simp [rf_c]) (ji_fitI _) rfl (rf_psz) ?_
  refine ji_aload_n dX8_insert_91 rfl trivial ?_
  refine ji_iload_n dX8_insert_92 rfl ?_
  refine ji_cV dX8_insert_93 (r_wordsOf hz2 hn (by omega)) rfl (rf_60) rfl rfl wX8_wordsOf vX8_wordsOf lX8_260 rfl (Nat.le_of_ble_eq_true rfl) rfl ?_
  exact ji_ireturn dX8_insert_96 rfl (rfl) ⟨jr_i (by first | rfl | omega), rfl⟩

set_option maxHeartbeats 4000000 in
set_option maxRecDepth 100000 in
theorem r_close_a {bc bs : Nat} {Q : ji_R → ji_H → Prop} {q x y : Int} (hq : 0 ≤ q ∧ q < 10) (hx : 0 ≤ x ∧ x ≤ y ∧ y ≤ z (85 + q).toNat ∧ z (85 + q).toNat ≤ 359) (kk : ∀ k, JW G d mX8_close 59 [some (.ref 60), some (.int (jI q)), some (.int (jI x)), some (.int (jI y)), some (.int (jI k)), none, none] [] (n, rf_f f th (va_cpy z z (95 + 360 * q + y).toNat (95 + 360 * q + x).toNat (z (85 + q).toNat - y).toNat) kp ed nt nl wi ht sy sz bf rs rr rq rp mm ln lo lf lt co ro pg pf hsh) bc bs Q) : ∀ (u : Nat) (k : Int), y ≤ k ∧ k + u = z (85 + q).toNat →
    JW G d mX8_close 3 [some (.ref 60), some (.int (jI q)), some (.int (jI x)), some (.int (jI y)), some (.int (jI k)), none, none] [] (n, rf_f f th (va_cpy z z (95 + 360 * q + y).toNat (95 + 360 * q + x).toNat (k - y).toNat) kp ed nt nl wi ht sy sz bf rs rr rq rp mm ln lo lf lt co ro pg pf hsh) bc bs Q := by
  intro u
  induction u with
  | zero =>
    intro k hk
    refine ji_iload dX8_close_3 rfl ?_
    refine ji_aload_n dX8_close_5 rfl trivial ?_
    refine ji_get (ci := 8) (k := 1) rfl dX8_close_6 lX8_7 (by decide) (rf_60) rfl ?_
    refine ji_bipush dX8_close_9 rfl ?_
    refine ji_iload_n dX8_close_11 rfl ?_
    refine ji_iadd dX8_close_12 ?_
    refine ji_iaload dX8_close_13 (rf_61) (by omega) ?_
    rw [va_cpy_r (by omega)]
    refine ji_icmp_ge (tgt := 59) dX8_close_14 rfl (by omega) (by omega) (fun c14 => ?_) (fun c14 => absurd c14 (by omega))
    exact ji_eqv (kk k) rfl rfl (by rw [show k = z (85 + q).toNat by omega])
  | succ u ih =>
    intro k hk
    refine ji_iload dX8_close_3 rfl ?_
    refine ji_aload_n dX8_close_5 rfl trivial ?_
    refine ji_get (ci := 8) (k := 1) rfl dX8_close_6 lX8_7 (by decide) (rf_60) rfl ?_
    refine ji_bipush dX8_close_9 rfl ?_
    refine ji_iload_n dX8_close_11 rfl ?_
    refine ji_iadd dX8_close_12 ?_
    refine ji_iaload dX8_close_13 (rf_61) (by omega) ?_
    rw [va_cpy_r (by omega)]
    refine ji_icmp_ge (tgt := 59) dX8_close_14 rfl (by omega) (by omega) (fun c14 => absurd c14 (by omega)) (fun c14 => ?_)
    refine ji_aload_n dX8_close_17 rfl trivial ?_
    refine ji_get (ci := 8) (k := 1) rfl dX8_close_18 lX8_7 (by decide) (rf_60) rfl ?_
    refine ji_bipush dX8_close_21 rfl ?_
    refine ji_sipush dX8_close_23 rfl ?_
    refine ji_iload_n dX8_close_26 rfl ?_
    refine ji_imul dX8_close_27 ?_
    refine ji_iadd dX8_close_28 ?_
    refine ji_iload dX8_close_29 rfl ?_
    refine ji_iadd dX8_close_31 ?_
    refine ji_iload_n dX8_close_32 rfl ?_
    refine ji_iload_n dX8_close_33 rfl ?_
    refine ji_isub dX8_close_34 ?_
    refine ji_isub dX8_close_35 ?_
    refine ji_aload_n dX8_close_36 rfl trivial ?_
    refine ji_get (ci := 8) (k := 1) rfl dX8_close_37 lX8_7 (by decide) (rf_60) rfl ?_
    refine ji_bipush dX8_close_40 rfl ?_
    refine ji_sipush dX8_close_42 rfl ?_
    refine ji_iload_n dX8_close_45 rfl ?_
    refine ji_imul dX8_close_46 ?_
    refine ji_iadd dX8_close_47 ?_
    refine ji_iload dX8_close_48 rfl ?_
    refine ji_iadd dX8_close_50 ?_
    refine ji_iaload dX8_close_51 (rf_61) (by omega) ?_
    rw [va_cpy_r (by omega)]
    refine ji_iastoreE dX8_close_52 (rf_61) (by omega) (rf_s61) ?_
    refine ji_iinc dX8_close_53 (by decide) rfl rfl ?_
    refine ji_goto (tgt := 3) dX8_close_56 rfl ?_
    exact ji_eqv (ih (k + 1) (by omega)) rfl rfl (by rw [show (k + 1 - y).toNat = (k - y).toNat + 1 by omega, ← va_cpy_u, show (95 + 360 * q + x).toNat + (k - y).toNat = (95 + 360 * q + k - (y - x)).toNat by omega, show (95 + 360 * q + y).toNat + (k - y).toNat = (95 + 360 * q + k).toNat by omega])

set_option maxHeartbeats 4000000 in
set_option maxRecDepth 100000 in
theorem r_close {q x y : Int} (hq : 0 ≤ q ∧ q < 10) (hx : 0 ≤ x ∧ x ≤ y ∧ y ≤ z (85 + q).toNat ∧ z (85 + q).toNat ≤ 359) (hB : ∀ j, -10000 ≤ z j ∧ z j ≤ 10000) (h3 : 0 ≤ z 3 ∧ z 3 ≤ 5) (h14 : 0 ≤ z 14 ∧ z 14 ≤ 12) : JR G (d + 1) mX8_close [.ref 60, .int (jI q), .int (jI x), .int (jI y)] (n, rf_f f th z kp ed nt nl wi ht sy sz bf rs rr rq rp mm ln lo lf lt co ro pg pf hsh) 0 0 none (n, rf_f f th (rf_CS z q x y) kp ed nt nl wi ht sy sz bf rs rr rq rp mm ln lo lf lt co ro pg pf hsh) := by
  have e3 : rf_C2 z q x y 3 = z 3 := rf_C2_l hq hx.1 (by omega)
  have e14 : rf_C3 z q x y 14 = z 14 := (rf_pl_h (by omega) (by omega)).trans (rf_C2_l hq hx.1 (by omega))
  have eL : rf_C2 z q x y (85 + q).toNat = z (85 + q).toNat - (y - x) := va_up_self _ _ _
  refine ji_ent (by decide) rfl (Nat.le_of_ble_eq_true rfl) rfl ?_
  refine ji_iload_n dX8_close_0 rfl ?_
  refine ji_istore dX8_close_1 (by decide) rfl ?_
  refine ji_eqv (h2 := (n, rf_f f th (va_cpy z z (95 + 360 * q + y).toNat (95 + 360 * q + x).toNat (y - y).toNat) kp ed nt nl wi ht sy sz bf rs rr rq rp mm ln lo lf lt co ro pg pf hsh)) (r_close_a hq hx (fun k => ?_) (z (85 + q).toNat - y).toNat y (by omega)) rfl rfl (by rw [show (y - y).toNat = 0 by omega, va_cpy_0])
  refine ji_aload_n dX8_close_59 rfl trivial ?_
  refine ji_get (ci := 8) (k := 1) rfl dX8_close_60 lX8_7 (by decide) (rf_60) rfl ?_
  refine ji_bipush dX8_close_63 rfl ?_
  refine ji_iload_n dX8_close_65 rfl ?_
  refine ji_iadd dX8_close_66 ?_
  refine ji_dup2 dX8_close_67 rfl rfl ?_
  refine ji_iaload dX8_close_68 (rf_61) (by omega) ?_
  rw [va_cpy_r (by omega)]
  refine ji_iload_n dX8_close_69 rfl ?_
  refine ji_iload_n dX8_close_70 rfl ?_
  refine ji_isub dX8_close_71 ?_
  refine ji_isub dX8_close_72 ?_
  refine ji_iastoreE dX8_close_73 (rf_61) (by omega) (rf_s61) ?_
  refine ji_iconst dX8_close_74 ?_
  refine ji_istore dX8_close_75 (by decide) rfl ?_
  refine ji_eqv (h2 := (n, rf_f f th (rf_pl id_a (cs_b q x y (z (85 + q).toNat - (y - x))) (rf_C2 z q x y) (0 : Int).toNat) kp ed nt nl wi ht sy sz bf rs rr rq rp mm ln lo lf lt co ro pg pf hsh)) (r_close_p (z := rf_C2 z q x y) hq (by omega) eL (fun j => by have := rf_C2_b hB (q := q) (x := x) (y := y) (by omega) j; omega) (by omega) (fun k o5 o6 => ?_) (rf_C2 z q x y 3 + 1).toNat 0 _ _ (by omega)) rfl rfl (by rw [show (0 : Int).toNat = 0 from rfl, rf_pl_0]; rfl)
  refine ji_iconst dX8_close_179 ?_
  refine ji_istore dX8_close_180 (by decide) rfl ?_
  exact ji_eqv (h2 := (n, rf_f f th (rf_mk id_0 (cs_1 q x y) (cs_2 q x y) (cs_4 q x y) (rf_C3 z q x y) (0 : Int).toNat) kp ed nt nl wi ht sy sz bf rs rr rq rp mm ln lo lf lt co ro pg pf hsh)) (r_close_m (z := rf_C3 z q x y) hq (by omega) (fun j => by have := rf_C3_b hB (q := q) (x := x) (y := y) (by omega) (by omega) j; omega) (by omega) (rf_C3 z q x y 14).toNat 0 _ _ (by omega)) rfl rfl (by rw [show (0 : Int).toNat = 0 from rfl, rf_mk_0]; rfl)

set_option maxHeartbeats 4000000 in
set_option maxRecDepth 100000 in
theorem r_delete1 (hrf : rf_ok wi ht z nl nt sy) {q w m : Int} (b_q : -2147483648 ≤ q ∧ q < 2147483648) (b_w : -2147483648 ≤ w ∧ w < 2147483648) (b_m : -2147483648 ≤ m ∧ m < 2147483648) (hx : ¬ ((0 ≤ q ∧ q < z 0) ∧ 0 ≤ w ∧ w < rf_WO z nt q ∧ 1 ≤ m ∧ m ≤ rf_WO z nt q - w)) : JR G (d + 4) mX8_delete [.ref 60, .int (jI q), .int (jI w), .int (jI m)] (n, rf_f f th z kp ed nt nl wi ht sy sz bf rs rr rq rp mm ln lo lf lt co ro pg pf hsh) 0 0 (some (.int (jI 0))) (n, rf_f f 1 z kp ed nt nl wi ht sy sz bf rs rr rq rp mm ln lo lf lt co ro pg pf hsh) := by
  obtain ⟨hz, hn, hk, hrc, ⟨hw9, hh9⟩, ⟨hm9, hj9⟩, hll⟩ := id hrf
  have zb := hz.2.1
  have wq := rf_in_d q 0 (z 0 - 1)
  have wiw : 0 ≤ q → q < z 0 → 1 ≤ rf_WO z nt q ∧ rf_WO z nt q ≤ 360 := fun a b => rf_WO_b hz nt (by omega)
  refine ji_ent (by decide) rfl (Nat.le_of_ble_eq_true rfl) rfl ?_
  refine ji_aload_n dX8_delete_0 rfl trivial ?_
  refine ji_iload_n dX8_delete_1 rfl ?_
  refine ji_cV dX8_delete_2 (r_isParagraph hz (by omega)) rfl (rf_60) rfl rfl wX8_isParagraph vX8_isParagraph lX8_278 rfl (Nat.le_of_ble_eq_true rfl) rfl ?_
  refine ji_if_eq (tgt := 21) dX8_delete_5 rfl (by omega) (fun c5 => ?_) (fun c5 => ?_)
  · try (exfalso; omega)
    all_goals
      refine ji_iconst dX8_delete_21 ?_
      refine ji_istore dX8_delete_22 (by decide) rfl ?_
      refine ji_iload dX8_delete_24 rfl ?_
      refine ji_if_eq (tgt := 37) dX8_delete_26 rfl (by omega) (fun c26 => ?_) (fun c26 => ?_)
      · try (exfalso; omega)
        all_goals
          refine ji_iconst dX8_delete_37 ?_
          refine ji_istore dX8_delete_38 (by decide) rfl ?_
          refine ji_iload dX8_delete_40 rfl ?_
          refine ji_if_eq (tgt := 63) dX8_delete_42 rfl (by omega) (fun c42 => ?_) (fun c42 => ?_)
          · try (exfalso; omega)
            all_goals
              refine ji_iconst dX8_delete_63 ?_
              refine ji_istore dX8_delete_64 (by decide) rfl ?_
              refine ji_aload_n dX8_delete_66 rfl trivial ?_
              refine ji_iload dX8_delete_67 rfl ?_
              refine ji_if_ne (tgt := 76) dX8_delete_69 rfl (by omega) (fun c69 => ?_) (fun c69 => ?_)
              · try (exfalso; omega)
                all_goals
                  exfalso; omega
              · try (exfalso; omega)
                all_goals
                  refine ji_iconst dX8_delete_72 ?_
                  refine ji_goto (tgt := 87) dX8_delete_73 rfl ?_
                  refine ji_putE (ci := 8) (k := 0) rfl dX8_delete_87 lX8_47 (by decide) (rf_60) (by simp [rf_c]) (ji_fitI _) rfl (rf_pth) ?_
                  refine ji_aload_n dX8_delete_90 rfl trivial ?_
                  refine ji_get (ci := 8) (k := 0) rfl dX8_delete_91 lX8_47 (by decide) (rf_60) rfl ?_
                  refine ji_if_le (tgt := 99) dX8_delete_94 rfl (by omega) (fun c94 => absurd c94 (by omega)) (fun c94 => ?_)
                  refine ji_iconst dX8_delete_97 ?_
                  exact ji_ireturn dX8_delete_98 rfl (rfl) ⟨jr_i (by first | rfl | omega), rfl⟩
          · try (exfalso; omega)
            all_goals
              refine ji_iload_n dX8_delete_45 rfl ?_
              refine ji_iload dX8_delete_46 rfl ?_
              refine ji_icmp_ge (tgt := 63) dX8_delete_48 rfl (by omega) (by omega) (fun c48 => ?_) (fun c48 => ?_)
              · try (exfalso; omega)
                all_goals
                  refine ji_iconst dX8_delete_63 ?_
                  refine ji_istore dX8_delete_64 (by decide) rfl ?_
                  refine ji_aload_n dX8_delete_66 rfl trivial ?_
                  refine ji_iload dX8_delete_67 rfl ?_
                  refine ji_if_ne (tgt := 76) dX8_delete_69 rfl (by omega) (fun c69 => ?_) (fun c69 => ?_)
                  · try (exfalso; omega)
                    all_goals
                      exfalso; omega
                  · try (exfalso; omega)
                    all_goals
                      refine ji_iconst dX8_delete_72 ?_
                      refine ji_goto (tgt := 87) dX8_delete_73 rfl ?_
                      refine ji_putE (ci := 8) (k := 0) rfl dX8_delete_87 lX8_47 (by decide) (rf_60) (by simp [rf_c]) (ji_fitI _) rfl (rf_pth) ?_
                      refine ji_aload_n dX8_delete_90 rfl trivial ?_
                      refine ji_get (ci := 8) (k := 0) rfl dX8_delete_91 lX8_47 (by decide) (rf_60) rfl ?_
                      refine ji_if_le (tgt := 99) dX8_delete_94 rfl (by omega) (fun c94 => absurd c94 (by omega)) (fun c94 => ?_)
                      refine ji_iconst dX8_delete_97 ?_
                      exact ji_ireturn dX8_delete_98 rfl (rfl) ⟨jr_i (by first | rfl | omega), rfl⟩
              · try (exfalso; omega)
                all_goals
                  refine ji_iload_n dX8_delete_51 rfl ?_
                  refine ji_iload dX8_delete_52 rfl ?_
                  refine ji_iload_n dX8_delete_54 rfl ?_
                  refine ji_isub dX8_delete_55 ?_
                  refine ji_icmp_gt (tgt := 63) dX8_delete_56 rfl (by omega) (by omega) (fun c56 => ?_) (fun c56 => ?_)
                  · try (exfalso; omega)
                    all_goals
                      refine ji_iconst dX8_delete_63 ?_
                      refine ji_istore dX8_delete_64 (by decide) rfl ?_
                      refine ji_aload_n dX8_delete_66 rfl trivial ?_
                      refine ji_iload dX8_delete_67 rfl ?_
                      refine ji_if_ne (tgt := 76) dX8_delete_69 rfl (by omega) (fun c69 => ?_) (fun c69 => ?_)
                      · try (exfalso; omega)
                        all_goals
                          exfalso; omega
                      · try (exfalso; omega)
                        all_goals
                          refine ji_iconst dX8_delete_72 ?_
                          refine ji_goto (tgt := 87) dX8_delete_73 rfl ?_
                          refine ji_putE (ci := 8) (k := 0) rfl dX8_delete_87 lX8_47 (by decide) (rf_60) (by simp [rf_c]) (ji_fitI _) rfl (rf_pth) ?_
                          refine ji_aload_n dX8_delete_90 rfl trivial ?_
                          refine ji_get (ci := 8) (k := 0) rfl dX8_delete_91 lX8_47 (by decide) (rf_60) rfl ?_
                          refine ji_if_le (tgt := 99) dX8_delete_94 rfl (by omega) (fun c94 => absurd c94 (by omega)) (fun c94 => ?_)
                          refine ji_iconst dX8_delete_97 ?_
                          exact ji_ireturn dX8_delete_98 rfl (rfl) ⟨jr_i (by first | rfl | omega), rfl⟩
                  · try (exfalso; omega)
                    all_goals
                      refine ji_iconst dX8_delete_59 ?_
                      refine ji_goto (tgt := 64) dX8_delete_60 rfl ?_
                      refine ji_istore dX8_delete_64 (by decide) rfl ?_
                      refine ji_aload_n dX8_delete_66 rfl trivial ?_
                      refine ji_iload dX8_delete_67 rfl ?_
                      refine ji_if_ne (tgt := 76) dX8_delete_69 rfl (by omega) (fun c69 => ?_) (fun c69 => ?_)
                      · try (exfalso; omega)
                        all_goals
                          exfalso; omega
                      · try (exfalso; omega)
                        all_goals
                          refine ji_iconst dX8_delete_72 ?_
                          refine ji_goto (tgt := 87) dX8_delete_73 rfl ?_
                          refine ji_putE (ci := 8) (k := 0) rfl dX8_delete_87 lX8_47 (by decide) (rf_60) (by simp [rf_c]) (ji_fitI _) rfl (rf_pth) ?_
                          refine ji_aload_n dX8_delete_90 rfl trivial ?_
                          refine ji_get (ci := 8) (k := 0) rfl dX8_delete_91 lX8_47 (by decide) (rf_60) rfl ?_
                          refine ji_if_le (tgt := 99) dX8_delete_94 rfl (by omega) (fun c94 => absurd c94 (by omega)) (fun c94 => ?_)
                          refine ji_iconst dX8_delete_97 ?_
                          exact ji_ireturn dX8_delete_98 rfl (rfl) ⟨jr_i (by first | rfl | omega), rfl⟩
      · try (exfalso; omega)
        all_goals
          refine ji_aload_n dX8_delete_29 rfl trivial ?_
          refine ji_iload_n dX8_delete_30 rfl ?_
          refine ji_cV dX8_delete_31 (r_wordsOf hz hn (by omega)) rfl (rf_60) rfl rfl wX8_wordsOf vX8_wordsOf lX8_260 rfl (Nat.le_of_ble_eq_true rfl) rfl ?_
          refine ji_goto (tgt := 38) dX8_delete_34 rfl ?_
          refine ji_istore dX8_delete_38 (by decide) rfl ?_
          refine ji_iload dX8_delete_40 rfl ?_
          refine ji_if_eq (tgt := 63) dX8_delete_42 rfl (by omega) (fun c42 => ?_) (fun c42 => ?_)
          · try (exfalso; omega)
            all_goals
              refine ji_iconst dX8_delete_63 ?_
              refine ji_istore dX8_delete_64 (by decide) rfl ?_
              refine ji_aload_n dX8_delete_66 rfl trivial ?_
              refine ji_iload dX8_delete_67 rfl ?_
              refine ji_if_ne (tgt := 76) dX8_delete_69 rfl (by omega) (fun c69 => ?_) (fun c69 => ?_)
              · try (exfalso; omega)
                all_goals
                  exfalso; omega
              · try (exfalso; omega)
                all_goals
                  refine ji_iconst dX8_delete_72 ?_
                  refine ji_goto (tgt := 87) dX8_delete_73 rfl ?_
                  refine ji_putE (ci := 8) (k := 0) rfl dX8_delete_87 lX8_47 (by decide) (rf_60) (by simp [rf_c]) (ji_fitI _) rfl (rf_pth) ?_
                  refine ji_aload_n dX8_delete_90 rfl trivial ?_
                  refine ji_get (ci := 8) (k := 0) rfl dX8_delete_91 lX8_47 (by decide) (rf_60) rfl ?_
                  refine ji_if_le (tgt := 99) dX8_delete_94 rfl (by omega) (fun c94 => absurd c94 (by omega)) (fun c94 => ?_)
                  refine ji_iconst dX8_delete_97 ?_
                  exact ji_ireturn dX8_delete_98 rfl (rfl) ⟨jr_i (by first | rfl | omega), rfl⟩
          · try (exfalso; omega)
            all_goals
              refine ji_iload_n dX8_delete_45 rfl ?_
              refine ji_iload dX8_delete_46 rfl ?_
              refine ji_icmp_ge (tgt := 63) dX8_delete_48 rfl (by omega) (by omega) (fun c48 => ?_) (fun c48 => ?_)
              · try (exfalso; omega)
                all_goals
                  refine ji_iconst dX8_delete_63 ?_
                  refine ji_istore dX8_delete_64 (by decide) rfl ?_
                  refine ji_aload_n dX8_delete_66 rfl trivial ?_
                  refine ji_iload dX8_delete_67 rfl ?_
                  refine ji_if_ne (tgt := 76) dX8_delete_69 rfl (by omega) (fun c69 => ?_) (fun c69 => ?_)
                  · try (exfalso; omega)
                    all_goals
                      exfalso; omega
                  · try (exfalso; omega)
                    all_goals
                      refine ji_iconst dX8_delete_72 ?_
                      refine ji_goto (tgt := 87) dX8_delete_73 rfl ?_
                      refine ji_putE (ci := 8) (k := 0) rfl dX8_delete_87 lX8_47 (by decide) (rf_60) (by simp [rf_c]) (ji_fitI _) rfl (rf_pth) ?_
                      refine ji_aload_n dX8_delete_90 rfl trivial ?_
                      refine ji_get (ci := 8) (k := 0) rfl dX8_delete_91 lX8_47 (by decide) (rf_60) rfl ?_
                      refine ji_if_le (tgt := 99) dX8_delete_94 rfl (by omega) (fun c94 => absurd c94 (by omega)) (fun c94 => ?_)
                      refine ji_iconst dX8_delete_97 ?_
                      exact ji_ireturn dX8_delete_98 rfl (rfl) ⟨jr_i (by first | rfl | omega), rfl⟩
              · try (exfalso; omega)
                all_goals
                  refine ji_iload_n dX8_delete_51 rfl ?_
                  refine ji_iload dX8_delete_52 rfl ?_
                  refine ji_iload_n dX8_delete_54 rfl ?_
                  refine ji_isub dX8_delete_55 ?_
                  refine ji_icmp_gt (tgt := 63) dX8_delete_56 rfl (by omega) (by omega) (fun c56 => ?_) (fun c56 => ?_)
                  · try (exfalso; omega)
                    all_goals
                      refine ji_iconst dX8_delete_63 ?_
                      refine ji_istore dX8_delete_64 (by decide) rfl ?_
                      refine ji_aload_n dX8_delete_66 rfl trivial ?_
                      refine ji_iload dX8_delete_67 rfl ?_
                      refine ji_if_ne (tgt := 76) dX8_delete_69 rfl (by omega) (fun c69 => ?_) (fun c69 => ?_)
                      · try (exfalso; omega)
                        all_goals
                          exfalso; omega
                      · try (exfalso; omega)
                        all_goals
                          refine ji_iconst dX8_delete_72 ?_
                          refine ji_goto (tgt := 87) dX8_delete_73 rfl ?_
                          refine ji_putE (ci := 8) (k := 0) rfl dX8_delete_87 lX8_47 (by decide) (rf_60) (by simp [rf_c]) (ji_fitI _) rfl (rf_pth) ?_
                          refine ji_aload_n dX8_delete_90 rfl trivial ?_
                          refine ji_get (ci := 8) (k := 0) rfl dX8_delete_91 lX8_47 (by decide) (rf_60) rfl ?_
                          refine ji_if_le (tgt := 99) dX8_delete_94 rfl (by omega) (fun c94 => absurd c94 (by omega)) (fun c94 => ?_)
                          refine ji_iconst dX8_delete_97 ?_
                          exact ji_ireturn dX8_delete_98 rfl (rfl) ⟨jr_i (by first | rfl | omega), rfl⟩
                  · try (exfalso; omega)
                    all_goals
                      refine ji_iconst dX8_delete_59 ?_
                      refine ji_goto (tgt := 64) dX8_delete_60 rfl ?_
                      refine ji_istore dX8_delete_64 (by decide) rfl ?_
                      refine ji_aload_n dX8_delete_66 rfl trivial ?_
                      refine ji_iload dX8_delete_67 rfl ?_
                      refine ji_if_ne (tgt := 76) dX8_delete_69 rfl (by omega) (fun c69 => ?_) (fun c69 => ?_)
                      · try (exfalso; omega)
                        all_goals
                          exfalso; omega
                      · try (exfalso; omega)
                        all_goals
                          refine ji_iconst dX8_delete_72 ?_
                          refine ji_goto (tgt := 87) dX8_delete_73 rfl ?_
                          refine ji_putE (ci := 8) (k := 0) rfl dX8_delete_87 lX8_47 (by decide) (rf_60) (by simp [rf_c]) (ji_fitI _) rfl (rf_pth) ?_
                          refine ji_aload_n dX8_delete_90 rfl trivial ?_
                          refine ji_get (ci := 8) (k := 0) rfl dX8_delete_91 lX8_47 (by decide) (rf_60) rfl ?_
                          refine ji_if_le (tgt := 99) dX8_delete_94 rfl (by omega) (fun c94 => absurd c94 (by omega)) (fun c94 => ?_)
                          refine ji_iconst dX8_delete_97 ?_
                          exact ji_ireturn dX8_delete_98 rfl (rfl) ⟨jr_i (by first | rfl | omega), rfl⟩
  · try (exfalso; omega)
    all_goals
      refine ji_iload_n dX8_delete_8 rfl ?_
      refine ji_if_lt (tgt := 21) dX8_delete_9 rfl (by omega) (fun c9 => ?_) (fun c9 => ?_)
      · try (exfalso; omega)
        all_goals
          refine ji_iconst dX8_delete_21 ?_
          refine ji_istore dX8_delete_22 (by decide) rfl ?_
          refine ji_iload dX8_delete_24 rfl ?_
          refine ji_if_eq (tgt := 37) dX8_delete_26 rfl (by omega) (fun c26 => ?_) (fun c26 => ?_)
          · try (exfalso; omega)
            all_goals
              refine ji_iconst dX8_delete_37 ?_
              refine ji_istore dX8_delete_38 (by decide) rfl ?_
              refine ji_iload dX8_delete_40 rfl ?_
              refine ji_if_eq (tgt := 63) dX8_delete_42 rfl (by omega) (fun c42 => ?_) (fun c42 => ?_)
              · try (exfalso; omega)
                all_goals
                  refine ji_iconst dX8_delete_63 ?_
                  refine ji_istore dX8_delete_64 (by decide) rfl ?_
                  refine ji_aload_n dX8_delete_66 rfl trivial ?_
                  refine ji_iload dX8_delete_67 rfl ?_
                  refine ji_if_ne (tgt := 76) dX8_delete_69 rfl (by omega) (fun c69 => ?_) (fun c69 => ?_)
                  · try (exfalso; omega)
                    all_goals
                      exfalso; omega
                  · try (exfalso; omega)
                    all_goals
                      refine ji_iconst dX8_delete_72 ?_
                      refine ji_goto (tgt := 87) dX8_delete_73 rfl ?_
                      refine ji_putE (ci := 8) (k := 0) rfl dX8_delete_87 lX8_47 (by decide) (rf_60) (by simp [rf_c]) (ji_fitI _) rfl (rf_pth) ?_
                      refine ji_aload_n dX8_delete_90 rfl trivial ?_
                      refine ji_get (ci := 8) (k := 0) rfl dX8_delete_91 lX8_47 (by decide) (rf_60) rfl ?_
                      refine ji_if_le (tgt := 99) dX8_delete_94 rfl (by omega) (fun c94 => absurd c94 (by omega)) (fun c94 => ?_)
                      refine ji_iconst dX8_delete_97 ?_
                      exact ji_ireturn dX8_delete_98 rfl (rfl) ⟨jr_i (by first | rfl | omega), rfl⟩
              · try (exfalso; omega)
                all_goals
                  refine ji_iload_n dX8_delete_45 rfl ?_
                  refine ji_iload dX8_delete_46 rfl ?_
                  refine ji_icmp_ge (tgt := 63) dX8_delete_48 rfl (by omega) (by omega) (fun c48 => ?_) (fun c48 => ?_)
                  · try (exfalso; omega)
                    all_goals
                      refine ji_iconst dX8_delete_63 ?_
                      refine ji_istore dX8_delete_64 (by decide) rfl ?_
                      refine ji_aload_n dX8_delete_66 rfl trivial ?_
                      refine ji_iload dX8_delete_67 rfl ?_
                      refine ji_if_ne (tgt := 76) dX8_delete_69 rfl (by omega) (fun c69 => ?_) (fun c69 => ?_)
                      · try (exfalso; omega)
                        all_goals
                          exfalso; omega
                      · try (exfalso; omega)
                        all_goals
                          refine ji_iconst dX8_delete_72 ?_
                          refine ji_goto (tgt := 87) dX8_delete_73 rfl ?_
                          refine ji_putE (ci := 8) (k := 0) rfl dX8_delete_87 lX8_47 (by decide) (rf_60) (by simp [rf_c]) (ji_fitI _) rfl (rf_pth) ?_
                          refine ji_aload_n dX8_delete_90 rfl trivial ?_
                          refine ji_get (ci := 8) (k := 0) rfl dX8_delete_91 lX8_47 (by decide) (rf_60) rfl ?_
                          refine ji_if_le (tgt := 99) dX8_delete_94 rfl (by omega) (fun c94 => absurd c94 (by omega)) (fun c94 => ?_)
                          refine ji_iconst dX8_delete_97 ?_
                          exact ji_ireturn dX8_delete_98 rfl (rfl) ⟨jr_i (by first | rfl | omega), rfl⟩
                  · try (exfalso; omega)
                    all_goals
                      refine ji_iload_n dX8_delete_51 rfl ?_
                      refine ji_iload dX8_delete_52 rfl ?_
                      refine ji_iload_n dX8_delete_54 rfl ?_
                      refine ji_isub dX8_delete_55 ?_
                      refine ji_icmp_gt (tgt := 63) dX8_delete_56 rfl (by omega) (by omega) (fun c56 => ?_) (fun c56 => ?_)
                      · try (exfalso; omega)
                        all_goals
                          refine ji_iconst dX8_delete_63 ?_
                          refine ji_istore dX8_delete_64 (by decide) rfl ?_
                          refine ji_aload_n dX8_delete_66 rfl trivial ?_
                          refine ji_iload dX8_delete_67 rfl ?_
                          refine ji_if_ne (tgt := 76) dX8_delete_69 rfl (by omega) (fun c69 => ?_) (fun c69 => ?_)
                          · try (exfalso; omega)
                            all_goals
                              exfalso; omega
                          · try (exfalso; omega)
                            all_goals
                              refine ji_iconst dX8_delete_72 ?_
                              refine ji_goto (tgt := 87) dX8_delete_73 rfl ?_
                              refine ji_putE (ci := 8) (k := 0) rfl dX8_delete_87 lX8_47 (by decide) (rf_60) (by simp [rf_c]) (ji_fitI _) rfl (rf_pth) ?_
                              refine ji_aload_n dX8_delete_90 rfl trivial ?_
                              refine ji_get (ci := 8) (k := 0) rfl dX8_delete_91 lX8_47 (by decide) (rf_60) rfl ?_
                              refine ji_if_le (tgt := 99) dX8_delete_94 rfl (by omega) (fun c94 => absurd c94 (by omega)) (fun c94 => ?_)
                              refine ji_iconst dX8_delete_97 ?_
                              exact ji_ireturn dX8_delete_98 rfl (rfl) ⟨jr_i (by first | rfl | omega), rfl⟩
                      · try (exfalso; omega)
                        all_goals
                          refine ji_iconst dX8_delete_59 ?_
                          refine ji_goto (tgt := 64) dX8_delete_60 rfl ?_
                          refine ji_istore dX8_delete_64 (by decide) rfl ?_
                          refine ji_aload_n dX8_delete_66 rfl trivial ?_
                          refine ji_iload dX8_delete_67 rfl ?_
                          refine ji_if_ne (tgt := 76) dX8_delete_69 rfl (by omega) (fun c69 => ?_) (fun c69 => ?_)
                          · try (exfalso; omega)
                            all_goals
                              exfalso; omega
                          · try (exfalso; omega)
                            all_goals
                              refine ji_iconst dX8_delete_72 ?_
                              refine ji_goto (tgt := 87) dX8_delete_73 rfl ?_
                              refine ji_putE (ci := 8) (k := 0) rfl dX8_delete_87 lX8_47 (by decide) (rf_60) (by simp [rf_c]) (ji_fitI _) rfl (rf_pth) ?_
                              refine ji_aload_n dX8_delete_90 rfl trivial ?_
                              refine ji_get (ci := 8) (k := 0) rfl dX8_delete_91 lX8_47 (by decide) (rf_60) rfl ?_
                              refine ji_if_le (tgt := 99) dX8_delete_94 rfl (by omega) (fun c94 => absurd c94 (by omega)) (fun c94 => ?_)
                              refine ji_iconst dX8_delete_97 ?_
                              exact ji_ireturn dX8_delete_98 rfl (rfl) ⟨jr_i (by first | rfl | omega), rfl⟩
          · try (exfalso; omega)
            all_goals
              refine ji_aload_n dX8_delete_29 rfl trivial ?_
              refine ji_iload_n dX8_delete_30 rfl ?_
              refine ji_cV dX8_delete_31 (r_wordsOf hz hn (by omega)) rfl (rf_60) rfl rfl wX8_wordsOf vX8_wordsOf lX8_260 rfl (Nat.le_of_ble_eq_true rfl) rfl ?_
              refine ji_goto (tgt := 38) dX8_delete_34 rfl ?_
              refine ji_istore dX8_delete_38 (by decide) rfl ?_
              refine ji_iload dX8_delete_40 rfl ?_
              refine ji_if_eq (tgt := 63) dX8_delete_42 rfl (by omega) (fun c42 => ?_) (fun c42 => ?_)
              · try (exfalso; omega)
                all_goals
                  refine ji_iconst dX8_delete_63 ?_
                  refine ji_istore dX8_delete_64 (by decide) rfl ?_
                  refine ji_aload_n dX8_delete_66 rfl trivial ?_
                  refine ji_iload dX8_delete_67 rfl ?_
                  refine ji_if_ne (tgt := 76) dX8_delete_69 rfl (by omega) (fun c69 => ?_) (fun c69 => ?_)
                  · try (exfalso; omega)
                    all_goals
                      exfalso; omega
                  · try (exfalso; omega)
                    all_goals
                      refine ji_iconst dX8_delete_72 ?_
                      refine ji_goto (tgt := 87) dX8_delete_73 rfl ?_
                      refine ji_putE (ci := 8) (k := 0) rfl dX8_delete_87 lX8_47 (by decide) (rf_60) (by simp [rf_c]) (ji_fitI _) rfl (rf_pth) ?_
                      refine ji_aload_n dX8_delete_90 rfl trivial ?_
                      refine ji_get (ci := 8) (k := 0) rfl dX8_delete_91 lX8_47 (by decide) (rf_60) rfl ?_
                      refine ji_if_le (tgt := 99) dX8_delete_94 rfl (by omega) (fun c94 => absurd c94 (by omega)) (fun c94 => ?_)
                      refine ji_iconst dX8_delete_97 ?_
                      exact ji_ireturn dX8_delete_98 rfl (rfl) ⟨jr_i (by first | rfl | omega), rfl⟩
              · try (exfalso; omega)
                all_goals
                  refine ji_iload_n dX8_delete_45 rfl ?_
                  refine ji_iload dX8_delete_46 rfl ?_
                  refine ji_icmp_ge (tgt := 63) dX8_delete_48 rfl (by omega) (by omega) (fun c48 => ?_) (fun c48 => ?_)
                  · try (exfalso; omega)
                    all_goals
                      refine ji_iconst dX8_delete_63 ?_
                      refine ji_istore dX8_delete_64 (by decide) rfl ?_
                      refine ji_aload_n dX8_delete_66 rfl trivial ?_
                      refine ji_iload dX8_delete_67 rfl ?_
                      refine ji_if_ne (tgt := 76) dX8_delete_69 rfl (by omega) (fun c69 => ?_) (fun c69 => ?_)
                      · try (exfalso; omega)
                        all_goals
                          exfalso; omega
                      · try (exfalso; omega)
                        all_goals
                          refine ji_iconst dX8_delete_72 ?_
                          refine ji_goto (tgt := 87) dX8_delete_73 rfl ?_
                          refine ji_putE (ci := 8) (k := 0) rfl dX8_delete_87 lX8_47 (by decide) (rf_60) (by simp [rf_c]) (ji_fitI _) rfl (rf_pth) ?_
                          refine ji_aload_n dX8_delete_90 rfl trivial ?_
                          refine ji_get (ci := 8) (k := 0) rfl dX8_delete_91 lX8_47 (by decide) (rf_60) rfl ?_
                          refine ji_if_le (tgt := 99) dX8_delete_94 rfl (by omega) (fun c94 => absurd c94 (by omega)) (fun c94 => ?_)
                          refine ji_iconst dX8_delete_97 ?_
                          exact ji_ireturn dX8_delete_98 rfl (rfl) ⟨jr_i (by first | rfl | omega), rfl⟩
                  · try (exfalso; omega)
                    all_goals
                      refine ji_iload_n dX8_delete_51 rfl ?_
                      refine ji_iload dX8_delete_52 rfl ?_
                      refine ji_iload_n dX8_delete_54 rfl ?_
                      refine ji_isub dX8_delete_55 ?_
                      refine ji_icmp_gt (tgt := 63) dX8_delete_56 rfl (by omega) (by omega) (fun c56 => ?_) (fun c56 => ?_)
                      · try (exfalso; omega)
                        all_goals
                          refine ji_iconst dX8_delete_63 ?_
                          refine ji_istore dX8_delete_64 (by decide) rfl ?_
                          refine ji_aload_n dX8_delete_66 rfl trivial ?_
                          refine ji_iload dX8_delete_67 rfl ?_
                          refine ji_if_ne (tgt := 76) dX8_delete_69 rfl (by omega) (fun c69 => ?_) (fun c69 => ?_)
                          · try (exfalso; omega)
                            all_goals
                              exfalso; omega
                          · try (exfalso; omega)
                            all_goals
                              refine ji_iconst dX8_delete_72 ?_
                              refine ji_goto (tgt := 87) dX8_delete_73 rfl ?_
                              refine ji_putE (ci := 8) (k := 0) rfl dX8_delete_87 lX8_47 (by decide) (rf_60) (by simp [rf_c]) (ji_fitI _) rfl (rf_pth) ?_
                              refine ji_aload_n dX8_delete_90 rfl trivial ?_
                              refine ji_get (ci := 8) (k := 0) rfl dX8_delete_91 lX8_47 (by decide) (rf_60) rfl ?_
                              refine ji_if_le (tgt := 99) dX8_delete_94 rfl (by omega) (fun c94 => absurd c94 (by omega)) (fun c94 => ?_)
                              refine ji_iconst dX8_delete_97 ?_
                              exact ji_ireturn dX8_delete_98 rfl (rfl) ⟨jr_i (by first | rfl | omega), rfl⟩
                      · try (exfalso; omega)
                        all_goals
                          refine ji_iconst dX8_delete_59 ?_
                          refine ji_goto (tgt := 64) dX8_delete_60 rfl ?_
                          refine ji_istore dX8_delete_64 (by decide) rfl ?_
                          refine ji_aload_n dX8_delete_66 rfl trivial ?_
                          refine ji_iload dX8_delete_67 rfl ?_
                          refine ji_if_ne (tgt := 76) dX8_delete_69 rfl (by omega) (fun c69 => ?_) (fun c69 => ?_)
                          · try (exfalso; omega)
                            all_goals
                              exfalso; omega
                          · try (exfalso; omega)
                            all_goals
                              refine ji_iconst dX8_delete_72 ?_
                              refine ji_goto (tgt := 87) dX8_delete_73 rfl ?_
                              refine ji_putE (ci := 8) (k := 0) rfl dX8_delete_87 lX8_47 (by decide) (rf_60) (by simp [rf_c]) (ji_fitI _) rfl (rf_pth) ?_
                              refine ji_aload_n dX8_delete_90 rfl trivial ?_
                              refine ji_get (ci := 8) (k := 0) rfl dX8_delete_91 lX8_47 (by decide) (rf_60) rfl ?_
                              refine ji_if_le (tgt := 99) dX8_delete_94 rfl (by omega) (fun c94 => absurd c94 (by omega)) (fun c94 => ?_)
                              refine ji_iconst dX8_delete_97 ?_
                              exact ji_ireturn dX8_delete_98 rfl (rfl) ⟨jr_i (by first | rfl | omega), rfl⟩
      · try (exfalso; omega)
        all_goals
          refine ji_iload_n dX8_delete_12 rfl ?_
          refine ji_iconst dX8_delete_13 ?_
          refine ji_icmp_lt (tgt := 21) dX8_delete_14 rfl (by omega) (by omega) (fun c14 => ?_) (fun c14 => ?_)
          · try (exfalso; omega)
            all_goals
              refine ji_iconst dX8_delete_21 ?_
              refine ji_istore dX8_delete_22 (by decide) rfl ?_
              refine ji_iload dX8_delete_24 rfl ?_
              refine ji_if_eq (tgt := 37) dX8_delete_26 rfl (by omega) (fun c26 => ?_) (fun c26 => ?_)
              · try (exfalso; omega)
                all_goals
                  refine ji_iconst dX8_delete_37 ?_
                  refine ji_istore dX8_delete_38 (by decide) rfl ?_
                  refine ji_iload dX8_delete_40 rfl ?_
                  refine ji_if_eq (tgt := 63) dX8_delete_42 rfl (by omega) (fun c42 => ?_) (fun c42 => ?_)
                  · try (exfalso; omega)
                    all_goals
                      refine ji_iconst dX8_delete_63 ?_
                      refine ji_istore dX8_delete_64 (by decide) rfl ?_
                      refine ji_aload_n dX8_delete_66 rfl trivial ?_
                      refine ji_iload dX8_delete_67 rfl ?_
                      refine ji_if_ne (tgt := 76) dX8_delete_69 rfl (by omega) (fun c69 => ?_) (fun c69 => ?_)
                      · try (exfalso; omega)
                        all_goals
                          exfalso; omega
                      · try (exfalso; omega)
                        all_goals
                          refine ji_iconst dX8_delete_72 ?_
                          refine ji_goto (tgt := 87) dX8_delete_73 rfl ?_
                          refine ji_putE (ci := 8) (k := 0) rfl dX8_delete_87 lX8_47 (by decide) (rf_60) (by simp [rf_c]) (ji_fitI _) rfl (rf_pth) ?_
                          refine ji_aload_n dX8_delete_90 rfl trivial ?_
                          refine ji_get (ci := 8) (k := 0) rfl dX8_delete_91 lX8_47 (by decide) (rf_60) rfl ?_
                          refine ji_if_le (tgt := 99) dX8_delete_94 rfl (by omega) (fun c94 => absurd c94 (by omega)) (fun c94 => ?_)
                          refine ji_iconst dX8_delete_97 ?_
                          exact ji_ireturn dX8_delete_98 rfl (rfl) ⟨jr_i (by first | rfl | omega), rfl⟩
                  · try (exfalso; omega)
                    all_goals
                      refine ji_iload_n dX8_delete_45 rfl ?_
                      refine ji_iload dX8_delete_46 rfl ?_
                      refine ji_icmp_ge (tgt := 63) dX8_delete_48 rfl (by omega) (by omega) (fun c48 => ?_) (fun c48 => ?_)
                      · try (exfalso; omega)
                        all_goals
                          refine ji_iconst dX8_delete_63 ?_
                          refine ji_istore dX8_delete_64 (by decide) rfl ?_
                          refine ji_aload_n dX8_delete_66 rfl trivial ?_
                          refine ji_iload dX8_delete_67 rfl ?_
                          refine ji_if_ne (tgt := 76) dX8_delete_69 rfl (by omega) (fun c69 => ?_) (fun c69 => ?_)
                          · try (exfalso; omega)
                            all_goals
                              exfalso; omega
                          · try (exfalso; omega)
                            all_goals
                              refine ji_iconst dX8_delete_72 ?_
                              refine ji_goto (tgt := 87) dX8_delete_73 rfl ?_
                              refine ji_putE (ci := 8) (k := 0) rfl dX8_delete_87 lX8_47 (by decide) (rf_60) (by simp [rf_c]) (ji_fitI _) rfl (rf_pth) ?_
                              refine ji_aload_n dX8_delete_90 rfl trivial ?_
                              refine ji_get (ci := 8) (k := 0) rfl dX8_delete_91 lX8_47 (by decide) (rf_60) rfl ?_
                              refine ji_if_le (tgt := 99) dX8_delete_94 rfl (by omega) (fun c94 => absurd c94 (by omega)) (fun c94 => ?_)
                              refine ji_iconst dX8_delete_97 ?_
                              exact ji_ireturn dX8_delete_98 rfl (rfl) ⟨jr_i (by first | rfl | omega), rfl⟩
                      · try (exfalso; omega)
                        all_goals
                          refine ji_iload_n dX8_delete_51 rfl ?_
                          refine ji_iload dX8_delete_52 rfl ?_
                          refine ji_iload_n dX8_delete_54 rfl ?_
                          refine ji_isub dX8_delete_55 ?_
                          refine ji_icmp_gt (tgt := 63) dX8_delete_56 rfl (by omega) (by omega) (fun c56 => ?_) (fun c56 => ?_)
                          · try (exfalso; omega)
                            all_goals
                              refine ji_iconst dX8_delete_63 ?_
                              refine ji_istore dX8_delete_64 (by decide) rfl ?_
                              refine ji_aload_n dX8_delete_66 rfl trivial ?_
                              refine ji_iload dX8_delete_67 rfl ?_
                              refine ji_if_ne (tgt := 76) dX8_delete_69 rfl (by omega) (fun c69 => ?_) (fun c69 => ?_)
                              · try (exfalso; omega)
                                all_goals
                                  exfalso; omega
                              · try (exfalso; omega)
                                all_goals
                                  refine ji_iconst dX8_delete_72 ?_
                                  refine ji_goto (tgt := 87) dX8_delete_73 rfl ?_
                                  refine ji_putE (ci := 8) (k := 0) rfl dX8_delete_87 lX8_47 (by decide) (rf_60) (by simp [rf_c]) (ji_fitI _) rfl (rf_pth) ?_
                                  refine ji_aload_n dX8_delete_90 rfl trivial ?_
                                  refine ji_get (ci := 8) (k := 0) rfl dX8_delete_91 lX8_47 (by decide) (rf_60) rfl ?_
                                  refine ji_if_le (tgt := 99) dX8_delete_94 rfl (by omega) (fun c94 => absurd c94 (by omega)) (fun c94 => ?_)
                                  refine ji_iconst dX8_delete_97 ?_
                                  exact ji_ireturn dX8_delete_98 rfl (rfl) ⟨jr_i (by first | rfl | omega), rfl⟩
                          · try (exfalso; omega)
                            all_goals
                              refine ji_iconst dX8_delete_59 ?_
                              refine ji_goto (tgt := 64) dX8_delete_60 rfl ?_
                              refine ji_istore dX8_delete_64 (by decide) rfl ?_
                              refine ji_aload_n dX8_delete_66 rfl trivial ?_
                              refine ji_iload dX8_delete_67 rfl ?_
                              refine ji_if_ne (tgt := 76) dX8_delete_69 rfl (by omega) (fun c69 => ?_) (fun c69 => ?_)
                              · try (exfalso; omega)
                                all_goals
                                  exfalso; omega
                              · try (exfalso; omega)
                                all_goals
                                  refine ji_iconst dX8_delete_72 ?_
                                  refine ji_goto (tgt := 87) dX8_delete_73 rfl ?_
                                  refine ji_putE (ci := 8) (k := 0) rfl dX8_delete_87 lX8_47 (by decide) (rf_60) (by simp [rf_c]) (ji_fitI _) rfl (rf_pth) ?_
                                  refine ji_aload_n dX8_delete_90 rfl trivial ?_
                                  refine ji_get (ci := 8) (k := 0) rfl dX8_delete_91 lX8_47 (by decide) (rf_60) rfl ?_
                                  refine ji_if_le (tgt := 99) dX8_delete_94 rfl (by omega) (fun c94 => absurd c94 (by omega)) (fun c94 => ?_)
                                  refine ji_iconst dX8_delete_97 ?_
                                  exact ji_ireturn dX8_delete_98 rfl (rfl) ⟨jr_i (by first | rfl | omega), rfl⟩
              · try (exfalso; omega)
                all_goals
                  refine ji_aload_n dX8_delete_29 rfl trivial ?_
                  refine ji_iload_n dX8_delete_30 rfl ?_
                  refine ji_cV dX8_delete_31 (r_wordsOf hz hn (by omega)) rfl (rf_60) rfl rfl wX8_wordsOf vX8_wordsOf lX8_260 rfl (Nat.le_of_ble_eq_true rfl) rfl ?_
                  refine ji_goto (tgt := 38) dX8_delete_34 rfl ?_
                  refine ji_istore dX8_delete_38 (by decide) rfl ?_
                  refine ji_iload dX8_delete_40 rfl ?_
                  refine ji_if_eq (tgt := 63) dX8_delete_42 rfl (by omega) (fun c42 => ?_) (fun c42 => ?_)
                  · try (exfalso; omega)
                    all_goals
                      refine ji_iconst dX8_delete_63 ?_
                      refine ji_istore dX8_delete_64 (by decide) rfl ?_
                      refine ji_aload_n dX8_delete_66 rfl trivial ?_
                      refine ji_iload dX8_delete_67 rfl ?_
                      refine ji_if_ne (tgt := 76) dX8_delete_69 rfl (by omega) (fun c69 => ?_) (fun c69 => ?_)
                      · try (exfalso; omega)
                        all_goals
                          exfalso; omega
                      · try (exfalso; omega)
                        all_goals
                          refine ji_iconst dX8_delete_72 ?_
                          refine ji_goto (tgt := 87) dX8_delete_73 rfl ?_
                          refine ji_putE (ci := 8) (k := 0) rfl dX8_delete_87 lX8_47 (by decide) (rf_60) (by simp [rf_c]) (ji_fitI _) rfl (rf_pth) ?_
                          refine ji_aload_n dX8_delete_90 rfl trivial ?_
                          refine ji_get (ci := 8) (k := 0) rfl dX8_delete_91 lX8_47 (by decide) (rf_60) rfl ?_
                          refine ji_if_le (tgt := 99) dX8_delete_94 rfl (by omega) (fun c94 => absurd c94 (by omega)) (fun c94 => ?_)
                          refine ji_iconst dX8_delete_97 ?_
                          exact ji_ireturn dX8_delete_98 rfl (rfl) ⟨jr_i (by first | rfl | omega), rfl⟩
                  · try (exfalso; omega)
                    all_goals
                      refine ji_iload_n dX8_delete_45 rfl ?_
                      refine ji_iload dX8_delete_46 rfl ?_
                      refine ji_icmp_ge (tgt := 63) dX8_delete_48 rfl (by omega) (by omega) (fun c48 => ?_) (fun c48 => ?_)
                      · try (exfalso; omega)
                        all_goals
                          refine ji_iconst dX8_delete_63 ?_
                          refine ji_istore dX8_delete_64 (by decide) rfl ?_
                          refine ji_aload_n dX8_delete_66 rfl trivial ?_
                          refine ji_iload dX8_delete_67 rfl ?_
                          refine ji_if_ne (tgt := 76) dX8_delete_69 rfl (by omega) (fun c69 => ?_) (fun c69 => ?_)
                          · try (exfalso; omega)
                            all_goals
                              exfalso; omega
                          · try (exfalso; omega)
                            all_goals
                              refine ji_iconst dX8_delete_72 ?_
                              refine ji_goto (tgt := 87) dX8_delete_73 rfl ?_
                              refine ji_putE (ci := 8) (k := 0) rfl dX8_delete_87 lX8_47 (by decide) (rf_60) (by simp [rf_c]) (ji_fitI _) rfl (rf_pth) ?_
                              refine ji_aload_n dX8_delete_90 rfl trivial ?_
                              refine ji_get (ci := 8) (k := 0) rfl dX8_delete_91 lX8_47 (by decide) (rf_60) rfl ?_
                              refine ji_if_le (tgt := 99) dX8_delete_94 rfl (by omega) (fun c94 => absurd c94 (by omega)) (fun c94 => ?_)
                              refine ji_iconst dX8_delete_97 ?_
                              exact ji_ireturn dX8_delete_98 rfl (rfl) ⟨jr_i (by first | rfl | omega), rfl⟩
                      · try (exfalso; omega)
                        all_goals
                          refine ji_iload_n dX8_delete_51 rfl ?_
                          refine ji_iload dX8_delete_52 rfl ?_
                          refine ji_iload_n dX8_delete_54 rfl ?_
                          refine ji_isub dX8_delete_55 ?_
                          refine ji_icmp_gt (tgt := 63) dX8_delete_56 rfl (by omega) (by omega) (fun c56 => ?_) (fun c56 => ?_)
                          · try (exfalso; omega)
                            all_goals
                              refine ji_iconst dX8_delete_63 ?_
                              refine ji_istore dX8_delete_64 (by decide) rfl ?_
                              refine ji_aload_n dX8_delete_66 rfl trivial ?_
                              refine ji_iload dX8_delete_67 rfl ?_
                              refine ji_if_ne (tgt := 76) dX8_delete_69 rfl (by omega) (fun c69 => ?_) (fun c69 => ?_)
                              · try (exfalso; omega)
                                all_goals
                                  exfalso; omega
                              · try (exfalso; omega)
                                all_goals
                                  refine ji_iconst dX8_delete_72 ?_
                                  refine ji_goto (tgt := 87) dX8_delete_73 rfl ?_
                                  refine ji_putE (ci := 8) (k := 0) rfl dX8_delete_87 lX8_47 (by decide) (rf_60) (by simp [rf_c]) (ji_fitI _) rfl (rf_pth) ?_
                                  refine ji_aload_n dX8_delete_90 rfl trivial ?_
                                  refine ji_get (ci := 8) (k := 0) rfl dX8_delete_91 lX8_47 (by decide) (rf_60) rfl ?_
                                  refine ji_if_le (tgt := 99) dX8_delete_94 rfl (by omega) (fun c94 => absurd c94 (by omega)) (fun c94 => ?_)
                                  refine ji_iconst dX8_delete_97 ?_
                                  exact ji_ireturn dX8_delete_98 rfl (rfl) ⟨jr_i (by first | rfl | omega), rfl⟩
                          · try (exfalso; omega)
                            all_goals
                              refine ji_iconst dX8_delete_59 ?_
                              refine ji_goto (tgt := 64) dX8_delete_60 rfl ?_
                              refine ji_istore dX8_delete_64 (by decide) rfl ?_
                              refine ji_aload_n dX8_delete_66 rfl trivial ?_
                              refine ji_iload dX8_delete_67 rfl ?_
                              refine ji_if_ne (tgt := 76) dX8_delete_69 rfl (by omega) (fun c69 => ?_) (fun c69 => ?_)
                              · try (exfalso; omega)
                                all_goals
                                  exfalso; omega
                              · try (exfalso; omega)
                                all_goals
                                  refine ji_iconst dX8_delete_72 ?_
                                  refine ji_goto (tgt := 87) dX8_delete_73 rfl ?_
                                  refine ji_putE (ci := 8) (k := 0) rfl dX8_delete_87 lX8_47 (by decide) (rf_60) (by simp [rf_c]) (ji_fitI _) rfl (rf_pth) ?_
                                  refine ji_aload_n dX8_delete_90 rfl trivial ?_
                                  refine ji_get (ci := 8) (k := 0) rfl dX8_delete_91 lX8_47 (by decide) (rf_60) rfl ?_
                                  refine ji_if_le (tgt := 99) dX8_delete_94 rfl (by omega) (fun c94 => absurd c94 (by omega)) (fun c94 => ?_)
                                  refine ji_iconst dX8_delete_97 ?_
                                  exact ji_ireturn dX8_delete_98 rfl (rfl) ⟨jr_i (by first | rfl | omega), rfl⟩
          · try (exfalso; omega)
            all_goals
              refine ji_iconst dX8_delete_17 ?_
              refine ji_goto (tgt := 22) dX8_delete_18 rfl ?_
              refine ji_istore dX8_delete_22 (by decide) rfl ?_
              refine ji_iload dX8_delete_24 rfl ?_
              refine ji_if_eq (tgt := 37) dX8_delete_26 rfl (by omega) (fun c26 => ?_) (fun c26 => ?_)
              · try (exfalso; omega)
                all_goals
                  refine ji_iconst dX8_delete_37 ?_
                  refine ji_istore dX8_delete_38 (by decide) rfl ?_
                  refine ji_iload dX8_delete_40 rfl ?_
                  refine ji_if_eq (tgt := 63) dX8_delete_42 rfl (by omega) (fun c42 => ?_) (fun c42 => ?_)
                  · try (exfalso; omega)
                    all_goals
                      refine ji_iconst dX8_delete_63 ?_
                      refine ji_istore dX8_delete_64 (by decide) rfl ?_
                      refine ji_aload_n dX8_delete_66 rfl trivial ?_
                      refine ji_iload dX8_delete_67 rfl ?_
                      refine ji_if_ne (tgt := 76) dX8_delete_69 rfl (by omega) (fun c69 => ?_) (fun c69 => ?_)
                      · try (exfalso; omega)
                        all_goals
                          exfalso; omega
                      · try (exfalso; omega)
                        all_goals
                          refine ji_iconst dX8_delete_72 ?_
                          refine ji_goto (tgt := 87) dX8_delete_73 rfl ?_
                          refine ji_putE (ci := 8) (k := 0) rfl dX8_delete_87 lX8_47 (by decide) (rf_60) (by simp [rf_c]) (ji_fitI _) rfl (rf_pth) ?_
                          refine ji_aload_n dX8_delete_90 rfl trivial ?_
                          refine ji_get (ci := 8) (k := 0) rfl dX8_delete_91 lX8_47 (by decide) (rf_60) rfl ?_
                          refine ji_if_le (tgt := 99) dX8_delete_94 rfl (by omega) (fun c94 => absurd c94 (by omega)) (fun c94 => ?_)
                          refine ji_iconst dX8_delete_97 ?_
                          exact ji_ireturn dX8_delete_98 rfl (rfl) ⟨jr_i (by first | rfl | omega), rfl⟩
                  · try (exfalso; omega)
                    all_goals
                      refine ji_iload_n dX8_delete_45 rfl ?_
                      refine ji_iload dX8_delete_46 rfl ?_
                      refine ji_icmp_ge (tgt := 63) dX8_delete_48 rfl (by omega) (by omega) (fun c48 => ?_) (fun c48 => ?_)
                      · try (exfalso; omega)
                        all_goals
                          refine ji_iconst dX8_delete_63 ?_
                          refine ji_istore dX8_delete_64 (by decide) rfl ?_
                          refine ji_aload_n dX8_delete_66 rfl trivial ?_
                          refine ji_iload dX8_delete_67 rfl ?_
                          refine ji_if_ne (tgt := 76) dX8_delete_69 rfl (by omega) (fun c69 => ?_) (fun c69 => ?_)
                          · try (exfalso; omega)
                            all_goals
                              exfalso; omega
                          · try (exfalso; omega)
                            all_goals
                              refine ji_iconst dX8_delete_72 ?_
                              refine ji_goto (tgt := 87) dX8_delete_73 rfl ?_
                              refine ji_putE (ci := 8) (k := 0) rfl dX8_delete_87 lX8_47 (by decide) (rf_60) (by simp [rf_c]) (ji_fitI _) rfl (rf_pth) ?_
                              refine ji_aload_n dX8_delete_90 rfl trivial ?_
                              refine ji_get (ci := 8) (k := 0) rfl dX8_delete_91 lX8_47 (by decide) (rf_60) rfl ?_
                              refine ji_if_le (tgt := 99) dX8_delete_94 rfl (by omega) (fun c94 => absurd c94 (by omega)) (fun c94 => ?_)
                              refine ji_iconst dX8_delete_97 ?_
                              exact ji_ireturn dX8_delete_98 rfl (rfl) ⟨jr_i (by first | rfl | omega), rfl⟩
                      · try (exfalso; omega)
                        all_goals
                          refine ji_iload_n dX8_delete_51 rfl ?_
                          refine ji_iload dX8_delete_52 rfl ?_
                          refine ji_iload_n dX8_delete_54 rfl ?_
                          refine ji_isub dX8_delete_55 ?_
                          refine ji_icmp_gt (tgt := 63) dX8_delete_56 rfl (by omega) (by omega) (fun c56 => ?_) (fun c56 => ?_)
                          · try (exfalso; omega)
                            all_goals
                              refine ji_iconst dX8_delete_63 ?_
                              refine ji_istore dX8_delete_64 (by decide) rfl ?_
                              refine ji_aload_n dX8_delete_66 rfl trivial ?_
                              refine ji_iload dX8_delete_67 rfl ?_
                              refine ji_if_ne (tgt := 76) dX8_delete_69 rfl (by omega) (fun c69 => ?_) (fun c69 => ?_)
                              · try (exfalso; omega)
                                all_goals
                                  exfalso; omega
                              · try (exfalso; omega)
                                all_goals
                                  refine ji_iconst dX8_delete_72 ?_
                                  refine ji_goto (tgt := 87) dX8_delete_73 rfl ?_
                                  refine ji_putE (ci := 8) (k := 0) rfl dX8_delete_87 lX8_47 (by decide) (rf_60) (by simp [rf_c]) (ji_fitI _) rfl (rf_pth) ?_
                                  refine ji_aload_n dX8_delete_90 rfl trivial ?_
                                  refine ji_get (ci := 8) (k := 0) rfl dX8_delete_91 lX8_47 (by decide) (rf_60) rfl ?_
                                  refine ji_if_le (tgt := 99) dX8_delete_94 rfl (by omega) (fun c94 => absurd c94 (by omega)) (fun c94 => ?_)
                                  refine ji_iconst dX8_delete_97 ?_
                                  exact ji_ireturn dX8_delete_98 rfl (rfl) ⟨jr_i (by first | rfl | omega), rfl⟩
                          · try (exfalso; omega)
                            all_goals
                              refine ji_iconst dX8_delete_59 ?_
                              refine ji_goto (tgt := 64) dX8_delete_60 rfl ?_
                              refine ji_istore dX8_delete_64 (by decide) rfl ?_
                              refine ji_aload_n dX8_delete_66 rfl trivial ?_
                              refine ji_iload dX8_delete_67 rfl ?_
                              refine ji_if_ne (tgt := 76) dX8_delete_69 rfl (by omega) (fun c69 => ?_) (fun c69 => ?_)
                              · try (exfalso; omega)
                                all_goals
                                  exfalso; omega
                              · try (exfalso; omega)
                                all_goals
                                  refine ji_iconst dX8_delete_72 ?_
                                  refine ji_goto (tgt := 87) dX8_delete_73 rfl ?_
                                  refine ji_putE (ci := 8) (k := 0) rfl dX8_delete_87 lX8_47 (by decide) (rf_60) (by simp [rf_c]) (ji_fitI _) rfl (rf_pth) ?_
                                  refine ji_aload_n dX8_delete_90 rfl trivial ?_
                                  refine ji_get (ci := 8) (k := 0) rfl dX8_delete_91 lX8_47 (by decide) (rf_60) rfl ?_
                                  refine ji_if_le (tgt := 99) dX8_delete_94 rfl (by omega) (fun c94 => absurd c94 (by omega)) (fun c94 => ?_)
                                  refine ji_iconst dX8_delete_97 ?_
                                  exact ji_ireturn dX8_delete_98 rfl (rfl) ⟨jr_i (by first | rfl | omega), rfl⟩
              · try (exfalso; omega)
                all_goals
                  refine ji_aload_n dX8_delete_29 rfl trivial ?_
                  refine ji_iload_n dX8_delete_30 rfl ?_
                  refine ji_cV dX8_delete_31 (r_wordsOf hz hn (by omega)) rfl (rf_60) rfl rfl wX8_wordsOf vX8_wordsOf lX8_260 rfl (Nat.le_of_ble_eq_true rfl) rfl ?_
                  refine ji_goto (tgt := 38) dX8_delete_34 rfl ?_
                  refine ji_istore dX8_delete_38 (by decide) rfl ?_
                  refine ji_iload dX8_delete_40 rfl ?_
                  refine ji_if_eq (tgt := 63) dX8_delete_42 rfl (by omega) (fun c42 => ?_) (fun c42 => ?_)
                  · try (exfalso; omega)
                    all_goals
                      refine ji_iconst dX8_delete_63 ?_
                      refine ji_istore dX8_delete_64 (by decide) rfl ?_
                      refine ji_aload_n dX8_delete_66 rfl trivial ?_
                      refine ji_iload dX8_delete_67 rfl ?_
                      refine ji_if_ne (tgt := 76) dX8_delete_69 rfl (by omega) (fun c69 => ?_) (fun c69 => ?_)
                      · try (exfalso; omega)
                        all_goals
                          exfalso; omega
                      · try (exfalso; omega)
                        all_goals
                          refine ji_iconst dX8_delete_72 ?_
                          refine ji_goto (tgt := 87) dX8_delete_73 rfl ?_
                          refine ji_putE (ci := 8) (k := 0) rfl dX8_delete_87 lX8_47 (by decide) (rf_60) (by simp [rf_c]) (ji_fitI _) rfl (rf_pth) ?_
                          refine ji_aload_n dX8_delete_90 rfl trivial ?_
                          refine ji_get (ci := 8) (k := 0) rfl dX8_delete_91 lX8_47 (by decide) (rf_60) rfl ?_
                          refine ji_if_le (tgt := 99) dX8_delete_94 rfl (by omega) (fun c94 => absurd c94 (by omega)) (fun c94 => ?_)
                          refine ji_iconst dX8_delete_97 ?_
                          exact ji_ireturn dX8_delete_98 rfl (rfl) ⟨jr_i (by first | rfl | omega), rfl⟩
                  · try (exfalso; omega)
                    all_goals
                      refine ji_iload_n dX8_delete_45 rfl ?_
                      refine ji_iload dX8_delete_46 rfl ?_
                      refine ji_icmp_ge (tgt := 63) dX8_delete_48 rfl (by omega) (by omega) (fun c48 => ?_) (fun c48 => ?_)
                      · try (exfalso; omega)
                        all_goals
                          refine ji_iconst dX8_delete_63 ?_
                          refine ji_istore dX8_delete_64 (by decide) rfl ?_
                          refine ji_aload_n dX8_delete_66 rfl trivial ?_
                          refine ji_iload dX8_delete_67 rfl ?_
                          refine ji_if_ne (tgt := 76) dX8_delete_69 rfl (by omega) (fun c69 => ?_) (fun c69 => ?_)
                          · try (exfalso; omega)
                            all_goals
                              exfalso; omega
                          · try (exfalso; omega)
                            all_goals
                              refine ji_iconst dX8_delete_72 ?_
                              refine ji_goto (tgt := 87) dX8_delete_73 rfl ?_
                              refine ji_putE (ci := 8) (k := 0) rfl dX8_delete_87 lX8_47 (by decide) (rf_60) (by simp [rf_c]) (ji_fitI _) rfl (rf_pth) ?_
                              refine ji_aload_n dX8_delete_90 rfl trivial ?_
                              refine ji_get (ci := 8) (k := 0) rfl dX8_delete_91 lX8_47 (by decide) (rf_60) rfl ?_
                              refine ji_if_le (tgt := 99) dX8_delete_94 rfl (by omega) (fun c94 => absurd c94 (by omega)) (fun c94 => ?_)
                              refine ji_iconst dX8_delete_97 ?_
                              exact ji_ireturn dX8_delete_98 rfl (rfl) ⟨jr_i (by first | rfl | omega), rfl⟩
                      · try (exfalso; omega)
                        all_goals
                          refine ji_iload_n dX8_delete_51 rfl ?_
                          refine ji_iload dX8_delete_52 rfl ?_
                          refine ji_iload_n dX8_delete_54 rfl ?_
                          refine ji_isub dX8_delete_55 ?_
                          refine ji_icmp_gt (tgt := 63) dX8_delete_56 rfl (by omega) (by omega) (fun c56 => ?_) (fun c56 => ?_)
                          · try (exfalso; omega)
                            all_goals
                              refine ji_iconst dX8_delete_63 ?_
                              refine ji_istore dX8_delete_64 (by decide) rfl ?_
                              refine ji_aload_n dX8_delete_66 rfl trivial ?_
                              refine ji_iload dX8_delete_67 rfl ?_
                              refine ji_if_ne (tgt := 76) dX8_delete_69 rfl (by omega) (fun c69 => ?_) (fun c69 => ?_)
                              · try (exfalso; omega)
                                all_goals
                                  exfalso; omega
                              · try (exfalso; omega)
                                all_goals
                                  refine ji_iconst dX8_delete_72 ?_
                                  refine ji_goto (tgt := 87) dX8_delete_73 rfl ?_
                                  refine ji_putE (ci := 8) (k := 0) rfl dX8_delete_87 lX8_47 (by decide) (rf_60) (by simp [rf_c]) (ji_fitI _) rfl (rf_pth) ?_
                                  refine ji_aload_n dX8_delete_90 rfl trivial ?_
                                  refine ji_get (ci := 8) (k := 0) rfl dX8_delete_91 lX8_47 (by decide) (rf_60) rfl ?_
                                  refine ji_if_le (tgt := 99) dX8_delete_94 rfl (by omega) (fun c94 => absurd c94 (by omega)) (fun c94 => ?_)
                                  refine ji_iconst dX8_delete_97 ?_
                                  exact ji_ireturn dX8_delete_98 rfl (rfl) ⟨jr_i (by first | rfl | omega), rfl⟩
                          · try (exfalso; omega)
                            all_goals
                              refine ji_iconst dX8_delete_59 ?_
                              refine ji_goto (tgt := 64) dX8_delete_60 rfl ?_
                              refine ji_istore dX8_delete_64 (by decide) rfl ?_
                              refine ji_aload_n dX8_delete_66 rfl trivial ?_
                              refine ji_iload dX8_delete_67 rfl ?_
                              refine ji_if_ne (tgt := 76) dX8_delete_69 rfl (by omega) (fun c69 => ?_) (fun c69 => ?_)
                              · try (exfalso; omega)
                                all_goals
                                  exfalso; omega
                              · try (exfalso; omega)
                                all_goals
                                  refine ji_iconst dX8_delete_72 ?_
                                  refine ji_goto (tgt := 87) dX8_delete_73 rfl ?_
                                  refine ji_putE (ci := 8) (k := 0) rfl dX8_delete_87 lX8_47 (by decide) (rf_60) (by simp [rf_c]) (ji_fitI _) rfl (rf_pth) ?_
                                  refine ji_aload_n dX8_delete_90 rfl trivial ?_
                                  refine ji_get (ci := 8) (k := 0) rfl dX8_delete_91 lX8_47 (by decide) (rf_60) rfl ?_
                                  refine ji_if_le (tgt := 99) dX8_delete_94 rfl (by omega) (fun c94 => absurd c94 (by omega)) (fun c94 => ?_)
                                  refine ji_iconst dX8_delete_97 ?_
                                  exact ji_ireturn dX8_delete_98 rfl (rfl) ⟨jr_i (by first | rfl | omega), rfl⟩

set_option maxHeartbeats 4000000 in
set_option maxRecDepth 100000 in
theorem r_delete2 (hrf : rf_ok wi ht z nl nt sy) {q w m : Int} (hx : (0 ≤ q ∧ q < z 0) ∧ 0 ≤ w ∧ w < rf_WO z nt q ∧ 1 ≤ m ∧ m ≤ rf_WO z nt q - w) (hy : m = rf_WO z nt q) : JR G (d + 4) mX8_delete [.ref 60, .int (jI q), .int (jI w), .int (jI m)] (n, rf_f f th z kp ed nt nl wi ht sy sz bf rs rr rq rp mm ln lo lf lt co ro pg pf hsh) 0 0 (some (.int (jI 0))) (n, rf_f f 2 z kp ed nt nl wi ht sy sz bf rs rr rq rp mm ln lo lf lt co ro pg pf hsh) := by
  obtain ⟨hz, hn, hk, hrc, ⟨hw9, hh9⟩, ⟨hm9, hj9⟩, hll⟩ := id hrf
  have zb := hz.2.1
  have wq := rf_in_d q 0 (z 0 - 1)
  have wiw : 0 ≤ q → q < z 0 → 1 ≤ rf_WO z nt q ∧ rf_WO z nt q ≤ 360 := fun a b => rf_WO_b hz nt (by omega)
  refine ji_ent (by decide) rfl (Nat.le_of_ble_eq_true rfl) rfl ?_
  refine ji_aload_n dX8_delete_0 rfl trivial ?_
  refine ji_iload_n dX8_delete_1 rfl ?_
  refine ji_cV dX8_delete_2 (r_isParagraph hz (by omega)) rfl (rf_60) rfl rfl wX8_isParagraph vX8_isParagraph lX8_278 rfl (Nat.le_of_ble_eq_true rfl) rfl ?_
  refine ji_if_eq (tgt := 21) dX8_delete_5 rfl (by omega) (fun c5 => absurd c5 (by omega)) (fun c5 => ?_)
  refine ji_iload_n dX8_delete_8 rfl ?_
  refine ji_if_lt (tgt := 21) dX8_delete_9 rfl (by omega) (fun c9 => absurd c9 (by omega)) (fun c9 => ?_)
  refine ji_iload_n dX8_delete_12 rfl ?_
  refine ji_iconst dX8_delete_13 ?_
  refine ji_icmp_lt (tgt := 21) dX8_delete_14 rfl (by omega) (by omega) (fun c14 => absurd c14 (by omega)) (fun c14 => ?_)
  refine ji_iconst dX8_delete_17 ?_
  refine ji_goto (tgt := 22) dX8_delete_18 rfl ?_
  refine ji_istore dX8_delete_22 (by decide) rfl ?_
  refine ji_iload dX8_delete_24 rfl ?_
  refine ji_if_eq (tgt := 37) dX8_delete_26 rfl (by omega) (fun c26 => absurd c26 (by omega)) (fun c26 => ?_)
  refine ji_aload_n dX8_delete_29 rfl trivial ?_
  refine ji_iload_n dX8_delete_30 rfl ?_
  refine ji_cV dX8_delete_31 (r_wordsOf hz hn (by omega)) rfl (rf_60) rfl rfl wX8_wordsOf vX8_wordsOf lX8_260 rfl (Nat.le_of_ble_eq_true rfl) rfl ?_
  refine ji_goto (tgt := 38) dX8_delete_34 rfl ?_
  refine ji_istore dX8_delete_38 (by decide) rfl ?_
  refine ji_iload dX8_delete_40 rfl ?_
  refine ji_if_eq (tgt := 63) dX8_delete_42 rfl (by omega) (fun c42 => absurd c42 (by omega)) (fun c42 => ?_)
  refine ji_iload_n dX8_delete_45 rfl ?_
  refine ji_iload dX8_delete_46 rfl ?_
  refine ji_icmp_ge (tgt := 63) dX8_delete_48 rfl (by omega) (by omega) (fun c48 => absurd c48 (by omega)) (fun c48 => ?_)
  refine ji_iload_n dX8_delete_51 rfl ?_
  refine ji_iload dX8_delete_52 rfl ?_
  refine ji_iload_n dX8_delete_54 rfl ?_
  refine ji_isub dX8_delete_55 ?_
  refine ji_icmp_gt (tgt := 63) dX8_delete_56 rfl (by omega) (by omega) (fun c56 => absurd c56 (by omega)) (fun c56 => ?_)
  refine ji_iconst dX8_delete_59 ?_
  refine ji_goto (tgt := 64) dX8_delete_60 rfl ?_
  refine ji_istore dX8_delete_64 (by decide) rfl ?_
  refine ji_aload_n dX8_delete_66 rfl trivial ?_
  refine ji_iload dX8_delete_67 rfl ?_
  refine ji_if_ne (tgt := 76) dX8_delete_69 rfl (by omega) (fun c69 => ?_) (fun c69 => absurd c69 (by omega))
  refine ji_iload_n dX8_delete_76 rfl ?_
  refine ji_iload dX8_delete_77 rfl ?_
  refine ji_icmp_ge (tgt := 86) dX8_delete_79 rfl (by omega) (by omega) (fun c79 => ?_) (fun c79 => absurd c79 (by omega))
  refine ji_iconst dX8_delete_86 ?_
  refine ji_putE (ci := 8) (k := 0) rfl dX8_delete_87 lX8_47 (by decide) (rf_60) (by simp [rf_c]) (ji_fitI _) rfl (rf_pth) ?_
  refine ji_aload_n dX8_delete_90 rfl trivial ?_
  refine ji_get (ci := 8) (k := 0) rfl dX8_delete_91 lX8_47 (by decide) (rf_60) rfl ?_
  refine ji_if_le (tgt := 99) dX8_delete_94 rfl (by omega) (fun c94 => absurd c94 (by omega)) (fun c94 => ?_)
  refine ji_iconst dX8_delete_97 ?_
  exact ji_ireturn dX8_delete_98 rfl (rfl) ⟨jr_i (by first | rfl | omega), rfl⟩

set_option maxHeartbeats 4000000 in
set_option maxRecDepth 100000 in
theorem r_deleteL (hrf : rf_ok wi ht z nl nt sy) {q w m : Int} (hx : (0 ≤ q ∧ q < z 0) ∧ 0 ≤ w ∧ w < rf_WO z nt q ∧ 1 ≤ m ∧ m ≤ rf_WO z nt q - w) (hy : m < rf_WO z nt q ∧ rf_WO z nt q ≤ 24) (hl : w + m = rf_WO z nt q) (hxy : 0 ≤ (rf_ST (rf_sz z nl q) (rf_ch z nt q) w) - 1 ∧ (rf_ST (rf_sz z nl q) (rf_ch z nt q) w) - 1 ≤ (rf_ST (rf_sz z nl q) (rf_ch z nt q) (w + m))) (he : 0 ≤ ed ∧ ed ≤ 4) {z9 : Nat → Int} (ez : rf_CS z q ((rf_ST (rf_sz z nl q) (rf_ch z nt q) w) - 1) (rf_ST (rf_sz z nl q) (rf_ch z nt q) (w + m)) = z9) (hz2 : rz_ok z9) : JR G (d + 4) mX8_delete [.ref 60, .int (jI q), .int (jI w), .int (jI m)] (n, rf_f f th z kp ed nt nl wi ht sy sz bf rs rr rq rp mm ln lo lf lt co ro pg pf hsh) 0 0 (some (.int (jI (rf_WO z9 nt q)))) (n, rf_f f 0 z9 (rf_KP z kp ed) (rf_KE ed) nt nl wi ht sy sz bf rs rr rq rp mm ln lo lf lt co ro pg pf hsh) := by
  obtain ⟨hz, hn, hk, hrc, ⟨hw9, hh9⟩, ⟨hm9, hj9⟩, hll⟩ := id hrf
  have zb := hz.2.1
  have wq := rf_in_d q 0 (z 0 - 1)
  have wiw : 0 ≤ q → q < z 0 → 1 ≤ rf_WO z nt q ∧ rf_WO z nt q ≤ 360 := fun a b => rf_WO_b hz nt (by omega)
  have hB := hz.1
  have h3 := hj9
  have h14 := hm9
  have ws := rf_ST_b hz hn (q := q) (by omega) w
  have ws2 := rf_ST_b hz hn (q := q) (by omega) (w + m)
  have es : rf_sz z nl q = z (85 + q).toNat := if_pos (by omega)
  have zl := hz.2.2.1 (85 + q).toNat (by omega) (by omega)
  refine ji_ent (by decide) rfl (Nat.le_of_ble_eq_true rfl) rfl ?_
  refine ji_aload_n dX8_delete_0 rfl trivial ?_
  refine ji_iload_n dX8_delete_1 rfl ?_
  refine ji_cV dX8_delete_2 (r_isParagraph hz (by omega)) rfl (rf_60) rfl rfl wX8_isParagraph vX8_isParagraph lX8_278 rfl (Nat.le_of_ble_eq_true rfl) rfl ?_
  refine ji_if_eq (tgt := 21) dX8_delete_5 rfl (by omega) (fun c5 => absurd c5 (by omega)) (fun c5 => ?_)
  refine ji_iload_n dX8_delete_8 rfl ?_
  refine ji_if_lt (tgt := 21) dX8_delete_9 rfl (by omega) (fun c9 => absurd c9 (by omega)) (fun c9 => ?_)
  refine ji_iload_n dX8_delete_12 rfl ?_
  refine ji_iconst dX8_delete_13 ?_
  refine ji_icmp_lt (tgt := 21) dX8_delete_14 rfl (by omega) (by omega) (fun c14 => absurd c14 (by omega)) (fun c14 => ?_)
  refine ji_iconst dX8_delete_17 ?_
  refine ji_goto (tgt := 22) dX8_delete_18 rfl ?_
  refine ji_istore dX8_delete_22 (by decide) rfl ?_
  refine ji_iload dX8_delete_24 rfl ?_
  refine ji_if_eq (tgt := 37) dX8_delete_26 rfl (by omega) (fun c26 => absurd c26 (by omega)) (fun c26 => ?_)
  refine ji_aload_n dX8_delete_29 rfl trivial ?_
  refine ji_iload_n dX8_delete_30 rfl ?_
  refine ji_cV dX8_delete_31 (r_wordsOf hz hn (by omega)) rfl (rf_60) rfl rfl wX8_wordsOf vX8_wordsOf lX8_260 rfl (Nat.le_of_ble_eq_true rfl) rfl ?_
  refine ji_goto (tgt := 38) dX8_delete_34 rfl ?_
  refine ji_istore dX8_delete_38 (by decide) rfl ?_
  refine ji_iload dX8_delete_40 rfl ?_
  refine ji_if_eq (tgt := 63) dX8_delete_42 rfl (by omega) (fun c42 => absurd c42 (by omega)) (fun c42 => ?_)
  refine ji_iload_n dX8_delete_45 rfl ?_
  refine ji_iload dX8_delete_46 rfl ?_
  refine ji_icmp_ge (tgt := 63) dX8_delete_48 rfl (by omega) (by omega) (fun c48 => absurd c48 (by omega)) (fun c48 => ?_)
  refine ji_iload_n dX8_delete_51 rfl ?_
  refine ji_iload dX8_delete_52 rfl ?_
  refine ji_iload_n dX8_delete_54 rfl ?_
  refine ji_isub dX8_delete_55 ?_
  refine ji_icmp_gt (tgt := 63) dX8_delete_56 rfl (by omega) (by omega) (fun c56 => absurd c56 (by omega)) (fun c56 => ?_)
  refine ji_iconst dX8_delete_59 ?_
  refine ji_goto (tgt := 64) dX8_delete_60 rfl ?_
  refine ji_istore dX8_delete_64 (by decide) rfl ?_
  refine ji_aload_n dX8_delete_66 rfl trivial ?_
  refine ji_iload dX8_delete_67 rfl ?_
  refine ji_if_ne (tgt := 76) dX8_delete_69 rfl (by omega) (fun c69 => ?_) (fun c69 => absurd c69 (by omega))
  refine ji_iload_n dX8_delete_76 rfl ?_
  refine ji_iload dX8_delete_77 rfl ?_
  refine ji_icmp_ge (tgt := 86) dX8_delete_79 rfl (by omega) (by omega) (fun c79 => absurd c79 (by omega)) (fun c79 => ?_)
  refine ji_iconst dX8_delete_82 ?_
  refine ji_goto (tgt := 87) dX8_delete_83 rfl ?_
  refine ji_putE (ci := 8) (k := 0) rfl dX8_delete_87 lX8_47 (by decide) (rf_60) (by simp [rf_c]) (ji_fitI _) rfl (rf_pth) ?_
  refine ji_aload_n dX8_delete_90 rfl trivial ?_
  refine ji_get (ci := 8) (k := 0) rfl dX8_delete_91 lX8_47 (by decide) (rf_60) rfl ?_
  refine ji_if_le (tgt := 99) dX8_delete_94 rfl (by omega) (fun c94 => ?_) (fun c94 => absurd c94 (by omega))
  refine ji_aload_n dX8_delete_99 rfl trivial ?_
  refine ji_cVv dX8_delete_100 (r_keep (by omega)) rfl (rf_60) rfl rfl wX8_keep vX8_keep lX8_300 rfl (Nat.le_of_ble_eq_true rfl) rfl ?_
  refine ji_iload_n dX8_delete_103 rfl ?_
  refine ji_iload_n dX8_delete_104 rfl ?_
  refine ji_iadd dX8_delete_105 ?_
  refine ji_iload dX8_delete_106 rfl ?_
  refine ji_icmp_ne (tgt := 115) dX8_delete_108 rfl (by omega) (by omega) (fun c108 => absurd c108 (by omega)) (fun c108 => ?_)
  refine ji_iconst dX8_delete_111 ?_
  refine ji_goto (tgt := 116) dX8_delete_112 rfl ?_
  refine ji_istore dX8_delete_116 (by decide) rfl ?_
  refine ji_aload_n dX8_delete_118 rfl trivial ?_
  refine ji_iload_n dX8_delete_119 rfl ?_
  refine ji_iload_n dX8_delete_120 rfl ?_
  refine ji_cV dX8_delete_121 (r_startOf hz hn (by omega) (by omega)) rfl (rf_60) rfl rfl wX8_startOf vX8_startOf lX8_290 rfl (Nat.le_of_ble_eq_true rfl) rfl ?_
  refine ji_iload dX8_delete_124 rfl ?_
  refine ji_if_eq (tgt := 133) dX8_delete_126 rfl (by omega) (fun c126 => absurd c126 (by omega)) (fun c126 => ?_)
  refine ji_iconst dX8_delete_129 ?_
  refine ji_goto (tgt := 134) dX8_delete_130 rfl ?_
  refine ji_isub dX8_delete_134 ?_
  refine ji_istore dX8_delete_135 (by decide) rfl ?_
  refine ji_aload_n dX8_delete_137 rfl trivial ?_
  refine ji_iload_n dX8_delete_138 rfl ?_
  refine ji_iload dX8_delete_139 rfl ?_
  refine ji_aload_n dX8_delete_141 rfl trivial ?_
  refine ji_iload_n dX8_delete_142 rfl ?_
  refine ji_iload_n dX8_delete_143 rfl ?_
  refine ji_iload_n dX8_delete_144 rfl ?_
  refine ji_iadd dX8_delete_145 ?_
  refine ji_cV dX8_delete_146 (r_startOf hz hn (by omega) (by omega)) rfl (rf_60) rfl rfl wX8_startOf vX8_startOf lX8_290 rfl (Nat.le_of_ble_eq_true rfl) rfl ?_
  refine ji_cVv dX8_delete_149 (r_close (by omega) (by omega) hB h3 h14) rfl (rf_60) rfl rfl wX8_close vX8_close lX8_309 rfl (Nat.le_of_ble_eq_true rfl) rfl ?_
  rw [ez]
  refine ji_aload_n dX8_delete_152 rfl trivial ?_
  refine ji_iload_n dX8_delete_153 rfl ?_
  refine ji_cV dX8_delete_154 (r_wordsOf hz2 hn (by omega)) rfl (rf_60) rfl rfl wX8_wordsOf vX8_wordsOf lX8_260 rfl (Nat.le_of_ble_eq_true rfl) rfl ?_
  exact ji_ireturn dX8_delete_157 rfl (rfl) ⟨jr_i (by first | rfl | omega), rfl⟩

set_option maxHeartbeats 4000000 in
set_option maxRecDepth 100000 in
theorem r_deleteM (hrf : rf_ok wi ht z nl nt sy) {q w m : Int} (hx : (0 ≤ q ∧ q < z 0) ∧ 0 ≤ w ∧ w < rf_WO z nt q ∧ 1 ≤ m ∧ m ≤ rf_WO z nt q - w) (hy : m < rf_WO z nt q ∧ rf_WO z nt q ≤ 24) (hl : ¬ w + m = rf_WO z nt q) (hxy : 0 ≤ (rf_ST (rf_sz z nl q) (rf_ch z nt q) w) - 0 ∧ (rf_ST (rf_sz z nl q) (rf_ch z nt q) w) - 0 ≤ (rf_ST (rf_sz z nl q) (rf_ch z nt q) (w + m))) (he : 0 ≤ ed ∧ ed ≤ 4) {z9 : Nat → Int} (ez : rf_CS z q ((rf_ST (rf_sz z nl q) (rf_ch z nt q) w) - 0) (rf_ST (rf_sz z nl q) (rf_ch z nt q) (w + m)) = z9) (hz2 : rz_ok z9) : JR G (d + 4) mX8_delete [.ref 60, .int (jI q), .int (jI w), .int (jI m)] (n, rf_f f th z kp ed nt nl wi ht sy sz bf rs rr rq rp mm ln lo lf lt co ro pg pf hsh) 0 0 (some (.int (jI (rf_WO z9 nt q)))) (n, rf_f f 0 z9 (rf_KP z kp ed) (rf_KE ed) nt nl wi ht sy sz bf rs rr rq rp mm ln lo lf lt co ro pg pf hsh) := by
  obtain ⟨hz, hn, hk, hrc, ⟨hw9, hh9⟩, ⟨hm9, hj9⟩, hll⟩ := id hrf
  have zb := hz.2.1
  have wq := rf_in_d q 0 (z 0 - 1)
  have wiw : 0 ≤ q → q < z 0 → 1 ≤ rf_WO z nt q ∧ rf_WO z nt q ≤ 360 := fun a b => rf_WO_b hz nt (by omega)
  have hB := hz.1
  have h3 := hj9
  have h14 := hm9
  have ws := rf_ST_b hz hn (q := q) (by omega) w
  have ws2 := rf_ST_b hz hn (q := q) (by omega) (w + m)
  have es : rf_sz z nl q = z (85 + q).toNat := if_pos (by omega)
  have zl := hz.2.2.1 (85 + q).toNat (by omega) (by omega)
  refine ji_ent (by decide) rfl (Nat.le_of_ble_eq_true rfl) rfl ?_
  refine ji_aload_n dX8_delete_0 rfl trivial ?_
  refine ji_iload_n dX8_delete_1 rfl ?_
  refine ji_cV dX8_delete_2 (r_isParagraph hz (by omega)) rfl (rf_60) rfl rfl wX8_isParagraph vX8_isParagraph lX8_278 rfl (Nat.le_of_ble_eq_true rfl) rfl ?_
  refine ji_if_eq (tgt := 21) dX8_delete_5 rfl (by omega) (fun c5 => absurd c5 (by omega)) (fun c5 => ?_)
  refine ji_iload_n dX8_delete_8 rfl ?_
  refine ji_if_lt (tgt := 21) dX8_delete_9 rfl (by omega) (fun c9 => absurd c9 (by omega)) (fun c9 => ?_)
  refine ji_iload_n dX8_delete_12 rfl ?_
  refine ji_iconst dX8_delete_13 ?_
  refine ji_icmp_lt (tgt := 21) dX8_delete_14 rfl (by omega) (by omega) (fun c14 => absurd c14 (by omega)) (fun c14 => ?_)
  refine ji_iconst dX8_delete_17 ?_
  refine ji_goto (tgt := 22) dX8_delete_18 rfl ?_
  refine ji_istore dX8_delete_22 (by decide) rfl ?_
  refine ji_iload dX8_delete_24 rfl ?_
  refine ji_if_eq (tgt := 37) dX8_delete_26 rfl (by omega) (fun c26 => absurd c26 (by omega)) (fun c26 => ?_)
  refine ji_aload_n dX8_delete_29 rfl trivial ?_
  refine ji_iload_n dX8_delete_30 rfl ?_
  refine ji_cV dX8_delete_31 (r_wordsOf hz hn (by omega)) rfl (rf_60) rfl rfl wX8_wordsOf vX8_wordsOf lX8_260 rfl (Nat.le_of_ble_eq_true rfl) rfl ?_
  refine ji_goto (tgt := 38) dX8_delete_34 rfl ?_
  refine ji_istore dX8_delete_38 (by decide) rfl ?_
  refine ji_iload dX8_delete_40 rfl ?_
  refine ji_if_eq (tgt := 63) dX8_delete_42 rfl (by omega) (fun c42 => absurd c42 (by omega)) (fun c42 => ?_)
  refine ji_iload_n dX8_delete_45 rfl ?_
  refine ji_iload dX8_delete_46 rfl ?_
  refine ji_icmp_ge (tgt := 63) dX8_delete_48 rfl (by omega) (by omega) (fun c48 => absurd c48 (by omega)) (fun c48 => ?_)
  refine ji_iload_n dX8_delete_51 rfl ?_
  refine ji_iload dX8_delete_52 rfl ?_
  refine ji_iload_n dX8_delete_54 rfl ?_
  refine ji_isub dX8_delete_55 ?_
  refine ji_icmp_gt (tgt := 63) dX8_delete_56 rfl (by omega) (by omega) (fun c56 => absurd c56 (by omega)) (fun c56 => ?_)
  refine ji_iconst dX8_delete_59 ?_
  refine ji_goto (tgt := 64) dX8_delete_60 rfl ?_
  refine ji_istore dX8_delete_64 (by decide) rfl ?_
  refine ji_aload_n dX8_delete_66 rfl trivial ?_
  refine ji_iload dX8_delete_67 rfl ?_
  refine ji_if_ne (tgt := 76) dX8_delete_69 rfl (by omega) (fun c69 => ?_) (fun c69 => absurd c69 (by omega))
  refine ji_iload_n dX8_delete_76 rfl ?_
  refine ji_iload dX8_delete_77 rfl ?_
  refine ji_icmp_ge (tgt := 86) dX8_delete_79 rfl (by omega) (by omega) (fun c79 => absurd c79 (by omega)) (fun c79 => ?_)
  refine ji_iconst dX8_delete_82 ?_
  refine ji_goto (tgt := 87) dX8_delete_83 rfl ?_
  refine ji_putE (ci := 8) (k := 0) rfl dX8_delete_87 lX8_47 (by decide) (rf_60) (by simp [rf_c]) (ji_fitI _) rfl (rf_pth) ?_
  refine ji_aload_n dX8_delete_90 rfl trivial ?_
  refine ji_get (ci := 8) (k := 0) rfl dX8_delete_91 lX8_47 (by decide) (rf_60) rfl ?_
  refine ji_if_le (tgt := 99) dX8_delete_94 rfl (by omega) (fun c94 => ?_) (fun c94 => absurd c94 (by omega))
  refine ji_aload_n dX8_delete_99 rfl trivial ?_
  refine ji_cVv dX8_delete_100 (r_keep (by omega)) rfl (rf_60) rfl rfl wX8_keep vX8_keep lX8_300 rfl (Nat.le_of_ble_eq_true rfl) rfl ?_
  refine ji_iload_n dX8_delete_103 rfl ?_
  refine ji_iload_n dX8_delete_104 rfl ?_
  refine ji_iadd dX8_delete_105 ?_
  refine ji_iload dX8_delete_106 rfl ?_
  refine ji_icmp_ne (tgt := 115) dX8_delete_108 rfl (by omega) (by omega) (fun c108 => ?_) (fun c108 => absurd c108 (by omega))
  refine ji_iconst dX8_delete_115 ?_
  refine ji_istore dX8_delete_116 (by decide) rfl ?_
  refine ji_aload_n dX8_delete_118 rfl trivial ?_
  refine ji_iload_n dX8_delete_119 rfl ?_
  refine ji_iload_n dX8_delete_120 rfl ?_
  refine ji_cV dX8_delete_121 (r_startOf hz hn (by omega) (by omega)) rfl (rf_60) rfl rfl wX8_startOf vX8_startOf lX8_290 rfl (Nat.le_of_ble_eq_true rfl) rfl ?_
  refine ji_iload dX8_delete_124 rfl ?_
  refine ji_if_eq (tgt := 133) dX8_delete_126 rfl (by omega) (fun c126 => ?_) (fun c126 => absurd c126 (by omega))
  refine ji_iconst dX8_delete_133 ?_
  refine ji_isub dX8_delete_134 ?_
  refine ji_istore dX8_delete_135 (by decide) rfl ?_
  refine ji_aload_n dX8_delete_137 rfl trivial ?_
  refine ji_iload_n dX8_delete_138 rfl ?_
  refine ji_iload dX8_delete_139 rfl ?_
  refine ji_aload_n dX8_delete_141 rfl trivial ?_
  refine ji_iload_n dX8_delete_142 rfl ?_
  refine ji_iload_n dX8_delete_143 rfl ?_
  refine ji_iload_n dX8_delete_144 rfl ?_
  refine ji_iadd dX8_delete_145 ?_
  refine ji_cV dX8_delete_146 (r_startOf hz hn (by omega) (by omega)) rfl (rf_60) rfl rfl wX8_startOf vX8_startOf lX8_290 rfl (Nat.le_of_ble_eq_true rfl) rfl ?_
  refine ji_cVv dX8_delete_149 (r_close (by omega) (by omega) hB h3 h14) rfl (rf_60) rfl rfl wX8_close vX8_close lX8_309 rfl (Nat.le_of_ble_eq_true rfl) rfl ?_
  rw [ez]
  refine ji_aload_n dX8_delete_152 rfl trivial ?_
  refine ji_iload_n dX8_delete_153 rfl ?_
  refine ji_cV dX8_delete_154 (r_wordsOf hz2 hn (by omega)) rfl (rf_60) rfl rfl wX8_wordsOf vX8_wordsOf lX8_260 rfl (Nat.le_of_ble_eq_true rfl) rfl ?_
  exact ji_ireturn dX8_delete_157 rfl (rfl) ⟨jr_i (by first | rfl | omega), rfl⟩

end RF
