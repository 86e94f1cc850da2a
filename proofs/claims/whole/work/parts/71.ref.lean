/-! ===== the reference: other sizes and the digest ===== -/
def ft_w (P : Int → Int) (q : Int) : Nat → Int → Int
  | 0, _ => -1
  | u + 1, w => if P w ≤ q then w else ft_w P q u (w + 1)
def rf_fs (z nl nt sy : Nat → Int) (co : Int) (lo lf lt pf : Nat → Int) : Nat → Int
  | 0 => 0
  | k + 1 => rf_fs z nl nt sy co lo lf lt pf k + rf_ND z nl nt sy co lo lf lt (pf k) (pf (k + 1))
def rf_fd (s pg ht : Int) : UInt64 := if pg = 1 then FP.dconst0 else FP.ddiv (FP.i2d (jI s)) (FP.i2d (jI ((pg - 1) * ht)))
def rf_mp (z nl nt : Nat → Int) (ln : Int) (lo lf : Nat → Int) (pg : Int) (pf : Nat → Int) : Nat → Int → Int64 → Int64
  | 0, _, x => x
  | u + 1, q, x => rf_mp z nl nt ln lo lf pg pf u (q + 1) (mxs (rf_ch z nt q) (z (85 + q).toNat).toNat 0 (mxs (rf_PP z nt ln lo lf pg pf q) 5 0 x))
def rf_ml (z nl nt sy : Nat → Int) (co ln : Int) (lo lf lt : Nat → Int) (pg : Int) (pf : Nat → Int) (x : Int64) : Int64 :=
  mxs (fun k => rf_AN z ln lo lf pg pf (k / 6) (k % 6)) (6 * z 14).toNat 0 (mxs (fun k => rf_PN z nl nt sy co ln lo lf lt pf (k / 7) (k % 7)) (7 * pg).toNat 0 (mxs (fun k => rf_LN z nt sy lo lf lt pg pf (k / 6) (k % 6)) (6 * ln).toNat 0 x))
def rf_dg (z nl nt sy : Nat → Int) (ed wi ht sz : Int) (bf : Nat → Int) (ln : Int) (lo lf lt : Nat → Int) (pg : Int) (pf : Nat → Int) : Int64 :=
  mxs (fun k => bf k.toNat) sz.toNat 0 (mx (mxs (rf_NW nl nt) 10 0 (rf_ml z nl nt sy wi ln lo lf lt pg pf (rf_mp z nl nt ln lo lf pg pf (z 0).toNat 0 (mxs (fun k => sy k.toNat) 5 0 (mx (mx (mxs (rf_CN z nl nt ed ln lo lf pg pf) 12 0 1931) wi) ht))))) sz)
section RF
variable {G : ji_G} {d n : Nat} {f : Nat → ji_C} {th ed wi ht sz rs rr rq rp mm ln co ro pg : Int} {z kp nt nl sy bf lo lf lt pf : Nat → Int} {hsh : Int64}
set_option maxHeartbeats 4000000 in
set_option maxRecDepth 100000 in
theorem r_ifSize1 {v m o : Int} (b_v : -2147483648 ≤ v ∧ v < 2147483648) (b_m : -2147483648 ≤ m ∧ m < 2147483648) (b_o : -2147483648 ≤ o ∧ o < 2147483648) (hx : ¬ (((18 ≤ v ∧ v ≤ 60) ∧ 2 ≤ m ∧ m ≤ 20) ∧ 0 ≤ o ∧ o < 3)) : JR G (d + 8) mX8_ifSize [.ref 60, .int (jI v), .int (jI m), .int (jI o)] (n, rf_f f th z kp ed nt nl wi ht sy sz bf rs rr rq rp mm ln lo lf lt co ro pg pf hsh) 0 0 (some (.int (jI 0))) (n, rf_f f 1 z kp ed nt nl wi ht sy sz bf rs rr rq rp mm ln lo lf lt co ro pg pf hsh) := by
  have w_v_18_60 := rf_in_d v 18 60
  have w_m_2_20 := rf_in_d m 2 20
  have w_o_0_2 := rf_in_d o 0 2
  refine ji_ent (by decide) rfl (Nat.le_of_ble_eq_true rfl) rfl ?_
  refine ji_aload_n dX8_ifSize_0 rfl trivial ?_
  refine ji_iload_n dX8_ifSize_1 rfl ?_
  refine ji_bipush dX8_ifSize_2 rfl ?_
  refine ji_bipush dX8_ifSize_4 rfl ?_
  refine ji_cS dX8_ifSize_6 (r_within (by omega) (by omega) (by omega)) rfl wX8_within sX8_within lX8_50 rfl (Nat.le_of_ble_eq_true rfl) rfl ?_
  refine ji_if_eq (tgt := 35) dX8_ifSize_9 rfl (by omega) (fun c9 => ?_) (fun c9 => ?_)
  · try (exfalso; omega)
    all_goals
      refine ji_iconst dX8_ifSize_35 ?_
      refine ji_putE (ci := 8) (k := 0) rfl dX8_ifSize_36 lX8_47 (by decide) (rf_60) (by simp [rf_c]) (ji_fitI _) rfl (rf_pth) ?_
      refine ji_aload_n dX8_ifSize_39 rfl trivial ?_
      refine ji_get (ci := 8) (k := 0) rfl dX8_ifSize_40 lX8_47 (by decide) (rf_60) rfl ?_
      refine ji_if_le (tgt := 48) dX8_ifSize_43 rfl (by omega) (fun c43 => absurd c43 (by omega)) (fun c43 => ?_)
      refine ji_iconst dX8_ifSize_46 ?_
      exact ji_ireturn dX8_ifSize_47 rfl (rfl) ⟨jr_i (by first | rfl | omega), rfl⟩
  · try (exfalso; omega)
    all_goals
      refine ji_iload_n dX8_ifSize_12 rfl ?_
      refine ji_iconst dX8_ifSize_13 ?_
      refine ji_bipush dX8_ifSize_14 rfl ?_
      refine ji_cS dX8_ifSize_16 (r_within (by omega) (by omega) (by omega)) rfl wX8_within sX8_within lX8_50 rfl (Nat.le_of_ble_eq_true rfl) rfl ?_
      refine ji_if_eq (tgt := 35) dX8_ifSize_19 rfl (by omega) (fun c19 => ?_) (fun c19 => ?_)
      · try (exfalso; omega)
        all_goals
          refine ji_iconst dX8_ifSize_35 ?_
          refine ji_putE (ci := 8) (k := 0) rfl dX8_ifSize_36 lX8_47 (by decide) (rf_60) (by simp [rf_c]) (ji_fitI _) rfl (rf_pth) ?_
          refine ji_aload_n dX8_ifSize_39 rfl trivial ?_
          refine ji_get (ci := 8) (k := 0) rfl dX8_ifSize_40 lX8_47 (by decide) (rf_60) rfl ?_
          refine ji_if_le (tgt := 48) dX8_ifSize_43 rfl (by omega) (fun c43 => absurd c43 (by omega)) (fun c43 => ?_)
          refine ji_iconst dX8_ifSize_46 ?_
          exact ji_ireturn dX8_ifSize_47 rfl (rfl) ⟨jr_i (by first | rfl | omega), rfl⟩
      · try (exfalso; omega)
        all_goals
          refine ji_iload_n dX8_ifSize_22 rfl ?_
          refine ji_iconst dX8_ifSize_23 ?_
          refine ji_iconst dX8_ifSize_24 ?_
          refine ji_cS dX8_ifSize_25 (r_within (by omega) (by omega) (by omega)) rfl wX8_within sX8_within lX8_50 rfl (Nat.le_of_ble_eq_true rfl) rfl ?_
          refine ji_if_eq (tgt := 35) dX8_ifSize_28 rfl (by omega) (fun c28 => ?_) (fun c28 => ?_)
          · try (exfalso; omega)
            all_goals
              refine ji_iconst dX8_ifSize_35 ?_
              refine ji_putE (ci := 8) (k := 0) rfl dX8_ifSize_36 lX8_47 (by decide) (rf_60) (by simp [rf_c]) (ji_fitI _) rfl (rf_pth) ?_
              refine ji_aload_n dX8_ifSize_39 rfl trivial ?_
              refine ji_get (ci := 8) (k := 0) rfl dX8_ifSize_40 lX8_47 (by decide) (rf_60) rfl ?_
              refine ji_if_le (tgt := 48) dX8_ifSize_43 rfl (by omega) (fun c43 => absurd c43 (by omega)) (fun c43 => ?_)
              refine ji_iconst dX8_ifSize_46 ?_
              exact ji_ireturn dX8_ifSize_47 rfl (rfl) ⟨jr_i (by first | rfl | omega), rfl⟩
          · try (exfalso; omega)
            all_goals
              refine ji_iconst dX8_ifSize_31 ?_
              refine ji_goto (tgt := 36) dX8_ifSize_32 rfl ?_
              refine ji_putE (ci := 8) (k := 0) rfl dX8_ifSize_36 lX8_47 (by decide) (rf_60) (by simp [rf_c]) (ji_fitI _) rfl (rf_pth) ?_
              refine ji_aload_n dX8_ifSize_39 rfl trivial ?_
              refine ji_get (ci := 8) (k := 0) rfl dX8_ifSize_40 lX8_47 (by decide) (rf_60) rfl ?_
              refine ji_if_le (tgt := 48) dX8_ifSize_43 rfl (by omega) (fun c43 => absurd c43 (by omega)) (fun c43 => ?_)
              refine ji_iconst dX8_ifSize_46 ?_
              exact ji_ireturn dX8_ifSize_47 rfl (rfl) ⟨jr_i (by first | rfl | omega), rfl⟩

def rf_IS (z : Nat → Int) (ln : Int) (lo lf : Nat → Int) (pg : Int) (pf : Nat → Int) (o : Int) : Int := if o = 0 then ln else if o = 1 then pg else rf_PW ln lo lf pg pf (z 1) (z 2)
set_option maxHeartbeats 4000000 in
set_option maxRecDepth 100000 in
theorem r_ifSize (hrf : rf_ok wi ht z nl nt sy) {v m o : Int} (hx : (18 ≤ v ∧ v ≤ 60) ∧ 2 ≤ m ∧ m ≤ 20) (ho : 0 ≤ o ∧ o < 3) : JR G (d + 8) mX8_ifSize [.ref 60, .int (jI v), .int (jI m), .int (jI o)] (n, rf_f f th z kp ed nt nl wi ht sy sz bf rs rr rq rp mm ln lo lf lt co ro pg pf hsh) 0 0 (some (.int (jI (rf_IS z ((rf_LL z nl nt sy v lo lf lt).1) ((rf_LL z nl nt sy v lo lf lt).2.1) ((rf_LL z nl nt sy v lo lf lt).2.2.1) ((rf_PG z nl nt sy v m (rf_LL z nl nt sy v lo lf lt).1 (rf_LL z nl nt sy v lo lf lt).2.1 (rf_LL z nl nt sy v lo lf lt).2.2.1 (rf_LL z nl nt sy v lo lf lt).2.2.2 pf).1) (va_up (rf_PG z nl nt sy v m (rf_LL z nl nt sy v lo lf lt).1 (rf_LL z nl nt sy v lo lf lt).2.1 (rf_LL z nl nt sy v lo lf lt).2.2.1 (rf_LL z nl nt sy v lo lf lt).2.2.2 pf).2 (rf_PG z nl nt sy v m (rf_LL z nl nt sy v lo lf lt).1 (rf_LL z nl nt sy v lo lf lt).2.1 (rf_LL z nl nt sy v lo lf lt).2.2.1 (rf_LL z nl nt sy v lo lf lt).2.2.2 pf).1.toNat (rf_LL z nl nt sy v lo lf lt).1) o)))) (n, rf_f f 0 z kp ed nt nl wi ht sy sz bf rs rr rq rp mm ((rf_LL z nl nt sy v lo lf lt).1) ((rf_LL z nl nt sy v lo lf lt).2.1) ((rf_LL z nl nt sy v lo lf lt).2.2.1) ((rf_LL z nl nt sy v lo lf lt).2.2.2) v m ((rf_PG z nl nt sy v m (rf_LL z nl nt sy v lo lf lt).1 (rf_LL z nl nt sy v lo lf lt).2.1 (rf_LL z nl nt sy v lo lf lt).2.2.1 (rf_LL z nl nt sy v lo lf lt).2.2.2 pf).1) (va_up (rf_PG z nl nt sy v m (rf_LL z nl nt sy v lo lf lt).1 (rf_LL z nl nt sy v lo lf lt).2.1 (rf_LL z nl nt sy v lo lf lt).2.2.1 (rf_LL z nl nt sy v lo lf lt).2.2.2 pf).2 (rf_PG z nl nt sy v m (rf_LL z nl nt sy v lo lf lt).1 (rf_LL z nl nt sy v lo lf lt).2.1 (rf_LL z nl nt sy v lo lf lt).2.2.1 (rf_LL z nl nt sy v lo lf lt).2.2.2 pf).1.toNat (rf_LL z nl nt sy v lo lf lt).1) hsh) := by
  obtain ⟨hz, hn, hk, hrc, ⟨hw9, hh9⟩, ⟨hm9, hj9⟩, hll⟩ := id hrf
  have zb := hz.2.1
  have hF := (hll v lo lf lt (by omega)).2
  have hl1 := (hll v lo lf lt (by omega)).1
  have hrl := rf_LL_ok hz hF
  have hpk := rf_PG_ok z nl nt sy v m (rf_LL z nl nt sy v lo lf lt).2.1 (rf_LL z nl nt sy v lo lf lt).2.2.1 (rf_LL z nl nt sy v lo lf lt).2.2.2 pf (ln := (rf_LL z nl nt sy v lo lf lt).1) (by omega)
  have w_v_18_60 := rf_in_d v 18 60
  have w_m_2_20 := rf_in_d m 2 20
  have w_o_0_2 := rf_in_d o 0 2
  refine ji_ent (by decide) rfl (Nat.le_of_ble_eq_true rfl) rfl ?_
  refine ji_aload_n dX8_ifSize_0 rfl trivial ?_
  refine ji_iload_n dX8_ifSize_1 rfl ?_
  refine ji_bipush dX8_ifSize_2 rfl ?_
  refine ji_bipush dX8_ifSize_4 rfl ?_
  refine ji_cS dX8_ifSize_6 (r_within (by omega) (by omega) (by omega)) rfl wX8_within sX8_within lX8_50 rfl (Nat.le_of_ble_eq_true rfl) rfl ?_
  refine ji_if_eq (tgt := 35) dX8_ifSize_9 rfl (by omega) (fun c9 => absurd c9 (by omega)) (fun c9 => ?_)
  refine ji_iload_n dX8_ifSize_12 rfl ?_
  refine ji_iconst dX8_ifSize_13 ?_
  refine ji_bipush dX8_ifSize_14 rfl ?_
  refine ji_cS dX8_ifSize_16 (r_within (by omega) (by omega) (by omega)) rfl wX8_within sX8_within lX8_50 rfl (Nat.le_of_ble_eq_true rfl) rfl ?_
  refine ji_if_eq (tgt := 35) dX8_ifSize_19 rfl (by omega) (fun c19 => absurd c19 (by omega)) (fun c19 => ?_)
  refine ji_iload_n dX8_ifSize_22 rfl ?_
  refine ji_iconst dX8_ifSize_23 ?_
  refine ji_iconst dX8_ifSize_24 ?_
  refine ji_cS dX8_ifSize_25 (r_within (by omega) (by omega) (by omega)) rfl wX8_within sX8_within lX8_50 rfl (Nat.le_of_ble_eq_true rfl) rfl ?_
  refine ji_if_eq (tgt := 35) dX8_ifSize_28 rfl (by omega) (fun c28 => absurd c28 (by omega)) (fun c28 => ?_)
  refine ji_iconst dX8_ifSize_31 ?_
  refine ji_goto (tgt := 36) dX8_ifSize_32 rfl ?_
  refine ji_putE (ci := 8) (k := 0) rfl dX8_ifSize_36 lX8_47 (by decide) (rf_60) (by simp [rf_c]) (ji_fitI _) rfl (rf_pth) ?_
  refine ji_aload_n dX8_ifSize_39 rfl trivial ?_
  refine ji_get (ci := 8) (k := 0) rfl dX8_ifSize_40 lX8_47 (by decide) (rf_60) rfl ?_
  refine ji_if_le (tgt := 48) dX8_ifSize_43 rfl (by omega) (fun c43 => ?_) (fun c43 => absurd c43 (by omega))
  refine ji_aload_n dX8_ifSize_48 rfl trivial ?_
  refine ji_iload_n dX8_ifSize_49 rfl ?_
  refine ji_iload_n dX8_ifSize_50 rfl ?_
  refine ji_cVv dX8_ifSize_51 (r_layPages hz hn hk hrc (by omega) (by omega) hF) rfl (rf_60) rfl rfl wX8_layPages vX8_layPages lX8_176 rfl (Nat.le_of_ble_eq_true rfl) rfl ?_
  refine ji_iload_n dX8_ifSize_54 rfl ?_
  refine ji_if_ne (tgt := 65) dX8_ifSize_55 rfl (by omega) (fun c55 => ?_) (fun c55 => ?_)
  · try (exfalso; omega)
    all_goals
      refine ji_iload_n dX8_ifSize_65 rfl ?_
      refine ji_iconst dX8_ifSize_66 ?_
      refine ji_icmp_ne (tgt := 77) dX8_ifSize_67 rfl (by omega) (by omega) (fun c67 => ?_) (fun c67 => ?_)
      · try (exfalso; omega)
        all_goals
          refine ji_aload_n dX8_ifSize_77 rfl trivial ?_
          refine ji_cV dX8_ifSize_78 (r_here hz hrl hpk hl1) rfl (rf_60) rfl rfl wX8_here vX8_here lX8_250 rfl (Nat.le_of_ble_eq_true rfl) rfl ?_
          exact ji_ireturn dX8_ifSize_81 rfl (rfl) ⟨jr_i (by unfold rf_IS; (repeat' split) <;> first | rfl | (exfalso; omega)), rfl⟩
      · try (exfalso; omega)
        all_goals
          refine ji_aload_n dX8_ifSize_70 rfl trivial ?_
          refine ji_get (ci := 8) (k := 22) rfl dX8_ifSize_71 lX8_170 (by decide) (rf_60) rfl ?_
          refine ji_goto (tgt := 81) dX8_ifSize_74 rfl ?_
          exact ji_ireturn dX8_ifSize_81 rfl (rfl) ⟨jr_i (by unfold rf_IS; (repeat' split) <;> first | rfl | (exfalso; omega)), rfl⟩
  · try (exfalso; omega)
    all_goals
      refine ji_aload_n dX8_ifSize_58 rfl trivial ?_
      refine ji_get (ci := 8) (k := 16) rfl dX8_ifSize_59 lX8_122 (by decide) (rf_60) rfl ?_
      refine ji_goto (tgt := 81) dX8_ifSize_62 rfl ?_
      exact ji_ireturn dX8_ifSize_81 rfl (rfl) ⟨jr_i (by unfold rf_IS; (repeat' split) <;> first | rfl | (exfalso; omega)), rfl⟩

set_option maxHeartbeats 4000000 in
set_option maxRecDepth 100000 in
theorem r_fitNow_l {bc bs : Nat} {q R : Int} (hrf : rf_ok wi ht z nl nt sy) {P9 : Int → Int} (hP9 : ∀ w lo lf lt pf, 18 ≤ w ∧ w ≤ 60 → (rf_PG z nl nt sy w ht (rf_LL z nl nt sy w lo lf lt).1 (rf_LL z nl nt sy w lo lf lt).2.1 (rf_LL z nl nt sy w lo lf lt).2.2.1 (rf_LL z nl nt sy w lo lf lt).2.2.2 pf).1 = P9 w) (b_q : -2147483648 ≤ q ∧ q < 2147483648) : ∀ (u : Nat) (w ln co ro pg : Int) (lo lf lt pf : Nat → Int), 18 ≤ w ∧ w + u = 61 → R = ft_w P9 q u w →
    JW G (d + 8) mX8_fitNow 3 [some (.ref 60), some (.int (jI q)), some (.int (jI w))] [] (n, rf_f f th z kp ed nt nl wi ht sy sz bf rs rr rq rp mm ln lo lf lt co ro pg pf hsh) bc bs (fun r9 h9 => ∃ (ln co ro pg : Int) (lo lf lt pf : Nat → Int), r9 = .inl (some (.int (jI R))) ∧ h9 = (n, rf_f f th z kp ed nt nl wi ht sy sz bf rs rr rq rp mm ln lo lf lt co ro pg pf hsh)) := by
  obtain ⟨hz, hn, hk, hrc, ⟨hw9, hh9⟩, ⟨hm9, hj9⟩, hll⟩ := id hrf
  have zb := hz.2.1
  intro u
  induction u with
  | zero =>
    intro w ln co ro pg lo lf lt pf hw hR
    refine ji_iload_n dX8_fitNow_3 rfl ?_
    refine ji_bipush dX8_fitNow_4 rfl ?_
    refine ji_icmp_gt (tgt := 34) dX8_fitNow_6 rfl (by omega) (by omega) (fun c6 => ?_) (fun c6 => absurd c6 (by omega))
    refine ji_iconst dX8_fitNow_34 ?_
    exact ji_ireturn dX8_fitNow_35 rfl (rfl) ⟨_, _, _, _, _, _, _, _, by rw [hR]; rfl, rfl⟩
  | succ u ih =>
    intro w ln co ro pg lo lf lt pf hw hR
    have hF := (hll w lo lf lt (by omega)).2
    have hl1 := (hll w lo lf lt (by omega)).1
    have ep := hP9 w lo lf lt pf (by omega)
    have hpk := rf_PG_ok z nl nt sy w ht (rf_LL z nl nt sy w lo lf lt).2.1 (rf_LL z nl nt sy w lo lf lt).2.2.1 (rf_LL z nl nt sy w lo lf lt).2.2.2 pf (ln := (rf_LL z nl nt sy w lo lf lt).1) (by omega)
    have hpl := hpk.1
    rw [ep] at hpl
    refine ji_iload_n dX8_fitNow_3 rfl ?_
    refine ji_bipush dX8_fitNow_4 rfl ?_
    refine ji_icmp_gt (tgt := 34) dX8_fitNow_6 rfl (by omega) (by omega) (fun c6 => absurd c6 (by omega)) (fun c6 => ?_)
    refine ji_aload_n dX8_fitNow_9 rfl trivial ?_
    refine ji_iload_n dX8_fitNow_10 rfl ?_
    refine ji_aload_n dX8_fitNow_11 rfl trivial ?_
    refine ji_get (ci := 8) (k := 7) rfl dX8_fitNow_12 lX8_26 (by decide) (rf_60) rfl ?_
    refine ji_cVv dX8_fitNow_15 (r_layPages hz hn hk hrc (by omega) (by omega) hF) rfl (rf_60) rfl rfl wX8_layPages vX8_layPages lX8_176 rfl (Nat.le_of_ble_eq_true rfl) rfl ?_
    refine ji_aload_n dX8_fitNow_18 rfl trivial ?_
    refine ji_get (ci := 8) (k := 22) rfl dX8_fitNow_19 lX8_170 (by decide) (rf_60) rfl ?_
    rw [ep]
    refine ji_iload_n dX8_fitNow_22 rfl ?_
    refine ji_icmp_gt (tgt := 28) dX8_fitNow_23 rfl (by omega) (by omega) (fun c23 => ?_) (fun c23 => ?_)
    · try (exfalso; omega)
      all_goals
        refine ji_iinc dX8_fitNow_28 (by decide) rfl rfl ?_
        refine ji_goto (tgt := 3) dX8_fitNow_31 rfl ?_
        exact ih _ _ _ _ _ _ _ _ _ (by omega) (by rw [hR, ft_w, if_neg (by omega)])
    · try (exfalso; omega)
      all_goals
        refine ji_iload_n dX8_fitNow_26 rfl ?_
        exact ji_ireturn dX8_fitNow_27 rfl (rfl) ⟨_, _, _, _, _, _, _, _, by rw [hR, ft_w, if_pos (by omega)], rfl⟩

set_option maxHeartbeats 4000000 in
set_option maxRecDepth 100000 in
theorem r_fitNow {q : Int} (hrf : rf_ok wi ht z nl nt sy) {P9 : Int → Int} (hP9 : ∀ w lo lf lt pf, 18 ≤ w ∧ w ≤ 60 → (rf_PG z nl nt sy w ht (rf_LL z nl nt sy w lo lf lt).1 (rf_LL z nl nt sy w lo lf lt).2.1 (rf_LL z nl nt sy w lo lf lt).2.2.1 (rf_LL z nl nt sy w lo lf lt).2.2.2 pf).1 = P9 w) (b_q : -2147483648 ≤ q ∧ q < 2147483648) : JM G (d + 8) mX8_fitNow [.ref 60, .int (jI q)] (n, rf_f f th z kp ed nt nl wi ht sy sz bf rs rr rq rp mm ln lo lf lt co ro pg pf hsh) 0 0 (fun r9 h9 => ∃ (ln co ro pg : Int) (lo lf lt pf : Nat → Int), r9 = .inl (some (.int (jI (ft_w P9 q 43 18)))) ∧ h9 = (n, rf_f f th z kp ed nt nl wi ht sy sz bf rs rr rq rp mm ln lo lf lt co ro pg pf hsh)) := by
  refine ji_ent (by decide) rfl (Nat.le_of_ble_eq_true rfl) rfl ?_
  refine ji_bipush dX8_fitNow_0 rfl ?_
  refine ji_istore_n dX8_fitNow_2 (by decide) rfl ?_
  exact r_fitNow_l hrf hP9 b_q 43 18 _ _ _ _ _ _ _ _ (by omega) rfl

set_option maxHeartbeats 4000000 in
set_option maxRecDepth 100000 in
theorem r_fit1 {q : Int} (b_q : -2147483648 ≤ q ∧ q < 2147483648) (hx : q < 1) : JR G d mX8_fit [.ref 60, .int (jI q)] (n, rf_f f th z kp ed nt nl wi ht sy sz bf rs rr rq rp mm ln lo lf lt co ro pg pf hsh) 0 0 (some (.int (jI 0))) (n, rf_f f 1 z kp ed nt nl wi ht sy sz bf rs rr rq rp mm ln lo lf lt co ro pg pf hsh) := by
  refine ji_ent (by decide) rfl (Nat.le_of_ble_eq_true rfl) rfl ?_
  refine ji_aload_n dX8_fit_0 rfl trivial ?_
  refine ji_iload_n dX8_fit_1 rfl ?_
  refine ji_iconst dX8_fit_2 ?_
  refine ji_icmp_lt (tgt := 10) dX8_fit_3 rfl (by omega) (by omega) (fun c3 => ?_) (fun c3 => absurd c3 (by omega))
  refine ji_iconst dX8_fit_10 ?_
  refine ji_putE (ci := 8) (k := 0) rfl dX8_fit_11 lX8_47 (by decide) (rf_60) (by simp [rf_c]) (ji_fitI _) rfl (rf_pth) ?_
  refine ji_aload_n dX8_fit_14 rfl trivial ?_
  refine ji_get (ci := 8) (k := 0) rfl dX8_fit_15 lX8_47 (by decide) (rf_60) rfl ?_
  refine ji_if_le (tgt := 25) dX8_fit_18 rfl (by omega) (fun c18 => absurd c18 (by omega)) (fun c18 => ?_)
  refine ji_iconst dX8_fit_21 ?_
  refine ji_goto (tgt := 30) dX8_fit_22 rfl ?_
  exact ji_ireturn dX8_fit_30 rfl (rfl) ⟨jr_i (by first | rfl | omega), rfl⟩

set_option maxHeartbeats 4000000 in
set_option maxRecDepth 100000 in
theorem r_fit {q : Int} (hrf : rf_ok wi ht z nl nt sy) {P9 : Int → Int} (hP9 : ∀ w lo lf lt pf, 18 ≤ w ∧ w ≤ 60 → (rf_PG z nl nt sy w ht (rf_LL z nl nt sy w lo lf lt).1 (rf_LL z nl nt sy w lo lf lt).2.1 (rf_LL z nl nt sy w lo lf lt).2.2.1 (rf_LL z nl nt sy w lo lf lt).2.2.2 pf).1 = P9 w) (b_q : -2147483648 ≤ q ∧ q < 2147483648) (hx : 1 ≤ q) : JM G (d + 9) mX8_fit [.ref 60, .int (jI q)] (n, rf_f f th z kp ed nt nl wi ht sy sz bf rs rr rq rp mm ln lo lf lt co ro pg pf hsh) 0 0 (fun r9 h9 => ∃ (ln co ro pg : Int) (lo lf lt pf : Nat → Int), r9 = .inl (some (.int (jI (ft_w P9 q 43 18)))) ∧ h9 = (n, rf_f f 0 z kp ed nt nl wi ht sy sz bf rs rr rq rp mm ln lo lf lt co ro pg pf hsh)) := by
  refine ji_ent (by decide) rfl (Nat.le_of_ble_eq_true rfl) rfl ?_
  refine ji_aload_n dX8_fit_0 rfl trivial ?_
  refine ji_iload_n dX8_fit_1 rfl ?_
  refine ji_iconst dX8_fit_2 ?_
  refine ji_icmp_lt (tgt := 10) dX8_fit_3 rfl (by omega) (by omega) (fun c3 => absurd c3 (by omega)) (fun c3 => ?_)
  refine ji_iconst dX8_fit_6 ?_
  refine ji_goto (tgt := 11) dX8_fit_7 rfl ?_
  refine ji_putE (ci := 8) (k := 0) rfl dX8_fit_11 lX8_47 (by decide) (rf_60) (by simp [rf_c]) (ji_fitI _) rfl (rf_pth) ?_
  refine ji_aload_n dX8_fit_14 rfl trivial ?_
  refine ji_get (ci := 8) (k := 0) rfl dX8_fit_15 lX8_47 (by decide) (rf_60) rfl ?_
  refine ji_if_le (tgt := 25) dX8_fit_18 rfl (by omega) (fun c18 => ?_) (fun c18 => absurd c18 (by omega))
  refine ji_aload_n dX8_fit_25 rfl trivial ?_
  refine ji_iload_n dX8_fit_26 rfl ?_
  refine ji_callV dX8_fit_27 (r_fitNow hrf hP9 b_q) rfl (rf_60) rfl rfl wX8_fitNow vX8_fitNow lX8_327 rfl (Nat.le_of_ble_eq_true rfl) rfl (by omega) (by omega) (fun r8 h8 hq8 => ?_) (fun E8 h8 hq8 => by obtain ⟨_, _, _, _, _, _, _, _, q9, -⟩ := hq8; cases q9)
  obtain ⟨ln2, co2, ro2, pg2, lo2, lf2, lt2, pf2, q9, e9⟩ := hq8
  cases q9
  subst e9
  exact ji_ireturn dX8_fit_30 rfl (rfl) ⟨_, _, _, _, _, _, _, _, rfl, rfl⟩

set_option maxHeartbeats 4000000 in
set_option maxRecDepth 100000 in
theorem r_fullness_l {bc bs : Nat} {Q : ji_R → ji_H → Prop} (hz : rz_ok z) (hn : nl_ok nl nt) (hk : rk_ok z sy) (hc9 : 0 ≤ co ∧ co ≤ 100) (hrl : rl_ok z ln lo lf lt) (hrc : rc_ok z) (hpk : rp_ok ln pg pf) (hl1 : 1 ≤ ln) (kk : ∀ k, JW G (d + 9) mX8_fullness 50 [some (.ref 60), some (.int (jI (rf_fs z nl nt sy co lo lf lt pf (pg - 1).toNat))), some (.int (jI k))] [] (n, rf_f f th z kp ed nt nl wi ht sy sz bf rs rr rq rp mm ln lo lf lt co ro pg pf hsh) bc bs Q) : ∀ (u : Nat) (x k : Int), 0 ≤ k ∧ k + u = pg - 1 → x = rf_fs z nl nt sy co lo lf lt pf k.toNat →
    JW G (d + 9) mX8_fullness 13 [some (.ref 60), some (.int (jI x)), some (.int (jI k))] [] (n, rf_f f th z kp ed nt nl wi ht sy sz bf rs rr rq rp mm ln lo lf lt co ro pg pf hsh) bc bs Q := by
  obtain ⟨r1, r2⟩ := id hrl
  obtain ⟨p1, p2, p3, p4, p5⟩ := id hpk
  intro u
  induction u with
  | zero =>
    intro x k hkb hR
    refine ji_iload_n dX8_fullness_13 rfl ?_
    refine ji_aload_n dX8_fullness_14 rfl trivial ?_
    refine ji_get (ci := 8) (k := 22) rfl dX8_fullness_15 lX8_170 (by decide) (rf_60) rfl ?_
    refine ji_iconst dX8_fullness_18 ?_
    refine ji_isub dX8_fullness_19 ?_
    refine ji_icmp_ge (tgt := 50) dX8_fullness_20 rfl (by omega) (by omega) (fun c20 => ?_) (fun c20 => absurd c20 (by omega))
    exact (show x = rf_fs z nl nt sy co lo lf lt pf (pg - 1).toNat by rw [hR, show k.toNat = (pg - 1).toNat by omega]) ▸ kk k
  | succ u ih =>
    intro x k hkb hR
    have w1 := p3 k.toNat (by omega)
    have w2 := p3 (k + 1).toNat (by omega)
    have w3 := p2 k.toNat (by omega)
    rw [show k.toNat + 1 = (k + 1).toNat by omega] at w3
    refine ji_iload_n dX8_fullness_13 rfl ?_
    refine ji_aload_n dX8_fullness_14 rfl trivial ?_
    refine ji_get (ci := 8) (k := 22) rfl dX8_fullness_15 lX8_170 (by decide) (rf_60) rfl ?_
    refine ji_iconst dX8_fullness_18 ?_
    refine ji_isub dX8_fullness_19 ?_
    refine ji_icmp_ge (tgt := 50) dX8_fullness_20 rfl (by omega) (by omega) (fun c20 => absurd c20 (by omega)) (fun c20 => ?_)
    refine ji_iload_n dX8_fullness_23 rfl ?_
    refine ji_aload_n dX8_fullness_24 rfl trivial ?_
    refine ji_aload_n dX8_fullness_25 rfl trivial ?_
    refine ji_get (ci := 8) (k := 23) rfl dX8_fullness_26 lX8_44 (by decide) (rf_60) rfl ?_
    refine ji_iload_n dX8_fullness_29 rfl ?_
    refine ji_iaload dX8_fullness_30 (rf_70) (by omega) ?_
    refine ji_aload_n dX8_fullness_31 rfl trivial ?_
    refine ji_get (ci := 8) (k := 23) rfl dX8_fullness_32 lX8_44 (by decide) (rf_60) rfl ?_
    refine ji_iload_n dX8_fullness_35 rfl ?_
    refine ji_iconst dX8_fullness_36 ?_
    refine ji_iadd dX8_fullness_37 ?_
    refine ji_iaload dX8_fullness_38 (rf_70) (by omega) ?_
    refine ji_cV dX8_fullness_39 (r_need hz hn hk hc9 hrl hrc (by omega)) rfl (rf_60) rfl rfl wX8_need vX8_need lX8_157 rfl (Nat.le_of_ble_eq_true rfl) rfl ?_
    refine ji_iadd dX8_fullness_42 ?_
    refine ji_istore_n dX8_fullness_43 (by decide) rfl ?_
    refine ji_iinc dX8_fullness_44 (by decide) rfl rfl ?_
    refine ji_goto (tgt := 13) dX8_fullness_47 rfl ?_
    exact ih _ _ (by omega) (by rw [show (k + 1).toNat = k.toNat + 1 by omega, rf_fs, ← hR])

set_option maxHeartbeats 4000000 in
set_option maxRecDepth 100000 in
theorem r_fullness (hrf : rf_ok wi ht z nl nt sy) (hne : ¬ (rf_PG z nl nt sy wi ht (rf_LL z nl nt sy wi lo lf lt).1 (rf_LL z nl nt sy wi lo lf lt).2.1 (rf_LL z nl nt sy wi lo lf lt).2.2.1 (rf_LL z nl nt sy wi lo lf lt).2.2.2 pf).1 = 1 → vf_n64 (FP.ddiv (FP.i2d (jI (rf_fs z nl nt sy wi ((rf_LL z nl nt sy wi lo lf lt).2.1) ((rf_LL z nl nt sy wi lo lf lt).2.2.1) ((rf_LL z nl nt sy wi lo lf lt).2.2.2) (va_up (rf_PG z nl nt sy wi ht (rf_LL z nl nt sy wi lo lf lt).1 (rf_LL z nl nt sy wi lo lf lt).2.1 (rf_LL z nl nt sy wi lo lf lt).2.2.1 (rf_LL z nl nt sy wi lo lf lt).2.2.2 pf).2 (rf_PG z nl nt sy wi ht (rf_LL z nl nt sy wi lo lf lt).1 (rf_LL z nl nt sy wi lo lf lt).2.1 (rf_LL z nl nt sy wi lo lf lt).2.2.1 (rf_LL z nl nt sy wi lo lf lt).2.2.2 pf).1.toNat (rf_LL z nl nt sy wi lo lf lt).1) ((rf_PG z nl nt sy wi ht (rf_LL z nl nt sy wi lo lf lt).1 (rf_LL z nl nt sy wi lo lf lt).2.1 (rf_LL z nl nt sy wi lo lf lt).2.2.1 (rf_LL z nl nt sy wi lo lf lt).2.2.2 pf).1 - 1).toNat))) (FP.i2d (jI (((rf_PG z nl nt sy wi ht (rf_LL z nl nt sy wi lo lf lt).1 (rf_LL z nl nt sy wi lo lf lt).2.1 (rf_LL z nl nt sy wi lo lf lt).2.2.1 (rf_LL z nl nt sy wi lo lf lt).2.2.2 pf).1 - 1) * ht))))) : JR G (d + 9) mX8_fullness [.ref 60] (n, rf_f f th z kp ed nt nl wi ht sy sz bf rs rr rq rp mm ln lo lf lt co ro pg pf hsh) 0 0 (some (.double (rf_fd (rf_fs z nl nt sy wi ((rf_LL z nl nt sy wi lo lf lt).2.1) ((rf_LL z nl nt sy wi lo lf lt).2.2.1) ((rf_LL z nl nt sy wi lo lf lt).2.2.2) (va_up (rf_PG z nl nt sy wi ht (rf_LL z nl nt sy wi lo lf lt).1 (rf_LL z nl nt sy wi lo lf lt).2.1 (rf_LL z nl nt sy wi lo lf lt).2.2.1 (rf_LL z nl nt sy wi lo lf lt).2.2.2 pf).2 (rf_PG z nl nt sy wi ht (rf_LL z nl nt sy wi lo lf lt).1 (rf_LL z nl nt sy wi lo lf lt).2.1 (rf_LL z nl nt sy wi lo lf lt).2.2.1 (rf_LL z nl nt sy wi lo lf lt).2.2.2 pf).1.toNat (rf_LL z nl nt sy wi lo lf lt).1) ((rf_PG z nl nt sy wi ht (rf_LL z nl nt sy wi lo lf lt).1 (rf_LL z nl nt sy wi lo lf lt).2.1 (rf_LL z nl nt sy wi lo lf lt).2.2.1 (rf_LL z nl nt sy wi lo lf lt).2.2.2 pf).1 - 1).toNat) ((rf_PG z nl nt sy wi ht (rf_LL z nl nt sy wi lo lf lt).1 (rf_LL z nl nt sy wi lo lf lt).2.1 (rf_LL z nl nt sy wi lo lf lt).2.2.1 (rf_LL z nl nt sy wi lo lf lt).2.2.2 pf).1) ht))) (n, rf_f f 0 z kp ed nt nl wi ht sy sz bf rs rr rq rp mm ((rf_LL z nl nt sy wi lo lf lt).1) ((rf_LL z nl nt sy wi lo lf lt).2.1) ((rf_LL z nl nt sy wi lo lf lt).2.2.1) ((rf_LL z nl nt sy wi lo lf lt).2.2.2) wi ht ((rf_PG z nl nt sy wi ht (rf_LL z nl nt sy wi lo lf lt).1 (rf_LL z nl nt sy wi lo lf lt).2.1 (rf_LL z nl nt sy wi lo lf lt).2.2.1 (rf_LL z nl nt sy wi lo lf lt).2.2.2 pf).1) (va_up (rf_PG z nl nt sy wi ht (rf_LL z nl nt sy wi lo lf lt).1 (rf_LL z nl nt sy wi lo lf lt).2.1 (rf_LL z nl nt sy wi lo lf lt).2.2.1 (rf_LL z nl nt sy wi lo lf lt).2.2.2 pf).2 (rf_PG z nl nt sy wi ht (rf_LL z nl nt sy wi lo lf lt).1 (rf_LL z nl nt sy wi lo lf lt).2.1 (rf_LL z nl nt sy wi lo lf lt).2.2.1 (rf_LL z nl nt sy wi lo lf lt).2.2.2 pf).1.toNat (rf_LL z nl nt sy wi lo lf lt).1) hsh) := by
  obtain ⟨hz, hn, hk, hrc, ⟨hw9, hh9⟩, ⟨hm9, hj9⟩, hll⟩ := id hrf
  have zb := hz.2.1
  have hF := (hll wi lo lf lt (by omega)).2
  have hl1 := (hll wi lo lf lt (by omega)).1
  have hc9 : 0 ≤ wi ∧ wi ≤ 100 := by omega
  have hro : 0 ≤ ht ∧ ht ≤ 100 := by omega
  have hrl := rf_LL_ok hz hF
  have hpk := rf_PG_ok z nl nt sy wi ht (rf_LL z nl nt sy wi lo lf lt).2.1 (rf_LL z nl nt sy wi lo lf lt).2.2.1 (rf_LL z nl nt sy wi lo lf lt).2.2.2 pf (ln := (rf_LL z nl nt sy wi lo lf lt).1) (by omega)
  have hpp := hpk.pos (by omega)
  have hpl := hpk.1
  refine ji_ent (by decide) rfl (Nat.le_of_ble_eq_true rfl) rfl ?_
  refine ji_aload_n dX8_fullness_0 rfl trivial ?_
  refine ji_iconst dX8_fullness_1 ?_
  refine ji_putE (ci := 8) (k := 0) rfl dX8_fullness_2 lX8_47 (by decide) (rf_60) (by simp [rf_c]) (ji_fitI _) rfl (rf_pth) ?_
  refine ji_aload_n dX8_fullness_5 rfl trivial ?_
  refine ji_cVv dX8_fullness_6 (r_layAll hz hn hk hrc (by omega) (by omega) hF) rfl (rf_60) rfl rfl wX8_layAll vX8_layAll lX8_189 rfl (Nat.le_of_ble_eq_true rfl) rfl ?_
  refine ji_iconst dX8_fullness_9 ?_
  refine ji_istore_n dX8_fullness_10 (by decide) rfl ?_
  refine ji_iconst dX8_fullness_11 ?_
  refine ji_istore_n dX8_fullness_12 (by decide) rfl ?_
  refine r_fullness_l hz hn hk hc9 hrl hrc hpk hl1 (fun k => ?_) ((rf_PG z nl nt sy wi ht (rf_LL z nl nt sy wi lo lf lt).1 (rf_LL z nl nt sy wi lo lf lt).2.1 (rf_LL z nl nt sy wi lo lf lt).2.2.1 (rf_LL z nl nt sy wi lo lf lt).2.2.2 pf).1 - 1).toNat 0 0 (by omega) rfl
  refine ji_aload_n dX8_fullness_50 rfl trivial ?_
  refine ji_get (ci := 8) (k := 22) rfl dX8_fullness_51 lX8_170 (by decide) (rf_60) rfl ?_
  refine ji_iconst dX8_fullness_54 ?_
  refine ji_icmp_ne (tgt := 62) dX8_fullness_55 rfl (by omega) (by omega) (fun c55 => ?_) (fun c55 => ?_)
  · try (exfalso; omega)
    all_goals
      refine ji_iload_n dX8_fullness_62 rfl ?_
      refine ji_i2d dX8_fullness_63 ?_
      refine ji_aload_n dX8_fullness_64 rfl trivial ?_
      refine ji_get (ci := 8) (k := 22) rfl dX8_fullness_65 lX8_170 (by decide) (rf_60) rfl ?_
      refine ji_iconst dX8_fullness_68 ?_
      refine ji_isub dX8_fullness_69 ?_
      refine ji_aload_n dX8_fullness_70 rfl trivial ?_
      refine ji_get (ci := 8) (k := 7) rfl dX8_fullness_71 lX8_26 (by decide) (rf_60) rfl ?_
      refine ji_imul dX8_fullness_74 ?_
      refine ji_i2d dX8_fullness_75 ?_
      refine ji_ddiv dX8_fullness_76 (hne c55) ?_
      exact ji_dreturn dX8_fullness_77 rfl ⟨by unfold rf_fd; first | rw [if_pos c55] | rw [if_neg c55], rfl⟩
  · try (exfalso; omega)
    all_goals
      refine ji_dconst0 dX8_fullness_58 ?_
      refine ji_goto (tgt := 77) dX8_fullness_59 rfl ?_
      exact ji_dreturn dX8_fullness_77 rfl ⟨by unfold rf_fd; first | rw [if_pos c55] | rw [if_neg c55], rfl⟩

set_option maxHeartbeats 4000000 in
set_option maxRecDepth 100000 in
theorem r_mix {v : Int} : JR G d mX8_mix [.ref 60, .long (jI v).toInt64] (n, rf_f f th z kp ed nt nl wi ht sy sz bf rs rr rq rp mm ln lo lf lt co ro pg pf hsh) 0 0 none (n, rf_f f th z kp ed nt nl wi ht sy sz bf rs rr rq rp mm ln lo lf lt co ro pg pf (mx hsh v)) := by
  refine ji_ent (by decide) rfl (Nat.le_of_ble_eq_true rfl) rfl ?_
  refine ji_aload_n dX8_mix_0 rfl trivial ?_
  refine ji_ldc2 dX8_mix_1 lX8_330 ?_
  refine ji_aload_n dX8_mix_4 rfl trivial ?_
  refine ji_get (ci := 8) (k := 24) rfl dX8_mix_5 lX8_332 (by decide) (rf_60) rfl ?_
  refine ji_lmul dX8_mix_8 ?_
  refine ji_lload_n dX8_mix_9 rfl ?_
  refine ji_ladd dX8_mix_10 ?_
  refine ji_putE (ci := 8) (k := 24) rfl dX8_mix_11 lX8_332 (by decide) (rf_60) (by simp [rf_c]) (ji_fitJ _) rfl (rf_phsh) ?_
  exact ji_return dX8_mix_14 rfl ⟨rfl, rfl⟩

set_option maxHeartbeats 4000000 in
set_option maxRecDepth 100000 in
theorem r_mixLayout_a {bc bs : Nat} {Q : ji_R → ji_H → Prop} {R : Int64} (hz : rz_ok z) (hn : nl_ok nl nt) (hk : rk_ok z sy) (hc9 : 0 ≤ co ∧ co ≤ 100) (hrl : rl_ok z ln lo lf lt) (hrc : rc_ok z) (hpk : rp_ok ln pg pf) (hl1 : 1 ≤ ln) (kk : ∀ k, JW G (d + 6) mX8_mixLayout 36 [some (.ref 60), some (.int (jI k))] [] (n, rf_f f th z kp ed nt nl wi ht sy sz bf rs rr rq rp mm ln lo lf lt co ro pg pf R) bc bs Q) : ∀ (u : Nat) (k : Int) (hsh : Int64), 0 ≤ k ∧ k + u = 6 * ln → R = mxs (fun k => rf_LN z nt sy lo lf lt pg pf (k / 6) (k % 6)) u k hsh →
    JW G (d + 6) mX8_mixLayout 2 [some (.ref 60), some (.int (jI k))] [] (n, rf_f f th z kp ed nt nl wi ht sy sz bf rs rr rq rp mm ln lo lf lt co ro pg pf hsh) bc bs Q := by
  obtain ⟨r1, r2⟩ := id hrl
  obtain ⟨p1, p2, p3, p4, p5⟩ := id hpk
  intro u
  induction u with
  | zero =>
    intro k hsh hkb hR
    refine ji_iload_n dX8_mixLayout_2 rfl ?_
    refine ji_bipush dX8_mixLayout_3 rfl ?_
    refine ji_aload_n dX8_mixLayout_5 rfl trivial ?_
    refine ji_get (ci := 8) (k := 16) rfl dX8_mixLayout_6 lX8_122 (by decide) (rf_60) rfl ?_
    refine ji_imul dX8_mixLayout_9 ?_
    refine ji_icmp_ge (tgt := 36) dX8_mixLayout_10 rfl (by omega) (by omega) (fun c10 => ?_) (fun c10 => absurd c10 (by omega))
    exact (show R = hsh from hR) ▸ kk _
  | succ u ih =>
    intro k hsh hkb hR
    refine ji_iload_n dX8_mixLayout_2 rfl ?_
    refine ji_bipush dX8_mixLayout_3 rfl ?_
    refine ji_aload_n dX8_mixLayout_5 rfl trivial ?_
    refine ji_get (ci := 8) (k := 16) rfl dX8_mixLayout_6 lX8_122 (by decide) (rf_60) rfl ?_
    refine ji_imul dX8_mixLayout_9 ?_
    refine ji_icmp_ge (tgt := 36) dX8_mixLayout_10 rfl (by omega) (by omega) (fun c10 => absurd c10 (by omega)) (fun c10 => ?_)
    refine ji_aload_n dX8_mixLayout_13 rfl trivial ?_
    refine ji_aload_n dX8_mixLayout_14 rfl trivial ?_
    refine ji_iload_n dX8_mixLayout_15 rfl ?_
    refine ji_bipush dX8_mixLayout_16 rfl ?_
    refine ji_idiv dX8_mixLayout_18 (by omega) (by omega) ?_
    refine ji_iload_n dX8_mixLayout_19 rfl ?_
    refine ji_bipush dX8_mixLayout_20 rfl ?_
    refine ji_irem dX8_mixLayout_22 (by omega) (by omega) ?_
    refine ji_cV dX8_mixLayout_23 (r_lineNow hz hn hk hrl hpk (by omega) (by omega)) rfl (rf_60) rfl rfl wX8_lineNow vX8_lineNow lX8_223 rfl (Nat.le_of_ble_eq_true rfl) rfl ?_
    refine ji_i2l dX8_mixLayout_26 rfl ?_
    refine ji_cVv dX8_mixLayout_27 (r_mix) rfl (rf_60) rfl rfl wX8_mix vX8_mix lX8_336 rfl (Nat.le_of_ble_eq_true rfl) rfl ?_
    refine ji_iinc dX8_mixLayout_30 (by decide) rfl rfl ?_
    refine ji_goto (tgt := 2) dX8_mixLayout_33 rfl ?_
    exact ih _ _ (by omega) hR

set_option maxHeartbeats 4000000 in
set_option maxRecDepth 100000 in
theorem r_mixLayout_b {bc bs : Nat} {Q : ji_R → ji_H → Prop} {R : Int64} (hz : rz_ok z) (hn : nl_ok nl nt) (hk : rk_ok z sy) (hc9 : 0 ≤ co ∧ co ≤ 100) (hrl : rl_ok z ln lo lf lt) (hrc : rc_ok z) (hpk : rp_ok ln pg pf) (hl1 : 1 ≤ ln) (hm9 : 0 ≤ z 14 ∧ z 14 ≤ 12) (kk : ∀ k, JW G (d + 6) mX8_mixLayout 72 [some (.ref 60), some (.int (jI k))] [] (n, rf_f f th z kp ed nt nl wi ht sy sz bf rs rr rq rp mm ln lo lf lt co ro pg pf R) bc bs Q) : ∀ (u : Nat) (k : Int) (hsh : Int64), 0 ≤ k ∧ k + u = 7 * pg → R = mxs (fun k => rf_PN z nl nt sy co ln lo lf lt pf (k / 7) (k % 7)) u k hsh →
    JW G (d + 6) mX8_mixLayout 38 [some (.ref 60), some (.int (jI k))] [] (n, rf_f f th z kp ed nt nl wi ht sy sz bf rs rr rq rp mm ln lo lf lt co ro pg pf hsh) bc bs Q := by
  obtain ⟨r1, r2⟩ := id hrl
  obtain ⟨p1, p2, p3, p4, p5⟩ := id hpk
  intro u
  induction u with
  | zero =>
    intro k hsh hkb hR
    refine ji_iload_n dX8_mixLayout_38 rfl ?_
    refine ji_bipush dX8_mixLayout_39 rfl ?_
    refine ji_aload_n dX8_mixLayout_41 rfl trivial ?_
    refine ji_get (ci := 8) (k := 22) rfl dX8_mixLayout_42 lX8_170 (by decide) (rf_60) rfl ?_
    refine ji_imul dX8_mixLayout_45 ?_
    refine ji_icmp_ge (tgt := 72) dX8_mixLayout_46 rfl (by omega) (by omega) (fun c46 => ?_) (fun c46 => absurd c46 (by omega))
    exact (show R = hsh from hR) ▸ kk _
  | succ u ih =>
    intro k hsh hkb hR
    refine ji_iload_n dX8_mixLayout_38 rfl ?_
    refine ji_bipush dX8_mixLayout_39 rfl ?_
    refine ji_aload_n dX8_mixLayout_41 rfl trivial ?_
    refine ji_get (ci := 8) (k := 22) rfl dX8_mixLayout_42 lX8_170 (by decide) (rf_60) rfl ?_
    refine ji_imul dX8_mixLayout_45 ?_
    refine ji_icmp_ge (tgt := 72) dX8_mixLayout_46 rfl (by omega) (by omega) (fun c46 => absurd c46 (by omega)) (fun c46 => ?_)
    refine ji_aload_n dX8_mixLayout_49 rfl trivial ?_
    refine ji_aload_n dX8_mixLayout_50 rfl trivial ?_
    refine ji_iload_n dX8_mixLayout_51 rfl ?_
    refine ji_bipush dX8_mixLayout_52 rfl ?_
    refine ji_idiv dX8_mixLayout_54 (by omega) (by omega) ?_
    refine ji_iload_n dX8_mixLayout_55 rfl ?_
    refine ji_bipush dX8_mixLayout_56 rfl ?_
    refine ji_irem dX8_mixLayout_58 (by omega) (by omega) ?_
    refine ji_cV dX8_mixLayout_59 (r_pageNow hz hn hk hc9 hrl hrc hpk hm9 (by omega) (by omega)) rfl (rf_60) rfl rfl wX8_pageNow vX8_pageNow lX8_210 rfl (Nat.le_of_ble_eq_true rfl) rfl ?_
    refine ji_i2l dX8_mixLayout_62 rfl ?_
    refine ji_cVv dX8_mixLayout_63 (r_mix) rfl (rf_60) rfl rfl wX8_mix vX8_mix lX8_336 rfl (Nat.le_of_ble_eq_true rfl) rfl ?_
    refine ji_iinc dX8_mixLayout_66 (by decide) rfl rfl ?_
    refine ji_goto (tgt := 38) dX8_mixLayout_69 rfl ?_
    exact ih _ _ (by omega) hR

set_option maxHeartbeats 4000000 in
set_option maxRecDepth 100000 in
theorem r_mixLayout_c {bc bs : Nat} {R : Int64} (hz : rz_ok z) (hn : nl_ok nl nt) (hk : rk_ok z sy) (hc9 : 0 ≤ co ∧ co ≤ 100) (hrl : rl_ok z ln lo lf lt) (hrc : rc_ok z) (hpk : rp_ok ln pg pf) (hl1 : 1 ≤ ln) (hm9 : 0 ≤ z 14 ∧ z 14 ≤ 12) : ∀ (u : Nat) (k : Int) (hsh : Int64), 0 ≤ k ∧ k + u = 6 * z 14 → R = mxs (fun k => rf_AN z ln lo lf pg pf (k / 6) (k % 6)) u k hsh →
    JW G (d + 6) mX8_mixLayout 74 [some (.ref 60), some (.int (jI k))] [] (n, rf_f f th z kp ed nt nl wi ht sy sz bf rs rr rq rp mm ln lo lf lt co ro pg pf hsh) bc bs (fun r9 h9 => r9 = .inl none ∧ h9 = (n, rf_f f th z kp ed nt nl wi ht sy sz bf rs rr rq rp mm ln lo lf lt co ro pg pf R)) := by
  obtain ⟨r1, r2⟩ := id hrl
  obtain ⟨p1, p2, p3, p4, p5⟩ := id hpk
  intro u
  induction u with
  | zero =>
    intro k hsh hkb hR
    refine ji_iload_n dX8_mixLayout_74 rfl ?_
    refine ji_bipush dX8_mixLayout_75 rfl ?_
    refine ji_aload_n dX8_mixLayout_77 rfl trivial ?_
    refine ji_get (ci := 8) (k := 1) rfl dX8_mixLayout_78 lX8_7 (by decide) (rf_60) rfl ?_
    refine ji_bipush dX8_mixLayout_81 rfl ?_
    refine ji_ialoadK (k := 14) dX8_mixLayout_83 (rf_61) rfl (by decide) ?_
    refine ji_imul dX8_mixLayout_84 ?_
    refine ji_icmp_ge (tgt := 111) dX8_mixLayout_85 rfl (by omega) (by omega) (fun c85 => ?_) (fun c85 => absurd c85 (by omega))
    exact ji_return dX8_mixLayout_111 rfl ⟨rfl, by rw [hR]; rfl⟩
  | succ u ih =>
    intro k hsh hkb hR
    refine ji_iload_n dX8_mixLayout_74 rfl ?_
    refine ji_bipush dX8_mixLayout_75 rfl ?_
    refine ji_aload_n dX8_mixLayout_77 rfl trivial ?_
    refine ji_get (ci := 8) (k := 1) rfl dX8_mixLayout_78 lX8_7 (by decide) (rf_60) rfl ?_
    refine ji_bipush dX8_mixLayout_81 rfl ?_
    refine ji_ialoadK (k := 14) dX8_mixLayout_83 (rf_61) rfl (by decide) ?_
    refine ji_imul dX8_mixLayout_84 ?_
    refine ji_icmp_ge (tgt := 111) dX8_mixLayout_85 rfl (by omega) (by omega) (fun c85 => absurd c85 (by omega)) (fun c85 => ?_)
    refine ji_aload_n dX8_mixLayout_88 rfl trivial ?_
    refine ji_aload_n dX8_mixLayout_89 rfl trivial ?_
    refine ji_iload_n dX8_mixLayout_90 rfl ?_
    refine ji_bipush dX8_mixLayout_91 rfl ?_
    refine ji_idiv dX8_mixLayout_93 (by omega) (by omega) ?_
    refine ji_iload_n dX8_mixLayout_94 rfl ?_
    refine ji_bipush dX8_mixLayout_95 rfl ?_
    refine ji_irem dX8_mixLayout_97 (by omega) (by omega) ?_
    refine ji_cV dX8_mixLayout_98 (r_annotationNow hz hrl hpk hl1 hm9 (by omega) (by omega)) rfl (rf_60) rfl rfl wX8_annotationNow vX8_annotationNow lX8_287 rfl (Nat.le_of_ble_eq_true rfl) rfl ?_
    refine ji_i2l dX8_mixLayout_101 rfl ?_
    refine ji_cVv dX8_mixLayout_102 (r_mix) rfl (rf_60) rfl rfl wX8_mix vX8_mix lX8_336 rfl (Nat.le_of_ble_eq_true rfl) rfl ?_
    refine ji_iinc dX8_mixLayout_105 (by decide) rfl rfl ?_
    refine ji_goto (tgt := 74) dX8_mixLayout_108 rfl ?_
    exact ih _ _ (by omega) hR

set_option maxHeartbeats 4000000 in
set_option maxRecDepth 100000 in
theorem r_mixLayout (hz : rz_ok z) (hn : nl_ok nl nt) (hk : rk_ok z sy) (hc9 : 0 ≤ co ∧ co ≤ 100) (hrl : rl_ok z ln lo lf lt) (hrc : rc_ok z) (hpk : rp_ok ln pg pf) (hl1 : 1 ≤ ln) (hm9 : 0 ≤ z 14 ∧ z 14 ≤ 12) : JR G (d + 6) mX8_mixLayout [.ref 60] (n, rf_f f th z kp ed nt nl wi ht sy sz bf rs rr rq rp mm ln lo lf lt co ro pg pf hsh) 0 0 none (n, rf_f f th z kp ed nt nl wi ht sy sz bf rs rr rq rp mm ln lo lf lt co ro pg pf (rf_ml z nl nt sy co ln lo lf lt pg pf hsh)) := by
  obtain ⟨r1, r2⟩ := id hrl
  obtain ⟨p1, p2, p3, p4, p5⟩ := id hpk
  refine ji_ent (by decide) rfl (Nat.le_of_ble_eq_true rfl) rfl ?_
  refine ji_iconst dX8_mixLayout_0 ?_
  refine ji_istore_n dX8_mixLayout_1 (by decide) rfl ?_
  refine r_mixLayout_a hz hn hk hc9 hrl hrc hpk hl1 (fun k => ?_) (6 * ln).toNat 0 _ (by omega) rfl
  refine ji_iconst dX8_mixLayout_36 ?_
  refine ji_istore_n dX8_mixLayout_37 (by decide) rfl ?_
  refine r_mixLayout_b hz hn hk hc9 hrl hrc hpk hl1 hm9 (fun k => ?_) (7 * pg).toNat 0 _ (by omega) rfl
  refine ji_iconst dX8_mixLayout_72 ?_
  refine ji_istore_n dX8_mixLayout_73 (by decide) rfl ?_
  exact r_mixLayout_c hz hn hk hc9 hrl hrc hpk hl1 hm9 (6 * z 14).toNat 0 _ (by omega) rfl

set_option maxHeartbeats 4000000 in
set_option maxRecDepth 100000 in
theorem r_mixParagraphs_a {bc bs : Nat} {Q : ji_R → ji_H → Prop} {R : Int64} (hz : rz_ok z) (hn : nl_ok nl nt) (hk : rk_ok z sy) (hc9 : 0 ≤ co ∧ co ≤ 100) (hrl : rl_ok z ln lo lf lt) (hrc : rc_ok z) (hpk : rp_ok ln pg pf) (hl1 : 1 ≤ ln) {q : Int} (hq : 0 ≤ q ∧ q < 10) (kk : ∀ k, JW G (d + 6) mX8_mixParagraphs 36 [some (.ref 60), some (.int (jI q)), some (.int (jI k))] [] (n, rf_f f th z kp ed nt nl wi ht sy sz bf rs rr rq rp mm ln lo lf lt co ro pg pf R) bc bs Q) : ∀ (u : Nat) (k : Int) (hsh : Int64), 0 ≤ k ∧ k + u = 5 → R = mxs (rf_PP z nt ln lo lf pg pf q) u k hsh →
    JW G (d + 6) mX8_mixParagraphs 14 [some (.ref 60), some (.int (jI q)), some (.int (jI k))] [] (n, rf_f f th z kp ed nt nl wi ht sy sz bf rs rr rq rp mm ln lo lf lt co ro pg pf hsh) bc bs Q := by
  obtain ⟨r1, r2⟩ := id hrl
  obtain ⟨p1, p2, p3, p4, p5⟩ := id hpk
  intro u
  induction u with
  | zero =>
    intro k hsh hkb hR
    refine ji_iload_n dX8_mixParagraphs_14 rfl ?_
    refine ji_iconst dX8_mixParagraphs_15 ?_
    refine ji_icmp_ge (tgt := 36) dX8_mixParagraphs_16 rfl (by omega) (by omega) (fun c16 => ?_) (fun c16 => absurd c16 (by omega))
    exact (show R = hsh from hR) ▸ kk _
  | succ u ih =>
    intro k hsh hkb hR
    refine ji_iload_n dX8_mixParagraphs_14 rfl ?_
    refine ji_iconst dX8_mixParagraphs_15 ?_
    refine ji_icmp_ge (tgt := 36) dX8_mixParagraphs_16 rfl (by omega) (by omega) (fun c16 => absurd c16 (by omega)) (fun c16 => ?_)
    refine ji_aload_n dX8_mixParagraphs_19 rfl trivial ?_
    refine ji_aload_n dX8_mixParagraphs_20 rfl trivial ?_
    refine ji_iload_n dX8_mixParagraphs_21 rfl ?_
    refine ji_iload_n dX8_mixParagraphs_22 rfl ?_
    refine ji_cV dX8_mixParagraphs_23 (r_paragraphNow hz hn hrl hpk hl1 (by omega) (by omega)) rfl (rf_60) rfl rfl wX8_paragraphNow vX8_paragraphNow lX8_281 rfl (Nat.le_of_ble_eq_true rfl) rfl ?_
    refine ji_i2l dX8_mixParagraphs_26 rfl ?_
    refine ji_cVv dX8_mixParagraphs_27 (r_mix) rfl (rf_60) rfl rfl wX8_mix vX8_mix lX8_336 rfl (Nat.le_of_ble_eq_true rfl) rfl ?_
    refine ji_iinc dX8_mixParagraphs_30 (by decide) rfl rfl ?_
    refine ji_goto (tgt := 14) dX8_mixParagraphs_33 rfl ?_
    exact ih _ _ (by omega) hR

set_option maxHeartbeats 4000000 in
set_option maxRecDepth 100000 in
theorem r_mixParagraphs_b {bc bs : Nat} {Q : ji_R → ji_H → Prop} {R : Int64} (hz : rz_ok z) (hn : nl_ok nl nt) (hk : rk_ok z sy) (hc9 : 0 ≤ co ∧ co ≤ 100) (hrl : rl_ok z ln lo lf lt) (hrc : rc_ok z) (hpk : rp_ok ln pg pf) (hl1 : 1 ≤ ln) {q : Int} (hq : 0 ≤ q ∧ q < 10) (kk : ∀ k, JW G (d + 6) mX8_mixParagraphs 68 [some (.ref 60), some (.int (jI q)), some (.int (jI k))] [] (n, rf_f f th z kp ed nt nl wi ht sy sz bf rs rr rq rp mm ln lo lf lt co ro pg pf R) bc bs Q) : ∀ (u : Nat) (k : Int) (hsh : Int64), 0 ≤ k ∧ k + u = z (85 + q).toNat → R = mxs (rf_ch z nt q) u k hsh →
    JW G (d + 6) mX8_mixParagraphs 38 [some (.ref 60), some (.int (jI q)), some (.int (jI k))] [] (n, rf_f f th z kp ed nt nl wi ht sy sz bf rs rr rq rp mm ln lo lf lt co ro pg pf hsh) bc bs Q := by
  obtain ⟨r1, r2⟩ := id hrl
  obtain ⟨p1, p2, p3, p4, p5⟩ := id hpk
  have zl := hz.2.2.1 (85 + q).toNat (by omega) (by omega)
  intro u
  induction u with
  | zero =>
    intro k hsh hkb hR
    refine ji_iload_n dX8_mixParagraphs_38 rfl ?_
    refine ji_aload_n dX8_mixParagraphs_39 rfl trivial ?_
    refine ji_get (ci := 8) (k := 1) rfl dX8_mixParagraphs_40 lX8_7 (by decide) (rf_60) rfl ?_
    refine ji_bipush dX8_mixParagraphs_43 rfl ?_
    refine ji_iload_n dX8_mixParagraphs_45 rfl ?_
    refine ji_iadd dX8_mixParagraphs_46 ?_
    refine ji_iaload dX8_mixParagraphs_47 (rf_61) (by omega) ?_
    refine ji_icmp_ge (tgt := 68) dX8_mixParagraphs_48 rfl (by omega) (by omega) (fun c48 => ?_) (fun c48 => absurd c48 (by omega))
    exact (show R = hsh from hR) ▸ kk _
  | succ u ih =>
    intro k hsh hkb hR
    refine ji_iload_n dX8_mixParagraphs_38 rfl ?_
    refine ji_aload_n dX8_mixParagraphs_39 rfl trivial ?_
    refine ji_get (ci := 8) (k := 1) rfl dX8_mixParagraphs_40 lX8_7 (by decide) (rf_60) rfl ?_
    refine ji_bipush dX8_mixParagraphs_43 rfl ?_
    refine ji_iload_n dX8_mixParagraphs_45 rfl ?_
    refine ji_iadd dX8_mixParagraphs_46 ?_
    refine ji_iaload dX8_mixParagraphs_47 (rf_61) (by omega) ?_
    refine ji_icmp_ge (tgt := 68) dX8_mixParagraphs_48 rfl (by omega) (by omega) (fun c48 => absurd c48 (by omega)) (fun c48 => ?_)
    refine ji_aload_n dX8_mixParagraphs_51 rfl trivial ?_
    refine ji_aload_n dX8_mixParagraphs_52 rfl trivial ?_
    refine ji_iload_n dX8_mixParagraphs_53 rfl ?_
    refine ji_iload_n dX8_mixParagraphs_54 rfl ?_
    refine ji_cV dX8_mixParagraphs_55 (r_charOf hz hn (by omega) (by omega)) rfl (rf_60) rfl rfl wX8_charOf vX8_charOf lX8_112 rfl (Nat.le_of_ble_eq_true rfl) rfl ?_
    refine ji_i2l dX8_mixParagraphs_58 rfl ?_
    refine ji_cVv dX8_mixParagraphs_59 (r_mix) rfl (rf_60) rfl rfl wX8_mix vX8_mix lX8_336 rfl (Nat.le_of_ble_eq_true rfl) rfl ?_
    refine ji_iinc dX8_mixParagraphs_62 (by decide) rfl rfl ?_
    refine ji_goto (tgt := 38) dX8_mixParagraphs_65 rfl ?_
    exact ih _ _ (by omega) hR

set_option maxHeartbeats 4000000 in
set_option maxRecDepth 100000 in
theorem r_mixParagraphs_o {bc bs : Nat} {R : Int64} (hz : rz_ok z) (hn : nl_ok nl nt) (hk : rk_ok z sy) (hc9 : 0 ≤ co ∧ co ≤ 100) (hrl : rl_ok z ln lo lf lt) (hrc : rc_ok z) (hpk : rp_ok ln pg pf) (hl1 : 1 ≤ ln) : ∀ (u : Nat) (q : Int) (hsh : Int64) (o2 : Option Value), 0 ≤ q ∧ q + u = z 0 → R = rf_mp z nl nt ln lo lf pg pf u q hsh →
    JW G (d + 6) mX8_mixParagraphs 2 [some (.ref 60), some (.int (jI q)), o2] [] (n, rf_f f th z kp ed nt nl wi ht sy sz bf rs rr rq rp mm ln lo lf lt co ro pg pf hsh) bc bs (fun r9 h9 => r9 = .inl none ∧ h9 = (n, rf_f f th z kp ed nt nl wi ht sy sz bf rs rr rq rp mm ln lo lf lt co ro pg pf R)) := by
  have zb := hz.2.1
  intro u
  induction u with
  | zero =>
    intro q hsh o2 hq hR
    refine ji_iload_n dX8_mixParagraphs_2 rfl ?_
    refine ji_aload_n dX8_mixParagraphs_3 rfl trivial ?_
    refine ji_get (ci := 8) (k := 1) rfl dX8_mixParagraphs_4 lX8_7 (by decide) (rf_60) rfl ?_
    refine ji_iconst dX8_mixParagraphs_7 ?_
    refine ji_ialoadK (k := 0) dX8_mixParagraphs_8 (rf_61) rfl (by decide) ?_
    refine ji_icmp_ge (tgt := 74) dX8_mixParagraphs_9 rfl (by omega) (by omega) (fun c9 => ?_) (fun c9 => absurd c9 (by omega))
    exact ji_return dX8_mixParagraphs_74 rfl ⟨rfl, by rw [hR]; rfl⟩
  | succ u ih =>
    intro q hsh o2 hq hR
    have zl := hz.2.2.1 (85 + q).toNat (by omega) (by omega)
    refine ji_iload_n dX8_mixParagraphs_2 rfl ?_
    refine ji_aload_n dX8_mixParagraphs_3 rfl trivial ?_
    refine ji_get (ci := 8) (k := 1) rfl dX8_mixParagraphs_4 lX8_7 (by decide) (rf_60) rfl ?_
    refine ji_iconst dX8_mixParagraphs_7 ?_
    refine ji_ialoadK (k := 0) dX8_mixParagraphs_8 (rf_61) rfl (by decide) ?_
    refine ji_icmp_ge (tgt := 74) dX8_mixParagraphs_9 rfl (by omega) (by omega) (fun c9 => absurd c9 (by omega)) (fun c9 => ?_)
    refine ji_iconst dX8_mixParagraphs_12 ?_
    refine ji_istore_n dX8_mixParagraphs_13 (by decide) rfl ?_
    refine r_mixParagraphs_a (q := q) hz hn hk hc9 hrl hrc hpk hl1 (by omega) (fun k => ?_) 5 0 _ (by omega) rfl
    refine ji_iconst dX8_mixParagraphs_36 ?_
    refine ji_istore_n dX8_mixParagraphs_37 (by decide) rfl ?_
    refine r_mixParagraphs_b (q := q) hz hn hk hc9 hrl hrc hpk hl1 (by omega) (fun k => ?_) (z (85 + q).toNat).toNat 0 _ (by omega) rfl
    refine ji_iinc dX8_mixParagraphs_68 (by decide) rfl rfl ?_
    refine ji_goto (tgt := 2) dX8_mixParagraphs_71 rfl ?_
    exact ih _ _ _ (by omega) hR

set_option maxHeartbeats 4000000 in
set_option maxRecDepth 100000 in
theorem r_mixParagraphs (hz : rz_ok z) (hn : nl_ok nl nt) (hk : rk_ok z sy) (hc9 : 0 ≤ co ∧ co ≤ 100) (hrl : rl_ok z ln lo lf lt) (hrc : rc_ok z) (hpk : rp_ok ln pg pf) (hl1 : 1 ≤ ln) : JR G (d + 6) mX8_mixParagraphs [.ref 60] (n, rf_f f th z kp ed nt nl wi ht sy sz bf rs rr rq rp mm ln lo lf lt co ro pg pf hsh) 0 0 none (n, rf_f f th z kp ed nt nl wi ht sy sz bf rs rr rq rp mm ln lo lf lt co ro pg pf (rf_mp z nl nt ln lo lf pg pf (z 0).toNat 0 hsh)) := by
  have zb := hz.2.1
  refine ji_ent (by decide) rfl (Nat.le_of_ble_eq_true rfl) rfl ?_
  refine ji_iconst dX8_mixParagraphs_0 ?_
  refine ji_istore_n dX8_mixParagraphs_1 (by decide) rfl ?_
  exact r_mixParagraphs_o hz hn hk hc9 hrl hrc hpk hl1 (z 0).toNat 0 _ _ (by omega) rfl

set_option maxHeartbeats 4000000 in
set_option maxRecDepth 100000 in
theorem r_digest_a {bc bs : Nat} {Q : ji_R → ji_H → Prop} {R : Int64} (hz : rz_ok z) (hn : nl_ok nl nt) (hk : rk_ok z sy) (hc9 : 0 ≤ co ∧ co ≤ 100) (hrl : rl_ok z ln lo lf lt) (hrc : rc_ok z) (hpk : rp_ok ln pg pf) (hl1 : 1 ≤ ln) (hm9 : 0 ≤ z 14 ∧ z 14 ≤ 12) (ha1 : 0 ≤ z 1 ∧ z 1 ≤ 9) (ha2 : 0 ≤ z 2) (ha3 : 1 ≤ rf_lt z (z 0).toNat) (kk : ∀ k, JW G (d + 9) mX8_digest 40 [some (.ref 60), some (.int (jI k))] [] (n, rf_f f th z kp ed nt nl wi ht sy sz bf rs rr rq rp mm ln lo lf lt co ro pg pf R) bc bs Q) : ∀ (u : Nat) (k : Int) (hsh : Int64), 0 ≤ k ∧ k + u = 12 → R = mxs (rf_CN z nl nt ed ln lo lf pg pf) u k hsh →
    JW G (d + 9) mX8_digest 18 [some (.ref 60), some (.int (jI k))] [] (n, rf_f f th z kp ed nt nl wi ht sy sz bf rs rr rq rp mm ln lo lf lt co ro pg pf hsh) bc bs Q := by
  intro u
  induction u with
  | zero =>
    intro k hsh hkb hR
    refine ji_iload_n dX8_digest_18 rfl ?_
    refine ji_bipush dX8_digest_19 rfl ?_
    refine ji_icmp_ge (tgt := 40) dX8_digest_21 rfl (by omega) (by omega) (fun c21 => ?_) (fun c21 => absurd c21 (by omega))
    exact (show R = hsh from hR) ▸ kk _
  | succ u ih =>
    intro k hsh hkb hR
    refine ji_iload_n dX8_digest_18 rfl ?_
    refine ji_bipush dX8_digest_19 rfl ?_
    refine ji_icmp_ge (tgt := 40) dX8_digest_21 rfl (by omega) (by omega) (fun c21 => absurd c21 (by omega)) (fun c21 => ?_)
    refine ji_aload_n dX8_digest_24 rfl trivial ?_
    refine ji_aload_n dX8_digest_25 rfl trivial ?_
    refine ji_iload_n dX8_digest_26 rfl ?_
    refine ji_cV dX8_digest_27 (r_counted hz hn hrl hpk hl1 hm9 ha1 ha2 ha3 (by omega)) rfl (rf_60) rfl rfl wX8_counted vX8_counted lX8_272 rfl (Nat.le_of_ble_eq_true rfl) rfl ?_
    refine ji_i2l dX8_digest_30 rfl ?_
    refine ji_cVv dX8_digest_31 (r_mix) rfl (rf_60) rfl rfl wX8_mix vX8_mix lX8_336 rfl (Nat.le_of_ble_eq_true rfl) rfl ?_
    refine ji_iinc dX8_digest_34 (by decide) rfl rfl ?_
    refine ji_goto (tgt := 18) dX8_digest_37 rfl ?_
    exact ih _ _ (by omega) hR

set_option maxHeartbeats 4000000 in
set_option maxRecDepth 100000 in
theorem r_digest_b {bc bs : Nat} {Q : ji_R → ji_H → Prop} {R : Int64}  (kk : ∀ k, JW G (d + 9) mX8_digest 82 [some (.ref 60), some (.int (jI k))] [] (n, rf_f f th z kp ed nt nl wi ht sy sz bf rs rr rq rp mm ln lo lf lt co ro pg pf R) bc bs Q) : ∀ (u : Nat) (k : Int) (hsh : Int64), 0 ≤ k ∧ k + u = 5 → R = mxs (fun k => sy k.toNat) u k hsh →
    JW G (d + 9) mX8_digest 60 [some (.ref 60), some (.int (jI k))] [] (n, rf_f f th z kp ed nt nl wi ht sy sz bf rs rr rq rp mm ln lo lf lt co ro pg pf hsh) bc bs Q := by
  intro u
  induction u with
  | zero =>
    intro k hsh hkb hR
    refine ji_iload_n dX8_digest_60 rfl ?_
    refine ji_iconst dX8_digest_61 ?_
    refine ji_icmp_ge (tgt := 82) dX8_digest_62 rfl (by omega) (by omega) (fun c62 => ?_) (fun c62 => absurd c62 (by omega))
    exact (show R = hsh from hR) ▸ kk _
  | succ u ih =>
    intro k hsh hkb hR
    refine ji_iload_n dX8_digest_60 rfl ?_
    refine ji_iconst dX8_digest_61 ?_
    refine ji_icmp_ge (tgt := 82) dX8_digest_62 rfl (by omega) (by omega) (fun c62 => absurd c62 (by omega)) (fun c62 => ?_)
    refine ji_aload_n dX8_digest_65 rfl trivial ?_
    refine ji_aload_n dX8_digest_66 rfl trivial ?_
    refine ji_get (ci := 8) (k := 8) rfl dX8_digest_67 lX8_29 (by decide) (rf_60) rfl ?_
    refine ji_iload_n dX8_digest_70 rfl ?_
    refine ji_iaload dX8_digest_71 (rf_65) (by omega) ?_
    refine ji_i2l dX8_digest_72 rfl ?_
    refine ji_cVv dX8_digest_73 (r_mix) rfl (rf_60) rfl rfl wX8_mix vX8_mix lX8_336 rfl (Nat.le_of_ble_eq_true rfl) rfl ?_
    refine ji_iinc dX8_digest_76 (by decide) rfl rfl ?_
    refine ji_goto (tgt := 60) dX8_digest_79 rfl ?_
    exact ih _ _ (by omega) hR

set_option maxHeartbeats 4000000 in
set_option maxRecDepth 100000 in
theorem r_digest_c {bc bs : Nat} {Q : ji_R → ji_H → Prop} {R : Int64} (hn : nl_ok nl nt) (kk : ∀ k, JW G (d + 9) mX8_digest 114 [some (.ref 60), some (.int (jI k))] [] (n, rf_f f th z kp ed nt nl wi ht sy sz bf rs rr rq rp mm ln lo lf lt co ro pg pf R) bc bs Q) : ∀ (u : Nat) (k : Int) (hsh : Int64), 0 ≤ k ∧ k + u = 10 → R = mxs (rf_NW nl nt) u k hsh →
    JW G (d + 9) mX8_digest 92 [some (.ref 60), some (.int (jI k))] [] (n, rf_f f th z kp ed nt nl wi ht sy sz bf rs rr rq rp mm ln lo lf lt co ro pg pf hsh) bc bs Q := by
  intro u
  induction u with
  | zero =>
    intro k hsh hkb hR
    refine ji_iload_n dX8_digest_92 rfl ?_
    refine ji_bipush dX8_digest_93 rfl ?_
    refine ji_icmp_ge (tgt := 114) dX8_digest_95 rfl (by omega) (by omega) (fun c95 => ?_) (fun c95 => absurd c95 (by omega))
    exact (show R = hsh from hR) ▸ kk _
  | succ u ih =>
    intro k hsh hkb hR
    refine ji_iload_n dX8_digest_92 rfl ?_
    refine ji_bipush dX8_digest_93 rfl ?_
    refine ji_icmp_ge (tgt := 114) dX8_digest_95 rfl (by omega) (by omega) (fun c95 => absurd c95 (by omega)) (fun c95 => ?_)
    refine ji_aload_n dX8_digest_98 rfl trivial ?_
    refine ji_aload_n dX8_digest_99 rfl trivial ?_
    refine ji_iload_n dX8_digest_100 rfl ?_
    refine ji_cV dX8_digest_101 (r_noteWords hn (by omega)) rfl (rf_60) rfl rfl wX8_noteWords vX8_noteWords lX8_105 rfl (Nat.le_of_ble_eq_true rfl) rfl ?_
    refine ji_i2l dX8_digest_104 rfl ?_
    refine ji_cVv dX8_digest_105 (r_mix) rfl (rf_60) rfl rfl wX8_mix vX8_mix lX8_336 rfl (Nat.le_of_ble_eq_true rfl) rfl ?_
    refine ji_iinc dX8_digest_108 (by decide) rfl rfl ?_
    refine ji_goto (tgt := 92) dX8_digest_111 rfl ?_
    exact ih _ _ (by omega) hR

set_option maxHeartbeats 4000000 in
set_option maxRecDepth 100000 in
theorem r_digest_d {bc bs : Nat} {R : Int64} (hz9 : 0 ≤ sz ∧ sz ≤ 100) : ∀ (u : Nat) (k : Int) (hsh : Int64), 0 ≤ k ∧ k + u = sz → R = mxs (fun k => bf k.toNat) u k hsh →
    JW G (d + 9) mX8_digest 125 [some (.ref 60), some (.int (jI k))] [] (n, rf_f f th z kp ed nt nl wi ht sy sz bf rs rr rq rp mm ln lo lf lt co ro pg pf hsh) bc bs (fun r9 h9 => r9 = .inl (some (.long R)) ∧ h9 = (n, rf_f f th z kp ed nt nl wi ht sy sz bf rs rr rq rp mm ln lo lf lt co ro pg pf R)) := by
  intro u
  induction u with
  | zero =>
    intro k hsh hkb hR
    refine ji_iload_n dX8_digest_125 rfl ?_
    refine ji_aload_n dX8_digest_126 rfl trivial ?_
    refine ji_get (ci := 8) (k := 9) rfl dX8_digest_127 lX8_54 (by decide) (rf_60) rfl ?_
    refine ji_icmp_ge (tgt := 150) dX8_digest_130 rfl (by omega) (by omega) (fun c130 => ?_) (fun c130 => absurd c130 (by omega))
    refine ji_aload_n dX8_digest_150 rfl trivial ?_
    refine ji_get (ci := 8) (k := 24) rfl dX8_digest_151 lX8_332 (by decide) (rf_60) rfl ?_
    exact ji_lreturn dX8_digest_154 rfl ⟨by rw [hR]; rfl, by rw [hR]; rfl⟩
  | succ u ih =>
    intro k hsh hkb hR
    refine ji_iload_n dX8_digest_125 rfl ?_
    refine ji_aload_n dX8_digest_126 rfl trivial ?_
    refine ji_get (ci := 8) (k := 9) rfl dX8_digest_127 lX8_54 (by decide) (rf_60) rfl ?_
    refine ji_icmp_ge (tgt := 150) dX8_digest_130 rfl (by omega) (by omega) (fun c130 => absurd c130 (by omega)) (fun c130 => ?_)
    refine ji_aload_n dX8_digest_133 rfl trivial ?_
    refine ji_aload_n dX8_digest_134 rfl trivial ?_
    refine ji_get (ci := 8) (k := 10) rfl dX8_digest_135 lX8_32 (by decide) (rf_60) rfl ?_
    refine ji_iload_n dX8_digest_138 rfl ?_
    refine ji_iaload dX8_digest_139 (rf_66) (by omega) ?_
    refine ji_i2l dX8_digest_140 rfl ?_
    refine ji_cVv dX8_digest_141 (r_mix) rfl (rf_60) rfl rfl wX8_mix vX8_mix lX8_336 rfl (Nat.le_of_ble_eq_true rfl) rfl ?_
    refine ji_iinc dX8_digest_144 (by decide) rfl rfl ?_
    refine ji_goto (tgt := 125) dX8_digest_147 rfl ?_
    exact ih _ _ (by omega) hR

set_option maxHeartbeats 4000000 in
set_option maxRecDepth 100000 in
theorem r_digest (hrf : rf_ok wi ht z nl nt sy) (hz9 : 0 ≤ sz ∧ sz ≤ 100) (ha1 : 0 ≤ z 1 ∧ z 1 ≤ 9) (ha2 : 0 ≤ z 2) (ha3 : 1 ≤ rf_lt z (z 0).toNat) : JR G (d + 9) mX8_digest [.ref 60] (n, rf_f f th z kp ed nt nl wi ht sy sz bf rs rr rq rp mm ln lo lf lt co ro pg pf hsh) 0 0 (some (.long (rf_dg z nl nt sy ed wi ht sz bf ((rf_LL z nl nt sy wi lo lf lt).1) ((rf_LL z nl nt sy wi lo lf lt).2.1) ((rf_LL z nl nt sy wi lo lf lt).2.2.1) ((rf_LL z nl nt sy wi lo lf lt).2.2.2) ((rf_PG z nl nt sy wi ht (rf_LL z nl nt sy wi lo lf lt).1 (rf_LL z nl nt sy wi lo lf lt).2.1 (rf_LL z nl nt sy wi lo lf lt).2.2.1 (rf_LL z nl nt sy wi lo lf lt).2.2.2 pf).1) (va_up (rf_PG z nl nt sy wi ht (rf_LL z nl nt sy wi lo lf lt).1 (rf_LL z nl nt sy wi lo lf lt).2.1 (rf_LL z nl nt sy wi lo lf lt).2.2.1 (rf_LL z nl nt sy wi lo lf lt).2.2.2 pf).2 (rf_PG z nl nt sy wi ht (rf_LL z nl nt sy wi lo lf lt).1 (rf_LL z nl nt sy wi lo lf lt).2.1 (rf_LL z nl nt sy wi lo lf lt).2.2.1 (rf_LL z nl nt sy wi lo lf lt).2.2.2 pf).1.toNat (rf_LL z nl nt sy wi lo lf lt).1)))) (n, rf_f f 0 z kp ed nt nl wi ht sy sz bf rs rr rq rp mm ((rf_LL z nl nt sy wi lo lf lt).1) ((rf_LL z nl nt sy wi lo lf lt).2.1) ((rf_LL z nl nt sy wi lo lf lt).2.2.1) ((rf_LL z nl nt sy wi lo lf lt).2.2.2) wi ht ((rf_PG z nl nt sy wi ht (rf_LL z nl nt sy wi lo lf lt).1 (rf_LL z nl nt sy wi lo lf lt).2.1 (rf_LL z nl nt sy wi lo lf lt).2.2.1 (rf_LL z nl nt sy wi lo lf lt).2.2.2 pf).1) (va_up (rf_PG z nl nt sy wi ht (rf_LL z nl nt sy wi lo lf lt).1 (rf_LL z nl nt sy wi lo lf lt).2.1 (rf_LL z nl nt sy wi lo lf lt).2.2.1 (rf_LL z nl nt sy wi lo lf lt).2.2.2 pf).2 (rf_PG z nl nt sy wi ht (rf_LL z nl nt sy wi lo lf lt).1 (rf_LL z nl nt sy wi lo lf lt).2.1 (rf_LL z nl nt sy wi lo lf lt).2.2.1 (rf_LL z nl nt sy wi lo lf lt).2.2.2 pf).1.toNat (rf_LL z nl nt sy wi lo lf lt).1) (rf_dg z nl nt sy ed wi ht sz bf ((rf_LL z nl nt sy wi lo lf lt).1) ((rf_LL z nl nt sy wi lo lf lt).2.1) ((rf_LL z nl nt sy wi lo lf lt).2.2.1) ((rf_LL z nl nt sy wi lo lf lt).2.2.2) ((rf_PG z nl nt sy wi ht (rf_LL z nl nt sy wi lo lf lt).1 (rf_LL z nl nt sy wi lo lf lt).2.1 (rf_LL z nl nt sy wi lo lf lt).2.2.1 (rf_LL z nl nt sy wi lo lf lt).2.2.2 pf).1) (va_up (rf_PG z nl nt sy wi ht (rf_LL z nl nt sy wi lo lf lt).1 (rf_LL z nl nt sy wi lo lf lt).2.1 (rf_LL z nl nt sy wi lo lf lt).2.2.1 (rf_LL z nl nt sy wi lo lf lt).2.2.2 pf).2 (rf_PG z nl nt sy wi ht (rf_LL z nl nt sy wi lo lf lt).1 (rf_LL z nl nt sy wi lo lf lt).2.1 (rf_LL z nl nt sy wi lo lf lt).2.2.1 (rf_LL z nl nt sy wi lo lf lt).2.2.2 pf).1.toNat (rf_LL z nl nt sy wi lo lf lt).1))) := by
  obtain ⟨hz, hn, hk, hrc, ⟨hw9, hh9⟩, ⟨hm9, hj9⟩, hll⟩ := id hrf
  have zb := hz.2.1
  have hF := (hll wi lo lf lt (by omega)).2
  have hl1 := (hll wi lo lf lt (by omega)).1
  have hc9 : 0 ≤ wi ∧ wi ≤ 100 := by omega
  have hro : 0 ≤ ht ∧ ht ≤ 100 := by omega
  have hrl := rf_LL_ok hz hF
  have hpk := rf_PG_ok z nl nt sy wi ht (rf_LL z nl nt sy wi lo lf lt).2.1 (rf_LL z nl nt sy wi lo lf lt).2.2.1 (rf_LL z nl nt sy wi lo lf lt).2.2.2 pf (ln := (rf_LL z nl nt sy wi lo lf lt).1) (by omega)
  have hpp := hpk.pos (by omega)
  have hpl := hpk.1
  refine ji_ent (by decide) rfl (Nat.le_of_ble_eq_true rfl) rfl ?_
  refine ji_aload_n dX8_digest_0 rfl trivial ?_
  refine ji_iconst dX8_digest_1 ?_
  refine ji_putE (ci := 8) (k := 0) rfl dX8_digest_2 lX8_47 (by decide) (rf_60) (by simp [rf_c]) (ji_fitI _) rfl (rf_pth) ?_
  refine ji_aload_n dX8_digest_5 rfl trivial ?_
  refine ji_cVv dX8_digest_6 (r_layAll hz hn hk hrc (by omega) (by omega) hF) rfl (rf_60) rfl rfl wX8_layAll vX8_layAll lX8_189 rfl (Nat.le_of_ble_eq_true rfl) rfl ?_
  refine ji_aload_n dX8_digest_9 rfl trivial ?_
  refine ji_ldc2 dX8_digest_10 lX8_340 ?_
  refine ji_putE (ci := 8) (k := 24) rfl dX8_digest_13 lX8_332 (by decide) (rf_60) (by simp [rf_c]) (ji_fitJ _) rfl (rf_phsh) ?_
  refine ji_iconst dX8_digest_16 ?_
  refine ji_istore_n dX8_digest_17 (by decide) rfl ?_
  refine r_digest_a hz hn hk hc9 hrl hrc hpk hl1 hm9 ha1 ha2 ha3 (fun k => ?_) 12 0 _ (by omega) rfl
  refine ji_aload_n dX8_digest_40 rfl trivial ?_
  refine ji_aload_n dX8_digest_41 rfl trivial ?_
  refine ji_get (ci := 8) (k := 6) rfl dX8_digest_42 lX8_22 (by decide) (rf_60) rfl ?_
  refine ji_i2l dX8_digest_45 rfl ?_
  refine ji_cVv dX8_digest_46 (r_mix) rfl (rf_60) rfl rfl wX8_mix vX8_mix lX8_336 rfl (Nat.le_of_ble_eq_true rfl) rfl ?_
  refine ji_aload_n dX8_digest_49 rfl trivial ?_
  refine ji_aload_n dX8_digest_50 rfl trivial ?_
  refine ji_get (ci := 8) (k := 7) rfl dX8_digest_51 lX8_26 (by decide) (rf_60) rfl ?_
  refine ji_i2l dX8_digest_54 rfl ?_
  refine ji_cVv dX8_digest_55 (r_mix) rfl (rf_60) rfl rfl wX8_mix vX8_mix lX8_336 rfl (Nat.le_of_ble_eq_true rfl) rfl ?_
  refine ji_iconst dX8_digest_58 ?_
  refine ji_istore_n dX8_digest_59 (by decide) rfl ?_
  refine r_digest_b (fun k => ?_) 5 0 _ (by omega) rfl
  refine ji_aload_n dX8_digest_82 rfl trivial ?_
  refine ji_cVv dX8_digest_83 (r_mixParagraphs hz hn hk hc9 hrl hrc hpk hl1) rfl (rf_60) rfl rfl wX8_mixParagraphs vX8_mixParagraphs lX8_342 rfl (Nat.le_of_ble_eq_true rfl) rfl ?_
  refine ji_aload_n dX8_digest_86 rfl trivial ?_
  refine ji_cVv dX8_digest_87 (r_mixLayout hz hn hk hc9 hrl hrc hpk hl1 hm9) rfl (rf_60) rfl rfl wX8_mixLayout vX8_mixLayout lX8_345 rfl (Nat.le_of_ble_eq_true rfl) rfl ?_
  refine ji_iconst dX8_digest_90 ?_
  refine ji_istore_n dX8_digest_91 (by decide) rfl ?_
  refine r_digest_c hn (fun k => ?_) 10 0 _ (by omega) rfl
  refine ji_aload_n dX8_digest_114 rfl trivial ?_
  refine ji_aload_n dX8_digest_115 rfl trivial ?_
  refine ji_get (ci := 8) (k := 9) rfl dX8_digest_116 lX8_54 (by decide) (rf_60) rfl ?_
  refine ji_i2l dX8_digest_119 rfl ?_
  refine ji_cVv dX8_digest_120 (r_mix) rfl (rf_60) rfl rfl wX8_mix vX8_mix lX8_336 rfl (Nat.le_of_ble_eq_true rfl) rfl ?_
  refine ji_iconst dX8_digest_123 ?_
  refine ji_istore_n dX8_digest_124 (by decide) rfl ?_
  exact r_digest_d hz9 sz.toNat 0 _ (by omega) rfl

end RF
