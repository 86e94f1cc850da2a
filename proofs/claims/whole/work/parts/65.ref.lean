/-! ===== the reference: input and sizes ===== -/
def rf_ok (wi ht : Int) (z nl nt sy : Nat → Int) : Prop := rz_ok z ∧ nl_ok nl nt ∧ rk_ok z sy ∧ rc_ok z ∧ ((18 ≤ wi ∧ wi ≤ 60) ∧ 2 ≤ ht ∧ ht ≤ 20) ∧ ((0 ≤ z 14 ∧ z 14 ≤ 12) ∧ 0 ≤ z 3 ∧ z 3 ≤ 5) ∧ ∀ w lo lf lt, 18 ≤ w ∧ w ≤ 60 → 1 ≤ (rf_LL z nl nt sy w lo lf lt).1 ∧ (rf_LL z nl nt sy w lo lf lt).1 ≤ 240
def rf_lb1 (z : Nat → Int) (c : Int) : Nat → Int :=
  if c = 124 then va_up z 0 (z 0 + 1)
  else if c = 35 ∨ c = 62 then va_up z (75 + (z 0 - 1)).toNat (if c = 35 then 1 else 2)
  else va_up (va_up z (95 + 360 * (z 0 - 1) + z (85 + (z 0 - 1)).toNat).toNat c) (85 + (z 0 - 1)).toNat (va_up z (95 + 360 * (z 0 - 1) + z (85 + (z 0 - 1)).toNat).toNat c (85 + (z 0 - 1)).toNat + 1)
def rf_lb (z bf : Nat → Int) : Nat → Nat → Int
  | 0 => z
  | i + 1 => rf_lb1 (rf_lb z bf i) (bf i)
def rf_lb0 (z : Nat → Int) : Nat → Int := va_up (ji_map (fun _ => 0) z 95) 0 1
theorem rf_lb_b {z bf : Nat → Int} : ∀ i : Nat, in_tm bf 124 i ≤ 9 → (rf_lb (rf_lb0 z) bf i 0 = 1 + in_tm bf 124 i) ∧ ∀ j, 85 ≤ j → j < 95 → 0 ≤ rf_lb (rf_lb0 z) bf i j ∧ rf_lb (rf_lb0 z) bf i j ≤ i
  | 0, _ => ⟨rfl, fun j h1 h2 => by
      show 0 ≤ rf_lb0 z j ∧ rf_lb0 z j ≤ ((0 : Nat) : Int)
      unfold rf_lb0
      rw [va_up_ne _ _ (by omega)]
      unfold ji_map
      rw [if_pos (by omega)]; exact ⟨Int.le_refl _, Int.le_refl _⟩⟩
  | i + 1, h => by
    have hb := in_tm_b bf 124 i
    have hs : in_tm bf 124 (i + 1) = in_tm bf 124 i + (if bf i = 124 then 1 else 0) := rfl
    have h9 : in_tm bf 124 i ≤ 9 := by rw [hs] at h; split at h <;> omega
    obtain ⟨h1, h2⟩ := rf_lb_b i h9
    rw [hs]
    show (rf_lb1 (rf_lb (rf_lb0 z) bf i) (bf i) 0 = _) ∧ ∀ j, 85 ≤ j → j < 95 → 0 ≤ rf_lb1 (rf_lb (rf_lb0 z) bf i) (bf i) j ∧ rf_lb1 (rf_lb (rf_lb0 z) bf i) (bf i) j ≤ ((i + 1 : Nat) : Int)
    generalize rf_lb (rf_lb0 z) bf i = Z at h1 h2 ⊢
    unfold rf_lb1
    split
    · refine ⟨by rw [va_up_self]; omega, fun j a b => ?_⟩
      rw [va_up_ne _ _ (by omega)]; have := h2 j a b; omega
    · split
      · refine ⟨by rw [va_up_ne _ _ (by omega)]; omega, fun j a b => ?_⟩
        rw [va_up_ne _ _ (by omega)]; have := h2 j a b; omega
      · have hq := h2 (85 + (Z 0 - 1)).toNat (by omega) (by omega)
        refine ⟨by rw [va_up_ne _ _ (by omega), va_up_ne _ _ (by omega)]; omega, fun j a b => ?_⟩
        by_cases e : j = (85 + (Z 0 - 1)).toNat
        · rw [e, va_up_self, va_up_ne _ _ (by omega)]; omega
        · rw [va_up_ne _ _ e, va_up_ne _ _ (by omega)]; have := h2 j a b; omega
def rf_sn1 (nt bf : Nat → Int) (k : Int) : Nat → Nat → Int
  | 0 => nt
  | i + 1 => va_up (rf_sn1 nt bf k i) (100 * k + i).toNat (bf i)
def rf_LC (C : Int → Int) (x y k : Int) : Int := if 0 ≤ k ∧ x + k < y then C (x + k) else 32
def rf_h1 (S : Int) (C : Int → Int) (co col : Int) (K : Int → Int) : Nat → Int → Int → Int
  | 0, _, l => K l
  | u + 1, x, l => if x < S then (if l = 0 then rf_LC C x (rf_LE S C x 0 co) col else rf_h1 S C co col K u (rf_LE S C x 0 co + 1) (l - 1)) else K l
def rf_h2 (z nl nt sy : Nat → Int) (co x9 col : Int) : Nat → Int → Int → Int
  | 0, _, _ => 32
  | u + 1, k, l => if rf_SN nl sy x9 k = 1 then rf_h1 (rf_sz z nl (10 + k)) (rf_ch z nt (10 + k)) co col (fun l => rf_h2 z nl nt sy co x9 col u (k + 1) l) (rf_sz z nl (10 + k)).toNat 0 l else rf_h2 z nl nt sy co x9 col u (k + 1) l
def rf_NC (z nl nt sy : Nat → Int) (co x9 i col : Int) : Int := rf_h2 z nl nt sy co x9 col 10 0 i
def rf_s2 (z nl nt sy : Nat → Int) (co ht : Int) (lo lf lt : Nat → Int) (x y row col : Int) : Int :=
  if rf_NR z nl nt sy co (rf_NO z nt lo lf lt x y) = 0 ∨ row < max (rf_RO z sy lo lf x y) (ht - rf_NR z nl nt sy co (rf_NO z nt lo lf lt x y)) then 32
  else if row = max (rf_RO z sy lo lf x y) (ht - rf_NR z nl nt sy co (rf_NO z nt lo lf lt x y)) then 45
  else rf_NC z nl nt sy co (rf_NO z nt lo lf lt x y) (row - max (rf_RO z sy lo lf x y) (ht - rf_NR z nl nt sy co (rf_NO z nt lo lf lt x y)) - 1) col
def rf_s1 (z nl nt sy : Nat → Int) (co ht : Int) (lo lf lt : Nat → Int) (pg : Int) (pf : Nat → Int) (x y row col : Int) : Nat → Int → Int
  | 0, _ => rf_s2 z nl nt sy co ht lo lf lt x y row col
  | u + 1, l => if rf_RA z sy lo lf pg pf l = row then rf_LC (rf_ch z nt (lo l.toNat)) (lf l.toNat) (lt l.toNat) (col - rf_ID z sy (lo l.toNat) (lf l.toNat)) else rf_s1 z nl nt sy co ht lo lf lt pg pf x y row col u (l + 1)
def rf_SH (z nl nt sy : Nat → Int) (co ht : Int) (lo lf lt : Nat → Int) (pg : Int) (pf : Nat → Int) (q row col : Int) : Int := rf_s1 z nl nt sy co ht lo lf lt pg pf (pf q.toNat) (pf (q + 1).toNat) row col (pf (q + 1).toNat - pf q.toNat).toNat (pf q.toNat)
def rf_bw (z nl nt sy : Nat → Int) (co ro ln : Int) (lo lf lt : Nat → Int) (l : Int) : Nat → Int → Int
  | 0, _ => -1
  | u + 1, x => if rf_BO z nl nt sy co ro ln lo lf lt x = l then x else rf_bw z nl nt sy co ro ln lo lf lt l u (x + 1)
def rf_BW (z nl nt sy : Nat → Int) (co ro ln : Int) (lo lf lt : Nat → Int) (l : Int) : Int := rf_bw z nl nt sy co ro ln lo lf lt l l.toNat 0
def rf_IP (z : Nat → Int) (q o : Int) : Int := if (0 ≤ q ∧ q < z 0) ∧ 0 ≤ o ∧ o < z (85 + q).toNat then 1 else 0
theorem rf_IP_d (z : Nat → Int) (q o : Int) : (rf_IP z q o = 1 ∧ (0 ≤ q ∧ q < z 0) ∧ 0 ≤ o ∧ o < z (85 + q).toNat) ∨ (rf_IP z q o = 0 ∧ ¬ ((0 ≤ q ∧ q < z 0) ∧ 0 ≤ o ∧ o < z (85 + q).toNat)) := by unfold rf_IP; split <;> omega
section RF
variable {G : ji_G} {d n : Nat} {f : Nat → ji_C} {th ed wi ht sz rs rr rq rp mm ln co ro pg : Int} {z kp nt nl sy bf lo lf lt pf : Nat → Int} {hsh : Int64}
set_option maxHeartbeats 4000000 in
set_option maxRecDepth 100000 in
theorem r_append1 (hz9 : 0 ≤ sz ∧ sz ≤ 100) {v : Int} (b_v : -2147483648 ≤ v ∧ v < 2147483648) (hx : v < 32 ∨ 126 < v) : JR G (d + 1) mX8_append [.ref 60, .int (jI v)] (n, rf_f f th z kp ed nt nl wi ht sy sz bf rs rr rq rp mm ln lo lf lt co ro pg pf hsh) 0 0 (some (.int (jI 0))) (n, rf_f f 1 z kp ed nt nl wi ht sy sz bf rs rr rq rp mm ln lo lf lt co ro pg pf hsh) := by
  have w_v_32_126 := rf_in_d v 32 126
  refine ji_ent (by decide) rfl (Nat.le_of_ble_eq_true rfl) rfl ?_
  refine ji_aload_n dX8_append_0 rfl trivial ?_
  refine ji_iload_n dX8_append_1 rfl ?_
  refine ji_bipush dX8_append_2 rfl ?_
  refine ji_bipush dX8_append_4 rfl ?_
  refine ji_cS dX8_append_6 (r_within (by omega) (by omega) (by omega)) rfl wX8_within sX8_within lX8_50 rfl (Nat.le_of_ble_eq_true rfl) rfl ?_
  refine ji_if_ne (tgt := 16) dX8_append_9 rfl (by omega) (fun c9 => ?_) (fun c9 => ?_)
  · try (exfalso; omega)
    all_goals
      refine ji_aload_n dX8_append_16 rfl trivial ?_
      refine ji_get (ci := 8) (k := 9) rfl dX8_append_17 lX8_54 (by decide) (rf_60) rfl ?_
      refine ji_bipush dX8_append_20 rfl ?_
      refine ji_icmp_ne (tgt := 29) dX8_append_22 rfl (by omega) (by omega) (fun c22 => ?_) (fun c22 => ?_)
      · try (exfalso; omega)
        all_goals
          refine ji_iconst dX8_append_29 ?_
          refine ji_putE (ci := 8) (k := 0) rfl dX8_append_30 lX8_47 (by decide) (rf_60) (by simp [rf_c]) (ji_fitI _) rfl (rf_pth) ?_
          refine ji_aload_n dX8_append_33 rfl trivial ?_
          refine ji_get (ci := 8) (k := 0) rfl dX8_append_34 lX8_47 (by decide) (rf_60) rfl ?_
          refine ji_if_le (tgt := 42) dX8_append_37 rfl (by omega) (fun c37 => ?_) (fun c37 => ?_)
          · try (exfalso; omega)
            all_goals
              refine ji_aload_n dX8_append_42 rfl trivial ?_
              refine ji_get (ci := 8) (k := 10) rfl dX8_append_43 lX8_32 (by decide) (rf_60) rfl ?_
              refine ji_aload_n dX8_append_46 rfl trivial ?_
              refine ji_get (ci := 8) (k := 9) rfl dX8_append_47 lX8_54 (by decide) (rf_60) rfl ?_
              refine ji_iload_n dX8_append_50 rfl ?_
              refine ji_iastoreE dX8_append_51 (rf_66) (by omega) (rf_s66) ?_
              refine ji_aload_n dX8_append_52 rfl trivial ?_
              refine ji_dup dX8_append_53 rfl ?_
              refine ji_get (ci := 8) (k := 9) rfl dX8_append_54 lX8_54 (by decide) (rf_60) rfl ?_
              refine ji_iconst dX8_append_57 ?_
              refine ji_iadd dX8_append_58 ?_
              refine ji_putE (ci := 8) (k := 9) rfl dX8_append_59 lX8_54 (by decide) (rf_60) (by simp [rf_c]) (ji_fitI _) rfl (rf_psz) ?_
              refine ji_aload_n dX8_append_62 rfl trivial ?_
              refine ji_get (ci := 8) (k := 9) rfl dX8_append_63 lX8_54 (by decide) (rf_60) rfl ?_
              exact ji_ireturn dX8_append_66 rfl (rfl) ⟨jr_i (by first | rfl | omega), rfl⟩
          · try (exfalso; omega)
            all_goals
              refine ji_iconst dX8_append_40 ?_
              exact ji_ireturn dX8_append_41 rfl (rfl) ⟨jr_i (by first | rfl | omega), rfl⟩
      · try (exfalso; omega)
        all_goals
          refine ji_iconst dX8_append_25 ?_
          refine ji_goto (tgt := 30) dX8_append_26 rfl ?_
          refine ji_putE (ci := 8) (k := 0) rfl dX8_append_30 lX8_47 (by decide) (rf_60) (by simp [rf_c]) (ji_fitI _) rfl (rf_pth) ?_
          refine ji_aload_n dX8_append_33 rfl trivial ?_
          refine ji_get (ci := 8) (k := 0) rfl dX8_append_34 lX8_47 (by decide) (rf_60) rfl ?_
          refine ji_if_le (tgt := 42) dX8_append_37 rfl (by omega) (fun c37 => ?_) (fun c37 => ?_)
          · try (exfalso; omega)
            all_goals
              refine ji_aload_n dX8_append_42 rfl trivial ?_
              refine ji_get (ci := 8) (k := 10) rfl dX8_append_43 lX8_32 (by decide) (rf_60) rfl ?_
              refine ji_aload_n dX8_append_46 rfl trivial ?_
              refine ji_get (ci := 8) (k := 9) rfl dX8_append_47 lX8_54 (by decide) (rf_60) rfl ?_
              refine ji_iload_n dX8_append_50 rfl ?_
              refine ji_iastoreE dX8_append_51 (rf_66) (by omega) (rf_s66) ?_
              refine ji_aload_n dX8_append_52 rfl trivial ?_
              refine ji_dup dX8_append_53 rfl ?_
              refine ji_get (ci := 8) (k := 9) rfl dX8_append_54 lX8_54 (by decide) (rf_60) rfl ?_
              refine ji_iconst dX8_append_57 ?_
              refine ji_iadd dX8_append_58 ?_
              refine ji_putE (ci := 8) (k := 9) rfl dX8_append_59 lX8_54 (by decide) (rf_60) (by simp [rf_c]) (ji_fitI _) rfl (rf_psz) ?_
              refine ji_aload_n dX8_append_62 rfl trivial ?_
              refine ji_get (ci := 8) (k := 9) rfl dX8_append_63 lX8_54 (by decide) (rf_60) rfl ?_
              exact ji_ireturn dX8_append_66 rfl (rfl) ⟨jr_i (by first | rfl | omega), rfl⟩
          · try (exfalso; omega)
            all_goals
              refine ji_iconst dX8_append_40 ?_
              exact ji_ireturn dX8_append_41 rfl (rfl) ⟨jr_i (by first | rfl | omega), rfl⟩
  · try (exfalso; omega)
    all_goals
      refine ji_iconst dX8_append_12 ?_
      refine ji_goto (tgt := 30) dX8_append_13 rfl ?_
      refine ji_putE (ci := 8) (k := 0) rfl dX8_append_30 lX8_47 (by decide) (rf_60) (by simp [rf_c]) (ji_fitI _) rfl (rf_pth) ?_
      refine ji_aload_n dX8_append_33 rfl trivial ?_
      refine ji_get (ci := 8) (k := 0) rfl dX8_append_34 lX8_47 (by decide) (rf_60) rfl ?_
      refine ji_if_le (tgt := 42) dX8_append_37 rfl (by omega) (fun c37 => ?_) (fun c37 => ?_)
      · try (exfalso; omega)
        all_goals
          refine ji_aload_n dX8_append_42 rfl trivial ?_
          refine ji_get (ci := 8) (k := 10) rfl dX8_append_43 lX8_32 (by decide) (rf_60) rfl ?_
          refine ji_aload_n dX8_append_46 rfl trivial ?_
          refine ji_get (ci := 8) (k := 9) rfl dX8_append_47 lX8_54 (by decide) (rf_60) rfl ?_
          refine ji_iload_n dX8_append_50 rfl ?_
          refine ji_iastoreE dX8_append_51 (rf_66) (by omega) (rf_s66) ?_
          refine ji_aload_n dX8_append_52 rfl trivial ?_
          refine ji_dup dX8_append_53 rfl ?_
          refine ji_get (ci := 8) (k := 9) rfl dX8_append_54 lX8_54 (by decide) (rf_60) rfl ?_
          refine ji_iconst dX8_append_57 ?_
          refine ji_iadd dX8_append_58 ?_
          refine ji_putE (ci := 8) (k := 9) rfl dX8_append_59 lX8_54 (by decide) (rf_60) (by simp [rf_c]) (ji_fitI _) rfl (rf_psz) ?_
          refine ji_aload_n dX8_append_62 rfl trivial ?_
          refine ji_get (ci := 8) (k := 9) rfl dX8_append_63 lX8_54 (by decide) (rf_60) rfl ?_
          exact ji_ireturn dX8_append_66 rfl (rfl) ⟨jr_i (by first | rfl | omega), rfl⟩
      · try (exfalso; omega)
        all_goals
          refine ji_iconst dX8_append_40 ?_
          exact ji_ireturn dX8_append_41 rfl (rfl) ⟨jr_i (by first | rfl | omega), rfl⟩

set_option maxHeartbeats 4000000 in
set_option maxRecDepth 100000 in
theorem r_append2 (hz9 : 0 ≤ sz ∧ sz ≤ 100) {v : Int} (hv : 32 ≤ v ∧ v ≤ 126) (hx : sz = 100) : JR G (d + 1) mX8_append [.ref 60, .int (jI v)] (n, rf_f f th z kp ed nt nl wi ht sy sz bf rs rr rq rp mm ln lo lf lt co ro pg pf hsh) 0 0 (some (.int (jI 0))) (n, rf_f f 2 z kp ed nt nl wi ht sy sz bf rs rr rq rp mm ln lo lf lt co ro pg pf hsh) := by
  have w_v_32_126 := rf_in_d v 32 126
  refine ji_ent (by decide) rfl (Nat.le_of_ble_eq_true rfl) rfl ?_
  refine ji_aload_n dX8_append_0 rfl trivial ?_
  refine ji_iload_n dX8_append_1 rfl ?_
  refine ji_bipush dX8_append_2 rfl ?_
  refine ji_bipush dX8_append_4 rfl ?_
  refine ji_cS dX8_append_6 (r_within (by omega) (by omega) (by omega)) rfl wX8_within sX8_within lX8_50 rfl (Nat.le_of_ble_eq_true rfl) rfl ?_
  refine ji_if_ne (tgt := 16) dX8_append_9 rfl (by omega) (fun c9 => ?_) (fun c9 => ?_)
  · try (exfalso; omega)
    all_goals
      refine ji_aload_n dX8_append_16 rfl trivial ?_
      refine ji_get (ci := 8) (k := 9) rfl dX8_append_17 lX8_54 (by decide) (rf_60) rfl ?_
      refine ji_bipush dX8_append_20 rfl ?_
      refine ji_icmp_ne (tgt := 29) dX8_append_22 rfl (by omega) (by omega) (fun c22 => ?_) (fun c22 => ?_)
      · try (exfalso; omega)
        all_goals
          refine ji_iconst dX8_append_29 ?_
          refine ji_putE (ci := 8) (k := 0) rfl dX8_append_30 lX8_47 (by decide) (rf_60) (by simp [rf_c]) (ji_fitI _) rfl (rf_pth) ?_
          refine ji_aload_n dX8_append_33 rfl trivial ?_
          refine ji_get (ci := 8) (k := 0) rfl dX8_append_34 lX8_47 (by decide) (rf_60) rfl ?_
          refine ji_if_le (tgt := 42) dX8_append_37 rfl (by omega) (fun c37 => ?_) (fun c37 => ?_)
          · try (exfalso; omega)
            all_goals
              refine ji_aload_n dX8_append_42 rfl trivial ?_
              refine ji_get (ci := 8) (k := 10) rfl dX8_append_43 lX8_32 (by decide) (rf_60) rfl ?_
              refine ji_aload_n dX8_append_46 rfl trivial ?_
              refine ji_get (ci := 8) (k := 9) rfl dX8_append_47 lX8_54 (by decide) (rf_60) rfl ?_
              refine ji_iload_n dX8_append_50 rfl ?_
              refine ji_iastoreE dX8_append_51 (rf_66) (by omega) (rf_s66) ?_
              refine ji_aload_n dX8_append_52 rfl trivial ?_
              refine ji_dup dX8_append_53 rfl ?_
              refine ji_get (ci := 8) (k := 9) rfl dX8_append_54 lX8_54 (by decide) (rf_60) rfl ?_
              refine ji_iconst dX8_append_57 ?_
              refine ji_iadd dX8_append_58 ?_
              refine ji_putE (ci := 8) (k := 9) rfl dX8_append_59 lX8_54 (by decide) (rf_60) (by simp [rf_c]) (ji_fitI _) rfl (rf_psz) ?_
              refine ji_aload_n dX8_append_62 rfl trivial ?_
              refine ji_get (ci := 8) (k := 9) rfl dX8_append_63 lX8_54 (by decide) (rf_60) rfl ?_
              exact ji_ireturn dX8_append_66 rfl (rfl) ⟨jr_i (by first | rfl | omega), rfl⟩
          · try (exfalso; omega)
            all_goals
              refine ji_iconst dX8_append_40 ?_
              exact ji_ireturn dX8_append_41 rfl (rfl) ⟨jr_i (by first | rfl | omega), rfl⟩
      · try (exfalso; omega)
        all_goals
          refine ji_iconst dX8_append_25 ?_
          refine ji_goto (tgt := 30) dX8_append_26 rfl ?_
          refine ji_putE (ci := 8) (k := 0) rfl dX8_append_30 lX8_47 (by decide) (rf_60) (by simp [rf_c]) (ji_fitI _) rfl (rf_pth) ?_
          refine ji_aload_n dX8_append_33 rfl trivial ?_
          refine ji_get (ci := 8) (k := 0) rfl dX8_append_34 lX8_47 (by decide) (rf_60) rfl ?_
          refine ji_if_le (tgt := 42) dX8_append_37 rfl (by omega) (fun c37 => ?_) (fun c37 => ?_)
          · try (exfalso; omega)
            all_goals
              refine ji_aload_n dX8_append_42 rfl trivial ?_
              refine ji_get (ci := 8) (k := 10) rfl dX8_append_43 lX8_32 (by decide) (rf_60) rfl ?_
              refine ji_aload_n dX8_append_46 rfl trivial ?_
              refine ji_get (ci := 8) (k := 9) rfl dX8_append_47 lX8_54 (by decide) (rf_60) rfl ?_
              refine ji_iload_n dX8_append_50 rfl ?_
              refine ji_iastoreE dX8_append_51 (rf_66) (by omega) (rf_s66) ?_
              refine ji_aload_n dX8_append_52 rfl trivial ?_
              refine ji_dup dX8_append_53 rfl ?_
              refine ji_get (ci := 8) (k := 9) rfl dX8_append_54 lX8_54 (by decide) (rf_60) rfl ?_
              refine ji_iconst dX8_append_57 ?_
              refine ji_iadd dX8_append_58 ?_
              refine ji_putE (ci := 8) (k := 9) rfl dX8_append_59 lX8_54 (by decide) (rf_60) (by simp [rf_c]) (ji_fitI _) rfl (rf_psz) ?_
              refine ji_aload_n dX8_append_62 rfl trivial ?_
              refine ji_get (ci := 8) (k := 9) rfl dX8_append_63 lX8_54 (by decide) (rf_60) rfl ?_
              exact ji_ireturn dX8_append_66 rfl (rfl) ⟨jr_i (by first | rfl | omega), rfl⟩
          · try (exfalso; omega)
            all_goals
              refine ji_iconst dX8_append_40 ?_
              exact ji_ireturn dX8_append_41 rfl (rfl) ⟨jr_i (by first | rfl | omega), rfl⟩
  · try (exfalso; omega)
    all_goals
      refine ji_iconst dX8_append_12 ?_
      refine ji_goto (tgt := 30) dX8_append_13 rfl ?_
      refine ji_putE (ci := 8) (k := 0) rfl dX8_append_30 lX8_47 (by decide) (rf_60) (by simp [rf_c]) (ji_fitI _) rfl (rf_pth) ?_
      refine ji_aload_n dX8_append_33 rfl trivial ?_
      refine ji_get (ci := 8) (k := 0) rfl dX8_append_34 lX8_47 (by decide) (rf_60) rfl ?_
      refine ji_if_le (tgt := 42) dX8_append_37 rfl (by omega) (fun c37 => ?_) (fun c37 => ?_)
      · try (exfalso; omega)
        all_goals
          refine ji_aload_n dX8_append_42 rfl trivial ?_
          refine ji_get (ci := 8) (k := 10) rfl dX8_append_43 lX8_32 (by decide) (rf_60) rfl ?_
          refine ji_aload_n dX8_append_46 rfl trivial ?_
          refine ji_get (ci := 8) (k := 9) rfl dX8_append_47 lX8_54 (by decide) (rf_60) rfl ?_
          refine ji_iload_n dX8_append_50 rfl ?_
          refine ji_iastoreE dX8_append_51 (rf_66) (by omega) (rf_s66) ?_
          refine ji_aload_n dX8_append_52 rfl trivial ?_
          refine ji_dup dX8_append_53 rfl ?_
          refine ji_get (ci := 8) (k := 9) rfl dX8_append_54 lX8_54 (by decide) (rf_60) rfl ?_
          refine ji_iconst dX8_append_57 ?_
          refine ji_iadd dX8_append_58 ?_
          refine ji_putE (ci := 8) (k := 9) rfl dX8_append_59 lX8_54 (by decide) (rf_60) (by simp [rf_c]) (ji_fitI _) rfl (rf_psz) ?_
          refine ji_aload_n dX8_append_62 rfl trivial ?_
          refine ji_get (ci := 8) (k := 9) rfl dX8_append_63 lX8_54 (by decide) (rf_60) rfl ?_
          exact ji_ireturn dX8_append_66 rfl (rfl) ⟨jr_i (by first | rfl | omega), rfl⟩
      · try (exfalso; omega)
        all_goals
          refine ji_iconst dX8_append_40 ?_
          exact ji_ireturn dX8_append_41 rfl (rfl) ⟨jr_i (by first | rfl | omega), rfl⟩

set_option maxHeartbeats 4000000 in
set_option maxRecDepth 100000 in
theorem r_append (hz9 : 0 ≤ sz ∧ sz ≤ 100) {v : Int} (hv : 32 ≤ v ∧ v ≤ 126) (hx : sz < 100) : JR G (d + 1) mX8_append [.ref 60, .int (jI v)] (n, rf_f f th z kp ed nt nl wi ht sy sz bf rs rr rq rp mm ln lo lf lt co ro pg pf hsh) 0 0 (some (.int (jI (sz + 1)))) (n, rf_f f 0 z kp ed nt nl wi ht sy (sz + 1) (va_up bf sz.toNat v) rs rr rq rp mm ln lo lf lt co ro pg pf hsh) := by
  have w_v_32_126 := rf_in_d v 32 126
  refine ji_ent (by decide) rfl (Nat.le_of_ble_eq_true rfl) rfl ?_
  refine ji_aload_n dX8_append_0 rfl trivial ?_
  refine ji_iload_n dX8_append_1 rfl ?_
  refine ji_bipush dX8_append_2 rfl ?_
  refine ji_bipush dX8_append_4 rfl ?_
  refine ji_cS dX8_append_6 (r_within (by omega) (by omega) (by omega)) rfl wX8_within sX8_within lX8_50 rfl (Nat.le_of_ble_eq_true rfl) rfl ?_
  refine ji_if_ne (tgt := 16) dX8_append_9 rfl (by omega) (fun c9 => ?_) (fun c9 => ?_)
  · try (exfalso; omega)
    all_goals
      refine ji_aload_n dX8_append_16 rfl trivial ?_
      refine ji_get (ci := 8) (k := 9) rfl dX8_append_17 lX8_54 (by decide) (rf_60) rfl ?_
      refine ji_bipush dX8_append_20 rfl ?_
      refine ji_icmp_ne (tgt := 29) dX8_append_22 rfl (by omega) (by omega) (fun c22 => ?_) (fun c22 => ?_)
      · try (exfalso; omega)
        all_goals
          refine ji_iconst dX8_append_29 ?_
          refine ji_putE (ci := 8) (k := 0) rfl dX8_append_30 lX8_47 (by decide) (rf_60) (by simp [rf_c]) (ji_fitI _) rfl (rf_pth) ?_
          refine ji_aload_n dX8_append_33 rfl trivial ?_
          refine ji_get (ci := 8) (k := 0) rfl dX8_append_34 lX8_47 (by decide) (rf_60) rfl ?_
          refine ji_if_le (tgt := 42) dX8_append_37 rfl (by omega) (fun c37 => ?_) (fun c37 => ?_)
          · try (exfalso; omega)
            all_goals
              refine ji_aload_n dX8_append_42 rfl trivial ?_
              refine ji_get (ci := 8) (k := 10) rfl dX8_append_43 lX8_32 (by decide) (rf_60) rfl ?_
              refine ji_aload_n dX8_append_46 rfl trivial ?_
              refine ji_get (ci := 8) (k := 9) rfl dX8_append_47 lX8_54 (by decide) (rf_60) rfl ?_
              refine ji_iload_n dX8_append_50 rfl ?_
              refine ji_iastoreE dX8_append_51 (rf_66) (by omega) (rf_s66) ?_
              refine ji_aload_n dX8_append_52 rfl trivial ?_
              refine ji_dup dX8_append_53 rfl ?_
              refine ji_get (ci := 8) (k := 9) rfl dX8_append_54 lX8_54 (by decide) (rf_60) rfl ?_
              refine ji_iconst dX8_append_57 ?_
              refine ji_iadd dX8_append_58 ?_
              refine ji_putE (ci := 8) (k := 9) rfl dX8_append_59 lX8_54 (by decide) (rf_60) (by simp [rf_c]) (ji_fitI _) rfl (rf_psz) ?_
              refine ji_aload_n dX8_append_62 rfl trivial ?_
              refine ji_get (ci := 8) (k := 9) rfl dX8_append_63 lX8_54 (by decide) (rf_60) rfl ?_
              exact ji_ireturn dX8_append_66 rfl (rfl) ⟨jr_i (by first | rfl | omega), rfl⟩
          · try (exfalso; omega)
            all_goals
              refine ji_iconst dX8_append_40 ?_
              exact ji_ireturn dX8_append_41 rfl (rfl) ⟨jr_i (by first | rfl | omega), rfl⟩
      · try (exfalso; omega)
        all_goals
          refine ji_iconst dX8_append_25 ?_
          refine ji_goto (tgt := 30) dX8_append_26 rfl ?_
          refine ji_putE (ci := 8) (k := 0) rfl dX8_append_30 lX8_47 (by decide) (rf_60) (by simp [rf_c]) (ji_fitI _) rfl (rf_pth) ?_
          refine ji_aload_n dX8_append_33 rfl trivial ?_
          refine ji_get (ci := 8) (k := 0) rfl dX8_append_34 lX8_47 (by decide) (rf_60) rfl ?_
          refine ji_if_le (tgt := 42) dX8_append_37 rfl (by omega) (fun c37 => ?_) (fun c37 => ?_)
          · try (exfalso; omega)
            all_goals
              refine ji_aload_n dX8_append_42 rfl trivial ?_
              refine ji_get (ci := 8) (k := 10) rfl dX8_append_43 lX8_32 (by decide) (rf_60) rfl ?_
              refine ji_aload_n dX8_append_46 rfl trivial ?_
              refine ji_get (ci := 8) (k := 9) rfl dX8_append_47 lX8_54 (by decide) (rf_60) rfl ?_
              refine ji_iload_n dX8_append_50 rfl ?_
              refine ji_iastoreE dX8_append_51 (rf_66) (by omega) (rf_s66) ?_
              refine ji_aload_n dX8_append_52 rfl trivial ?_
              refine ji_dup dX8_append_53 rfl ?_
              refine ji_get (ci := 8) (k := 9) rfl dX8_append_54 lX8_54 (by decide) (rf_60) rfl ?_
              refine ji_iconst dX8_append_57 ?_
              refine ji_iadd dX8_append_58 ?_
              refine ji_putE (ci := 8) (k := 9) rfl dX8_append_59 lX8_54 (by decide) (rf_60) (by simp [rf_c]) (ji_fitI _) rfl (rf_psz) ?_
              refine ji_aload_n dX8_append_62 rfl trivial ?_
              refine ji_get (ci := 8) (k := 9) rfl dX8_append_63 lX8_54 (by decide) (rf_60) rfl ?_
              exact ji_ireturn dX8_append_66 rfl (rfl) ⟨jr_i (by first | rfl | omega), rfl⟩
          · try (exfalso; omega)
            all_goals
              refine ji_iconst dX8_append_40 ?_
              exact ji_ireturn dX8_append_41 rfl (rfl) ⟨jr_i (by first | rfl | omega), rfl⟩
  · try (exfalso; omega)
    all_goals
      refine ji_iconst dX8_append_12 ?_
      refine ji_goto (tgt := 30) dX8_append_13 rfl ?_
      refine ji_putE (ci := 8) (k := 0) rfl dX8_append_30 lX8_47 (by decide) (rf_60) (by simp [rf_c]) (ji_fitI _) rfl (rf_pth) ?_
      refine ji_aload_n dX8_append_33 rfl trivial ?_
      refine ji_get (ci := 8) (k := 0) rfl dX8_append_34 lX8_47 (by decide) (rf_60) rfl ?_
      refine ji_if_le (tgt := 42) dX8_append_37 rfl (by omega) (fun c37 => ?_) (fun c37 => ?_)
      · try (exfalso; omega)
        all_goals
          refine ji_aload_n dX8_append_42 rfl trivial ?_
          refine ji_get (ci := 8) (k := 10) rfl dX8_append_43 lX8_32 (by decide) (rf_60) rfl ?_
          refine ji_aload_n dX8_append_46 rfl trivial ?_
          refine ji_get (ci := 8) (k := 9) rfl dX8_append_47 lX8_54 (by decide) (rf_60) rfl ?_
          refine ji_iload_n dX8_append_50 rfl ?_
          refine ji_iastoreE dX8_append_51 (rf_66) (by omega) (rf_s66) ?_
          refine ji_aload_n dX8_append_52 rfl trivial ?_
          refine ji_dup dX8_append_53 rfl ?_
          refine ji_get (ci := 8) (k := 9) rfl dX8_append_54 lX8_54 (by decide) (rf_60) rfl ?_
          refine ji_iconst dX8_append_57 ?_
          refine ji_iadd dX8_append_58 ?_
          refine ji_putE (ci := 8) (k := 9) rfl dX8_append_59 lX8_54 (by decide) (rf_60) (by simp [rf_c]) (ji_fitI _) rfl (rf_psz) ?_
          refine ji_aload_n dX8_append_62 rfl trivial ?_
          refine ji_get (ci := 8) (k := 9) rfl dX8_append_63 lX8_54 (by decide) (rf_60) rfl ?_
          exact ji_ireturn dX8_append_66 rfl (rfl) ⟨jr_i (by first | rfl | omega), rfl⟩
      · try (exfalso; omega)
        all_goals
          refine ji_iconst dX8_append_40 ?_
          exact ji_ireturn dX8_append_41 rfl (rfl) ⟨jr_i (by first | rfl | omega), rfl⟩

set_option maxHeartbeats 4000000 in
set_option maxRecDepth 100000 in
theorem r_thrown  : JR G d mX8_thrown [.ref 60] (n, rf_f f th z kp ed nt nl wi ht sy sz bf rs rr rq rp mm ln lo lf lt co ro pg pf hsh) 0 0 (some (.int (jI th))) (n, rf_f f th z kp ed nt nl wi ht sy sz bf rs rr rq rp mm ln lo lf lt co ro pg pf hsh) := by
  refine ji_ent (by decide) rfl (Nat.le_of_ble_eq_true rfl) rfl ?_
  refine ji_aload_n dX8_thrown_0 rfl trivial ?_
  refine ji_get (ci := 8) (k := 0) rfl dX8_thrown_1 lX8_47 (by decide) (rf_60) rfl ?_
  exact ji_ireturn dX8_thrown_4 rfl (rfl) ⟨jr_i (by first | rfl | omega), rfl⟩

set_option maxHeartbeats 4000000 in
set_option maxRecDepth 100000 in
theorem r_clearInput  : JR G d mX8_clearInput [.ref 60] (n, rf_f f th z kp ed nt nl wi ht sy sz bf rs rr rq rp mm ln lo lf lt co ro pg pf hsh) 0 0 (some (.int (jI sz))) (n, rf_f f 0 z kp ed nt nl wi ht sy 0 bf rs rr rq rp mm ln lo lf lt co ro pg pf hsh) := by
  refine ji_ent (by decide) rfl (Nat.le_of_ble_eq_true rfl) rfl ?_
  refine ji_aload_n dX8_clearInput_0 rfl trivial ?_
  refine ji_iconst dX8_clearInput_1 ?_
  refine ji_putE (ci := 8) (k := 0) rfl dX8_clearInput_2 lX8_47 (by decide) (rf_60) (by simp [rf_c]) (ji_fitI _) rfl (rf_pth) ?_
  refine ji_aload_n dX8_clearInput_5 rfl trivial ?_
  refine ji_get (ci := 8) (k := 9) rfl dX8_clearInput_6 lX8_54 (by decide) (rf_60) rfl ?_
  refine ji_istore_n dX8_clearInput_9 (by decide) rfl ?_
  refine ji_aload_n dX8_clearInput_10 rfl trivial ?_
  refine ji_iconst dX8_clearInput_11 ?_
  refine ji_putE (ci := 8) (k := 9) rfl dX8_clearInput_12 lX8_54 (by decide) (rf_60) (by simp [rf_c]) (ji_fitI _) rfl (rf_psz) ?_
  refine ji_iload_n dX8_clearInput_15 rfl ?_
  exact ji_ireturn dX8_clearInput_16 rfl (rfl) ⟨jr_i (by first | rfl | omega), rfl⟩

set_option maxHeartbeats 4000000 in
set_option maxRecDepth 100000 in
theorem r_firstError {b : Int} (hb : b = 0 ∨ b = 1) (hz : 0 ≤ sz ∧ sz ≤ 100) (hbf : ∀ k, 0 ≤ bf k ∧ bf k < 128) : JR G (d + 5) mX8_firstError [.ref 60, .int (jI b)] (n, rf_f f th z kp ed nt nl wi ht sy sz bf rs rr rq rp mm ln lo lf lt co ro pg pf hsh) 0 0 (some (.int (jI ((rf_RL sz bf b).1)))) (n, rf_f f 0 z kp ed nt nl wi ht sy sz bf ((rf_RL sz bf b).2.1) ((rf_RL sz bf b).2.2.1) ((rf_RL sz bf b).2.2.2.1) ((rf_RL sz bf b).2.2.2.2.1) ((rf_RL sz bf b).2.2.2.2.2) ln lo lf lt co ro pg pf hsh) := by
  refine ji_ent (by decide) rfl (Nat.le_of_ble_eq_true rfl) rfl ?_
  refine ji_aload_n dX8_firstError_0 rfl trivial ?_
  refine ji_iconst dX8_firstError_1 ?_
  refine ji_putE (ci := 8) (k := 0) rfl dX8_firstError_2 lX8_47 (by decide) (rf_60) (by simp [rf_c]) (ji_fitI _) rfl (rf_pth) ?_
  refine ji_aload_n dX8_firstError_5 rfl trivial ?_
  refine ji_iload_n dX8_firstError_6 rfl ?_
  refine ji_cV dX8_firstError_7 (r_rightLength hb hz hbf) rfl (rf_60) rfl rfl wX8_rightLength vX8_rightLength lX8_92 rfl (Nat.le_of_ble_eq_true rfl) rfl ?_
  exact ji_ireturn dX8_firstError_10 rfl (rfl) ⟨jr_i (by first | rfl | omega), rfl⟩

set_option maxHeartbeats 4000000 in
set_option maxRecDepth 100000 in
theorem r_layBook_a {bc bs : Nat} {Q : ji_R → ji_H → Prop} (kk : JW G d mX8_layBook 21 [some (.ref 60), some (.int (jI 95)), none, none] [] (n, rf_f f th (ji_map (fun _ => 0) z 95) kp ed nt nl wi ht sy sz bf rs rr rq rp mm ln lo lf lt co ro pg pf hsh) bc bs Q) : ∀ (u : Nat) (i : Int), 0 ≤ i ∧ i + u = 95 →
    JW G d mX8_layBook 2 [some (.ref 60), some (.int (jI i)), none, none] [] (n, rf_f f th (ji_map (fun _ => 0) z i) kp ed nt nl wi ht sy sz bf rs rr rq rp mm ln lo lf lt co ro pg pf hsh) bc bs Q := by
  intro u
  induction u with
  | zero =>
    intro i hi
    have e1 : i = 95 := by omega
    subst e1
    refine ji_iload_n dX8_layBook_2 rfl ?_
    refine ji_bipush dX8_layBook_3 rfl ?_
    refine ji_icmp_ge (tgt := 21) dX8_layBook_5 rfl (by omega) (by omega) (fun c5 => ?_) (fun c5 => absurd c5 (by omega))
    exact kk
  | succ u ih =>
    intro i hi
    refine ji_iload_n dX8_layBook_2 rfl ?_
    refine ji_bipush dX8_layBook_3 rfl ?_
    refine ji_icmp_ge (tgt := 21) dX8_layBook_5 rfl (by omega) (by omega) (fun c5 => absurd c5 (by omega)) (fun c5 => ?_)
    refine ji_aload_n dX8_layBook_8 rfl trivial ?_
    refine ji_get (ci := 8) (k := 1) rfl dX8_layBook_9 lX8_7 (by decide) (rf_60) rfl ?_
    refine ji_iload_n dX8_layBook_12 rfl ?_
    refine ji_iconst dX8_layBook_13 ?_
    refine ji_iastoreE dX8_layBook_14 (rf_61) (by omega) (rf_s61) ?_
    refine ji_iinc dX8_layBook_15 (by decide) rfl rfl ?_
    refine ji_goto (tgt := 2) dX8_layBook_18 rfl ?_
    exact ji_eqv (ih (i + 1) (by omega)) rfl rfl (by rw [ji_map_s hi.1 rfl])

set_option maxHeartbeats 4000000 in
set_option maxRecDepth 100000 in
theorem r_layBook_b {bc bs : Nat} {z0 : Nat → Int} (hz9 : 0 ≤ sz ∧ sz ≤ 100) (hbf : ∀ k, 0 ≤ bf k ∧ bf k < 128) (hB : ∀ i : Nat, (i : Int) ≤ sz → (1 ≤ rf_lb z0 bf i 0 ∧ rf_lb z0 bf i 0 ≤ 10) ∧ ∀ j, 85 ≤ j → j < 95 → 0 ≤ rf_lb z0 bf i j ∧ rf_lb z0 bf i j ≤ i) : ∀ (u : Nat) (i : Int) (o2 o3 : Option Value), 0 ≤ i ∧ i + u = sz →
    JW G d mX8_layBook 30 [some (.ref 60), some (.int (jI i)), o2, o3] [] (n, rf_f f th (rf_lb z0 bf i.toNat) kp ed nt nl wi ht sy sz bf rs rr rq rp mm ln lo lf lt co ro pg pf hsh) bc bs (fun r9 h9 => r9 = .inl none ∧ h9 = (n, rf_f f th (rf_lb z0 bf sz.toNat) kp ed nt nl wi ht sy sz bf rs rr rq rp mm ln lo lf lt co ro pg pf hsh)) := by
  intro u
  induction u with
  | zero =>
    intro i o2 o3 hi
    refine ji_iload_n dX8_layBook_30 rfl ?_
    refine ji_aload_n dX8_layBook_31 rfl trivial ?_
    refine ji_get (ci := 8) (k := 9) rfl dX8_layBook_32 lX8_54 (by decide) (rf_60) rfl ?_
    refine ji_icmp_ge (tgt := 151) dX8_layBook_35 rfl (by omega) (by omega) (fun c35 => ?_) (fun c35 => absurd c35 (by omega))
    exact ji_return dX8_layBook_151 rfl ⟨rfl, by rw [show i = sz by omega]⟩
  | succ u ih =>
    intro i o2 o3 hi
    obtain ⟨b1, b2⟩ := hB i.toNat (by omega)
    have b3 := b2 (85 + (rf_lb z0 bf i.toNat 0 - 1)).toNat (by omega) (by omega)
    have b4 := hbf i.toNat
    have e1 : (i + 1).toNat = i.toNat + 1 := by omega
    refine ji_iload_n dX8_layBook_30 rfl ?_
    refine ji_aload_n dX8_layBook_31 rfl trivial ?_
    refine ji_get (ci := 8) (k := 9) rfl dX8_layBook_32 lX8_54 (by decide) (rf_60) rfl ?_
    refine ji_icmp_ge (tgt := 151) dX8_layBook_35 rfl (by omega) (by omega) (fun c35 => absurd c35 (by omega)) (fun c35 => ?_)
    refine ji_aload_n dX8_layBook_38 rfl trivial ?_
    refine ji_get (ci := 8) (k := 1) rfl dX8_layBook_39 lX8_7 (by decide) (rf_60) rfl ?_
    refine ji_iconst dX8_layBook_42 ?_
    refine ji_ialoadK (k := 0) dX8_layBook_43 (rf_61) rfl (by decide) ?_
    refine ji_iconst dX8_layBook_44 ?_
    refine ji_isub dX8_layBook_45 ?_
    refine ji_istore_n dX8_layBook_46 (by decide) rfl ?_
    refine ji_aload_n dX8_layBook_47 rfl trivial ?_
    refine ji_get (ci := 8) (k := 10) rfl dX8_layBook_48 lX8_32 (by decide) (rf_60) rfl ?_
    refine ji_iload_n dX8_layBook_51 rfl ?_
    refine ji_iaload dX8_layBook_52 (rf_66) (by omega) ?_
    refine ji_istore_n dX8_layBook_53 (by decide) rfl ?_
    refine ji_iload_n dX8_layBook_54 rfl ?_
    refine ji_bipush dX8_layBook_55 rfl ?_
    refine ji_icmp_ne (tgt := 73) dX8_layBook_57 rfl (by omega) (by omega) (fun c57 => ?_) (fun c57 => ?_)
    · try (exfalso; omega)
      all_goals
        refine ji_iload_n dX8_layBook_73 rfl ?_
        refine ji_bipush dX8_layBook_74 rfl ?_
        refine ji_icmp_eq (tgt := 85) dX8_layBook_76 rfl (by omega) (by omega) (fun c76 => ?_) (fun c76 => ?_)
        · try (exfalso; omega)
          all_goals
            refine ji_aload_n dX8_layBook_85 rfl trivial ?_
            refine ji_get (ci := 8) (k := 1) rfl dX8_layBook_86 lX8_7 (by decide) (rf_60) rfl ?_
            refine ji_bipush dX8_layBook_89 rfl ?_
            refine ji_iload_n dX8_layBook_91 rfl ?_
            refine ji_iadd dX8_layBook_92 ?_
            refine ji_iload_n dX8_layBook_93 rfl ?_
            refine ji_bipush dX8_layBook_94 rfl ?_
            refine ji_icmp_ne (tgt := 103) dX8_layBook_96 rfl (by omega) (by omega) (fun c96 => ?_) (fun c96 => ?_)
            · try (exfalso; omega)
              all_goals
                refine ji_iconst dX8_layBook_103 ?_
                refine ji_iastoreE dX8_layBook_104 (rf_61) (by omega) (rf_s61) ?_
                refine ji_goto (tgt := 145) dX8_layBook_105 rfl ?_
                refine ji_iinc dX8_layBook_145 (by decide) rfl rfl ?_
                refine ji_goto (tgt := 30) dX8_layBook_148 rfl ?_
                exact ji_eqv (ih (i + 1) _ _ (by omega)) rfl rfl (by rw [e1, rf_lb]; unfold rf_lb1; first | (rw [if_pos (by omega)]; done) | (rw [if_neg (by omega), if_pos (by omega), if_pos (by omega)]; done) | (rw [if_neg (by omega), if_pos (by omega), if_neg (by omega)]; done) | (rw [if_neg (by omega), if_neg (by omega)]; done))
            · try (exfalso; omega)
              all_goals
                refine ji_iconst dX8_layBook_99 ?_
                refine ji_goto (tgt := 104) dX8_layBook_100 rfl ?_
                refine ji_iastoreE dX8_layBook_104 (rf_61) (by omega) (rf_s61) ?_
                refine ji_goto (tgt := 145) dX8_layBook_105 rfl ?_
                refine ji_iinc dX8_layBook_145 (by decide) rfl rfl ?_
                refine ji_goto (tgt := 30) dX8_layBook_148 rfl ?_
                exact ji_eqv (ih (i + 1) _ _ (by omega)) rfl rfl (by rw [e1, rf_lb]; unfold rf_lb1; first | (rw [if_pos (by omega)]; done) | (rw [if_neg (by omega), if_pos (by omega), if_pos (by omega)]; done) | (rw [if_neg (by omega), if_pos (by omega), if_neg (by omega)]; done) | (rw [if_neg (by omega), if_neg (by omega)]; done))
        · try (exfalso; omega)
          all_goals
            refine ji_iload_n dX8_layBook_79 rfl ?_
            refine ji_bipush dX8_layBook_80 rfl ?_
            refine ji_icmp_ne (tgt := 108) dX8_layBook_82 rfl (by omega) (by omega) (fun c82 => ?_) (fun c82 => ?_)
            · try (exfalso; omega)
              all_goals
                refine ji_aload_n dX8_layBook_108 rfl trivial ?_
                refine ji_get (ci := 8) (k := 1) rfl dX8_layBook_109 lX8_7 (by decide) (rf_60) rfl ?_
                refine ji_bipush dX8_layBook_112 rfl ?_
                refine ji_sipush dX8_layBook_114 rfl ?_
                refine ji_iload_n dX8_layBook_117 rfl ?_
                refine ji_imul dX8_layBook_118 ?_
                refine ji_iadd dX8_layBook_119 ?_
                refine ji_aload_n dX8_layBook_120 rfl trivial ?_
                refine ji_get (ci := 8) (k := 1) rfl dX8_layBook_121 lX8_7 (by decide) (rf_60) rfl ?_
                refine ji_bipush dX8_layBook_124 rfl ?_
                refine ji_iload_n dX8_layBook_126 rfl ?_
                refine ji_iadd dX8_layBook_127 ?_
                refine ji_iaload dX8_layBook_128 (rf_61) (by omega) ?_
                refine ji_iadd dX8_layBook_129 ?_
                refine ji_iload_n dX8_layBook_130 rfl ?_
                refine ji_iastoreE dX8_layBook_131 (rf_61) (by omega) (rf_s61) ?_
                refine ji_aload_n dX8_layBook_132 rfl trivial ?_
                refine ji_get (ci := 8) (k := 1) rfl dX8_layBook_133 lX8_7 (by decide) (rf_60) rfl ?_
                refine ji_bipush dX8_layBook_136 rfl ?_
                refine ji_iload_n dX8_layBook_138 rfl ?_
                refine ji_iadd dX8_layBook_139 ?_
                refine ji_dup2 dX8_layBook_140 rfl rfl ?_
                refine ji_iaload dX8_layBook_141 (rf_61) (by omega) ?_
                refine ji_iconst dX8_layBook_142 ?_
                refine ji_iadd dX8_layBook_143 ?_
                refine ji_iastoreE dX8_layBook_144 (rf_61) (by omega) (rf_s61) ?_
                refine ji_iinc dX8_layBook_145 (by decide) rfl rfl ?_
                refine ji_goto (tgt := 30) dX8_layBook_148 rfl ?_
                exact ji_eqv (ih (i + 1) _ _ (by omega)) rfl rfl (by rw [e1, rf_lb]; unfold rf_lb1; first | (rw [if_pos (by omega)]; done) | (rw [if_neg (by omega), if_pos (by omega), if_pos (by omega)]; done) | (rw [if_neg (by omega), if_pos (by omega), if_neg (by omega)]; done) | (rw [if_neg (by omega), if_neg (by omega)]; done))
            · try (exfalso; omega)
              all_goals
                refine ji_aload_n dX8_layBook_85 rfl trivial ?_
                refine ji_get (ci := 8) (k := 1) rfl dX8_layBook_86 lX8_7 (by decide) (rf_60) rfl ?_
                refine ji_bipush dX8_layBook_89 rfl ?_
                refine ji_iload_n dX8_layBook_91 rfl ?_
                refine ji_iadd dX8_layBook_92 ?_
                refine ji_iload_n dX8_layBook_93 rfl ?_
                refine ji_bipush dX8_layBook_94 rfl ?_
                refine ji_icmp_ne (tgt := 103) dX8_layBook_96 rfl (by omega) (by omega) (fun c96 => ?_) (fun c96 => ?_)
                · try (exfalso; omega)
                  all_goals
                    refine ji_iconst dX8_layBook_103 ?_
                    refine ji_iastoreE dX8_layBook_104 (rf_61) (by omega) (rf_s61) ?_
                    refine ji_goto (tgt := 145) dX8_layBook_105 rfl ?_
                    refine ji_iinc dX8_layBook_145 (by decide) rfl rfl ?_
                    refine ji_goto (tgt := 30) dX8_layBook_148 rfl ?_
                    exact ji_eqv (ih (i + 1) _ _ (by omega)) rfl rfl (by rw [e1, rf_lb]; unfold rf_lb1; first | (rw [if_pos (by omega)]; done) | (rw [if_neg (by omega), if_pos (by omega), if_pos (by omega)]; done) | (rw [if_neg (by omega), if_pos (by omega), if_neg (by omega)]; done) | (rw [if_neg (by omega), if_neg (by omega)]; done))
                · try (exfalso; omega)
                  all_goals
                    refine ji_iconst dX8_layBook_99 ?_
                    refine ji_goto (tgt := 104) dX8_layBook_100 rfl ?_
                    refine ji_iastoreE dX8_layBook_104 (rf_61) (by omega) (rf_s61) ?_
                    refine ji_goto (tgt := 145) dX8_layBook_105 rfl ?_
                    refine ji_iinc dX8_layBook_145 (by decide) rfl rfl ?_
                    refine ji_goto (tgt := 30) dX8_layBook_148 rfl ?_
                    exact ji_eqv (ih (i + 1) _ _ (by omega)) rfl rfl (by rw [e1, rf_lb]; unfold rf_lb1; first | (rw [if_pos (by omega)]; done) | (rw [if_neg (by omega), if_pos (by omega), if_pos (by omega)]; done) | (rw [if_neg (by omega), if_pos (by omega), if_neg (by omega)]; done) | (rw [if_neg (by omega), if_neg (by omega)]; done))
    · try (exfalso; omega)
      all_goals
        refine ji_aload_n dX8_layBook_60 rfl trivial ?_
        refine ji_get (ci := 8) (k := 1) rfl dX8_layBook_61 lX8_7 (by decide) (rf_60) rfl ?_
        refine ji_iconst dX8_layBook_64 ?_
        refine ji_dup2 dX8_layBook_65 rfl rfl ?_
        refine ji_ialoadK (k := 0) dX8_layBook_66 (rf_61) rfl (by decide) ?_
        refine ji_iconst dX8_layBook_67 ?_
        refine ji_iadd dX8_layBook_68 ?_
        refine ji_iastoreK (k := 0) dX8_layBook_69 (rf_61) rfl (by decide) (rf_s61) ?_
        refine ji_goto (tgt := 145) dX8_layBook_70 rfl ?_
        refine ji_iinc dX8_layBook_145 (by decide) rfl rfl ?_
        refine ji_goto (tgt := 30) dX8_layBook_148 rfl ?_
        exact ji_eqv (ih (i + 1) _ _ (by omega)) rfl rfl (by rw [e1, rf_lb]; unfold rf_lb1; first | (rw [if_pos (by omega)]; done) | (rw [if_neg (by omega), if_pos (by omega), if_pos (by omega)]; done) | (rw [if_neg (by omega), if_pos (by omega), if_neg (by omega)]; done) | (rw [if_neg (by omega), if_neg (by omega)]; done))

set_option maxHeartbeats 4000000 in
set_option maxRecDepth 100000 in
theorem r_layBook (hz9 : 0 ≤ sz ∧ sz ≤ 100) (hbf : ∀ k, 0 ≤ bf k ∧ bf k < 128) (hp9 : ∀ i : Nat, (i : Int) ≤ sz → in_tm bf 124 i ≤ 9) : JR G d mX8_layBook [.ref 60] (n, rf_f f th z kp ed nt nl wi ht sy sz bf rs rr rq rp mm ln lo lf lt co ro pg pf hsh) 0 0 none (n, rf_f f th (rf_lb (rf_lb0 z) bf sz.toNat) kp ed nt nl wi ht sy sz bf rs rr rq rp mm ln lo lf lt co ro pg pf hsh) := by
  refine ji_ent (by decide) rfl (Nat.le_of_ble_eq_true rfl) rfl ?_
  refine ji_iconst dX8_layBook_0 ?_
  refine ji_istore_n dX8_layBook_1 (by decide) rfl ?_
  refine ji_eqv (h2 := (n, rf_f f th (ji_map (fun _ => 0) z 0) kp ed nt nl wi ht sy sz bf rs rr rq rp mm ln lo lf lt co ro pg pf hsh)) (r_layBook_a ?_ 95 0 (by omega)) rfl rfl (by rw [ji_map_0])
  refine ji_aload_n dX8_layBook_21 rfl trivial ?_
  refine ji_get (ci := 8) (k := 1) rfl dX8_layBook_22 lX8_7 (by decide) (rf_60) rfl ?_
  refine ji_iconst dX8_layBook_25 ?_
  refine ji_iconst dX8_layBook_26 ?_
  refine ji_iastoreK (k := 0) dX8_layBook_27 (rf_61) rfl (by decide) (rf_s61) ?_
  refine ji_iconst dX8_layBook_28 ?_
  refine ji_istore_n dX8_layBook_29 (by decide) rfl ?_
  exact r_layBook_b (z0 := rf_lb0 z) hz9 hbf (fun i hi => by have h1 := rf_lb_b (z := z) i (hp9 i hi); have h2 := in_tm_b bf 124 i; have h3 := hp9 i hi; exact ⟨by omega, h1.2⟩) sz.toNat 0 _ _ (by omega)

set_option maxHeartbeats 4000000 in
set_option maxRecDepth 100000 in
theorem r_load1 (hz9 : 0 ≤ sz ∧ sz ≤ 100) (hbf : ∀ k, 0 ≤ bf k ∧ bf k < 128) (hx : rf_TX sz bf 1 = 0) : JR G (d + 6) mX8_load [.ref 60] (n, rf_f f th z kp ed nt nl wi ht sy sz bf rs rr rq rp mm ln lo lf lt co ro pg pf hsh) 0 0 (some (.int (jI 0))) (n, rf_f f 1 z kp ed nt nl wi ht sy sz bf ((rf_RL sz bf 1).2.1) ((rf_RL sz bf 1).2.2.1) ((rf_RL sz bf 1).2.2.2.1) ((rf_RL sz bf 1).2.2.2.2.1) ((rf_RL sz bf 1).2.2.2.2.2) ln lo lf lt co ro pg pf hsh) := by
  refine ji_ent (by decide) rfl (Nat.le_of_ble_eq_true rfl) rfl ?_
  refine ji_aload_n dX8_load_0 rfl trivial ?_
  refine ji_aload_n dX8_load_1 rfl trivial ?_
  refine ji_iconst dX8_load_2 ?_
  refine ji_cV dX8_load_3 (r_isText (b := 1) (by omega) hz9 hbf) rfl (rf_60) rfl rfl wX8_isText vX8_isText lX8_96 rfl (Nat.le_of_ble_eq_true rfl) rfl ?_
  refine ji_if_eq (tgt := 13) dX8_load_6 rfl (by omega) (fun c6 => ?_) (fun c6 => ?_)
  · try (exfalso; omega)
    all_goals
      refine ji_iconst dX8_load_13 ?_
      refine ji_putE (ci := 8) (k := 0) rfl dX8_load_14 lX8_47 (by decide) (rf_60) (by simp [rf_c]) (ji_fitI _) rfl (rf_pth) ?_
      refine ji_aload_n dX8_load_17 rfl trivial ?_
      refine ji_get (ci := 8) (k := 0) rfl dX8_load_18 lX8_47 (by decide) (rf_60) rfl ?_
      refine ji_if_le (tgt := 26) dX8_load_21 rfl (by omega) (fun c21 => ?_) (fun c21 => ?_)
      · try (exfalso; omega)
        all_goals
          refine ji_aload_n dX8_load_26 rfl trivial ?_
          refine ji_cVv dX8_load_27 (r_layBook hz9 hbf hp9) rfl (rf_60) rfl rfl wX8_layBook vX8_layBook lX8_99 rfl (Nat.le_of_ble_eq_true rfl) rfl ?_
          refine ji_aload_n dX8_load_30 rfl trivial ?_
          refine ji_iconst dX8_load_31 ?_
          refine ji_putE (ci := 8) (k := 3) rfl dX8_load_32 lX8_102 (by decide) (rf_60) (by simp [rf_c]) (ji_fitI _) rfl (rf_ped) ?_
          refine ji_aload_n dX8_load_35 rfl trivial ?_
          refine ji_iconst dX8_load_36 ?_
          refine ji_putE (ci := 8) (k := 9) rfl dX8_load_37 lX8_54 (by decide) (rf_60) (by simp [rf_c]) (ji_fitI _) rfl (rf_psz) ?_
          refine ji_aload_n dX8_load_40 rfl trivial ?_
          refine ji_get (ci := 8) (k := 1) rfl dX8_load_41 lX8_7 (by decide) (rf_60) rfl ?_
          refine ji_iconst dX8_load_44 ?_
          refine ji_ialoadK (k := 0) dX8_load_45 (rf_61) rfl (by decide) ?_
          exact ji_ireturn dX8_load_46 rfl (rfl) ⟨jr_i (by first | rfl | omega), rfl⟩
      · try (exfalso; omega)
        all_goals
          refine ji_iconst dX8_load_24 ?_
          exact ji_ireturn dX8_load_25 rfl (rfl) ⟨jr_i (by first | rfl | omega), rfl⟩
  · try (exfalso; omega)
    all_goals
      refine ji_iconst dX8_load_9 ?_
      refine ji_goto (tgt := 14) dX8_load_10 rfl ?_
      refine ji_putE (ci := 8) (k := 0) rfl dX8_load_14 lX8_47 (by decide) (rf_60) (by simp [rf_c]) (ji_fitI _) rfl (rf_pth) ?_
      refine ji_aload_n dX8_load_17 rfl trivial ?_
      refine ji_get (ci := 8) (k := 0) rfl dX8_load_18 lX8_47 (by decide) (rf_60) rfl ?_
      refine ji_if_le (tgt := 26) dX8_load_21 rfl (by omega) (fun c21 => ?_) (fun c21 => ?_)
      · try (exfalso; omega)
        all_goals
          refine ji_aload_n dX8_load_26 rfl trivial ?_
          refine ji_cVv dX8_load_27 (r_layBook hz9 hbf hp9) rfl (rf_60) rfl rfl wX8_layBook vX8_layBook lX8_99 rfl (Nat.le_of_ble_eq_true rfl) rfl ?_
          refine ji_aload_n dX8_load_30 rfl trivial ?_
          refine ji_iconst dX8_load_31 ?_
          refine ji_putE (ci := 8) (k := 3) rfl dX8_load_32 lX8_102 (by decide) (rf_60) (by simp [rf_c]) (ji_fitI _) rfl (rf_ped) ?_
          refine ji_aload_n dX8_load_35 rfl trivial ?_
          refine ji_iconst dX8_load_36 ?_
          refine ji_putE (ci := 8) (k := 9) rfl dX8_load_37 lX8_54 (by decide) (rf_60) (by simp [rf_c]) (ji_fitI _) rfl (rf_psz) ?_
          refine ji_aload_n dX8_load_40 rfl trivial ?_
          refine ji_get (ci := 8) (k := 1) rfl dX8_load_41 lX8_7 (by decide) (rf_60) rfl ?_
          refine ji_iconst dX8_load_44 ?_
          refine ji_ialoadK (k := 0) dX8_load_45 (rf_61) rfl (by decide) ?_
          exact ji_ireturn dX8_load_46 rfl (rfl) ⟨jr_i (by first | rfl | omega), rfl⟩
      · try (exfalso; omega)
        all_goals
          refine ji_iconst dX8_load_24 ?_
          exact ji_ireturn dX8_load_25 rfl (rfl) ⟨jr_i (by first | rfl | omega), rfl⟩

set_option maxHeartbeats 4000000 in
set_option maxRecDepth 100000 in
theorem r_load (hz9 : 0 ≤ sz ∧ sz ≤ 100) (hbf : ∀ k, 0 ≤ bf k ∧ bf k < 128) (hx : rf_TX sz bf 1 = 1) (hp9 : ∀ i : Nat, (i : Int) ≤ sz → in_tm bf 124 i ≤ 9) : JR G (d + 6) mX8_load [.ref 60] (n, rf_f f th z kp ed nt nl wi ht sy sz bf rs rr rq rp mm ln lo lf lt co ro pg pf hsh) 0 0 (some (.int (jI ((rf_lb (rf_lb0 z) bf sz.toNat) 0)))) (n, rf_f f 0 (rf_lb (rf_lb0 z) bf sz.toNat) kp 0 nt nl wi ht sy 0 bf ((rf_RL sz bf 1).2.1) ((rf_RL sz bf 1).2.2.1) ((rf_RL sz bf 1).2.2.2.1) ((rf_RL sz bf 1).2.2.2.2.1) ((rf_RL sz bf 1).2.2.2.2.2) ln lo lf lt co ro pg pf hsh) := by
  refine ji_ent (by decide) rfl (Nat.le_of_ble_eq_true rfl) rfl ?_
  refine ji_aload_n dX8_load_0 rfl trivial ?_
  refine ji_aload_n dX8_load_1 rfl trivial ?_
  refine ji_iconst dX8_load_2 ?_
  refine ji_cV dX8_load_3 (r_isText (b := 1) (by omega) hz9 hbf) rfl (rf_60) rfl rfl wX8_isText vX8_isText lX8_96 rfl (Nat.le_of_ble_eq_true rfl) rfl ?_
  refine ji_if_eq (tgt := 13) dX8_load_6 rfl (by omega) (fun c6 => ?_) (fun c6 => ?_)
  · try (exfalso; omega)
    all_goals
      refine ji_iconst dX8_load_13 ?_
      refine ji_putE (ci := 8) (k := 0) rfl dX8_load_14 lX8_47 (by decide) (rf_60) (by simp [rf_c]) (ji_fitI _) rfl (rf_pth) ?_
      refine ji_aload_n dX8_load_17 rfl trivial ?_
      refine ji_get (ci := 8) (k := 0) rfl dX8_load_18 lX8_47 (by decide) (rf_60) rfl ?_
      refine ji_if_le (tgt := 26) dX8_load_21 rfl (by omega) (fun c21 => ?_) (fun c21 => ?_)
      · try (exfalso; omega)
        all_goals
          refine ji_aload_n dX8_load_26 rfl trivial ?_
          refine ji_cVv dX8_load_27 (r_layBook hz9 hbf hp9) rfl (rf_60) rfl rfl wX8_layBook vX8_layBook lX8_99 rfl (Nat.le_of_ble_eq_true rfl) rfl ?_
          refine ji_aload_n dX8_load_30 rfl trivial ?_
          refine ji_iconst dX8_load_31 ?_
          refine ji_putE (ci := 8) (k := 3) rfl dX8_load_32 lX8_102 (by decide) (rf_60) (by simp [rf_c]) (ji_fitI _) rfl (rf_ped) ?_
          refine ji_aload_n dX8_load_35 rfl trivial ?_
          refine ji_iconst dX8_load_36 ?_
          refine ji_putE (ci := 8) (k := 9) rfl dX8_load_37 lX8_54 (by decide) (rf_60) (by simp [rf_c]) (ji_fitI _) rfl (rf_psz) ?_
          refine ji_aload_n dX8_load_40 rfl trivial ?_
          refine ji_get (ci := 8) (k := 1) rfl dX8_load_41 lX8_7 (by decide) (rf_60) rfl ?_
          refine ji_iconst dX8_load_44 ?_
          refine ji_ialoadK (k := 0) dX8_load_45 (rf_61) rfl (by decide) ?_
          exact ji_ireturn dX8_load_46 rfl (rfl) ⟨jr_i (by first | rfl | omega), rfl⟩
      · try (exfalso; omega)
        all_goals
          refine ji_iconst dX8_load_24 ?_
          exact ji_ireturn dX8_load_25 rfl (rfl) ⟨jr_i (by first | rfl | omega), rfl⟩
  · try (exfalso; omega)
    all_goals
      refine ji_iconst dX8_load_9 ?_
      refine ji_goto (tgt := 14) dX8_load_10 rfl ?_
      refine ji_putE (ci := 8) (k := 0) rfl dX8_load_14 lX8_47 (by decide) (rf_60) (by simp [rf_c]) (ji_fitI _) rfl (rf_pth) ?_
      refine ji_aload_n dX8_load_17 rfl trivial ?_
      refine ji_get (ci := 8) (k := 0) rfl dX8_load_18 lX8_47 (by decide) (rf_60) rfl ?_
      refine ji_if_le (tgt := 26) dX8_load_21 rfl (by omega) (fun c21 => ?_) (fun c21 => ?_)
      · try (exfalso; omega)
        all_goals
          refine ji_aload_n dX8_load_26 rfl trivial ?_
          refine ji_cVv dX8_load_27 (r_layBook hz9 hbf hp9) rfl (rf_60) rfl rfl wX8_layBook vX8_layBook lX8_99 rfl (Nat.le_of_ble_eq_true rfl) rfl ?_
          refine ji_aload_n dX8_load_30 rfl trivial ?_
          refine ji_iconst dX8_load_31 ?_
          refine ji_putE (ci := 8) (k := 3) rfl dX8_load_32 lX8_102 (by decide) (rf_60) (by simp [rf_c]) (ji_fitI _) rfl (rf_ped) ?_
          refine ji_aload_n dX8_load_35 rfl trivial ?_
          refine ji_iconst dX8_load_36 ?_
          refine ji_putE (ci := 8) (k := 9) rfl dX8_load_37 lX8_54 (by decide) (rf_60) (by simp [rf_c]) (ji_fitI _) rfl (rf_psz) ?_
          refine ji_aload_n dX8_load_40 rfl trivial ?_
          refine ji_get (ci := 8) (k := 1) rfl dX8_load_41 lX8_7 (by decide) (rf_60) rfl ?_
          refine ji_iconst dX8_load_44 ?_
          refine ji_ialoadK (k := 0) dX8_load_45 (rf_61) rfl (by decide) ?_
          exact ji_ireturn dX8_load_46 rfl (rfl) ⟨jr_i (by first | rfl | omega), rfl⟩
      · try (exfalso; omega)
        all_goals
          refine ji_iconst dX8_load_24 ?_
          exact ji_ireturn dX8_load_25 rfl (rfl) ⟨jr_i (by first | rfl | omega), rfl⟩

set_option maxHeartbeats 4000000 in
set_option maxRecDepth 100000 in
theorem r_setNote1 {k : Int} (b_k : -2147483648 ≤ k ∧ k < 2147483648) (hx : k < 0 ∨ 10 ≤ k) : JR G (d + 1) mX8_setNote [.ref 60, .int (jI k)] (n, rf_f f th z kp ed nt nl wi ht sy sz bf rs rr rq rp mm ln lo lf lt co ro pg pf hsh) 0 0 (some (.int (jI 0))) (n, rf_f f 1 z kp ed nt nl wi ht sy sz bf rs rr rq rp mm ln lo lf lt co ro pg pf hsh) := by
  have w_k_0_9 := rf_in_d k 0 9
  refine ji_ent (by decide) rfl (Nat.le_of_ble_eq_true rfl) rfl ?_
  refine ji_aload_n dX8_setNote_0 rfl trivial ?_
  refine ji_iload_n dX8_setNote_1 rfl ?_
  refine ji_iconst dX8_setNote_2 ?_
  refine ji_bipush dX8_setNote_3 rfl ?_
  refine ji_cS dX8_setNote_5 (r_within (by omega) (by omega) (by omega)) rfl wX8_within sX8_within lX8_50 rfl (Nat.le_of_ble_eq_true rfl) rfl ?_
  refine ji_if_ne (tgt := 15) dX8_setNote_8 rfl (by omega) (fun c8 => ?_) (fun c8 => ?_)
  · try (exfalso; omega)
    all_goals
      refine ji_aload_n dX8_setNote_15 rfl trivial ?_
      refine ji_iconst dX8_setNote_16 ?_
      exfalso; omega
  · try (exfalso; omega)
    all_goals
      refine ji_iconst dX8_setNote_11 ?_
      refine ji_goto (tgt := 28) dX8_setNote_12 rfl ?_
      refine ji_putE (ci := 8) (k := 0) rfl dX8_setNote_28 lX8_47 (by decide) (rf_60) (by simp [rf_c]) (ji_fitI _) rfl (rf_pth) ?_
      refine ji_aload_n dX8_setNote_31 rfl trivial ?_
      refine ji_get (ci := 8) (k := 0) rfl dX8_setNote_32 lX8_47 (by decide) (rf_60) rfl ?_
      refine ji_if_le (tgt := 40) dX8_setNote_35 rfl (by omega) (fun c35 => ?_) (fun c35 => ?_)
      · try (exfalso; omega)
        all_goals
          refine ji_aload_n dX8_setNote_40 rfl trivial ?_
          refine ji_iload_n dX8_setNote_41 rfl ?_
          exfalso; omega
      · try (exfalso; omega)
        all_goals
          refine ji_iconst dX8_setNote_38 ?_
          exact ji_ireturn dX8_setNote_39 rfl (rfl) ⟨jr_i (by first | rfl | omega), rfl⟩

set_option maxHeartbeats 4000000 in
set_option maxRecDepth 100000 in
theorem r_setNote2 (hz9 : 0 ≤ sz ∧ sz ≤ 100) (hbf : ∀ k, 0 ≤ bf k ∧ bf k < 128) {k : Int} (hk9 : 0 ≤ k ∧ k < 10) (hx : rf_TX sz bf 0 = 0) : JR G (d + 6) mX8_setNote [.ref 60, .int (jI k)] (n, rf_f f th z kp ed nt nl wi ht sy sz bf rs rr rq rp mm ln lo lf lt co ro pg pf hsh) 0 0 (some (.int (jI 0))) (n, rf_f f 2 z kp ed nt nl wi ht sy sz bf ((rf_RL sz bf 0).2.1) ((rf_RL sz bf 0).2.2.1) ((rf_RL sz bf 0).2.2.2.1) ((rf_RL sz bf 0).2.2.2.2.1) ((rf_RL sz bf 0).2.2.2.2.2) ln lo lf lt co ro pg pf hsh) := by
  have w_k_0_9 := rf_in_d k 0 9
  refine ji_ent (by decide) rfl (Nat.le_of_ble_eq_true rfl) rfl ?_
  refine ji_aload_n dX8_setNote_0 rfl trivial ?_
  refine ji_iload_n dX8_setNote_1 rfl ?_
  refine ji_iconst dX8_setNote_2 ?_
  refine ji_bipush dX8_setNote_3 rfl ?_
  refine ji_cS dX8_setNote_5 (r_within (by omega) (by omega) (by omega)) rfl wX8_within sX8_within lX8_50 rfl (Nat.le_of_ble_eq_true rfl) rfl ?_
  refine ji_if_ne (tgt := 15) dX8_setNote_8 rfl (by omega) (fun c8 => ?_) (fun c8 => ?_)
  · try (exfalso; omega)
    all_goals
      refine ji_aload_n dX8_setNote_15 rfl trivial ?_
      refine ji_iconst dX8_setNote_16 ?_
      refine ji_cV dX8_setNote_17 (r_isText (b := 0) (by omega) hz9 hbf) rfl (rf_60) rfl rfl wX8_isText vX8_isText lX8_96 rfl (Nat.le_of_ble_eq_true rfl) rfl ?_
      refine ji_if_eq (tgt := 27) dX8_setNote_20 rfl (by omega) (fun c20 => ?_) (fun c20 => ?_)
      · try (exfalso; omega)
        all_goals
          refine ji_iconst dX8_setNote_27 ?_
          refine ji_putE (ci := 8) (k := 0) rfl dX8_setNote_28 lX8_47 (by decide) (rf_60) (by simp [rf_c]) (ji_fitI _) rfl (rf_pth) ?_
          refine ji_aload_n dX8_setNote_31 rfl trivial ?_
          refine ji_get (ci := 8) (k := 0) rfl dX8_setNote_32 lX8_47 (by decide) (rf_60) rfl ?_
          refine ji_if_le (tgt := 40) dX8_setNote_35 rfl (by omega) (fun c35 => ?_) (fun c35 => ?_)
          · try (exfalso; omega)
            all_goals
              refine ji_aload_n dX8_setNote_40 rfl trivial ?_
              refine ji_iload_n dX8_setNote_41 rfl ?_
              exfalso; omega
          · try (exfalso; omega)
            all_goals
              refine ji_iconst dX8_setNote_38 ?_
              exact ji_ireturn dX8_setNote_39 rfl (rfl) ⟨jr_i (by first | rfl | omega), rfl⟩
      · try (exfalso; omega)
        all_goals
          refine ji_iconst dX8_setNote_23 ?_
          refine ji_goto (tgt := 28) dX8_setNote_24 rfl ?_
          refine ji_putE (ci := 8) (k := 0) rfl dX8_setNote_28 lX8_47 (by decide) (rf_60) (by simp [rf_c]) (ji_fitI _) rfl (rf_pth) ?_
          refine ji_aload_n dX8_setNote_31 rfl trivial ?_
          refine ji_get (ci := 8) (k := 0) rfl dX8_setNote_32 lX8_47 (by decide) (rf_60) rfl ?_
          refine ji_if_le (tgt := 40) dX8_setNote_35 rfl (by omega) (fun c35 => ?_) (fun c35 => ?_)
          · try (exfalso; omega)
            all_goals
              refine ji_aload_n dX8_setNote_40 rfl trivial ?_
              refine ji_iload_n dX8_setNote_41 rfl ?_
              exfalso; omega
          · try (exfalso; omega)
            all_goals
              refine ji_iconst dX8_setNote_38 ?_
              exact ji_ireturn dX8_setNote_39 rfl (rfl) ⟨jr_i (by first | rfl | omega), rfl⟩
  · try (exfalso; omega)
    all_goals
      refine ji_iconst dX8_setNote_11 ?_
      refine ji_goto (tgt := 28) dX8_setNote_12 rfl ?_
      refine ji_putE (ci := 8) (k := 0) rfl dX8_setNote_28 lX8_47 (by decide) (rf_60) (by simp [rf_c]) (ji_fitI _) rfl (rf_pth) ?_
      refine ji_aload_n dX8_setNote_31 rfl trivial ?_
      refine ji_get (ci := 8) (k := 0) rfl dX8_setNote_32 lX8_47 (by decide) (rf_60) rfl ?_
      refine ji_if_le (tgt := 40) dX8_setNote_35 rfl (by omega) (fun c35 => ?_) (fun c35 => ?_)
      · try (exfalso; omega)
        all_goals
          refine ji_aload_n dX8_setNote_40 rfl trivial ?_
          refine ji_iload_n dX8_setNote_41 rfl ?_
          exfalso; omega
      · try (exfalso; omega)
        all_goals
          refine ji_iconst dX8_setNote_38 ?_
          exact ji_ireturn dX8_setNote_39 rfl (rfl) ⟨jr_i (by first | rfl | omega), rfl⟩

set_option maxHeartbeats 4000000 in
set_option maxRecDepth 100000 in
theorem r_setNote_l {bc bs : Nat} {k c : Int} (hk9 : 0 ≤ k ∧ k < 10) (hz9 : 0 ≤ sz ∧ sz ≤ 100) : ∀ (u : Nat) (i : Int), 0 ≤ i ∧ i + u = sz →
    JW G d mX8_setNote 48 [some (.ref 60), some (.int (jI k)), some (.int (jI c)), some (.int (jI i))] [] (n, rf_f f th z kp ed (rf_sn1 nt bf k i.toNat) nl wi ht sy sz bf rs rr rq rp mm ln lo lf lt co ro pg pf hsh) bc bs (fun r9 h9 => r9 = .inl (some (.int (jI c))) ∧ h9 = (n, rf_f f th z kp ed (rf_sn1 nt bf k sz.toNat) (va_up nl k.toNat sz) wi ht sy 0 bf rs rr rq rp mm ln lo lf lt co ro pg pf hsh)) := by
  intro u
  induction u with
  | zero =>
    intro i hi
    refine ji_iload_n dX8_setNote_48 rfl ?_
    refine ji_aload_n dX8_setNote_49 rfl trivial ?_
    refine ji_get (ci := 8) (k := 9) rfl dX8_setNote_50 lX8_54 (by decide) (rf_60) rfl ?_
    refine ji_icmp_ge (tgt := 79) dX8_setNote_53 rfl (by omega) (by omega) (fun c53 => ?_) (fun c53 => absurd c53 (by omega))
    refine ji_aload_n dX8_setNote_79 rfl trivial ?_
    refine ji_get (ci := 8) (k := 5) rfl dX8_setNote_80 lX8_19 (by decide) (rf_60) rfl ?_
    refine ji_iload_n dX8_setNote_83 rfl ?_
    refine ji_aload_n dX8_setNote_84 rfl trivial ?_
    refine ji_get (ci := 8) (k := 9) rfl dX8_setNote_85 lX8_54 (by decide) (rf_60) rfl ?_
    refine ji_iastoreE dX8_setNote_88 (rf_64) (by omega) (rf_s64) ?_
    refine ji_aload_n dX8_setNote_89 rfl trivial ?_
    refine ji_iconst dX8_setNote_90 ?_
    refine ji_putE (ci := 8) (k := 9) rfl dX8_setNote_91 lX8_54 (by decide) (rf_60) (by simp [rf_c]) (ji_fitI _) rfl (rf_psz) ?_
    refine ji_iload_n dX8_setNote_94 rfl ?_
    exact ji_ireturn dX8_setNote_95 rfl (rfl) ⟨rfl, by rw [show i = sz by omega]⟩
  | succ u ih =>
    intro i hi
    refine ji_iload_n dX8_setNote_48 rfl ?_
    refine ji_aload_n dX8_setNote_49 rfl trivial ?_
    refine ji_get (ci := 8) (k := 9) rfl dX8_setNote_50 lX8_54 (by decide) (rf_60) rfl ?_
    refine ji_icmp_ge (tgt := 79) dX8_setNote_53 rfl (by omega) (by omega) (fun c53 => absurd c53 (by omega)) (fun c53 => ?_)
    refine ji_aload_n dX8_setNote_56 rfl trivial ?_
    refine ji_get (ci := 8) (k := 4) rfl dX8_setNote_57 lX8_16 (by decide) (rf_60) rfl ?_
    refine ji_bipush dX8_setNote_60 rfl ?_
    refine ji_iload_n dX8_setNote_62 rfl ?_
    refine ji_imul dX8_setNote_63 ?_
    refine ji_iload_n dX8_setNote_64 rfl ?_
    refine ji_iadd dX8_setNote_65 ?_
    refine ji_aload_n dX8_setNote_66 rfl trivial ?_
    refine ji_get (ci := 8) (k := 10) rfl dX8_setNote_67 lX8_32 (by decide) (rf_60) rfl ?_
    refine ji_iload_n dX8_setNote_70 rfl ?_
    refine ji_iaload dX8_setNote_71 (rf_66) (by omega) ?_
    refine ji_iastoreE dX8_setNote_72 (rf_63) (by omega) (rf_s63) ?_
    refine ji_iinc dX8_setNote_73 (by decide) rfl rfl ?_
    refine ji_goto (tgt := 48) dX8_setNote_76 rfl ?_
    exact ji_eqv (ih (i + 1) (by omega)) rfl rfl (by rw [show (i + 1).toNat = i.toNat + 1 by omega, rf_sn1, show ((i.toNat : Nat) : Int) = i by omega])

set_option maxHeartbeats 4000000 in
set_option maxRecDepth 100000 in
theorem r_setNote (hz9 : 0 ≤ sz ∧ sz ≤ 100) (hbf : ∀ k, 0 ≤ bf k ∧ bf k < 128) (hn : nl_ok nl nt) {k : Int} (hk9 : 0 ≤ k ∧ k < 10) (hx : rf_TX sz bf 0 = 1) : JR G (d + 6) mX8_setNote [.ref 60, .int (jI k)] (n, rf_f f th z kp ed nt nl wi ht sy sz bf rs rr rq rp mm ln lo lf lt co ro pg pf hsh) 0 0 (some (.int (jI (rf_NW nl nt k)))) (n, rf_f f 0 z kp ed (rf_sn1 nt bf k sz.toNat) (va_up nl k.toNat sz) wi ht sy 0 bf ((rf_RL sz bf 0).2.1) ((rf_RL sz bf 0).2.2.1) ((rf_RL sz bf 0).2.2.2.1) ((rf_RL sz bf 0).2.2.2.2.1) ((rf_RL sz bf 0).2.2.2.2.2) ln lo lf lt co ro pg pf hsh) := by
  have w_k_0_9 := rf_in_d k 0 9
  refine ji_ent (by decide) rfl (Nat.le_of_ble_eq_true rfl) rfl ?_
  refine ji_aload_n dX8_setNote_0 rfl trivial ?_
  refine ji_iload_n dX8_setNote_1 rfl ?_
  refine ji_iconst dX8_setNote_2 ?_
  refine ji_bipush dX8_setNote_3 rfl ?_
  refine ji_cS dX8_setNote_5 (r_within (by omega) (by omega) (by omega)) rfl wX8_within sX8_within lX8_50 rfl (Nat.le_of_ble_eq_true rfl) rfl ?_
  refine ji_if_ne (tgt := 15) dX8_setNote_8 rfl (by omega) (fun c8 => ?_) (fun c8 => ?_)
  · try (exfalso; omega)
    all_goals
      refine ji_aload_n dX8_setNote_15 rfl trivial ?_
      refine ji_iconst dX8_setNote_16 ?_
      refine ji_cV dX8_setNote_17 (r_isText (b := 0) (by omega) hz9 hbf) rfl (rf_60) rfl rfl wX8_isText vX8_isText lX8_96 rfl (Nat.le_of_ble_eq_true rfl) rfl ?_
      refine ji_if_eq (tgt := 27) dX8_setNote_20 rfl (by omega) (fun c20 => ?_) (fun c20 => ?_)
      · try (exfalso; omega)
        all_goals
          refine ji_iconst dX8_setNote_27 ?_
          refine ji_putE (ci := 8) (k := 0) rfl dX8_setNote_28 lX8_47 (by decide) (rf_60) (by simp [rf_c]) (ji_fitI _) rfl (rf_pth) ?_
          refine ji_aload_n dX8_setNote_31 rfl trivial ?_
          refine ji_get (ci := 8) (k := 0) rfl dX8_setNote_32 lX8_47 (by decide) (rf_60) rfl ?_
          refine ji_if_le (tgt := 40) dX8_setNote_35 rfl (by omega) (fun c35 => ?_) (fun c35 => ?_)
          · try (exfalso; omega)
            all_goals
              refine ji_aload_n dX8_setNote_40 rfl trivial ?_
              refine ji_iload_n dX8_setNote_41 rfl ?_
              refine ji_cV dX8_setNote_42 (r_noteWords hn (by omega)) rfl (rf_60) rfl rfl wX8_noteWords vX8_noteWords lX8_105 rfl (Nat.le_of_ble_eq_true rfl) rfl ?_
              refine ji_istore_n dX8_setNote_45 (by decide) rfl ?_
              refine ji_iconst dX8_setNote_46 ?_
              refine ji_istore_n dX8_setNote_47 (by decide) rfl ?_
              exact r_setNote_l hk9 hz9 sz.toNat 0 (by omega)
          · try (exfalso; omega)
            all_goals
              refine ji_iconst dX8_setNote_38 ?_
              exact ji_ireturn dX8_setNote_39 rfl (rfl) ⟨jr_i (by first | rfl | omega), rfl⟩
      · try (exfalso; omega)
        all_goals
          refine ji_iconst dX8_setNote_23 ?_
          refine ji_goto (tgt := 28) dX8_setNote_24 rfl ?_
          refine ji_putE (ci := 8) (k := 0) rfl dX8_setNote_28 lX8_47 (by decide) (rf_60) (by simp [rf_c]) (ji_fitI _) rfl (rf_pth) ?_
          refine ji_aload_n dX8_setNote_31 rfl trivial ?_
          refine ji_get (ci := 8) (k := 0) rfl dX8_setNote_32 lX8_47 (by decide) (rf_60) rfl ?_
          refine ji_if_le (tgt := 40) dX8_setNote_35 rfl (by omega) (fun c35 => ?_) (fun c35 => ?_)
          · try (exfalso; omega)
            all_goals
              refine ji_aload_n dX8_setNote_40 rfl trivial ?_
              refine ji_iload_n dX8_setNote_41 rfl ?_
              refine ji_cV dX8_setNote_42 (r_noteWords hn (by omega)) rfl (rf_60) rfl rfl wX8_noteWords vX8_noteWords lX8_105 rfl (Nat.le_of_ble_eq_true rfl) rfl ?_
              refine ji_istore_n dX8_setNote_45 (by decide) rfl ?_
              refine ji_iconst dX8_setNote_46 ?_
              refine ji_istore_n dX8_setNote_47 (by decide) rfl ?_
              exact r_setNote_l hk9 hz9 sz.toNat 0 (by omega)
          · try (exfalso; omega)
            all_goals
              refine ji_iconst dX8_setNote_38 ?_
              exact ji_ireturn dX8_setNote_39 rfl (rfl) ⟨jr_i (by first | rfl | omega), rfl⟩
  · try (exfalso; omega)
    all_goals
      refine ji_iconst dX8_setNote_11 ?_
      refine ji_goto (tgt := 28) dX8_setNote_12 rfl ?_
      refine ji_putE (ci := 8) (k := 0) rfl dX8_setNote_28 lX8_47 (by decide) (rf_60) (by simp [rf_c]) (ji_fitI _) rfl (rf_pth) ?_
      refine ji_aload_n dX8_setNote_31 rfl trivial ?_
      refine ji_get (ci := 8) (k := 0) rfl dX8_setNote_32 lX8_47 (by decide) (rf_60) rfl ?_
      refine ji_if_le (tgt := 40) dX8_setNote_35 rfl (by omega) (fun c35 => ?_) (fun c35 => ?_)
      · try (exfalso; omega)
        all_goals
          refine ji_aload_n dX8_setNote_40 rfl trivial ?_
          refine ji_iload_n dX8_setNote_41 rfl ?_
          refine ji_cV dX8_setNote_42 (r_noteWords hn (by omega)) rfl (rf_60) rfl rfl wX8_noteWords vX8_noteWords lX8_105 rfl (Nat.le_of_ble_eq_true rfl) rfl ?_
          refine ji_istore_n dX8_setNote_45 (by decide) rfl ?_
          refine ji_iconst dX8_setNote_46 ?_
          refine ji_istore_n dX8_setNote_47 (by decide) rfl ?_
          exact r_setNote_l hk9 hz9 sz.toNat 0 (by omega)
      · try (exfalso; omega)
        all_goals
          refine ji_iconst dX8_setNote_38 ?_
          exact ji_ireturn dX8_setNote_39 rfl (rfl) ⟨jr_i (by first | rfl | omega), rfl⟩

set_option maxHeartbeats 4000000 in
set_option maxRecDepth 100000 in
theorem r_removeNote1 {k : Int} (b_k : -2147483648 ≤ k ∧ k < 2147483648) (hx : k < 0 ∨ 10 ≤ k) : JR G (d + 1) mX8_removeNote [.ref 60, .int (jI k)] (n, rf_f f th z kp ed nt nl wi ht sy sz bf rs rr rq rp mm ln lo lf lt co ro pg pf hsh) 0 0 (some (.int (jI 0))) (n, rf_f f 1 z kp ed nt nl wi ht sy sz bf rs rr rq rp mm ln lo lf lt co ro pg pf hsh) := by
  have w_k_0_9 := rf_in_d k 0 9
  refine ji_ent (by decide) rfl (Nat.le_of_ble_eq_true rfl) rfl ?_
  refine ji_aload_n dX8_removeNote_0 rfl trivial ?_
  refine ji_iload_n dX8_removeNote_1 rfl ?_
  refine ji_iconst dX8_removeNote_2 ?_
  refine ji_bipush dX8_removeNote_3 rfl ?_
  refine ji_cS dX8_removeNote_5 (r_within (by omega) (by omega) (by omega)) rfl wX8_within sX8_within lX8_50 rfl (Nat.le_of_ble_eq_true rfl) rfl ?_
  refine ji_if_ne (tgt := 15) dX8_removeNote_8 rfl (by omega) (fun c8 => ?_) (fun c8 => ?_)
  · try (exfalso; omega)
    all_goals
      exfalso; omega
  · try (exfalso; omega)
    all_goals
      refine ji_iconst dX8_removeNote_11 ?_
      refine ji_goto (tgt := 29) dX8_removeNote_12 rfl ?_
      refine ji_putE (ci := 8) (k := 0) rfl dX8_removeNote_29 lX8_47 (by decide) (rf_60) (by simp [rf_c]) (ji_fitI _) rfl (rf_pth) ?_
      refine ji_aload_n dX8_removeNote_32 rfl trivial ?_
      refine ji_get (ci := 8) (k := 0) rfl dX8_removeNote_33 lX8_47 (by decide) (rf_60) rfl ?_
      refine ji_if_le (tgt := 41) dX8_removeNote_36 rfl (by omega) (fun c36 => ?_) (fun c36 => ?_)
      · try (exfalso; omega)
        all_goals
          refine ji_aload_n dX8_removeNote_41 rfl trivial ?_
          refine ji_iload_n dX8_removeNote_42 rfl ?_
          exfalso; omega
      · try (exfalso; omega)
        all_goals
          refine ji_iconst dX8_removeNote_39 ?_
          exact ji_ireturn dX8_removeNote_40 rfl (rfl) ⟨jr_i (by first | rfl | omega), rfl⟩

set_option maxHeartbeats 4000000 in
set_option maxRecDepth 100000 in
theorem r_removeNote2 (hn : nl_ok nl nt) {k : Int} (hk9 : 0 ≤ k ∧ k < 10) (hx : nl k.toNat = 0) : JR G (d + 1) mX8_removeNote [.ref 60, .int (jI k)] (n, rf_f f th z kp ed nt nl wi ht sy sz bf rs rr rq rp mm ln lo lf lt co ro pg pf hsh) 0 0 (some (.int (jI 0))) (n, rf_f f 2 z kp ed nt nl wi ht sy sz bf rs rr rq rp mm ln lo lf lt co ro pg pf hsh) := by
  have w_k_0_9 := rf_in_d k 0 9
  have n1 := hn.1 k.toNat
  refine ji_ent (by decide) rfl (Nat.le_of_ble_eq_true rfl) rfl ?_
  refine ji_aload_n dX8_removeNote_0 rfl trivial ?_
  refine ji_iload_n dX8_removeNote_1 rfl ?_
  refine ji_iconst dX8_removeNote_2 ?_
  refine ji_bipush dX8_removeNote_3 rfl ?_
  refine ji_cS dX8_removeNote_5 (r_within (by omega) (by omega) (by omega)) rfl wX8_within sX8_within lX8_50 rfl (Nat.le_of_ble_eq_true rfl) rfl ?_
  refine ji_if_ne (tgt := 15) dX8_removeNote_8 rfl (by omega) (fun c8 => ?_) (fun c8 => ?_)
  · try (exfalso; omega)
    all_goals
      refine ji_aload_n dX8_removeNote_15 rfl trivial ?_
      refine ji_get (ci := 8) (k := 5) rfl dX8_removeNote_16 lX8_19 (by decide) (rf_60) rfl ?_
      refine ji_iload_n dX8_removeNote_19 rfl ?_
      refine ji_iaload dX8_removeNote_20 (rf_64) (by omega) ?_
      refine ji_if_le (tgt := 28) dX8_removeNote_21 rfl (by omega) (fun c21 => ?_) (fun c21 => ?_)
      · try (exfalso; omega)
        all_goals
          refine ji_iconst dX8_removeNote_28 ?_
          refine ji_putE (ci := 8) (k := 0) rfl dX8_removeNote_29 lX8_47 (by decide) (rf_60) (by simp [rf_c]) (ji_fitI _) rfl (rf_pth) ?_
          refine ji_aload_n dX8_removeNote_32 rfl trivial ?_
          refine ji_get (ci := 8) (k := 0) rfl dX8_removeNote_33 lX8_47 (by decide) (rf_60) rfl ?_
          refine ji_if_le (tgt := 41) dX8_removeNote_36 rfl (by omega) (fun c36 => ?_) (fun c36 => ?_)
          · try (exfalso; omega)
            all_goals
              refine ji_aload_n dX8_removeNote_41 rfl trivial ?_
              refine ji_iload_n dX8_removeNote_42 rfl ?_
              refine ji_cV dX8_removeNote_43 (r_noteWords hn (by omega)) rfl (rf_60) rfl rfl wX8_noteWords vX8_noteWords lX8_105 rfl (Nat.le_of_ble_eq_true rfl) rfl ?_
              refine ji_istore_n dX8_removeNote_46 (by decide) rfl ?_
              refine ji_aload_n dX8_removeNote_47 rfl trivial ?_
              refine ji_get (ci := 8) (k := 5) rfl dX8_removeNote_48 lX8_19 (by decide) (rf_60) rfl ?_
              refine ji_iload_n dX8_removeNote_51 rfl ?_
              refine ji_iconst dX8_removeNote_52 ?_
              refine ji_iastoreE dX8_removeNote_53 (rf_64) (by omega) (rf_s64) ?_
              refine ji_iload_n dX8_removeNote_54 rfl ?_
              exact ji_ireturn dX8_removeNote_55 rfl (rfl) ⟨jr_i (by first | rfl | omega), rfl⟩
          · try (exfalso; omega)
            all_goals
              refine ji_iconst dX8_removeNote_39 ?_
              exact ji_ireturn dX8_removeNote_40 rfl (rfl) ⟨jr_i (by first | rfl | omega), rfl⟩
      · try (exfalso; omega)
        all_goals
          refine ji_iconst dX8_removeNote_24 ?_
          refine ji_goto (tgt := 29) dX8_removeNote_25 rfl ?_
          refine ji_putE (ci := 8) (k := 0) rfl dX8_removeNote_29 lX8_47 (by decide) (rf_60) (by simp [rf_c]) (ji_fitI _) rfl (rf_pth) ?_
          refine ji_aload_n dX8_removeNote_32 rfl trivial ?_
          refine ji_get (ci := 8) (k := 0) rfl dX8_removeNote_33 lX8_47 (by decide) (rf_60) rfl ?_
          refine ji_if_le (tgt := 41) dX8_removeNote_36 rfl (by omega) (fun c36 => ?_) (fun c36 => ?_)
          · try (exfalso; omega)
            all_goals
              refine ji_aload_n dX8_removeNote_41 rfl trivial ?_
              refine ji_iload_n dX8_removeNote_42 rfl ?_
              refine ji_cV dX8_removeNote_43 (r_noteWords hn (by omega)) rfl (rf_60) rfl rfl wX8_noteWords vX8_noteWords lX8_105 rfl (Nat.le_of_ble_eq_true rfl) rfl ?_
              refine ji_istore_n dX8_removeNote_46 (by decide) rfl ?_
              refine ji_aload_n dX8_removeNote_47 rfl trivial ?_
              refine ji_get (ci := 8) (k := 5) rfl dX8_removeNote_48 lX8_19 (by decide) (rf_60) rfl ?_
              refine ji_iload_n dX8_removeNote_51 rfl ?_
              refine ji_iconst dX8_removeNote_52 ?_
              refine ji_iastoreE dX8_removeNote_53 (rf_64) (by omega) (rf_s64) ?_
              refine ji_iload_n dX8_removeNote_54 rfl ?_
              exact ji_ireturn dX8_removeNote_55 rfl (rfl) ⟨jr_i (by first | rfl | omega), rfl⟩
          · try (exfalso; omega)
            all_goals
              refine ji_iconst dX8_removeNote_39 ?_
              exact ji_ireturn dX8_removeNote_40 rfl (rfl) ⟨jr_i (by first | rfl | omega), rfl⟩
  · try (exfalso; omega)
    all_goals
      refine ji_iconst dX8_removeNote_11 ?_
      refine ji_goto (tgt := 29) dX8_removeNote_12 rfl ?_
      refine ji_putE (ci := 8) (k := 0) rfl dX8_removeNote_29 lX8_47 (by decide) (rf_60) (by simp [rf_c]) (ji_fitI _) rfl (rf_pth) ?_
      refine ji_aload_n dX8_removeNote_32 rfl trivial ?_
      refine ji_get (ci := 8) (k := 0) rfl dX8_removeNote_33 lX8_47 (by decide) (rf_60) rfl ?_
      refine ji_if_le (tgt := 41) dX8_removeNote_36 rfl (by omega) (fun c36 => ?_) (fun c36 => ?_)
      · try (exfalso; omega)
        all_goals
          refine ji_aload_n dX8_removeNote_41 rfl trivial ?_
          refine ji_iload_n dX8_removeNote_42 rfl ?_
          refine ji_cV dX8_removeNote_43 (r_noteWords hn (by omega)) rfl (rf_60) rfl rfl wX8_noteWords vX8_noteWords lX8_105 rfl (Nat.le_of_ble_eq_true rfl) rfl ?_
          refine ji_istore_n dX8_removeNote_46 (by decide) rfl ?_
          refine ji_aload_n dX8_removeNote_47 rfl trivial ?_
          refine ji_get (ci := 8) (k := 5) rfl dX8_removeNote_48 lX8_19 (by decide) (rf_60) rfl ?_
          refine ji_iload_n dX8_removeNote_51 rfl ?_
          refine ji_iconst dX8_removeNote_52 ?_
          refine ji_iastoreE dX8_removeNote_53 (rf_64) (by omega) (rf_s64) ?_
          refine ji_iload_n dX8_removeNote_54 rfl ?_
          exact ji_ireturn dX8_removeNote_55 rfl (rfl) ⟨jr_i (by first | rfl | omega), rfl⟩
      · try (exfalso; omega)
        all_goals
          refine ji_iconst dX8_removeNote_39 ?_
          exact ji_ireturn dX8_removeNote_40 rfl (rfl) ⟨jr_i (by first | rfl | omega), rfl⟩

set_option maxHeartbeats 4000000 in
set_option maxRecDepth 100000 in
theorem r_removeNote (hn : nl_ok nl nt) {k : Int} (hk9 : 0 ≤ k ∧ k < 10) (hx : 0 < nl k.toNat) : JR G (d + 1) mX8_removeNote [.ref 60, .int (jI k)] (n, rf_f f th z kp ed nt nl wi ht sy sz bf rs rr rq rp mm ln lo lf lt co ro pg pf hsh) 0 0 (some (.int (jI (rf_NW nl nt k)))) (n, rf_f f 0 z kp ed nt (va_up nl k.toNat 0) wi ht sy sz bf rs rr rq rp mm ln lo lf lt co ro pg pf hsh) := by
  have w_k_0_9 := rf_in_d k 0 9
  have n1 := hn.1 k.toNat
  refine ji_ent (by decide) rfl (Nat.le_of_ble_eq_true rfl) rfl ?_
  refine ji_aload_n dX8_removeNote_0 rfl trivial ?_
  refine ji_iload_n dX8_removeNote_1 rfl ?_
  refine ji_iconst dX8_removeNote_2 ?_
  refine ji_bipush dX8_removeNote_3 rfl ?_
  refine ji_cS dX8_removeNote_5 (r_within (by omega) (by omega) (by omega)) rfl wX8_within sX8_within lX8_50 rfl (Nat.le_of_ble_eq_true rfl) rfl ?_
  refine ji_if_ne (tgt := 15) dX8_removeNote_8 rfl (by omega) (fun c8 => ?_) (fun c8 => ?_)
  · try (exfalso; omega)
    all_goals
      refine ji_aload_n dX8_removeNote_15 rfl trivial ?_
      refine ji_get (ci := 8) (k := 5) rfl dX8_removeNote_16 lX8_19 (by decide) (rf_60) rfl ?_
      refine ji_iload_n dX8_removeNote_19 rfl ?_
      refine ji_iaload dX8_removeNote_20 (rf_64) (by omega) ?_
      refine ji_if_le (tgt := 28) dX8_removeNote_21 rfl (by omega) (fun c21 => ?_) (fun c21 => ?_)
      · try (exfalso; omega)
        all_goals
          refine ji_iconst dX8_removeNote_28 ?_
          refine ji_putE (ci := 8) (k := 0) rfl dX8_removeNote_29 lX8_47 (by decide) (rf_60) (by simp [rf_c]) (ji_fitI _) rfl (rf_pth) ?_
          refine ji_aload_n dX8_removeNote_32 rfl trivial ?_
          refine ji_get (ci := 8) (k := 0) rfl dX8_removeNote_33 lX8_47 (by decide) (rf_60) rfl ?_
          refine ji_if_le (tgt := 41) dX8_removeNote_36 rfl (by omega) (fun c36 => ?_) (fun c36 => ?_)
          · try (exfalso; omega)
            all_goals
              refine ji_aload_n dX8_removeNote_41 rfl trivial ?_
              refine ji_iload_n dX8_removeNote_42 rfl ?_
              refine ji_cV dX8_removeNote_43 (r_noteWords hn (by omega)) rfl (rf_60) rfl rfl wX8_noteWords vX8_noteWords lX8_105 rfl (Nat.le_of_ble_eq_true rfl) rfl ?_
              refine ji_istore_n dX8_removeNote_46 (by decide) rfl ?_
              refine ji_aload_n dX8_removeNote_47 rfl trivial ?_
              refine ji_get (ci := 8) (k := 5) rfl dX8_removeNote_48 lX8_19 (by decide) (rf_60) rfl ?_
              refine ji_iload_n dX8_removeNote_51 rfl ?_
              refine ji_iconst dX8_removeNote_52 ?_
              refine ji_iastoreE dX8_removeNote_53 (rf_64) (by omega) (rf_s64) ?_
              refine ji_iload_n dX8_removeNote_54 rfl ?_
              exact ji_ireturn dX8_removeNote_55 rfl (rfl) ⟨jr_i (by first | rfl | omega), rfl⟩
          · try (exfalso; omega)
            all_goals
              refine ji_iconst dX8_removeNote_39 ?_
              exact ji_ireturn dX8_removeNote_40 rfl (rfl) ⟨jr_i (by first | rfl | omega), rfl⟩
      · try (exfalso; omega)
        all_goals
          refine ji_iconst dX8_removeNote_24 ?_
          refine ji_goto (tgt := 29) dX8_removeNote_25 rfl ?_
          refine ji_putE (ci := 8) (k := 0) rfl dX8_removeNote_29 lX8_47 (by decide) (rf_60) (by simp [rf_c]) (ji_fitI _) rfl (rf_pth) ?_
          refine ji_aload_n dX8_removeNote_32 rfl trivial ?_
          refine ji_get (ci := 8) (k := 0) rfl dX8_removeNote_33 lX8_47 (by decide) (rf_60) rfl ?_
          refine ji_if_le (tgt := 41) dX8_removeNote_36 rfl (by omega) (fun c36 => ?_) (fun c36 => ?_)
          · try (exfalso; omega)
            all_goals
              refine ji_aload_n dX8_removeNote_41 rfl trivial ?_
              refine ji_iload_n dX8_removeNote_42 rfl ?_
              refine ji_cV dX8_removeNote_43 (r_noteWords hn (by omega)) rfl (rf_60) rfl rfl wX8_noteWords vX8_noteWords lX8_105 rfl (Nat.le_of_ble_eq_true rfl) rfl ?_
              refine ji_istore_n dX8_removeNote_46 (by decide) rfl ?_
              refine ji_aload_n dX8_removeNote_47 rfl trivial ?_
              refine ji_get (ci := 8) (k := 5) rfl dX8_removeNote_48 lX8_19 (by decide) (rf_60) rfl ?_
              refine ji_iload_n dX8_removeNote_51 rfl ?_
              refine ji_iconst dX8_removeNote_52 ?_
              refine ji_iastoreE dX8_removeNote_53 (rf_64) (by omega) (rf_s64) ?_
              refine ji_iload_n dX8_removeNote_54 rfl ?_
              exact ji_ireturn dX8_removeNote_55 rfl (rfl) ⟨jr_i (by first | rfl | omega), rfl⟩
          · try (exfalso; omega)
            all_goals
              refine ji_iconst dX8_removeNote_39 ?_
              exact ji_ireturn dX8_removeNote_40 rfl (rfl) ⟨jr_i (by first | rfl | omega), rfl⟩
  · try (exfalso; omega)
    all_goals
      refine ji_iconst dX8_removeNote_11 ?_
      refine ji_goto (tgt := 29) dX8_removeNote_12 rfl ?_
      refine ji_putE (ci := 8) (k := 0) rfl dX8_removeNote_29 lX8_47 (by decide) (rf_60) (by simp [rf_c]) (ji_fitI _) rfl (rf_pth) ?_
      refine ji_aload_n dX8_removeNote_32 rfl trivial ?_
      refine ji_get (ci := 8) (k := 0) rfl dX8_removeNote_33 lX8_47 (by decide) (rf_60) rfl ?_
      refine ji_if_le (tgt := 41) dX8_removeNote_36 rfl (by omega) (fun c36 => ?_) (fun c36 => ?_)
      · try (exfalso; omega)
        all_goals
          refine ji_aload_n dX8_removeNote_41 rfl trivial ?_
          refine ji_iload_n dX8_removeNote_42 rfl ?_
          refine ji_cV dX8_removeNote_43 (r_noteWords hn (by omega)) rfl (rf_60) rfl rfl wX8_noteWords vX8_noteWords lX8_105 rfl (Nat.le_of_ble_eq_true rfl) rfl ?_
          refine ji_istore_n dX8_removeNote_46 (by decide) rfl ?_
          refine ji_aload_n dX8_removeNote_47 rfl trivial ?_
          refine ji_get (ci := 8) (k := 5) rfl dX8_removeNote_48 lX8_19 (by decide) (rf_60) rfl ?_
          refine ji_iload_n dX8_removeNote_51 rfl ?_
          refine ji_iconst dX8_removeNote_52 ?_
          refine ji_iastoreE dX8_removeNote_53 (rf_64) (by omega) (rf_s64) ?_
          refine ji_iload_n dX8_removeNote_54 rfl ?_
          exact ji_ireturn dX8_removeNote_55 rfl (rfl) ⟨jr_i (by first | rfl | omega), rfl⟩
      · try (exfalso; omega)
        all_goals
          refine ji_iconst dX8_removeNote_39 ?_
          exact ji_ireturn dX8_removeNote_40 rfl (rfl) ⟨jr_i (by first | rfl | omega), rfl⟩

set_option maxHeartbeats 4000000 in
set_option maxRecDepth 100000 in
theorem r_setSize1 {v m : Int} (b_v : -2147483648 ≤ v ∧ v < 2147483648) (b_m : -2147483648 ≤ m ∧ m < 2147483648) (hx : ¬ ((18 ≤ v ∧ v ≤ 60) ∧ 2 ≤ m ∧ m ≤ 20)) : JR G (d + 9) mX8_setSize [.ref 60, .int (jI v), .int (jI m)] (n, rf_f f th z kp ed nt nl wi ht sy sz bf rs rr rq rp mm ln lo lf lt co ro pg pf hsh) 0 0 (some (.int (jI 0))) (n, rf_f f 1 z kp ed nt nl wi ht sy sz bf rs rr rq rp mm ln lo lf lt co ro pg pf hsh) := by
  have w_v_18_60 := rf_in_d v 18 60
  have w_m_2_20 := rf_in_d m 2 20
  refine ji_ent (by decide) rfl (Nat.le_of_ble_eq_true rfl) rfl ?_
  refine ji_aload_n dX8_setSize_0 rfl trivial ?_
  refine ji_iload_n dX8_setSize_1 rfl ?_
  refine ji_bipush dX8_setSize_2 rfl ?_
  refine ji_bipush dX8_setSize_4 rfl ?_
  refine ji_cS dX8_setSize_6 (r_within (by omega) (by omega) (by omega)) rfl wX8_within sX8_within lX8_50 rfl (Nat.le_of_ble_eq_true rfl) rfl ?_
  refine ji_if_eq (tgt := 26) dX8_setSize_9 rfl (by omega) (fun c9 => ?_) (fun c9 => ?_)
  · try (exfalso; omega)
    all_goals
      refine ji_iconst dX8_setSize_26 ?_
      refine ji_putE (ci := 8) (k := 0) rfl dX8_setSize_27 lX8_47 (by decide) (rf_60) (by simp [rf_c]) (ji_fitI _) rfl (rf_pth) ?_
      refine ji_aload_n dX8_setSize_30 rfl trivial ?_
      refine ji_get (ci := 8) (k := 0) rfl dX8_setSize_31 lX8_47 (by decide) (rf_60) rfl ?_
      refine ji_if_le (tgt := 39) dX8_setSize_34 rfl (by omega) (fun c34 => ?_) (fun c34 => ?_)
      · try (exfalso; omega)
        all_goals
          refine ji_aload_n dX8_setSize_39 rfl trivial ?_
          refine ji_iload_n dX8_setSize_40 rfl ?_
          refine ji_putE (ci := 8) (k := 6) rfl dX8_setSize_41 lX8_22 (by decide) (rf_60) (by simp [rf_c]) (ji_fitI _) rfl (rf_pwi) ?_
          refine ji_aload_n dX8_setSize_44 rfl trivial ?_
          refine ji_iload_n dX8_setSize_45 rfl ?_
          refine ji_putE (ci := 8) (k := 7) rfl dX8_setSize_46 lX8_26 (by decide) (rf_60) (by simp [rf_c]) (ji_fitI _) rfl (rf_pht) ?_
          refine ji_aload_n dX8_setSize_49 rfl trivial ?_
          exfalso; omega
      · try (exfalso; omega)
        all_goals
          refine ji_iconst dX8_setSize_37 ?_
          exact ji_ireturn dX8_setSize_38 rfl (rfl) ⟨jr_i (by first | rfl | omega), rfl⟩
  · try (exfalso; omega)
    all_goals
      refine ji_iload_n dX8_setSize_12 rfl ?_
      refine ji_iconst dX8_setSize_13 ?_
      refine ji_bipush dX8_setSize_14 rfl ?_
      refine ji_cS dX8_setSize_16 (r_within (by omega) (by omega) (by omega)) rfl wX8_within sX8_within lX8_50 rfl (Nat.le_of_ble_eq_true rfl) rfl ?_
      refine ji_if_eq (tgt := 26) dX8_setSize_19 rfl (by omega) (fun c19 => ?_) (fun c19 => ?_)
      · try (exfalso; omega)
        all_goals
          refine ji_iconst dX8_setSize_26 ?_
          refine ji_putE (ci := 8) (k := 0) rfl dX8_setSize_27 lX8_47 (by decide) (rf_60) (by simp [rf_c]) (ji_fitI _) rfl (rf_pth) ?_
          refine ji_aload_n dX8_setSize_30 rfl trivial ?_
          refine ji_get (ci := 8) (k := 0) rfl dX8_setSize_31 lX8_47 (by decide) (rf_60) rfl ?_
          refine ji_if_le (tgt := 39) dX8_setSize_34 rfl (by omega) (fun c34 => ?_) (fun c34 => ?_)
          · try (exfalso; omega)
            all_goals
              refine ji_aload_n dX8_setSize_39 rfl trivial ?_
              refine ji_iload_n dX8_setSize_40 rfl ?_
              refine ji_putE (ci := 8) (k := 6) rfl dX8_setSize_41 lX8_22 (by decide) (rf_60) (by simp [rf_c]) (ji_fitI _) rfl (rf_pwi) ?_
              refine ji_aload_n dX8_setSize_44 rfl trivial ?_
              refine ji_iload_n dX8_setSize_45 rfl ?_
              refine ji_putE (ci := 8) (k := 7) rfl dX8_setSize_46 lX8_26 (by decide) (rf_60) (by simp [rf_c]) (ji_fitI _) rfl (rf_pht) ?_
              refine ji_aload_n dX8_setSize_49 rfl trivial ?_
              exfalso; omega
          · try (exfalso; omega)
            all_goals
              refine ji_iconst dX8_setSize_37 ?_
              exact ji_ireturn dX8_setSize_38 rfl (rfl) ⟨jr_i (by first | rfl | omega), rfl⟩
      · try (exfalso; omega)
        all_goals
          refine ji_iconst dX8_setSize_22 ?_
          refine ji_goto (tgt := 27) dX8_setSize_23 rfl ?_
          refine ji_putE (ci := 8) (k := 0) rfl dX8_setSize_27 lX8_47 (by decide) (rf_60) (by simp [rf_c]) (ji_fitI _) rfl (rf_pth) ?_
          refine ji_aload_n dX8_setSize_30 rfl trivial ?_
          refine ji_get (ci := 8) (k := 0) rfl dX8_setSize_31 lX8_47 (by decide) (rf_60) rfl ?_
          refine ji_if_le (tgt := 39) dX8_setSize_34 rfl (by omega) (fun c34 => ?_) (fun c34 => ?_)
          · try (exfalso; omega)
            all_goals
              refine ji_aload_n dX8_setSize_39 rfl trivial ?_
              refine ji_iload_n dX8_setSize_40 rfl ?_
              refine ji_putE (ci := 8) (k := 6) rfl dX8_setSize_41 lX8_22 (by decide) (rf_60) (by simp [rf_c]) (ji_fitI _) rfl (rf_pwi) ?_
              refine ji_aload_n dX8_setSize_44 rfl trivial ?_
              refine ji_iload_n dX8_setSize_45 rfl ?_
              refine ji_putE (ci := 8) (k := 7) rfl dX8_setSize_46 lX8_26 (by decide) (rf_60) (by simp [rf_c]) (ji_fitI _) rfl (rf_pht) ?_
              refine ji_aload_n dX8_setSize_49 rfl trivial ?_
              exfalso; omega
          · try (exfalso; omega)
            all_goals
              refine ji_iconst dX8_setSize_37 ?_
              exact ji_ireturn dX8_setSize_38 rfl (rfl) ⟨jr_i (by first | rfl | omega), rfl⟩

set_option maxHeartbeats 4000000 in
set_option maxRecDepth 100000 in
theorem r_setSize (hrf : rf_ok wi ht z nl nt sy) {v m : Int} (hx : (18 ≤ v ∧ v ≤ 60) ∧ 2 ≤ m ∧ m ≤ 20) : JR G (d + 9) mX8_setSize [.ref 60, .int (jI v), .int (jI m)] (n, rf_f f th z kp ed nt nl wi ht sy sz bf rs rr rq rp mm ln lo lf lt co ro pg pf hsh) 0 0 (some (.int (jI ((rf_PG z nl nt sy v m (rf_LL z nl nt sy v lo lf lt).1 (rf_LL z nl nt sy v lo lf lt).2.1 (rf_LL z nl nt sy v lo lf lt).2.2.1 (rf_LL z nl nt sy v lo lf lt).2.2.2 pf).1)))) (n, rf_f f 0 z kp ed nt nl v m sy sz bf rs rr rq rp mm ((rf_LL z nl nt sy v lo lf lt).1) ((rf_LL z nl nt sy v lo lf lt).2.1) ((rf_LL z nl nt sy v lo lf lt).2.2.1) ((rf_LL z nl nt sy v lo lf lt).2.2.2) v m ((rf_PG z nl nt sy v m (rf_LL z nl nt sy v lo lf lt).1 (rf_LL z nl nt sy v lo lf lt).2.1 (rf_LL z nl nt sy v lo lf lt).2.2.1 (rf_LL z nl nt sy v lo lf lt).2.2.2 pf).1) (va_up (rf_PG z nl nt sy v m (rf_LL z nl nt sy v lo lf lt).1 (rf_LL z nl nt sy v lo lf lt).2.1 (rf_LL z nl nt sy v lo lf lt).2.2.1 (rf_LL z nl nt sy v lo lf lt).2.2.2 pf).2 (rf_PG z nl nt sy v m (rf_LL z nl nt sy v lo lf lt).1 (rf_LL z nl nt sy v lo lf lt).2.1 (rf_LL z nl nt sy v lo lf lt).2.2.1 (rf_LL z nl nt sy v lo lf lt).2.2.2 pf).1.toNat (rf_LL z nl nt sy v lo lf lt).1) hsh) := by
  obtain ⟨hz, hn, hk, hrc, ⟨hw9, hh9⟩, ⟨hm9, hj9⟩, hll⟩ := id hrf
  have zb := hz.2.1
  have hF := (hll v lo lf lt (by omega)).2
  have w_v_18_60 := rf_in_d v 18 60
  have w_m_2_20 := rf_in_d m 2 20
  refine ji_ent (by decide) rfl (Nat.le_of_ble_eq_true rfl) rfl ?_
  refine ji_aload_n dX8_setSize_0 rfl trivial ?_
  refine ji_iload_n dX8_setSize_1 rfl ?_
  refine ji_bipush dX8_setSize_2 rfl ?_
  refine ji_bipush dX8_setSize_4 rfl ?_
  refine ji_cS dX8_setSize_6 (r_within (by omega) (by omega) (by omega)) rfl wX8_within sX8_within lX8_50 rfl (Nat.le_of_ble_eq_true rfl) rfl ?_
  refine ji_if_eq (tgt := 26) dX8_setSize_9 rfl (by omega) (fun c9 => ?_) (fun c9 => ?_)
  · try (exfalso; omega)
    all_goals
      refine ji_iconst dX8_setSize_26 ?_
      refine ji_putE (ci := 8) (k := 0) rfl dX8_setSize_27 lX8_47 (by decide) (rf_60) (by simp [rf_c]) (ji_fitI _) rfl (rf_pth) ?_
      refine ji_aload_n dX8_setSize_30 rfl trivial ?_
      refine ji_get (ci := 8) (k := 0) rfl dX8_setSize_31 lX8_47 (by decide) (rf_60) rfl ?_
      refine ji_if_le (tgt := 39) dX8_setSize_34 rfl (by omega) (fun c34 => ?_) (fun c34 => ?_)
      · try (exfalso; omega)
        all_goals
          refine ji_aload_n dX8_setSize_39 rfl trivial ?_
          refine ji_iload_n dX8_setSize_40 rfl ?_
          refine ji_putE (ci := 8) (k := 6) rfl dX8_setSize_41 lX8_22 (by decide) (rf_60) (by simp [rf_c]) (ji_fitI _) rfl (rf_pwi) ?_
          refine ji_aload_n dX8_setSize_44 rfl trivial ?_
          refine ji_iload_n dX8_setSize_45 rfl ?_
          refine ji_putE (ci := 8) (k := 7) rfl dX8_setSize_46 lX8_26 (by decide) (rf_60) (by simp [rf_c]) (ji_fitI _) rfl (rf_pht) ?_
          refine ji_aload_n dX8_setSize_49 rfl trivial ?_
          refine ji_cVv dX8_setSize_50 (r_layAll hz hn hk hrc (by omega) (by omega) hF) rfl (rf_60) rfl rfl wX8_layAll vX8_layAll lX8_189 rfl (Nat.le_of_ble_eq_true rfl) rfl ?_
          refine ji_aload_n dX8_setSize_53 rfl trivial ?_
          refine ji_get (ci := 8) (k := 22) rfl dX8_setSize_54 lX8_170 (by decide) (rf_60) rfl ?_
          exact ji_ireturn dX8_setSize_57 rfl (rfl) ⟨jr_i (by first | rfl | omega), rfl⟩
      · try (exfalso; omega)
        all_goals
          refine ji_iconst dX8_setSize_37 ?_
          exact ji_ireturn dX8_setSize_38 rfl (rfl) ⟨jr_i (by first | rfl | omega), rfl⟩
  · try (exfalso; omega)
    all_goals
      refine ji_iload_n dX8_setSize_12 rfl ?_
      refine ji_iconst dX8_setSize_13 ?_
      refine ji_bipush dX8_setSize_14 rfl ?_
      refine ji_cS dX8_setSize_16 (r_within (by omega) (by omega) (by omega)) rfl wX8_within sX8_within lX8_50 rfl (Nat.le_of_ble_eq_true rfl) rfl ?_
      refine ji_if_eq (tgt := 26) dX8_setSize_19 rfl (by omega) (fun c19 => ?_) (fun c19 => ?_)
      · try (exfalso; omega)
        all_goals
          refine ji_iconst dX8_setSize_26 ?_
          refine ji_putE (ci := 8) (k := 0) rfl dX8_setSize_27 lX8_47 (by decide) (rf_60) (by simp [rf_c]) (ji_fitI _) rfl (rf_pth) ?_
          refine ji_aload_n dX8_setSize_30 rfl trivial ?_
          refine ji_get (ci := 8) (k := 0) rfl dX8_setSize_31 lX8_47 (by decide) (rf_60) rfl ?_
          refine ji_if_le (tgt := 39) dX8_setSize_34 rfl (by omega) (fun c34 => ?_) (fun c34 => ?_)
          · try (exfalso; omega)
            all_goals
              refine ji_aload_n dX8_setSize_39 rfl trivial ?_
              refine ji_iload_n dX8_setSize_40 rfl ?_
              refine ji_putE (ci := 8) (k := 6) rfl dX8_setSize_41 lX8_22 (by decide) (rf_60) (by simp [rf_c]) (ji_fitI _) rfl (rf_pwi) ?_
              refine ji_aload_n dX8_setSize_44 rfl trivial ?_
              refine ji_iload_n dX8_setSize_45 rfl ?_
              refine ji_putE (ci := 8) (k := 7) rfl dX8_setSize_46 lX8_26 (by decide) (rf_60) (by simp [rf_c]) (ji_fitI _) rfl (rf_pht) ?_
              refine ji_aload_n dX8_setSize_49 rfl trivial ?_
              refine ji_cVv dX8_setSize_50 (r_layAll hz hn hk hrc (by omega) (by omega) hF) rfl (rf_60) rfl rfl wX8_layAll vX8_layAll lX8_189 rfl (Nat.le_of_ble_eq_true rfl) rfl ?_
              refine ji_aload_n dX8_setSize_53 rfl trivial ?_
              refine ji_get (ci := 8) (k := 22) rfl dX8_setSize_54 lX8_170 (by decide) (rf_60) rfl ?_
              exact ji_ireturn dX8_setSize_57 rfl (rfl) ⟨jr_i (by first | rfl | omega), rfl⟩
          · try (exfalso; omega)
            all_goals
              refine ji_iconst dX8_setSize_37 ?_
              exact ji_ireturn dX8_setSize_38 rfl (rfl) ⟨jr_i (by first | rfl | omega), rfl⟩
      · try (exfalso; omega)
        all_goals
          refine ji_iconst dX8_setSize_22 ?_
          refine ji_goto (tgt := 27) dX8_setSize_23 rfl ?_
          refine ji_putE (ci := 8) (k := 0) rfl dX8_setSize_27 lX8_47 (by decide) (rf_60) (by simp [rf_c]) (ji_fitI _) rfl (rf_pth) ?_
          refine ji_aload_n dX8_setSize_30 rfl trivial ?_
          refine ji_get (ci := 8) (k := 0) rfl dX8_setSize_31 lX8_47 (by decide) (rf_60) rfl ?_
          refine ji_if_le (tgt := 39) dX8_setSize_34 rfl (by omega) (fun c34 => ?_) (fun c34 => ?_)
          · try (exfalso; omega)
            all_goals
              refine ji_aload_n dX8_setSize_39 rfl trivial ?_
              refine ji_iload_n dX8_setSize_40 rfl ?_
              refine ji_putE (ci := 8) (k := 6) rfl dX8_setSize_41 lX8_22 (by decide) (rf_60) (by simp [rf_c]) (ji_fitI _) rfl (rf_pwi) ?_
              refine ji_aload_n dX8_setSize_44 rfl trivial ?_
              refine ji_iload_n dX8_setSize_45 rfl ?_
              refine ji_putE (ci := 8) (k := 7) rfl dX8_setSize_46 lX8_26 (by decide) (rf_60) (by simp [rf_c]) (ji_fitI _) rfl (rf_pht) ?_
              refine ji_aload_n dX8_setSize_49 rfl trivial ?_
              refine ji_cVv dX8_setSize_50 (r_layAll hz hn hk hrc (by omega) (by omega) hF) rfl (rf_60) rfl rfl wX8_layAll vX8_layAll lX8_189 rfl (Nat.le_of_ble_eq_true rfl) rfl ?_
              refine ji_aload_n dX8_setSize_53 rfl trivial ?_
              refine ji_get (ci := 8) (k := 22) rfl dX8_setSize_54 lX8_170 (by decide) (rf_60) rfl ?_
              exact ji_ireturn dX8_setSize_57 rfl (rfl) ⟨jr_i (by first | rfl | omega), rfl⟩
          · try (exfalso; omega)
            all_goals
              refine ji_iconst dX8_setSize_37 ?_
              exact ji_ireturn dX8_setSize_38 rfl (rfl) ⟨jr_i (by first | rfl | omega), rfl⟩

set_option maxHeartbeats 4000000 in
set_option maxRecDepth 100000 in
theorem r_setStyle1 {v m : Int} (b_v : -2147483648 ≤ v ∧ v < 2147483648) (b_m : -2147483648 ≤ m ∧ m < 2147483648) (hx : v < 0 ∨ 5 ≤ v ∨ m < 0 ∨ st_lim v < m) : JR G (d + 1) mX8_setStyle [.ref 60, .int (jI v), .int (jI m)] (n, rf_f f th z kp ed nt nl wi ht sy sz bf rs rr rq rp mm ln lo lf lt co ro pg pf hsh) 0 0 (some (.int (jI 0))) (n, rf_f f 1 z kp ed nt nl wi ht sy sz bf rs rr rq rp mm ln lo lf lt co ro pg pf hsh) := by
  have w_v_0_4 := rf_in_d v 0 4
  have w_m_0_4 := rf_in_d m 0 4
  have w_m_0_2 := rf_in_d m 0 2
  have w_m_0_1 := rf_in_d m 0 1
  have wl : (v < 2 → st_lim v = 4) ∧ (v = 2 → st_lim v = 2) ∧ (2 < v → st_lim v = 1) := by unfold st_lim; (repeat' split) <;> omega
  refine ji_ent (by decide) rfl (Nat.le_of_ble_eq_true rfl) rfl ?_
  refine ji_iload_n dX8_setStyle_0 rfl ?_
  refine ji_iconst dX8_setStyle_1 ?_
  refine ji_iconst dX8_setStyle_2 ?_
  refine ji_cS dX8_setStyle_3 (r_within (by omega) (by omega) (by omega)) rfl wX8_within sX8_within lX8_50 rfl (Nat.le_of_ble_eq_true rfl) rfl ?_
  refine ji_if_eq (tgt := 40) dX8_setStyle_6 rfl (by omega) (fun c6 => ?_) (fun c6 => ?_)
  · try (exfalso; omega)
    all_goals
      refine ji_iconst dX8_setStyle_40 ?_
      refine ji_istore_n dX8_setStyle_41 (by decide) rfl ?_
      refine ji_aload_n dX8_setStyle_42 rfl trivial ?_
      refine ji_iload_n dX8_setStyle_43 rfl ?_
      refine ji_if_eq (tgt := 51) dX8_setStyle_44 rfl (by omega) (fun c44 => ?_) (fun c44 => ?_)
      · try (exfalso; omega)
        all_goals
          refine ji_iconst dX8_setStyle_51 ?_
          refine ji_putE (ci := 8) (k := 0) rfl dX8_setStyle_52 lX8_47 (by decide) (rf_60) (by simp [rf_c]) (ji_fitI _) rfl (rf_pth) ?_
          refine ji_aload_n dX8_setStyle_55 rfl trivial ?_
          refine ji_get (ci := 8) (k := 0) rfl dX8_setStyle_56 lX8_47 (by decide) (rf_60) rfl ?_
          refine ji_if_le (tgt := 64) dX8_setStyle_59 rfl (by omega) (fun c59 => ?_) (fun c59 => ?_)
          · try (exfalso; omega)
            all_goals
              refine ji_aload_n dX8_setStyle_64 rfl trivial ?_
              refine ji_get (ci := 8) (k := 8) rfl dX8_setStyle_65 lX8_29 (by decide) (rf_60) rfl ?_
              refine ji_iload_n dX8_setStyle_68 rfl ?_
              refine ji_iaload dX8_setStyle_69 (rf_65) (by omega) ?_
              refine ji_istore dX8_setStyle_70 (by decide) rfl ?_
              refine ji_aload_n dX8_setStyle_72 rfl trivial ?_
              refine ji_get (ci := 8) (k := 8) rfl dX8_setStyle_73 lX8_29 (by decide) (rf_60) rfl ?_
              refine ji_iload_n dX8_setStyle_76 rfl ?_
              refine ji_iload_n dX8_setStyle_77 rfl ?_
              refine ji_iastoreE dX8_setStyle_78 (rf_65) (by omega) (rf_s65) ?_
              refine ji_iload dX8_setStyle_79 rfl ?_
              exact ji_ireturn dX8_setStyle_81 rfl (rfl) ⟨jr_i (by first | rfl | omega), rfl⟩
          · try (exfalso; omega)
            all_goals
              refine ji_iconst dX8_setStyle_62 ?_
              exact ji_ireturn dX8_setStyle_63 rfl (rfl) ⟨jr_i (by first | rfl | omega), rfl⟩
      · try (exfalso; omega)
        all_goals
          refine ji_iconst dX8_setStyle_47 ?_
          refine ji_goto (tgt := 52) dX8_setStyle_48 rfl ?_
          refine ji_putE (ci := 8) (k := 0) rfl dX8_setStyle_52 lX8_47 (by decide) (rf_60) (by simp [rf_c]) (ji_fitI _) rfl (rf_pth) ?_
          refine ji_aload_n dX8_setStyle_55 rfl trivial ?_
          refine ji_get (ci := 8) (k := 0) rfl dX8_setStyle_56 lX8_47 (by decide) (rf_60) rfl ?_
          refine ji_if_le (tgt := 64) dX8_setStyle_59 rfl (by omega) (fun c59 => ?_) (fun c59 => ?_)
          · try (exfalso; omega)
            all_goals
              refine ji_aload_n dX8_setStyle_64 rfl trivial ?_
              refine ji_get (ci := 8) (k := 8) rfl dX8_setStyle_65 lX8_29 (by decide) (rf_60) rfl ?_
              refine ji_iload_n dX8_setStyle_68 rfl ?_
              refine ji_iaload dX8_setStyle_69 (rf_65) (by omega) ?_
              refine ji_istore dX8_setStyle_70 (by decide) rfl ?_
              refine ji_aload_n dX8_setStyle_72 rfl trivial ?_
              refine ji_get (ci := 8) (k := 8) rfl dX8_setStyle_73 lX8_29 (by decide) (rf_60) rfl ?_
              refine ji_iload_n dX8_setStyle_76 rfl ?_
              refine ji_iload_n dX8_setStyle_77 rfl ?_
              refine ji_iastoreE dX8_setStyle_78 (rf_65) (by omega) (rf_s65) ?_
              refine ji_iload dX8_setStyle_79 rfl ?_
              exact ji_ireturn dX8_setStyle_81 rfl (rfl) ⟨jr_i (by first | rfl | omega), rfl⟩
          · try (exfalso; omega)
            all_goals
              refine ji_iconst dX8_setStyle_62 ?_
              exact ji_ireturn dX8_setStyle_63 rfl (rfl) ⟨jr_i (by first | rfl | omega), rfl⟩
  · try (exfalso; omega)
    all_goals
      refine ji_iload_n dX8_setStyle_9 rfl ?_
      refine ji_iconst dX8_setStyle_10 ?_
      refine ji_iload_n dX8_setStyle_11 rfl ?_
      refine ji_iconst dX8_setStyle_12 ?_
      refine ji_icmp_ge (tgt := 20) dX8_setStyle_13 rfl (by omega) (by omega) (fun c13 => ?_) (fun c13 => ?_)
      · try (exfalso; omega)
        all_goals
          refine ji_iload_n dX8_setStyle_20 rfl ?_
          refine ji_iconst dX8_setStyle_21 ?_
          refine ji_icmp_ne (tgt := 29) dX8_setStyle_22 rfl (by omega) (by omega) (fun c22 => ?_) (fun c22 => ?_)
          · try (exfalso; omega)
            all_goals
              refine ji_iconst dX8_setStyle_29 ?_
              refine ji_cS dX8_setStyle_30 (r_within (by omega) (by omega) (by omega)) rfl wX8_within sX8_within lX8_50 rfl (Nat.le_of_ble_eq_true rfl) rfl ?_
              refine ji_if_eq (tgt := 40) dX8_setStyle_33 rfl (by omega) (fun c33 => ?_) (fun c33 => ?_)
              · try (exfalso; omega)
                all_goals
                  refine ji_iconst dX8_setStyle_40 ?_
                  refine ji_istore_n dX8_setStyle_41 (by decide) rfl ?_
                  refine ji_aload_n dX8_setStyle_42 rfl trivial ?_
                  refine ji_iload_n dX8_setStyle_43 rfl ?_
                  refine ji_if_eq (tgt := 51) dX8_setStyle_44 rfl (by omega) (fun c44 => ?_) (fun c44 => ?_)
                  · try (exfalso; omega)
                    all_goals
                      refine ji_iconst dX8_setStyle_51 ?_
                      refine ji_putE (ci := 8) (k := 0) rfl dX8_setStyle_52 lX8_47 (by decide) (rf_60) (by simp [rf_c]) (ji_fitI _) rfl (rf_pth) ?_
                      refine ji_aload_n dX8_setStyle_55 rfl trivial ?_
                      refine ji_get (ci := 8) (k := 0) rfl dX8_setStyle_56 lX8_47 (by decide) (rf_60) rfl ?_
                      refine ji_if_le (tgt := 64) dX8_setStyle_59 rfl (by omega) (fun c59 => ?_) (fun c59 => ?_)
                      · try (exfalso; omega)
                        all_goals
                          refine ji_aload_n dX8_setStyle_64 rfl trivial ?_
                          refine ji_get (ci := 8) (k := 8) rfl dX8_setStyle_65 lX8_29 (by decide) (rf_60) rfl ?_
                          refine ji_iload_n dX8_setStyle_68 rfl ?_
                          refine ji_iaload dX8_setStyle_69 (rf_65) (by omega) ?_
                          refine ji_istore dX8_setStyle_70 (by decide) rfl ?_
                          refine ji_aload_n dX8_setStyle_72 rfl trivial ?_
                          refine ji_get (ci := 8) (k := 8) rfl dX8_setStyle_73 lX8_29 (by decide) (rf_60) rfl ?_
                          refine ji_iload_n dX8_setStyle_76 rfl ?_
                          refine ji_iload_n dX8_setStyle_77 rfl ?_
                          refine ji_iastoreE dX8_setStyle_78 (rf_65) (by omega) (rf_s65) ?_
                          refine ji_iload dX8_setStyle_79 rfl ?_
                          exact ji_ireturn dX8_setStyle_81 rfl (rfl) ⟨jr_i (by first | rfl | omega), rfl⟩
                      · try (exfalso; omega)
                        all_goals
                          refine ji_iconst dX8_setStyle_62 ?_
                          exact ji_ireturn dX8_setStyle_63 rfl (rfl) ⟨jr_i (by first | rfl | omega), rfl⟩
                  · try (exfalso; omega)
                    all_goals
                      refine ji_iconst dX8_setStyle_47 ?_
                      refine ji_goto (tgt := 52) dX8_setStyle_48 rfl ?_
                      refine ji_putE (ci := 8) (k := 0) rfl dX8_setStyle_52 lX8_47 (by decide) (rf_60) (by simp [rf_c]) (ji_fitI _) rfl (rf_pth) ?_
                      refine ji_aload_n dX8_setStyle_55 rfl trivial ?_
                      refine ji_get (ci := 8) (k := 0) rfl dX8_setStyle_56 lX8_47 (by decide) (rf_60) rfl ?_
                      refine ji_if_le (tgt := 64) dX8_setStyle_59 rfl (by omega) (fun c59 => ?_) (fun c59 => ?_)
                      · try (exfalso; omega)
                        all_goals
                          refine ji_aload_n dX8_setStyle_64 rfl trivial ?_
                          refine ji_get (ci := 8) (k := 8) rfl dX8_setStyle_65 lX8_29 (by decide) (rf_60) rfl ?_
                          refine ji_iload_n dX8_setStyle_68 rfl ?_
                          refine ji_iaload dX8_setStyle_69 (rf_65) (by omega) ?_
                          refine ji_istore dX8_setStyle_70 (by decide) rfl ?_
                          refine ji_aload_n dX8_setStyle_72 rfl trivial ?_
                          refine ji_get (ci := 8) (k := 8) rfl dX8_setStyle_73 lX8_29 (by decide) (rf_60) rfl ?_
                          refine ji_iload_n dX8_setStyle_76 rfl ?_
                          refine ji_iload_n dX8_setStyle_77 rfl ?_
                          refine ji_iastoreE dX8_setStyle_78 (rf_65) (by omega) (rf_s65) ?_
                          refine ji_iload dX8_setStyle_79 rfl ?_
                          exact ji_ireturn dX8_setStyle_81 rfl (rfl) ⟨jr_i (by first | rfl | omega), rfl⟩
                      · try (exfalso; omega)
                        all_goals
                          refine ji_iconst dX8_setStyle_62 ?_
                          exact ji_ireturn dX8_setStyle_63 rfl (rfl) ⟨jr_i (by first | rfl | omega), rfl⟩
              · try (exfalso; omega)
                all_goals
                  refine ji_iconst dX8_setStyle_36 ?_
                  refine ji_goto (tgt := 41) dX8_setStyle_37 rfl ?_
                  refine ji_istore_n dX8_setStyle_41 (by decide) rfl ?_
                  refine ji_aload_n dX8_setStyle_42 rfl trivial ?_
                  refine ji_iload_n dX8_setStyle_43 rfl ?_
                  refine ji_if_eq (tgt := 51) dX8_setStyle_44 rfl (by omega) (fun c44 => ?_) (fun c44 => ?_)
                  · try (exfalso; omega)
                    all_goals
                      refine ji_iconst dX8_setStyle_51 ?_
                      refine ji_putE (ci := 8) (k := 0) rfl dX8_setStyle_52 lX8_47 (by decide) (rf_60) (by simp [rf_c]) (ji_fitI _) rfl (rf_pth) ?_
                      refine ji_aload_n dX8_setStyle_55 rfl trivial ?_
                      refine ji_get (ci := 8) (k := 0) rfl dX8_setStyle_56 lX8_47 (by decide) (rf_60) rfl ?_
                      refine ji_if_le (tgt := 64) dX8_setStyle_59 rfl (by omega) (fun c59 => ?_) (fun c59 => ?_)
                      · try (exfalso; omega)
                        all_goals
                          refine ji_aload_n dX8_setStyle_64 rfl trivial ?_
                          refine ji_get (ci := 8) (k := 8) rfl dX8_setStyle_65 lX8_29 (by decide) (rf_60) rfl ?_
                          refine ji_iload_n dX8_setStyle_68 rfl ?_
                          refine ji_iaload dX8_setStyle_69 (rf_65) (by omega) ?_
                          refine ji_istore dX8_setStyle_70 (by decide) rfl ?_
                          refine ji_aload_n dX8_setStyle_72 rfl trivial ?_
                          refine ji_get (ci := 8) (k := 8) rfl dX8_setStyle_73 lX8_29 (by decide) (rf_60) rfl ?_
                          refine ji_iload_n dX8_setStyle_76 rfl ?_
                          refine ji_iload_n dX8_setStyle_77 rfl ?_
                          refine ji_iastoreE dX8_setStyle_78 (rf_65) (by omega) (rf_s65) ?_
                          refine ji_iload dX8_setStyle_79 rfl ?_
                          exact ji_ireturn dX8_setStyle_81 rfl (rfl) ⟨jr_i (by first | rfl | omega), rfl⟩
                      · try (exfalso; omega)
                        all_goals
                          refine ji_iconst dX8_setStyle_62 ?_
                          exact ji_ireturn dX8_setStyle_63 rfl (rfl) ⟨jr_i (by first | rfl | omega), rfl⟩
                  · try (exfalso; omega)
                    all_goals
                      refine ji_iconst dX8_setStyle_47 ?_
                      refine ji_goto (tgt := 52) dX8_setStyle_48 rfl ?_
                      refine ji_putE (ci := 8) (k := 0) rfl dX8_setStyle_52 lX8_47 (by decide) (rf_60) (by simp [rf_c]) (ji_fitI _) rfl (rf_pth) ?_
                      refine ji_aload_n dX8_setStyle_55 rfl trivial ?_
                      refine ji_get (ci := 8) (k := 0) rfl dX8_setStyle_56 lX8_47 (by decide) (rf_60) rfl ?_
                      refine ji_if_le (tgt := 64) dX8_setStyle_59 rfl (by omega) (fun c59 => ?_) (fun c59 => ?_)
                      · try (exfalso; omega)
                        all_goals
                          refine ji_aload_n dX8_setStyle_64 rfl trivial ?_
                          refine ji_get (ci := 8) (k := 8) rfl dX8_setStyle_65 lX8_29 (by decide) (rf_60) rfl ?_
                          refine ji_iload_n dX8_setStyle_68 rfl ?_
                          refine ji_iaload dX8_setStyle_69 (rf_65) (by omega) ?_
                          refine ji_istore dX8_setStyle_70 (by decide) rfl ?_
                          refine ji_aload_n dX8_setStyle_72 rfl trivial ?_
                          refine ji_get (ci := 8) (k := 8) rfl dX8_setStyle_73 lX8_29 (by decide) (rf_60) rfl ?_
                          refine ji_iload_n dX8_setStyle_76 rfl ?_
                          refine ji_iload_n dX8_setStyle_77 rfl ?_
                          refine ji_iastoreE dX8_setStyle_78 (rf_65) (by omega) (rf_s65) ?_
                          refine ji_iload dX8_setStyle_79 rfl ?_
                          exact ji_ireturn dX8_setStyle_81 rfl (rfl) ⟨jr_i (by first | rfl | omega), rfl⟩
                      · try (exfalso; omega)
                        all_goals
                          refine ji_iconst dX8_setStyle_62 ?_
                          exact ji_ireturn dX8_setStyle_63 rfl (rfl) ⟨jr_i (by first | rfl | omega), rfl⟩
          · try (exfalso; omega)
            all_goals
              refine ji_iconst dX8_setStyle_25 ?_
              refine ji_goto (tgt := 30) dX8_setStyle_26 rfl ?_
              refine ji_cS dX8_setStyle_30 (r_within (by omega) (by omega) (by omega)) rfl wX8_within sX8_within lX8_50 rfl (Nat.le_of_ble_eq_true rfl) rfl ?_
              refine ji_if_eq (tgt := 40) dX8_setStyle_33 rfl (by omega) (fun c33 => ?_) (fun c33 => ?_)
              · try (exfalso; omega)
                all_goals
                  refine ji_iconst dX8_setStyle_40 ?_
                  refine ji_istore_n dX8_setStyle_41 (by decide) rfl ?_
                  refine ji_aload_n dX8_setStyle_42 rfl trivial ?_
                  refine ji_iload_n dX8_setStyle_43 rfl ?_
                  refine ji_if_eq (tgt := 51) dX8_setStyle_44 rfl (by omega) (fun c44 => ?_) (fun c44 => ?_)
                  · try (exfalso; omega)
                    all_goals
                      refine ji_iconst dX8_setStyle_51 ?_
                      refine ji_putE (ci := 8) (k := 0) rfl dX8_setStyle_52 lX8_47 (by decide) (rf_60) (by simp [rf_c]) (ji_fitI _) rfl (rf_pth) ?_
                      refine ji_aload_n dX8_setStyle_55 rfl trivial ?_
                      refine ji_get (ci := 8) (k := 0) rfl dX8_setStyle_56 lX8_47 (by decide) (rf_60) rfl ?_
                      refine ji_if_le (tgt := 64) dX8_setStyle_59 rfl (by omega) (fun c59 => ?_) (fun c59 => ?_)
                      · try (exfalso; omega)
                        all_goals
                          refine ji_aload_n dX8_setStyle_64 rfl trivial ?_
                          refine ji_get (ci := 8) (k := 8) rfl dX8_setStyle_65 lX8_29 (by decide) (rf_60) rfl ?_
                          refine ji_iload_n dX8_setStyle_68 rfl ?_
                          refine ji_iaload dX8_setStyle_69 (rf_65) (by omega) ?_
                          refine ji_istore dX8_setStyle_70 (by decide) rfl ?_
                          refine ji_aload_n dX8_setStyle_72 rfl trivial ?_
                          refine ji_get (ci := 8) (k := 8) rfl dX8_setStyle_73 lX8_29 (by decide) (rf_60) rfl ?_
                          refine ji_iload_n dX8_setStyle_76 rfl ?_
                          refine ji_iload_n dX8_setStyle_77 rfl ?_
                          refine ji_iastoreE dX8_setStyle_78 (rf_65) (by omega) (rf_s65) ?_
                          refine ji_iload dX8_setStyle_79 rfl ?_
                          exact ji_ireturn dX8_setStyle_81 rfl (rfl) ⟨jr_i (by first | rfl | omega), rfl⟩
                      · try (exfalso; omega)
                        all_goals
                          refine ji_iconst dX8_setStyle_62 ?_
                          exact ji_ireturn dX8_setStyle_63 rfl (rfl) ⟨jr_i (by first | rfl | omega), rfl⟩
                  · try (exfalso; omega)
                    all_goals
                      refine ji_iconst dX8_setStyle_47 ?_
                      refine ji_goto (tgt := 52) dX8_setStyle_48 rfl ?_
                      refine ji_putE (ci := 8) (k := 0) rfl dX8_setStyle_52 lX8_47 (by decide) (rf_60) (by simp [rf_c]) (ji_fitI _) rfl (rf_pth) ?_
                      refine ji_aload_n dX8_setStyle_55 rfl trivial ?_
                      refine ji_get (ci := 8) (k := 0) rfl dX8_setStyle_56 lX8_47 (by decide) (rf_60) rfl ?_
                      refine ji_if_le (tgt := 64) dX8_setStyle_59 rfl (by omega) (fun c59 => ?_) (fun c59 => ?_)
                      · try (exfalso; omega)
                        all_goals
                          refine ji_aload_n dX8_setStyle_64 rfl trivial ?_
                          refine ji_get (ci := 8) (k := 8) rfl dX8_setStyle_65 lX8_29 (by decide) (rf_60) rfl ?_
                          refine ji_iload_n dX8_setStyle_68 rfl ?_
                          refine ji_iaload dX8_setStyle_69 (rf_65) (by omega) ?_
                          refine ji_istore dX8_setStyle_70 (by decide) rfl ?_
                          refine ji_aload_n dX8_setStyle_72 rfl trivial ?_
                          refine ji_get (ci := 8) (k := 8) rfl dX8_setStyle_73 lX8_29 (by decide) (rf_60) rfl ?_
                          refine ji_iload_n dX8_setStyle_76 rfl ?_
                          refine ji_iload_n dX8_setStyle_77 rfl ?_
                          refine ji_iastoreE dX8_setStyle_78 (rf_65) (by omega) (rf_s65) ?_
                          refine ji_iload dX8_setStyle_79 rfl ?_
                          exact ji_ireturn dX8_setStyle_81 rfl (rfl) ⟨jr_i (by first | rfl | omega), rfl⟩
                      · try (exfalso; omega)
                        all_goals
                          refine ji_iconst dX8_setStyle_62 ?_
                          exact ji_ireturn dX8_setStyle_63 rfl (rfl) ⟨jr_i (by first | rfl | omega), rfl⟩
              · try (exfalso; omega)
                all_goals
                  refine ji_iconst dX8_setStyle_36 ?_
                  refine ji_goto (tgt := 41) dX8_setStyle_37 rfl ?_
                  refine ji_istore_n dX8_setStyle_41 (by decide) rfl ?_
                  refine ji_aload_n dX8_setStyle_42 rfl trivial ?_
                  refine ji_iload_n dX8_setStyle_43 rfl ?_
                  refine ji_if_eq (tgt := 51) dX8_setStyle_44 rfl (by omega) (fun c44 => ?_) (fun c44 => ?_)
                  · try (exfalso; omega)
                    all_goals
                      refine ji_iconst dX8_setStyle_51 ?_
                      refine ji_putE (ci := 8) (k := 0) rfl dX8_setStyle_52 lX8_47 (by decide) (rf_60) (by simp [rf_c]) (ji_fitI _) rfl (rf_pth) ?_
                      refine ji_aload_n dX8_setStyle_55 rfl trivial ?_
                      refine ji_get (ci := 8) (k := 0) rfl dX8_setStyle_56 lX8_47 (by decide) (rf_60) rfl ?_
                      refine ji_if_le (tgt := 64) dX8_setStyle_59 rfl (by omega) (fun c59 => ?_) (fun c59 => ?_)
                      · try (exfalso; omega)
                        all_goals
                          refine ji_aload_n dX8_setStyle_64 rfl trivial ?_
                          refine ji_get (ci := 8) (k := 8) rfl dX8_setStyle_65 lX8_29 (by decide) (rf_60) rfl ?_
                          refine ji_iload_n dX8_setStyle_68 rfl ?_
                          refine ji_iaload dX8_setStyle_69 (rf_65) (by omega) ?_
                          refine ji_istore dX8_setStyle_70 (by decide) rfl ?_
                          refine ji_aload_n dX8_setStyle_72 rfl trivial ?_
                          refine ji_get (ci := 8) (k := 8) rfl dX8_setStyle_73 lX8_29 (by decide) (rf_60) rfl ?_
                          refine ji_iload_n dX8_setStyle_76 rfl ?_
                          refine ji_iload_n dX8_setStyle_77 rfl ?_
                          refine ji_iastoreE dX8_setStyle_78 (rf_65) (by omega) (rf_s65) ?_
                          refine ji_iload dX8_setStyle_79 rfl ?_
                          exact ji_ireturn dX8_setStyle_81 rfl (rfl) ⟨jr_i (by first | rfl | omega), rfl⟩
                      · try (exfalso; omega)
                        all_goals
                          refine ji_iconst dX8_setStyle_62 ?_
                          exact ji_ireturn dX8_setStyle_63 rfl (rfl) ⟨jr_i (by first | rfl | omega), rfl⟩
                  · try (exfalso; omega)
                    all_goals
                      refine ji_iconst dX8_setStyle_47 ?_
                      refine ji_goto (tgt := 52) dX8_setStyle_48 rfl ?_
                      refine ji_putE (ci := 8) (k := 0) rfl dX8_setStyle_52 lX8_47 (by decide) (rf_60) (by simp [rf_c]) (ji_fitI _) rfl (rf_pth) ?_
                      refine ji_aload_n dX8_setStyle_55 rfl trivial ?_
                      refine ji_get (ci := 8) (k := 0) rfl dX8_setStyle_56 lX8_47 (by decide) (rf_60) rfl ?_
                      refine ji_if_le (tgt := 64) dX8_setStyle_59 rfl (by omega) (fun c59 => ?_) (fun c59 => ?_)
                      · try (exfalso; omega)
                        all_goals
                          refine ji_aload_n dX8_setStyle_64 rfl trivial ?_
                          refine ji_get (ci := 8) (k := 8) rfl dX8_setStyle_65 lX8_29 (by decide) (rf_60) rfl ?_
                          refine ji_iload_n dX8_setStyle_68 rfl ?_
                          refine ji_iaload dX8_setStyle_69 (rf_65) (by omega) ?_
                          refine ji_istore dX8_setStyle_70 (by decide) rfl ?_
                          refine ji_aload_n dX8_setStyle_72 rfl trivial ?_
                          refine ji_get (ci := 8) (k := 8) rfl dX8_setStyle_73 lX8_29 (by decide) (rf_60) rfl ?_
                          refine ji_iload_n dX8_setStyle_76 rfl ?_
                          refine ji_iload_n dX8_setStyle_77 rfl ?_
                          refine ji_iastoreE dX8_setStyle_78 (rf_65) (by omega) (rf_s65) ?_
                          refine ji_iload dX8_setStyle_79 rfl ?_
                          exact ji_ireturn dX8_setStyle_81 rfl (rfl) ⟨jr_i (by first | rfl | omega), rfl⟩
                      · try (exfalso; omega)
                        all_goals
                          refine ji_iconst dX8_setStyle_62 ?_
                          exact ji_ireturn dX8_setStyle_63 rfl (rfl) ⟨jr_i (by first | rfl | omega), rfl⟩
      · try (exfalso; omega)
        all_goals
          refine ji_iconst dX8_setStyle_16 ?_
          refine ji_goto (tgt := 30) dX8_setStyle_17 rfl ?_
          refine ji_cS dX8_setStyle_30 (r_within (by omega) (by omega) (by omega)) rfl wX8_within sX8_within lX8_50 rfl (Nat.le_of_ble_eq_true rfl) rfl ?_
          refine ji_if_eq (tgt := 40) dX8_setStyle_33 rfl (by omega) (fun c33 => ?_) (fun c33 => ?_)
          · try (exfalso; omega)
            all_goals
              refine ji_iconst dX8_setStyle_40 ?_
              refine ji_istore_n dX8_setStyle_41 (by decide) rfl ?_
              refine ji_aload_n dX8_setStyle_42 rfl trivial ?_
              refine ji_iload_n dX8_setStyle_43 rfl ?_
              refine ji_if_eq (tgt := 51) dX8_setStyle_44 rfl (by omega) (fun c44 => ?_) (fun c44 => ?_)
              · try (exfalso; omega)
                all_goals
                  refine ji_iconst dX8_setStyle_51 ?_
                  refine ji_putE (ci := 8) (k := 0) rfl dX8_setStyle_52 lX8_47 (by decide) (rf_60) (by simp [rf_c]) (ji_fitI _) rfl (rf_pth) ?_
                  refine ji_aload_n dX8_setStyle_55 rfl trivial ?_
                  refine ji_get (ci := 8) (k := 0) rfl dX8_setStyle_56 lX8_47 (by decide) (rf_60) rfl ?_
                  refine ji_if_le (tgt := 64) dX8_setStyle_59 rfl (by omega) (fun c59 => ?_) (fun c59 => ?_)
                  · try (exfalso; omega)
                    all_goals
                      refine ji_aload_n dX8_setStyle_64 rfl trivial ?_
                      refine ji_get (ci := 8) (k := 8) rfl dX8_setStyle_65 lX8_29 (by decide) (rf_60) rfl ?_
                      refine ji_iload_n dX8_setStyle_68 rfl ?_
                      refine ji_iaload dX8_setStyle_69 (rf_65) (by omega) ?_
                      refine ji_istore dX8_setStyle_70 (by decide) rfl ?_
                      refine ji_aload_n dX8_setStyle_72 rfl trivial ?_
                      refine ji_get (ci := 8) (k := 8) rfl dX8_setStyle_73 lX8_29 (by decide) (rf_60) rfl ?_
                      refine ji_iload_n dX8_setStyle_76 rfl ?_
                      refine ji_iload_n dX8_setStyle_77 rfl ?_
                      refine ji_iastoreE dX8_setStyle_78 (rf_65) (by omega) (rf_s65) ?_
                      refine ji_iload dX8_setStyle_79 rfl ?_
                      exact ji_ireturn dX8_setStyle_81 rfl (rfl) ⟨jr_i (by first | rfl | omega), rfl⟩
                  · try (exfalso; omega)
                    all_goals
                      refine ji_iconst dX8_setStyle_62 ?_
                      exact ji_ireturn dX8_setStyle_63 rfl (rfl) ⟨jr_i (by first | rfl | omega), rfl⟩
              · try (exfalso; omega)
                all_goals
                  refine ji_iconst dX8_setStyle_47 ?_
                  refine ji_goto (tgt := 52) dX8_setStyle_48 rfl ?_
                  refine ji_putE (ci := 8) (k := 0) rfl dX8_setStyle_52 lX8_47 (by decide) (rf_60) (by simp [rf_c]) (ji_fitI _) rfl (rf_pth) ?_
                  refine ji_aload_n dX8_setStyle_55 rfl trivial ?_
                  refine ji_get (ci := 8) (k := 0) rfl dX8_setStyle_56 lX8_47 (by decide) (rf_60) rfl ?_
                  refine ji_if_le (tgt := 64) dX8_setStyle_59 rfl (by omega) (fun c59 => ?_) (fun c59 => ?_)
                  · try (exfalso; omega)
                    all_goals
                      refine ji_aload_n dX8_setStyle_64 rfl trivial ?_
                      refine ji_get (ci := 8) (k := 8) rfl dX8_setStyle_65 lX8_29 (by decide) (rf_60) rfl ?_
                      refine ji_iload_n dX8_setStyle_68 rfl ?_
                      refine ji_iaload dX8_setStyle_69 (rf_65) (by omega) ?_
                      refine ji_istore dX8_setStyle_70 (by decide) rfl ?_
                      refine ji_aload_n dX8_setStyle_72 rfl trivial ?_
                      refine ji_get (ci := 8) (k := 8) rfl dX8_setStyle_73 lX8_29 (by decide) (rf_60) rfl ?_
                      refine ji_iload_n dX8_setStyle_76 rfl ?_
                      refine ji_iload_n dX8_setStyle_77 rfl ?_
                      refine ji_iastoreE dX8_setStyle_78 (rf_65) (by omega) (rf_s65) ?_
                      refine ji_iload dX8_setStyle_79 rfl ?_
                      exact ji_ireturn dX8_setStyle_81 rfl (rfl) ⟨jr_i (by first | rfl | omega), rfl⟩
                  · try (exfalso; omega)
                    all_goals
                      refine ji_iconst dX8_setStyle_62 ?_
                      exact ji_ireturn dX8_setStyle_63 rfl (rfl) ⟨jr_i (by first | rfl | omega), rfl⟩
          · try (exfalso; omega)
            all_goals
              refine ji_iconst dX8_setStyle_36 ?_
              refine ji_goto (tgt := 41) dX8_setStyle_37 rfl ?_
              refine ji_istore_n dX8_setStyle_41 (by decide) rfl ?_
              refine ji_aload_n dX8_setStyle_42 rfl trivial ?_
              refine ji_iload_n dX8_setStyle_43 rfl ?_
              refine ji_if_eq (tgt := 51) dX8_setStyle_44 rfl (by omega) (fun c44 => ?_) (fun c44 => ?_)
              · try (exfalso; omega)
                all_goals
                  refine ji_iconst dX8_setStyle_51 ?_
                  refine ji_putE (ci := 8) (k := 0) rfl dX8_setStyle_52 lX8_47 (by decide) (rf_60) (by simp [rf_c]) (ji_fitI _) rfl (rf_pth) ?_
                  refine ji_aload_n dX8_setStyle_55 rfl trivial ?_
                  refine ji_get (ci := 8) (k := 0) rfl dX8_setStyle_56 lX8_47 (by decide) (rf_60) rfl ?_
                  refine ji_if_le (tgt := 64) dX8_setStyle_59 rfl (by omega) (fun c59 => ?_) (fun c59 => ?_)
                  · try (exfalso; omega)
                    all_goals
                      refine ji_aload_n dX8_setStyle_64 rfl trivial ?_
                      refine ji_get (ci := 8) (k := 8) rfl dX8_setStyle_65 lX8_29 (by decide) (rf_60) rfl ?_
                      refine ji_iload_n dX8_setStyle_68 rfl ?_
                      refine ji_iaload dX8_setStyle_69 (rf_65) (by omega) ?_
                      refine ji_istore dX8_setStyle_70 (by decide) rfl ?_
                      refine ji_aload_n dX8_setStyle_72 rfl trivial ?_
                      refine ji_get (ci := 8) (k := 8) rfl dX8_setStyle_73 lX8_29 (by decide) (rf_60) rfl ?_
                      refine ji_iload_n dX8_setStyle_76 rfl ?_
                      refine ji_iload_n dX8_setStyle_77 rfl ?_
                      refine ji_iastoreE dX8_setStyle_78 (rf_65) (by omega) (rf_s65) ?_
                      refine ji_iload dX8_setStyle_79 rfl ?_
                      exact ji_ireturn dX8_setStyle_81 rfl (rfl) ⟨jr_i (by first | rfl | omega), rfl⟩
                  · try (exfalso; omega)
                    all_goals
                      refine ji_iconst dX8_setStyle_62 ?_
                      exact ji_ireturn dX8_setStyle_63 rfl (rfl) ⟨jr_i (by first | rfl | omega), rfl⟩
              · try (exfalso; omega)
                all_goals
                  refine ji_iconst dX8_setStyle_47 ?_
                  refine ji_goto (tgt := 52) dX8_setStyle_48 rfl ?_
                  refine ji_putE (ci := 8) (k := 0) rfl dX8_setStyle_52 lX8_47 (by decide) (rf_60) (by simp [rf_c]) (ji_fitI _) rfl (rf_pth) ?_
                  refine ji_aload_n dX8_setStyle_55 rfl trivial ?_
                  refine ji_get (ci := 8) (k := 0) rfl dX8_setStyle_56 lX8_47 (by decide) (rf_60) rfl ?_
                  refine ji_if_le (tgt := 64) dX8_setStyle_59 rfl (by omega) (fun c59 => ?_) (fun c59 => ?_)
                  · try (exfalso; omega)
                    all_goals
                      refine ji_aload_n dX8_setStyle_64 rfl trivial ?_
                      refine ji_get (ci := 8) (k := 8) rfl dX8_setStyle_65 lX8_29 (by decide) (rf_60) rfl ?_
                      refine ji_iload_n dX8_setStyle_68 rfl ?_
                      refine ji_iaload dX8_setStyle_69 (rf_65) (by omega) ?_
                      refine ji_istore dX8_setStyle_70 (by decide) rfl ?_
                      refine ji_aload_n dX8_setStyle_72 rfl trivial ?_
                      refine ji_get (ci := 8) (k := 8) rfl dX8_setStyle_73 lX8_29 (by decide) (rf_60) rfl ?_
                      refine ji_iload_n dX8_setStyle_76 rfl ?_
                      refine ji_iload_n dX8_setStyle_77 rfl ?_
                      refine ji_iastoreE dX8_setStyle_78 (rf_65) (by omega) (rf_s65) ?_
                      refine ji_iload dX8_setStyle_79 rfl ?_
                      exact ji_ireturn dX8_setStyle_81 rfl (rfl) ⟨jr_i (by first | rfl | omega), rfl⟩
                  · try (exfalso; omega)
                    all_goals
                      refine ji_iconst dX8_setStyle_62 ?_
                      exact ji_ireturn dX8_setStyle_63 rfl (rfl) ⟨jr_i (by first | rfl | omega), rfl⟩

set_option maxHeartbeats 4000000 in
set_option maxRecDepth 100000 in
theorem r_setStyle {v m : Int} (hv : 0 ≤ v ∧ v < 5) (hx : 0 ≤ m ∧ m ≤ st_lim v) : JR G (d + 1) mX8_setStyle [.ref 60, .int (jI v), .int (jI m)] (n, rf_f f th z kp ed nt nl wi ht sy sz bf rs rr rq rp mm ln lo lf lt co ro pg pf hsh) 0 0 (some (.int (jI (sy v.toNat)))) (n, rf_f f 0 z kp ed nt nl wi ht (va_up sy v.toNat m) sz bf rs rr rq rp mm ln lo lf lt co ro pg pf hsh) := by
  have wl : (v < 2 → st_lim v = 4) ∧ (v = 2 → st_lim v = 2) ∧ (2 < v → st_lim v = 1) := by unfold st_lim; (repeat' split) <;> omega
  have w_v_0_4 := rf_in_d v 0 4
  have w_m_0_4 := rf_in_d m 0 4
  have w_m_0_2 := rf_in_d m 0 2
  have w_m_0_1 := rf_in_d m 0 1
  refine ji_ent (by decide) rfl (Nat.le_of_ble_eq_true rfl) rfl ?_
  refine ji_iload_n dX8_setStyle_0 rfl ?_
  refine ji_iconst dX8_setStyle_1 ?_
  refine ji_iconst dX8_setStyle_2 ?_
  refine ji_cS dX8_setStyle_3 (r_within (by omega) (by omega) (by omega)) rfl wX8_within sX8_within lX8_50 rfl (Nat.le_of_ble_eq_true rfl) rfl ?_
  refine ji_if_eq (tgt := 40) dX8_setStyle_6 rfl (by omega) (fun c6 => ?_) (fun c6 => ?_)
  · try (exfalso; omega)
    all_goals
      refine ji_iconst dX8_setStyle_40 ?_
      refine ji_istore_n dX8_setStyle_41 (by decide) rfl ?_
      refine ji_aload_n dX8_setStyle_42 rfl trivial ?_
      refine ji_iload_n dX8_setStyle_43 rfl ?_
      refine ji_if_eq (tgt := 51) dX8_setStyle_44 rfl (by omega) (fun c44 => ?_) (fun c44 => ?_)
      · try (exfalso; omega)
        all_goals
          refine ji_iconst dX8_setStyle_51 ?_
          refine ji_putE (ci := 8) (k := 0) rfl dX8_setStyle_52 lX8_47 (by decide) (rf_60) (by simp [rf_c]) (ji_fitI _) rfl (rf_pth) ?_
          refine ji_aload_n dX8_setStyle_55 rfl trivial ?_
          refine ji_get (ci := 8) (k := 0) rfl dX8_setStyle_56 lX8_47 (by decide) (rf_60) rfl ?_
          refine ji_if_le (tgt := 64) dX8_setStyle_59 rfl (by omega) (fun c59 => ?_) (fun c59 => ?_)
          · try (exfalso; omega)
            all_goals
              refine ji_aload_n dX8_setStyle_64 rfl trivial ?_
              refine ji_get (ci := 8) (k := 8) rfl dX8_setStyle_65 lX8_29 (by decide) (rf_60) rfl ?_
              refine ji_iload_n dX8_setStyle_68 rfl ?_
              refine ji_iaload dX8_setStyle_69 (rf_65) (by omega) ?_
              refine ji_istore dX8_setStyle_70 (by decide) rfl ?_
              refine ji_aload_n dX8_setStyle_72 rfl trivial ?_
              refine ji_get (ci := 8) (k := 8) rfl dX8_setStyle_73 lX8_29 (by decide) (rf_60) rfl ?_
              refine ji_iload_n dX8_setStyle_76 rfl ?_
              refine ji_iload_n dX8_setStyle_77 rfl ?_
              refine ji_iastoreE dX8_setStyle_78 (rf_65) (by omega) (rf_s65) ?_
              refine ji_iload dX8_setStyle_79 rfl ?_
              exact ji_ireturn dX8_setStyle_81 rfl (rfl) ⟨jr_i (by first | rfl | omega), rfl⟩
          · try (exfalso; omega)
            all_goals
              refine ji_iconst dX8_setStyle_62 ?_
              exact ji_ireturn dX8_setStyle_63 rfl (rfl) ⟨jr_i (by first | rfl | omega), rfl⟩
      · try (exfalso; omega)
        all_goals
          refine ji_iconst dX8_setStyle_47 ?_
          refine ji_goto (tgt := 52) dX8_setStyle_48 rfl ?_
          refine ji_putE (ci := 8) (k := 0) rfl dX8_setStyle_52 lX8_47 (by decide) (rf_60) (by simp [rf_c]) (ji_fitI _) rfl (rf_pth) ?_
          refine ji_aload_n dX8_setStyle_55 rfl trivial ?_
          refine ji_get (ci := 8) (k := 0) rfl dX8_setStyle_56 lX8_47 (by decide) (rf_60) rfl ?_
          refine ji_if_le (tgt := 64) dX8_setStyle_59 rfl (by omega) (fun c59 => ?_) (fun c59 => ?_)
          · try (exfalso; omega)
            all_goals
              refine ji_aload_n dX8_setStyle_64 rfl trivial ?_
              refine ji_get (ci := 8) (k := 8) rfl dX8_setStyle_65 lX8_29 (by decide) (rf_60) rfl ?_
              refine ji_iload_n dX8_setStyle_68 rfl ?_
              refine ji_iaload dX8_setStyle_69 (rf_65) (by omega) ?_
              refine ji_istore dX8_setStyle_70 (by decide) rfl ?_
              refine ji_aload_n dX8_setStyle_72 rfl trivial ?_
              refine ji_get (ci := 8) (k := 8) rfl dX8_setStyle_73 lX8_29 (by decide) (rf_60) rfl ?_
              refine ji_iload_n dX8_setStyle_76 rfl ?_
              refine ji_iload_n dX8_setStyle_77 rfl ?_
              refine ji_iastoreE dX8_setStyle_78 (rf_65) (by omega) (rf_s65) ?_
              refine ji_iload dX8_setStyle_79 rfl ?_
              exact ji_ireturn dX8_setStyle_81 rfl (rfl) ⟨jr_i (by first | rfl | omega), rfl⟩
          · try (exfalso; omega)
            all_goals
              refine ji_iconst dX8_setStyle_62 ?_
              exact ji_ireturn dX8_setStyle_63 rfl (rfl) ⟨jr_i (by first | rfl | omega), rfl⟩
  · try (exfalso; omega)
    all_goals
      refine ji_iload_n dX8_setStyle_9 rfl ?_
      refine ji_iconst dX8_setStyle_10 ?_
      refine ji_iload_n dX8_setStyle_11 rfl ?_
      refine ji_iconst dX8_setStyle_12 ?_
      refine ji_icmp_ge (tgt := 20) dX8_setStyle_13 rfl (by omega) (by omega) (fun c13 => ?_) (fun c13 => ?_)
      · try (exfalso; omega)
        all_goals
          refine ji_iload_n dX8_setStyle_20 rfl ?_
          refine ji_iconst dX8_setStyle_21 ?_
          refine ji_icmp_ne (tgt := 29) dX8_setStyle_22 rfl (by omega) (by omega) (fun c22 => ?_) (fun c22 => ?_)
          · try (exfalso; omega)
            all_goals
              refine ji_iconst dX8_setStyle_29 ?_
              refine ji_cS dX8_setStyle_30 (r_within (by omega) (by omega) (by omega)) rfl wX8_within sX8_within lX8_50 rfl (Nat.le_of_ble_eq_true rfl) rfl ?_
              refine ji_if_eq (tgt := 40) dX8_setStyle_33 rfl (by omega) (fun c33 => ?_) (fun c33 => ?_)
              · try (exfalso; omega)
                all_goals
                  refine ji_iconst dX8_setStyle_40 ?_
                  refine ji_istore_n dX8_setStyle_41 (by decide) rfl ?_
                  refine ji_aload_n dX8_setStyle_42 rfl trivial ?_
                  refine ji_iload_n dX8_setStyle_43 rfl ?_
                  refine ji_if_eq (tgt := 51) dX8_setStyle_44 rfl (by omega) (fun c44 => ?_) (fun c44 => ?_)
                  · try (exfalso; omega)
                    all_goals
                      refine ji_iconst dX8_setStyle_51 ?_
                      refine ji_putE (ci := 8) (k := 0) rfl dX8_setStyle_52 lX8_47 (by decide) (rf_60) (by simp [rf_c]) (ji_fitI _) rfl (rf_pth) ?_
                      refine ji_aload_n dX8_setStyle_55 rfl trivial ?_
                      refine ji_get (ci := 8) (k := 0) rfl dX8_setStyle_56 lX8_47 (by decide) (rf_60) rfl ?_
                      refine ji_if_le (tgt := 64) dX8_setStyle_59 rfl (by omega) (fun c59 => ?_) (fun c59 => ?_)
                      · try (exfalso; omega)
                        all_goals
                          refine ji_aload_n dX8_setStyle_64 rfl trivial ?_
                          refine ji_get (ci := 8) (k := 8) rfl dX8_setStyle_65 lX8_29 (by decide) (rf_60) rfl ?_
                          refine ji_iload_n dX8_setStyle_68 rfl ?_
                          refine ji_iaload dX8_setStyle_69 (rf_65) (by omega) ?_
                          refine ji_istore dX8_setStyle_70 (by decide) rfl ?_
                          refine ji_aload_n dX8_setStyle_72 rfl trivial ?_
                          refine ji_get (ci := 8) (k := 8) rfl dX8_setStyle_73 lX8_29 (by decide) (rf_60) rfl ?_
                          refine ji_iload_n dX8_setStyle_76 rfl ?_
                          refine ji_iload_n dX8_setStyle_77 rfl ?_
                          refine ji_iastoreE dX8_setStyle_78 (rf_65) (by omega) (rf_s65) ?_
                          refine ji_iload dX8_setStyle_79 rfl ?_
                          exact ji_ireturn dX8_setStyle_81 rfl (rfl) ⟨jr_i (by first | rfl | omega), rfl⟩
                      · try (exfalso; omega)
                        all_goals
                          refine ji_iconst dX8_setStyle_62 ?_
                          exact ji_ireturn dX8_setStyle_63 rfl (rfl) ⟨jr_i (by first | rfl | omega), rfl⟩
                  · try (exfalso; omega)
                    all_goals
                      refine ji_iconst dX8_setStyle_47 ?_
                      refine ji_goto (tgt := 52) dX8_setStyle_48 rfl ?_
                      refine ji_putE (ci := 8) (k := 0) rfl dX8_setStyle_52 lX8_47 (by decide) (rf_60) (by simp [rf_c]) (ji_fitI _) rfl (rf_pth) ?_
                      refine ji_aload_n dX8_setStyle_55 rfl trivial ?_
                      refine ji_get (ci := 8) (k := 0) rfl dX8_setStyle_56 lX8_47 (by decide) (rf_60) rfl ?_
                      refine ji_if_le (tgt := 64) dX8_setStyle_59 rfl (by omega) (fun c59 => ?_) (fun c59 => ?_)
                      · try (exfalso; omega)
                        all_goals
                          refine ji_aload_n dX8_setStyle_64 rfl trivial ?_
                          refine ji_get (ci := 8) (k := 8) rfl dX8_setStyle_65 lX8_29 (by decide) (rf_60) rfl ?_
                          refine ji_iload_n dX8_setStyle_68 rfl ?_
                          refine ji_iaload dX8_setStyle_69 (rf_65) (by omega) ?_
                          refine ji_istore dX8_setStyle_70 (by decide) rfl ?_
                          refine ji_aload_n dX8_setStyle_72 rfl trivial ?_
                          refine ji_get (ci := 8) (k := 8) rfl dX8_setStyle_73 lX8_29 (by decide) (rf_60) rfl ?_
                          refine ji_iload_n dX8_setStyle_76 rfl ?_
                          refine ji_iload_n dX8_setStyle_77 rfl ?_
                          refine ji_iastoreE dX8_setStyle_78 (rf_65) (by omega) (rf_s65) ?_
                          refine ji_iload dX8_setStyle_79 rfl ?_
                          exact ji_ireturn dX8_setStyle_81 rfl (rfl) ⟨jr_i (by first | rfl | omega), rfl⟩
                      · try (exfalso; omega)
                        all_goals
                          refine ji_iconst dX8_setStyle_62 ?_
                          exact ji_ireturn dX8_setStyle_63 rfl (rfl) ⟨jr_i (by first | rfl | omega), rfl⟩
              · try (exfalso; omega)
                all_goals
                  refine ji_iconst dX8_setStyle_36 ?_
                  refine ji_goto (tgt := 41) dX8_setStyle_37 rfl ?_
                  refine ji_istore_n dX8_setStyle_41 (by decide) rfl ?_
                  refine ji_aload_n dX8_setStyle_42 rfl trivial ?_
                  refine ji_iload_n dX8_setStyle_43 rfl ?_
                  refine ji_if_eq (tgt := 51) dX8_setStyle_44 rfl (by omega) (fun c44 => ?_) (fun c44 => ?_)
                  · try (exfalso; omega)
                    all_goals
                      refine ji_iconst dX8_setStyle_51 ?_
                      refine ji_putE (ci := 8) (k := 0) rfl dX8_setStyle_52 lX8_47 (by decide) (rf_60) (by simp [rf_c]) (ji_fitI _) rfl (rf_pth) ?_
                      refine ji_aload_n dX8_setStyle_55 rfl trivial ?_
                      refine ji_get (ci := 8) (k := 0) rfl dX8_setStyle_56 lX8_47 (by decide) (rf_60) rfl ?_
                      refine ji_if_le (tgt := 64) dX8_setStyle_59 rfl (by omega) (fun c59 => ?_) (fun c59 => ?_)
                      · try (exfalso; omega)
                        all_goals
                          refine ji_aload_n dX8_setStyle_64 rfl trivial ?_
                          refine ji_get (ci := 8) (k := 8) rfl dX8_setStyle_65 lX8_29 (by decide) (rf_60) rfl ?_
                          refine ji_iload_n dX8_setStyle_68 rfl ?_
                          refine ji_iaload dX8_setStyle_69 (rf_65) (by omega) ?_
                          refine ji_istore dX8_setStyle_70 (by decide) rfl ?_
                          refine ji_aload_n dX8_setStyle_72 rfl trivial ?_
                          refine ji_get (ci := 8) (k := 8) rfl dX8_setStyle_73 lX8_29 (by decide) (rf_60) rfl ?_
                          refine ji_iload_n dX8_setStyle_76 rfl ?_
                          refine ji_iload_n dX8_setStyle_77 rfl ?_
                          refine ji_iastoreE dX8_setStyle_78 (rf_65) (by omega) (rf_s65) ?_
                          refine ji_iload dX8_setStyle_79 rfl ?_
                          exact ji_ireturn dX8_setStyle_81 rfl (rfl) ⟨jr_i (by first | rfl | omega), rfl⟩
                      · try (exfalso; omega)
                        all_goals
                          refine ji_iconst dX8_setStyle_62 ?_
                          exact ji_ireturn dX8_setStyle_63 rfl (rfl) ⟨jr_i (by first | rfl | omega), rfl⟩
                  · try (exfalso; omega)
                    all_goals
                      refine ji_iconst dX8_setStyle_47 ?_
                      refine ji_goto (tgt := 52) dX8_setStyle_48 rfl ?_
                      refine ji_putE (ci := 8) (k := 0) rfl dX8_setStyle_52 lX8_47 (by decide) (rf_60) (by simp [rf_c]) (ji_fitI _) rfl (rf_pth) ?_
                      refine ji_aload_n dX8_setStyle_55 rfl trivial ?_
                      refine ji_get (ci := 8) (k := 0) rfl dX8_setStyle_56 lX8_47 (by decide) (rf_60) rfl ?_
                      refine ji_if_le (tgt := 64) dX8_setStyle_59 rfl (by omega) (fun c59 => ?_) (fun c59 => ?_)
                      · try (exfalso; omega)
                        all_goals
                          refine ji_aload_n dX8_setStyle_64 rfl trivial ?_
                          refine ji_get (ci := 8) (k := 8) rfl dX8_setStyle_65 lX8_29 (by decide) (rf_60) rfl ?_
                          refine ji_iload_n dX8_setStyle_68 rfl ?_
                          refine ji_iaload dX8_setStyle_69 (rf_65) (by omega) ?_
                          refine ji_istore dX8_setStyle_70 (by decide) rfl ?_
                          refine ji_aload_n dX8_setStyle_72 rfl trivial ?_
                          refine ji_get (ci := 8) (k := 8) rfl dX8_setStyle_73 lX8_29 (by decide) (rf_60) rfl ?_
                          refine ji_iload_n dX8_setStyle_76 rfl ?_
                          refine ji_iload_n dX8_setStyle_77 rfl ?_
                          refine ji_iastoreE dX8_setStyle_78 (rf_65) (by omega) (rf_s65) ?_
                          refine ji_iload dX8_setStyle_79 rfl ?_
                          exact ji_ireturn dX8_setStyle_81 rfl (rfl) ⟨jr_i (by first | rfl | omega), rfl⟩
                      · try (exfalso; omega)
                        all_goals
                          refine ji_iconst dX8_setStyle_62 ?_
                          exact ji_ireturn dX8_setStyle_63 rfl (rfl) ⟨jr_i (by first | rfl | omega), rfl⟩
          · try (exfalso; omega)
            all_goals
              refine ji_iconst dX8_setStyle_25 ?_
              refine ji_goto (tgt := 30) dX8_setStyle_26 rfl ?_
              refine ji_cS dX8_setStyle_30 (r_within (by omega) (by omega) (by omega)) rfl wX8_within sX8_within lX8_50 rfl (Nat.le_of_ble_eq_true rfl) rfl ?_
              refine ji_if_eq (tgt := 40) dX8_setStyle_33 rfl (by omega) (fun c33 => ?_) (fun c33 => ?_)
              · try (exfalso; omega)
                all_goals
                  refine ji_iconst dX8_setStyle_40 ?_
                  refine ji_istore_n dX8_setStyle_41 (by decide) rfl ?_
                  refine ji_aload_n dX8_setStyle_42 rfl trivial ?_
                  refine ji_iload_n dX8_setStyle_43 rfl ?_
                  refine ji_if_eq (tgt := 51) dX8_setStyle_44 rfl (by omega) (fun c44 => ?_) (fun c44 => ?_)
                  · try (exfalso; omega)
                    all_goals
                      refine ji_iconst dX8_setStyle_51 ?_
                      refine ji_putE (ci := 8) (k := 0) rfl dX8_setStyle_52 lX8_47 (by decide) (rf_60) (by simp [rf_c]) (ji_fitI _) rfl (rf_pth) ?_
                      refine ji_aload_n dX8_setStyle_55 rfl trivial ?_
                      refine ji_get (ci := 8) (k := 0) rfl dX8_setStyle_56 lX8_47 (by decide) (rf_60) rfl ?_
                      refine ji_if_le (tgt := 64) dX8_setStyle_59 rfl (by omega) (fun c59 => ?_) (fun c59 => ?_)
                      · try (exfalso; omega)
                        all_goals
                          refine ji_aload_n dX8_setStyle_64 rfl trivial ?_
                          refine ji_get (ci := 8) (k := 8) rfl dX8_setStyle_65 lX8_29 (by decide) (rf_60) rfl ?_
                          refine ji_iload_n dX8_setStyle_68 rfl ?_
                          refine ji_iaload dX8_setStyle_69 (rf_65) (by omega) ?_
                          refine ji_istore dX8_setStyle_70 (by decide) rfl ?_
                          refine ji_aload_n dX8_setStyle_72 rfl trivial ?_
                          refine ji_get (ci := 8) (k := 8) rfl dX8_setStyle_73 lX8_29 (by decide) (rf_60) rfl ?_
                          refine ji_iload_n dX8_setStyle_76 rfl ?_
                          refine ji_iload_n dX8_setStyle_77 rfl ?_
                          refine ji_iastoreE dX8_setStyle_78 (rf_65) (by omega) (rf_s65) ?_
                          refine ji_iload dX8_setStyle_79 rfl ?_
                          exact ji_ireturn dX8_setStyle_81 rfl (rfl) ⟨jr_i (by first | rfl | omega), rfl⟩
                      · try (exfalso; omega)
                        all_goals
                          refine ji_iconst dX8_setStyle_62 ?_
                          exact ji_ireturn dX8_setStyle_63 rfl (rfl) ⟨jr_i (by first | rfl | omega), rfl⟩
                  · try (exfalso; omega)
                    all_goals
                      refine ji_iconst dX8_setStyle_47 ?_
                      refine ji_goto (tgt := 52) dX8_setStyle_48 rfl ?_
                      refine ji_putE (ci := 8) (k := 0) rfl dX8_setStyle_52 lX8_47 (by decide) (rf_60) (by simp [rf_c]) (ji_fitI _) rfl (rf_pth) ?_
                      refine ji_aload_n dX8_setStyle_55 rfl trivial ?_
                      refine ji_get (ci := 8) (k := 0) rfl dX8_setStyle_56 lX8_47 (by decide) (rf_60) rfl ?_
                      refine ji_if_le (tgt := 64) dX8_setStyle_59 rfl (by omega) (fun c59 => ?_) (fun c59 => ?_)
                      · try (exfalso; omega)
                        all_goals
                          refine ji_aload_n dX8_setStyle_64 rfl trivial ?_
                          refine ji_get (ci := 8) (k := 8) rfl dX8_setStyle_65 lX8_29 (by decide) (rf_60) rfl ?_
                          refine ji_iload_n dX8_setStyle_68 rfl ?_
                          refine ji_iaload dX8_setStyle_69 (rf_65) (by omega) ?_
                          refine ji_istore dX8_setStyle_70 (by decide) rfl ?_
                          refine ji_aload_n dX8_setStyle_72 rfl trivial ?_
                          refine ji_get (ci := 8) (k := 8) rfl dX8_setStyle_73 lX8_29 (by decide) (rf_60) rfl ?_
                          refine ji_iload_n dX8_setStyle_76 rfl ?_
                          refine ji_iload_n dX8_setStyle_77 rfl ?_
                          refine ji_iastoreE dX8_setStyle_78 (rf_65) (by omega) (rf_s65) ?_
                          refine ji_iload dX8_setStyle_79 rfl ?_
                          exact ji_ireturn dX8_setStyle_81 rfl (rfl) ⟨jr_i (by first | rfl | omega), rfl⟩
                      · try (exfalso; omega)
                        all_goals
                          refine ji_iconst dX8_setStyle_62 ?_
                          exact ji_ireturn dX8_setStyle_63 rfl (rfl) ⟨jr_i (by first | rfl | omega), rfl⟩
              · try (exfalso; omega)
                all_goals
                  refine ji_iconst dX8_setStyle_36 ?_
                  refine ji_goto (tgt := 41) dX8_setStyle_37 rfl ?_
                  refine ji_istore_n dX8_setStyle_41 (by decide) rfl ?_
                  refine ji_aload_n dX8_setStyle_42 rfl trivial ?_
                  refine ji_iload_n dX8_setStyle_43 rfl ?_
                  refine ji_if_eq (tgt := 51) dX8_setStyle_44 rfl (by omega) (fun c44 => ?_) (fun c44 => ?_)
                  · try (exfalso; omega)
                    all_goals
                      refine ji_iconst dX8_setStyle_51 ?_
                      refine ji_putE (ci := 8) (k := 0) rfl dX8_setStyle_52 lX8_47 (by decide) (rf_60) (by simp [rf_c]) (ji_fitI _) rfl (rf_pth) ?_
                      refine ji_aload_n dX8_setStyle_55 rfl trivial ?_
                      refine ji_get (ci := 8) (k := 0) rfl dX8_setStyle_56 lX8_47 (by decide) (rf_60) rfl ?_
                      refine ji_if_le (tgt := 64) dX8_setStyle_59 rfl (by omega) (fun c59 => ?_) (fun c59 => ?_)
                      · try (exfalso; omega)
                        all_goals
                          refine ji_aload_n dX8_setStyle_64 rfl trivial ?_
                          refine ji_get (ci := 8) (k := 8) rfl dX8_setStyle_65 lX8_29 (by decide) (rf_60) rfl ?_
                          refine ji_iload_n dX8_setStyle_68 rfl ?_
                          refine ji_iaload dX8_setStyle_69 (rf_65) (by omega) ?_
                          refine ji_istore dX8_setStyle_70 (by decide) rfl ?_
                          refine ji_aload_n dX8_setStyle_72 rfl trivial ?_
                          refine ji_get (ci := 8) (k := 8) rfl dX8_setStyle_73 lX8_29 (by decide) (rf_60) rfl ?_
                          refine ji_iload_n dX8_setStyle_76 rfl ?_
                          refine ji_iload_n dX8_setStyle_77 rfl ?_
                          refine ji_iastoreE dX8_setStyle_78 (rf_65) (by omega) (rf_s65) ?_
                          refine ji_iload dX8_setStyle_79 rfl ?_
                          exact ji_ireturn dX8_setStyle_81 rfl (rfl) ⟨jr_i (by first | rfl | omega), rfl⟩
                      · try (exfalso; omega)
                        all_goals
                          refine ji_iconst dX8_setStyle_62 ?_
                          exact ji_ireturn dX8_setStyle_63 rfl (rfl) ⟨jr_i (by first | rfl | omega), rfl⟩
                  · try (exfalso; omega)
                    all_goals
                      refine ji_iconst dX8_setStyle_47 ?_
                      refine ji_goto (tgt := 52) dX8_setStyle_48 rfl ?_
                      refine ji_putE (ci := 8) (k := 0) rfl dX8_setStyle_52 lX8_47 (by decide) (rf_60) (by simp [rf_c]) (ji_fitI _) rfl (rf_pth) ?_
                      refine ji_aload_n dX8_setStyle_55 rfl trivial ?_
                      refine ji_get (ci := 8) (k := 0) rfl dX8_setStyle_56 lX8_47 (by decide) (rf_60) rfl ?_
                      refine ji_if_le (tgt := 64) dX8_setStyle_59 rfl (by omega) (fun c59 => ?_) (fun c59 => ?_)
                      · try (exfalso; omega)
                        all_goals
                          refine ji_aload_n dX8_setStyle_64 rfl trivial ?_
                          refine ji_get (ci := 8) (k := 8) rfl dX8_setStyle_65 lX8_29 (by decide) (rf_60) rfl ?_
                          refine ji_iload_n dX8_setStyle_68 rfl ?_
                          refine ji_iaload dX8_setStyle_69 (rf_65) (by omega) ?_
                          refine ji_istore dX8_setStyle_70 (by decide) rfl ?_
                          refine ji_aload_n dX8_setStyle_72 rfl trivial ?_
                          refine ji_get (ci := 8) (k := 8) rfl dX8_setStyle_73 lX8_29 (by decide) (rf_60) rfl ?_
                          refine ji_iload_n dX8_setStyle_76 rfl ?_
                          refine ji_iload_n dX8_setStyle_77 rfl ?_
                          refine ji_iastoreE dX8_setStyle_78 (rf_65) (by omega) (rf_s65) ?_
                          refine ji_iload dX8_setStyle_79 rfl ?_
                          exact ji_ireturn dX8_setStyle_81 rfl (rfl) ⟨jr_i (by first | rfl | omega), rfl⟩
                      · try (exfalso; omega)
                        all_goals
                          refine ji_iconst dX8_setStyle_62 ?_
                          exact ji_ireturn dX8_setStyle_63 rfl (rfl) ⟨jr_i (by first | rfl | omega), rfl⟩
      · try (exfalso; omega)
        all_goals
          refine ji_iconst dX8_setStyle_16 ?_
          refine ji_goto (tgt := 30) dX8_setStyle_17 rfl ?_
          refine ji_cS dX8_setStyle_30 (r_within (by omega) (by omega) (by omega)) rfl wX8_within sX8_within lX8_50 rfl (Nat.le_of_ble_eq_true rfl) rfl ?_
          refine ji_if_eq (tgt := 40) dX8_setStyle_33 rfl (by omega) (fun c33 => ?_) (fun c33 => ?_)
          · try (exfalso; omega)
            all_goals
              refine ji_iconst dX8_setStyle_40 ?_
              refine ji_istore_n dX8_setStyle_41 (by decide) rfl ?_
              refine ji_aload_n dX8_setStyle_42 rfl trivial ?_
              refine ji_iload_n dX8_setStyle_43 rfl ?_
              refine ji_if_eq (tgt := 51) dX8_setStyle_44 rfl (by omega) (fun c44 => ?_) (fun c44 => ?_)
              · try (exfalso; omega)
                all_goals
                  refine ji_iconst dX8_setStyle_51 ?_
                  refine ji_putE (ci := 8) (k := 0) rfl dX8_setStyle_52 lX8_47 (by decide) (rf_60) (by simp [rf_c]) (ji_fitI _) rfl (rf_pth) ?_
                  refine ji_aload_n dX8_setStyle_55 rfl trivial ?_
                  refine ji_get (ci := 8) (k := 0) rfl dX8_setStyle_56 lX8_47 (by decide) (rf_60) rfl ?_
                  refine ji_if_le (tgt := 64) dX8_setStyle_59 rfl (by omega) (fun c59 => ?_) (fun c59 => ?_)
                  · try (exfalso; omega)
                    all_goals
                      refine ji_aload_n dX8_setStyle_64 rfl trivial ?_
                      refine ji_get (ci := 8) (k := 8) rfl dX8_setStyle_65 lX8_29 (by decide) (rf_60) rfl ?_
                      refine ji_iload_n dX8_setStyle_68 rfl ?_
                      refine ji_iaload dX8_setStyle_69 (rf_65) (by omega) ?_
                      refine ji_istore dX8_setStyle_70 (by decide) rfl ?_
                      refine ji_aload_n dX8_setStyle_72 rfl trivial ?_
                      refine ji_get (ci := 8) (k := 8) rfl dX8_setStyle_73 lX8_29 (by decide) (rf_60) rfl ?_
                      refine ji_iload_n dX8_setStyle_76 rfl ?_
                      refine ji_iload_n dX8_setStyle_77 rfl ?_
                      refine ji_iastoreE dX8_setStyle_78 (rf_65) (by omega) (rf_s65) ?_
                      refine ji_iload dX8_setStyle_79 rfl ?_
                      exact ji_ireturn dX8_setStyle_81 rfl (rfl) ⟨jr_i (by first | rfl | omega), rfl⟩
                  · try (exfalso; omega)
                    all_goals
                      refine ji_iconst dX8_setStyle_62 ?_
                      exact ji_ireturn dX8_setStyle_63 rfl (rfl) ⟨jr_i (by first | rfl | omega), rfl⟩
              · try (exfalso; omega)
                all_goals
                  refine ji_iconst dX8_setStyle_47 ?_
                  refine ji_goto (tgt := 52) dX8_setStyle_48 rfl ?_
                  refine ji_putE (ci := 8) (k := 0) rfl dX8_setStyle_52 lX8_47 (by decide) (rf_60) (by simp [rf_c]) (ji_fitI _) rfl (rf_pth) ?_
                  refine ji_aload_n dX8_setStyle_55 rfl trivial ?_
                  refine ji_get (ci := 8) (k := 0) rfl dX8_setStyle_56 lX8_47 (by decide) (rf_60) rfl ?_
                  refine ji_if_le (tgt := 64) dX8_setStyle_59 rfl (by omega) (fun c59 => ?_) (fun c59 => ?_)
                  · try (exfalso; omega)
                    all_goals
                      refine ji_aload_n dX8_setStyle_64 rfl trivial ?_
                      refine ji_get (ci := 8) (k := 8) rfl dX8_setStyle_65 lX8_29 (by decide) (rf_60) rfl ?_
                      refine ji_iload_n dX8_setStyle_68 rfl ?_
                      refine ji_iaload dX8_setStyle_69 (rf_65) (by omega) ?_
                      refine ji_istore dX8_setStyle_70 (by decide) rfl ?_
                      refine ji_aload_n dX8_setStyle_72 rfl trivial ?_
                      refine ji_get (ci := 8) (k := 8) rfl dX8_setStyle_73 lX8_29 (by decide) (rf_60) rfl ?_
                      refine ji_iload_n dX8_setStyle_76 rfl ?_
                      refine ji_iload_n dX8_setStyle_77 rfl ?_
                      refine ji_iastoreE dX8_setStyle_78 (rf_65) (by omega) (rf_s65) ?_
                      refine ji_iload dX8_setStyle_79 rfl ?_
                      exact ji_ireturn dX8_setStyle_81 rfl (rfl) ⟨jr_i (by first | rfl | omega), rfl⟩
                  · try (exfalso; omega)
                    all_goals
                      refine ji_iconst dX8_setStyle_62 ?_
                      exact ji_ireturn dX8_setStyle_63 rfl (rfl) ⟨jr_i (by first | rfl | omega), rfl⟩
          · try (exfalso; omega)
            all_goals
              refine ji_iconst dX8_setStyle_36 ?_
              refine ji_goto (tgt := 41) dX8_setStyle_37 rfl ?_
              refine ji_istore_n dX8_setStyle_41 (by decide) rfl ?_
              refine ji_aload_n dX8_setStyle_42 rfl trivial ?_
              refine ji_iload_n dX8_setStyle_43 rfl ?_
              refine ji_if_eq (tgt := 51) dX8_setStyle_44 rfl (by omega) (fun c44 => ?_) (fun c44 => ?_)
              · try (exfalso; omega)
                all_goals
                  refine ji_iconst dX8_setStyle_51 ?_
                  refine ji_putE (ci := 8) (k := 0) rfl dX8_setStyle_52 lX8_47 (by decide) (rf_60) (by simp [rf_c]) (ji_fitI _) rfl (rf_pth) ?_
                  refine ji_aload_n dX8_setStyle_55 rfl trivial ?_
                  refine ji_get (ci := 8) (k := 0) rfl dX8_setStyle_56 lX8_47 (by decide) (rf_60) rfl ?_
                  refine ji_if_le (tgt := 64) dX8_setStyle_59 rfl (by omega) (fun c59 => ?_) (fun c59 => ?_)
                  · try (exfalso; omega)
                    all_goals
                      refine ji_aload_n dX8_setStyle_64 rfl trivial ?_
                      refine ji_get (ci := 8) (k := 8) rfl dX8_setStyle_65 lX8_29 (by decide) (rf_60) rfl ?_
                      refine ji_iload_n dX8_setStyle_68 rfl ?_
                      refine ji_iaload dX8_setStyle_69 (rf_65) (by omega) ?_
                      refine ji_istore dX8_setStyle_70 (by decide) rfl ?_
                      refine ji_aload_n dX8_setStyle_72 rfl trivial ?_
                      refine ji_get (ci := 8) (k := 8) rfl dX8_setStyle_73 lX8_29 (by decide) (rf_60) rfl ?_
                      refine ji_iload_n dX8_setStyle_76 rfl ?_
                      refine ji_iload_n dX8_setStyle_77 rfl ?_
                      refine ji_iastoreE dX8_setStyle_78 (rf_65) (by omega) (rf_s65) ?_
                      refine ji_iload dX8_setStyle_79 rfl ?_
                      exact ji_ireturn dX8_setStyle_81 rfl (rfl) ⟨jr_i (by first | rfl | omega), rfl⟩
                  · try (exfalso; omega)
                    all_goals
                      refine ji_iconst dX8_setStyle_62 ?_
                      exact ji_ireturn dX8_setStyle_63 rfl (rfl) ⟨jr_i (by first | rfl | omega), rfl⟩
              · try (exfalso; omega)
                all_goals
                  refine ji_iconst dX8_setStyle_47 ?_
                  refine ji_goto (tgt := 52) dX8_setStyle_48 rfl ?_
                  refine ji_putE (ci := 8) (k := 0) rfl dX8_setStyle_52 lX8_47 (by decide) (rf_60) (by simp [rf_c]) (ji_fitI _) rfl (rf_pth) ?_
                  refine ji_aload_n dX8_setStyle_55 rfl trivial ?_
                  refine ji_get (ci := 8) (k := 0) rfl dX8_setStyle_56 lX8_47 (by decide) (rf_60) rfl ?_
                  refine ji_if_le (tgt := 64) dX8_setStyle_59 rfl (by omega) (fun c59 => ?_) (fun c59 => ?_)
                  · try (exfalso; omega)
                    all_goals
                      refine ji_aload_n dX8_setStyle_64 rfl trivial ?_
                      refine ji_get (ci := 8) (k := 8) rfl dX8_setStyle_65 lX8_29 (by decide) (rf_60) rfl ?_
                      refine ji_iload_n dX8_setStyle_68 rfl ?_
                      refine ji_iaload dX8_setStyle_69 (rf_65) (by omega) ?_
                      refine ji_istore dX8_setStyle_70 (by decide) rfl ?_
                      refine ji_aload_n dX8_setStyle_72 rfl trivial ?_
                      refine ji_get (ci := 8) (k := 8) rfl dX8_setStyle_73 lX8_29 (by decide) (rf_60) rfl ?_
                      refine ji_iload_n dX8_setStyle_76 rfl ?_
                      refine ji_iload_n dX8_setStyle_77 rfl ?_
                      refine ji_iastoreE dX8_setStyle_78 (rf_65) (by omega) (rf_s65) ?_
                      refine ji_iload dX8_setStyle_79 rfl ?_
                      exact ji_ireturn dX8_setStyle_81 rfl (rfl) ⟨jr_i (by first | rfl | omega), rfl⟩
                  · try (exfalso; omega)
                    all_goals
                      refine ji_iconst dX8_setStyle_62 ?_
                      exact ji_ireturn dX8_setStyle_63 rfl (rfl) ⟨jr_i (by first | rfl | omega), rfl⟩

set_option maxHeartbeats 4000000 in
set_option maxRecDepth 100000 in
theorem r_isPage (hrf : rf_ok wi ht z nl nt sy) {q : Int} (b_q : -2147483648 ≤ q ∧ q < 2147483648) : JR G (d + 9) mX8_isPage [.ref 60, .int (jI q)] (n, rf_f f th z kp ed nt nl wi ht sy sz bf rs rr rq rp mm ln lo lf lt co ro pg pf hsh) 0 0 (some (.int (jI (rf_in q 0 ((rf_PG z nl nt sy wi ht (rf_LL z nl nt sy wi lo lf lt).1 (rf_LL z nl nt sy wi lo lf lt).2.1 (rf_LL z nl nt sy wi lo lf lt).2.2.1 (rf_LL z nl nt sy wi lo lf lt).2.2.2 pf).1 - 1))))) (n, rf_f f th z kp ed nt nl wi ht sy sz bf rs rr rq rp mm ((rf_LL z nl nt sy wi lo lf lt).1) ((rf_LL z nl nt sy wi lo lf lt).2.1) ((rf_LL z nl nt sy wi lo lf lt).2.2.1) ((rf_LL z nl nt sy wi lo lf lt).2.2.2) wi ht ((rf_PG z nl nt sy wi ht (rf_LL z nl nt sy wi lo lf lt).1 (rf_LL z nl nt sy wi lo lf lt).2.1 (rf_LL z nl nt sy wi lo lf lt).2.2.1 (rf_LL z nl nt sy wi lo lf lt).2.2.2 pf).1) (va_up (rf_PG z nl nt sy wi ht (rf_LL z nl nt sy wi lo lf lt).1 (rf_LL z nl nt sy wi lo lf lt).2.1 (rf_LL z nl nt sy wi lo lf lt).2.2.1 (rf_LL z nl nt sy wi lo lf lt).2.2.2 pf).2 (rf_PG z nl nt sy wi ht (rf_LL z nl nt sy wi lo lf lt).1 (rf_LL z nl nt sy wi lo lf lt).2.1 (rf_LL z nl nt sy wi lo lf lt).2.2.1 (rf_LL z nl nt sy wi lo lf lt).2.2.2 pf).1.toNat (rf_LL z nl nt sy wi lo lf lt).1) hsh) := by
  obtain ⟨hz, hn, hk, hrc, ⟨hw9, hh9⟩, ⟨hm9, hj9⟩, hll⟩ := id hrf
  have zb := hz.2.1
  have hF := (hll wi lo lf lt (by omega)).2
  have hl1 := (hll wi lo lf lt (by omega)).1
  have hc9 : 0 ≤ wi ∧ wi ≤ 100 := by omega
  have hro : 0 ≤ ht ∧ ht ≤ 100 := by omega
  have hrl := rf_LL_ok hz hF
  have hpk := rf_PG_ok z nl nt sy wi ht (rf_LL z nl nt sy wi lo lf lt).2.1 (rf_LL z nl nt sy wi lo lf lt).2.2.1 (rf_LL z nl nt sy wi lo lf lt).2.2.2 pf (ln := (rf_LL z nl nt sy wi lo lf lt).1) (by omega)
  have hpp := hpk.pos (by omega)
  have hpl := hpk.1
  refine ji_ent (by decide) rfl (Nat.le_of_ble_eq_true rfl) rfl ?_
  refine ji_aload_n dX8_isPage_0 rfl trivial ?_
  refine ji_cVv dX8_isPage_1 (r_layAll hz hn hk hrc (by omega) (by omega) hF) rfl (rf_60) rfl rfl wX8_layAll vX8_layAll lX8_189 rfl (Nat.le_of_ble_eq_true rfl) rfl ?_
  refine ji_iload_n dX8_isPage_4 rfl ?_
  refine ji_iconst dX8_isPage_5 ?_
  refine ji_aload_n dX8_isPage_6 rfl trivial ?_
  refine ji_get (ci := 8) (k := 22) rfl dX8_isPage_7 lX8_170 (by decide) (rf_60) rfl ?_
  refine ji_iconst dX8_isPage_10 ?_
  refine ji_isub dX8_isPage_11 ?_
  refine ji_cS dX8_isPage_12 (r_within (by omega) (by omega) (by omega)) rfl wX8_within sX8_within lX8_50 rfl (Nat.le_of_ble_eq_true rfl) rfl ?_
  exact ji_ireturn dX8_isPage_15 rfl (ji_narB (by have := rf_in_d q 0 ((rf_PG z nl nt sy wi ht (rf_LL z nl nt sy wi lo lf lt).1 (rf_LL z nl nt sy wi lo lf lt).2.1 (rf_LL z nl nt sy wi lo lf lt).2.2.1 (rf_LL z nl nt sy wi lo lf lt).2.2.2 pf).1 - 1); omega)) ⟨rfl, rfl⟩

set_option maxHeartbeats 4000000 in
set_option maxRecDepth 100000 in
theorem r_isLine (hrf : rf_ok wi ht z nl nt sy) {q : Int} (b_q : -2147483648 ≤ q ∧ q < 2147483648) : JR G (d + 9) mX8_isLine [.ref 60, .int (jI q)] (n, rf_f f th z kp ed nt nl wi ht sy sz bf rs rr rq rp mm ln lo lf lt co ro pg pf hsh) 0 0 (some (.int (jI (rf_in q 0 ((rf_LL z nl nt sy wi lo lf lt).1 - 1))))) (n, rf_f f th z kp ed nt nl wi ht sy sz bf rs rr rq rp mm ((rf_LL z nl nt sy wi lo lf lt).1) ((rf_LL z nl nt sy wi lo lf lt).2.1) ((rf_LL z nl nt sy wi lo lf lt).2.2.1) ((rf_LL z nl nt sy wi lo lf lt).2.2.2) wi ht ((rf_PG z nl nt sy wi ht (rf_LL z nl nt sy wi lo lf lt).1 (rf_LL z nl nt sy wi lo lf lt).2.1 (rf_LL z nl nt sy wi lo lf lt).2.2.1 (rf_LL z nl nt sy wi lo lf lt).2.2.2 pf).1) (va_up (rf_PG z nl nt sy wi ht (rf_LL z nl nt sy wi lo lf lt).1 (rf_LL z nl nt sy wi lo lf lt).2.1 (rf_LL z nl nt sy wi lo lf lt).2.2.1 (rf_LL z nl nt sy wi lo lf lt).2.2.2 pf).2 (rf_PG z nl nt sy wi ht (rf_LL z nl nt sy wi lo lf lt).1 (rf_LL z nl nt sy wi lo lf lt).2.1 (rf_LL z nl nt sy wi lo lf lt).2.2.1 (rf_LL z nl nt sy wi lo lf lt).2.2.2 pf).1.toNat (rf_LL z nl nt sy wi lo lf lt).1) hsh) := by
  obtain ⟨hz, hn, hk, hrc, ⟨hw9, hh9⟩, ⟨hm9, hj9⟩, hll⟩ := id hrf
  have zb := hz.2.1
  have hF := (hll wi lo lf lt (by omega)).2
  have hl1 := (hll wi lo lf lt (by omega)).1
  have hc9 : 0 ≤ wi ∧ wi ≤ 100 := by omega
  have hro : 0 ≤ ht ∧ ht ≤ 100 := by omega
  have hrl := rf_LL_ok hz hF
  have hpk := rf_PG_ok z nl nt sy wi ht (rf_LL z nl nt sy wi lo lf lt).2.1 (rf_LL z nl nt sy wi lo lf lt).2.2.1 (rf_LL z nl nt sy wi lo lf lt).2.2.2 pf (ln := (rf_LL z nl nt sy wi lo lf lt).1) (by omega)
  have hpp := hpk.pos (by omega)
  have hpl := hpk.1
  refine ji_ent (by decide) rfl (Nat.le_of_ble_eq_true rfl) rfl ?_
  refine ji_aload_n dX8_isLine_0 rfl trivial ?_
  refine ji_cVv dX8_isLine_1 (r_layAll hz hn hk hrc (by omega) (by omega) hF) rfl (rf_60) rfl rfl wX8_layAll vX8_layAll lX8_189 rfl (Nat.le_of_ble_eq_true rfl) rfl ?_
  refine ji_iload_n dX8_isLine_4 rfl ?_
  refine ji_iconst dX8_isLine_5 ?_
  refine ji_aload_n dX8_isLine_6 rfl trivial ?_
  refine ji_get (ci := 8) (k := 16) rfl dX8_isLine_7 lX8_122 (by decide) (rf_60) rfl ?_
  refine ji_iconst dX8_isLine_10 ?_
  refine ji_isub dX8_isLine_11 ?_
  refine ji_cS dX8_isLine_12 (r_within (by omega) (by omega) (by omega)) rfl wX8_within sX8_within lX8_50 rfl (Nat.le_of_ble_eq_true rfl) rfl ?_
  exact ji_ireturn dX8_isLine_15 rfl (ji_narB (by have := rf_in_d q 0 ((rf_LL z nl nt sy wi lo lf lt).1 - 1); omega)) ⟨rfl, rfl⟩

set_option maxHeartbeats 4000000 in
set_option maxRecDepth 100000 in
theorem r_page1 (hrf : rf_ok wi ht z nl nt sy) {q : Int} (b_q : -2147483648 ≤ q ∧ q < 2147483648) {v : Int} (hx : q < 0 ∨ (rf_PG z nl nt sy wi ht (rf_LL z nl nt sy wi lo lf lt).1 (rf_LL z nl nt sy wi lo lf lt).2.1 (rf_LL z nl nt sy wi lo lf lt).2.2.1 (rf_LL z nl nt sy wi lo lf lt).2.2.2 pf).1 ≤ q) : JR G (d + 10) mX8_page [.ref 60, .int (jI q), .int (jI v)] (n, rf_f f th z kp ed nt nl wi ht sy sz bf rs rr rq rp mm ln lo lf lt co ro pg pf hsh) 0 0 (some (.int (jI 0))) (n, rf_f f 1 z kp ed nt nl wi ht sy sz bf rs rr rq rp mm ((rf_LL z nl nt sy wi lo lf lt).1) ((rf_LL z nl nt sy wi lo lf lt).2.1) ((rf_LL z nl nt sy wi lo lf lt).2.2.1) ((rf_LL z nl nt sy wi lo lf lt).2.2.2) wi ht ((rf_PG z nl nt sy wi ht (rf_LL z nl nt sy wi lo lf lt).1 (rf_LL z nl nt sy wi lo lf lt).2.1 (rf_LL z nl nt sy wi lo lf lt).2.2.1 (rf_LL z nl nt sy wi lo lf lt).2.2.2 pf).1) (va_up (rf_PG z nl nt sy wi ht (rf_LL z nl nt sy wi lo lf lt).1 (rf_LL z nl nt sy wi lo lf lt).2.1 (rf_LL z nl nt sy wi lo lf lt).2.2.1 (rf_LL z nl nt sy wi lo lf lt).2.2.2 pf).2 (rf_PG z nl nt sy wi ht (rf_LL z nl nt sy wi lo lf lt).1 (rf_LL z nl nt sy wi lo lf lt).2.1 (rf_LL z nl nt sy wi lo lf lt).2.2.1 (rf_LL z nl nt sy wi lo lf lt).2.2.2 pf).1.toNat (rf_LL z nl nt sy wi lo lf lt).1) hsh) := by
  obtain ⟨hz, hn, hk, hrc, ⟨hw9, hh9⟩, ⟨hm9, hj9⟩, hll⟩ := id hrf
  have zb := hz.2.1
  have hF := (hll wi lo lf lt (by omega)).2
  have hl1 := (hll wi lo lf lt (by omega)).1
  have hc9 : 0 ≤ wi ∧ wi ≤ 100 := by omega
  have hro : 0 ≤ ht ∧ ht ≤ 100 := by omega
  have hrl := rf_LL_ok hz hF
  have hpk := rf_PG_ok z nl nt sy wi ht (rf_LL z nl nt sy wi lo lf lt).2.1 (rf_LL z nl nt sy wi lo lf lt).2.2.1 (rf_LL z nl nt sy wi lo lf lt).2.2.2 pf (ln := (rf_LL z nl nt sy wi lo lf lt).1) (by omega)
  have hpp := hpk.pos (by omega)
  have hpl := hpk.1
  have wp := rf_in_d q 0 ((rf_PG z nl nt sy wi ht (rf_LL z nl nt sy wi lo lf lt).1 (rf_LL z nl nt sy wi lo lf lt).2.1 (rf_LL z nl nt sy wi lo lf lt).2.2.1 (rf_LL z nl nt sy wi lo lf lt).2.2.2 pf).1 - 1)
  refine ji_ent (by decide) rfl (Nat.le_of_ble_eq_true rfl) rfl ?_
  refine ji_aload_n dX8_page_0 rfl trivial ?_
  refine ji_aload_n dX8_page_1 rfl trivial ?_
  refine ji_iload_n dX8_page_2 rfl ?_
  refine ji_cV dX8_page_3 (r_isPage hrf (by omega)) rfl (rf_60) rfl rfl wX8_isPage vX8_isPage lX8_207 rfl (Nat.le_of_ble_eq_true rfl) rfl ?_
  refine ji_if_ne (tgt := 13) dX8_page_6 rfl (by omega) (fun c6 => ?_) (fun c6 => ?_)
  · try (exfalso; omega)
    all_goals
      refine ji_iload_n dX8_page_13 rfl ?_
      refine ji_iconst dX8_page_14 ?_
      refine ji_bipush dX8_page_15 rfl ?_
      refine ji_cS dX8_page_17 (r_within (by omega) (by omega) (by omega)) rfl wX8_within sX8_within lX8_50 rfl (Nat.le_of_ble_eq_true rfl) rfl ?_
      refine ji_if_eq (tgt := 27) dX8_page_20 rfl (by omega) (fun c20 => ?_) (fun c20 => ?_)
      · try (exfalso; omega)
        all_goals
          refine ji_iconst dX8_page_27 ?_
          refine ji_putE (ci := 8) (k := 0) rfl dX8_page_28 lX8_47 (by decide) (rf_60) (by simp [rf_c]) (ji_fitI _) rfl (rf_pth) ?_
          refine ji_aload_n dX8_page_31 rfl trivial ?_
          refine ji_get (ci := 8) (k := 0) rfl dX8_page_32 lX8_47 (by decide) (rf_60) rfl ?_
          refine ji_if_le (tgt := 42) dX8_page_35 rfl (by omega) (fun c35 => ?_) (fun c35 => ?_)
          · try (exfalso; omega)
            all_goals
              refine ji_aload_n dX8_page_42 rfl trivial ?_
              refine ji_iload_n dX8_page_43 rfl ?_
              refine ji_iload_n dX8_page_44 rfl ?_
              exfalso; omega
          · try (exfalso; omega)
            all_goals
              refine ji_iconst dX8_page_38 ?_
              refine ji_goto (tgt := 48) dX8_page_39 rfl ?_
              exact ji_ireturn dX8_page_48 rfl (rfl) ⟨jr_i (by first | rfl | omega), rfl⟩
      · try (exfalso; omega)
        all_goals
          refine ji_iconst dX8_page_23 ?_
          refine ji_goto (tgt := 28) dX8_page_24 rfl ?_
          refine ji_putE (ci := 8) (k := 0) rfl dX8_page_28 lX8_47 (by decide) (rf_60) (by simp [rf_c]) (ji_fitI _) rfl (rf_pth) ?_
          refine ji_aload_n dX8_page_31 rfl trivial ?_
          refine ji_get (ci := 8) (k := 0) rfl dX8_page_32 lX8_47 (by decide) (rf_60) rfl ?_
          refine ji_if_le (tgt := 42) dX8_page_35 rfl (by omega) (fun c35 => ?_) (fun c35 => ?_)
          · try (exfalso; omega)
            all_goals
              refine ji_aload_n dX8_page_42 rfl trivial ?_
              refine ji_iload_n dX8_page_43 rfl ?_
              refine ji_iload_n dX8_page_44 rfl ?_
              exfalso; omega
          · try (exfalso; omega)
            all_goals
              refine ji_iconst dX8_page_38 ?_
              refine ji_goto (tgt := 48) dX8_page_39 rfl ?_
              exact ji_ireturn dX8_page_48 rfl (rfl) ⟨jr_i (by first | rfl | omega), rfl⟩
  · try (exfalso; omega)
    all_goals
      refine ji_iconst dX8_page_9 ?_
      refine ji_goto (tgt := 28) dX8_page_10 rfl ?_
      refine ji_putE (ci := 8) (k := 0) rfl dX8_page_28 lX8_47 (by decide) (rf_60) (by simp [rf_c]) (ji_fitI _) rfl (rf_pth) ?_
      refine ji_aload_n dX8_page_31 rfl trivial ?_
      refine ji_get (ci := 8) (k := 0) rfl dX8_page_32 lX8_47 (by decide) (rf_60) rfl ?_
      refine ji_if_le (tgt := 42) dX8_page_35 rfl (by omega) (fun c35 => ?_) (fun c35 => ?_)
      · try (exfalso; omega)
        all_goals
          refine ji_aload_n dX8_page_42 rfl trivial ?_
          refine ji_iload_n dX8_page_43 rfl ?_
          refine ji_iload_n dX8_page_44 rfl ?_
          exfalso; omega
      · try (exfalso; omega)
        all_goals
          refine ji_iconst dX8_page_38 ?_
          refine ji_goto (tgt := 48) dX8_page_39 rfl ?_
          exact ji_ireturn dX8_page_48 rfl (rfl) ⟨jr_i (by first | rfl | omega), rfl⟩

set_option maxHeartbeats 4000000 in
set_option maxRecDepth 100000 in
theorem r_page2 (hrf : rf_ok wi ht z nl nt sy) {q : Int} (hq : 0 ≤ q ∧ q < (rf_PG z nl nt sy wi ht (rf_LL z nl nt sy wi lo lf lt).1 (rf_LL z nl nt sy wi lo lf lt).2.1 (rf_LL z nl nt sy wi lo lf lt).2.2.1 (rf_LL z nl nt sy wi lo lf lt).2.2.2 pf).1) {v : Int} (b_v : -2147483648 ≤ v ∧ v < 2147483648) (hx : v < 0 ∨ 7 ≤ v) : JR G (d + 10) mX8_page [.ref 60, .int (jI q), .int (jI v)] (n, rf_f f th z kp ed nt nl wi ht sy sz bf rs rr rq rp mm ln lo lf lt co ro pg pf hsh) 0 0 (some (.int (jI 0))) (n, rf_f f 2 z kp ed nt nl wi ht sy sz bf rs rr rq rp mm ((rf_LL z nl nt sy wi lo lf lt).1) ((rf_LL z nl nt sy wi lo lf lt).2.1) ((rf_LL z nl nt sy wi lo lf lt).2.2.1) ((rf_LL z nl nt sy wi lo lf lt).2.2.2) wi ht ((rf_PG z nl nt sy wi ht (rf_LL z nl nt sy wi lo lf lt).1 (rf_LL z nl nt sy wi lo lf lt).2.1 (rf_LL z nl nt sy wi lo lf lt).2.2.1 (rf_LL z nl nt sy wi lo lf lt).2.2.2 pf).1) (va_up (rf_PG z nl nt sy wi ht (rf_LL z nl nt sy wi lo lf lt).1 (rf_LL z nl nt sy wi lo lf lt).2.1 (rf_LL z nl nt sy wi lo lf lt).2.2.1 (rf_LL z nl nt sy wi lo lf lt).2.2.2 pf).2 (rf_PG z nl nt sy wi ht (rf_LL z nl nt sy wi lo lf lt).1 (rf_LL z nl nt sy wi lo lf lt).2.1 (rf_LL z nl nt sy wi lo lf lt).2.2.1 (rf_LL z nl nt sy wi lo lf lt).2.2.2 pf).1.toNat (rf_LL z nl nt sy wi lo lf lt).1) hsh) := by
  obtain ⟨hz, hn, hk, hrc, ⟨hw9, hh9⟩, ⟨hm9, hj9⟩, hll⟩ := id hrf
  have zb := hz.2.1
  have hF := (hll wi lo lf lt (by omega)).2
  have hl1 := (hll wi lo lf lt (by omega)).1
  have hc9 : 0 ≤ wi ∧ wi ≤ 100 := by omega
  have hro : 0 ≤ ht ∧ ht ≤ 100 := by omega
  have hrl := rf_LL_ok hz hF
  have hpk := rf_PG_ok z nl nt sy wi ht (rf_LL z nl nt sy wi lo lf lt).2.1 (rf_LL z nl nt sy wi lo lf lt).2.2.1 (rf_LL z nl nt sy wi lo lf lt).2.2.2 pf (ln := (rf_LL z nl nt sy wi lo lf lt).1) (by omega)
  have hpp := hpk.pos (by omega)
  have hpl := hpk.1
  have wp := rf_in_d q 0 ((rf_PG z nl nt sy wi ht (rf_LL z nl nt sy wi lo lf lt).1 (rf_LL z nl nt sy wi lo lf lt).2.1 (rf_LL z nl nt sy wi lo lf lt).2.2.1 (rf_LL z nl nt sy wi lo lf lt).2.2.2 pf).1 - 1)
  have w_v_0_6 := rf_in_d v 0 6
  refine ji_ent (by decide) rfl (Nat.le_of_ble_eq_true rfl) rfl ?_
  refine ji_aload_n dX8_page_0 rfl trivial ?_
  refine ji_aload_n dX8_page_1 rfl trivial ?_
  refine ji_iload_n dX8_page_2 rfl ?_
  refine ji_cV dX8_page_3 (r_isPage hrf (by omega)) rfl (rf_60) rfl rfl wX8_isPage vX8_isPage lX8_207 rfl (Nat.le_of_ble_eq_true rfl) rfl ?_
  refine ji_if_ne (tgt := 13) dX8_page_6 rfl (by omega) (fun c6 => ?_) (fun c6 => ?_)
  · try (exfalso; omega)
    all_goals
      refine ji_iload_n dX8_page_13 rfl ?_
      refine ji_iconst dX8_page_14 ?_
      refine ji_bipush dX8_page_15 rfl ?_
      refine ji_cS dX8_page_17 (r_within (by omega) (by omega) (by omega)) rfl wX8_within sX8_within lX8_50 rfl (Nat.le_of_ble_eq_true rfl) rfl ?_
      refine ji_if_eq (tgt := 27) dX8_page_20 rfl (by omega) (fun c20 => ?_) (fun c20 => ?_)
      · try (exfalso; omega)
        all_goals
          refine ji_iconst dX8_page_27 ?_
          refine ji_putE (ci := 8) (k := 0) rfl dX8_page_28 lX8_47 (by decide) (rf_60) (by simp [rf_c]) (ji_fitI _) rfl (rf_pth) ?_
          refine ji_aload_n dX8_page_31 rfl trivial ?_
          refine ji_get (ci := 8) (k := 0) rfl dX8_page_32 lX8_47 (by decide) (rf_60) rfl ?_
          refine ji_if_le (tgt := 42) dX8_page_35 rfl (by omega) (fun c35 => ?_) (fun c35 => ?_)
          · try (exfalso; omega)
            all_goals
              refine ji_aload_n dX8_page_42 rfl trivial ?_
              refine ji_iload_n dX8_page_43 rfl ?_
              refine ji_iload_n dX8_page_44 rfl ?_
              exfalso; omega
          · try (exfalso; omega)
            all_goals
              refine ji_iconst dX8_page_38 ?_
              refine ji_goto (tgt := 48) dX8_page_39 rfl ?_
              exact ji_ireturn dX8_page_48 rfl (rfl) ⟨jr_i (by first | rfl | omega), rfl⟩
      · try (exfalso; omega)
        all_goals
          refine ji_iconst dX8_page_23 ?_
          refine ji_goto (tgt := 28) dX8_page_24 rfl ?_
          refine ji_putE (ci := 8) (k := 0) rfl dX8_page_28 lX8_47 (by decide) (rf_60) (by simp [rf_c]) (ji_fitI _) rfl (rf_pth) ?_
          refine ji_aload_n dX8_page_31 rfl trivial ?_
          refine ji_get (ci := 8) (k := 0) rfl dX8_page_32 lX8_47 (by decide) (rf_60) rfl ?_
          refine ji_if_le (tgt := 42) dX8_page_35 rfl (by omega) (fun c35 => ?_) (fun c35 => ?_)
          · try (exfalso; omega)
            all_goals
              refine ji_aload_n dX8_page_42 rfl trivial ?_
              refine ji_iload_n dX8_page_43 rfl ?_
              refine ji_iload_n dX8_page_44 rfl ?_
              exfalso; omega
          · try (exfalso; omega)
            all_goals
              refine ji_iconst dX8_page_38 ?_
              refine ji_goto (tgt := 48) dX8_page_39 rfl ?_
              exact ji_ireturn dX8_page_48 rfl (rfl) ⟨jr_i (by first | rfl | omega), rfl⟩
  · try (exfalso; omega)
    all_goals
      refine ji_iconst dX8_page_9 ?_
      refine ji_goto (tgt := 28) dX8_page_10 rfl ?_
      refine ji_putE (ci := 8) (k := 0) rfl dX8_page_28 lX8_47 (by decide) (rf_60) (by simp [rf_c]) (ji_fitI _) rfl (rf_pth) ?_
      refine ji_aload_n dX8_page_31 rfl trivial ?_
      refine ji_get (ci := 8) (k := 0) rfl dX8_page_32 lX8_47 (by decide) (rf_60) rfl ?_
      refine ji_if_le (tgt := 42) dX8_page_35 rfl (by omega) (fun c35 => ?_) (fun c35 => ?_)
      · try (exfalso; omega)
        all_goals
          refine ji_aload_n dX8_page_42 rfl trivial ?_
          refine ji_iload_n dX8_page_43 rfl ?_
          refine ji_iload_n dX8_page_44 rfl ?_
          exfalso; omega
      · try (exfalso; omega)
        all_goals
          refine ji_iconst dX8_page_38 ?_
          refine ji_goto (tgt := 48) dX8_page_39 rfl ?_
          exact ji_ireturn dX8_page_48 rfl (rfl) ⟨jr_i (by first | rfl | omega), rfl⟩

set_option maxHeartbeats 4000000 in
set_option maxRecDepth 100000 in
theorem r_page (hrf : rf_ok wi ht z nl nt sy) {q : Int} (hq : 0 ≤ q ∧ q < (rf_PG z nl nt sy wi ht (rf_LL z nl nt sy wi lo lf lt).1 (rf_LL z nl nt sy wi lo lf lt).2.1 (rf_LL z nl nt sy wi lo lf lt).2.2.1 (rf_LL z nl nt sy wi lo lf lt).2.2.2 pf).1) {v : Int} (hx : 0 ≤ v ∧ v < 7) : JR G (d + 10) mX8_page [.ref 60, .int (jI q), .int (jI v)] (n, rf_f f th z kp ed nt nl wi ht sy sz bf rs rr rq rp mm ln lo lf lt co ro pg pf hsh) 0 0 (some (.int (jI (rf_PN z nl nt sy wi ((rf_LL z nl nt sy wi lo lf lt).1) ((rf_LL z nl nt sy wi lo lf lt).2.1) ((rf_LL z nl nt sy wi lo lf lt).2.2.1) ((rf_LL z nl nt sy wi lo lf lt).2.2.2) (va_up (rf_PG z nl nt sy wi ht (rf_LL z nl nt sy wi lo lf lt).1 (rf_LL z nl nt sy wi lo lf lt).2.1 (rf_LL z nl nt sy wi lo lf lt).2.2.1 (rf_LL z nl nt sy wi lo lf lt).2.2.2 pf).2 (rf_PG z nl nt sy wi ht (rf_LL z nl nt sy wi lo lf lt).1 (rf_LL z nl nt sy wi lo lf lt).2.1 (rf_LL z nl nt sy wi lo lf lt).2.2.1 (rf_LL z nl nt sy wi lo lf lt).2.2.2 pf).1.toNat (rf_LL z nl nt sy wi lo lf lt).1) q v)))) (n, rf_f f 0 z kp ed nt nl wi ht sy sz bf rs rr rq rp mm ((rf_LL z nl nt sy wi lo lf lt).1) ((rf_LL z nl nt sy wi lo lf lt).2.1) ((rf_LL z nl nt sy wi lo lf lt).2.2.1) ((rf_LL z nl nt sy wi lo lf lt).2.2.2) wi ht ((rf_PG z nl nt sy wi ht (rf_LL z nl nt sy wi lo lf lt).1 (rf_LL z nl nt sy wi lo lf lt).2.1 (rf_LL z nl nt sy wi lo lf lt).2.2.1 (rf_LL z nl nt sy wi lo lf lt).2.2.2 pf).1) (va_up (rf_PG z nl nt sy wi ht (rf_LL z nl nt sy wi lo lf lt).1 (rf_LL z nl nt sy wi lo lf lt).2.1 (rf_LL z nl nt sy wi lo lf lt).2.2.1 (rf_LL z nl nt sy wi lo lf lt).2.2.2 pf).2 (rf_PG z nl nt sy wi ht (rf_LL z nl nt sy wi lo lf lt).1 (rf_LL z nl nt sy wi lo lf lt).2.1 (rf_LL z nl nt sy wi lo lf lt).2.2.1 (rf_LL z nl nt sy wi lo lf lt).2.2.2 pf).1.toNat (rf_LL z nl nt sy wi lo lf lt).1) hsh) := by
  obtain ⟨hz, hn, hk, hrc, ⟨hw9, hh9⟩, ⟨hm9, hj9⟩, hll⟩ := id hrf
  have zb := hz.2.1
  have hF := (hll wi lo lf lt (by omega)).2
  have hl1 := (hll wi lo lf lt (by omega)).1
  have hc9 : 0 ≤ wi ∧ wi ≤ 100 := by omega
  have hro : 0 ≤ ht ∧ ht ≤ 100 := by omega
  have hrl := rf_LL_ok hz hF
  have hpk := rf_PG_ok z nl nt sy wi ht (rf_LL z nl nt sy wi lo lf lt).2.1 (rf_LL z nl nt sy wi lo lf lt).2.2.1 (rf_LL z nl nt sy wi lo lf lt).2.2.2 pf (ln := (rf_LL z nl nt sy wi lo lf lt).1) (by omega)
  have hpp := hpk.pos (by omega)
  have hpl := hpk.1
  have wp := rf_in_d q 0 ((rf_PG z nl nt sy wi ht (rf_LL z nl nt sy wi lo lf lt).1 (rf_LL z nl nt sy wi lo lf lt).2.1 (rf_LL z nl nt sy wi lo lf lt).2.2.1 (rf_LL z nl nt sy wi lo lf lt).2.2.2 pf).1 - 1)
  have w_v_0_6 := rf_in_d v 0 6
  refine ji_ent (by decide) rfl (Nat.le_of_ble_eq_true rfl) rfl ?_
  refine ji_aload_n dX8_page_0 rfl trivial ?_
  refine ji_aload_n dX8_page_1 rfl trivial ?_
  refine ji_iload_n dX8_page_2 rfl ?_
  refine ji_cV dX8_page_3 (r_isPage hrf (by omega)) rfl (rf_60) rfl rfl wX8_isPage vX8_isPage lX8_207 rfl (Nat.le_of_ble_eq_true rfl) rfl ?_
  refine ji_if_ne (tgt := 13) dX8_page_6 rfl (by omega) (fun c6 => ?_) (fun c6 => ?_)
  · try (exfalso; omega)
    all_goals
      refine ji_iload_n dX8_page_13 rfl ?_
      refine ji_iconst dX8_page_14 ?_
      refine ji_bipush dX8_page_15 rfl ?_
      refine ji_cS dX8_page_17 (r_within (by omega) (by omega) (by omega)) rfl wX8_within sX8_within lX8_50 rfl (Nat.le_of_ble_eq_true rfl) rfl ?_
      refine ji_if_eq (tgt := 27) dX8_page_20 rfl (by omega) (fun c20 => ?_) (fun c20 => ?_)
      · try (exfalso; omega)
        all_goals
          refine ji_iconst dX8_page_27 ?_
          refine ji_putE (ci := 8) (k := 0) rfl dX8_page_28 lX8_47 (by decide) (rf_60) (by simp [rf_c]) (ji_fitI _) rfl (rf_pth) ?_
          refine ji_aload_n dX8_page_31 rfl trivial ?_
          refine ji_get (ci := 8) (k := 0) rfl dX8_page_32 lX8_47 (by decide) (rf_60) rfl ?_
          refine ji_if_le (tgt := 42) dX8_page_35 rfl (by omega) (fun c35 => ?_) (fun c35 => ?_)
          · try (exfalso; omega)
            all_goals
              refine ji_aload_n dX8_page_42 rfl trivial ?_
              refine ji_iload_n dX8_page_43 rfl ?_
              refine ji_iload_n dX8_page_44 rfl ?_
              refine ji_cV dX8_page_45 (r_pageNow hz hn hk hc9 hrl hrc hpk hm9 (by omega) (by omega)) rfl (rf_60) rfl rfl wX8_pageNow vX8_pageNow lX8_210 rfl (Nat.le_of_ble_eq_true rfl) rfl ?_
              exact ji_ireturn dX8_page_48 rfl (rfl) ⟨rfl, rfl⟩
          · try (exfalso; omega)
            all_goals
              refine ji_iconst dX8_page_38 ?_
              refine ji_goto (tgt := 48) dX8_page_39 rfl ?_
              exact ji_ireturn dX8_page_48 rfl (rfl) ⟨rfl, rfl⟩
      · try (exfalso; omega)
        all_goals
          refine ji_iconst dX8_page_23 ?_
          refine ji_goto (tgt := 28) dX8_page_24 rfl ?_
          refine ji_putE (ci := 8) (k := 0) rfl dX8_page_28 lX8_47 (by decide) (rf_60) (by simp [rf_c]) (ji_fitI _) rfl (rf_pth) ?_
          refine ji_aload_n dX8_page_31 rfl trivial ?_
          refine ji_get (ci := 8) (k := 0) rfl dX8_page_32 lX8_47 (by decide) (rf_60) rfl ?_
          refine ji_if_le (tgt := 42) dX8_page_35 rfl (by omega) (fun c35 => ?_) (fun c35 => ?_)
          · try (exfalso; omega)
            all_goals
              refine ji_aload_n dX8_page_42 rfl trivial ?_
              refine ji_iload_n dX8_page_43 rfl ?_
              refine ji_iload_n dX8_page_44 rfl ?_
              refine ji_cV dX8_page_45 (r_pageNow hz hn hk hc9 hrl hrc hpk hm9 (by omega) (by omega)) rfl (rf_60) rfl rfl wX8_pageNow vX8_pageNow lX8_210 rfl (Nat.le_of_ble_eq_true rfl) rfl ?_
              exact ji_ireturn dX8_page_48 rfl (rfl) ⟨rfl, rfl⟩
          · try (exfalso; omega)
            all_goals
              refine ji_iconst dX8_page_38 ?_
              refine ji_goto (tgt := 48) dX8_page_39 rfl ?_
              exact ji_ireturn dX8_page_48 rfl (rfl) ⟨rfl, rfl⟩
  · try (exfalso; omega)
    all_goals
      refine ji_iconst dX8_page_9 ?_
      refine ji_goto (tgt := 28) dX8_page_10 rfl ?_
      refine ji_putE (ci := 8) (k := 0) rfl dX8_page_28 lX8_47 (by decide) (rf_60) (by simp [rf_c]) (ji_fitI _) rfl (rf_pth) ?_
      refine ji_aload_n dX8_page_31 rfl trivial ?_
      refine ji_get (ci := 8) (k := 0) rfl dX8_page_32 lX8_47 (by decide) (rf_60) rfl ?_
      refine ji_if_le (tgt := 42) dX8_page_35 rfl (by omega) (fun c35 => ?_) (fun c35 => ?_)
      · try (exfalso; omega)
        all_goals
          refine ji_aload_n dX8_page_42 rfl trivial ?_
          refine ji_iload_n dX8_page_43 rfl ?_
          refine ji_iload_n dX8_page_44 rfl ?_
          refine ji_cV dX8_page_45 (r_pageNow hz hn hk hc9 hrl hrc hpk hm9 (by omega) (by omega)) rfl (rf_60) rfl rfl wX8_pageNow vX8_pageNow lX8_210 rfl (Nat.le_of_ble_eq_true rfl) rfl ?_
          exact ji_ireturn dX8_page_48 rfl (rfl) ⟨rfl, rfl⟩
      · try (exfalso; omega)
        all_goals
          refine ji_iconst dX8_page_38 ?_
          refine ji_goto (tgt := 48) dX8_page_39 rfl ?_
          exact ji_ireturn dX8_page_48 rfl (rfl) ⟨rfl, rfl⟩

set_option maxHeartbeats 4000000 in
set_option maxRecDepth 100000 in
theorem r_line1 (hrf : rf_ok wi ht z nl nt sy) {q : Int} (b_q : -2147483648 ≤ q ∧ q < 2147483648) {v : Int} (hx : q < 0 ∨ (rf_LL z nl nt sy wi lo lf lt).1 ≤ q) : JR G (d + 10) mX8_line [.ref 60, .int (jI q), .int (jI v)] (n, rf_f f th z kp ed nt nl wi ht sy sz bf rs rr rq rp mm ln lo lf lt co ro pg pf hsh) 0 0 (some (.int (jI 0))) (n, rf_f f 1 z kp ed nt nl wi ht sy sz bf rs rr rq rp mm ((rf_LL z nl nt sy wi lo lf lt).1) ((rf_LL z nl nt sy wi lo lf lt).2.1) ((rf_LL z nl nt sy wi lo lf lt).2.2.1) ((rf_LL z nl nt sy wi lo lf lt).2.2.2) wi ht ((rf_PG z nl nt sy wi ht (rf_LL z nl nt sy wi lo lf lt).1 (rf_LL z nl nt sy wi lo lf lt).2.1 (rf_LL z nl nt sy wi lo lf lt).2.2.1 (rf_LL z nl nt sy wi lo lf lt).2.2.2 pf).1) (va_up (rf_PG z nl nt sy wi ht (rf_LL z nl nt sy wi lo lf lt).1 (rf_LL z nl nt sy wi lo lf lt).2.1 (rf_LL z nl nt sy wi lo lf lt).2.2.1 (rf_LL z nl nt sy wi lo lf lt).2.2.2 pf).2 (rf_PG z nl nt sy wi ht (rf_LL z nl nt sy wi lo lf lt).1 (rf_LL z nl nt sy wi lo lf lt).2.1 (rf_LL z nl nt sy wi lo lf lt).2.2.1 (rf_LL z nl nt sy wi lo lf lt).2.2.2 pf).1.toNat (rf_LL z nl nt sy wi lo lf lt).1) hsh) := by
  obtain ⟨hz, hn, hk, hrc, ⟨hw9, hh9⟩, ⟨hm9, hj9⟩, hll⟩ := id hrf
  have zb := hz.2.1
  have hF := (hll wi lo lf lt (by omega)).2
  have hl1 := (hll wi lo lf lt (by omega)).1
  have hc9 : 0 ≤ wi ∧ wi ≤ 100 := by omega
  have hro : 0 ≤ ht ∧ ht ≤ 100 := by omega
  have hrl := rf_LL_ok hz hF
  have hpk := rf_PG_ok z nl nt sy wi ht (rf_LL z nl nt sy wi lo lf lt).2.1 (rf_LL z nl nt sy wi lo lf lt).2.2.1 (rf_LL z nl nt sy wi lo lf lt).2.2.2 pf (ln := (rf_LL z nl nt sy wi lo lf lt).1) (by omega)
  have hpp := hpk.pos (by omega)
  have hpl := hpk.1
  have wp := rf_in_d q 0 ((rf_LL z nl nt sy wi lo lf lt).1 - 1)
  refine ji_ent (by decide) rfl (Nat.le_of_ble_eq_true rfl) rfl ?_
  refine ji_aload_n dX8_line_0 rfl trivial ?_
  refine ji_aload_n dX8_line_1 rfl trivial ?_
  refine ji_iload_n dX8_line_2 rfl ?_
  refine ji_cV dX8_line_3 (r_isLine hrf (by omega)) rfl (rf_60) rfl rfl wX8_isLine vX8_isLine lX8_220 rfl (Nat.le_of_ble_eq_true rfl) rfl ?_
  refine ji_if_ne (tgt := 13) dX8_line_6 rfl (by omega) (fun c6 => ?_) (fun c6 => ?_)
  · try (exfalso; omega)
    all_goals
      refine ji_iload_n dX8_line_13 rfl ?_
      refine ji_iconst dX8_line_14 ?_
      refine ji_iconst dX8_line_15 ?_
      refine ji_cS dX8_line_16 (r_within (by omega) (by omega) (by omega)) rfl wX8_within sX8_within lX8_50 rfl (Nat.le_of_ble_eq_true rfl) rfl ?_
      refine ji_if_eq (tgt := 26) dX8_line_19 rfl (by omega) (fun c19 => ?_) (fun c19 => ?_)
      · try (exfalso; omega)
        all_goals
          refine ji_iconst dX8_line_26 ?_
          refine ji_putE (ci := 8) (k := 0) rfl dX8_line_27 lX8_47 (by decide) (rf_60) (by simp [rf_c]) (ji_fitI _) rfl (rf_pth) ?_
          refine ji_aload_n dX8_line_30 rfl trivial ?_
          refine ji_get (ci := 8) (k := 0) rfl dX8_line_31 lX8_47 (by decide) (rf_60) rfl ?_
          refine ji_if_le (tgt := 41) dX8_line_34 rfl (by omega) (fun c34 => ?_) (fun c34 => ?_)
          · try (exfalso; omega)
            all_goals
              refine ji_aload_n dX8_line_41 rfl trivial ?_
              refine ji_iload_n dX8_line_42 rfl ?_
              refine ji_iload_n dX8_line_43 rfl ?_
              exfalso; omega
          · try (exfalso; omega)
            all_goals
              refine ji_iconst dX8_line_37 ?_
              refine ji_goto (tgt := 47) dX8_line_38 rfl ?_
              exact ji_ireturn dX8_line_47 rfl (rfl) ⟨jr_i (by first | rfl | omega), rfl⟩
      · try (exfalso; omega)
        all_goals
          refine ji_iconst dX8_line_22 ?_
          refine ji_goto (tgt := 27) dX8_line_23 rfl ?_
          refine ji_putE (ci := 8) (k := 0) rfl dX8_line_27 lX8_47 (by decide) (rf_60) (by simp [rf_c]) (ji_fitI _) rfl (rf_pth) ?_
          refine ji_aload_n dX8_line_30 rfl trivial ?_
          refine ji_get (ci := 8) (k := 0) rfl dX8_line_31 lX8_47 (by decide) (rf_60) rfl ?_
          refine ji_if_le (tgt := 41) dX8_line_34 rfl (by omega) (fun c34 => ?_) (fun c34 => ?_)
          · try (exfalso; omega)
            all_goals
              refine ji_aload_n dX8_line_41 rfl trivial ?_
              refine ji_iload_n dX8_line_42 rfl ?_
              refine ji_iload_n dX8_line_43 rfl ?_
              exfalso; omega
          · try (exfalso; omega)
            all_goals
              refine ji_iconst dX8_line_37 ?_
              refine ji_goto (tgt := 47) dX8_line_38 rfl ?_
              exact ji_ireturn dX8_line_47 rfl (rfl) ⟨jr_i (by first | rfl | omega), rfl⟩
  · try (exfalso; omega)
    all_goals
      refine ji_iconst dX8_line_9 ?_
      refine ji_goto (tgt := 27) dX8_line_10 rfl ?_
      refine ji_putE (ci := 8) (k := 0) rfl dX8_line_27 lX8_47 (by decide) (rf_60) (by simp [rf_c]) (ji_fitI _) rfl (rf_pth) ?_
      refine ji_aload_n dX8_line_30 rfl trivial ?_
      refine ji_get (ci := 8) (k := 0) rfl dX8_line_31 lX8_47 (by decide) (rf_60) rfl ?_
      refine ji_if_le (tgt := 41) dX8_line_34 rfl (by omega) (fun c34 => ?_) (fun c34 => ?_)
      · try (exfalso; omega)
        all_goals
          refine ji_aload_n dX8_line_41 rfl trivial ?_
          refine ji_iload_n dX8_line_42 rfl ?_
          refine ji_iload_n dX8_line_43 rfl ?_
          exfalso; omega
      · try (exfalso; omega)
        all_goals
          refine ji_iconst dX8_line_37 ?_
          refine ji_goto (tgt := 47) dX8_line_38 rfl ?_
          exact ji_ireturn dX8_line_47 rfl (rfl) ⟨jr_i (by first | rfl | omega), rfl⟩

set_option maxHeartbeats 4000000 in
set_option maxRecDepth 100000 in
theorem r_line2 (hrf : rf_ok wi ht z nl nt sy) {q : Int} (hq : 0 ≤ q ∧ q < (rf_LL z nl nt sy wi lo lf lt).1) {v : Int} (b_v : -2147483648 ≤ v ∧ v < 2147483648) (hx : v < 0 ∨ 6 ≤ v) : JR G (d + 10) mX8_line [.ref 60, .int (jI q), .int (jI v)] (n, rf_f f th z kp ed nt nl wi ht sy sz bf rs rr rq rp mm ln lo lf lt co ro pg pf hsh) 0 0 (some (.int (jI 0))) (n, rf_f f 2 z kp ed nt nl wi ht sy sz bf rs rr rq rp mm ((rf_LL z nl nt sy wi lo lf lt).1) ((rf_LL z nl nt sy wi lo lf lt).2.1) ((rf_LL z nl nt sy wi lo lf lt).2.2.1) ((rf_LL z nl nt sy wi lo lf lt).2.2.2) wi ht ((rf_PG z nl nt sy wi ht (rf_LL z nl nt sy wi lo lf lt).1 (rf_LL z nl nt sy wi lo lf lt).2.1 (rf_LL z nl nt sy wi lo lf lt).2.2.1 (rf_LL z nl nt sy wi lo lf lt).2.2.2 pf).1) (va_up (rf_PG z nl nt sy wi ht (rf_LL z nl nt sy wi lo lf lt).1 (rf_LL z nl nt sy wi lo lf lt).2.1 (rf_LL z nl nt sy wi lo lf lt).2.2.1 (rf_LL z nl nt sy wi lo lf lt).2.2.2 pf).2 (rf_PG z nl nt sy wi ht (rf_LL z nl nt sy wi lo lf lt).1 (rf_LL z nl nt sy wi lo lf lt).2.1 (rf_LL z nl nt sy wi lo lf lt).2.2.1 (rf_LL z nl nt sy wi lo lf lt).2.2.2 pf).1.toNat (rf_LL z nl nt sy wi lo lf lt).1) hsh) := by
  obtain ⟨hz, hn, hk, hrc, ⟨hw9, hh9⟩, ⟨hm9, hj9⟩, hll⟩ := id hrf
  have zb := hz.2.1
  have hF := (hll wi lo lf lt (by omega)).2
  have hl1 := (hll wi lo lf lt (by omega)).1
  have hc9 : 0 ≤ wi ∧ wi ≤ 100 := by omega
  have hro : 0 ≤ ht ∧ ht ≤ 100 := by omega
  have hrl := rf_LL_ok hz hF
  have hpk := rf_PG_ok z nl nt sy wi ht (rf_LL z nl nt sy wi lo lf lt).2.1 (rf_LL z nl nt sy wi lo lf lt).2.2.1 (rf_LL z nl nt sy wi lo lf lt).2.2.2 pf (ln := (rf_LL z nl nt sy wi lo lf lt).1) (by omega)
  have hpp := hpk.pos (by omega)
  have hpl := hpk.1
  have wp := rf_in_d q 0 ((rf_LL z nl nt sy wi lo lf lt).1 - 1)
  have w_v_0_5 := rf_in_d v 0 5
  refine ji_ent (by decide) rfl (Nat.le_of_ble_eq_true rfl) rfl ?_
  refine ji_aload_n dX8_line_0 rfl trivial ?_
  refine ji_aload_n dX8_line_1 rfl trivial ?_
  refine ji_iload_n dX8_line_2 rfl ?_
  refine ji_cV dX8_line_3 (r_isLine hrf (by omega)) rfl (rf_60) rfl rfl wX8_isLine vX8_isLine lX8_220 rfl (Nat.le_of_ble_eq_true rfl) rfl ?_
  refine ji_if_ne (tgt := 13) dX8_line_6 rfl (by omega) (fun c6 => ?_) (fun c6 => ?_)
  · try (exfalso; omega)
    all_goals
      refine ji_iload_n dX8_line_13 rfl ?_
      refine ji_iconst dX8_line_14 ?_
      refine ji_iconst dX8_line_15 ?_
      refine ji_cS dX8_line_16 (r_within (by omega) (by omega) (by omega)) rfl wX8_within sX8_within lX8_50 rfl (Nat.le_of_ble_eq_true rfl) rfl ?_
      refine ji_if_eq (tgt := 26) dX8_line_19 rfl (by omega) (fun c19 => ?_) (fun c19 => ?_)
      · try (exfalso; omega)
        all_goals
          refine ji_iconst dX8_line_26 ?_
          refine ji_putE (ci := 8) (k := 0) rfl dX8_line_27 lX8_47 (by decide) (rf_60) (by simp [rf_c]) (ji_fitI _) rfl (rf_pth) ?_
          refine ji_aload_n dX8_line_30 rfl trivial ?_
          refine ji_get (ci := 8) (k := 0) rfl dX8_line_31 lX8_47 (by decide) (rf_60) rfl ?_
          refine ji_if_le (tgt := 41) dX8_line_34 rfl (by omega) (fun c34 => ?_) (fun c34 => ?_)
          · try (exfalso; omega)
            all_goals
              refine ji_aload_n dX8_line_41 rfl trivial ?_
              refine ji_iload_n dX8_line_42 rfl ?_
              refine ji_iload_n dX8_line_43 rfl ?_
              exfalso; omega
          · try (exfalso; omega)
            all_goals
              refine ji_iconst dX8_line_37 ?_
              refine ji_goto (tgt := 47) dX8_line_38 rfl ?_
              exact ji_ireturn dX8_line_47 rfl (rfl) ⟨jr_i (by first | rfl | omega), rfl⟩
      · try (exfalso; omega)
        all_goals
          refine ji_iconst dX8_line_22 ?_
          refine ji_goto (tgt := 27) dX8_line_23 rfl ?_
          refine ji_putE (ci := 8) (k := 0) rfl dX8_line_27 lX8_47 (by decide) (rf_60) (by simp [rf_c]) (ji_fitI _) rfl (rf_pth) ?_
          refine ji_aload_n dX8_line_30 rfl trivial ?_
          refine ji_get (ci := 8) (k := 0) rfl dX8_line_31 lX8_47 (by decide) (rf_60) rfl ?_
          refine ji_if_le (tgt := 41) dX8_line_34 rfl (by omega) (fun c34 => ?_) (fun c34 => ?_)
          · try (exfalso; omega)
            all_goals
              refine ji_aload_n dX8_line_41 rfl trivial ?_
              refine ji_iload_n dX8_line_42 rfl ?_
              refine ji_iload_n dX8_line_43 rfl ?_
              exfalso; omega
          · try (exfalso; omega)
            all_goals
              refine ji_iconst dX8_line_37 ?_
              refine ji_goto (tgt := 47) dX8_line_38 rfl ?_
              exact ji_ireturn dX8_line_47 rfl (rfl) ⟨jr_i (by first | rfl | omega), rfl⟩
  · try (exfalso; omega)
    all_goals
      refine ji_iconst dX8_line_9 ?_
      refine ji_goto (tgt := 27) dX8_line_10 rfl ?_
      refine ji_putE (ci := 8) (k := 0) rfl dX8_line_27 lX8_47 (by decide) (rf_60) (by simp [rf_c]) (ji_fitI _) rfl (rf_pth) ?_
      refine ji_aload_n dX8_line_30 rfl trivial ?_
      refine ji_get (ci := 8) (k := 0) rfl dX8_line_31 lX8_47 (by decide) (rf_60) rfl ?_
      refine ji_if_le (tgt := 41) dX8_line_34 rfl (by omega) (fun c34 => ?_) (fun c34 => ?_)
      · try (exfalso; omega)
        all_goals
          refine ji_aload_n dX8_line_41 rfl trivial ?_
          refine ji_iload_n dX8_line_42 rfl ?_
          refine ji_iload_n dX8_line_43 rfl ?_
          exfalso; omega
      · try (exfalso; omega)
        all_goals
          refine ji_iconst dX8_line_37 ?_
          refine ji_goto (tgt := 47) dX8_line_38 rfl ?_
          exact ji_ireturn dX8_line_47 rfl (rfl) ⟨jr_i (by first | rfl | omega), rfl⟩

set_option maxHeartbeats 4000000 in
set_option maxRecDepth 100000 in
theorem r_line (hrf : rf_ok wi ht z nl nt sy) {q : Int} (hq : 0 ≤ q ∧ q < (rf_LL z nl nt sy wi lo lf lt).1) {v : Int} (hx : 0 ≤ v ∧ v < 6) : JR G (d + 10) mX8_line [.ref 60, .int (jI q), .int (jI v)] (n, rf_f f th z kp ed nt nl wi ht sy sz bf rs rr rq rp mm ln lo lf lt co ro pg pf hsh) 0 0 (some (.int (jI (rf_LN z nt sy ((rf_LL z nl nt sy wi lo lf lt).2.1) ((rf_LL z nl nt sy wi lo lf lt).2.2.1) ((rf_LL z nl nt sy wi lo lf lt).2.2.2) ((rf_PG z nl nt sy wi ht (rf_LL z nl nt sy wi lo lf lt).1 (rf_LL z nl nt sy wi lo lf lt).2.1 (rf_LL z nl nt sy wi lo lf lt).2.2.1 (rf_LL z nl nt sy wi lo lf lt).2.2.2 pf).1) (va_up (rf_PG z nl nt sy wi ht (rf_LL z nl nt sy wi lo lf lt).1 (rf_LL z nl nt sy wi lo lf lt).2.1 (rf_LL z nl nt sy wi lo lf lt).2.2.1 (rf_LL z nl nt sy wi lo lf lt).2.2.2 pf).2 (rf_PG z nl nt sy wi ht (rf_LL z nl nt sy wi lo lf lt).1 (rf_LL z nl nt sy wi lo lf lt).2.1 (rf_LL z nl nt sy wi lo lf lt).2.2.1 (rf_LL z nl nt sy wi lo lf lt).2.2.2 pf).1.toNat (rf_LL z nl nt sy wi lo lf lt).1) q v)))) (n, rf_f f 0 z kp ed nt nl wi ht sy sz bf rs rr rq rp mm ((rf_LL z nl nt sy wi lo lf lt).1) ((rf_LL z nl nt sy wi lo lf lt).2.1) ((rf_LL z nl nt sy wi lo lf lt).2.2.1) ((rf_LL z nl nt sy wi lo lf lt).2.2.2) wi ht ((rf_PG z nl nt sy wi ht (rf_LL z nl nt sy wi lo lf lt).1 (rf_LL z nl nt sy wi lo lf lt).2.1 (rf_LL z nl nt sy wi lo lf lt).2.2.1 (rf_LL z nl nt sy wi lo lf lt).2.2.2 pf).1) (va_up (rf_PG z nl nt sy wi ht (rf_LL z nl nt sy wi lo lf lt).1 (rf_LL z nl nt sy wi lo lf lt).2.1 (rf_LL z nl nt sy wi lo lf lt).2.2.1 (rf_LL z nl nt sy wi lo lf lt).2.2.2 pf).2 (rf_PG z nl nt sy wi ht (rf_LL z nl nt sy wi lo lf lt).1 (rf_LL z nl nt sy wi lo lf lt).2.1 (rf_LL z nl nt sy wi lo lf lt).2.2.1 (rf_LL z nl nt sy wi lo lf lt).2.2.2 pf).1.toNat (rf_LL z nl nt sy wi lo lf lt).1) hsh) := by
  obtain ⟨hz, hn, hk, hrc, ⟨hw9, hh9⟩, ⟨hm9, hj9⟩, hll⟩ := id hrf
  have zb := hz.2.1
  have hF := (hll wi lo lf lt (by omega)).2
  have hl1 := (hll wi lo lf lt (by omega)).1
  have hc9 : 0 ≤ wi ∧ wi ≤ 100 := by omega
  have hro : 0 ≤ ht ∧ ht ≤ 100 := by omega
  have hrl := rf_LL_ok hz hF
  have hpk := rf_PG_ok z nl nt sy wi ht (rf_LL z nl nt sy wi lo lf lt).2.1 (rf_LL z nl nt sy wi lo lf lt).2.2.1 (rf_LL z nl nt sy wi lo lf lt).2.2.2 pf (ln := (rf_LL z nl nt sy wi lo lf lt).1) (by omega)
  have hpp := hpk.pos (by omega)
  have hpl := hpk.1
  have wp := rf_in_d q 0 ((rf_LL z nl nt sy wi lo lf lt).1 - 1)
  have w_v_0_5 := rf_in_d v 0 5
  refine ji_ent (by decide) rfl (Nat.le_of_ble_eq_true rfl) rfl ?_
  refine ji_aload_n dX8_line_0 rfl trivial ?_
  refine ji_aload_n dX8_line_1 rfl trivial ?_
  refine ji_iload_n dX8_line_2 rfl ?_
  refine ji_cV dX8_line_3 (r_isLine hrf (by omega)) rfl (rf_60) rfl rfl wX8_isLine vX8_isLine lX8_220 rfl (Nat.le_of_ble_eq_true rfl) rfl ?_
  refine ji_if_ne (tgt := 13) dX8_line_6 rfl (by omega) (fun c6 => ?_) (fun c6 => ?_)
  · try (exfalso; omega)
    all_goals
      refine ji_iload_n dX8_line_13 rfl ?_
      refine ji_iconst dX8_line_14 ?_
      refine ji_iconst dX8_line_15 ?_
      refine ji_cS dX8_line_16 (r_within (by omega) (by omega) (by omega)) rfl wX8_within sX8_within lX8_50 rfl (Nat.le_of_ble_eq_true rfl) rfl ?_
      refine ji_if_eq (tgt := 26) dX8_line_19 rfl (by omega) (fun c19 => ?_) (fun c19 => ?_)
      · try (exfalso; omega)
        all_goals
          refine ji_iconst dX8_line_26 ?_
          refine ji_putE (ci := 8) (k := 0) rfl dX8_line_27 lX8_47 (by decide) (rf_60) (by simp [rf_c]) (ji_fitI _) rfl (rf_pth) ?_
          refine ji_aload_n dX8_line_30 rfl trivial ?_
          refine ji_get (ci := 8) (k := 0) rfl dX8_line_31 lX8_47 (by decide) (rf_60) rfl ?_
          refine ji_if_le (tgt := 41) dX8_line_34 rfl (by omega) (fun c34 => ?_) (fun c34 => ?_)
          · try (exfalso; omega)
            all_goals
              refine ji_aload_n dX8_line_41 rfl trivial ?_
              refine ji_iload_n dX8_line_42 rfl ?_
              refine ji_iload_n dX8_line_43 rfl ?_
              refine ji_cV dX8_line_44 (r_lineNow hz hn hk hrl hpk (by omega) (by omega)) rfl (rf_60) rfl rfl wX8_lineNow vX8_lineNow lX8_223 rfl (Nat.le_of_ble_eq_true rfl) rfl ?_
              exact ji_ireturn dX8_line_47 rfl (rfl) ⟨rfl, rfl⟩
          · try (exfalso; omega)
            all_goals
              refine ji_iconst dX8_line_37 ?_
              refine ji_goto (tgt := 47) dX8_line_38 rfl ?_
              exact ji_ireturn dX8_line_47 rfl (rfl) ⟨rfl, rfl⟩
      · try (exfalso; omega)
        all_goals
          refine ji_iconst dX8_line_22 ?_
          refine ji_goto (tgt := 27) dX8_line_23 rfl ?_
          refine ji_putE (ci := 8) (k := 0) rfl dX8_line_27 lX8_47 (by decide) (rf_60) (by simp [rf_c]) (ji_fitI _) rfl (rf_pth) ?_
          refine ji_aload_n dX8_line_30 rfl trivial ?_
          refine ji_get (ci := 8) (k := 0) rfl dX8_line_31 lX8_47 (by decide) (rf_60) rfl ?_
          refine ji_if_le (tgt := 41) dX8_line_34 rfl (by omega) (fun c34 => ?_) (fun c34 => ?_)
          · try (exfalso; omega)
            all_goals
              refine ji_aload_n dX8_line_41 rfl trivial ?_
              refine ji_iload_n dX8_line_42 rfl ?_
              refine ji_iload_n dX8_line_43 rfl ?_
              refine ji_cV dX8_line_44 (r_lineNow hz hn hk hrl hpk (by omega) (by omega)) rfl (rf_60) rfl rfl wX8_lineNow vX8_lineNow lX8_223 rfl (Nat.le_of_ble_eq_true rfl) rfl ?_
              exact ji_ireturn dX8_line_47 rfl (rfl) ⟨rfl, rfl⟩
          · try (exfalso; omega)
            all_goals
              refine ji_iconst dX8_line_37 ?_
              refine ji_goto (tgt := 47) dX8_line_38 rfl ?_
              exact ji_ireturn dX8_line_47 rfl (rfl) ⟨rfl, rfl⟩
  · try (exfalso; omega)
    all_goals
      refine ji_iconst dX8_line_9 ?_
      refine ji_goto (tgt := 27) dX8_line_10 rfl ?_
      refine ji_putE (ci := 8) (k := 0) rfl dX8_line_27 lX8_47 (by decide) (rf_60) (by simp [rf_c]) (ji_fitI _) rfl (rf_pth) ?_
      refine ji_aload_n dX8_line_30 rfl trivial ?_
      refine ji_get (ci := 8) (k := 0) rfl dX8_line_31 lX8_47 (by decide) (rf_60) rfl ?_
      refine ji_if_le (tgt := 41) dX8_line_34 rfl (by omega) (fun c34 => ?_) (fun c34 => ?_)
      · try (exfalso; omega)
        all_goals
          refine ji_aload_n dX8_line_41 rfl trivial ?_
          refine ji_iload_n dX8_line_42 rfl ?_
          refine ji_iload_n dX8_line_43 rfl ?_
          refine ji_cV dX8_line_44 (r_lineNow hz hn hk hrl hpk (by omega) (by omega)) rfl (rf_60) rfl rfl wX8_lineNow vX8_lineNow lX8_223 rfl (Nat.le_of_ble_eq_true rfl) rfl ?_
          exact ji_ireturn dX8_line_47 rfl (rfl) ⟨rfl, rfl⟩
      · try (exfalso; omega)
        all_goals
          refine ji_iconst dX8_line_37 ?_
          refine ji_goto (tgt := 47) dX8_line_38 rfl ?_
          exact ji_ireturn dX8_line_47 rfl (rfl) ⟨rfl, rfl⟩

set_option maxHeartbeats 4000000 in
set_option maxRecDepth 100000 in
theorem r_lineChar (hz : rz_ok z) (hn : nl_ok nl nt) {t x y k : Int} (ht9 : 0 ≤ t ∧ t < 20) (hx : 0 ≤ x ∧ (t < 10 → y ≤ 359) ∧ (10 ≤ t → y ≤ 102)) (hk9 : -100 ≤ k ∧ k ≤ 100) (hx2 : x ≤ 400 ∧ -1 ≤ y ∧ y ≤ 400) : JR G (d + 1) mX8_lineChar [.ref 60, .int (jI t), .int (jI x), .int (jI y), .int (jI k)] (n, rf_f f th z kp ed nt nl wi ht sy sz bf rs rr rq rp mm ln lo lf lt co ro pg pf hsh) 0 0 (some (.int (jI (rf_LC (rf_ch z nt t) x y k)))) (n, rf_f f th z kp ed nt nl wi ht sy sz bf rs rr rq rp mm ln lo lf lt co ro pg pf hsh) := by
  refine ji_ent (by decide) rfl (Nat.le_of_ble_eq_true rfl) rfl ?_
  refine ji_iload dX8_lineChar_0 rfl ?_
  refine ji_if_lt (tgt := 25) dX8_lineChar_2 rfl (by omega) (fun c2 => ?_) (fun c2 => ?_)
  · try (exfalso; omega)
    all_goals
      refine ji_bipush dX8_lineChar_25 rfl ?_
      exact ji_ireturn dX8_lineChar_27 rfl (rfl) ⟨jr_i (by unfold rf_LC; first | (rw [if_pos (by omega)]; done) | (rw [if_neg (by omega)]; done)), rfl⟩
  · try (exfalso; omega)
    all_goals
      refine ji_iload_n dX8_lineChar_5 rfl ?_
      refine ji_iload dX8_lineChar_6 rfl ?_
      refine ji_iadd dX8_lineChar_8 ?_
      refine ji_iload_n dX8_lineChar_9 rfl ?_
      refine ji_icmp_ge (tgt := 25) dX8_lineChar_10 rfl (by omega) (by omega) (fun c10 => ?_) (fun c10 => ?_)
      · try (exfalso; omega)
        all_goals
          refine ji_bipush dX8_lineChar_25 rfl ?_
          exact ji_ireturn dX8_lineChar_27 rfl (rfl) ⟨jr_i (by unfold rf_LC; first | (rw [if_pos (by omega)]; done) | (rw [if_neg (by omega)]; done)), rfl⟩
      · try (exfalso; omega)
        all_goals
          refine ji_aload_n dX8_lineChar_13 rfl trivial ?_
          refine ji_iload_n dX8_lineChar_14 rfl ?_
          refine ji_iload_n dX8_lineChar_15 rfl ?_
          refine ji_iload dX8_lineChar_16 rfl ?_
          refine ji_iadd dX8_lineChar_18 ?_
          refine ji_cV dX8_lineChar_19 (r_charOf hz hn (by omega) (by omega)) rfl (rf_60) rfl rfl wX8_charOf vX8_charOf lX8_112 rfl (Nat.le_of_ble_eq_true rfl) rfl ?_
          refine ji_goto (tgt := 27) dX8_lineChar_22 rfl ?_
          exact ji_ireturn dX8_lineChar_27 rfl (rfl) ⟨jr_i (by unfold rf_LC; first | (rw [if_pos (by omega)]; done) | (rw [if_neg (by omega)]; done)), rfl⟩

set_option maxHeartbeats 4000000 in
set_option maxRecDepth 100000 in
theorem r_noteChar_i {bc bs : Nat} {i9 k R : Int} {K : Int → Int} (hz : rz_ok z) (hn : nl_ok nl nt) (hk : rk_ok z sy) (hc9 : 0 ≤ co ∧ co ≤ 100) {x9 : Int} (hx9 : 0 ≤ x9 ∧ x9 < 1024) {col : Int} (hcol : 0 ≤ col ∧ col ≤ 100) (hk9 : 0 ≤ k ∧ k < 10) (hs : rf_SN nl sy x9 k = 1) {Q : ji_R → ji_H → Prop} (hQ : Q (.inl (some (.int (jI R)))) (n, rf_f f th z kp ed nt nl wi ht sy sz bf rs rr rq rp mm ln lo lf lt co ro pg pf hsh)) (kk : ∀ l x o7, 0 ≤ l ∧ l ≤ 10000 → R = K l → JW G (d + 3) mX8_noteChar 90 [some (.ref 60), some (.int (jI x9)), some (.int (jI i9)), some (.int (jI col)), some (.int (jI l)), some (.int (jI k)), some (.int (jI x)), o7] [] (n, rf_f f th z kp ed nt nl wi ht sy sz bf rs rr rq rp mm ln lo lf lt co ro pg pf hsh) bc bs Q) : ∀ (u : Nat) (l x : Int) (o7 : Option Value), 0 ≤ x ∧ x ≤ 200 → 0 ≤ l ∧ l ≤ 10000 → rf_sz z nl (10 + k) - x ≤ u → R = rf_h1 (rf_sz z nl (10 + k)) (rf_ch z nt (10 + k)) co col K u x l →
    JW G (d + 3) mX8_noteChar 16 [some (.ref 60), some (.int (jI x9)), some (.int (jI i9)), some (.int (jI col)), some (.int (jI l)), some (.int (jI k)), some (.int (jI x)), o7] [] (n, rf_f f th z kp ed nt nl wi ht sy sz bf rs rr rq rp mm ln lo lf lt co ro pg pf hsh) bc bs Q := by
  obtain ⟨z1, z2, z3, z4⟩ := id hz
  obtain ⟨n1, n2⟩ := id hn
  have wsz := rf_sz_b hz hn (t := 10 + k) (by omega)
  intro u
  induction u with
  | zero =>
    intro l x o7 hx hl hu hR
    refine ji_aload_n dX8_noteChar_16 rfl trivial ?_
    refine ji_iload_n dX8_noteChar_17 rfl ?_
    refine ji_iload dX8_noteChar_18 rfl ?_
    refine ji_cV dX8_noteChar_20 (r_isShownNote hn hk hx9 (by omega)) rfl (rf_60) rfl rfl wX8_isShownNote vX8_isShownNote lX8_135 rfl (Nat.le_of_ble_eq_true rfl) rfl ?_
    refine ji_if_eq (tgt := 90) dX8_noteChar_23 rfl (by omega) (fun c23 => absurd c23 (by omega)) (fun c23 => ?_)
    refine ji_iload dX8_noteChar_26 rfl ?_
    refine ji_aload_n dX8_noteChar_28 rfl trivial ?_
    refine ji_bipush dX8_noteChar_29 rfl ?_
    refine ji_iload dX8_noteChar_31 rfl ?_
    refine ji_iadd dX8_noteChar_33 ?_
    refine ji_cV dX8_noteChar_34 (r_sizeOf hz hn (by omega)) rfl (rf_60) rfl rfl wX8_sizeOf vX8_sizeOf lX8_109 rfl (Nat.le_of_ble_eq_true rfl) rfl ?_
    refine ji_icmp_ge (tgt := 90) dX8_noteChar_37 rfl (by omega) (by omega) (fun c37 => ?_) (fun c37 => absurd c37 (by omega))
    exact kk _ _ _ hl hR
  | succ u ih =>
    intro l x o7 hx hl hu hR
    have wle := rf_LE_b (rf_sz z nl (10 + k)) (rf_ch z nt (10 + k)) x 0 co
    refine ji_aload_n dX8_noteChar_16 rfl trivial ?_
    refine ji_iload_n dX8_noteChar_17 rfl ?_
    refine ji_iload dX8_noteChar_18 rfl ?_
    refine ji_cV dX8_noteChar_20 (r_isShownNote hn hk hx9 (by omega)) rfl (rf_60) rfl rfl wX8_isShownNote vX8_isShownNote lX8_135 rfl (Nat.le_of_ble_eq_true rfl) rfl ?_
    refine ji_if_eq (tgt := 90) dX8_noteChar_23 rfl (by omega) (fun c23 => absurd c23 (by omega)) (fun c23 => ?_)
    refine ji_iload dX8_noteChar_26 rfl ?_
    refine ji_aload_n dX8_noteChar_28 rfl trivial ?_
    refine ji_bipush dX8_noteChar_29 rfl ?_
    refine ji_iload dX8_noteChar_31 rfl ?_
    refine ji_iadd dX8_noteChar_33 ?_
    refine ji_cV dX8_noteChar_34 (r_sizeOf hz hn (by omega)) rfl (rf_60) rfl rfl wX8_sizeOf vX8_sizeOf lX8_109 rfl (Nat.le_of_ble_eq_true rfl) rfl ?_
    refine ji_icmp_ge (tgt := 90) dX8_noteChar_37 rfl (by omega) (by omega) (fun c37 => ?_) (fun c37 => ?_)
    · try (exfalso; omega)
      all_goals
        exact kk _ _ _ hl (by rw [hR, rf_h1, if_neg (by omega)])
    · try (exfalso; omega)
      all_goals
        refine ji_aload_n dX8_noteChar_40 rfl trivial ?_
        refine ji_bipush dX8_noteChar_41 rfl ?_
        refine ji_iload dX8_noteChar_43 rfl ?_
        refine ji_iadd dX8_noteChar_45 ?_
        refine ji_iload dX8_noteChar_46 rfl ?_
        refine ji_iconst dX8_noteChar_48 ?_
        refine ji_aload_n dX8_noteChar_49 rfl trivial ?_
        refine ji_get (ci := 8) (k := 20) rfl dX8_noteChar_50 lX8_119 (by decide) (rf_60) rfl ?_
        refine ji_cV dX8_noteChar_53 (r_lineEnd hz hn (by omega) (by omega) (by omega) (by omega)) rfl (rf_60) rfl rfl wX8_lineEnd vX8_lineEnd lX8_128 rfl (Nat.le_of_ble_eq_true rfl) rfl ?_
        refine ji_istore dX8_noteChar_56 (by decide) rfl ?_
        refine ji_iload dX8_noteChar_58 rfl ?_
        refine ji_if_ne (tgt := 78) dX8_noteChar_60 rfl (by omega) (fun c60 => ?_) (fun c60 => ?_)
        · try (exfalso; omega)
          all_goals
            refine ji_iinc dX8_noteChar_78 (by decide) rfl rfl ?_
            refine ji_iload dX8_noteChar_81 rfl ?_
            refine ji_iconst dX8_noteChar_83 ?_
            refine ji_iadd dX8_noteChar_84 ?_
            refine ji_istore dX8_noteChar_85 (by decide) rfl ?_
            refine ji_goto (tgt := 16) dX8_noteChar_87 rfl ?_
            exact ih _ _ _ (by omega) (by omega) (by omega) (by rw [hR, rf_h1, if_pos (by omega), if_neg (by omega)]; rfl)
        · try (exfalso; omega)
          all_goals
            refine ji_aload_n dX8_noteChar_63 rfl trivial ?_
            refine ji_bipush dX8_noteChar_64 rfl ?_
            refine ji_iload dX8_noteChar_66 rfl ?_
            refine ji_iadd dX8_noteChar_68 ?_
            refine ji_iload dX8_noteChar_69 rfl ?_
            refine ji_iload dX8_noteChar_71 rfl ?_
            refine ji_iload_n dX8_noteChar_73 rfl ?_
            refine ji_cV dX8_noteChar_74 (r_lineChar hz hn (by omega) (by omega) (by omega) (by omega)) rfl (rf_60) rfl rfl wX8_lineChar vX8_lineChar lX8_226 rfl (Nat.le_of_ble_eq_true rfl) rfl ?_
            exact ji_ireturn dX8_noteChar_77 rfl (rfl) (by have e9 : R = rf_LC (rf_ch z nt (10 + k)) x (rf_LE (rf_sz z nl (10 + k)) (rf_ch z nt (10 + k)) x 0 co) col := (by rw [hR, rf_h1, if_pos (by omega), if_pos (by omega)]); rw [← e9]; exact hQ)

set_option maxHeartbeats 4000000 in
set_option maxRecDepth 100000 in
theorem r_noteChar_o {bc bs : Nat} {i9 R : Int} (hz : rz_ok z) (hn : nl_ok nl nt) (hk : rk_ok z sy) (hc9 : 0 ≤ co ∧ co ≤ 100) {x9 : Int} (hx9 : 0 ≤ x9 ∧ x9 < 1024) {col : Int} (hcol : 0 ≤ col ∧ col ≤ 100) : ∀ (u : Nat) (l k : Int) (o6 o7 : Option Value), 0 ≤ k ∧ k + u = 10 → 0 ≤ l ∧ l ≤ 10000 → R = rf_h2 z nl nt sy co x9 col u k l →
    JW G (d + 3) mX8_noteChar 6 [some (.ref 60), some (.int (jI x9)), some (.int (jI i9)), some (.int (jI col)), some (.int (jI l)), some (.int (jI k)), o6, o7] [] (n, rf_f f th z kp ed nt nl wi ht sy sz bf rs rr rq rp mm ln lo lf lt co ro pg pf hsh) bc bs (fun r9 h9 => r9 = .inl (some (.int (jI R))) ∧ h9 = (n, rf_f f th z kp ed nt nl wi ht sy sz bf rs rr rq rp mm ln lo lf lt co ro pg pf hsh)) := by
  intro u
  induction u with
  | zero =>
    intro l k o6 o7 hk9 hl hR
    refine ji_iload dX8_noteChar_6 rfl ?_
    refine ji_bipush dX8_noteChar_8 rfl ?_
    refine ji_icmp_ge (tgt := 96) dX8_noteChar_10 rfl (by omega) (by omega) (fun c10 => ?_) (fun c10 => absurd c10 (by omega))
    refine ji_bipush dX8_noteChar_96 rfl ?_
    exact ji_ireturn dX8_noteChar_98 rfl (rfl) ⟨jr_i (by rw [hR]; rfl), rfl⟩
  | succ u ih =>
    intro l k o6 o7 hk9 hl hR
    have wsz := rf_sz_b hz hn (t := 10 + k) (by omega)
    have wsn := rf_SN_d nl sy x9 k
    refine ji_iload dX8_noteChar_6 rfl ?_
    refine ji_bipush dX8_noteChar_8 rfl ?_
    refine ji_icmp_ge (tgt := 96) dX8_noteChar_10 rfl (by omega) (by omega) (fun c10 => absurd c10 (by omega)) (fun c10 => ?_)
    refine ji_iconst dX8_noteChar_13 ?_
    refine ji_istore dX8_noteChar_14 (by decide) rfl ?_
    by_cases hs : rf_SN nl sy x9 k = 1
    · refine r_noteChar_i (k := k) hz hn hk hc9 hx9 hcol (by omega) hs (K := fun l => rf_h2 z nl nt sy co x9 col u (k + 1) l) (R := R) ⟨rfl, rfl⟩ (fun l x o7 hl hR2 => ?_) (rf_sz z nl (10 + k)).toNat l 0 _ (by omega) hl (by omega) (by rw [hR, rf_h2, if_pos hs])
      refine ji_iinc dX8_noteChar_90 (by decide) rfl rfl ?_
      refine ji_goto (tgt := 6) dX8_noteChar_93 rfl ?_
      exact ih _ _ _ _ (by omega) hl hR2
    · have hR2 : R = rf_h2 z nl nt sy co x9 col u (k + 1) l := by rw [hR, rf_h2, if_neg hs]
      refine ji_aload_n dX8_noteChar_16 rfl trivial ?_
      refine ji_iload_n dX8_noteChar_17 rfl ?_
      refine ji_iload dX8_noteChar_18 rfl ?_
      refine ji_cV dX8_noteChar_20 (r_isShownNote hn hk hx9 (by omega)) rfl (rf_60) rfl rfl wX8_isShownNote vX8_isShownNote lX8_135 rfl (Nat.le_of_ble_eq_true rfl) rfl ?_
      refine ji_if_eq (tgt := 90) dX8_noteChar_23 rfl (by omega) (fun c23 => ?_) (fun c23 => ?_)
      · try (exfalso; omega)
        all_goals
          refine ji_iinc dX8_noteChar_90 (by decide) rfl rfl ?_
          refine ji_goto (tgt := 6) dX8_noteChar_93 rfl ?_
          exact ih _ _ _ _ (by omega) hl hR2
      · try (exfalso; omega)
        all_goals
          exfalso; omega

set_option maxHeartbeats 4000000 in
set_option maxRecDepth 100000 in
theorem r_noteChar (hz : rz_ok z) (hn : nl_ok nl nt) (hk : rk_ok z sy) (hc9 : 0 ≤ co ∧ co ≤ 100) {x9 : Int} (hx9 : 0 ≤ x9 ∧ x9 < 1024) {col : Int} (hcol : 0 ≤ col ∧ col ≤ 100) {i9 : Int} (hi9 : 0 ≤ i9 ∧ i9 ≤ 10000) : JR G (d + 3) mX8_noteChar [.ref 60, .int (jI x9), .int (jI i9), .int (jI col)] (n, rf_f f th z kp ed nt nl wi ht sy sz bf rs rr rq rp mm ln lo lf lt co ro pg pf hsh) 0 0 (some (.int (jI (rf_NC z nl nt sy co x9 i9 col)))) (n, rf_f f th z kp ed nt nl wi ht sy sz bf rs rr rq rp mm ln lo lf lt co ro pg pf hsh) := by
  refine ji_ent (by decide) rfl (Nat.le_of_ble_eq_true rfl) rfl ?_
  refine ji_iload_n dX8_noteChar_0 rfl ?_
  refine ji_istore dX8_noteChar_1 (by decide) rfl ?_
  refine ji_iconst dX8_noteChar_3 ?_
  refine ji_istore dX8_noteChar_4 (by decide) rfl ?_
  exact r_noteChar_o hz hn hk hc9 hx9 hcol 10 i9 0 _ _ (by omega) hi9 rfl

set_option maxHeartbeats 4000000 in
set_option maxRecDepth 100000 in
theorem r_shownNow_l {bc bs : Nat} {R : Int} (hz : rz_ok z) (hn : nl_ok nl nt) (hk : rk_ok z sy) (hc9 : 0 ≤ co ∧ co ≤ 100) (hrl : rl_ok z ln lo lf lt) (hrc : rc_ok z) (hpk : rp_ok ln pg pf) (hht : 0 ≤ ht ∧ ht ≤ 100) {q row col : Int} (hq : 0 ≤ q ∧ q < pg) (hrw : 0 ≤ row ∧ row ≤ 100) (hcol : 0 ≤ col ∧ col ≤ 100) : ∀ (u : Nat) (l : Int), (pf q.toNat) ≤ l ∧ l + u = (pf (q + 1).toNat) → R = rf_s1 z nl nt sy co ht lo lf lt pg pf (pf q.toNat) (pf (q + 1).toNat) row col u l →
    JW G (d + 5) mX8_shownNow 22 [some (.ref 60), some (.int (jI q)), some (.int (jI row)), some (.int (jI col)), some (.int (jI (pf q.toNat))), some (.int (jI (pf (q + 1).toNat))), some (.int (jI l)), none, none, none] [] (n, rf_f f th z kp ed nt nl wi ht sy sz bf rs rr rq rp mm ln lo lf lt co ro pg pf hsh) bc bs (fun r9 h9 => r9 = .inl (some (.int (jI R))) ∧ h9 = (n, rf_f f th z kp ed nt nl wi ht sy sz bf rs rr rq rp mm ln lo lf lt co ro pg pf hsh)) := by
  obtain ⟨r1, r2⟩ := id hrl
  obtain ⟨p1, p2, p3, p4, p5⟩ := id hpk
  have w1 := p3 q.toNat (by omega)
  have w2 := p3 (q + 1).toNat (by omega)
  have w3 := p2 q.toNat (by omega)
  rw [show q.toNat + 1 = (q + 1).toNat by omega] at w3
  have w4 := rf_NO_b (nt := nt) hz hrl hrc (x := pf q.toNat) (y := pf (q + 1).toNat) (by omega)
  have w5 := rf_NR_b hz hn sy co (rf_NO z nt lo lf lt (pf q.toNat) (pf (q + 1).toNat))
  have w6 := rf_RO_b hk lo lf (x := (pf q.toNat)) (y := (pf (q + 1).toNat)) (by omega) (by omega)
  have zb := hz.2.1
  intro u
  induction u with
  | zero =>
    intro l hl hR
    refine ji_iload dX8_shownNow_22 rfl ?_
    refine ji_iload dX8_shownNow_24 rfl ?_
    refine ji_icmp_ge (tgt := 91) dX8_shownNow_26 rfl (by omega) (by omega) (fun c26 => ?_) (fun c26 => absurd c26 (by omega))
    refine ji_aload_n dX8_shownNow_91 rfl trivial ?_
    refine ji_iload dX8_shownNow_92 rfl ?_
    refine ji_iload dX8_shownNow_94 rfl ?_
    refine ji_cV dX8_shownNow_96 (r_notesOn hz hn hrl hrc (by omega)) rfl (rf_60) rfl rfl wX8_notesOn vX8_notesOn lX8_148 rfl (Nat.le_of_ble_eq_true rfl) rfl ?_
    refine ji_istore dX8_shownNow_99 (by decide) rfl ?_
    refine ji_aload_n dX8_shownNow_101 rfl trivial ?_
    refine ji_iload dX8_shownNow_102 rfl ?_
    refine ji_cV dX8_shownNow_104 (r_noteRows hz hn hk hc9 (by omega)) rfl (rf_60) rfl rfl wX8_noteRows vX8_noteRows lX8_151 rfl (Nat.le_of_ble_eq_true rfl) rfl ?_
    refine ji_istore dX8_shownNow_107 (by decide) rfl ?_
    refine ji_aload_n dX8_shownNow_109 rfl trivial ?_
    refine ji_iload dX8_shownNow_110 rfl ?_
    refine ji_iload dX8_shownNow_112 rfl ?_
    refine ji_cV dX8_shownNow_114 (r_rowsOf hz hk hrl (by omega)) rfl (rf_60) rfl rfl wX8_rowsOf vX8_rowsOf lX8_145 rfl (Nat.le_of_ble_eq_true rfl) rfl ?_
    refine ji_istore dX8_shownNow_117 (by decide) rfl ?_
    refine ji_aload_n dX8_shownNow_119 rfl trivial ?_
    refine ji_get (ci := 8) (k := 7) rfl dX8_shownNow_120 lX8_26 (by decide) (rf_60) rfl ?_
    refine ji_iload dX8_shownNow_123 rfl ?_
    refine ji_isub dX8_shownNow_125 ?_
    refine ji_iload dX8_shownNow_126 rfl ?_
    refine ji_icmp_le (tgt := 141) dX8_shownNow_128 rfl (by omega) (by omega) (fun c128 => ?_) (fun c128 => ?_)
    · try (exfalso; omega)
      all_goals
        refine ji_iload dX8_shownNow_141 rfl ?_
        refine ji_istore dX8_shownNow_143 (by decide) rfl ?_
        refine ji_iload dX8_shownNow_145 rfl ?_
        refine ji_if_eq (tgt := 156) dX8_shownNow_147 rfl (by omega) (fun c147 => ?_) (fun c147 => ?_)
        · try (exfalso; omega)
          all_goals
            refine ji_bipush dX8_shownNow_156 rfl ?_
            refine ji_goto (tgt := 185) dX8_shownNow_158 rfl ?_
            exact ji_ireturn dX8_shownNow_185 rfl (rfl) ⟨jr_i (by rw [hR]; unfold rf_s1; unfold rf_s2; first | (rw [if_pos (by omega)]; done) | (rw [if_neg (by omega), if_pos (by omega)]; done) | (rw [if_neg (by omega), if_neg (by omega), show max (rf_RO z sy lo lf (pf q.toNat) (pf (q + 1).toNat)) (ht - rf_NR z nl nt sy co (rf_NO z nt lo lf lt (pf q.toNat) (pf (q + 1).toNat))) = rf_RO z sy lo lf (pf q.toNat) (pf (q + 1).toNat) by omega]; done) | (rw [if_neg (by omega), if_neg (by omega), show max (rf_RO z sy lo lf (pf q.toNat) (pf (q + 1).toNat)) (ht - rf_NR z nl nt sy co (rf_NO z nt lo lf lt (pf q.toNat) (pf (q + 1).toNat))) = ht - rf_NR z nl nt sy co (rf_NO z nt lo lf lt (pf q.toNat) (pf (q + 1).toNat)) by omega]; done)), rfl⟩
        · try (exfalso; omega)
          all_goals
            refine ji_iload_n dX8_shownNow_150 rfl ?_
            refine ji_iload dX8_shownNow_151 rfl ?_
            refine ji_icmp_ge (tgt := 161) dX8_shownNow_153 rfl (by omega) (by omega) (fun c153 => ?_) (fun c153 => ?_)
            · try (exfalso; omega)
              all_goals
                refine ji_iload_n dX8_shownNow_161 rfl ?_
                refine ji_iload dX8_shownNow_162 rfl ?_
                refine ji_icmp_ne (tgt := 172) dX8_shownNow_164 rfl (by omega) (by omega) (fun c164 => ?_) (fun c164 => ?_)
                · try (exfalso; omega)
                  all_goals
                    refine ji_aload_n dX8_shownNow_172 rfl trivial ?_
                    refine ji_iload dX8_shownNow_173 rfl ?_
                    refine ji_iload_n dX8_shownNow_175 rfl ?_
                    refine ji_iload dX8_shownNow_176 rfl ?_
                    refine ji_isub dX8_shownNow_178 ?_
                    refine ji_iconst dX8_shownNow_179 ?_
                    refine ji_isub dX8_shownNow_180 ?_
                    refine ji_iload_n dX8_shownNow_181 rfl ?_
                    refine ji_cV dX8_shownNow_182 (r_noteChar hz hn hk hc9 (by omega) (by omega) (by omega)) rfl (rf_60) rfl rfl wX8_noteChar vX8_noteChar lX8_229 rfl (Nat.le_of_ble_eq_true rfl) rfl ?_
                    exact ji_ireturn dX8_shownNow_185 rfl (rfl) ⟨jr_i (by rw [hR]; unfold rf_s1; unfold rf_s2; first | (rw [if_pos (by omega)]; done) | (rw [if_neg (by omega), if_pos (by omega)]; done) | (rw [if_neg (by omega), if_neg (by omega), show max (rf_RO z sy lo lf (pf q.toNat) (pf (q + 1).toNat)) (ht - rf_NR z nl nt sy co (rf_NO z nt lo lf lt (pf q.toNat) (pf (q + 1).toNat))) = rf_RO z sy lo lf (pf q.toNat) (pf (q + 1).toNat) by omega]; done) | (rw [if_neg (by omega), if_neg (by omega), show max (rf_RO z sy lo lf (pf q.toNat) (pf (q + 1).toNat)) (ht - rf_NR z nl nt sy co (rf_NO z nt lo lf lt (pf q.toNat) (pf (q + 1).toNat))) = ht - rf_NR z nl nt sy co (rf_NO z nt lo lf lt (pf q.toNat) (pf (q + 1).toNat)) by omega]; done)), rfl⟩
                · try (exfalso; omega)
                  all_goals
                    refine ji_bipush dX8_shownNow_167 rfl ?_
                    refine ji_goto (tgt := 185) dX8_shownNow_169 rfl ?_
                    exact ji_ireturn dX8_shownNow_185 rfl (rfl) ⟨jr_i (by rw [hR]; unfold rf_s1; unfold rf_s2; first | (rw [if_pos (by omega)]; done) | (rw [if_neg (by omega), if_pos (by omega)]; done) | (rw [if_neg (by omega), if_neg (by omega), show max (rf_RO z sy lo lf (pf q.toNat) (pf (q + 1).toNat)) (ht - rf_NR z nl nt sy co (rf_NO z nt lo lf lt (pf q.toNat) (pf (q + 1).toNat))) = rf_RO z sy lo lf (pf q.toNat) (pf (q + 1).toNat) by omega]; done) | (rw [if_neg (by omega), if_neg (by omega), show max (rf_RO z sy lo lf (pf q.toNat) (pf (q + 1).toNat)) (ht - rf_NR z nl nt sy co (rf_NO z nt lo lf lt (pf q.toNat) (pf (q + 1).toNat))) = ht - rf_NR z nl nt sy co (rf_NO z nt lo lf lt (pf q.toNat) (pf (q + 1).toNat)) by omega]; done)), rfl⟩
            · try (exfalso; omega)
              all_goals
                refine ji_bipush dX8_shownNow_156 rfl ?_
                refine ji_goto (tgt := 185) dX8_shownNow_158 rfl ?_
                exact ji_ireturn dX8_shownNow_185 rfl (rfl) ⟨jr_i (by rw [hR]; unfold rf_s1; unfold rf_s2; first | (rw [if_pos (by omega)]; done) | (rw [if_neg (by omega), if_pos (by omega)]; done) | (rw [if_neg (by omega), if_neg (by omega), show max (rf_RO z sy lo lf (pf q.toNat) (pf (q + 1).toNat)) (ht - rf_NR z nl nt sy co (rf_NO z nt lo lf lt (pf q.toNat) (pf (q + 1).toNat))) = rf_RO z sy lo lf (pf q.toNat) (pf (q + 1).toNat) by omega]; done) | (rw [if_neg (by omega), if_neg (by omega), show max (rf_RO z sy lo lf (pf q.toNat) (pf (q + 1).toNat)) (ht - rf_NR z nl nt sy co (rf_NO z nt lo lf lt (pf q.toNat) (pf (q + 1).toNat))) = ht - rf_NR z nl nt sy co (rf_NO z nt lo lf lt (pf q.toNat) (pf (q + 1).toNat)) by omega]; done)), rfl⟩
    · try (exfalso; omega)
      all_goals
        refine ji_aload_n dX8_shownNow_131 rfl trivial ?_
        refine ji_get (ci := 8) (k := 7) rfl dX8_shownNow_132 lX8_26 (by decide) (rf_60) rfl ?_
        refine ji_iload dX8_shownNow_135 rfl ?_
        refine ji_isub dX8_shownNow_137 ?_
        refine ji_goto (tgt := 143) dX8_shownNow_138 rfl ?_
        refine ji_istore dX8_shownNow_143 (by decide) rfl ?_
        refine ji_iload dX8_shownNow_145 rfl ?_
        refine ji_if_eq (tgt := 156) dX8_shownNow_147 rfl (by omega) (fun c147 => ?_) (fun c147 => ?_)
        · try (exfalso; omega)
          all_goals
            refine ji_bipush dX8_shownNow_156 rfl ?_
            refine ji_goto (tgt := 185) dX8_shownNow_158 rfl ?_
            exact ji_ireturn dX8_shownNow_185 rfl (rfl) ⟨jr_i (by rw [hR]; unfold rf_s1; unfold rf_s2; first | (rw [if_pos (by omega)]; done) | (rw [if_neg (by omega), if_pos (by omega)]; done) | (rw [if_neg (by omega), if_neg (by omega), show max (rf_RO z sy lo lf (pf q.toNat) (pf (q + 1).toNat)) (ht - rf_NR z nl nt sy co (rf_NO z nt lo lf lt (pf q.toNat) (pf (q + 1).toNat))) = rf_RO z sy lo lf (pf q.toNat) (pf (q + 1).toNat) by omega]; done) | (rw [if_neg (by omega), if_neg (by omega), show max (rf_RO z sy lo lf (pf q.toNat) (pf (q + 1).toNat)) (ht - rf_NR z nl nt sy co (rf_NO z nt lo lf lt (pf q.toNat) (pf (q + 1).toNat))) = ht - rf_NR z nl nt sy co (rf_NO z nt lo lf lt (pf q.toNat) (pf (q + 1).toNat)) by omega]; done)), rfl⟩
        · try (exfalso; omega)
          all_goals
            refine ji_iload_n dX8_shownNow_150 rfl ?_
            refine ji_iload dX8_shownNow_151 rfl ?_
            refine ji_icmp_ge (tgt := 161) dX8_shownNow_153 rfl (by omega) (by omega) (fun c153 => ?_) (fun c153 => ?_)
            · try (exfalso; omega)
              all_goals
                refine ji_iload_n dX8_shownNow_161 rfl ?_
                refine ji_iload dX8_shownNow_162 rfl ?_
                refine ji_icmp_ne (tgt := 172) dX8_shownNow_164 rfl (by omega) (by omega) (fun c164 => ?_) (fun c164 => ?_)
                · try (exfalso; omega)
                  all_goals
                    refine ji_aload_n dX8_shownNow_172 rfl trivial ?_
                    refine ji_iload dX8_shownNow_173 rfl ?_
                    refine ji_iload_n dX8_shownNow_175 rfl ?_
                    refine ji_iload dX8_shownNow_176 rfl ?_
                    refine ji_isub dX8_shownNow_178 ?_
                    refine ji_iconst dX8_shownNow_179 ?_
                    refine ji_isub dX8_shownNow_180 ?_
                    refine ji_iload_n dX8_shownNow_181 rfl ?_
                    refine ji_cV dX8_shownNow_182 (r_noteChar hz hn hk hc9 (by omega) (by omega) (by omega)) rfl (rf_60) rfl rfl wX8_noteChar vX8_noteChar lX8_229 rfl (Nat.le_of_ble_eq_true rfl) rfl ?_
                    exact ji_ireturn dX8_shownNow_185 rfl (rfl) ⟨jr_i (by rw [hR]; unfold rf_s1; unfold rf_s2; first | (rw [if_pos (by omega)]; done) | (rw [if_neg (by omega), if_pos (by omega)]; done) | (rw [if_neg (by omega), if_neg (by omega), show max (rf_RO z sy lo lf (pf q.toNat) (pf (q + 1).toNat)) (ht - rf_NR z nl nt sy co (rf_NO z nt lo lf lt (pf q.toNat) (pf (q + 1).toNat))) = rf_RO z sy lo lf (pf q.toNat) (pf (q + 1).toNat) by omega]; done) | (rw [if_neg (by omega), if_neg (by omega), show max (rf_RO z sy lo lf (pf q.toNat) (pf (q + 1).toNat)) (ht - rf_NR z nl nt sy co (rf_NO z nt lo lf lt (pf q.toNat) (pf (q + 1).toNat))) = ht - rf_NR z nl nt sy co (rf_NO z nt lo lf lt (pf q.toNat) (pf (q + 1).toNat)) by omega]; done)), rfl⟩
                · try (exfalso; omega)
                  all_goals
                    refine ji_bipush dX8_shownNow_167 rfl ?_
                    refine ji_goto (tgt := 185) dX8_shownNow_169 rfl ?_
                    exact ji_ireturn dX8_shownNow_185 rfl (rfl) ⟨jr_i (by rw [hR]; unfold rf_s1; unfold rf_s2; first | (rw [if_pos (by omega)]; done) | (rw [if_neg (by omega), if_pos (by omega)]; done) | (rw [if_neg (by omega), if_neg (by omega), show max (rf_RO z sy lo lf (pf q.toNat) (pf (q + 1).toNat)) (ht - rf_NR z nl nt sy co (rf_NO z nt lo lf lt (pf q.toNat) (pf (q + 1).toNat))) = rf_RO z sy lo lf (pf q.toNat) (pf (q + 1).toNat) by omega]; done) | (rw [if_neg (by omega), if_neg (by omega), show max (rf_RO z sy lo lf (pf q.toNat) (pf (q + 1).toNat)) (ht - rf_NR z nl nt sy co (rf_NO z nt lo lf lt (pf q.toNat) (pf (q + 1).toNat))) = ht - rf_NR z nl nt sy co (rf_NO z nt lo lf lt (pf q.toNat) (pf (q + 1).toNat)) by omega]; done)), rfl⟩
            · try (exfalso; omega)
              all_goals
                refine ji_bipush dX8_shownNow_156 rfl ?_
                refine ji_goto (tgt := 185) dX8_shownNow_158 rfl ?_
                exact ji_ireturn dX8_shownNow_185 rfl (rfl) ⟨jr_i (by rw [hR]; unfold rf_s1; unfold rf_s2; first | (rw [if_pos (by omega)]; done) | (rw [if_neg (by omega), if_pos (by omega)]; done) | (rw [if_neg (by omega), if_neg (by omega), show max (rf_RO z sy lo lf (pf q.toNat) (pf (q + 1).toNat)) (ht - rf_NR z nl nt sy co (rf_NO z nt lo lf lt (pf q.toNat) (pf (q + 1).toNat))) = rf_RO z sy lo lf (pf q.toNat) (pf (q + 1).toNat) by omega]; done) | (rw [if_neg (by omega), if_neg (by omega), show max (rf_RO z sy lo lf (pf q.toNat) (pf (q + 1).toNat)) (ht - rf_NR z nl nt sy co (rf_NO z nt lo lf lt (pf q.toNat) (pf (q + 1).toNat))) = ht - rf_NR z nl nt sy co (rf_NO z nt lo lf lt (pf q.toNat) (pf (q + 1).toNat)) by omega]; done)), rfl⟩
  | succ u ih =>
    intro l hl hR
    have rl := r2 l.toNat (by omega)
    have zl := hz.2.2.1 (85 + lo l.toNat).toNat (by omega) (by omega)
    have wid := rf_ID_b hk (lo l.toNat) (lf l.toNat)
    have wpa := rf_PA_b hpk (l := l) (by omega)
    have wpf := p3 (rf_PA pg pf l).toNat (by omega)
    have wro := rf_RO_b hk lo lf (x := pf (rf_PA pg pf l).toNat) (y := l + 1) (by omega) (by omega)
    have wra : -2147483648 ≤ rf_RA z sy lo lf pg pf l ∧ rf_RA z sy lo lf pg pf l < 2147483648 := by unfold rf_RA; split <;> omega
    refine ji_iload dX8_shownNow_22 rfl ?_
    refine ji_iload dX8_shownNow_24 rfl ?_
    refine ji_icmp_ge (tgt := 91) dX8_shownNow_26 rfl (by omega) (by omega) (fun c26 => absurd c26 (by omega)) (fun c26 => ?_)
    refine ji_aload_n dX8_shownNow_29 rfl trivial ?_
    refine ji_iload dX8_shownNow_30 rfl ?_
    refine ji_cV dX8_shownNow_32 (r_rowAt hz hk hrl hpk (by omega)) rfl (rf_60) rfl rfl wX8_rowAt vX8_rowAt lX8_217 rfl (Nat.le_of_ble_eq_true rfl) rfl ?_
    refine ji_iload_n dX8_shownNow_35 rfl ?_
    refine ji_icmp_ne (tgt := 85) dX8_shownNow_36 rfl (by omega) (by omega) (fun c36 => ?_) (fun c36 => ?_)
    · try (exfalso; omega)
      all_goals
        refine ji_iinc dX8_shownNow_85 (by decide) rfl rfl ?_
        refine ji_goto (tgt := 22) dX8_shownNow_88 rfl ?_
        exact ih _ (by omega) (by rw [hR, rf_s1, if_neg (by omega)])
    · try (exfalso; omega)
      all_goals
        refine ji_aload_n dX8_shownNow_39 rfl trivial ?_
        refine ji_aload_n dX8_shownNow_40 rfl trivial ?_
        refine ji_get (ci := 8) (k := 17) rfl dX8_shownNow_41 lX8_35 (by decide) (rf_60) rfl ?_
        refine ji_iload dX8_shownNow_44 rfl ?_
        refine ji_iaload dX8_shownNow_46 (rf_67) (by omega) ?_
        refine ji_aload_n dX8_shownNow_47 rfl trivial ?_
        refine ji_get (ci := 8) (k := 18) rfl dX8_shownNow_48 lX8_38 (by decide) (rf_60) rfl ?_
        refine ji_iload dX8_shownNow_51 rfl ?_
        refine ji_iaload dX8_shownNow_53 (rf_68) (by omega) ?_
        refine ji_aload_n dX8_shownNow_54 rfl trivial ?_
        refine ji_get (ci := 8) (k := 19) rfl dX8_shownNow_55 lX8_41 (by decide) (rf_60) rfl ?_
        refine ji_iload dX8_shownNow_58 rfl ?_
        refine ji_iaload dX8_shownNow_60 (rf_69) (by omega) ?_
        refine ji_iload_n dX8_shownNow_61 rfl ?_
        refine ji_aload_n dX8_shownNow_62 rfl trivial ?_
        refine ji_aload_n dX8_shownNow_63 rfl trivial ?_
        refine ji_get (ci := 8) (k := 17) rfl dX8_shownNow_64 lX8_35 (by decide) (rf_60) rfl ?_
        refine ji_iload dX8_shownNow_67 rfl ?_
        refine ji_iaload dX8_shownNow_69 (rf_67) (by omega) ?_
        refine ji_aload_n dX8_shownNow_70 rfl trivial ?_
        refine ji_get (ci := 8) (k := 18) rfl dX8_shownNow_71 lX8_38 (by decide) (rf_60) rfl ?_
        refine ji_iload dX8_shownNow_74 rfl ?_
        refine ji_iaload dX8_shownNow_76 (rf_68) (by omega) ?_
        refine ji_cV dX8_shownNow_77 (r_indentOf hk (by omega) (by omega)) rfl (rf_60) rfl rfl wX8_indentOf vX8_indentOf lX8_125 rfl (Nat.le_of_ble_eq_true rfl) rfl ?_
        refine ji_isub dX8_shownNow_80 ?_
        refine ji_cV dX8_shownNow_81 (r_lineChar hz hn (by omega) (by omega) (by omega) (by omega)) rfl (rf_60) rfl rfl wX8_lineChar vX8_lineChar lX8_226 rfl (Nat.le_of_ble_eq_true rfl) rfl ?_
        exact ji_ireturn dX8_shownNow_84 rfl (rfl) ⟨jr_i (by rw [hR, rf_s1, if_pos (by omega)]), rfl⟩

set_option maxHeartbeats 4000000 in
set_option maxRecDepth 100000 in
theorem r_shownNow (hz : rz_ok z) (hn : nl_ok nl nt) (hk : rk_ok z sy) (hc9 : 0 ≤ co ∧ co ≤ 100) (hrl : rl_ok z ln lo lf lt) (hrc : rc_ok z) (hpk : rp_ok ln pg pf) (hht : 0 ≤ ht ∧ ht ≤ 100) {q row col : Int} (hq : 0 ≤ q ∧ q < pg) (hrw : 0 ≤ row ∧ row ≤ 100) (hcol : 0 ≤ col ∧ col ≤ 100) : JR G (d + 5) mX8_shownNow [.ref 60, .int (jI q), .int (jI row), .int (jI col)] (n, rf_f f th z kp ed nt nl wi ht sy sz bf rs rr rq rp mm ln lo lf lt co ro pg pf hsh) 0 0 (some (.int (jI (rf_SH z nl nt sy co ht lo lf lt pg pf q row col)))) (n, rf_f f th z kp ed nt nl wi ht sy sz bf rs rr rq rp mm ln lo lf lt co ro pg pf hsh) := by
  obtain ⟨r1, r2⟩ := id hrl
  obtain ⟨p1, p2, p3, p4, p5⟩ := id hpk
  have w1 := p3 q.toNat (by omega)
  have w2 := p3 (q + 1).toNat (by omega)
  have w3 := p2 q.toNat (by omega)
  rw [show q.toNat + 1 = (q + 1).toNat by omega] at w3
  have w4 := rf_NO_b (nt := nt) hz hrl hrc (x := pf q.toNat) (y := pf (q + 1).toNat) (by omega)
  refine ji_ent (by decide) rfl (Nat.le_of_ble_eq_true rfl) rfl ?_
  refine ji_aload_n dX8_shownNow_0 rfl trivial ?_
  refine ji_get (ci := 8) (k := 23) rfl dX8_shownNow_1 lX8_44 (by decide) (rf_60) rfl ?_
  refine ji_iload_n dX8_shownNow_4 rfl ?_
  refine ji_iaload dX8_shownNow_5 (rf_70) (by omega) ?_
  refine ji_istore dX8_shownNow_6 (by decide) rfl ?_
  refine ji_aload_n dX8_shownNow_8 rfl trivial ?_
  refine ji_get (ci := 8) (k := 23) rfl dX8_shownNow_9 lX8_44 (by decide) (rf_60) rfl ?_
  refine ji_iload_n dX8_shownNow_12 rfl ?_
  refine ji_iconst dX8_shownNow_13 ?_
  refine ji_iadd dX8_shownNow_14 ?_
  refine ji_iaload dX8_shownNow_15 (rf_70) (by omega) ?_
  refine ji_istore dX8_shownNow_16 (by decide) rfl ?_
  refine ji_iload dX8_shownNow_18 rfl ?_
  refine ji_istore dX8_shownNow_20 (by decide) rfl ?_
  exact r_shownNow_l hz hn hk hc9 hrl hrc hpk hht hq hrw hcol ((pf (q + 1).toNat) - (pf q.toNat)).toNat (pf q.toNat) (by omega) rfl

set_option maxHeartbeats 4000000 in
set_option maxRecDepth 100000 in
theorem r_shown1 (hrf : rf_ok wi ht z nl nt sy) {q : Int} (b_q : -2147483648 ≤ q ∧ q < 2147483648) {row col : Int} (hx : q < 0 ∨ (rf_PG z nl nt sy wi ht (rf_LL z nl nt sy wi lo lf lt).1 (rf_LL z nl nt sy wi lo lf lt).2.1 (rf_LL z nl nt sy wi lo lf lt).2.2.1 (rf_LL z nl nt sy wi lo lf lt).2.2.2 pf).1 ≤ q) : JR G (d + 10) mX8_shown [.ref 60, .int (jI q), .int (jI row), .int (jI col)] (n, rf_f f th z kp ed nt nl wi ht sy sz bf rs rr rq rp mm ln lo lf lt co ro pg pf hsh) 0 0 (some (.int (jI 0))) (n, rf_f f 1 z kp ed nt nl wi ht sy sz bf rs rr rq rp mm ((rf_LL z nl nt sy wi lo lf lt).1) ((rf_LL z nl nt sy wi lo lf lt).2.1) ((rf_LL z nl nt sy wi lo lf lt).2.2.1) ((rf_LL z nl nt sy wi lo lf lt).2.2.2) wi ht ((rf_PG z nl nt sy wi ht (rf_LL z nl nt sy wi lo lf lt).1 (rf_LL z nl nt sy wi lo lf lt).2.1 (rf_LL z nl nt sy wi lo lf lt).2.2.1 (rf_LL z nl nt sy wi lo lf lt).2.2.2 pf).1) (va_up (rf_PG z nl nt sy wi ht (rf_LL z nl nt sy wi lo lf lt).1 (rf_LL z nl nt sy wi lo lf lt).2.1 (rf_LL z nl nt sy wi lo lf lt).2.2.1 (rf_LL z nl nt sy wi lo lf lt).2.2.2 pf).2 (rf_PG z nl nt sy wi ht (rf_LL z nl nt sy wi lo lf lt).1 (rf_LL z nl nt sy wi lo lf lt).2.1 (rf_LL z nl nt sy wi lo lf lt).2.2.1 (rf_LL z nl nt sy wi lo lf lt).2.2.2 pf).1.toNat (rf_LL z nl nt sy wi lo lf lt).1) hsh) := by
  obtain ⟨hz, hn, hk, hrc, ⟨hw9, hh9⟩, ⟨hm9, hj9⟩, hll⟩ := id hrf
  have zb := hz.2.1
  have hF := (hll wi lo lf lt (by omega)).2
  have hl1 := (hll wi lo lf lt (by omega)).1
  have hc9 : 0 ≤ wi ∧ wi ≤ 100 := by omega
  have hro : 0 ≤ ht ∧ ht ≤ 100 := by omega
  have hrl := rf_LL_ok hz hF
  have hpk := rf_PG_ok z nl nt sy wi ht (rf_LL z nl nt sy wi lo lf lt).2.1 (rf_LL z nl nt sy wi lo lf lt).2.2.1 (rf_LL z nl nt sy wi lo lf lt).2.2.2 pf (ln := (rf_LL z nl nt sy wi lo lf lt).1) (by omega)
  have hpp := hpk.pos (by omega)
  have hpl := hpk.1
  have wp := rf_in_d q 0 ((rf_PG z nl nt sy wi ht (rf_LL z nl nt sy wi lo lf lt).1 (rf_LL z nl nt sy wi lo lf lt).2.1 (rf_LL z nl nt sy wi lo lf lt).2.2.1 (rf_LL z nl nt sy wi lo lf lt).2.2.2 pf).1 - 1)
  refine ji_ent (by decide) rfl (Nat.le_of_ble_eq_true rfl) rfl ?_
  refine ji_aload_n dX8_shown_0 rfl trivial ?_
  refine ji_aload_n dX8_shown_1 rfl trivial ?_
  refine ji_iload_n dX8_shown_2 rfl ?_
  refine ji_cV dX8_shown_3 (r_isPage hrf (by omega)) rfl (rf_60) rfl rfl wX8_isPage vX8_isPage lX8_207 rfl (Nat.le_of_ble_eq_true rfl) rfl ?_
  refine ji_if_ne (tgt := 13) dX8_shown_6 rfl (by omega) (fun c6 => ?_) (fun c6 => ?_)
  · try (exfalso; omega)
    all_goals
      refine ji_iload_n dX8_shown_13 rfl ?_
      refine ji_iconst dX8_shown_14 ?_
      refine ji_aload_n dX8_shown_15 rfl trivial ?_
      refine ji_get (ci := 8) (k := 7) rfl dX8_shown_16 lX8_26 (by decide) (rf_60) rfl ?_
      refine ji_iconst dX8_shown_19 ?_
      refine ji_isub dX8_shown_20 ?_
      refine ji_cS dX8_shown_21 (r_within (by omega) (by omega) (by omega)) rfl wX8_within sX8_within lX8_50 rfl (Nat.le_of_ble_eq_true rfl) rfl ?_
      refine ji_if_eq (tgt := 45) dX8_shown_24 rfl (by omega) (fun c24 => ?_) (fun c24 => ?_)
      · try (exfalso; omega)
        all_goals
          refine ji_iconst dX8_shown_45 ?_
          refine ji_putE (ci := 8) (k := 0) rfl dX8_shown_46 lX8_47 (by decide) (rf_60) (by simp [rf_c]) (ji_fitI _) rfl (rf_pth) ?_
          refine ji_aload_n dX8_shown_49 rfl trivial ?_
          refine ji_get (ci := 8) (k := 0) rfl dX8_shown_50 lX8_47 (by decide) (rf_60) rfl ?_
          refine ji_if_le (tgt := 60) dX8_shown_53 rfl (by omega) (fun c53 => ?_) (fun c53 => ?_)
          · try (exfalso; omega)
            all_goals
              refine ji_aload_n dX8_shown_60 rfl trivial ?_
              refine ji_iload_n dX8_shown_61 rfl ?_
              refine ji_iload_n dX8_shown_62 rfl ?_
              refine ji_iload_n dX8_shown_63 rfl ?_
              exfalso; omega
          · try (exfalso; omega)
            all_goals
              refine ji_iconst dX8_shown_56 ?_
              refine ji_goto (tgt := 67) dX8_shown_57 rfl ?_
              exact ji_ireturn dX8_shown_67 rfl (rfl) ⟨jr_i (by first | rfl | omega), rfl⟩
      · try (exfalso; omega)
        all_goals
          refine ji_iload_n dX8_shown_27 rfl ?_
          refine ji_iconst dX8_shown_28 ?_
          refine ji_aload_n dX8_shown_29 rfl trivial ?_
          refine ji_get (ci := 8) (k := 6) rfl dX8_shown_30 lX8_22 (by decide) (rf_60) rfl ?_
          refine ji_iconst dX8_shown_33 ?_
          refine ji_isub dX8_shown_34 ?_
          refine ji_cS dX8_shown_35 (r_within (by omega) (by omega) (by omega)) rfl wX8_within sX8_within lX8_50 rfl (Nat.le_of_ble_eq_true rfl) rfl ?_
          refine ji_if_eq (tgt := 45) dX8_shown_38 rfl (by omega) (fun c38 => ?_) (fun c38 => ?_)
          · try (exfalso; omega)
            all_goals
              refine ji_iconst dX8_shown_45 ?_
              refine ji_putE (ci := 8) (k := 0) rfl dX8_shown_46 lX8_47 (by decide) (rf_60) (by simp [rf_c]) (ji_fitI _) rfl (rf_pth) ?_
              refine ji_aload_n dX8_shown_49 rfl trivial ?_
              refine ji_get (ci := 8) (k := 0) rfl dX8_shown_50 lX8_47 (by decide) (rf_60) rfl ?_
              refine ji_if_le (tgt := 60) dX8_shown_53 rfl (by omega) (fun c53 => ?_) (fun c53 => ?_)
              · try (exfalso; omega)
                all_goals
                  refine ji_aload_n dX8_shown_60 rfl trivial ?_
                  refine ji_iload_n dX8_shown_61 rfl ?_
                  refine ji_iload_n dX8_shown_62 rfl ?_
                  refine ji_iload_n dX8_shown_63 rfl ?_
                  exfalso; omega
              · try (exfalso; omega)
                all_goals
                  refine ji_iconst dX8_shown_56 ?_
                  refine ji_goto (tgt := 67) dX8_shown_57 rfl ?_
                  exact ji_ireturn dX8_shown_67 rfl (rfl) ⟨jr_i (by first | rfl | omega), rfl⟩
          · try (exfalso; omega)
            all_goals
              refine ji_iconst dX8_shown_41 ?_
              refine ji_goto (tgt := 46) dX8_shown_42 rfl ?_
              refine ji_putE (ci := 8) (k := 0) rfl dX8_shown_46 lX8_47 (by decide) (rf_60) (by simp [rf_c]) (ji_fitI _) rfl (rf_pth) ?_
              refine ji_aload_n dX8_shown_49 rfl trivial ?_
              refine ji_get (ci := 8) (k := 0) rfl dX8_shown_50 lX8_47 (by decide) (rf_60) rfl ?_
              refine ji_if_le (tgt := 60) dX8_shown_53 rfl (by omega) (fun c53 => ?_) (fun c53 => ?_)
              · try (exfalso; omega)
                all_goals
                  refine ji_aload_n dX8_shown_60 rfl trivial ?_
                  refine ji_iload_n dX8_shown_61 rfl ?_
                  refine ji_iload_n dX8_shown_62 rfl ?_
                  refine ji_iload_n dX8_shown_63 rfl ?_
                  exfalso; omega
              · try (exfalso; omega)
                all_goals
                  refine ji_iconst dX8_shown_56 ?_
                  refine ji_goto (tgt := 67) dX8_shown_57 rfl ?_
                  exact ji_ireturn dX8_shown_67 rfl (rfl) ⟨jr_i (by first | rfl | omega), rfl⟩
  · try (exfalso; omega)
    all_goals
      refine ji_iconst dX8_shown_9 ?_
      refine ji_goto (tgt := 46) dX8_shown_10 rfl ?_
      refine ji_putE (ci := 8) (k := 0) rfl dX8_shown_46 lX8_47 (by decide) (rf_60) (by simp [rf_c]) (ji_fitI _) rfl (rf_pth) ?_
      refine ji_aload_n dX8_shown_49 rfl trivial ?_
      refine ji_get (ci := 8) (k := 0) rfl dX8_shown_50 lX8_47 (by decide) (rf_60) rfl ?_
      refine ji_if_le (tgt := 60) dX8_shown_53 rfl (by omega) (fun c53 => ?_) (fun c53 => ?_)
      · try (exfalso; omega)
        all_goals
          refine ji_aload_n dX8_shown_60 rfl trivial ?_
          refine ji_iload_n dX8_shown_61 rfl ?_
          refine ji_iload_n dX8_shown_62 rfl ?_
          refine ji_iload_n dX8_shown_63 rfl ?_
          exfalso; omega
      · try (exfalso; omega)
        all_goals
          refine ji_iconst dX8_shown_56 ?_
          refine ji_goto (tgt := 67) dX8_shown_57 rfl ?_
          exact ji_ireturn dX8_shown_67 rfl (rfl) ⟨jr_i (by first | rfl | omega), rfl⟩

set_option maxHeartbeats 4000000 in
set_option maxRecDepth 100000 in
theorem r_shown2 (hrf : rf_ok wi ht z nl nt sy) {q : Int} (hq : 0 ≤ q ∧ q < (rf_PG z nl nt sy wi ht (rf_LL z nl nt sy wi lo lf lt).1 (rf_LL z nl nt sy wi lo lf lt).2.1 (rf_LL z nl nt sy wi lo lf lt).2.2.1 (rf_LL z nl nt sy wi lo lf lt).2.2.2 pf).1) {row col : Int} (b_row : -2147483648 ≤ row ∧ row < 2147483648) (b_col : -2147483648 ≤ col ∧ col < 2147483648) (hx : ¬ ((0 ≤ row ∧ row < ht) ∧ 0 ≤ col ∧ col < wi)) : JR G (d + 10) mX8_shown [.ref 60, .int (jI q), .int (jI row), .int (jI col)] (n, rf_f f th z kp ed nt nl wi ht sy sz bf rs rr rq rp mm ln lo lf lt co ro pg pf hsh) 0 0 (some (.int (jI 0))) (n, rf_f f 2 z kp ed nt nl wi ht sy sz bf rs rr rq rp mm ((rf_LL z nl nt sy wi lo lf lt).1) ((rf_LL z nl nt sy wi lo lf lt).2.1) ((rf_LL z nl nt sy wi lo lf lt).2.2.1) ((rf_LL z nl nt sy wi lo lf lt).2.2.2) wi ht ((rf_PG z nl nt sy wi ht (rf_LL z nl nt sy wi lo lf lt).1 (rf_LL z nl nt sy wi lo lf lt).2.1 (rf_LL z nl nt sy wi lo lf lt).2.2.1 (rf_LL z nl nt sy wi lo lf lt).2.2.2 pf).1) (va_up (rf_PG z nl nt sy wi ht (rf_LL z nl nt sy wi lo lf lt).1 (rf_LL z nl nt sy wi lo lf lt).2.1 (rf_LL z nl nt sy wi lo lf lt).2.2.1 (rf_LL z nl nt sy wi lo lf lt).2.2.2 pf).2 (rf_PG z nl nt sy wi ht (rf_LL z nl nt sy wi lo lf lt).1 (rf_LL z nl nt sy wi lo lf lt).2.1 (rf_LL z nl nt sy wi lo lf lt).2.2.1 (rf_LL z nl nt sy wi lo lf lt).2.2.2 pf).1.toNat (rf_LL z nl nt sy wi lo lf lt).1) hsh) := by
  obtain ⟨hz, hn, hk, hrc, ⟨hw9, hh9⟩, ⟨hm9, hj9⟩, hll⟩ := id hrf
  have zb := hz.2.1
  have hF := (hll wi lo lf lt (by omega)).2
  have hl1 := (hll wi lo lf lt (by omega)).1
  have hc9 : 0 ≤ wi ∧ wi ≤ 100 := by omega
  have hro : 0 ≤ ht ∧ ht ≤ 100 := by omega
  have hrl := rf_LL_ok hz hF
  have hpk := rf_PG_ok z nl nt sy wi ht (rf_LL z nl nt sy wi lo lf lt).2.1 (rf_LL z nl nt sy wi lo lf lt).2.2.1 (rf_LL z nl nt sy wi lo lf lt).2.2.2 pf (ln := (rf_LL z nl nt sy wi lo lf lt).1) (by omega)
  have hpp := hpk.pos (by omega)
  have hpl := hpk.1
  have wp := rf_in_d q 0 ((rf_PG z nl nt sy wi ht (rf_LL z nl nt sy wi lo lf lt).1 (rf_LL z nl nt sy wi lo lf lt).2.1 (rf_LL z nl nt sy wi lo lf lt).2.2.1 (rf_LL z nl nt sy wi lo lf lt).2.2.2 pf).1 - 1)
  have w_r := rf_in_d row 0 (ht - 1)
  have w_c := rf_in_d col 0 (wi - 1)
  refine ji_ent (by decide) rfl (Nat.le_of_ble_eq_true rfl) rfl ?_
  refine ji_aload_n dX8_shown_0 rfl trivial ?_
  refine ji_aload_n dX8_shown_1 rfl trivial ?_
  refine ji_iload_n dX8_shown_2 rfl ?_
  refine ji_cV dX8_shown_3 (r_isPage hrf (by omega)) rfl (rf_60) rfl rfl wX8_isPage vX8_isPage lX8_207 rfl (Nat.le_of_ble_eq_true rfl) rfl ?_
  refine ji_if_ne (tgt := 13) dX8_shown_6 rfl (by omega) (fun c6 => ?_) (fun c6 => ?_)
  · try (exfalso; omega)
    all_goals
      refine ji_iload_n dX8_shown_13 rfl ?_
      refine ji_iconst dX8_shown_14 ?_
      refine ji_aload_n dX8_shown_15 rfl trivial ?_
      refine ji_get (ci := 8) (k := 7) rfl dX8_shown_16 lX8_26 (by decide) (rf_60) rfl ?_
      refine ji_iconst dX8_shown_19 ?_
      refine ji_isub dX8_shown_20 ?_
      refine ji_cS dX8_shown_21 (r_within (by omega) (by omega) (by omega)) rfl wX8_within sX8_within lX8_50 rfl (Nat.le_of_ble_eq_true rfl) rfl ?_
      refine ji_if_eq (tgt := 45) dX8_shown_24 rfl (by omega) (fun c24 => ?_) (fun c24 => ?_)
      · try (exfalso; omega)
        all_goals
          refine ji_iconst dX8_shown_45 ?_
          refine ji_putE (ci := 8) (k := 0) rfl dX8_shown_46 lX8_47 (by decide) (rf_60) (by simp [rf_c]) (ji_fitI _) rfl (rf_pth) ?_
          refine ji_aload_n dX8_shown_49 rfl trivial ?_
          refine ji_get (ci := 8) (k := 0) rfl dX8_shown_50 lX8_47 (by decide) (rf_60) rfl ?_
          refine ji_if_le (tgt := 60) dX8_shown_53 rfl (by omega) (fun c53 => ?_) (fun c53 => ?_)
          · try (exfalso; omega)
            all_goals
              refine ji_aload_n dX8_shown_60 rfl trivial ?_
              refine ji_iload_n dX8_shown_61 rfl ?_
              refine ji_iload_n dX8_shown_62 rfl ?_
              refine ji_iload_n dX8_shown_63 rfl ?_
              exfalso; omega
          · try (exfalso; omega)
            all_goals
              refine ji_iconst dX8_shown_56 ?_
              refine ji_goto (tgt := 67) dX8_shown_57 rfl ?_
              exact ji_ireturn dX8_shown_67 rfl (rfl) ⟨jr_i (by first | rfl | omega), rfl⟩
      · try (exfalso; omega)
        all_goals
          refine ji_iload_n dX8_shown_27 rfl ?_
          refine ji_iconst dX8_shown_28 ?_
          refine ji_aload_n dX8_shown_29 rfl trivial ?_
          refine ji_get (ci := 8) (k := 6) rfl dX8_shown_30 lX8_22 (by decide) (rf_60) rfl ?_
          refine ji_iconst dX8_shown_33 ?_
          refine ji_isub dX8_shown_34 ?_
          refine ji_cS dX8_shown_35 (r_within (by omega) (by omega) (by omega)) rfl wX8_within sX8_within lX8_50 rfl (Nat.le_of_ble_eq_true rfl) rfl ?_
          refine ji_if_eq (tgt := 45) dX8_shown_38 rfl (by omega) (fun c38 => ?_) (fun c38 => ?_)
          · try (exfalso; omega)
            all_goals
              refine ji_iconst dX8_shown_45 ?_
              refine ji_putE (ci := 8) (k := 0) rfl dX8_shown_46 lX8_47 (by decide) (rf_60) (by simp [rf_c]) (ji_fitI _) rfl (rf_pth) ?_
              refine ji_aload_n dX8_shown_49 rfl trivial ?_
              refine ji_get (ci := 8) (k := 0) rfl dX8_shown_50 lX8_47 (by decide) (rf_60) rfl ?_
              refine ji_if_le (tgt := 60) dX8_shown_53 rfl (by omega) (fun c53 => ?_) (fun c53 => ?_)
              · try (exfalso; omega)
                all_goals
                  refine ji_aload_n dX8_shown_60 rfl trivial ?_
                  refine ji_iload_n dX8_shown_61 rfl ?_
                  refine ji_iload_n dX8_shown_62 rfl ?_
                  refine ji_iload_n dX8_shown_63 rfl ?_
                  exfalso; omega
              · try (exfalso; omega)
                all_goals
                  refine ji_iconst dX8_shown_56 ?_
                  refine ji_goto (tgt := 67) dX8_shown_57 rfl ?_
                  exact ji_ireturn dX8_shown_67 rfl (rfl) ⟨jr_i (by first | rfl | omega), rfl⟩
          · try (exfalso; omega)
            all_goals
              refine ji_iconst dX8_shown_41 ?_
              refine ji_goto (tgt := 46) dX8_shown_42 rfl ?_
              refine ji_putE (ci := 8) (k := 0) rfl dX8_shown_46 lX8_47 (by decide) (rf_60) (by simp [rf_c]) (ji_fitI _) rfl (rf_pth) ?_
              refine ji_aload_n dX8_shown_49 rfl trivial ?_
              refine ji_get (ci := 8) (k := 0) rfl dX8_shown_50 lX8_47 (by decide) (rf_60) rfl ?_
              refine ji_if_le (tgt := 60) dX8_shown_53 rfl (by omega) (fun c53 => ?_) (fun c53 => ?_)
              · try (exfalso; omega)
                all_goals
                  refine ji_aload_n dX8_shown_60 rfl trivial ?_
                  refine ji_iload_n dX8_shown_61 rfl ?_
                  refine ji_iload_n dX8_shown_62 rfl ?_
                  refine ji_iload_n dX8_shown_63 rfl ?_
                  exfalso; omega
              · try (exfalso; omega)
                all_goals
                  refine ji_iconst dX8_shown_56 ?_
                  refine ji_goto (tgt := 67) dX8_shown_57 rfl ?_
                  exact ji_ireturn dX8_shown_67 rfl (rfl) ⟨jr_i (by first | rfl | omega), rfl⟩
  · try (exfalso; omega)
    all_goals
      refine ji_iconst dX8_shown_9 ?_
      refine ji_goto (tgt := 46) dX8_shown_10 rfl ?_
      refine ji_putE (ci := 8) (k := 0) rfl dX8_shown_46 lX8_47 (by decide) (rf_60) (by simp [rf_c]) (ji_fitI _) rfl (rf_pth) ?_
      refine ji_aload_n dX8_shown_49 rfl trivial ?_
      refine ji_get (ci := 8) (k := 0) rfl dX8_shown_50 lX8_47 (by decide) (rf_60) rfl ?_
      refine ji_if_le (tgt := 60) dX8_shown_53 rfl (by omega) (fun c53 => ?_) (fun c53 => ?_)
      · try (exfalso; omega)
        all_goals
          refine ji_aload_n dX8_shown_60 rfl trivial ?_
          refine ji_iload_n dX8_shown_61 rfl ?_
          refine ji_iload_n dX8_shown_62 rfl ?_
          refine ji_iload_n dX8_shown_63 rfl ?_
          exfalso; omega
      · try (exfalso; omega)
        all_goals
          refine ji_iconst dX8_shown_56 ?_
          refine ji_goto (tgt := 67) dX8_shown_57 rfl ?_
          exact ji_ireturn dX8_shown_67 rfl (rfl) ⟨jr_i (by first | rfl | omega), rfl⟩

set_option maxHeartbeats 4000000 in
set_option maxRecDepth 100000 in
theorem r_shown (hrf : rf_ok wi ht z nl nt sy) {q : Int} (hq : 0 ≤ q ∧ q < (rf_PG z nl nt sy wi ht (rf_LL z nl nt sy wi lo lf lt).1 (rf_LL z nl nt sy wi lo lf lt).2.1 (rf_LL z nl nt sy wi lo lf lt).2.2.1 (rf_LL z nl nt sy wi lo lf lt).2.2.2 pf).1) {row col : Int} (hx : (0 ≤ row ∧ row < ht) ∧ 0 ≤ col ∧ col < wi) : JR G (d + 10) mX8_shown [.ref 60, .int (jI q), .int (jI row), .int (jI col)] (n, rf_f f th z kp ed nt nl wi ht sy sz bf rs rr rq rp mm ln lo lf lt co ro pg pf hsh) 0 0 (some (.int (jI (rf_SH z nl nt sy wi ht ((rf_LL z nl nt sy wi lo lf lt).2.1) ((rf_LL z nl nt sy wi lo lf lt).2.2.1) ((rf_LL z nl nt sy wi lo lf lt).2.2.2) ((rf_PG z nl nt sy wi ht (rf_LL z nl nt sy wi lo lf lt).1 (rf_LL z nl nt sy wi lo lf lt).2.1 (rf_LL z nl nt sy wi lo lf lt).2.2.1 (rf_LL z nl nt sy wi lo lf lt).2.2.2 pf).1) (va_up (rf_PG z nl nt sy wi ht (rf_LL z nl nt sy wi lo lf lt).1 (rf_LL z nl nt sy wi lo lf lt).2.1 (rf_LL z nl nt sy wi lo lf lt).2.2.1 (rf_LL z nl nt sy wi lo lf lt).2.2.2 pf).2 (rf_PG z nl nt sy wi ht (rf_LL z nl nt sy wi lo lf lt).1 (rf_LL z nl nt sy wi lo lf lt).2.1 (rf_LL z nl nt sy wi lo lf lt).2.2.1 (rf_LL z nl nt sy wi lo lf lt).2.2.2 pf).1.toNat (rf_LL z nl nt sy wi lo lf lt).1) q row col)))) (n, rf_f f 0 z kp ed nt nl wi ht sy sz bf rs rr rq rp mm ((rf_LL z nl nt sy wi lo lf lt).1) ((rf_LL z nl nt sy wi lo lf lt).2.1) ((rf_LL z nl nt sy wi lo lf lt).2.2.1) ((rf_LL z nl nt sy wi lo lf lt).2.2.2) wi ht ((rf_PG z nl nt sy wi ht (rf_LL z nl nt sy wi lo lf lt).1 (rf_LL z nl nt sy wi lo lf lt).2.1 (rf_LL z nl nt sy wi lo lf lt).2.2.1 (rf_LL z nl nt sy wi lo lf lt).2.2.2 pf).1) (va_up (rf_PG z nl nt sy wi ht (rf_LL z nl nt sy wi lo lf lt).1 (rf_LL z nl nt sy wi lo lf lt).2.1 (rf_LL z nl nt sy wi lo lf lt).2.2.1 (rf_LL z nl nt sy wi lo lf lt).2.2.2 pf).2 (rf_PG z nl nt sy wi ht (rf_LL z nl nt sy wi lo lf lt).1 (rf_LL z nl nt sy wi lo lf lt).2.1 (rf_LL z nl nt sy wi lo lf lt).2.2.1 (rf_LL z nl nt sy wi lo lf lt).2.2.2 pf).1.toNat (rf_LL z nl nt sy wi lo lf lt).1) hsh) := by
  obtain ⟨hz, hn, hk, hrc, ⟨hw9, hh9⟩, ⟨hm9, hj9⟩, hll⟩ := id hrf
  have zb := hz.2.1
  have hF := (hll wi lo lf lt (by omega)).2
  have hl1 := (hll wi lo lf lt (by omega)).1
  have hc9 : 0 ≤ wi ∧ wi ≤ 100 := by omega
  have hro : 0 ≤ ht ∧ ht ≤ 100 := by omega
  have hrl := rf_LL_ok hz hF
  have hpk := rf_PG_ok z nl nt sy wi ht (rf_LL z nl nt sy wi lo lf lt).2.1 (rf_LL z nl nt sy wi lo lf lt).2.2.1 (rf_LL z nl nt sy wi lo lf lt).2.2.2 pf (ln := (rf_LL z nl nt sy wi lo lf lt).1) (by omega)
  have hpp := hpk.pos (by omega)
  have hpl := hpk.1
  have wp := rf_in_d q 0 ((rf_PG z nl nt sy wi ht (rf_LL z nl nt sy wi lo lf lt).1 (rf_LL z nl nt sy wi lo lf lt).2.1 (rf_LL z nl nt sy wi lo lf lt).2.2.1 (rf_LL z nl nt sy wi lo lf lt).2.2.2 pf).1 - 1)
  have w_r := rf_in_d row 0 (ht - 1)
  have w_c := rf_in_d col 0 (wi - 1)
  refine ji_ent (by decide) rfl (Nat.le_of_ble_eq_true rfl) rfl ?_
  refine ji_aload_n dX8_shown_0 rfl trivial ?_
  refine ji_aload_n dX8_shown_1 rfl trivial ?_
  refine ji_iload_n dX8_shown_2 rfl ?_
  refine ji_cV dX8_shown_3 (r_isPage hrf (by omega)) rfl (rf_60) rfl rfl wX8_isPage vX8_isPage lX8_207 rfl (Nat.le_of_ble_eq_true rfl) rfl ?_
  refine ji_if_ne (tgt := 13) dX8_shown_6 rfl (by omega) (fun c6 => ?_) (fun c6 => ?_)
  · try (exfalso; omega)
    all_goals
      refine ji_iload_n dX8_shown_13 rfl ?_
      refine ji_iconst dX8_shown_14 ?_
      refine ji_aload_n dX8_shown_15 rfl trivial ?_
      refine ji_get (ci := 8) (k := 7) rfl dX8_shown_16 lX8_26 (by decide) (rf_60) rfl ?_
      refine ji_iconst dX8_shown_19 ?_
      refine ji_isub dX8_shown_20 ?_
      refine ji_cS dX8_shown_21 (r_within (by omega) (by omega) (by omega)) rfl wX8_within sX8_within lX8_50 rfl (Nat.le_of_ble_eq_true rfl) rfl ?_
      refine ji_if_eq (tgt := 45) dX8_shown_24 rfl (by omega) (fun c24 => ?_) (fun c24 => ?_)
      · try (exfalso; omega)
        all_goals
          refine ji_iconst dX8_shown_45 ?_
          refine ji_putE (ci := 8) (k := 0) rfl dX8_shown_46 lX8_47 (by decide) (rf_60) (by simp [rf_c]) (ji_fitI _) rfl (rf_pth) ?_
          refine ji_aload_n dX8_shown_49 rfl trivial ?_
          refine ji_get (ci := 8) (k := 0) rfl dX8_shown_50 lX8_47 (by decide) (rf_60) rfl ?_
          refine ji_if_le (tgt := 60) dX8_shown_53 rfl (by omega) (fun c53 => ?_) (fun c53 => ?_)
          · try (exfalso; omega)
            all_goals
              refine ji_aload_n dX8_shown_60 rfl trivial ?_
              refine ji_iload_n dX8_shown_61 rfl ?_
              refine ji_iload_n dX8_shown_62 rfl ?_
              refine ji_iload_n dX8_shown_63 rfl ?_
              refine ji_cV dX8_shown_64 (r_shownNow hz hn hk hc9 hrl hrc hpk (by omega) (by omega) (by omega) (by omega)) rfl (rf_60) rfl rfl wX8_shownNow vX8_shownNow lX8_232 rfl (Nat.le_of_ble_eq_true rfl) rfl ?_
              exact ji_ireturn dX8_shown_67 rfl (rfl) ⟨rfl, rfl⟩
          · try (exfalso; omega)
            all_goals
              refine ji_iconst dX8_shown_56 ?_
              refine ji_goto (tgt := 67) dX8_shown_57 rfl ?_
              exact ji_ireturn dX8_shown_67 rfl (rfl) ⟨rfl, rfl⟩
      · try (exfalso; omega)
        all_goals
          refine ji_iload_n dX8_shown_27 rfl ?_
          refine ji_iconst dX8_shown_28 ?_
          refine ji_aload_n dX8_shown_29 rfl trivial ?_
          refine ji_get (ci := 8) (k := 6) rfl dX8_shown_30 lX8_22 (by decide) (rf_60) rfl ?_
          refine ji_iconst dX8_shown_33 ?_
          refine ji_isub dX8_shown_34 ?_
          refine ji_cS dX8_shown_35 (r_within (by omega) (by omega) (by omega)) rfl wX8_within sX8_within lX8_50 rfl (Nat.le_of_ble_eq_true rfl) rfl ?_
          refine ji_if_eq (tgt := 45) dX8_shown_38 rfl (by omega) (fun c38 => ?_) (fun c38 => ?_)
          · try (exfalso; omega)
            all_goals
              refine ji_iconst dX8_shown_45 ?_
              refine ji_putE (ci := 8) (k := 0) rfl dX8_shown_46 lX8_47 (by decide) (rf_60) (by simp [rf_c]) (ji_fitI _) rfl (rf_pth) ?_
              refine ji_aload_n dX8_shown_49 rfl trivial ?_
              refine ji_get (ci := 8) (k := 0) rfl dX8_shown_50 lX8_47 (by decide) (rf_60) rfl ?_
              refine ji_if_le (tgt := 60) dX8_shown_53 rfl (by omega) (fun c53 => ?_) (fun c53 => ?_)
              · try (exfalso; omega)
                all_goals
                  refine ji_aload_n dX8_shown_60 rfl trivial ?_
                  refine ji_iload_n dX8_shown_61 rfl ?_
                  refine ji_iload_n dX8_shown_62 rfl ?_
                  refine ji_iload_n dX8_shown_63 rfl ?_
                  refine ji_cV dX8_shown_64 (r_shownNow hz hn hk hc9 hrl hrc hpk (by omega) (by omega) (by omega) (by omega)) rfl (rf_60) rfl rfl wX8_shownNow vX8_shownNow lX8_232 rfl (Nat.le_of_ble_eq_true rfl) rfl ?_
                  exact ji_ireturn dX8_shown_67 rfl (rfl) ⟨rfl, rfl⟩
              · try (exfalso; omega)
                all_goals
                  refine ji_iconst dX8_shown_56 ?_
                  refine ji_goto (tgt := 67) dX8_shown_57 rfl ?_
                  exact ji_ireturn dX8_shown_67 rfl (rfl) ⟨rfl, rfl⟩
          · try (exfalso; omega)
            all_goals
              refine ji_iconst dX8_shown_41 ?_
              refine ji_goto (tgt := 46) dX8_shown_42 rfl ?_
              refine ji_putE (ci := 8) (k := 0) rfl dX8_shown_46 lX8_47 (by decide) (rf_60) (by simp [rf_c]) (ji_fitI _) rfl (rf_pth) ?_
              refine ji_aload_n dX8_shown_49 rfl trivial ?_
              refine ji_get (ci := 8) (k := 0) rfl dX8_shown_50 lX8_47 (by decide) (rf_60) rfl ?_
              refine ji_if_le (tgt := 60) dX8_shown_53 rfl (by omega) (fun c53 => ?_) (fun c53 => ?_)
              · try (exfalso; omega)
                all_goals
                  refine ji_aload_n dX8_shown_60 rfl trivial ?_
                  refine ji_iload_n dX8_shown_61 rfl ?_
                  refine ji_iload_n dX8_shown_62 rfl ?_
                  refine ji_iload_n dX8_shown_63 rfl ?_
                  refine ji_cV dX8_shown_64 (r_shownNow hz hn hk hc9 hrl hrc hpk (by omega) (by omega) (by omega) (by omega)) rfl (rf_60) rfl rfl wX8_shownNow vX8_shownNow lX8_232 rfl (Nat.le_of_ble_eq_true rfl) rfl ?_
                  exact ji_ireturn dX8_shown_67 rfl (rfl) ⟨rfl, rfl⟩
              · try (exfalso; omega)
                all_goals
                  refine ji_iconst dX8_shown_56 ?_
                  refine ji_goto (tgt := 67) dX8_shown_57 rfl ?_
                  exact ji_ireturn dX8_shown_67 rfl (rfl) ⟨rfl, rfl⟩
  · try (exfalso; omega)
    all_goals
      refine ji_iconst dX8_shown_9 ?_
      refine ji_goto (tgt := 46) dX8_shown_10 rfl ?_
      refine ji_putE (ci := 8) (k := 0) rfl dX8_shown_46 lX8_47 (by decide) (rf_60) (by simp [rf_c]) (ji_fitI _) rfl (rf_pth) ?_
      refine ji_aload_n dX8_shown_49 rfl trivial ?_
      refine ji_get (ci := 8) (k := 0) rfl dX8_shown_50 lX8_47 (by decide) (rf_60) rfl ?_
      refine ji_if_le (tgt := 60) dX8_shown_53 rfl (by omega) (fun c53 => ?_) (fun c53 => ?_)
      · try (exfalso; omega)
        all_goals
          refine ji_aload_n dX8_shown_60 rfl trivial ?_
          refine ji_iload_n dX8_shown_61 rfl ?_
          refine ji_iload_n dX8_shown_62 rfl ?_
          refine ji_iload_n dX8_shown_63 rfl ?_
          refine ji_cV dX8_shown_64 (r_shownNow hz hn hk hc9 hrl hrc hpk (by omega) (by omega) (by omega) (by omega)) rfl (rf_60) rfl rfl wX8_shownNow vX8_shownNow lX8_232 rfl (Nat.le_of_ble_eq_true rfl) rfl ?_
          exact ji_ireturn dX8_shown_67 rfl (rfl) ⟨rfl, rfl⟩
      · try (exfalso; omega)
        all_goals
          refine ji_iconst dX8_shown_56 ?_
          refine ji_goto (tgt := 67) dX8_shown_57 rfl ?_
          exact ji_ireturn dX8_shown_67 rfl (rfl) ⟨rfl, rfl⟩

set_option maxHeartbeats 4000000 in
set_option maxRecDepth 100000 in
theorem r_noteAt_l {bc bs : Nat} {i9 R : Int} {x9 : Int} (hx9 : 0 ≤ x9 ∧ x9 < 1024) : ∀ (u : Nat) (left k : Int), 0 ≤ k ∧ k + u = 10 → 0 ≤ left ∧ left ≤ 2147483647 → R = ly_no x9 u k left →
    JW G d mX8_noteAt 5 [some (.ref 60), some (.int (jI x9)), some (.int (jI i9)), some (.int (jI left)), some (.int (jI k))] [] (n, rf_f f th z kp ed nt nl wi ht sy sz bf rs rr rq rp mm ln lo lf lt co ro pg pf hsh) bc bs (fun r9 h9 => r9 = .inl (some (.int (jI R))) ∧ h9 = (n, rf_f f th z kp ed nt nl wi ht sy sz bf rs rr rq rp mm ln lo lf lt co ro pg pf hsh)) := by
  intro u
  induction u with
  | zero =>
    intro left k hk h3 hR
    refine ji_iload dX8_noteAt_5 rfl ?_
    refine ji_bipush dX8_noteAt_7 rfl ?_
    refine ji_icmp_ge (tgt := 38) dX8_noteAt_9 rfl (by omega) (by omega) (fun c9 => ?_) (fun c9 => absurd c9 (by omega))
    refine ji_iconst dX8_noteAt_38 ?_
    exact ji_ireturn dX8_noteAt_39 rfl (rfl) ⟨jr_i (by rw [hR]; rfl), rfl⟩
  | succ u ih =>
    intro left k hk h3 hR
    have g2 := ly_bit_b x9 k
    refine ji_iload dX8_noteAt_5 rfl ?_
    refine ji_bipush dX8_noteAt_7 rfl ?_
    refine ji_icmp_ge (tgt := 38) dX8_noteAt_9 rfl (by omega) (by omega) (fun c9 => absurd c9 (by omega)) (fun c9 => ?_)
    refine ji_iload_n dX8_noteAt_12 rfl ?_
    refine ji_iload dX8_noteAt_13 rfl ?_
    refine ji_iop dX8_noteAt_15 (Or.inr (Or.inr (Or.inr ⟨rfl, rfl⟩))) ?_
    refine ji_iconst dX8_noteAt_16 ?_
    refine ji_iop dX8_noteAt_17 (Or.inl ⟨rfl, rfl⟩) ?_
    rw [ly_sh hx9 (by omega)]
    refine ji_iconst dX8_noteAt_18 ?_
    refine ji_icmp_ne (tgt := 32) dX8_noteAt_19 rfl (by omega) (by omega) (fun c19 => ?_) (fun c19 => ?_)
    · try (exfalso; omega)
      all_goals
        refine ji_iinc dX8_noteAt_32 (by decide) rfl rfl ?_
        refine ji_goto (tgt := 5) dX8_noteAt_35 rfl ?_
        first | exact ih _ _ (by omega) (by omega) (by rw [hR, ly_no, if_pos (by omega), if_neg (by omega)]; rfl) | exact ih _ _ (by omega) (by omega) (by rw [hR, ly_no, if_neg (by omega)])
    · try (exfalso; omega)
      all_goals
        refine ji_iload_n dX8_noteAt_22 rfl ?_
        refine ji_if_ne (tgt := 29) dX8_noteAt_23 rfl (by omega) (fun c23 => ?_) (fun c23 => ?_)
        · try (exfalso; omega)
          all_goals
            refine ji_iinc dX8_noteAt_29 (by decide) rfl rfl ?_
            refine ji_iinc dX8_noteAt_32 (by decide) rfl rfl ?_
            refine ji_goto (tgt := 5) dX8_noteAt_35 rfl ?_
            first | exact ih _ _ (by omega) (by omega) (by rw [hR, ly_no, if_pos (by omega), if_neg (by omega)]; rfl) | exact ih _ _ (by omega) (by omega) (by rw [hR, ly_no, if_neg (by omega)])
        · try (exfalso; omega)
          all_goals
            refine ji_iload dX8_noteAt_26 rfl ?_
            exact ji_ireturn dX8_noteAt_28 rfl (rfl) ⟨jr_i (by rw [hR, ly_no, if_pos (by omega), if_pos (by omega)]), rfl⟩

set_option maxHeartbeats 4000000 in
set_option maxRecDepth 100000 in
theorem r_noteAt {x9 : Int} (hx9 : 0 ≤ x9 ∧ x9 < 1024) {i9 : Int} (hi9 : 0 ≤ i9 ∧ i9 ≤ 2147483647) : JR G d mX8_noteAt [.ref 60, .int (jI x9), .int (jI i9)] (n, rf_f f th z kp ed nt nl wi ht sy sz bf rs rr rq rp mm ln lo lf lt co ro pg pf hsh) 0 0 (some (.int (jI (ly_no x9 10 0 i9)))) (n, rf_f f th z kp ed nt nl wi ht sy sz bf rs rr rq rp mm ln lo lf lt co ro pg pf hsh) := by
  refine ji_ent (by decide) rfl (Nat.le_of_ble_eq_true rfl) rfl ?_
  refine ji_iload_n dX8_noteAt_0 rfl ?_
  refine ji_istore_n dX8_noteAt_1 (by decide) rfl ?_
  refine ji_iconst dX8_noteAt_2 ?_
  refine ji_istore dX8_noteAt_3 (by decide) rfl ?_
  exact r_noteAt_l hx9 10 i9 0 (by omega) hi9 rfl

set_option maxHeartbeats 4000000 in
set_option maxRecDepth 100000 in
theorem r_noteOn1 (hrf : rf_ok wi ht z nl nt sy) {q : Int} (b_q : -2147483648 ≤ q ∧ q < 2147483648) {i9 : Int} (hx : q < 0 ∨ (rf_PG z nl nt sy wi ht (rf_LL z nl nt sy wi lo lf lt).1 (rf_LL z nl nt sy wi lo lf lt).2.1 (rf_LL z nl nt sy wi lo lf lt).2.2.1 (rf_LL z nl nt sy wi lo lf lt).2.2.2 pf).1 ≤ q) : JR G (d + 10) mX8_noteOn [.ref 60, .int (jI q), .int (jI i9)] (n, rf_f f th z kp ed nt nl wi ht sy sz bf rs rr rq rp mm ln lo lf lt co ro pg pf hsh) 0 0 (some (.int (jI 0))) (n, rf_f f 1 z kp ed nt nl wi ht sy sz bf rs rr rq rp mm ((rf_LL z nl nt sy wi lo lf lt).1) ((rf_LL z nl nt sy wi lo lf lt).2.1) ((rf_LL z nl nt sy wi lo lf lt).2.2.1) ((rf_LL z nl nt sy wi lo lf lt).2.2.2) wi ht ((rf_PG z nl nt sy wi ht (rf_LL z nl nt sy wi lo lf lt).1 (rf_LL z nl nt sy wi lo lf lt).2.1 (rf_LL z nl nt sy wi lo lf lt).2.2.1 (rf_LL z nl nt sy wi lo lf lt).2.2.2 pf).1) (va_up (rf_PG z nl nt sy wi ht (rf_LL z nl nt sy wi lo lf lt).1 (rf_LL z nl nt sy wi lo lf lt).2.1 (rf_LL z nl nt sy wi lo lf lt).2.2.1 (rf_LL z nl nt sy wi lo lf lt).2.2.2 pf).2 (rf_PG z nl nt sy wi ht (rf_LL z nl nt sy wi lo lf lt).1 (rf_LL z nl nt sy wi lo lf lt).2.1 (rf_LL z nl nt sy wi lo lf lt).2.2.1 (rf_LL z nl nt sy wi lo lf lt).2.2.2 pf).1.toNat (rf_LL z nl nt sy wi lo lf lt).1) hsh) := by
  obtain ⟨hz, hn, hk, hrc, ⟨hw9, hh9⟩, ⟨hm9, hj9⟩, hll⟩ := id hrf
  have zb := hz.2.1
  have hF := (hll wi lo lf lt (by omega)).2
  have hl1 := (hll wi lo lf lt (by omega)).1
  have hc9 : 0 ≤ wi ∧ wi ≤ 100 := by omega
  have hro : 0 ≤ ht ∧ ht ≤ 100 := by omega
  have hrl := rf_LL_ok hz hF
  have hpk := rf_PG_ok z nl nt sy wi ht (rf_LL z nl nt sy wi lo lf lt).2.1 (rf_LL z nl nt sy wi lo lf lt).2.2.1 (rf_LL z nl nt sy wi lo lf lt).2.2.2 pf (ln := (rf_LL z nl nt sy wi lo lf lt).1) (by omega)
  have hpp := hpk.pos (by omega)
  have hpl := hpk.1
  have wp := rf_in_d q 0 ((rf_PG z nl nt sy wi ht (rf_LL z nl nt sy wi lo lf lt).1 (rf_LL z nl nt sy wi lo lf lt).2.1 (rf_LL z nl nt sy wi lo lf lt).2.2.1 (rf_LL z nl nt sy wi lo lf lt).2.2.2 pf).1 - 1)
  refine ji_ent (by decide) rfl (Nat.le_of_ble_eq_true rfl) rfl ?_
  refine ji_aload_n dX8_noteOn_0 rfl trivial ?_
  refine ji_iload_n dX8_noteOn_1 rfl ?_
  refine ji_cV dX8_noteOn_2 (r_isPage hrf (by omega)) rfl (rf_60) rfl rfl wX8_isPage vX8_isPage lX8_207 rfl (Nat.le_of_ble_eq_true rfl) rfl ?_
  refine ji_istore_n dX8_noteOn_5 (by decide) rfl ?_
  refine ji_iload_n dX8_noteOn_6 rfl ?_
  refine ji_if_eq (tgt := 40) dX8_noteOn_7 rfl (by omega) (fun c7 => ?_) (fun c7 => ?_)
  · try (exfalso; omega)
    all_goals
      refine ji_iconst dX8_noteOn_40 ?_
      refine ji_istore dX8_noteOn_41 (by decide) rfl ?_
      refine ji_aload_n dX8_noteOn_43 rfl trivial ?_
      refine ji_iload dX8_noteOn_44 rfl ?_
      refine ji_iconst dX8_noteOn_46 ?_
      refine ji_icmp_ne (tgt := 54) dX8_noteOn_47 rfl (by omega) (by omega) (fun c47 => ?_) (fun c47 => ?_)
      · try (exfalso; omega)
        all_goals
          refine ji_iconst dX8_noteOn_54 ?_
          refine ji_putE (ci := 8) (k := 0) rfl dX8_noteOn_55 lX8_47 (by decide) (rf_60) (by simp [rf_c]) (ji_fitI _) rfl (rf_pth) ?_
          refine ji_aload_n dX8_noteOn_58 rfl trivial ?_
          refine ji_get (ci := 8) (k := 0) rfl dX8_noteOn_59 lX8_47 (by decide) (rf_60) rfl ?_
          refine ji_if_le (tgt := 69) dX8_noteOn_62 rfl (by omega) (fun c62 => ?_) (fun c62 => ?_)
          · try (exfalso; omega)
            all_goals
              refine ji_iload dX8_noteOn_69 rfl ?_
              exact ji_ireturn dX8_noteOn_71 rfl (rfl) ⟨jr_i (by first | rfl | omega), rfl⟩
          · try (exfalso; omega)
            all_goals
              refine ji_iconst dX8_noteOn_65 ?_
              refine ji_goto (tgt := 71) dX8_noteOn_66 rfl ?_
              exact ji_ireturn dX8_noteOn_71 rfl (rfl) ⟨jr_i (by first | rfl | omega), rfl⟩
      · try (exfalso; omega)
        all_goals
          refine ji_iconst dX8_noteOn_50 ?_
          refine ji_goto (tgt := 55) dX8_noteOn_51 rfl ?_
          refine ji_putE (ci := 8) (k := 0) rfl dX8_noteOn_55 lX8_47 (by decide) (rf_60) (by simp [rf_c]) (ji_fitI _) rfl (rf_pth) ?_
          refine ji_aload_n dX8_noteOn_58 rfl trivial ?_
          refine ji_get (ci := 8) (k := 0) rfl dX8_noteOn_59 lX8_47 (by decide) (rf_60) rfl ?_
          refine ji_if_le (tgt := 69) dX8_noteOn_62 rfl (by omega) (fun c62 => ?_) (fun c62 => ?_)
          · try (exfalso; omega)
            all_goals
              refine ji_iload dX8_noteOn_69 rfl ?_
              exact ji_ireturn dX8_noteOn_71 rfl (rfl) ⟨jr_i (by first | rfl | omega), rfl⟩
          · try (exfalso; omega)
            all_goals
              refine ji_iconst dX8_noteOn_65 ?_
              refine ji_goto (tgt := 71) dX8_noteOn_66 rfl ?_
              exact ji_ireturn dX8_noteOn_71 rfl (rfl) ⟨jr_i (by first | rfl | omega), rfl⟩
  · try (exfalso; omega)
    all_goals
      refine ji_iload_n dX8_noteOn_10 rfl ?_
      refine ji_if_lt (tgt := 40) dX8_noteOn_11 rfl (by omega) (fun c11 => ?_) (fun c11 => ?_)
      · try (exfalso; omega)
        all_goals
          refine ji_iconst dX8_noteOn_40 ?_
          refine ji_istore dX8_noteOn_41 (by decide) rfl ?_
          refine ji_aload_n dX8_noteOn_43 rfl trivial ?_
          refine ji_iload dX8_noteOn_44 rfl ?_
          refine ji_iconst dX8_noteOn_46 ?_
          refine ji_icmp_ne (tgt := 54) dX8_noteOn_47 rfl (by omega) (by omega) (fun c47 => ?_) (fun c47 => ?_)
          · try (exfalso; omega)
            all_goals
              refine ji_iconst dX8_noteOn_54 ?_
              refine ji_putE (ci := 8) (k := 0) rfl dX8_noteOn_55 lX8_47 (by decide) (rf_60) (by simp [rf_c]) (ji_fitI _) rfl (rf_pth) ?_
              refine ji_aload_n dX8_noteOn_58 rfl trivial ?_
              refine ji_get (ci := 8) (k := 0) rfl dX8_noteOn_59 lX8_47 (by decide) (rf_60) rfl ?_
              refine ji_if_le (tgt := 69) dX8_noteOn_62 rfl (by omega) (fun c62 => ?_) (fun c62 => ?_)
              · try (exfalso; omega)
                all_goals
                  refine ji_iload dX8_noteOn_69 rfl ?_
                  exact ji_ireturn dX8_noteOn_71 rfl (rfl) ⟨jr_i (by first | rfl | omega), rfl⟩
              · try (exfalso; omega)
                all_goals
                  refine ji_iconst dX8_noteOn_65 ?_
                  refine ji_goto (tgt := 71) dX8_noteOn_66 rfl ?_
                  exact ji_ireturn dX8_noteOn_71 rfl (rfl) ⟨jr_i (by first | rfl | omega), rfl⟩
          · try (exfalso; omega)
            all_goals
              refine ji_iconst dX8_noteOn_50 ?_
              refine ji_goto (tgt := 55) dX8_noteOn_51 rfl ?_
              refine ji_putE (ci := 8) (k := 0) rfl dX8_noteOn_55 lX8_47 (by decide) (rf_60) (by simp [rf_c]) (ji_fitI _) rfl (rf_pth) ?_
              refine ji_aload_n dX8_noteOn_58 rfl trivial ?_
              refine ji_get (ci := 8) (k := 0) rfl dX8_noteOn_59 lX8_47 (by decide) (rf_60) rfl ?_
              refine ji_if_le (tgt := 69) dX8_noteOn_62 rfl (by omega) (fun c62 => ?_) (fun c62 => ?_)
              · try (exfalso; omega)
                all_goals
                  refine ji_iload dX8_noteOn_69 rfl ?_
                  exact ji_ireturn dX8_noteOn_71 rfl (rfl) ⟨jr_i (by first | rfl | omega), rfl⟩
              · try (exfalso; omega)
                all_goals
                  refine ji_iconst dX8_noteOn_65 ?_
                  refine ji_goto (tgt := 71) dX8_noteOn_66 rfl ?_
                  exact ji_ireturn dX8_noteOn_71 rfl (rfl) ⟨jr_i (by first | rfl | omega), rfl⟩
      · try (exfalso; omega)
        all_goals
          refine ji_aload_n dX8_noteOn_14 rfl trivial ?_
          refine ji_aload_n dX8_noteOn_15 rfl trivial ?_
          refine ji_aload_n dX8_noteOn_16 rfl trivial ?_
          refine ji_get (ci := 8) (k := 23) rfl dX8_noteOn_17 lX8_44 (by decide) (rf_60) rfl ?_
          refine ji_iload_n dX8_noteOn_20 rfl ?_
          refine ji_iaload dX8_noteOn_21 (rf_70) (by omega) ?_
          refine ji_aload_n dX8_noteOn_22 rfl trivial ?_
          refine ji_get (ci := 8) (k := 23) rfl dX8_noteOn_23 lX8_44 (by decide) (rf_60) rfl ?_
          refine ji_iload_n dX8_noteOn_26 rfl ?_
          refine ji_iconst dX8_noteOn_27 ?_
          refine ji_iadd dX8_noteOn_28 ?_
          refine ji_iaload dX8_noteOn_29 (rf_70) (by omega) ?_
          exfalso; omega

set_option maxHeartbeats 4000000 in
set_option maxRecDepth 100000 in
theorem r_noteOn2 (hrf : rf_ok wi ht z nl nt sy) {q : Int} (hq : 0 ≤ q ∧ q < (rf_PG z nl nt sy wi ht (rf_LL z nl nt sy wi lo lf lt).1 (rf_LL z nl nt sy wi lo lf lt).2.1 (rf_LL z nl nt sy wi lo lf lt).2.2.1 (rf_LL z nl nt sy wi lo lf lt).2.2.2 pf).1) {i9 : Int} (b_i9 : -2147483648 ≤ i9 ∧ i9 < 2147483648) (hx : i9 < 0 ∨ ly_no (rf_NO z nt ((rf_LL z nl nt sy wi lo lf lt).2.1) ((rf_LL z nl nt sy wi lo lf lt).2.2.1) ((rf_LL z nl nt sy wi lo lf lt).2.2.2) ((va_up (rf_PG z nl nt sy wi ht (rf_LL z nl nt sy wi lo lf lt).1 (rf_LL z nl nt sy wi lo lf lt).2.1 (rf_LL z nl nt sy wi lo lf lt).2.2.1 (rf_LL z nl nt sy wi lo lf lt).2.2.2 pf).2 (rf_PG z nl nt sy wi ht (rf_LL z nl nt sy wi lo lf lt).1 (rf_LL z nl nt sy wi lo lf lt).2.1 (rf_LL z nl nt sy wi lo lf lt).2.2.1 (rf_LL z nl nt sy wi lo lf lt).2.2.2 pf).1.toNat (rf_LL z nl nt sy wi lo lf lt).1) q.toNat) ((va_up (rf_PG z nl nt sy wi ht (rf_LL z nl nt sy wi lo lf lt).1 (rf_LL z nl nt sy wi lo lf lt).2.1 (rf_LL z nl nt sy wi lo lf lt).2.2.1 (rf_LL z nl nt sy wi lo lf lt).2.2.2 pf).2 (rf_PG z nl nt sy wi ht (rf_LL z nl nt sy wi lo lf lt).1 (rf_LL z nl nt sy wi lo lf lt).2.1 (rf_LL z nl nt sy wi lo lf lt).2.2.1 (rf_LL z nl nt sy wi lo lf lt).2.2.2 pf).1.toNat (rf_LL z nl nt sy wi lo lf lt).1) (q + 1).toNat)) 10 0 i9 = -1) : JR G (d + 10) mX8_noteOn [.ref 60, .int (jI q), .int (jI i9)] (n, rf_f f th z kp ed nt nl wi ht sy sz bf rs rr rq rp mm ln lo lf lt co ro pg pf hsh) 0 0 (some (.int (jI 0))) (n, rf_f f 1 z kp ed nt nl wi ht sy sz bf rs rr rq rp mm ((rf_LL z nl nt sy wi lo lf lt).1) ((rf_LL z nl nt sy wi lo lf lt).2.1) ((rf_LL z nl nt sy wi lo lf lt).2.2.1) ((rf_LL z nl nt sy wi lo lf lt).2.2.2) wi ht ((rf_PG z nl nt sy wi ht (rf_LL z nl nt sy wi lo lf lt).1 (rf_LL z nl nt sy wi lo lf lt).2.1 (rf_LL z nl nt sy wi lo lf lt).2.2.1 (rf_LL z nl nt sy wi lo lf lt).2.2.2 pf).1) (va_up (rf_PG z nl nt sy wi ht (rf_LL z nl nt sy wi lo lf lt).1 (rf_LL z nl nt sy wi lo lf lt).2.1 (rf_LL z nl nt sy wi lo lf lt).2.2.1 (rf_LL z nl nt sy wi lo lf lt).2.2.2 pf).2 (rf_PG z nl nt sy wi ht (rf_LL z nl nt sy wi lo lf lt).1 (rf_LL z nl nt sy wi lo lf lt).2.1 (rf_LL z nl nt sy wi lo lf lt).2.2.1 (rf_LL z nl nt sy wi lo lf lt).2.2.2 pf).1.toNat (rf_LL z nl nt sy wi lo lf lt).1) hsh) := by
  obtain ⟨hz, hn, hk, hrc, ⟨hw9, hh9⟩, ⟨hm9, hj9⟩, hll⟩ := id hrf
  have zb := hz.2.1
  have hF := (hll wi lo lf lt (by omega)).2
  have hl1 := (hll wi lo lf lt (by omega)).1
  have hc9 : 0 ≤ wi ∧ wi ≤ 100 := by omega
  have hro : 0 ≤ ht ∧ ht ≤ 100 := by omega
  have hrl := rf_LL_ok hz hF
  have hpk := rf_PG_ok z nl nt sy wi ht (rf_LL z nl nt sy wi lo lf lt).2.1 (rf_LL z nl nt sy wi lo lf lt).2.2.1 (rf_LL z nl nt sy wi lo lf lt).2.2.2 pf (ln := (rf_LL z nl nt sy wi lo lf lt).1) (by omega)
  have hpp := hpk.pos (by omega)
  have hpl := hpk.1
  have wp := rf_in_d q 0 ((rf_PG z nl nt sy wi ht (rf_LL z nl nt sy wi lo lf lt).1 (rf_LL z nl nt sy wi lo lf lt).2.1 (rf_LL z nl nt sy wi lo lf lt).2.2.1 (rf_LL z nl nt sy wi lo lf lt).2.2.2 pf).1 - 1)
  have w1 := hpk.2.2.1 q.toNat (by omega)
  have w2 := hpk.2.2.1 (q + 1).toNat (by omega)
  have w3 := hpk.2.1 q.toNat (by omega)
  rw [show q.toNat + 1 = (q + 1).toNat by omega] at w3
  have w4 := rf_NO_b (nt := nt) hz hrl hrc (x := (va_up (rf_PG z nl nt sy wi ht (rf_LL z nl nt sy wi lo lf lt).1 (rf_LL z nl nt sy wi lo lf lt).2.1 (rf_LL z nl nt sy wi lo lf lt).2.2.1 (rf_LL z nl nt sy wi lo lf lt).2.2.2 pf).2 (rf_PG z nl nt sy wi ht (rf_LL z nl nt sy wi lo lf lt).1 (rf_LL z nl nt sy wi lo lf lt).2.1 (rf_LL z nl nt sy wi lo lf lt).2.2.1 (rf_LL z nl nt sy wi lo lf lt).2.2.2 pf).1.toNat (rf_LL z nl nt sy wi lo lf lt).1) q.toNat) (y := (va_up (rf_PG z nl nt sy wi ht (rf_LL z nl nt sy wi lo lf lt).1 (rf_LL z nl nt sy wi lo lf lt).2.1 (rf_LL z nl nt sy wi lo lf lt).2.2.1 (rf_LL z nl nt sy wi lo lf lt).2.2.2 pf).2 (rf_PG z nl nt sy wi ht (rf_LL z nl nt sy wi lo lf lt).1 (rf_LL z nl nt sy wi lo lf lt).2.1 (rf_LL z nl nt sy wi lo lf lt).2.2.1 (rf_LL z nl nt sy wi lo lf lt).2.2.2 pf).1.toNat (rf_LL z nl nt sy wi lo lf lt).1) (q + 1).toNat) (by omega)
  have wno := ly_no_b (rf_NO z nt ((rf_LL z nl nt sy wi lo lf lt).2.1) ((rf_LL z nl nt sy wi lo lf lt).2.2.1) ((rf_LL z nl nt sy wi lo lf lt).2.2.2) ((va_up (rf_PG z nl nt sy wi ht (rf_LL z nl nt sy wi lo lf lt).1 (rf_LL z nl nt sy wi lo lf lt).2.1 (rf_LL z nl nt sy wi lo lf lt).2.2.1 (rf_LL z nl nt sy wi lo lf lt).2.2.2 pf).2 (rf_PG z nl nt sy wi ht (rf_LL z nl nt sy wi lo lf lt).1 (rf_LL z nl nt sy wi lo lf lt).2.1 (rf_LL z nl nt sy wi lo lf lt).2.2.1 (rf_LL z nl nt sy wi lo lf lt).2.2.2 pf).1.toNat (rf_LL z nl nt sy wi lo lf lt).1) q.toNat) ((va_up (rf_PG z nl nt sy wi ht (rf_LL z nl nt sy wi lo lf lt).1 (rf_LL z nl nt sy wi lo lf lt).2.1 (rf_LL z nl nt sy wi lo lf lt).2.2.1 (rf_LL z nl nt sy wi lo lf lt).2.2.2 pf).2 (rf_PG z nl nt sy wi ht (rf_LL z nl nt sy wi lo lf lt).1 (rf_LL z nl nt sy wi lo lf lt).2.1 (rf_LL z nl nt sy wi lo lf lt).2.2.1 (rf_LL z nl nt sy wi lo lf lt).2.2.2 pf).1.toNat (rf_LL z nl nt sy wi lo lf lt).1) (q + 1).toNat)) 10 0 i9 (by omega)
  refine ji_ent (by decide) rfl (Nat.le_of_ble_eq_true rfl) rfl ?_
  refine ji_aload_n dX8_noteOn_0 rfl trivial ?_
  refine ji_iload_n dX8_noteOn_1 rfl ?_
  refine ji_cV dX8_noteOn_2 (r_isPage hrf (by omega)) rfl (rf_60) rfl rfl wX8_isPage vX8_isPage lX8_207 rfl (Nat.le_of_ble_eq_true rfl) rfl ?_
  refine ji_istore_n dX8_noteOn_5 (by decide) rfl ?_
  refine ji_iload_n dX8_noteOn_6 rfl ?_
  refine ji_if_eq (tgt := 40) dX8_noteOn_7 rfl (by omega) (fun c7 => ?_) (fun c7 => ?_)
  · try (exfalso; omega)
    all_goals
      refine ji_iconst dX8_noteOn_40 ?_
      refine ji_istore dX8_noteOn_41 (by decide) rfl ?_
      refine ji_aload_n dX8_noteOn_43 rfl trivial ?_
      refine ji_iload dX8_noteOn_44 rfl ?_
      refine ji_iconst dX8_noteOn_46 ?_
      refine ji_icmp_ne (tgt := 54) dX8_noteOn_47 rfl (by omega) (by omega) (fun c47 => ?_) (fun c47 => ?_)
      · try (exfalso; omega)
        all_goals
          refine ji_iconst dX8_noteOn_54 ?_
          refine ji_putE (ci := 8) (k := 0) rfl dX8_noteOn_55 lX8_47 (by decide) (rf_60) (by simp [rf_c]) (ji_fitI _) rfl (rf_pth) ?_
          refine ji_aload_n dX8_noteOn_58 rfl trivial ?_
          refine ji_get (ci := 8) (k := 0) rfl dX8_noteOn_59 lX8_47 (by decide) (rf_60) rfl ?_
          refine ji_if_le (tgt := 69) dX8_noteOn_62 rfl (by omega) (fun c62 => ?_) (fun c62 => ?_)
          · try (exfalso; omega)
            all_goals
              refine ji_iload dX8_noteOn_69 rfl ?_
              exact ji_ireturn dX8_noteOn_71 rfl (rfl) ⟨jr_i (by first | rfl | omega), rfl⟩
          · try (exfalso; omega)
            all_goals
              refine ji_iconst dX8_noteOn_65 ?_
              refine ji_goto (tgt := 71) dX8_noteOn_66 rfl ?_
              exact ji_ireturn dX8_noteOn_71 rfl (rfl) ⟨jr_i (by first | rfl | omega), rfl⟩
      · try (exfalso; omega)
        all_goals
          refine ji_iconst dX8_noteOn_50 ?_
          refine ji_goto (tgt := 55) dX8_noteOn_51 rfl ?_
          refine ji_putE (ci := 8) (k := 0) rfl dX8_noteOn_55 lX8_47 (by decide) (rf_60) (by simp [rf_c]) (ji_fitI _) rfl (rf_pth) ?_
          refine ji_aload_n dX8_noteOn_58 rfl trivial ?_
          refine ji_get (ci := 8) (k := 0) rfl dX8_noteOn_59 lX8_47 (by decide) (rf_60) rfl ?_
          refine ji_if_le (tgt := 69) dX8_noteOn_62 rfl (by omega) (fun c62 => ?_) (fun c62 => ?_)
          · try (exfalso; omega)
            all_goals
              refine ji_iload dX8_noteOn_69 rfl ?_
              exact ji_ireturn dX8_noteOn_71 rfl (rfl) ⟨jr_i (by first | rfl | omega), rfl⟩
          · try (exfalso; omega)
            all_goals
              refine ji_iconst dX8_noteOn_65 ?_
              refine ji_goto (tgt := 71) dX8_noteOn_66 rfl ?_
              exact ji_ireturn dX8_noteOn_71 rfl (rfl) ⟨jr_i (by first | rfl | omega), rfl⟩
  · try (exfalso; omega)
    all_goals
      refine ji_iload_n dX8_noteOn_10 rfl ?_
      refine ji_if_lt (tgt := 40) dX8_noteOn_11 rfl (by omega) (fun c11 => ?_) (fun c11 => ?_)
      · try (exfalso; omega)
        all_goals
          refine ji_iconst dX8_noteOn_40 ?_
          refine ji_istore dX8_noteOn_41 (by decide) rfl ?_
          refine ji_aload_n dX8_noteOn_43 rfl trivial ?_
          refine ji_iload dX8_noteOn_44 rfl ?_
          refine ji_iconst dX8_noteOn_46 ?_
          refine ji_icmp_ne (tgt := 54) dX8_noteOn_47 rfl (by omega) (by omega) (fun c47 => ?_) (fun c47 => ?_)
          · try (exfalso; omega)
            all_goals
              refine ji_iconst dX8_noteOn_54 ?_
              refine ji_putE (ci := 8) (k := 0) rfl dX8_noteOn_55 lX8_47 (by decide) (rf_60) (by simp [rf_c]) (ji_fitI _) rfl (rf_pth) ?_
              refine ji_aload_n dX8_noteOn_58 rfl trivial ?_
              refine ji_get (ci := 8) (k := 0) rfl dX8_noteOn_59 lX8_47 (by decide) (rf_60) rfl ?_
              refine ji_if_le (tgt := 69) dX8_noteOn_62 rfl (by omega) (fun c62 => ?_) (fun c62 => ?_)
              · try (exfalso; omega)
                all_goals
                  refine ji_iload dX8_noteOn_69 rfl ?_
                  exact ji_ireturn dX8_noteOn_71 rfl (rfl) ⟨jr_i (by first | rfl | omega), rfl⟩
              · try (exfalso; omega)
                all_goals
                  refine ji_iconst dX8_noteOn_65 ?_
                  refine ji_goto (tgt := 71) dX8_noteOn_66 rfl ?_
                  exact ji_ireturn dX8_noteOn_71 rfl (rfl) ⟨jr_i (by first | rfl | omega), rfl⟩
          · try (exfalso; omega)
            all_goals
              refine ji_iconst dX8_noteOn_50 ?_
              refine ji_goto (tgt := 55) dX8_noteOn_51 rfl ?_
              refine ji_putE (ci := 8) (k := 0) rfl dX8_noteOn_55 lX8_47 (by decide) (rf_60) (by simp [rf_c]) (ji_fitI _) rfl (rf_pth) ?_
              refine ji_aload_n dX8_noteOn_58 rfl trivial ?_
              refine ji_get (ci := 8) (k := 0) rfl dX8_noteOn_59 lX8_47 (by decide) (rf_60) rfl ?_
              refine ji_if_le (tgt := 69) dX8_noteOn_62 rfl (by omega) (fun c62 => ?_) (fun c62 => ?_)
              · try (exfalso; omega)
                all_goals
                  refine ji_iload dX8_noteOn_69 rfl ?_
                  exact ji_ireturn dX8_noteOn_71 rfl (rfl) ⟨jr_i (by first | rfl | omega), rfl⟩
              · try (exfalso; omega)
                all_goals
                  refine ji_iconst dX8_noteOn_65 ?_
                  refine ji_goto (tgt := 71) dX8_noteOn_66 rfl ?_
                  exact ji_ireturn dX8_noteOn_71 rfl (rfl) ⟨jr_i (by first | rfl | omega), rfl⟩
      · try (exfalso; omega)
        all_goals
          refine ji_aload_n dX8_noteOn_14 rfl trivial ?_
          refine ji_aload_n dX8_noteOn_15 rfl trivial ?_
          refine ji_aload_n dX8_noteOn_16 rfl trivial ?_
          refine ji_get (ci := 8) (k := 23) rfl dX8_noteOn_17 lX8_44 (by decide) (rf_60) rfl ?_
          refine ji_iload_n dX8_noteOn_20 rfl ?_
          refine ji_iaload dX8_noteOn_21 (rf_70) (by omega) ?_
          refine ji_aload_n dX8_noteOn_22 rfl trivial ?_
          refine ji_get (ci := 8) (k := 23) rfl dX8_noteOn_23 lX8_44 (by decide) (rf_60) rfl ?_
          refine ji_iload_n dX8_noteOn_26 rfl ?_
          refine ji_iconst dX8_noteOn_27 ?_
          refine ji_iadd dX8_noteOn_28 ?_
          refine ji_iaload dX8_noteOn_29 (rf_70) (by omega) ?_
          refine ji_cV dX8_noteOn_30 (r_notesOn hz hn hrl hrc (by omega)) rfl (rf_60) rfl rfl wX8_notesOn vX8_notesOn lX8_148 rfl (Nat.le_of_ble_eq_true rfl) rfl ?_
          refine ji_iload_n dX8_noteOn_33 rfl ?_
          refine ji_cV dX8_noteOn_34 (r_noteAt (by omega) (by omega)) rfl (rf_60) rfl rfl wX8_noteAt vX8_noteAt lX8_235 rfl (Nat.le_of_ble_eq_true rfl) rfl ?_
          refine ji_goto (tgt := 41) dX8_noteOn_37 rfl ?_
          refine ji_istore dX8_noteOn_41 (by decide) rfl ?_
          refine ji_aload_n dX8_noteOn_43 rfl trivial ?_
          refine ji_iload dX8_noteOn_44 rfl ?_
          refine ji_iconst dX8_noteOn_46 ?_
          refine ji_icmp_ne (tgt := 54) dX8_noteOn_47 rfl (by omega) (by omega) (fun c47 => ?_) (fun c47 => ?_)
          · try (exfalso; omega)
            all_goals
              refine ji_iconst dX8_noteOn_54 ?_
              refine ji_putE (ci := 8) (k := 0) rfl dX8_noteOn_55 lX8_47 (by decide) (rf_60) (by simp [rf_c]) (ji_fitI _) rfl (rf_pth) ?_
              refine ji_aload_n dX8_noteOn_58 rfl trivial ?_
              refine ji_get (ci := 8) (k := 0) rfl dX8_noteOn_59 lX8_47 (by decide) (rf_60) rfl ?_
              refine ji_if_le (tgt := 69) dX8_noteOn_62 rfl (by omega) (fun c62 => ?_) (fun c62 => ?_)
              · try (exfalso; omega)
                all_goals
                  refine ji_iload dX8_noteOn_69 rfl ?_
                  exact ji_ireturn dX8_noteOn_71 rfl (rfl) ⟨jr_i (by first | rfl | omega), rfl⟩
              · try (exfalso; omega)
                all_goals
                  refine ji_iconst dX8_noteOn_65 ?_
                  refine ji_goto (tgt := 71) dX8_noteOn_66 rfl ?_
                  exact ji_ireturn dX8_noteOn_71 rfl (rfl) ⟨jr_i (by first | rfl | omega), rfl⟩
          · try (exfalso; omega)
            all_goals
              refine ji_iconst dX8_noteOn_50 ?_
              refine ji_goto (tgt := 55) dX8_noteOn_51 rfl ?_
              refine ji_putE (ci := 8) (k := 0) rfl dX8_noteOn_55 lX8_47 (by decide) (rf_60) (by simp [rf_c]) (ji_fitI _) rfl (rf_pth) ?_
              refine ji_aload_n dX8_noteOn_58 rfl trivial ?_
              refine ji_get (ci := 8) (k := 0) rfl dX8_noteOn_59 lX8_47 (by decide) (rf_60) rfl ?_
              refine ji_if_le (tgt := 69) dX8_noteOn_62 rfl (by omega) (fun c62 => ?_) (fun c62 => ?_)
              · try (exfalso; omega)
                all_goals
                  refine ji_iload dX8_noteOn_69 rfl ?_
                  exact ji_ireturn dX8_noteOn_71 rfl (rfl) ⟨jr_i (by first | rfl | omega), rfl⟩
              · try (exfalso; omega)
                all_goals
                  refine ji_iconst dX8_noteOn_65 ?_
                  refine ji_goto (tgt := 71) dX8_noteOn_66 rfl ?_
                  exact ji_ireturn dX8_noteOn_71 rfl (rfl) ⟨jr_i (by first | rfl | omega), rfl⟩

set_option maxHeartbeats 4000000 in
set_option maxRecDepth 100000 in
theorem r_noteOn (hrf : rf_ok wi ht z nl nt sy) {q : Int} (hq : 0 ≤ q ∧ q < (rf_PG z nl nt sy wi ht (rf_LL z nl nt sy wi lo lf lt).1 (rf_LL z nl nt sy wi lo lf lt).2.1 (rf_LL z nl nt sy wi lo lf lt).2.2.1 (rf_LL z nl nt sy wi lo lf lt).2.2.2 pf).1) {i9 : Int} (b_i9 : -2147483648 ≤ i9 ∧ i9 < 2147483648) (hx : 0 ≤ i9 ∧ ¬ ly_no (rf_NO z nt ((rf_LL z nl nt sy wi lo lf lt).2.1) ((rf_LL z nl nt sy wi lo lf lt).2.2.1) ((rf_LL z nl nt sy wi lo lf lt).2.2.2) ((va_up (rf_PG z nl nt sy wi ht (rf_LL z nl nt sy wi lo lf lt).1 (rf_LL z nl nt sy wi lo lf lt).2.1 (rf_LL z nl nt sy wi lo lf lt).2.2.1 (rf_LL z nl nt sy wi lo lf lt).2.2.2 pf).2 (rf_PG z nl nt sy wi ht (rf_LL z nl nt sy wi lo lf lt).1 (rf_LL z nl nt sy wi lo lf lt).2.1 (rf_LL z nl nt sy wi lo lf lt).2.2.1 (rf_LL z nl nt sy wi lo lf lt).2.2.2 pf).1.toNat (rf_LL z nl nt sy wi lo lf lt).1) q.toNat) ((va_up (rf_PG z nl nt sy wi ht (rf_LL z nl nt sy wi lo lf lt).1 (rf_LL z nl nt sy wi lo lf lt).2.1 (rf_LL z nl nt sy wi lo lf lt).2.2.1 (rf_LL z nl nt sy wi lo lf lt).2.2.2 pf).2 (rf_PG z nl nt sy wi ht (rf_LL z nl nt sy wi lo lf lt).1 (rf_LL z nl nt sy wi lo lf lt).2.1 (rf_LL z nl nt sy wi lo lf lt).2.2.1 (rf_LL z nl nt sy wi lo lf lt).2.2.2 pf).1.toNat (rf_LL z nl nt sy wi lo lf lt).1) (q + 1).toNat)) 10 0 i9 = -1) : JR G (d + 10) mX8_noteOn [.ref 60, .int (jI q), .int (jI i9)] (n, rf_f f th z kp ed nt nl wi ht sy sz bf rs rr rq rp mm ln lo lf lt co ro pg pf hsh) 0 0 (some (.int (jI (ly_no (rf_NO z nt ((rf_LL z nl nt sy wi lo lf lt).2.1) ((rf_LL z nl nt sy wi lo lf lt).2.2.1) ((rf_LL z nl nt sy wi lo lf lt).2.2.2) ((va_up (rf_PG z nl nt sy wi ht (rf_LL z nl nt sy wi lo lf lt).1 (rf_LL z nl nt sy wi lo lf lt).2.1 (rf_LL z nl nt sy wi lo lf lt).2.2.1 (rf_LL z nl nt sy wi lo lf lt).2.2.2 pf).2 (rf_PG z nl nt sy wi ht (rf_LL z nl nt sy wi lo lf lt).1 (rf_LL z nl nt sy wi lo lf lt).2.1 (rf_LL z nl nt sy wi lo lf lt).2.2.1 (rf_LL z nl nt sy wi lo lf lt).2.2.2 pf).1.toNat (rf_LL z nl nt sy wi lo lf lt).1) q.toNat) ((va_up (rf_PG z nl nt sy wi ht (rf_LL z nl nt sy wi lo lf lt).1 (rf_LL z nl nt sy wi lo lf lt).2.1 (rf_LL z nl nt sy wi lo lf lt).2.2.1 (rf_LL z nl nt sy wi lo lf lt).2.2.2 pf).2 (rf_PG z nl nt sy wi ht (rf_LL z nl nt sy wi lo lf lt).1 (rf_LL z nl nt sy wi lo lf lt).2.1 (rf_LL z nl nt sy wi lo lf lt).2.2.1 (rf_LL z nl nt sy wi lo lf lt).2.2.2 pf).1.toNat (rf_LL z nl nt sy wi lo lf lt).1) (q + 1).toNat)) 10 0 i9)))) (n, rf_f f 0 z kp ed nt nl wi ht sy sz bf rs rr rq rp mm ((rf_LL z nl nt sy wi lo lf lt).1) ((rf_LL z nl nt sy wi lo lf lt).2.1) ((rf_LL z nl nt sy wi lo lf lt).2.2.1) ((rf_LL z nl nt sy wi lo lf lt).2.2.2) wi ht ((rf_PG z nl nt sy wi ht (rf_LL z nl nt sy wi lo lf lt).1 (rf_LL z nl nt sy wi lo lf lt).2.1 (rf_LL z nl nt sy wi lo lf lt).2.2.1 (rf_LL z nl nt sy wi lo lf lt).2.2.2 pf).1) (va_up (rf_PG z nl nt sy wi ht (rf_LL z nl nt sy wi lo lf lt).1 (rf_LL z nl nt sy wi lo lf lt).2.1 (rf_LL z nl nt sy wi lo lf lt).2.2.1 (rf_LL z nl nt sy wi lo lf lt).2.2.2 pf).2 (rf_PG z nl nt sy wi ht (rf_LL z nl nt sy wi lo lf lt).1 (rf_LL z nl nt sy wi lo lf lt).2.1 (rf_LL z nl nt sy wi lo lf lt).2.2.1 (rf_LL z nl nt sy wi lo lf lt).2.2.2 pf).1.toNat (rf_LL z nl nt sy wi lo lf lt).1) hsh) := by
  obtain ⟨hz, hn, hk, hrc, ⟨hw9, hh9⟩, ⟨hm9, hj9⟩, hll⟩ := id hrf
  have zb := hz.2.1
  have hF := (hll wi lo lf lt (by omega)).2
  have hl1 := (hll wi lo lf lt (by omega)).1
  have hc9 : 0 ≤ wi ∧ wi ≤ 100 := by omega
  have hro : 0 ≤ ht ∧ ht ≤ 100 := by omega
  have hrl := rf_LL_ok hz hF
  have hpk := rf_PG_ok z nl nt sy wi ht (rf_LL z nl nt sy wi lo lf lt).2.1 (rf_LL z nl nt sy wi lo lf lt).2.2.1 (rf_LL z nl nt sy wi lo lf lt).2.2.2 pf (ln := (rf_LL z nl nt sy wi lo lf lt).1) (by omega)
  have hpp := hpk.pos (by omega)
  have hpl := hpk.1
  have wp := rf_in_d q 0 ((rf_PG z nl nt sy wi ht (rf_LL z nl nt sy wi lo lf lt).1 (rf_LL z nl nt sy wi lo lf lt).2.1 (rf_LL z nl nt sy wi lo lf lt).2.2.1 (rf_LL z nl nt sy wi lo lf lt).2.2.2 pf).1 - 1)
  have w1 := hpk.2.2.1 q.toNat (by omega)
  have w2 := hpk.2.2.1 (q + 1).toNat (by omega)
  have w3 := hpk.2.1 q.toNat (by omega)
  rw [show q.toNat + 1 = (q + 1).toNat by omega] at w3
  have w4 := rf_NO_b (nt := nt) hz hrl hrc (x := (va_up (rf_PG z nl nt sy wi ht (rf_LL z nl nt sy wi lo lf lt).1 (rf_LL z nl nt sy wi lo lf lt).2.1 (rf_LL z nl nt sy wi lo lf lt).2.2.1 (rf_LL z nl nt sy wi lo lf lt).2.2.2 pf).2 (rf_PG z nl nt sy wi ht (rf_LL z nl nt sy wi lo lf lt).1 (rf_LL z nl nt sy wi lo lf lt).2.1 (rf_LL z nl nt sy wi lo lf lt).2.2.1 (rf_LL z nl nt sy wi lo lf lt).2.2.2 pf).1.toNat (rf_LL z nl nt sy wi lo lf lt).1) q.toNat) (y := (va_up (rf_PG z nl nt sy wi ht (rf_LL z nl nt sy wi lo lf lt).1 (rf_LL z nl nt sy wi lo lf lt).2.1 (rf_LL z nl nt sy wi lo lf lt).2.2.1 (rf_LL z nl nt sy wi lo lf lt).2.2.2 pf).2 (rf_PG z nl nt sy wi ht (rf_LL z nl nt sy wi lo lf lt).1 (rf_LL z nl nt sy wi lo lf lt).2.1 (rf_LL z nl nt sy wi lo lf lt).2.2.1 (rf_LL z nl nt sy wi lo lf lt).2.2.2 pf).1.toNat (rf_LL z nl nt sy wi lo lf lt).1) (q + 1).toNat) (by omega)
  have wno := ly_no_b (rf_NO z nt ((rf_LL z nl nt sy wi lo lf lt).2.1) ((rf_LL z nl nt sy wi lo lf lt).2.2.1) ((rf_LL z nl nt sy wi lo lf lt).2.2.2) ((va_up (rf_PG z nl nt sy wi ht (rf_LL z nl nt sy wi lo lf lt).1 (rf_LL z nl nt sy wi lo lf lt).2.1 (rf_LL z nl nt sy wi lo lf lt).2.2.1 (rf_LL z nl nt sy wi lo lf lt).2.2.2 pf).2 (rf_PG z nl nt sy wi ht (rf_LL z nl nt sy wi lo lf lt).1 (rf_LL z nl nt sy wi lo lf lt).2.1 (rf_LL z nl nt sy wi lo lf lt).2.2.1 (rf_LL z nl nt sy wi lo lf lt).2.2.2 pf).1.toNat (rf_LL z nl nt sy wi lo lf lt).1) q.toNat) ((va_up (rf_PG z nl nt sy wi ht (rf_LL z nl nt sy wi lo lf lt).1 (rf_LL z nl nt sy wi lo lf lt).2.1 (rf_LL z nl nt sy wi lo lf lt).2.2.1 (rf_LL z nl nt sy wi lo lf lt).2.2.2 pf).2 (rf_PG z nl nt sy wi ht (rf_LL z nl nt sy wi lo lf lt).1 (rf_LL z nl nt sy wi lo lf lt).2.1 (rf_LL z nl nt sy wi lo lf lt).2.2.1 (rf_LL z nl nt sy wi lo lf lt).2.2.2 pf).1.toNat (rf_LL z nl nt sy wi lo lf lt).1) (q + 1).toNat)) 10 0 i9 (by omega)
  refine ji_ent (by decide) rfl (Nat.le_of_ble_eq_true rfl) rfl ?_
  refine ji_aload_n dX8_noteOn_0 rfl trivial ?_
  refine ji_iload_n dX8_noteOn_1 rfl ?_
  refine ji_cV dX8_noteOn_2 (r_isPage hrf (by omega)) rfl (rf_60) rfl rfl wX8_isPage vX8_isPage lX8_207 rfl (Nat.le_of_ble_eq_true rfl) rfl ?_
  refine ji_istore_n dX8_noteOn_5 (by decide) rfl ?_
  refine ji_iload_n dX8_noteOn_6 rfl ?_
  refine ji_if_eq (tgt := 40) dX8_noteOn_7 rfl (by omega) (fun c7 => ?_) (fun c7 => ?_)
  · try (exfalso; omega)
    all_goals
      refine ji_iconst dX8_noteOn_40 ?_
      refine ji_istore dX8_noteOn_41 (by decide) rfl ?_
      refine ji_aload_n dX8_noteOn_43 rfl trivial ?_
      refine ji_iload dX8_noteOn_44 rfl ?_
      refine ji_iconst dX8_noteOn_46 ?_
      refine ji_icmp_ne (tgt := 54) dX8_noteOn_47 rfl (by omega) (by omega) (fun c47 => ?_) (fun c47 => ?_)
      · try (exfalso; omega)
        all_goals
          refine ji_iconst dX8_noteOn_54 ?_
          refine ji_putE (ci := 8) (k := 0) rfl dX8_noteOn_55 lX8_47 (by decide) (rf_60) (by simp [rf_c]) (ji_fitI _) rfl (rf_pth) ?_
          refine ji_aload_n dX8_noteOn_58 rfl trivial ?_
          refine ji_get (ci := 8) (k := 0) rfl dX8_noteOn_59 lX8_47 (by decide) (rf_60) rfl ?_
          refine ji_if_le (tgt := 69) dX8_noteOn_62 rfl (by omega) (fun c62 => ?_) (fun c62 => ?_)
          · try (exfalso; omega)
            all_goals
              refine ji_iload dX8_noteOn_69 rfl ?_
              exact ji_ireturn dX8_noteOn_71 rfl (rfl) ⟨jr_i (by first | rfl | omega), rfl⟩
          · try (exfalso; omega)
            all_goals
              refine ji_iconst dX8_noteOn_65 ?_
              refine ji_goto (tgt := 71) dX8_noteOn_66 rfl ?_
              exact ji_ireturn dX8_noteOn_71 rfl (rfl) ⟨jr_i (by first | rfl | omega), rfl⟩
      · try (exfalso; omega)
        all_goals
          refine ji_iconst dX8_noteOn_50 ?_
          refine ji_goto (tgt := 55) dX8_noteOn_51 rfl ?_
          refine ji_putE (ci := 8) (k := 0) rfl dX8_noteOn_55 lX8_47 (by decide) (rf_60) (by simp [rf_c]) (ji_fitI _) rfl (rf_pth) ?_
          refine ji_aload_n dX8_noteOn_58 rfl trivial ?_
          refine ji_get (ci := 8) (k := 0) rfl dX8_noteOn_59 lX8_47 (by decide) (rf_60) rfl ?_
          refine ji_if_le (tgt := 69) dX8_noteOn_62 rfl (by omega) (fun c62 => ?_) (fun c62 => ?_)
          · try (exfalso; omega)
            all_goals
              refine ji_iload dX8_noteOn_69 rfl ?_
              exact ji_ireturn dX8_noteOn_71 rfl (rfl) ⟨jr_i (by first | rfl | omega), rfl⟩
          · try (exfalso; omega)
            all_goals
              refine ji_iconst dX8_noteOn_65 ?_
              refine ji_goto (tgt := 71) dX8_noteOn_66 rfl ?_
              exact ji_ireturn dX8_noteOn_71 rfl (rfl) ⟨jr_i (by first | rfl | omega), rfl⟩
  · try (exfalso; omega)
    all_goals
      refine ji_iload_n dX8_noteOn_10 rfl ?_
      refine ji_if_lt (tgt := 40) dX8_noteOn_11 rfl (by omega) (fun c11 => ?_) (fun c11 => ?_)
      · try (exfalso; omega)
        all_goals
          refine ji_iconst dX8_noteOn_40 ?_
          refine ji_istore dX8_noteOn_41 (by decide) rfl ?_
          refine ji_aload_n dX8_noteOn_43 rfl trivial ?_
          refine ji_iload dX8_noteOn_44 rfl ?_
          refine ji_iconst dX8_noteOn_46 ?_
          refine ji_icmp_ne (tgt := 54) dX8_noteOn_47 rfl (by omega) (by omega) (fun c47 => ?_) (fun c47 => ?_)
          · try (exfalso; omega)
            all_goals
              refine ji_iconst dX8_noteOn_54 ?_
              refine ji_putE (ci := 8) (k := 0) rfl dX8_noteOn_55 lX8_47 (by decide) (rf_60) (by simp [rf_c]) (ji_fitI _) rfl (rf_pth) ?_
              refine ji_aload_n dX8_noteOn_58 rfl trivial ?_
              refine ji_get (ci := 8) (k := 0) rfl dX8_noteOn_59 lX8_47 (by decide) (rf_60) rfl ?_
              refine ji_if_le (tgt := 69) dX8_noteOn_62 rfl (by omega) (fun c62 => ?_) (fun c62 => ?_)
              · try (exfalso; omega)
                all_goals
                  refine ji_iload dX8_noteOn_69 rfl ?_
                  exact ji_ireturn dX8_noteOn_71 rfl (rfl) ⟨jr_i (by first | rfl | omega), rfl⟩
              · try (exfalso; omega)
                all_goals
                  refine ji_iconst dX8_noteOn_65 ?_
                  refine ji_goto (tgt := 71) dX8_noteOn_66 rfl ?_
                  exact ji_ireturn dX8_noteOn_71 rfl (rfl) ⟨jr_i (by first | rfl | omega), rfl⟩
          · try (exfalso; omega)
            all_goals
              refine ji_iconst dX8_noteOn_50 ?_
              refine ji_goto (tgt := 55) dX8_noteOn_51 rfl ?_
              refine ji_putE (ci := 8) (k := 0) rfl dX8_noteOn_55 lX8_47 (by decide) (rf_60) (by simp [rf_c]) (ji_fitI _) rfl (rf_pth) ?_
              refine ji_aload_n dX8_noteOn_58 rfl trivial ?_
              refine ji_get (ci := 8) (k := 0) rfl dX8_noteOn_59 lX8_47 (by decide) (rf_60) rfl ?_
              refine ji_if_le (tgt := 69) dX8_noteOn_62 rfl (by omega) (fun c62 => ?_) (fun c62 => ?_)
              · try (exfalso; omega)
                all_goals
                  refine ji_iload dX8_noteOn_69 rfl ?_
                  exact ji_ireturn dX8_noteOn_71 rfl (rfl) ⟨jr_i (by first | rfl | omega), rfl⟩
              · try (exfalso; omega)
                all_goals
                  refine ji_iconst dX8_noteOn_65 ?_
                  refine ji_goto (tgt := 71) dX8_noteOn_66 rfl ?_
                  exact ji_ireturn dX8_noteOn_71 rfl (rfl) ⟨jr_i (by first | rfl | omega), rfl⟩
      · try (exfalso; omega)
        all_goals
          refine ji_aload_n dX8_noteOn_14 rfl trivial ?_
          refine ji_aload_n dX8_noteOn_15 rfl trivial ?_
          refine ji_aload_n dX8_noteOn_16 rfl trivial ?_
          refine ji_get (ci := 8) (k := 23) rfl dX8_noteOn_17 lX8_44 (by decide) (rf_60) rfl ?_
          refine ji_iload_n dX8_noteOn_20 rfl ?_
          refine ji_iaload dX8_noteOn_21 (rf_70) (by omega) ?_
          refine ji_aload_n dX8_noteOn_22 rfl trivial ?_
          refine ji_get (ci := 8) (k := 23) rfl dX8_noteOn_23 lX8_44 (by decide) (rf_60) rfl ?_
          refine ji_iload_n dX8_noteOn_26 rfl ?_
          refine ji_iconst dX8_noteOn_27 ?_
          refine ji_iadd dX8_noteOn_28 ?_
          refine ji_iaload dX8_noteOn_29 (rf_70) (by omega) ?_
          refine ji_cV dX8_noteOn_30 (r_notesOn hz hn hrl hrc (by omega)) rfl (rf_60) rfl rfl wX8_notesOn vX8_notesOn lX8_148 rfl (Nat.le_of_ble_eq_true rfl) rfl ?_
          refine ji_iload_n dX8_noteOn_33 rfl ?_
          refine ji_cV dX8_noteOn_34 (r_noteAt (by omega) (by omega)) rfl (rf_60) rfl rfl wX8_noteAt vX8_noteAt lX8_235 rfl (Nat.le_of_ble_eq_true rfl) rfl ?_
          refine ji_goto (tgt := 41) dX8_noteOn_37 rfl ?_
          refine ji_istore dX8_noteOn_41 (by decide) rfl ?_
          refine ji_aload_n dX8_noteOn_43 rfl trivial ?_
          refine ji_iload dX8_noteOn_44 rfl ?_
          refine ji_iconst dX8_noteOn_46 ?_
          refine ji_icmp_ne (tgt := 54) dX8_noteOn_47 rfl (by omega) (by omega) (fun c47 => ?_) (fun c47 => ?_)
          · try (exfalso; omega)
            all_goals
              refine ji_iconst dX8_noteOn_54 ?_
              refine ji_putE (ci := 8) (k := 0) rfl dX8_noteOn_55 lX8_47 (by decide) (rf_60) (by simp [rf_c]) (ji_fitI _) rfl (rf_pth) ?_
              refine ji_aload_n dX8_noteOn_58 rfl trivial ?_
              refine ji_get (ci := 8) (k := 0) rfl dX8_noteOn_59 lX8_47 (by decide) (rf_60) rfl ?_
              refine ji_if_le (tgt := 69) dX8_noteOn_62 rfl (by omega) (fun c62 => ?_) (fun c62 => ?_)
              · try (exfalso; omega)
                all_goals
                  refine ji_iload dX8_noteOn_69 rfl ?_
                  exact ji_ireturn dX8_noteOn_71 rfl (rfl) ⟨jr_i (by first | rfl | omega), rfl⟩
              · try (exfalso; omega)
                all_goals
                  refine ji_iconst dX8_noteOn_65 ?_
                  refine ji_goto (tgt := 71) dX8_noteOn_66 rfl ?_
                  exact ji_ireturn dX8_noteOn_71 rfl (rfl) ⟨jr_i (by first | rfl | omega), rfl⟩
          · try (exfalso; omega)
            all_goals
              refine ji_iconst dX8_noteOn_50 ?_
              refine ji_goto (tgt := 55) dX8_noteOn_51 rfl ?_
              refine ji_putE (ci := 8) (k := 0) rfl dX8_noteOn_55 lX8_47 (by decide) (rf_60) (by simp [rf_c]) (ji_fitI _) rfl (rf_pth) ?_
              refine ji_aload_n dX8_noteOn_58 rfl trivial ?_
              refine ji_get (ci := 8) (k := 0) rfl dX8_noteOn_59 lX8_47 (by decide) (rf_60) rfl ?_
              refine ji_if_le (tgt := 69) dX8_noteOn_62 rfl (by omega) (fun c62 => ?_) (fun c62 => ?_)
              · try (exfalso; omega)
                all_goals
                  refine ji_iload dX8_noteOn_69 rfl ?_
                  exact ji_ireturn dX8_noteOn_71 rfl (rfl) ⟨jr_i (by first | rfl | omega), rfl⟩
              · try (exfalso; omega)
                all_goals
                  refine ji_iconst dX8_noteOn_65 ?_
                  refine ji_goto (tgt := 71) dX8_noteOn_66 rfl ?_
                  exact ji_ireturn dX8_noteOn_71 rfl (rfl) ⟨jr_i (by first | rfl | omega), rfl⟩

set_option maxHeartbeats 4000000 in
set_option maxRecDepth 100000 in
theorem r_isPosition (hz : rz_ok z) {q o : Int} (b_q : -2147483648 ≤ q ∧ q < 2147483648) (b_o : -2147483648 ≤ o ∧ o < 2147483648) : JR G (d + 1) mX8_isPosition [.ref 60, .int (jI q), .int (jI o)] (n, rf_f f th z kp ed nt nl wi ht sy sz bf rs rr rq rp mm ln lo lf lt co ro pg pf hsh) 0 0 (some (.int (jI (rf_IP z q o)))) (n, rf_f f th z kp ed nt nl wi ht sy sz bf rs rr rq rp mm ln lo lf lt co ro pg pf hsh) := by
  have zb := hz.2.1
  have zz : 0 ≤ q → q < z 0 → 0 ≤ z (85 + q).toNat ∧ z (85 + q).toNat ≤ 359 := fun a b => hz.2.2.1 (85 + q).toNat (by omega) (by omega)
  have wi1 := rf_in_d q 0 (z 0 - 1)
  have wi2 := rf_in_d o 0 (z (85 + q).toNat - 1)
  refine ji_ent (by decide) rfl (Nat.le_of_ble_eq_true rfl) rfl ?_
  refine ji_iload_n dX8_isPosition_0 rfl ?_
  refine ji_iconst dX8_isPosition_1 ?_
  refine ji_aload_n dX8_isPosition_2 rfl trivial ?_
  refine ji_get (ci := 8) (k := 1) rfl dX8_isPosition_3 lX8_7 (by decide) (rf_60) rfl ?_
  refine ji_iconst dX8_isPosition_6 ?_
  refine ji_ialoadK (k := 0) dX8_isPosition_7 (rf_61) rfl (by decide) ?_
  refine ji_iconst dX8_isPosition_8 ?_
  refine ji_isub dX8_isPosition_9 ?_
  refine ji_cS dX8_isPosition_10 (r_within (by omega) (by omega) (by omega)) rfl wX8_within sX8_within lX8_50 rfl (Nat.le_of_ble_eq_true rfl) rfl ?_
  refine ji_if_eq (tgt := 39) dX8_isPosition_13 rfl (by omega) (fun c13 => ?_) (fun c13 => ?_)
  · try (exfalso; omega)
    all_goals
      refine ji_iconst dX8_isPosition_39 ?_
      exact ji_ireturn dX8_isPosition_40 rfl (by first | rfl | decide) ⟨jr_i (by unfold rf_IP; first | (rw [if_pos (by omega)]; done) | (rw [if_neg (by omega)]; done)), rfl⟩
  · try (exfalso; omega)
    all_goals
      refine ji_iload_n dX8_isPosition_16 rfl ?_
      refine ji_iconst dX8_isPosition_17 ?_
      refine ji_aload_n dX8_isPosition_18 rfl trivial ?_
      refine ji_get (ci := 8) (k := 1) rfl dX8_isPosition_19 lX8_7 (by decide) (rf_60) rfl ?_
      refine ji_bipush dX8_isPosition_22 rfl ?_
      refine ji_iload_n dX8_isPosition_24 rfl ?_
      refine ji_iadd dX8_isPosition_25 ?_
      refine ji_iaload dX8_isPosition_26 (rf_61) (by omega) ?_
      refine ji_iconst dX8_isPosition_27 ?_
      refine ji_isub dX8_isPosition_28 ?_
      refine ji_cS dX8_isPosition_29 (r_within (by omega) (by omega) (by omega)) rfl wX8_within sX8_within lX8_50 rfl (Nat.le_of_ble_eq_true rfl) rfl ?_
      refine ji_if_eq (tgt := 39) dX8_isPosition_32 rfl (by omega) (fun c32 => ?_) (fun c32 => ?_)
      · try (exfalso; omega)
        all_goals
          refine ji_iconst dX8_isPosition_39 ?_
          exact ji_ireturn dX8_isPosition_40 rfl (by first | rfl | decide) ⟨jr_i (by unfold rf_IP; first | (rw [if_pos (by omega)]; done) | (rw [if_neg (by omega)]; done)), rfl⟩
      · try (exfalso; omega)
        all_goals
          refine ji_iconst dX8_isPosition_35 ?_
          refine ji_goto (tgt := 40) dX8_isPosition_36 rfl ?_
          exact ji_ireturn dX8_isPosition_40 rfl (by first | rfl | decide) ⟨jr_i (by unfold rf_IP; first | (rw [if_pos (by omega)]; done) | (rw [if_neg (by omega)]; done)), rfl⟩

set_option maxHeartbeats 4000000 in
set_option maxRecDepth 100000 in
theorem r_pageOf1 (hrf : rf_ok wi ht z nl nt sy) {q o : Int} (b_q : -2147483648 ≤ q ∧ q < 2147483648) (b_o : -2147483648 ≤ o ∧ o < 2147483648) (hx : ¬ ((0 ≤ q ∧ q < z 0) ∧ 0 ≤ o ∧ o < z (85 + q).toNat)) : JR G (d + 9) mX8_pageOf [.ref 60, .int (jI q), .int (jI o)] (n, rf_f f th z kp ed nt nl wi ht sy sz bf rs rr rq rp mm ln lo lf lt co ro pg pf hsh) 0 0 (some (.int (jI 0))) (n, rf_f f 1 z kp ed nt nl wi ht sy sz bf rs rr rq rp mm ((rf_LL z nl nt sy wi lo lf lt).1) ((rf_LL z nl nt sy wi lo lf lt).2.1) ((rf_LL z nl nt sy wi lo lf lt).2.2.1) ((rf_LL z nl nt sy wi lo lf lt).2.2.2) wi ht ((rf_PG z nl nt sy wi ht (rf_LL z nl nt sy wi lo lf lt).1 (rf_LL z nl nt sy wi lo lf lt).2.1 (rf_LL z nl nt sy wi lo lf lt).2.2.1 (rf_LL z nl nt sy wi lo lf lt).2.2.2 pf).1) (va_up (rf_PG z nl nt sy wi ht (rf_LL z nl nt sy wi lo lf lt).1 (rf_LL z nl nt sy wi lo lf lt).2.1 (rf_LL z nl nt sy wi lo lf lt).2.2.1 (rf_LL z nl nt sy wi lo lf lt).2.2.2 pf).2 (rf_PG z nl nt sy wi ht (rf_LL z nl nt sy wi lo lf lt).1 (rf_LL z nl nt sy wi lo lf lt).2.1 (rf_LL z nl nt sy wi lo lf lt).2.2.1 (rf_LL z nl nt sy wi lo lf lt).2.2.2 pf).1.toNat (rf_LL z nl nt sy wi lo lf lt).1) hsh) := by
  obtain ⟨hz, hn, hk, hrc, ⟨hw9, hh9⟩, ⟨hm9, hj9⟩, hll⟩ := id hrf
  have zb := hz.2.1
  have hF := (hll wi lo lf lt (by omega)).2
  have hl1 := (hll wi lo lf lt (by omega)).1
  have hc9 : 0 ≤ wi ∧ wi ≤ 100 := by omega
  have hro : 0 ≤ ht ∧ ht ≤ 100 := by omega
  have hrl := rf_LL_ok hz hF
  have hpk := rf_PG_ok z nl nt sy wi ht (rf_LL z nl nt sy wi lo lf lt).2.1 (rf_LL z nl nt sy wi lo lf lt).2.2.1 (rf_LL z nl nt sy wi lo lf lt).2.2.2 pf (ln := (rf_LL z nl nt sy wi lo lf lt).1) (by omega)
  have hpp := hpk.pos (by omega)
  have hpl := hpk.1
  have wip := rf_IP_d z q o
  refine ji_ent (by decide) rfl (Nat.le_of_ble_eq_true rfl) rfl ?_
  refine ji_aload_n dX8_pageOf_0 rfl trivial ?_
  refine ji_aload_n dX8_pageOf_1 rfl trivial ?_
  refine ji_iload_n dX8_pageOf_2 rfl ?_
  refine ji_iload_n dX8_pageOf_3 rfl ?_
  refine ji_cV dX8_pageOf_4 (r_isPosition hz (by omega) (by omega)) rfl (rf_60) rfl rfl wX8_isPosition vX8_isPosition lX8_238 rfl (Nat.le_of_ble_eq_true rfl) rfl ?_
  refine ji_if_eq (tgt := 14) dX8_pageOf_7 rfl (by omega) (fun c7 => ?_) (fun c7 => ?_)
  · try (exfalso; omega)
    all_goals
      refine ji_iconst dX8_pageOf_14 ?_
      refine ji_putE (ci := 8) (k := 0) rfl dX8_pageOf_15 lX8_47 (by decide) (rf_60) (by simp [rf_c]) (ji_fitI _) rfl (rf_pth) ?_
      refine ji_aload_n dX8_pageOf_18 rfl trivial ?_
      refine ji_cVv dX8_pageOf_19 (r_layAll hz hn hk hrc (by omega) (by omega) hF) rfl (rf_60) rfl rfl wX8_layAll vX8_layAll lX8_189 rfl (Nat.le_of_ble_eq_true rfl) rfl ?_
      refine ji_aload_n dX8_pageOf_22 rfl trivial ?_
      refine ji_get (ci := 8) (k := 0) rfl dX8_pageOf_23 lX8_47 (by decide) (rf_60) rfl ?_
      refine ji_if_le (tgt := 33) dX8_pageOf_26 rfl (by omega) (fun c26 => ?_) (fun c26 => ?_)
      · try (exfalso; omega)
        all_goals
          refine ji_aload_n dX8_pageOf_33 rfl trivial ?_
          refine ji_iload_n dX8_pageOf_34 rfl ?_
          refine ji_iload_n dX8_pageOf_35 rfl ?_
          refine ji_cV dX8_pageOf_36 (r_pageWith hz hrl hpk hl1 (by omega) (by omega)) rfl (rf_60) rfl rfl wX8_pageWith vX8_pageWith lX8_186 rfl (Nat.le_of_ble_eq_true rfl) rfl ?_
          exact ji_ireturn dX8_pageOf_39 rfl (rfl) ⟨jr_i (by first | rfl | omega), rfl⟩
      · try (exfalso; omega)
        all_goals
          refine ji_iconst dX8_pageOf_29 ?_
          refine ji_goto (tgt := 39) dX8_pageOf_30 rfl ?_
          exact ji_ireturn dX8_pageOf_39 rfl (rfl) ⟨jr_i (by first | rfl | omega), rfl⟩
  · try (exfalso; omega)
    all_goals
      refine ji_iconst dX8_pageOf_10 ?_
      refine ji_goto (tgt := 15) dX8_pageOf_11 rfl ?_
      refine ji_putE (ci := 8) (k := 0) rfl dX8_pageOf_15 lX8_47 (by decide) (rf_60) (by simp [rf_c]) (ji_fitI _) rfl (rf_pth) ?_
      refine ji_aload_n dX8_pageOf_18 rfl trivial ?_
      refine ji_cVv dX8_pageOf_19 (r_layAll hz hn hk hrc (by omega) (by omega) hF) rfl (rf_60) rfl rfl wX8_layAll vX8_layAll lX8_189 rfl (Nat.le_of_ble_eq_true rfl) rfl ?_
      refine ji_aload_n dX8_pageOf_22 rfl trivial ?_
      refine ji_get (ci := 8) (k := 0) rfl dX8_pageOf_23 lX8_47 (by decide) (rf_60) rfl ?_
      refine ji_if_le (tgt := 33) dX8_pageOf_26 rfl (by omega) (fun c26 => ?_) (fun c26 => ?_)
      · try (exfalso; omega)
        all_goals
          refine ji_aload_n dX8_pageOf_33 rfl trivial ?_
          refine ji_iload_n dX8_pageOf_34 rfl ?_
          refine ji_iload_n dX8_pageOf_35 rfl ?_
          refine ji_cV dX8_pageOf_36 (r_pageWith hz hrl hpk hl1 (by omega) (by omega)) rfl (rf_60) rfl rfl wX8_pageWith vX8_pageWith lX8_186 rfl (Nat.le_of_ble_eq_true rfl) rfl ?_
          exact ji_ireturn dX8_pageOf_39 rfl (rfl) ⟨jr_i (by first | rfl | omega), rfl⟩
      · try (exfalso; omega)
        all_goals
          refine ji_iconst dX8_pageOf_29 ?_
          refine ji_goto (tgt := 39) dX8_pageOf_30 rfl ?_
          exact ji_ireturn dX8_pageOf_39 rfl (rfl) ⟨jr_i (by first | rfl | omega), rfl⟩

set_option maxHeartbeats 4000000 in
set_option maxRecDepth 100000 in
theorem r_pageOf (hrf : rf_ok wi ht z nl nt sy) {q o : Int} (hx : (0 ≤ q ∧ q < z 0) ∧ 0 ≤ o ∧ o < z (85 + q).toNat) : JR G (d + 9) mX8_pageOf [.ref 60, .int (jI q), .int (jI o)] (n, rf_f f th z kp ed nt nl wi ht sy sz bf rs rr rq rp mm ln lo lf lt co ro pg pf hsh) 0 0 (some (.int (jI (rf_PW ((rf_LL z nl nt sy wi lo lf lt).1) ((rf_LL z nl nt sy wi lo lf lt).2.1) ((rf_LL z nl nt sy wi lo lf lt).2.2.1) ((rf_PG z nl nt sy wi ht (rf_LL z nl nt sy wi lo lf lt).1 (rf_LL z nl nt sy wi lo lf lt).2.1 (rf_LL z nl nt sy wi lo lf lt).2.2.1 (rf_LL z nl nt sy wi lo lf lt).2.2.2 pf).1) (va_up (rf_PG z nl nt sy wi ht (rf_LL z nl nt sy wi lo lf lt).1 (rf_LL z nl nt sy wi lo lf lt).2.1 (rf_LL z nl nt sy wi lo lf lt).2.2.1 (rf_LL z nl nt sy wi lo lf lt).2.2.2 pf).2 (rf_PG z nl nt sy wi ht (rf_LL z nl nt sy wi lo lf lt).1 (rf_LL z nl nt sy wi lo lf lt).2.1 (rf_LL z nl nt sy wi lo lf lt).2.2.1 (rf_LL z nl nt sy wi lo lf lt).2.2.2 pf).1.toNat (rf_LL z nl nt sy wi lo lf lt).1) q o)))) (n, rf_f f 0 z kp ed nt nl wi ht sy sz bf rs rr rq rp mm ((rf_LL z nl nt sy wi lo lf lt).1) ((rf_LL z nl nt sy wi lo lf lt).2.1) ((rf_LL z nl nt sy wi lo lf lt).2.2.1) ((rf_LL z nl nt sy wi lo lf lt).2.2.2) wi ht ((rf_PG z nl nt sy wi ht (rf_LL z nl nt sy wi lo lf lt).1 (rf_LL z nl nt sy wi lo lf lt).2.1 (rf_LL z nl nt sy wi lo lf lt).2.2.1 (rf_LL z nl nt sy wi lo lf lt).2.2.2 pf).1) (va_up (rf_PG z nl nt sy wi ht (rf_LL z nl nt sy wi lo lf lt).1 (rf_LL z nl nt sy wi lo lf lt).2.1 (rf_LL z nl nt sy wi lo lf lt).2.2.1 (rf_LL z nl nt sy wi lo lf lt).2.2.2 pf).2 (rf_PG z nl nt sy wi ht (rf_LL z nl nt sy wi lo lf lt).1 (rf_LL z nl nt sy wi lo lf lt).2.1 (rf_LL z nl nt sy wi lo lf lt).2.2.1 (rf_LL z nl nt sy wi lo lf lt).2.2.2 pf).1.toNat (rf_LL z nl nt sy wi lo lf lt).1) hsh) := by
  obtain ⟨hz, hn, hk, hrc, ⟨hw9, hh9⟩, ⟨hm9, hj9⟩, hll⟩ := id hrf
  have zb := hz.2.1
  have hF := (hll wi lo lf lt (by omega)).2
  have hl1 := (hll wi lo lf lt (by omega)).1
  have hc9 : 0 ≤ wi ∧ wi ≤ 100 := by omega
  have hro : 0 ≤ ht ∧ ht ≤ 100 := by omega
  have hrl := rf_LL_ok hz hF
  have hpk := rf_PG_ok z nl nt sy wi ht (rf_LL z nl nt sy wi lo lf lt).2.1 (rf_LL z nl nt sy wi lo lf lt).2.2.1 (rf_LL z nl nt sy wi lo lf lt).2.2.2 pf (ln := (rf_LL z nl nt sy wi lo lf lt).1) (by omega)
  have hpp := hpk.pos (by omega)
  have hpl := hpk.1
  have wip := rf_IP_d z q o
  have zq := hz.2.2.1 (85 + q).toNat (by omega) (by omega)
  refine ji_ent (by decide) rfl (Nat.le_of_ble_eq_true rfl) rfl ?_
  refine ji_aload_n dX8_pageOf_0 rfl trivial ?_
  refine ji_aload_n dX8_pageOf_1 rfl trivial ?_
  refine ji_iload_n dX8_pageOf_2 rfl ?_
  refine ji_iload_n dX8_pageOf_3 rfl ?_
  refine ji_cV dX8_pageOf_4 (r_isPosition hz (by omega) (by omega)) rfl (rf_60) rfl rfl wX8_isPosition vX8_isPosition lX8_238 rfl (Nat.le_of_ble_eq_true rfl) rfl ?_
  refine ji_if_eq (tgt := 14) dX8_pageOf_7 rfl (by omega) (fun c7 => ?_) (fun c7 => ?_)
  · try (exfalso; omega)
    all_goals
      refine ji_iconst dX8_pageOf_14 ?_
      refine ji_putE (ci := 8) (k := 0) rfl dX8_pageOf_15 lX8_47 (by decide) (rf_60) (by simp [rf_c]) (ji_fitI _) rfl (rf_pth) ?_
      refine ji_aload_n dX8_pageOf_18 rfl trivial ?_
      refine ji_cVv dX8_pageOf_19 (r_layAll hz hn hk hrc (by omega) (by omega) hF) rfl (rf_60) rfl rfl wX8_layAll vX8_layAll lX8_189 rfl (Nat.le_of_ble_eq_true rfl) rfl ?_
      refine ji_aload_n dX8_pageOf_22 rfl trivial ?_
      refine ji_get (ci := 8) (k := 0) rfl dX8_pageOf_23 lX8_47 (by decide) (rf_60) rfl ?_
      refine ji_if_le (tgt := 33) dX8_pageOf_26 rfl (by omega) (fun c26 => ?_) (fun c26 => ?_)
      · try (exfalso; omega)
        all_goals
          refine ji_aload_n dX8_pageOf_33 rfl trivial ?_
          refine ji_iload_n dX8_pageOf_34 rfl ?_
          refine ji_iload_n dX8_pageOf_35 rfl ?_
          refine ji_cV dX8_pageOf_36 (r_pageWith hz hrl hpk hl1 (by omega) (by omega)) rfl (rf_60) rfl rfl wX8_pageWith vX8_pageWith lX8_186 rfl (Nat.le_of_ble_eq_true rfl) rfl ?_
          exact ji_ireturn dX8_pageOf_39 rfl (rfl) ⟨rfl, rfl⟩
      · try (exfalso; omega)
        all_goals
          refine ji_iconst dX8_pageOf_29 ?_
          refine ji_goto (tgt := 39) dX8_pageOf_30 rfl ?_
          exact ji_ireturn dX8_pageOf_39 rfl (rfl) ⟨rfl, rfl⟩
  · try (exfalso; omega)
    all_goals
      refine ji_iconst dX8_pageOf_10 ?_
      refine ji_goto (tgt := 15) dX8_pageOf_11 rfl ?_
      refine ji_putE (ci := 8) (k := 0) rfl dX8_pageOf_15 lX8_47 (by decide) (rf_60) (by simp [rf_c]) (ji_fitI _) rfl (rf_pth) ?_
      refine ji_aload_n dX8_pageOf_18 rfl trivial ?_
      refine ji_cVv dX8_pageOf_19 (r_layAll hz hn hk hrc (by omega) (by omega) hF) rfl (rf_60) rfl rfl wX8_layAll vX8_layAll lX8_189 rfl (Nat.le_of_ble_eq_true rfl) rfl ?_
      refine ji_aload_n dX8_pageOf_22 rfl trivial ?_
      refine ji_get (ci := 8) (k := 0) rfl dX8_pageOf_23 lX8_47 (by decide) (rf_60) rfl ?_
      refine ji_if_le (tgt := 33) dX8_pageOf_26 rfl (by omega) (fun c26 => ?_) (fun c26 => ?_)
      · try (exfalso; omega)
        all_goals
          refine ji_aload_n dX8_pageOf_33 rfl trivial ?_
          refine ji_iload_n dX8_pageOf_34 rfl ?_
          refine ji_iload_n dX8_pageOf_35 rfl ?_
          refine ji_cV dX8_pageOf_36 (r_pageWith hz hrl hpk hl1 (by omega) (by omega)) rfl (rf_60) rfl rfl wX8_pageWith vX8_pageWith lX8_186 rfl (Nat.le_of_ble_eq_true rfl) rfl ?_
          exact ji_ireturn dX8_pageOf_39 rfl (rfl) ⟨rfl, rfl⟩
      · try (exfalso; omega)
        all_goals
          refine ji_iconst dX8_pageOf_29 ?_
          refine ji_goto (tgt := 39) dX8_pageOf_30 rfl ?_
          exact ji_ireturn dX8_pageOf_39 rfl (rfl) ⟨rfl, rfl⟩

set_option maxHeartbeats 4000000 in
set_option maxRecDepth 100000 in
theorem r_backwards_l {bc bs : Nat} {l R : Int} (hz : rz_ok z) (hn : nl_ok nl nt) (hk : rk_ok z sy) (hc9 : 0 ≤ co ∧ co ≤ 100) (hrl : rl_ok z ln lo lf lt) (hrc : rc_ok z) (hro : 0 ≤ ro ∧ ro ≤ 100) (hl : 0 ≤ l ∧ l < ln) : ∀ (u : Nat) (x : Int), 0 ≤ x ∧ x + u = l → R = rf_bw z nl nt sy co ro ln lo lf lt l u x →
    JW G (d + 7) mX8_backwards 2 [some (.ref 60), some (.int (jI l)), some (.int (jI x))] [] (n, rf_f f th z kp ed nt nl wi ht sy sz bf rs rr rq rp mm ln lo lf lt co ro pg pf hsh) bc bs (fun r9 h9 => r9 = .inl (some (.int (jI R))) ∧ h9 = (n, rf_f f th z kp ed nt nl wi ht sy sz bf rs rr rq rp mm ln lo lf lt co ro pg pf hsh)) := by
  obtain ⟨r1, r2⟩ := id hrl
  intro u
  induction u with
  | zero =>
    intro x hx hR
    refine ji_iload_n dX8_backwards_2 rfl ?_
    refine ji_iload_n dX8_backwards_3 rfl ?_
    refine ji_icmp_ge (tgt := 24) dX8_backwards_4 rfl (by omega) (by omega) (fun c4 => ?_) (fun c4 => absurd c4 (by omega))
    refine ji_iconst dX8_backwards_24 ?_
    exact ji_ireturn dX8_backwards_25 rfl (rfl) ⟨jr_i (by rw [hR]; rfl), rfl⟩
  | succ u ih =>
    intro x hx hR
    have wb := rf_BO_b z nl nt sy co ro ln lo lf lt (x := x) (by omega)
    refine ji_iload_n dX8_backwards_2 rfl ?_
    refine ji_iload_n dX8_backwards_3 rfl ?_
    refine ji_icmp_ge (tgt := 24) dX8_backwards_4 rfl (by omega) (by omega) (fun c4 => absurd c4 (by omega)) (fun c4 => ?_)
    refine ji_aload_n dX8_backwards_7 rfl trivial ?_
    refine ji_iload_n dX8_backwards_8 rfl ?_
    refine ji_cV dX8_backwards_9 (r_breakOf hz hn hk hc9 hrl hrc hro (by omega)) rfl (rf_60) rfl rfl wX8_breakOf vX8_breakOf lX8_173 rfl (Nat.le_of_ble_eq_true rfl) rfl ?_
    refine ji_iload_n dX8_backwards_12 rfl ?_
    refine ji_icmp_ne (tgt := 18) dX8_backwards_13 rfl (by omega) (by omega) (fun c13 => ?_) (fun c13 => ?_)
    · try (exfalso; omega)
      all_goals
        refine ji_iinc dX8_backwards_18 (by decide) rfl rfl ?_
        refine ji_goto (tgt := 2) dX8_backwards_21 rfl ?_
        exact ih _ (by omega) (by rw [hR, rf_bw, if_neg (by omega)])
    · try (exfalso; omega)
      all_goals
        refine ji_iload_n dX8_backwards_16 rfl ?_
        exact ji_ireturn dX8_backwards_17 rfl (rfl) ⟨jr_i (by rw [hR, rf_bw, if_pos (by omega)]), rfl⟩

set_option maxHeartbeats 4000000 in
set_option maxRecDepth 100000 in
theorem r_backwards {l : Int} (hz : rz_ok z) (hn : nl_ok nl nt) (hk : rk_ok z sy) (hc9 : 0 ≤ co ∧ co ≤ 100) (hrl : rl_ok z ln lo lf lt) (hrc : rc_ok z) (hro : 0 ≤ ro ∧ ro ≤ 100) (hl : 0 ≤ l ∧ l < ln) : JR G (d + 7) mX8_backwards [.ref 60, .int (jI l)] (n, rf_f f th z kp ed nt nl wi ht sy sz bf rs rr rq rp mm ln lo lf lt co ro pg pf hsh) 0 0 (some (.int (jI (rf_BW z nl nt sy co ro ln lo lf lt l)))) (n, rf_f f th z kp ed nt nl wi ht sy sz bf rs rr rq rp mm ln lo lf lt co ro pg pf hsh) := by
  refine ji_ent (by decide) rfl (Nat.le_of_ble_eq_true rfl) rfl ?_
  refine ji_iconst dX8_backwards_0 ?_
  refine ji_istore_n dX8_backwards_1 (by decide) rfl ?_
  exact r_backwards_l hz hn hk hc9 hrl hrc hro hl l.toNat 0 (by omega) rfl

set_option maxHeartbeats 4000000 in
set_option maxRecDepth 100000 in
theorem r_floating1 (hrf : rf_ok wi ht z nl nt sy) {q : Int} (b_q : -2147483648 ≤ q ∧ q < 2147483648) {b : Int} (hx : q < 0 ∨ (rf_LL z nl nt sy wi lo lf lt).1 ≤ q) : JR G (d + 10) mX8_floating [.ref 60, .int (jI q), .int (jI b)] (n, rf_f f th z kp ed nt nl wi ht sy sz bf rs rr rq rp mm ln lo lf lt co ro pg pf hsh) 0 0 (some (.int (jI 0))) (n, rf_f f 1 z kp ed nt nl wi ht sy sz bf rs rr rq rp mm ((rf_LL z nl nt sy wi lo lf lt).1) ((rf_LL z nl nt sy wi lo lf lt).2.1) ((rf_LL z nl nt sy wi lo lf lt).2.2.1) ((rf_LL z nl nt sy wi lo lf lt).2.2.2) wi ht ((rf_PG z nl nt sy wi ht (rf_LL z nl nt sy wi lo lf lt).1 (rf_LL z nl nt sy wi lo lf lt).2.1 (rf_LL z nl nt sy wi lo lf lt).2.2.1 (rf_LL z nl nt sy wi lo lf lt).2.2.2 pf).1) (va_up (rf_PG z nl nt sy wi ht (rf_LL z nl nt sy wi lo lf lt).1 (rf_LL z nl nt sy wi lo lf lt).2.1 (rf_LL z nl nt sy wi lo lf lt).2.2.1 (rf_LL z nl nt sy wi lo lf lt).2.2.2 pf).2 (rf_PG z nl nt sy wi ht (rf_LL z nl nt sy wi lo lf lt).1 (rf_LL z nl nt sy wi lo lf lt).2.1 (rf_LL z nl nt sy wi lo lf lt).2.2.1 (rf_LL z nl nt sy wi lo lf lt).2.2.2 pf).1.toNat (rf_LL z nl nt sy wi lo lf lt).1) hsh) := by
  obtain ⟨hz, hn, hk, hrc, ⟨hw9, hh9⟩, ⟨hm9, hj9⟩, hll⟩ := id hrf
  have zb := hz.2.1
  have hF := (hll wi lo lf lt (by omega)).2
  have hl1 := (hll wi lo lf lt (by omega)).1
  have hc9 : 0 ≤ wi ∧ wi ≤ 100 := by omega
  have hro : 0 ≤ ht ∧ ht ≤ 100 := by omega
  have hrl := rf_LL_ok hz hF
  have hpk := rf_PG_ok z nl nt sy wi ht (rf_LL z nl nt sy wi lo lf lt).2.1 (rf_LL z nl nt sy wi lo lf lt).2.2.1 (rf_LL z nl nt sy wi lo lf lt).2.2.2 pf (ln := (rf_LL z nl nt sy wi lo lf lt).1) (by omega)
  have hpp := hpk.pos (by omega)
  have hpl := hpk.1
  have wp := rf_in_d q 0 ((rf_LL z nl nt sy wi lo lf lt).1 - 1)
  refine ji_ent (by decide) rfl (Nat.le_of_ble_eq_true rfl) rfl ?_
  refine ji_aload_n dX8_floating_0 rfl trivial ?_
  refine ji_aload_n dX8_floating_1 rfl trivial ?_
  refine ji_iload_n dX8_floating_2 rfl ?_
  refine ji_cV dX8_floating_3 (r_isLine hrf (by omega)) rfl (rf_60) rfl rfl wX8_isLine vX8_isLine lX8_220 rfl (Nat.le_of_ble_eq_true rfl) rfl ?_
  refine ji_if_eq (tgt := 13) dX8_floating_6 rfl (by omega) (fun c6 => ?_) (fun c6 => ?_)
  · try (exfalso; omega)
    all_goals
      refine ji_iconst dX8_floating_13 ?_
      refine ji_putE (ci := 8) (k := 0) rfl dX8_floating_14 lX8_47 (by decide) (rf_60) (by simp [rf_c]) (ji_fitI _) rfl (rf_pth) ?_
      refine ji_aload_n dX8_floating_17 rfl trivial ?_
      refine ji_get (ci := 8) (k := 0) rfl dX8_floating_18 lX8_47 (by decide) (rf_60) rfl ?_
      refine ji_if_le (tgt := 28) dX8_floating_21 rfl (by omega) (fun c21 => ?_) (fun c21 => ?_)
      · try (exfalso; omega)
        all_goals
          refine ji_iload_n dX8_floating_28 rfl ?_
          refine ji_if_eq (tgt := 40) dX8_floating_29 rfl (by omega) (fun c29 => ?_) (fun c29 => ?_)
          · try (exfalso; omega)
            all_goals
              refine ji_aload_n dX8_floating_40 rfl trivial ?_
              refine ji_iload_n dX8_floating_41 rfl ?_
              exfalso; omega
          · try (exfalso; omega)
            all_goals
              refine ji_aload_n dX8_floating_32 rfl trivial ?_
              refine ji_iload_n dX8_floating_33 rfl ?_
              exfalso; omega
      · try (exfalso; omega)
        all_goals
          refine ji_iconst dX8_floating_24 ?_
          refine ji_goto (tgt := 45) dX8_floating_25 rfl ?_
          exact ji_ireturn dX8_floating_45 rfl (rfl) ⟨jr_i (by first | rfl | omega), rfl⟩
  · try (exfalso; omega)
    all_goals
      refine ji_iconst dX8_floating_9 ?_
      refine ji_goto (tgt := 14) dX8_floating_10 rfl ?_
      refine ji_putE (ci := 8) (k := 0) rfl dX8_floating_14 lX8_47 (by decide) (rf_60) (by simp [rf_c]) (ji_fitI _) rfl (rf_pth) ?_
      refine ji_aload_n dX8_floating_17 rfl trivial ?_
      refine ji_get (ci := 8) (k := 0) rfl dX8_floating_18 lX8_47 (by decide) (rf_60) rfl ?_
      refine ji_if_le (tgt := 28) dX8_floating_21 rfl (by omega) (fun c21 => ?_) (fun c21 => ?_)
      · try (exfalso; omega)
        all_goals
          refine ji_iload_n dX8_floating_28 rfl ?_
          refine ji_if_eq (tgt := 40) dX8_floating_29 rfl (by omega) (fun c29 => ?_) (fun c29 => ?_)
          · try (exfalso; omega)
            all_goals
              refine ji_aload_n dX8_floating_40 rfl trivial ?_
              refine ji_iload_n dX8_floating_41 rfl ?_
              exfalso; omega
          · try (exfalso; omega)
            all_goals
              refine ji_aload_n dX8_floating_32 rfl trivial ?_
              refine ji_iload_n dX8_floating_33 rfl ?_
              exfalso; omega
      · try (exfalso; omega)
        all_goals
          refine ji_iconst dX8_floating_24 ?_
          refine ji_goto (tgt := 45) dX8_floating_25 rfl ?_
          exact ji_ireturn dX8_floating_45 rfl (rfl) ⟨jr_i (by first | rfl | omega), rfl⟩

set_option maxHeartbeats 4000000 in
set_option maxRecDepth 100000 in
theorem r_floatingF (hrf : rf_ok wi ht z nl nt sy) {q : Int} (hq : 0 ≤ q ∧ q < (rf_LL z nl nt sy wi lo lf lt).1) : JR G (d + 10) mX8_floating [.ref 60, .int (jI q), .int (jI 1)] (n, rf_f f th z kp ed nt nl wi ht sy sz bf rs rr rq rp mm ln lo lf lt co ro pg pf hsh) 0 0 (some (.int (jI (rf_BO z nl nt sy wi ht ((rf_LL z nl nt sy wi lo lf lt).1) ((rf_LL z nl nt sy wi lo lf lt).2.1) ((rf_LL z nl nt sy wi lo lf lt).2.2.1) ((rf_LL z nl nt sy wi lo lf lt).2.2.2) q)))) (n, rf_f f 0 z kp ed nt nl wi ht sy sz bf rs rr rq rp mm ((rf_LL z nl nt sy wi lo lf lt).1) ((rf_LL z nl nt sy wi lo lf lt).2.1) ((rf_LL z nl nt sy wi lo lf lt).2.2.1) ((rf_LL z nl nt sy wi lo lf lt).2.2.2) wi ht ((rf_PG z nl nt sy wi ht (rf_LL z nl nt sy wi lo lf lt).1 (rf_LL z nl nt sy wi lo lf lt).2.1 (rf_LL z nl nt sy wi lo lf lt).2.2.1 (rf_LL z nl nt sy wi lo lf lt).2.2.2 pf).1) (va_up (rf_PG z nl nt sy wi ht (rf_LL z nl nt sy wi lo lf lt).1 (rf_LL z nl nt sy wi lo lf lt).2.1 (rf_LL z nl nt sy wi lo lf lt).2.2.1 (rf_LL z nl nt sy wi lo lf lt).2.2.2 pf).2 (rf_PG z nl nt sy wi ht (rf_LL z nl nt sy wi lo lf lt).1 (rf_LL z nl nt sy wi lo lf lt).2.1 (rf_LL z nl nt sy wi lo lf lt).2.2.1 (rf_LL z nl nt sy wi lo lf lt).2.2.2 pf).1.toNat (rf_LL z nl nt sy wi lo lf lt).1) hsh) := by
  obtain ⟨hz, hn, hk, hrc, ⟨hw9, hh9⟩, ⟨hm9, hj9⟩, hll⟩ := id hrf
  have zb := hz.2.1
  have hF := (hll wi lo lf lt (by omega)).2
  have hl1 := (hll wi lo lf lt (by omega)).1
  have hc9 : 0 ≤ wi ∧ wi ≤ 100 := by omega
  have hro : 0 ≤ ht ∧ ht ≤ 100 := by omega
  have hrl := rf_LL_ok hz hF
  have hpk := rf_PG_ok z nl nt sy wi ht (rf_LL z nl nt sy wi lo lf lt).2.1 (rf_LL z nl nt sy wi lo lf lt).2.2.1 (rf_LL z nl nt sy wi lo lf lt).2.2.2 pf (ln := (rf_LL z nl nt sy wi lo lf lt).1) (by omega)
  have hpp := hpk.pos (by omega)
  have hpl := hpk.1
  have wp := rf_in_d q 0 ((rf_LL z nl nt sy wi lo lf lt).1 - 1)
  refine ji_ent (by decide) rfl (Nat.le_of_ble_eq_true rfl) rfl ?_
  refine ji_aload_n dX8_floating_0 rfl trivial ?_
  refine ji_aload_n dX8_floating_1 rfl trivial ?_
  refine ji_iload_n dX8_floating_2 rfl ?_
  refine ji_cV dX8_floating_3 (r_isLine hrf (by omega)) rfl (rf_60) rfl rfl wX8_isLine vX8_isLine lX8_220 rfl (Nat.le_of_ble_eq_true rfl) rfl ?_
  refine ji_if_eq (tgt := 13) dX8_floating_6 rfl (by omega) (fun c6 => ?_) (fun c6 => ?_)
  · try (exfalso; omega)
    all_goals
      refine ji_iconst dX8_floating_13 ?_
      refine ji_putE (ci := 8) (k := 0) rfl dX8_floating_14 lX8_47 (by decide) (rf_60) (by simp [rf_c]) (ji_fitI _) rfl (rf_pth) ?_
      refine ji_aload_n dX8_floating_17 rfl trivial ?_
      refine ji_get (ci := 8) (k := 0) rfl dX8_floating_18 lX8_47 (by decide) (rf_60) rfl ?_
      refine ji_if_le (tgt := 28) dX8_floating_21 rfl (by omega) (fun c21 => ?_) (fun c21 => ?_)
      · try (exfalso; omega)
        all_goals
          refine ji_iload_n dX8_floating_28 rfl ?_
          refine ji_if_eq (tgt := 40) dX8_floating_29 rfl (by omega) (fun c29 => ?_) (fun c29 => ?_)
          · try (exfalso; omega)
            all_goals
              refine ji_aload_n dX8_floating_40 rfl trivial ?_
              refine ji_iload_n dX8_floating_41 rfl ?_
              refine ji_cV dX8_floating_42 (r_backwards hz hn hk hc9 hrl hrc hro (by omega)) rfl (rf_60) rfl rfl wX8_backwards vX8_backwards lX8_241 rfl (Nat.le_of_ble_eq_true rfl) rfl ?_
              exact ji_ireturn dX8_floating_45 rfl (rfl) ⟨rfl, rfl⟩
          · try (exfalso; omega)
            all_goals
              refine ji_aload_n dX8_floating_32 rfl trivial ?_
              refine ji_iload_n dX8_floating_33 rfl ?_
              refine ji_cV dX8_floating_34 (r_breakOf hz hn hk hc9 hrl hrc hro (by omega)) rfl (rf_60) rfl rfl wX8_breakOf vX8_breakOf lX8_173 rfl (Nat.le_of_ble_eq_true rfl) rfl ?_
              refine ji_goto (tgt := 45) dX8_floating_37 rfl ?_
              exact ji_ireturn dX8_floating_45 rfl (rfl) ⟨rfl, rfl⟩
      · try (exfalso; omega)
        all_goals
          refine ji_iconst dX8_floating_24 ?_
          refine ji_goto (tgt := 45) dX8_floating_25 rfl ?_
          exact ji_ireturn dX8_floating_45 rfl (rfl) ⟨rfl, rfl⟩
  · try (exfalso; omega)
    all_goals
      refine ji_iconst dX8_floating_9 ?_
      refine ji_goto (tgt := 14) dX8_floating_10 rfl ?_
      refine ji_putE (ci := 8) (k := 0) rfl dX8_floating_14 lX8_47 (by decide) (rf_60) (by simp [rf_c]) (ji_fitI _) rfl (rf_pth) ?_
      refine ji_aload_n dX8_floating_17 rfl trivial ?_
      refine ji_get (ci := 8) (k := 0) rfl dX8_floating_18 lX8_47 (by decide) (rf_60) rfl ?_
      refine ji_if_le (tgt := 28) dX8_floating_21 rfl (by omega) (fun c21 => ?_) (fun c21 => ?_)
      · try (exfalso; omega)
        all_goals
          refine ji_iload_n dX8_floating_28 rfl ?_
          refine ji_if_eq (tgt := 40) dX8_floating_29 rfl (by omega) (fun c29 => ?_) (fun c29 => ?_)
          · try (exfalso; omega)
            all_goals
              refine ji_aload_n dX8_floating_40 rfl trivial ?_
              refine ji_iload_n dX8_floating_41 rfl ?_
              refine ji_cV dX8_floating_42 (r_backwards hz hn hk hc9 hrl hrc hro (by omega)) rfl (rf_60) rfl rfl wX8_backwards vX8_backwards lX8_241 rfl (Nat.le_of_ble_eq_true rfl) rfl ?_
              exact ji_ireturn dX8_floating_45 rfl (rfl) ⟨rfl, rfl⟩
          · try (exfalso; omega)
            all_goals
              refine ji_aload_n dX8_floating_32 rfl trivial ?_
              refine ji_iload_n dX8_floating_33 rfl ?_
              refine ji_cV dX8_floating_34 (r_breakOf hz hn hk hc9 hrl hrc hro (by omega)) rfl (rf_60) rfl rfl wX8_breakOf vX8_breakOf lX8_173 rfl (Nat.le_of_ble_eq_true rfl) rfl ?_
              refine ji_goto (tgt := 45) dX8_floating_37 rfl ?_
              exact ji_ireturn dX8_floating_45 rfl (rfl) ⟨rfl, rfl⟩
      · try (exfalso; omega)
        all_goals
          refine ji_iconst dX8_floating_24 ?_
          refine ji_goto (tgt := 45) dX8_floating_25 rfl ?_
          exact ji_ireturn dX8_floating_45 rfl (rfl) ⟨rfl, rfl⟩

set_option maxHeartbeats 4000000 in
set_option maxRecDepth 100000 in
theorem r_floatingB (hrf : rf_ok wi ht z nl nt sy) {q : Int} (hq : 0 ≤ q ∧ q < (rf_LL z nl nt sy wi lo lf lt).1) : JR G (d + 10) mX8_floating [.ref 60, .int (jI q), .int (jI 0)] (n, rf_f f th z kp ed nt nl wi ht sy sz bf rs rr rq rp mm ln lo lf lt co ro pg pf hsh) 0 0 (some (.int (jI (rf_BW z nl nt sy wi ht ((rf_LL z nl nt sy wi lo lf lt).1) ((rf_LL z nl nt sy wi lo lf lt).2.1) ((rf_LL z nl nt sy wi lo lf lt).2.2.1) ((rf_LL z nl nt sy wi lo lf lt).2.2.2) q)))) (n, rf_f f 0 z kp ed nt nl wi ht sy sz bf rs rr rq rp mm ((rf_LL z nl nt sy wi lo lf lt).1) ((rf_LL z nl nt sy wi lo lf lt).2.1) ((rf_LL z nl nt sy wi lo lf lt).2.2.1) ((rf_LL z nl nt sy wi lo lf lt).2.2.2) wi ht ((rf_PG z nl nt sy wi ht (rf_LL z nl nt sy wi lo lf lt).1 (rf_LL z nl nt sy wi lo lf lt).2.1 (rf_LL z nl nt sy wi lo lf lt).2.2.1 (rf_LL z nl nt sy wi lo lf lt).2.2.2 pf).1) (va_up (rf_PG z nl nt sy wi ht (rf_LL z nl nt sy wi lo lf lt).1 (rf_LL z nl nt sy wi lo lf lt).2.1 (rf_LL z nl nt sy wi lo lf lt).2.2.1 (rf_LL z nl nt sy wi lo lf lt).2.2.2 pf).2 (rf_PG z nl nt sy wi ht (rf_LL z nl nt sy wi lo lf lt).1 (rf_LL z nl nt sy wi lo lf lt).2.1 (rf_LL z nl nt sy wi lo lf lt).2.2.1 (rf_LL z nl nt sy wi lo lf lt).2.2.2 pf).1.toNat (rf_LL z nl nt sy wi lo lf lt).1) hsh) := by
  obtain ⟨hz, hn, hk, hrc, ⟨hw9, hh9⟩, ⟨hm9, hj9⟩, hll⟩ := id hrf
  have zb := hz.2.1
  have hF := (hll wi lo lf lt (by omega)).2
  have hl1 := (hll wi lo lf lt (by omega)).1
  have hc9 : 0 ≤ wi ∧ wi ≤ 100 := by omega
  have hro : 0 ≤ ht ∧ ht ≤ 100 := by omega
  have hrl := rf_LL_ok hz hF
  have hpk := rf_PG_ok z nl nt sy wi ht (rf_LL z nl nt sy wi lo lf lt).2.1 (rf_LL z nl nt sy wi lo lf lt).2.2.1 (rf_LL z nl nt sy wi lo lf lt).2.2.2 pf (ln := (rf_LL z nl nt sy wi lo lf lt).1) (by omega)
  have hpp := hpk.pos (by omega)
  have hpl := hpk.1
  have wp := rf_in_d q 0 ((rf_LL z nl nt sy wi lo lf lt).1 - 1)
  refine ji_ent (by decide) rfl (Nat.le_of_ble_eq_true rfl) rfl ?_
  refine ji_aload_n dX8_floating_0 rfl trivial ?_
  refine ji_aload_n dX8_floating_1 rfl trivial ?_
  refine ji_iload_n dX8_floating_2 rfl ?_
  refine ji_cV dX8_floating_3 (r_isLine hrf (by omega)) rfl (rf_60) rfl rfl wX8_isLine vX8_isLine lX8_220 rfl (Nat.le_of_ble_eq_true rfl) rfl ?_
  refine ji_if_eq (tgt := 13) dX8_floating_6 rfl (by omega) (fun c6 => ?_) (fun c6 => ?_)
  · try (exfalso; omega)
    all_goals
      refine ji_iconst dX8_floating_13 ?_
      refine ji_putE (ci := 8) (k := 0) rfl dX8_floating_14 lX8_47 (by decide) (rf_60) (by simp [rf_c]) (ji_fitI _) rfl (rf_pth) ?_
      refine ji_aload_n dX8_floating_17 rfl trivial ?_
      refine ji_get (ci := 8) (k := 0) rfl dX8_floating_18 lX8_47 (by decide) (rf_60) rfl ?_
      refine ji_if_le (tgt := 28) dX8_floating_21 rfl (by omega) (fun c21 => ?_) (fun c21 => ?_)
      · try (exfalso; omega)
        all_goals
          refine ji_iload_n dX8_floating_28 rfl ?_
          refine ji_if_eq (tgt := 40) dX8_floating_29 rfl (by omega) (fun c29 => ?_) (fun c29 => ?_)
          · try (exfalso; omega)
            all_goals
              refine ji_aload_n dX8_floating_40 rfl trivial ?_
              refine ji_iload_n dX8_floating_41 rfl ?_
              refine ji_cV dX8_floating_42 (r_backwards hz hn hk hc9 hrl hrc hro (by omega)) rfl (rf_60) rfl rfl wX8_backwards vX8_backwards lX8_241 rfl (Nat.le_of_ble_eq_true rfl) rfl ?_
              exact ji_ireturn dX8_floating_45 rfl (rfl) ⟨rfl, rfl⟩
          · try (exfalso; omega)
            all_goals
              refine ji_aload_n dX8_floating_32 rfl trivial ?_
              refine ji_iload_n dX8_floating_33 rfl ?_
              refine ji_cV dX8_floating_34 (r_breakOf hz hn hk hc9 hrl hrc hro (by omega)) rfl (rf_60) rfl rfl wX8_breakOf vX8_breakOf lX8_173 rfl (Nat.le_of_ble_eq_true rfl) rfl ?_
              refine ji_goto (tgt := 45) dX8_floating_37 rfl ?_
              exact ji_ireturn dX8_floating_45 rfl (rfl) ⟨rfl, rfl⟩
      · try (exfalso; omega)
        all_goals
          refine ji_iconst dX8_floating_24 ?_
          refine ji_goto (tgt := 45) dX8_floating_25 rfl ?_
          exact ji_ireturn dX8_floating_45 rfl (rfl) ⟨rfl, rfl⟩
  · try (exfalso; omega)
    all_goals
      refine ji_iconst dX8_floating_9 ?_
      refine ji_goto (tgt := 14) dX8_floating_10 rfl ?_
      refine ji_putE (ci := 8) (k := 0) rfl dX8_floating_14 lX8_47 (by decide) (rf_60) (by simp [rf_c]) (ji_fitI _) rfl (rf_pth) ?_
      refine ji_aload_n dX8_floating_17 rfl trivial ?_
      refine ji_get (ci := 8) (k := 0) rfl dX8_floating_18 lX8_47 (by decide) (rf_60) rfl ?_
      refine ji_if_le (tgt := 28) dX8_floating_21 rfl (by omega) (fun c21 => ?_) (fun c21 => ?_)
      · try (exfalso; omega)
        all_goals
          refine ji_iload_n dX8_floating_28 rfl ?_
          refine ji_if_eq (tgt := 40) dX8_floating_29 rfl (by omega) (fun c29 => ?_) (fun c29 => ?_)
          · try (exfalso; omega)
            all_goals
              refine ji_aload_n dX8_floating_40 rfl trivial ?_
              refine ji_iload_n dX8_floating_41 rfl ?_
              refine ji_cV dX8_floating_42 (r_backwards hz hn hk hc9 hrl hrc hro (by omega)) rfl (rf_60) rfl rfl wX8_backwards vX8_backwards lX8_241 rfl (Nat.le_of_ble_eq_true rfl) rfl ?_
              exact ji_ireturn dX8_floating_45 rfl (rfl) ⟨rfl, rfl⟩
          · try (exfalso; omega)
            all_goals
              refine ji_aload_n dX8_floating_32 rfl trivial ?_
              refine ji_iload_n dX8_floating_33 rfl ?_
              refine ji_cV dX8_floating_34 (r_breakOf hz hn hk hc9 hrl hrc hro (by omega)) rfl (rf_60) rfl rfl wX8_breakOf vX8_breakOf lX8_173 rfl (Nat.le_of_ble_eq_true rfl) rfl ?_
              refine ji_goto (tgt := 45) dX8_floating_37 rfl ?_
              exact ji_ireturn dX8_floating_45 rfl (rfl) ⟨rfl, rfl⟩
      · try (exfalso; omega)
        all_goals
          refine ji_iconst dX8_floating_24 ?_
          refine ji_goto (tgt := 45) dX8_floating_25 rfl ?_
          exact ji_ireturn dX8_floating_45 rfl (rfl) ⟨rfl, rfl⟩

end RF
