/-! ===== the reference: reading ===== -/
def rf_in (v lo hi : Int) : Int := if lo ≤ v ∧ v ≤ hi then 1 else 0
theorem rf_in_d (v lo hi : Int) : (rf_in v lo hi = 1 ∧ lo ≤ v ∧ v ≤ hi) ∨ (rf_in v lo hi = 0 ∧ ¬ (lo ≤ v ∧ v ≤ hi)) := by unfold rf_in; split <;> omega
def rf_wo (rs rr : Int) : Int := if 0 < rs ∧ ¬ rr = 1 then 1 else 0
theorem rf_wo_d (rs rr : Int) : (rf_wo rs rr = 1 ∧ 0 < rs ∧ ¬ rr = 1) ∨ (rf_wo rs rr = 0 ∧ ¬ (0 < rs ∧ ¬ rr = 1)) := by unfold rf_wo; split <;> omega
theorem sy_sign_d (c : Int) : sy_sign c = 0 ∨ sy_sign c = 1 := by unfold sy_sign; split <;> omega
theorem ji_narB {x : Int} (h : x = 0 ∨ x = 1) : narrow .boolean (.int (jI x)) = .int (jI x) := by rcases h with rfl | rfl <;> decide
/-- readSigns, readRef, readWords, readParagraphs, mayMark -/
abbrev rf_S : Type := Int × Int × Int × Int × Int
def rf_tp (rs rr rq rp mm c : Int) : Int × rf_S :=
  if rr = 1 then (if 48 ≤ c ∧ c ≤ 57 then (1, rs, 2, rq, rp, mm) else (0, rs, 1, rq, rp, mm))
  else if c = 94 then (if 0 < rs ∧ rr = 0 then (1, rs, 1, rq, rp, mm) else (0, rs, rr, rq, rp, mm))
  else if sy_sign c = 1 ∧ rr = 0 ∧ rs < 12 then (1, rs + 1, rr, rq, rp, 0)
  else (0, rs + 0, rr, rq, rp, if mm = 0 then 0 else 1)
def rf_tk (b rs rr rq rp mm c : Int) : Int × rf_S :=
  if c = 32 then (if (0 < rs ∧ ¬ rr = 1) ∧ (b = 0 ∧ rq < 12 ∨ ¬ b = 0 ∧ rq < 24) then (1, 0, 0, rq + 1, rp, mm) else (0, rs, rr, rq + 0, rp, mm))
  else if c = 124 then (if ¬ b = 0 ∧ (0 < rs ∧ ¬ rr = 1) ∧ rp < 10 then (1, 0, 0, 1, rp + 1, 1) else (0, rs, rr, rq, rp + 0, if mm = 0 then 0 else 1))
  else if c = 35 ∨ c = 62 then (if ¬ b = 0 ∧ ¬ mm = 0 then 1 else 0, rs, rr, rq, rp, 0)
  else rf_tp rs rr rq rp mm c
def rf_sk (i rs rr rq rp mm : Int) : Prop := (0 ≤ rs ∧ rs ≤ i) ∧ (0 ≤ rr ∧ rr ≤ 2) ∧ (0 ≤ rq ∧ rq ≤ i + 1) ∧ (0 ≤ rp ∧ rp ≤ i + 1) ∧ (mm = 0 ∨ mm = 1)
theorem rf_tp_b (rs rr rq rp mm c : Int) : (rf_tp rs rr rq rp mm c).1 = 0 ∨ (rf_tp rs rr rq rp mm c).1 = 1 := by unfold rf_tp; (repeat' split) <;> simp
theorem rf_tk_b (b rs rr rq rp mm c : Int) : (rf_tk b rs rr rq rp mm c).1 = 0 ∨ (rf_tk b rs rr rq rp mm c).1 = 1 := by
  unfold rf_tk
  (repeat' split) <;> first | exact Or.inl rfl | exact Or.inr rfl | exact rf_tp_b _ _ _ _ _ _
theorem rf_tk_k {i b rs rr rq rp mm : Int} (h : rf_sk i rs rr rq rp mm) (c : Int) : rf_sk (i + 1) (rf_tk b rs rr rq rp mm c).2.1 (rf_tk b rs rr rq rp mm c).2.2.1 (rf_tk b rs rr rq rp mm c).2.2.2.1 (rf_tk b rs rr rq rp mm c).2.2.2.2.1 (rf_tk b rs rr rq rp mm c).2.2.2.2.2 := by
  obtain ⟨h1, h2, h3, h4, h5⟩ := h
  unfold rf_tk rf_tp
  (repeat' split) <;> (unfold rf_sk; dsimp only; omega)
def rf_rl (b : Int) (bf : Nat → Int) : Nat → Int → Int → Int → Int → Int → Int → Int × rf_S
  | 0, i, rs, rr, rq, rp, mm => (i, rs, rr, rq, rp, mm)
  | u + 1, i, rs, rr, rq, rp, mm => if (rf_tk b rs rr rq rp mm (bf i.toNat)).1 = 0 then (i, (rf_tk b rs rr rq rp mm (bf i.toNat)).2)
    else rf_rl b bf u (i + 1) (rf_tk b rs rr rq rp mm (bf i.toNat)).2.1 (rf_tk b rs rr rq rp mm (bf i.toNat)).2.2.1 (rf_tk b rs rr rq rp mm (bf i.toNat)).2.2.2.1 (rf_tk b rs rr rq rp mm (bf i.toNat)).2.2.2.2.1 (rf_tk b rs rr rq rp mm (bf i.toNat)).2.2.2.2.2
def rf_RL (sz : Int) (bf : Nat → Int) (b : Int) : Int × rf_S := rf_rl b bf sz.toNat 0 0 0 1 1 1
def rf_TX (sz : Int) (bf : Nat → Int) (b : Int) : Int := if (rf_RL sz bf b).1 = sz ∧ 0 < (rf_RL sz bf b).2.1 ∧ ¬ (rf_RL sz bf b).2.2.1 = 1 then 1 else 0
theorem rf_rl_k (b : Int) (bf : Nat → Int) : ∀ (u : Nat) (i rs rr rq rp mm : Int), rf_sk i rs rr rq rp mm → (i ≤ (rf_rl b bf u i rs rr rq rp mm).1 ∧ (rf_rl b bf u i rs rr rq rp mm).1 ≤ i + u) ∧ rf_sk (i + u) (rf_rl b bf u i rs rr rq rp mm).2.1 (rf_rl b bf u i rs rr rq rp mm).2.2.1 (rf_rl b bf u i rs rr rq rp mm).2.2.2.1 (rf_rl b bf u i rs rr rq rp mm).2.2.2.2.1 (rf_rl b bf u i rs rr rq rp mm).2.2.2.2.2
  | 0, i, rs, rr, rq, rp, mm, h => ⟨by show i ≤ i ∧ i ≤ i + (0 : Nat); omega, by rw [show i + ((0 : Nat) : Int) = i by omega]; exact h⟩
  | u + 1, i, rs, rr, rq, rp, mm, h => by
    have h1 := rf_tk_k (b := b) h (bf i.toNat)
    unfold rf_rl
    split
    · refine ⟨by show i ≤ i ∧ i ≤ i + ((u + 1 : Nat) : Int); omega, ?_⟩
      obtain ⟨a1, a2, a3, a4, a5⟩ := h1
      exact ⟨by dsimp only; omega, a2, by dsimp only; omega, by dsimp only; omega, a5⟩
    · have h2 := rf_rl_k b bf u (i + 1) _ _ _ _ _ h1
      obtain ⟨⟨a0, a0'⟩, a1, a2, a3, a4, a5⟩ := h2
      exact ⟨by omega, by omega, a2, by omega, by omega, a5⟩
theorem rf_RL_k {sz : Int} (hz : 0 ≤ sz ∧ sz ≤ 100) (bf : Nat → Int) (b : Int) : (0 ≤ (rf_RL sz bf b).1 ∧ (rf_RL sz bf b).1 ≤ 100) ∧ rf_sk 100 (rf_RL sz bf b).2.1 (rf_RL sz bf b).2.2.1 (rf_RL sz bf b).2.2.2.1 (rf_RL sz bf b).2.2.2.2.1 (rf_RL sz bf b).2.2.2.2.2 := by
  have h := rf_rl_k b bf sz.toNat 0 0 0 1 1 1 (by unfold rf_sk; omega)
  obtain ⟨⟨a0, a0'⟩, a1, a2, a3, a4, a5⟩ := h
  unfold rf_RL
  exact ⟨by omega, by omega, a2, by omega, by omega, a5⟩
section RF
variable {G : ji_G} {d n : Nat} {f : Nat → ji_C} {th ed wi ht sz rs rr rq rp mm ln co ro pg : Int} {z kp nt nl sy bf lo lf lt pf : Nat → Int} {hsh : Int64}
set_option maxHeartbeats 4000000 in
set_option maxRecDepth 100000 in
theorem r_within {h : ji_H} {v lo9 hi9 : Int} (b_v : -2147483648 ≤ v ∧ v < 2147483648) (h1 : -2147483648 ≤ lo9 ∧ lo9 < 2147483648) (h2 : -2147483648 ≤ hi9 ∧ hi9 < 2147483648) : JR G d mX8_within [.int (jI v), .int (jI lo9), .int (jI hi9)] h 0 0 (some (.int (jI (rf_in v lo9 hi9)))) h := by
  refine ji_ent (by decide) rfl (Nat.le_of_ble_eq_true rfl) rfl ?_
  refine ji_iload_n dX8_within_0 rfl ?_
  refine ji_iload_n dX8_within_1 rfl ?_
  refine ji_icmp_lt (tgt := 14) dX8_within_2 rfl (by omega) (by omega) (fun c2 => ?_) (fun c2 => ?_)
  · try (exfalso; omega)
    all_goals
      refine ji_iconst dX8_within_14 ?_
      exact ji_ireturn dX8_within_15 rfl (by first | rfl | decide) ⟨jr_i (by unfold rf_in; first | (rw [if_pos (by omega)]; done) | (rw [if_neg (by omega)]; done)), rfl⟩
  · try (exfalso; omega)
    all_goals
      refine ji_iload_n dX8_within_5 rfl ?_
      refine ji_iload_n dX8_within_6 rfl ?_
      refine ji_icmp_gt (tgt := 14) dX8_within_7 rfl (by omega) (by omega) (fun c7 => ?_) (fun c7 => ?_)
      · try (exfalso; omega)
        all_goals
          refine ji_iconst dX8_within_14 ?_
          exact ji_ireturn dX8_within_15 rfl (by first | rfl | decide) ⟨jr_i (by unfold rf_in; first | (rw [if_pos (by omega)]; done) | (rw [if_neg (by omega)]; done)), rfl⟩
      · try (exfalso; omega)
        all_goals
          refine ji_iconst dX8_within_10 ?_
          refine ji_goto (tgt := 15) dX8_within_11 rfl ?_
          exact ji_ireturn dX8_within_15 rfl (by first | rfl | decide) ⟨jr_i (by unfold rf_in; first | (rw [if_pos (by omega)]; done) | (rw [if_neg (by omega)]; done)), rfl⟩

set_option maxHeartbeats 4000000 in
set_option maxRecDepth 100000 in
theorem r_isSign {h : ji_H} {c : Int} (b_c : -2147483648 ≤ c ∧ c < 2147483648) : JR G (d + 1) mX8_isSign [.int (jI c)] h 0 0 (some (.int (jI (sy_sign c)))) h := by
  have w_c_97_122 := rf_in_d c 97 122
  have w_c_65_90 := rf_in_d c 65 90
  have w_c_48_57 := rf_in_d c 48 57
  refine ji_ent (by decide) rfl (Nat.le_of_ble_eq_true rfl) rfl ?_
  refine ji_iload_n dX8_isSign_0 rfl ?_
  refine ji_bipush dX8_isSign_1 rfl ?_
  refine ji_bipush dX8_isSign_3 rfl ?_
  refine ji_cS dX8_isSign_5 (r_within (by omega) (by omega) (by omega)) rfl wX8_within sX8_within lX8_50 rfl (Nat.le_of_ble_eq_true rfl) rfl ?_
  refine ji_if_ne (tgt := 51) dX8_isSign_8 rfl (by omega) (fun c8 => ?_) (fun c8 => ?_)
  · try (exfalso; omega)
    all_goals
      refine ji_iconst dX8_isSign_51 ?_
      refine ji_goto (tgt := 56) dX8_isSign_52 rfl ?_
      exact ji_ireturn dX8_isSign_56 rfl (by first | rfl | decide) ⟨jr_i (by unfold sy_sign; first | (rw [if_pos (by omega)]; done) | (rw [if_neg (by omega)]; done)), rfl⟩
  · try (exfalso; omega)
    all_goals
      refine ji_iload_n dX8_isSign_11 rfl ?_
      refine ji_bipush dX8_isSign_12 rfl ?_
      refine ji_bipush dX8_isSign_14 rfl ?_
      refine ji_cS dX8_isSign_16 (r_within (by omega) (by omega) (by omega)) rfl wX8_within sX8_within lX8_50 rfl (Nat.le_of_ble_eq_true rfl) rfl ?_
      refine ji_if_ne (tgt := 51) dX8_isSign_19 rfl (by omega) (fun c19 => ?_) (fun c19 => ?_)
      · try (exfalso; omega)
        all_goals
          refine ji_iconst dX8_isSign_51 ?_
          refine ji_goto (tgt := 56) dX8_isSign_52 rfl ?_
          exact ji_ireturn dX8_isSign_56 rfl (by first | rfl | decide) ⟨jr_i (by unfold sy_sign; first | (rw [if_pos (by omega)]; done) | (rw [if_neg (by omega)]; done)), rfl⟩
      · try (exfalso; omega)
        all_goals
          refine ji_iload_n dX8_isSign_22 rfl ?_
          refine ji_bipush dX8_isSign_23 rfl ?_
          refine ji_bipush dX8_isSign_25 rfl ?_
          refine ji_cS dX8_isSign_27 (r_within (by omega) (by omega) (by omega)) rfl wX8_within sX8_within lX8_50 rfl (Nat.le_of_ble_eq_true rfl) rfl ?_
          refine ji_if_ne (tgt := 51) dX8_isSign_30 rfl (by omega) (fun c30 => ?_) (fun c30 => ?_)
          · try (exfalso; omega)
            all_goals
              refine ji_iconst dX8_isSign_51 ?_
              refine ji_goto (tgt := 56) dX8_isSign_52 rfl ?_
              exact ji_ireturn dX8_isSign_56 rfl (by first | rfl | decide) ⟨jr_i (by unfold sy_sign; first | (rw [if_pos (by omega)]; done) | (rw [if_neg (by omega)]; done)), rfl⟩
          · try (exfalso; omega)
            all_goals
              refine ji_iload_n dX8_isSign_33 rfl ?_
              refine ji_bipush dX8_isSign_34 rfl ?_
              refine ji_icmp_eq (tgt := 51) dX8_isSign_36 rfl (by omega) (by omega) (fun c36 => ?_) (fun c36 => ?_)
              · try (exfalso; omega)
                all_goals
                  refine ji_iconst dX8_isSign_51 ?_
                  refine ji_goto (tgt := 56) dX8_isSign_52 rfl ?_
                  exact ji_ireturn dX8_isSign_56 rfl (by first | rfl | decide) ⟨jr_i (by unfold sy_sign; first | (rw [if_pos (by omega)]; done) | (rw [if_neg (by omega)]; done)), rfl⟩
              · try (exfalso; omega)
                all_goals
                  refine ji_iload_n dX8_isSign_39 rfl ?_
                  refine ji_bipush dX8_isSign_40 rfl ?_
                  refine ji_icmp_eq (tgt := 51) dX8_isSign_42 rfl (by omega) (by omega) (fun c42 => ?_) (fun c42 => ?_)
                  · try (exfalso; omega)
                    all_goals
                      refine ji_iconst dX8_isSign_51 ?_
                      refine ji_goto (tgt := 56) dX8_isSign_52 rfl ?_
                      exact ji_ireturn dX8_isSign_56 rfl (by first | rfl | decide) ⟨jr_i (by unfold sy_sign; first | (rw [if_pos (by omega)]; done) | (rw [if_neg (by omega)]; done)), rfl⟩
                  · try (exfalso; omega)
                    all_goals
                      refine ji_iload_n dX8_isSign_45 rfl ?_
                      refine ji_bipush dX8_isSign_46 rfl ?_
                      refine ji_icmp_ne (tgt := 55) dX8_isSign_48 rfl (by omega) (by omega) (fun c48 => ?_) (fun c48 => ?_)
                      · try (exfalso; omega)
                        all_goals
                          refine ji_iconst dX8_isSign_55 ?_
                          exact ji_ireturn dX8_isSign_56 rfl (by first | rfl | decide) ⟨jr_i (by unfold sy_sign; first | (rw [if_pos (by omega)]; done) | (rw [if_neg (by omega)]; done)), rfl⟩
                      · try (exfalso; omega)
                        all_goals
                          refine ji_iconst dX8_isSign_51 ?_
                          refine ji_goto (tgt := 56) dX8_isSign_52 rfl ?_
                          exact ji_ireturn dX8_isSign_56 rfl (by first | rfl | decide) ⟨jr_i (by unfold sy_sign; first | (rw [if_pos (by omega)]; done) | (rw [if_neg (by omega)]; done)), rfl⟩

set_option maxHeartbeats 4000000 in
set_option maxRecDepth 100000 in
theorem r_isWordOver {i : Int} (hsk : rf_sk i rs rr rq rp mm) (hi : 0 ≤ i ∧ i ≤ 200) : JR G d mX8_isWordOver [.ref 60] (n, rf_f f th z kp ed nt nl wi ht sy sz bf rs rr rq rp mm ln lo lf lt co ro pg pf hsh) 0 0 (some (.int (jI (rf_wo rs rr)))) (n, rf_f f th z kp ed nt nl wi ht sy sz bf rs rr rq rp mm ln lo lf lt co ro pg pf hsh) := by
  obtain ⟨k1, k2, k3, k4, k5⟩ := id hsk
  refine ji_ent (by decide) rfl (Nat.le_of_ble_eq_true rfl) rfl ?_
  refine ji_aload_n dX8_isWordOver_0 rfl trivial ?_
  refine ji_get (ci := 8) (k := 11) rfl dX8_isWordOver_1 lX8_57 (by decide) (rf_60) rfl ?_
  refine ji_if_le (tgt := 19) dX8_isWordOver_4 rfl (by omega) (fun c4 => ?_) (fun c4 => ?_)
  · try (exfalso; omega)
    all_goals
      refine ji_iconst dX8_isWordOver_19 ?_
      exact ji_ireturn dX8_isWordOver_20 rfl (by first | rfl | decide) ⟨jr_i (by unfold rf_wo; first | (rw [if_pos (by omega)]; done) | (rw [if_neg (by omega)]; done)), rfl⟩
  · try (exfalso; omega)
    all_goals
      refine ji_aload_n dX8_isWordOver_7 rfl trivial ?_
      refine ji_get (ci := 8) (k := 12) rfl dX8_isWordOver_8 lX8_60 (by decide) (rf_60) rfl ?_
      refine ji_iconst dX8_isWordOver_11 ?_
      refine ji_icmp_eq (tgt := 19) dX8_isWordOver_12 rfl (by omega) (by omega) (fun c12 => ?_) (fun c12 => ?_)
      · try (exfalso; omega)
        all_goals
          refine ji_iconst dX8_isWordOver_19 ?_
          exact ji_ireturn dX8_isWordOver_20 rfl (by first | rfl | decide) ⟨jr_i (by unfold rf_wo; first | (rw [if_pos (by omega)]; done) | (rw [if_neg (by omega)]; done)), rfl⟩
      · try (exfalso; omega)
        all_goals
          refine ji_iconst dX8_isWordOver_15 ?_
          refine ji_goto (tgt := 20) dX8_isWordOver_16 rfl ?_
          exact ji_ireturn dX8_isWordOver_20 rfl (by first | rfl | decide) ⟨jr_i (by unfold rf_wo; first | (rw [if_pos (by omega)]; done) | (rw [if_neg (by omega)]; done)), rfl⟩

set_option maxHeartbeats 4000000 in
set_option maxRecDepth 100000 in
theorem r_fresh1  : JR G d mX8_fresh [.ref 60, .int (jI 1)] (n, rf_f f th z kp ed nt nl wi ht sy sz bf rs rr rq rp mm ln lo lf lt co ro pg pf hsh) 0 0 (some (.int (jI 1))) (n, rf_f f th z kp ed nt nl wi ht sy sz bf 0 0 rq rp mm ln lo lf lt co ro pg pf hsh) := by
  refine ji_ent (by decide) rfl (Nat.le_of_ble_eq_true rfl) rfl ?_
  refine ji_aload_n dX8_fresh_0 rfl trivial ?_
  refine ji_iload_n dX8_fresh_1 rfl ?_
  refine ji_if_eq (tgt := 9) dX8_fresh_2 rfl (by omega) (fun c2 => ?_) (fun c2 => ?_)
  · try (exfalso; omega)
    all_goals
      refine ji_aload_n dX8_fresh_9 rfl trivial ?_
      refine ji_get (ci := 8) (k := 11) rfl dX8_fresh_10 lX8_57 (by decide) (rf_60) rfl ?_
      refine ji_putE (ci := 8) (k := 11) rfl dX8_fresh_13 lX8_57 (by decide) (rf_60) (by simp [rf_c]) (ji_fitI _) rfl (rf_prs) ?_
      refine ji_aload_n dX8_fresh_16 rfl trivial ?_
      refine ji_iload_n dX8_fresh_17 rfl ?_
      refine ji_if_eq (tgt := 25) dX8_fresh_18 rfl (by omega) (fun c18 => ?_) (fun c18 => ?_)
      · try (exfalso; omega)
        all_goals
          refine ji_aload_n dX8_fresh_25 rfl trivial ?_
          refine ji_get (ci := 8) (k := 12) rfl dX8_fresh_26 lX8_60 (by decide) (rf_60) rfl ?_
          refine ji_putE (ci := 8) (k := 12) rfl dX8_fresh_29 lX8_60 (by decide) (rf_60) (by simp [rf_c]) (ji_fitI _) rfl (rf_prr) ?_
          refine ji_iload_n dX8_fresh_32 rfl ?_
          exact ji_ireturn dX8_fresh_33 rfl (by first | rfl | decide) ⟨jr_i (by first | rfl | omega), rfl⟩
      · try (exfalso; omega)
        all_goals
          refine ji_iconst dX8_fresh_21 ?_
          refine ji_goto (tgt := 29) dX8_fresh_22 rfl ?_
          refine ji_putE (ci := 8) (k := 12) rfl dX8_fresh_29 lX8_60 (by decide) (rf_60) (by simp [rf_c]) (ji_fitI _) rfl (rf_prr) ?_
          refine ji_iload_n dX8_fresh_32 rfl ?_
          exact ji_ireturn dX8_fresh_33 rfl (by first | rfl | decide) ⟨jr_i (by first | rfl | omega), rfl⟩
  · try (exfalso; omega)
    all_goals
      refine ji_iconst dX8_fresh_5 ?_
      refine ji_goto (tgt := 13) dX8_fresh_6 rfl ?_
      refine ji_putE (ci := 8) (k := 11) rfl dX8_fresh_13 lX8_57 (by decide) (rf_60) (by simp [rf_c]) (ji_fitI _) rfl (rf_prs) ?_
      refine ji_aload_n dX8_fresh_16 rfl trivial ?_
      refine ji_iload_n dX8_fresh_17 rfl ?_
      refine ji_if_eq (tgt := 25) dX8_fresh_18 rfl (by omega) (fun c18 => ?_) (fun c18 => ?_)
      · try (exfalso; omega)
        all_goals
          refine ji_aload_n dX8_fresh_25 rfl trivial ?_
          refine ji_get (ci := 8) (k := 12) rfl dX8_fresh_26 lX8_60 (by decide) (rf_60) rfl ?_
          refine ji_putE (ci := 8) (k := 12) rfl dX8_fresh_29 lX8_60 (by decide) (rf_60) (by simp [rf_c]) (ji_fitI _) rfl (rf_prr) ?_
          refine ji_iload_n dX8_fresh_32 rfl ?_
          exact ji_ireturn dX8_fresh_33 rfl (by first | rfl | decide) ⟨jr_i (by first | rfl | omega), rfl⟩
      · try (exfalso; omega)
        all_goals
          refine ji_iconst dX8_fresh_21 ?_
          refine ji_goto (tgt := 29) dX8_fresh_22 rfl ?_
          refine ji_putE (ci := 8) (k := 12) rfl dX8_fresh_29 lX8_60 (by decide) (rf_60) (by simp [rf_c]) (ji_fitI _) rfl (rf_prr) ?_
          refine ji_iload_n dX8_fresh_32 rfl ?_
          exact ji_ireturn dX8_fresh_33 rfl (by first | rfl | decide) ⟨jr_i (by first | rfl | omega), rfl⟩

set_option maxHeartbeats 4000000 in
set_option maxRecDepth 100000 in
theorem r_fresh0  : JR G d mX8_fresh [.ref 60, .int (jI 0)] (n, rf_f f th z kp ed nt nl wi ht sy sz bf rs rr rq rp mm ln lo lf lt co ro pg pf hsh) 0 0 (some (.int (jI 0))) (n, rf_f f th z kp ed nt nl wi ht sy sz bf rs rr rq rp mm ln lo lf lt co ro pg pf hsh) := by
  refine ji_ent (by decide) rfl (Nat.le_of_ble_eq_true rfl) rfl ?_
  refine ji_aload_n dX8_fresh_0 rfl trivial ?_
  refine ji_iload_n dX8_fresh_1 rfl ?_
  refine ji_if_eq (tgt := 9) dX8_fresh_2 rfl (by omega) (fun c2 => ?_) (fun c2 => ?_)
  · try (exfalso; omega)
    all_goals
      refine ji_aload_n dX8_fresh_9 rfl trivial ?_
      refine ji_get (ci := 8) (k := 11) rfl dX8_fresh_10 lX8_57 (by decide) (rf_60) rfl ?_
      refine ji_putE (ci := 8) (k := 11) rfl dX8_fresh_13 lX8_57 (by decide) (rf_60) (by simp [rf_c]) (ji_fitI _) rfl (rf_prs) ?_
      refine ji_aload_n dX8_fresh_16 rfl trivial ?_
      refine ji_iload_n dX8_fresh_17 rfl ?_
      refine ji_if_eq (tgt := 25) dX8_fresh_18 rfl (by omega) (fun c18 => ?_) (fun c18 => ?_)
      · try (exfalso; omega)
        all_goals
          refine ji_aload_n dX8_fresh_25 rfl trivial ?_
          refine ji_get (ci := 8) (k := 12) rfl dX8_fresh_26 lX8_60 (by decide) (rf_60) rfl ?_
          refine ji_putE (ci := 8) (k := 12) rfl dX8_fresh_29 lX8_60 (by decide) (rf_60) (by simp [rf_c]) (ji_fitI _) rfl (rf_prr) ?_
          refine ji_iload_n dX8_fresh_32 rfl ?_
          exact ji_ireturn dX8_fresh_33 rfl (by first | rfl | decide) ⟨jr_i (by first | rfl | omega), rfl⟩
      · try (exfalso; omega)
        all_goals
          refine ji_iconst dX8_fresh_21 ?_
          refine ji_goto (tgt := 29) dX8_fresh_22 rfl ?_
          refine ji_putE (ci := 8) (k := 12) rfl dX8_fresh_29 lX8_60 (by decide) (rf_60) (by simp [rf_c]) (ji_fitI _) rfl (rf_prr) ?_
          refine ji_iload_n dX8_fresh_32 rfl ?_
          exact ji_ireturn dX8_fresh_33 rfl (by first | rfl | decide) ⟨jr_i (by first | rfl | omega), rfl⟩
  · try (exfalso; omega)
    all_goals
      refine ji_iconst dX8_fresh_5 ?_
      refine ji_goto (tgt := 13) dX8_fresh_6 rfl ?_
      refine ji_putE (ci := 8) (k := 11) rfl dX8_fresh_13 lX8_57 (by decide) (rf_60) (by simp [rf_c]) (ji_fitI _) rfl (rf_prs) ?_
      refine ji_aload_n dX8_fresh_16 rfl trivial ?_
      refine ji_iload_n dX8_fresh_17 rfl ?_
      refine ji_if_eq (tgt := 25) dX8_fresh_18 rfl (by omega) (fun c18 => ?_) (fun c18 => ?_)
      · try (exfalso; omega)
        all_goals
          refine ji_aload_n dX8_fresh_25 rfl trivial ?_
          refine ji_get (ci := 8) (k := 12) rfl dX8_fresh_26 lX8_60 (by decide) (rf_60) rfl ?_
          refine ji_putE (ci := 8) (k := 12) rfl dX8_fresh_29 lX8_60 (by decide) (rf_60) (by simp [rf_c]) (ji_fitI _) rfl (rf_prr) ?_
          refine ji_iload_n dX8_fresh_32 rfl ?_
          exact ji_ireturn dX8_fresh_33 rfl (by first | rfl | decide) ⟨jr_i (by first | rfl | omega), rfl⟩
      · try (exfalso; omega)
        all_goals
          refine ji_iconst dX8_fresh_21 ?_
          refine ji_goto (tgt := 29) dX8_fresh_22 rfl ?_
          refine ji_putE (ci := 8) (k := 12) rfl dX8_fresh_29 lX8_60 (by decide) (rf_60) (by simp [rf_c]) (ji_fitI _) rfl (rf_prr) ?_
          refine ji_iload_n dX8_fresh_32 rfl ?_
          exact ji_ireturn dX8_fresh_33 rfl (by first | rfl | decide) ⟨jr_i (by first | rfl | omega), rfl⟩

set_option maxHeartbeats 4000000 in
set_option maxRecDepth 100000 in
theorem r_takesPlain {c i : Int} (b_c : -2147483648 ≤ c ∧ c < 2147483648) (hsk : rf_sk i rs rr rq rp mm) (hi : 0 ≤ i ∧ i ≤ 200) : JR G (d + 2) mX8_takesPlain [.ref 60, .int (jI c)] (n, rf_f f th z kp ed nt nl wi ht sy sz bf rs rr rq rp mm ln lo lf lt co ro pg pf hsh) 0 0 (some (.int (jI ((rf_tp rs rr rq rp mm c).1)))) (n, rf_f f th z kp ed nt nl wi ht sy sz bf ((rf_tp rs rr rq rp mm c).2.1) ((rf_tp rs rr rq rp mm c).2.2.1) ((rf_tp rs rr rq rp mm c).2.2.2.1) ((rf_tp rs rr rq rp mm c).2.2.2.2.1) ((rf_tp rs rr rq rp mm c).2.2.2.2.2) ln lo lf lt co ro pg pf hsh) := by
  obtain ⟨k1, k2, k3, k4, k5⟩ := id hsk
  have w_c_48_57 := rf_in_d c 48 57
  have w_s := sy_sign_d c
  refine ji_ent (by decide) rfl (Nat.le_of_ble_eq_true rfl) rfl ?_
  refine ji_aload_n dX8_takesPlain_0 rfl trivial ?_
  refine ji_get (ci := 8) (k := 12) rfl dX8_takesPlain_1 lX8_60 (by decide) (rf_60) rfl ?_
  refine ji_iconst dX8_takesPlain_4 ?_
  refine ji_icmp_ne (tgt := 32) dX8_takesPlain_5 rfl (by omega) (by omega) (fun c5 => ?_) (fun c5 => ?_)
  · try (exfalso; omega)
    all_goals
      refine ji_iload_n dX8_takesPlain_32 rfl ?_
      refine ji_bipush dX8_takesPlain_33 rfl ?_
      refine ji_icmp_ne (tgt := 76) dX8_takesPlain_35 rfl (by omega) (by omega) (fun c35 => ?_) (fun c35 => ?_)
      · try (exfalso; omega)
        all_goals
          refine ji_iload_n dX8_takesPlain_76 rfl ?_
          refine ji_cS dX8_takesPlain_77 (r_isSign (by omega)) rfl wX8_isSign sX8_isSign lX8_63 rfl (Nat.le_of_ble_eq_true rfl) rfl ?_
          refine ji_if_eq (tgt := 103) dX8_takesPlain_80 rfl (by omega) (fun c80 => ?_) (fun c80 => ?_)
          · try (exfalso; omega)
            all_goals
              refine ji_iconst dX8_takesPlain_103 ?_
              refine ji_istore_n dX8_takesPlain_104 (by decide) rfl ?_
              refine ji_aload_n dX8_takesPlain_105 rfl trivial ?_
              refine ji_dup dX8_takesPlain_106 rfl ?_
              refine ji_get (ci := 8) (k := 11) rfl dX8_takesPlain_107 lX8_57 (by decide) (rf_60) rfl ?_
              refine ji_iload_n dX8_takesPlain_110 rfl ?_
              refine ji_if_eq (tgt := 118) dX8_takesPlain_111 rfl (by omega) (fun c111 => ?_) (fun c111 => ?_)
              · try (exfalso; omega)
                all_goals
                  refine ji_iconst dX8_takesPlain_118 ?_
                  refine ji_iadd dX8_takesPlain_119 ?_
                  refine ji_putE (ci := 8) (k := 11) rfl dX8_takesPlain_120 lX8_57 (by decide) (rf_60) (by simp [rf_c]) (ji_fitI _) rfl (rf_prs) ?_
                  refine ji_aload_n dX8_takesPlain_123 rfl trivial ?_
                  refine ji_aload_n dX8_takesPlain_124 rfl trivial ?_
                  refine ji_get (ci := 8) (k := 15) rfl dX8_takesPlain_125 lX8_67 (by decide) (rf_60) rfl ?_
                  refine ji_if_eq (tgt := 139) dX8_takesPlain_128 rfl (by omega) (fun c128 => ?_) (fun c128 => ?_)
                  · try (exfalso; omega)
                    all_goals
                      refine ji_iconst dX8_takesPlain_139 ?_
                      refine ji_putE (ci := 8) (k := 15) rfl dX8_takesPlain_140 lX8_67 (by decide) (rf_60) (by simp [rf_c]) (ji_fitZ (by first | omega | decide)) rfl (rf_pmm) ?_
                      refine ji_iload_n dX8_takesPlain_143 rfl ?_
                      exact ji_ireturn dX8_takesPlain_144 rfl (by first | rfl | exact ji_narB (by omega)) ⟨by unfold rf_tp; (try unfold rf_in); first | rfl | ((repeat' split) <;> first | rfl | (exfalso; omega)), by unfold rf_tp; first | rfl | ((repeat' split) <;> first | rfl | (exfalso; omega))⟩
                  · try (exfalso; omega)
                    all_goals
                      refine ji_iload_n dX8_takesPlain_131 rfl ?_
                      refine ji_if_ne (tgt := 139) dX8_takesPlain_132 rfl (by omega) (fun c132 => ?_) (fun c132 => ?_)
                      · try (exfalso; omega)
                        all_goals
                          refine ji_iconst dX8_takesPlain_139 ?_
                          refine ji_putE (ci := 8) (k := 15) rfl dX8_takesPlain_140 lX8_67 (by decide) (rf_60) (by simp [rf_c]) (ji_fitZ (by first | omega | decide)) rfl (rf_pmm) ?_
                          refine ji_iload_n dX8_takesPlain_143 rfl ?_
                          exact ji_ireturn dX8_takesPlain_144 rfl (by first | rfl | exact ji_narB (by omega)) ⟨by unfold rf_tp; (try unfold rf_in); first | rfl | ((repeat' split) <;> first | rfl | (exfalso; omega)), by unfold rf_tp; first | rfl | ((repeat' split) <;> first | rfl | (exfalso; omega))⟩
                      · try (exfalso; omega)
                        all_goals
                          refine ji_iconst dX8_takesPlain_135 ?_
                          refine ji_goto (tgt := 140) dX8_takesPlain_136 rfl ?_
                          refine ji_putE (ci := 8) (k := 15) rfl dX8_takesPlain_140 lX8_67 (by decide) (rf_60) (by simp [rf_c]) (ji_fitZ (by first | omega | decide)) rfl (rf_pmm) ?_
                          refine ji_iload_n dX8_takesPlain_143 rfl ?_
                          exact ji_ireturn dX8_takesPlain_144 rfl (by first | rfl | exact ji_narB (by omega)) ⟨by unfold rf_tp; (try unfold rf_in); first | rfl | ((repeat' split) <;> first | rfl | (exfalso; omega)), by unfold rf_tp; first | rfl | ((repeat' split) <;> first | rfl | (exfalso; omega))⟩
              · try (exfalso; omega)
                all_goals
                  refine ji_iconst dX8_takesPlain_114 ?_
                  refine ji_goto (tgt := 119) dX8_takesPlain_115 rfl ?_
                  refine ji_iadd dX8_takesPlain_119 ?_
                  refine ji_putE (ci := 8) (k := 11) rfl dX8_takesPlain_120 lX8_57 (by decide) (rf_60) (by simp [rf_c]) (ji_fitI _) rfl (rf_prs) ?_
                  refine ji_aload_n dX8_takesPlain_123 rfl trivial ?_
                  refine ji_aload_n dX8_takesPlain_124 rfl trivial ?_
                  refine ji_get (ci := 8) (k := 15) rfl dX8_takesPlain_125 lX8_67 (by decide) (rf_60) rfl ?_
                  refine ji_if_eq (tgt := 139) dX8_takesPlain_128 rfl (by omega) (fun c128 => ?_) (fun c128 => ?_)
                  · try (exfalso; omega)
                    all_goals
                      refine ji_iconst dX8_takesPlain_139 ?_
                      refine ji_putE (ci := 8) (k := 15) rfl dX8_takesPlain_140 lX8_67 (by decide) (rf_60) (by simp [rf_c]) (ji_fitZ (by first | omega | decide)) rfl (rf_pmm) ?_
                      refine ji_iload_n dX8_takesPlain_143 rfl ?_
                      exact ji_ireturn dX8_takesPlain_144 rfl (by first | rfl | exact ji_narB (by omega)) ⟨by unfold rf_tp; (try unfold rf_in); first | rfl | ((repeat' split) <;> first | rfl | (exfalso; omega)), by unfold rf_tp; first | rfl | ((repeat' split) <;> first | rfl | (exfalso; omega))⟩
                  · try (exfalso; omega)
                    all_goals
                      refine ji_iload_n dX8_takesPlain_131 rfl ?_
                      refine ji_if_ne (tgt := 139) dX8_takesPlain_132 rfl (by omega) (fun c132 => ?_) (fun c132 => ?_)
                      · try (exfalso; omega)
                        all_goals
                          refine ji_iconst dX8_takesPlain_139 ?_
                          refine ji_putE (ci := 8) (k := 15) rfl dX8_takesPlain_140 lX8_67 (by decide) (rf_60) (by simp [rf_c]) (ji_fitZ (by first | omega | decide)) rfl (rf_pmm) ?_
                          refine ji_iload_n dX8_takesPlain_143 rfl ?_
                          exact ji_ireturn dX8_takesPlain_144 rfl (by first | rfl | exact ji_narB (by omega)) ⟨by unfold rf_tp; (try unfold rf_in); first | rfl | ((repeat' split) <;> first | rfl | (exfalso; omega)), by unfold rf_tp; first | rfl | ((repeat' split) <;> first | rfl | (exfalso; omega))⟩
                      · try (exfalso; omega)
                        all_goals
                          refine ji_iconst dX8_takesPlain_135 ?_
                          refine ji_goto (tgt := 140) dX8_takesPlain_136 rfl ?_
                          refine ji_putE (ci := 8) (k := 15) rfl dX8_takesPlain_140 lX8_67 (by decide) (rf_60) (by simp [rf_c]) (ji_fitZ (by first | omega | decide)) rfl (rf_pmm) ?_
                          refine ji_iload_n dX8_takesPlain_143 rfl ?_
                          exact ji_ireturn dX8_takesPlain_144 rfl (by first | rfl | exact ji_narB (by omega)) ⟨by unfold rf_tp; (try unfold rf_in); first | rfl | ((repeat' split) <;> first | rfl | (exfalso; omega)), by unfold rf_tp; first | rfl | ((repeat' split) <;> first | rfl | (exfalso; omega))⟩
          · try (exfalso; omega)
            all_goals
              refine ji_aload_n dX8_takesPlain_83 rfl trivial ?_
              refine ji_get (ci := 8) (k := 12) rfl dX8_takesPlain_84 lX8_60 (by decide) (rf_60) rfl ?_
              refine ji_if_ne (tgt := 103) dX8_takesPlain_87 rfl (by omega) (fun c87 => ?_) (fun c87 => ?_)
              · try (exfalso; omega)
                all_goals
                  refine ji_iconst dX8_takesPlain_103 ?_
                  refine ji_istore_n dX8_takesPlain_104 (by decide) rfl ?_
                  refine ji_aload_n dX8_takesPlain_105 rfl trivial ?_
                  refine ji_dup dX8_takesPlain_106 rfl ?_
                  refine ji_get (ci := 8) (k := 11) rfl dX8_takesPlain_107 lX8_57 (by decide) (rf_60) rfl ?_
                  refine ji_iload_n dX8_takesPlain_110 rfl ?_
                  refine ji_if_eq (tgt := 118) dX8_takesPlain_111 rfl (by omega) (fun c111 => ?_) (fun c111 => ?_)
                  · try (exfalso; omega)
                    all_goals
                      refine ji_iconst dX8_takesPlain_118 ?_
                      refine ji_iadd dX8_takesPlain_119 ?_
                      refine ji_putE (ci := 8) (k := 11) rfl dX8_takesPlain_120 lX8_57 (by decide) (rf_60) (by simp [rf_c]) (ji_fitI _) rfl (rf_prs) ?_
                      refine ji_aload_n dX8_takesPlain_123 rfl trivial ?_
                      refine ji_aload_n dX8_takesPlain_124 rfl trivial ?_
                      refine ji_get (ci := 8) (k := 15) rfl dX8_takesPlain_125 lX8_67 (by decide) (rf_60) rfl ?_
                      refine ji_if_eq (tgt := 139) dX8_takesPlain_128 rfl (by omega) (fun c128 => ?_) (fun c128 => ?_)
                      · try (exfalso; omega)
                        all_goals
                          refine ji_iconst dX8_takesPlain_139 ?_
                          refine ji_putE (ci := 8) (k := 15) rfl dX8_takesPlain_140 lX8_67 (by decide) (rf_60) (by simp [rf_c]) (ji_fitZ (by first | omega | decide)) rfl (rf_pmm) ?_
                          refine ji_iload_n dX8_takesPlain_143 rfl ?_
                          exact ji_ireturn dX8_takesPlain_144 rfl (by first | rfl | exact ji_narB (by omega)) ⟨by unfold rf_tp; (try unfold rf_in); first | rfl | ((repeat' split) <;> first | rfl | (exfalso; omega)), by unfold rf_tp; first | rfl | ((repeat' split) <;> first | rfl | (exfalso; omega))⟩
                      · try (exfalso; omega)
                        all_goals
                          refine ji_iload_n dX8_takesPlain_131 rfl ?_
                          refine ji_if_ne (tgt := 139) dX8_takesPlain_132 rfl (by omega) (fun c132 => ?_) (fun c132 => ?_)
                          · try (exfalso; omega)
                            all_goals
                              refine ji_iconst dX8_takesPlain_139 ?_
                              refine ji_putE (ci := 8) (k := 15) rfl dX8_takesPlain_140 lX8_67 (by decide) (rf_60) (by simp [rf_c]) (ji_fitZ (by first | omega | decide)) rfl (rf_pmm) ?_
                              refine ji_iload_n dX8_takesPlain_143 rfl ?_
                              exact ji_ireturn dX8_takesPlain_144 rfl (by first | rfl | exact ji_narB (by omega)) ⟨by unfold rf_tp; (try unfold rf_in); first | rfl | ((repeat' split) <;> first | rfl | (exfalso; omega)), by unfold rf_tp; first | rfl | ((repeat' split) <;> first | rfl | (exfalso; omega))⟩
                          · try (exfalso; omega)
                            all_goals
                              refine ji_iconst dX8_takesPlain_135 ?_
                              refine ji_goto (tgt := 140) dX8_takesPlain_136 rfl ?_
                              refine ji_putE (ci := 8) (k := 15) rfl dX8_takesPlain_140 lX8_67 (by decide) (rf_60) (by simp [rf_c]) (ji_fitZ (by first | omega | decide)) rfl (rf_pmm) ?_
                              refine ji_iload_n dX8_takesPlain_143 rfl ?_
                              exact ji_ireturn dX8_takesPlain_144 rfl (by first | rfl | exact ji_narB (by omega)) ⟨by unfold rf_tp; (try unfold rf_in); first | rfl | ((repeat' split) <;> first | rfl | (exfalso; omega)), by unfold rf_tp; first | rfl | ((repeat' split) <;> first | rfl | (exfalso; omega))⟩
                  · try (exfalso; omega)
                    all_goals
                      refine ji_iconst dX8_takesPlain_114 ?_
                      refine ji_goto (tgt := 119) dX8_takesPlain_115 rfl ?_
                      refine ji_iadd dX8_takesPlain_119 ?_
                      refine ji_putE (ci := 8) (k := 11) rfl dX8_takesPlain_120 lX8_57 (by decide) (rf_60) (by simp [rf_c]) (ji_fitI _) rfl (rf_prs) ?_
                      refine ji_aload_n dX8_takesPlain_123 rfl trivial ?_
                      refine ji_aload_n dX8_takesPlain_124 rfl trivial ?_
                      refine ji_get (ci := 8) (k := 15) rfl dX8_takesPlain_125 lX8_67 (by decide) (rf_60) rfl ?_
                      refine ji_if_eq (tgt := 139) dX8_takesPlain_128 rfl (by omega) (fun c128 => ?_) (fun c128 => ?_)
                      · try (exfalso; omega)
                        all_goals
                          refine ji_iconst dX8_takesPlain_139 ?_
                          refine ji_putE (ci := 8) (k := 15) rfl dX8_takesPlain_140 lX8_67 (by decide) (rf_60) (by simp [rf_c]) (ji_fitZ (by first | omega | decide)) rfl (rf_pmm) ?_
                          refine ji_iload_n dX8_takesPlain_143 rfl ?_
                          exact ji_ireturn dX8_takesPlain_144 rfl (by first | rfl | exact ji_narB (by omega)) ⟨by unfold rf_tp; (try unfold rf_in); first | rfl | ((repeat' split) <;> first | rfl | (exfalso; omega)), by unfold rf_tp; first | rfl | ((repeat' split) <;> first | rfl | (exfalso; omega))⟩
                      · try (exfalso; omega)
                        all_goals
                          refine ji_iload_n dX8_takesPlain_131 rfl ?_
                          refine ji_if_ne (tgt := 139) dX8_takesPlain_132 rfl (by omega) (fun c132 => ?_) (fun c132 => ?_)
                          · try (exfalso; omega)
                            all_goals
                              refine ji_iconst dX8_takesPlain_139 ?_
                              refine ji_putE (ci := 8) (k := 15) rfl dX8_takesPlain_140 lX8_67 (by decide) (rf_60) (by simp [rf_c]) (ji_fitZ (by first | omega | decide)) rfl (rf_pmm) ?_
                              refine ji_iload_n dX8_takesPlain_143 rfl ?_
                              exact ji_ireturn dX8_takesPlain_144 rfl (by first | rfl | exact ji_narB (by omega)) ⟨by unfold rf_tp; (try unfold rf_in); first | rfl | ((repeat' split) <;> first | rfl | (exfalso; omega)), by unfold rf_tp; first | rfl | ((repeat' split) <;> first | rfl | (exfalso; omega))⟩
                          · try (exfalso; omega)
                            all_goals
                              refine ji_iconst dX8_takesPlain_135 ?_
                              refine ji_goto (tgt := 140) dX8_takesPlain_136 rfl ?_
                              refine ji_putE (ci := 8) (k := 15) rfl dX8_takesPlain_140 lX8_67 (by decide) (rf_60) (by simp [rf_c]) (ji_fitZ (by first | omega | decide)) rfl (rf_pmm) ?_
                              refine ji_iload_n dX8_takesPlain_143 rfl ?_
                              exact ji_ireturn dX8_takesPlain_144 rfl (by first | rfl | exact ji_narB (by omega)) ⟨by unfold rf_tp; (try unfold rf_in); first | rfl | ((repeat' split) <;> first | rfl | (exfalso; omega)), by unfold rf_tp; first | rfl | ((repeat' split) <;> first | rfl | (exfalso; omega))⟩
              · try (exfalso; omega)
                all_goals
                  refine ji_aload_n dX8_takesPlain_90 rfl trivial ?_
                  refine ji_get (ci := 8) (k := 11) rfl dX8_takesPlain_91 lX8_57 (by decide) (rf_60) rfl ?_
                  refine ji_bipush dX8_takesPlain_94 rfl ?_
                  refine ji_icmp_ge (tgt := 103) dX8_takesPlain_96 rfl (by omega) (by omega) (fun c96 => ?_) (fun c96 => ?_)
                  · try (exfalso; omega)
                    all_goals
                      refine ji_iconst dX8_takesPlain_103 ?_
                      refine ji_istore_n dX8_takesPlain_104 (by decide) rfl ?_
                      refine ji_aload_n dX8_takesPlain_105 rfl trivial ?_
                      refine ji_dup dX8_takesPlain_106 rfl ?_
                      refine ji_get (ci := 8) (k := 11) rfl dX8_takesPlain_107 lX8_57 (by decide) (rf_60) rfl ?_
                      refine ji_iload_n dX8_takesPlain_110 rfl ?_
                      refine ji_if_eq (tgt := 118) dX8_takesPlain_111 rfl (by omega) (fun c111 => ?_) (fun c111 => ?_)
                      · try (exfalso; omega)
                        all_goals
                          refine ji_iconst dX8_takesPlain_118 ?_
                          refine ji_iadd dX8_takesPlain_119 ?_
                          refine ji_putE (ci := 8) (k := 11) rfl dX8_takesPlain_120 lX8_57 (by decide) (rf_60) (by simp [rf_c]) (ji_fitI _) rfl (rf_prs) ?_
                          refine ji_aload_n dX8_takesPlain_123 rfl trivial ?_
                          refine ji_aload_n dX8_takesPlain_124 rfl trivial ?_
                          refine ji_get (ci := 8) (k := 15) rfl dX8_takesPlain_125 lX8_67 (by decide) (rf_60) rfl ?_
                          refine ji_if_eq (tgt := 139) dX8_takesPlain_128 rfl (by omega) (fun c128 => ?_) (fun c128 => ?_)
                          · try (exfalso; omega)
                            all_goals
                              refine ji_iconst dX8_takesPlain_139 ?_
                              refine ji_putE (ci := 8) (k := 15) rfl dX8_takesPlain_140 lX8_67 (by decide) (rf_60) (by simp [rf_c]) (ji_fitZ (by first | omega | decide)) rfl (rf_pmm) ?_
                              refine ji_iload_n dX8_takesPlain_143 rfl ?_
                              exact ji_ireturn dX8_takesPlain_144 rfl (by first | rfl | exact ji_narB (by omega)) ⟨by unfold rf_tp; (try unfold rf_in); first | rfl | ((repeat' split) <;> first | rfl | (exfalso; omega)), by unfold rf_tp; first | rfl | ((repeat' split) <;> first | rfl | (exfalso; omega))⟩
                          · try (exfalso; omega)
                            all_goals
                              refine ji_iload_n dX8_takesPlain_131 rfl ?_
                              refine ji_if_ne (tgt := 139) dX8_takesPlain_132 rfl (by omega) (fun c132 => ?_) (fun c132 => ?_)
                              · try (exfalso; omega)
                                all_goals
                                  refine ji_iconst dX8_takesPlain_139 ?_
                                  refine ji_putE (ci := 8) (k := 15) rfl dX8_takesPlain_140 lX8_67 (by decide) (rf_60) (by simp [rf_c]) (ji_fitZ (by first | omega | decide)) rfl (rf_pmm) ?_
                                  refine ji_iload_n dX8_takesPlain_143 rfl ?_
                                  exact ji_ireturn dX8_takesPlain_144 rfl (by first | rfl | exact ji_narB (by omega)) ⟨by unfold rf_tp; (try unfold rf_in); first | rfl | ((repeat' split) <;> first | rfl | (exfalso; omega)), by unfold rf_tp; first | rfl | ((repeat' split) <;> first | rfl | (exfalso; omega))⟩
                              · try (exfalso; omega)
                                all_goals
                                  refine ji_iconst dX8_takesPlain_135 ?_
                                  refine ji_goto (tgt := 140) dX8_takesPlain_136 rfl ?_
                                  refine ji_putE (ci := 8) (k := 15) rfl dX8_takesPlain_140 lX8_67 (by decide) (rf_60) (by simp [rf_c]) (ji_fitZ (by first | omega | decide)) rfl (rf_pmm) ?_
                                  refine ji_iload_n dX8_takesPlain_143 rfl ?_
                                  exact ji_ireturn dX8_takesPlain_144 rfl (by first | rfl | exact ji_narB (by omega)) ⟨by unfold rf_tp; (try unfold rf_in); first | rfl | ((repeat' split) <;> first | rfl | (exfalso; omega)), by unfold rf_tp; first | rfl | ((repeat' split) <;> first | rfl | (exfalso; omega))⟩
                      · try (exfalso; omega)
                        all_goals
                          refine ji_iconst dX8_takesPlain_114 ?_
                          refine ji_goto (tgt := 119) dX8_takesPlain_115 rfl ?_
                          refine ji_iadd dX8_takesPlain_119 ?_
                          refine ji_putE (ci := 8) (k := 11) rfl dX8_takesPlain_120 lX8_57 (by decide) (rf_60) (by simp [rf_c]) (ji_fitI _) rfl (rf_prs) ?_
                          refine ji_aload_n dX8_takesPlain_123 rfl trivial ?_
                          refine ji_aload_n dX8_takesPlain_124 rfl trivial ?_
                          refine ji_get (ci := 8) (k := 15) rfl dX8_takesPlain_125 lX8_67 (by decide) (rf_60) rfl ?_
                          refine ji_if_eq (tgt := 139) dX8_takesPlain_128 rfl (by omega) (fun c128 => ?_) (fun c128 => ?_)
                          · try (exfalso; omega)
                            all_goals
                              refine ji_iconst dX8_takesPlain_139 ?_
                              refine ji_putE (ci := 8) (k := 15) rfl dX8_takesPlain_140 lX8_67 (by decide) (rf_60) (by simp [rf_c]) (ji_fitZ (by first | omega | decide)) rfl (rf_pmm) ?_
                              refine ji_iload_n dX8_takesPlain_143 rfl ?_
                              exact ji_ireturn dX8_takesPlain_144 rfl (by first | rfl | exact ji_narB (by omega)) ⟨by unfold rf_tp; (try unfold rf_in); first | rfl | ((repeat' split) <;> first | rfl | (exfalso; omega)), by unfold rf_tp; first | rfl | ((repeat' split) <;> first | rfl | (exfalso; omega))⟩
                          · try (exfalso; omega)
                            all_goals
                              refine ji_iload_n dX8_takesPlain_131 rfl ?_
                              refine ji_if_ne (tgt := 139) dX8_takesPlain_132 rfl (by omega) (fun c132 => ?_) (fun c132 => ?_)
                              · try (exfalso; omega)
                                all_goals
                                  refine ji_iconst dX8_takesPlain_139 ?_
                                  refine ji_putE (ci := 8) (k := 15) rfl dX8_takesPlain_140 lX8_67 (by decide) (rf_60) (by simp [rf_c]) (ji_fitZ (by first | omega | decide)) rfl (rf_pmm) ?_
                                  refine ji_iload_n dX8_takesPlain_143 rfl ?_
                                  exact ji_ireturn dX8_takesPlain_144 rfl (by first | rfl | exact ji_narB (by omega)) ⟨by unfold rf_tp; (try unfold rf_in); first | rfl | ((repeat' split) <;> first | rfl | (exfalso; omega)), by unfold rf_tp; first | rfl | ((repeat' split) <;> first | rfl | (exfalso; omega))⟩
                              · try (exfalso; omega)
                                all_goals
                                  refine ji_iconst dX8_takesPlain_135 ?_
                                  refine ji_goto (tgt := 140) dX8_takesPlain_136 rfl ?_
                                  refine ji_putE (ci := 8) (k := 15) rfl dX8_takesPlain_140 lX8_67 (by decide) (rf_60) (by simp [rf_c]) (ji_fitZ (by first | omega | decide)) rfl (rf_pmm) ?_
                                  refine ji_iload_n dX8_takesPlain_143 rfl ?_
                                  exact ji_ireturn dX8_takesPlain_144 rfl (by first | rfl | exact ji_narB (by omega)) ⟨by unfold rf_tp; (try unfold rf_in); first | rfl | ((repeat' split) <;> first | rfl | (exfalso; omega)), by unfold rf_tp; first | rfl | ((repeat' split) <;> first | rfl | (exfalso; omega))⟩
                  · try (exfalso; omega)
                    all_goals
                      refine ji_iconst dX8_takesPlain_99 ?_
                      refine ji_goto (tgt := 104) dX8_takesPlain_100 rfl ?_
                      refine ji_istore_n dX8_takesPlain_104 (by decide) rfl ?_
                      refine ji_aload_n dX8_takesPlain_105 rfl trivial ?_
                      refine ji_dup dX8_takesPlain_106 rfl ?_
                      refine ji_get (ci := 8) (k := 11) rfl dX8_takesPlain_107 lX8_57 (by decide) (rf_60) rfl ?_
                      refine ji_iload_n dX8_takesPlain_110 rfl ?_
                      refine ji_if_eq (tgt := 118) dX8_takesPlain_111 rfl (by omega) (fun c111 => ?_) (fun c111 => ?_)
                      · try (exfalso; omega)
                        all_goals
                          refine ji_iconst dX8_takesPlain_118 ?_
                          refine ji_iadd dX8_takesPlain_119 ?_
                          refine ji_putE (ci := 8) (k := 11) rfl dX8_takesPlain_120 lX8_57 (by decide) (rf_60) (by simp [rf_c]) (ji_fitI _) rfl (rf_prs) ?_
                          refine ji_aload_n dX8_takesPlain_123 rfl trivial ?_
                          refine ji_aload_n dX8_takesPlain_124 rfl trivial ?_
                          refine ji_get (ci := 8) (k := 15) rfl dX8_takesPlain_125 lX8_67 (by decide) (rf_60) rfl ?_
                          refine ji_if_eq (tgt := 139) dX8_takesPlain_128 rfl (by omega) (fun c128 => ?_) (fun c128 => ?_)
                          · try (exfalso; omega)
                            all_goals
                              refine ji_iconst dX8_takesPlain_139 ?_
                              refine ji_putE (ci := 8) (k := 15) rfl dX8_takesPlain_140 lX8_67 (by decide) (rf_60) (by simp [rf_c]) (ji_fitZ (by first | omega | decide)) rfl (rf_pmm) ?_
                              refine ji_iload_n dX8_takesPlain_143 rfl ?_
                              exact ji_ireturn dX8_takesPlain_144 rfl (by first | rfl | exact ji_narB (by omega)) ⟨by unfold rf_tp; (try unfold rf_in); first | rfl | ((repeat' split) <;> first | rfl | (exfalso; omega)), by unfold rf_tp; first | rfl | ((repeat' split) <;> first | rfl | (exfalso; omega))⟩
                          · try (exfalso; omega)
                            all_goals
                              refine ji_iload_n dX8_takesPlain_131 rfl ?_
                              refine ji_if_ne (tgt := 139) dX8_takesPlain_132 rfl (by omega) (fun c132 => ?_) (fun c132 => ?_)
                              · try (exfalso; omega)
                                all_goals
                                  refine ji_iconst dX8_takesPlain_139 ?_
                                  refine ji_putE (ci := 8) (k := 15) rfl dX8_takesPlain_140 lX8_67 (by decide) (rf_60) (by simp [rf_c]) (ji_fitZ (by first | omega | decide)) rfl (rf_pmm) ?_
                                  refine ji_iload_n dX8_takesPlain_143 rfl ?_
                                  exact ji_ireturn dX8_takesPlain_144 rfl (by first | rfl | exact ji_narB (by omega)) ⟨by unfold rf_tp; (try unfold rf_in); first | rfl | ((repeat' split) <;> first | rfl | (exfalso; omega)), by unfold rf_tp; first | rfl | ((repeat' split) <;> first | rfl | (exfalso; omega))⟩
                              · try (exfalso; omega)
                                all_goals
                                  refine ji_iconst dX8_takesPlain_135 ?_
                                  refine ji_goto (tgt := 140) dX8_takesPlain_136 rfl ?_
                                  refine ji_putE (ci := 8) (k := 15) rfl dX8_takesPlain_140 lX8_67 (by decide) (rf_60) (by simp [rf_c]) (ji_fitZ (by first | omega | decide)) rfl (rf_pmm) ?_
                                  refine ji_iload_n dX8_takesPlain_143 rfl ?_
                                  exact ji_ireturn dX8_takesPlain_144 rfl (by first | rfl | exact ji_narB (by omega)) ⟨by unfold rf_tp; (try unfold rf_in); first | rfl | ((repeat' split) <;> first | rfl | (exfalso; omega)), by unfold rf_tp; first | rfl | ((repeat' split) <;> first | rfl | (exfalso; omega))⟩
                      · try (exfalso; omega)
                        all_goals
                          refine ji_iconst dX8_takesPlain_114 ?_
                          refine ji_goto (tgt := 119) dX8_takesPlain_115 rfl ?_
                          refine ji_iadd dX8_takesPlain_119 ?_
                          refine ji_putE (ci := 8) (k := 11) rfl dX8_takesPlain_120 lX8_57 (by decide) (rf_60) (by simp [rf_c]) (ji_fitI _) rfl (rf_prs) ?_
                          refine ji_aload_n dX8_takesPlain_123 rfl trivial ?_
                          refine ji_aload_n dX8_takesPlain_124 rfl trivial ?_
                          refine ji_get (ci := 8) (k := 15) rfl dX8_takesPlain_125 lX8_67 (by decide) (rf_60) rfl ?_
                          refine ji_if_eq (tgt := 139) dX8_takesPlain_128 rfl (by omega) (fun c128 => ?_) (fun c128 => ?_)
                          · try (exfalso; omega)
                            all_goals
                              refine ji_iconst dX8_takesPlain_139 ?_
                              refine ji_putE (ci := 8) (k := 15) rfl dX8_takesPlain_140 lX8_67 (by decide) (rf_60) (by simp [rf_c]) (ji_fitZ (by first | omega | decide)) rfl (rf_pmm) ?_
                              refine ji_iload_n dX8_takesPlain_143 rfl ?_
                              exact ji_ireturn dX8_takesPlain_144 rfl (by first | rfl | exact ji_narB (by omega)) ⟨by unfold rf_tp; (try unfold rf_in); first | rfl | ((repeat' split) <;> first | rfl | (exfalso; omega)), by unfold rf_tp; first | rfl | ((repeat' split) <;> first | rfl | (exfalso; omega))⟩
                          · try (exfalso; omega)
                            all_goals
                              refine ji_iload_n dX8_takesPlain_131 rfl ?_
                              refine ji_if_ne (tgt := 139) dX8_takesPlain_132 rfl (by omega) (fun c132 => ?_) (fun c132 => ?_)
                              · try (exfalso; omega)
                                all_goals
                                  refine ji_iconst dX8_takesPlain_139 ?_
                                  refine ji_putE (ci := 8) (k := 15) rfl dX8_takesPlain_140 lX8_67 (by decide) (rf_60) (by simp [rf_c]) (ji_fitZ (by first | omega | decide)) rfl (rf_pmm) ?_
                                  refine ji_iload_n dX8_takesPlain_143 rfl ?_
                                  exact ji_ireturn dX8_takesPlain_144 rfl (by first | rfl | exact ji_narB (by omega)) ⟨by unfold rf_tp; (try unfold rf_in); first | rfl | ((repeat' split) <;> first | rfl | (exfalso; omega)), by unfold rf_tp; first | rfl | ((repeat' split) <;> first | rfl | (exfalso; omega))⟩
                              · try (exfalso; omega)
                                all_goals
                                  refine ji_iconst dX8_takesPlain_135 ?_
                                  refine ji_goto (tgt := 140) dX8_takesPlain_136 rfl ?_
                                  refine ji_putE (ci := 8) (k := 15) rfl dX8_takesPlain_140 lX8_67 (by decide) (rf_60) (by simp [rf_c]) (ji_fitZ (by first | omega | decide)) rfl (rf_pmm) ?_
                                  refine ji_iload_n dX8_takesPlain_143 rfl ?_
                                  exact ji_ireturn dX8_takesPlain_144 rfl (by first | rfl | exact ji_narB (by omega)) ⟨by unfold rf_tp; (try unfold rf_in); first | rfl | ((repeat' split) <;> first | rfl | (exfalso; omega)), by unfold rf_tp; first | rfl | ((repeat' split) <;> first | rfl | (exfalso; omega))⟩
      · try (exfalso; omega)
        all_goals
          refine ji_aload_n dX8_takesPlain_38 rfl trivial ?_
          refine ji_get (ci := 8) (k := 11) rfl dX8_takesPlain_39 lX8_57 (by decide) (rf_60) rfl ?_
          refine ji_if_le (tgt := 56) dX8_takesPlain_42 rfl (by omega) (fun c42 => ?_) (fun c42 => ?_)
          · try (exfalso; omega)
            all_goals
              refine ji_iconst dX8_takesPlain_56 ?_
              refine ji_istore_n dX8_takesPlain_57 (by decide) rfl ?_
              refine ji_aload_n dX8_takesPlain_58 rfl trivial ?_
              refine ji_iload_n dX8_takesPlain_59 rfl ?_
              refine ji_if_eq (tgt := 67) dX8_takesPlain_60 rfl (by omega) (fun c60 => ?_) (fun c60 => ?_)
              · try (exfalso; omega)
                all_goals
                  refine ji_aload_n dX8_takesPlain_67 rfl trivial ?_
                  refine ji_get (ci := 8) (k := 12) rfl dX8_takesPlain_68 lX8_60 (by decide) (rf_60) rfl ?_
                  refine ji_putE (ci := 8) (k := 12) rfl dX8_takesPlain_71 lX8_60 (by decide) (rf_60) (by simp [rf_c]) (ji_fitI _) rfl (rf_prr) ?_
                  refine ji_iload_n dX8_takesPlain_74 rfl ?_
                  exact ji_ireturn dX8_takesPlain_75 rfl (by first | rfl | exact ji_narB (by omega)) ⟨by unfold rf_tp; (try unfold rf_in); first | rfl | ((repeat' split) <;> first | rfl | (exfalso; omega)), by unfold rf_tp; first | rfl | ((repeat' split) <;> first | rfl | (exfalso; omega))⟩
              · try (exfalso; omega)
                all_goals
                  refine ji_iconst dX8_takesPlain_63 ?_
                  refine ji_goto (tgt := 71) dX8_takesPlain_64 rfl ?_
                  refine ji_putE (ci := 8) (k := 12) rfl dX8_takesPlain_71 lX8_60 (by decide) (rf_60) (by simp [rf_c]) (ji_fitI _) rfl (rf_prr) ?_
                  refine ji_iload_n dX8_takesPlain_74 rfl ?_
                  exact ji_ireturn dX8_takesPlain_75 rfl (by first | rfl | exact ji_narB (by omega)) ⟨by unfold rf_tp; (try unfold rf_in); first | rfl | ((repeat' split) <;> first | rfl | (exfalso; omega)), by unfold rf_tp; first | rfl | ((repeat' split) <;> first | rfl | (exfalso; omega))⟩
          · try (exfalso; omega)
            all_goals
              refine ji_aload_n dX8_takesPlain_45 rfl trivial ?_
              refine ji_get (ci := 8) (k := 12) rfl dX8_takesPlain_46 lX8_60 (by decide) (rf_60) rfl ?_
              refine ji_if_ne (tgt := 56) dX8_takesPlain_49 rfl (by omega) (fun c49 => ?_) (fun c49 => ?_)
              · try (exfalso; omega)
                all_goals
                  refine ji_iconst dX8_takesPlain_56 ?_
                  refine ji_istore_n dX8_takesPlain_57 (by decide) rfl ?_
                  refine ji_aload_n dX8_takesPlain_58 rfl trivial ?_
                  refine ji_iload_n dX8_takesPlain_59 rfl ?_
                  refine ji_if_eq (tgt := 67) dX8_takesPlain_60 rfl (by omega) (fun c60 => ?_) (fun c60 => ?_)
                  · try (exfalso; omega)
                    all_goals
                      refine ji_aload_n dX8_takesPlain_67 rfl trivial ?_
                      refine ji_get (ci := 8) (k := 12) rfl dX8_takesPlain_68 lX8_60 (by decide) (rf_60) rfl ?_
                      refine ji_putE (ci := 8) (k := 12) rfl dX8_takesPlain_71 lX8_60 (by decide) (rf_60) (by simp [rf_c]) (ji_fitI _) rfl (rf_prr) ?_
                      refine ji_iload_n dX8_takesPlain_74 rfl ?_
                      exact ji_ireturn dX8_takesPlain_75 rfl (by first | rfl | exact ji_narB (by omega)) ⟨by unfold rf_tp; (try unfold rf_in); first | rfl | ((repeat' split) <;> first | rfl | (exfalso; omega)), by unfold rf_tp; first | rfl | ((repeat' split) <;> first | rfl | (exfalso; omega))⟩
                  · try (exfalso; omega)
                    all_goals
                      refine ji_iconst dX8_takesPlain_63 ?_
                      refine ji_goto (tgt := 71) dX8_takesPlain_64 rfl ?_
                      refine ji_putE (ci := 8) (k := 12) rfl dX8_takesPlain_71 lX8_60 (by decide) (rf_60) (by simp [rf_c]) (ji_fitI _) rfl (rf_prr) ?_
                      refine ji_iload_n dX8_takesPlain_74 rfl ?_
                      exact ji_ireturn dX8_takesPlain_75 rfl (by first | rfl | exact ji_narB (by omega)) ⟨by unfold rf_tp; (try unfold rf_in); first | rfl | ((repeat' split) <;> first | rfl | (exfalso; omega)), by unfold rf_tp; first | rfl | ((repeat' split) <;> first | rfl | (exfalso; omega))⟩
              · try (exfalso; omega)
                all_goals
                  refine ji_iconst dX8_takesPlain_52 ?_
                  refine ji_goto (tgt := 57) dX8_takesPlain_53 rfl ?_
                  refine ji_istore_n dX8_takesPlain_57 (by decide) rfl ?_
                  refine ji_aload_n dX8_takesPlain_58 rfl trivial ?_
                  refine ji_iload_n dX8_takesPlain_59 rfl ?_
                  refine ji_if_eq (tgt := 67) dX8_takesPlain_60 rfl (by omega) (fun c60 => ?_) (fun c60 => ?_)
                  · try (exfalso; omega)
                    all_goals
                      refine ji_aload_n dX8_takesPlain_67 rfl trivial ?_
                      refine ji_get (ci := 8) (k := 12) rfl dX8_takesPlain_68 lX8_60 (by decide) (rf_60) rfl ?_
                      refine ji_putE (ci := 8) (k := 12) rfl dX8_takesPlain_71 lX8_60 (by decide) (rf_60) (by simp [rf_c]) (ji_fitI _) rfl (rf_prr) ?_
                      refine ji_iload_n dX8_takesPlain_74 rfl ?_
                      exact ji_ireturn dX8_takesPlain_75 rfl (by first | rfl | exact ji_narB (by omega)) ⟨by unfold rf_tp; (try unfold rf_in); first | rfl | ((repeat' split) <;> first | rfl | (exfalso; omega)), by unfold rf_tp; first | rfl | ((repeat' split) <;> first | rfl | (exfalso; omega))⟩
                  · try (exfalso; omega)
                    all_goals
                      refine ji_iconst dX8_takesPlain_63 ?_
                      refine ji_goto (tgt := 71) dX8_takesPlain_64 rfl ?_
                      refine ji_putE (ci := 8) (k := 12) rfl dX8_takesPlain_71 lX8_60 (by decide) (rf_60) (by simp [rf_c]) (ji_fitI _) rfl (rf_prr) ?_
                      refine ji_iload_n dX8_takesPlain_74 rfl ?_
                      exact ji_ireturn dX8_takesPlain_75 rfl (by first | rfl | exact ji_narB (by omega)) ⟨by unfold rf_tp; (try unfold rf_in); first | rfl | ((repeat' split) <;> first | rfl | (exfalso; omega)), by unfold rf_tp; first | rfl | ((repeat' split) <;> first | rfl | (exfalso; omega))⟩
  · try (exfalso; omega)
    all_goals
      refine ji_iload_n dX8_takesPlain_8 rfl ?_
      refine ji_bipush dX8_takesPlain_9 rfl ?_
      refine ji_bipush dX8_takesPlain_11 rfl ?_
      refine ji_cS dX8_takesPlain_13 (r_within (by omega) (by omega) (by omega)) rfl wX8_within sX8_within lX8_50 rfl (Nat.le_of_ble_eq_true rfl) rfl ?_
      refine ji_istore_n dX8_takesPlain_16 (by decide) rfl ?_
      refine ji_aload_n dX8_takesPlain_17 rfl trivial ?_
      refine ji_iload_n dX8_takesPlain_18 rfl ?_
      refine ji_if_eq (tgt := 26) dX8_takesPlain_19 rfl (by omega) (fun c19 => ?_) (fun c19 => ?_)
      · try (exfalso; omega)
        all_goals
          refine ji_iconst dX8_takesPlain_26 ?_
          refine ji_putE (ci := 8) (k := 12) rfl dX8_takesPlain_27 lX8_60 (by decide) (rf_60) (by simp [rf_c]) (ji_fitI _) rfl (rf_prr) ?_
          refine ji_iload_n dX8_takesPlain_30 rfl ?_
          exact ji_ireturn dX8_takesPlain_31 rfl (by first | rfl | exact ji_narB (by omega)) ⟨by unfold rf_tp; (try unfold rf_in); first | rfl | ((repeat' split) <;> first | rfl | (exfalso; omega)), by unfold rf_tp; first | rfl | ((repeat' split) <;> first | rfl | (exfalso; omega))⟩
      · try (exfalso; omega)
        all_goals
          refine ji_iconst dX8_takesPlain_22 ?_
          refine ji_goto (tgt := 27) dX8_takesPlain_23 rfl ?_
          refine ji_putE (ci := 8) (k := 12) rfl dX8_takesPlain_27 lX8_60 (by decide) (rf_60) (by simp [rf_c]) (ji_fitI _) rfl (rf_prr) ?_
          refine ji_iload_n dX8_takesPlain_30 rfl ?_
          exact ji_ireturn dX8_takesPlain_31 rfl (by first | rfl | exact ji_narB (by omega)) ⟨by unfold rf_tp; (try unfold rf_in); first | rfl | ((repeat' split) <;> first | rfl | (exfalso; omega)), by unfold rf_tp; first | rfl | ((repeat' split) <;> first | rfl | (exfalso; omega))⟩

set_option maxHeartbeats 4000000 in
set_option maxRecDepth 100000 in
theorem r_takes {c b i : Int} (hb : b = 0 ∨ b = 1) (b_c : -2147483648 ≤ c ∧ c < 2147483648) (hsk : rf_sk i rs rr rq rp mm) (hi : 0 ≤ i ∧ i ≤ 200) : JR G (d + 3) mX8_takes [.ref 60, .int (jI c), .int (jI b)] (n, rf_f f th z kp ed nt nl wi ht sy sz bf rs rr rq rp mm ln lo lf lt co ro pg pf hsh) 0 0 (some (.int (jI ((rf_tk b rs rr rq rp mm c).1)))) (n, rf_f f th z kp ed nt nl wi ht sy sz bf ((rf_tk b rs rr rq rp mm c).2.1) ((rf_tk b rs rr rq rp mm c).2.2.1) ((rf_tk b rs rr rq rp mm c).2.2.2.1) ((rf_tk b rs rr rq rp mm c).2.2.2.2.1) ((rf_tk b rs rr rq rp mm c).2.2.2.2.2) ln lo lf lt co ro pg pf hsh) := by
  obtain ⟨k1, k2, k3, k4, k5⟩ := id hsk
  have w_w := rf_wo_d rs rr
  have w_t := rf_tp_b rs rr rq rp mm c
  refine ji_ent (by decide) rfl (Nat.le_of_ble_eq_true rfl) rfl ?_
  refine ji_iload_n dX8_takes_0 rfl ?_
  refine ji_bipush dX8_takes_1 rfl ?_
  refine ji_icmp_ne (tgt := 61) dX8_takes_3 rfl (by omega) (by omega) (fun c3 => ?_) (fun c3 => ?_)
  · try (exfalso; omega)
    all_goals
      refine ji_iload_n dX8_takes_61 rfl ?_
      refine ji_bipush dX8_takes_62 rfl ?_
      refine ji_icmp_ne (tgt := 153) dX8_takes_64 rfl (by omega) (by omega) (fun c64 => ?_) (fun c64 => ?_)
      · try (exfalso; omega)
        all_goals
          refine ji_iload_n dX8_takes_153 rfl ?_
          refine ji_bipush dX8_takes_154 rfl ?_
          refine ji_icmp_eq (tgt := 165) dX8_takes_156 rfl (by omega) (by omega) (fun c156 => ?_) (fun c156 => ?_)
          · try (exfalso; omega)
            all_goals
              refine ji_iload_n dX8_takes_165 rfl ?_
              refine ji_if_eq (tgt := 180) dX8_takes_166 rfl (by omega) (fun c166 => ?_) (fun c166 => ?_)
              · try (exfalso; omega)
                all_goals
                  refine ji_iconst dX8_takes_180 ?_
                  refine ji_istore_n dX8_takes_181 (by decide) rfl ?_
                  refine ji_aload_n dX8_takes_182 rfl trivial ?_
                  refine ji_iconst dX8_takes_183 ?_
                  refine ji_putE (ci := 8) (k := 15) rfl dX8_takes_184 lX8_67 (by decide) (rf_60) (by simp [rf_c]) (ji_fitZ (by first | omega | decide)) rfl (rf_pmm) ?_
                  refine ji_iload_n dX8_takes_187 rfl ?_
                  exact ji_ireturn dX8_takes_188 rfl (by first | rfl | exact ji_narB (by omega) | exact ji_narB w_t) ⟨by unfold rf_tk; first | rfl | ((repeat' split) <;> first | rfl | (exfalso; omega)), by unfold rf_tk; first | rfl | ((repeat' split) <;> first | rfl | (exfalso; omega))⟩
              · try (exfalso; omega)
                all_goals
                  refine ji_aload_n dX8_takes_169 rfl trivial ?_
                  refine ji_get (ci := 8) (k := 15) rfl dX8_takes_170 lX8_67 (by decide) (rf_60) rfl ?_
                  refine ji_if_eq (tgt := 180) dX8_takes_173 rfl (by omega) (fun c173 => ?_) (fun c173 => ?_)
                  · try (exfalso; omega)
                    all_goals
                      refine ji_iconst dX8_takes_180 ?_
                      refine ji_istore_n dX8_takes_181 (by decide) rfl ?_
                      refine ji_aload_n dX8_takes_182 rfl trivial ?_
                      refine ji_iconst dX8_takes_183 ?_
                      refine ji_putE (ci := 8) (k := 15) rfl dX8_takes_184 lX8_67 (by decide) (rf_60) (by simp [rf_c]) (ji_fitZ (by first | omega | decide)) rfl (rf_pmm) ?_
                      refine ji_iload_n dX8_takes_187 rfl ?_
                      exact ji_ireturn dX8_takes_188 rfl (by first | rfl | exact ji_narB (by omega) | exact ji_narB w_t) ⟨by unfold rf_tk; first | rfl | ((repeat' split) <;> first | rfl | (exfalso; omega)), by unfold rf_tk; first | rfl | ((repeat' split) <;> first | rfl | (exfalso; omega))⟩
                  · try (exfalso; omega)
                    all_goals
                      refine ji_iconst dX8_takes_176 ?_
                      refine ji_goto (tgt := 181) dX8_takes_177 rfl ?_
                      refine ji_istore_n dX8_takes_181 (by decide) rfl ?_
                      refine ji_aload_n dX8_takes_182 rfl trivial ?_
                      refine ji_iconst dX8_takes_183 ?_
                      refine ji_putE (ci := 8) (k := 15) rfl dX8_takes_184 lX8_67 (by decide) (rf_60) (by simp [rf_c]) (ji_fitZ (by first | omega | decide)) rfl (rf_pmm) ?_
                      refine ji_iload_n dX8_takes_187 rfl ?_
                      exact ji_ireturn dX8_takes_188 rfl (by first | rfl | exact ji_narB (by omega) | exact ji_narB w_t) ⟨by unfold rf_tk; first | rfl | ((repeat' split) <;> first | rfl | (exfalso; omega)), by unfold rf_tk; first | rfl | ((repeat' split) <;> first | rfl | (exfalso; omega))⟩
          · try (exfalso; omega)
            all_goals
              refine ji_iload_n dX8_takes_159 rfl ?_
              refine ji_bipush dX8_takes_160 rfl ?_
              refine ji_icmp_ne (tgt := 189) dX8_takes_162 rfl (by omega) (by omega) (fun c162 => ?_) (fun c162 => ?_)
              · try (exfalso; omega)
                all_goals
                  refine ji_aload_n dX8_takes_189 rfl trivial ?_
                  refine ji_iload_n dX8_takes_190 rfl ?_
                  refine ji_cV dX8_takes_191 (r_takesPlain (by omega) hsk hi) rfl (rf_60) rfl rfl wX8_takesPlain vX8_takesPlain lX8_85 rfl (Nat.le_of_ble_eq_true rfl) rfl ?_
                  exact ji_ireturn dX8_takes_194 rfl (by first | rfl | exact ji_narB (by omega) | exact ji_narB w_t) ⟨by unfold rf_tk; first | rfl | ((repeat' split) <;> first | rfl | (exfalso; omega)), by unfold rf_tk; first | rfl | ((repeat' split) <;> first | rfl | (exfalso; omega))⟩
              · try (exfalso; omega)
                all_goals
                  refine ji_iload_n dX8_takes_165 rfl ?_
                  refine ji_if_eq (tgt := 180) dX8_takes_166 rfl (by omega) (fun c166 => ?_) (fun c166 => ?_)
                  · try (exfalso; omega)
                    all_goals
                      refine ji_iconst dX8_takes_180 ?_
                      refine ji_istore_n dX8_takes_181 (by decide) rfl ?_
                      refine ji_aload_n dX8_takes_182 rfl trivial ?_
                      refine ji_iconst dX8_takes_183 ?_
                      refine ji_putE (ci := 8) (k := 15) rfl dX8_takes_184 lX8_67 (by decide) (rf_60) (by simp [rf_c]) (ji_fitZ (by first | omega | decide)) rfl (rf_pmm) ?_
                      refine ji_iload_n dX8_takes_187 rfl ?_
                      exact ji_ireturn dX8_takes_188 rfl (by first | rfl | exact ji_narB (by omega) | exact ji_narB w_t) ⟨by unfold rf_tk; first | rfl | ((repeat' split) <;> first | rfl | (exfalso; omega)), by unfold rf_tk; first | rfl | ((repeat' split) <;> first | rfl | (exfalso; omega))⟩
                  · try (exfalso; omega)
                    all_goals
                      refine ji_aload_n dX8_takes_169 rfl trivial ?_
                      refine ji_get (ci := 8) (k := 15) rfl dX8_takes_170 lX8_67 (by decide) (rf_60) rfl ?_
                      refine ji_if_eq (tgt := 180) dX8_takes_173 rfl (by omega) (fun c173 => ?_) (fun c173 => ?_)
                      · try (exfalso; omega)
                        all_goals
                          refine ji_iconst dX8_takes_180 ?_
                          refine ji_istore_n dX8_takes_181 (by decide) rfl ?_
                          refine ji_aload_n dX8_takes_182 rfl trivial ?_
                          refine ji_iconst dX8_takes_183 ?_
                          refine ji_putE (ci := 8) (k := 15) rfl dX8_takes_184 lX8_67 (by decide) (rf_60) (by simp [rf_c]) (ji_fitZ (by first | omega | decide)) rfl (rf_pmm) ?_
                          refine ji_iload_n dX8_takes_187 rfl ?_
                          exact ji_ireturn dX8_takes_188 rfl (by first | rfl | exact ji_narB (by omega) | exact ji_narB w_t) ⟨by unfold rf_tk; first | rfl | ((repeat' split) <;> first | rfl | (exfalso; omega)), by unfold rf_tk; first | rfl | ((repeat' split) <;> first | rfl | (exfalso; omega))⟩
                      · try (exfalso; omega)
                        all_goals
                          refine ji_iconst dX8_takes_176 ?_
                          refine ji_goto (tgt := 181) dX8_takes_177 rfl ?_
                          refine ji_istore_n dX8_takes_181 (by decide) rfl ?_
                          refine ji_aload_n dX8_takes_182 rfl trivial ?_
                          refine ji_iconst dX8_takes_183 ?_
                          refine ji_putE (ci := 8) (k := 15) rfl dX8_takes_184 lX8_67 (by decide) (rf_60) (by simp [rf_c]) (ji_fitZ (by first | omega | decide)) rfl (rf_pmm) ?_
                          refine ji_iload_n dX8_takes_187 rfl ?_
                          exact ji_ireturn dX8_takes_188 rfl (by first | rfl | exact ji_narB (by omega) | exact ji_narB w_t) ⟨by unfold rf_tk; first | rfl | ((repeat' split) <;> first | rfl | (exfalso; omega)), by unfold rf_tk; first | rfl | ((repeat' split) <;> first | rfl | (exfalso; omega))⟩
      · try (exfalso; omega)
        all_goals
          refine ji_iload_n dX8_takes_67 rfl ?_
          refine ji_if_eq (tgt := 91) dX8_takes_68 rfl (by omega) (fun c68 => ?_) (fun c68 => ?_)
          · try (exfalso; omega)
            all_goals
              refine ji_iconst dX8_takes_91 ?_
              refine ji_istore_n dX8_takes_92 (by decide) rfl ?_
              refine ji_aload_n dX8_takes_93 rfl trivial ?_
              refine ji_dup dX8_takes_94 rfl ?_
              refine ji_get (ci := 8) (k := 14) rfl dX8_takes_95 lX8_82 (by decide) (rf_60) rfl ?_
              refine ji_iload_n dX8_takes_98 rfl ?_
              refine ji_if_eq (tgt := 106) dX8_takes_99 rfl (by omega) (fun c99 => ?_) (fun c99 => ?_)
              · try (exfalso; omega)
                all_goals
                  refine ji_iconst dX8_takes_106 ?_
                  refine ji_iadd dX8_takes_107 ?_
                  refine ji_putE (ci := 8) (k := 14) rfl dX8_takes_108 lX8_82 (by decide) (rf_60) (by simp [rf_c]) (ji_fitI _) rfl (rf_prp) ?_
                  refine ji_aload_n dX8_takes_111 rfl trivial ?_
                  refine ji_iload_n dX8_takes_112 rfl ?_
                  refine ji_if_eq (tgt := 120) dX8_takes_113 rfl (by omega) (fun c113 => ?_) (fun c113 => ?_)
                  · try (exfalso; omega)
                    all_goals
                      refine ji_aload_n dX8_takes_120 rfl trivial ?_
                      refine ji_get (ci := 8) (k := 13) rfl dX8_takes_121 lX8_75 (by decide) (rf_60) rfl ?_
                      refine ji_putE (ci := 8) (k := 13) rfl dX8_takes_124 lX8_75 (by decide) (rf_60) (by simp [rf_c]) (ji_fitI _) rfl (rf_prq) ?_
                      refine ji_aload_n dX8_takes_127 rfl trivial ?_
                      refine ji_iload_n dX8_takes_128 rfl ?_
                      refine ji_if_ne (tgt := 139) dX8_takes_129 rfl (by omega) (fun c129 => ?_) (fun c129 => ?_)
                      · try (exfalso; omega)
                        all_goals
                          refine ji_iconst dX8_takes_139 ?_
                          refine ji_goto (tgt := 144) dX8_takes_140 rfl ?_
                          refine ji_putE (ci := 8) (k := 15) rfl dX8_takes_144 lX8_67 (by decide) (rf_60) (by simp [rf_c]) (ji_fitZ (by first | omega | decide)) rfl (rf_pmm) ?_
                          refine ji_aload_n dX8_takes_147 rfl trivial ?_
                          refine ji_iload_n dX8_takes_148 rfl ?_
                          first | refine ji_cV dX8_takes_149 (r_fresh1) rfl (rf_60) rfl rfl wX8_fresh vX8_fresh lX8_78 rfl (Nat.le_of_ble_eq_true rfl) rfl ?_ | refine ji_cV dX8_takes_149 (r_fresh0) rfl (rf_60) rfl rfl wX8_fresh vX8_fresh lX8_78 rfl (Nat.le_of_ble_eq_true rfl) rfl ?_
                          exact ji_ireturn dX8_takes_152 rfl (by first | rfl | exact ji_narB (by omega) | exact ji_narB w_t) ⟨by unfold rf_tk; first | rfl | ((repeat' split) <;> first | rfl | (exfalso; omega)), by unfold rf_tk; first | rfl | ((repeat' split) <;> first | rfl | (exfalso; omega))⟩
                      · try (exfalso; omega)
                        all_goals
                          refine ji_aload_n dX8_takes_132 rfl trivial ?_
                          refine ji_get (ci := 8) (k := 15) rfl dX8_takes_133 lX8_67 (by decide) (rf_60) rfl ?_
                          refine ji_if_eq (tgt := 143) dX8_takes_136 rfl (by omega) (fun c136 => ?_) (fun c136 => ?_)
                          · try (exfalso; omega)
                            all_goals
                              refine ji_iconst dX8_takes_143 ?_
                              refine ji_putE (ci := 8) (k := 15) rfl dX8_takes_144 lX8_67 (by decide) (rf_60) (by simp [rf_c]) (ji_fitZ (by first | omega | decide)) rfl (rf_pmm) ?_
                              refine ji_aload_n dX8_takes_147 rfl trivial ?_
                              refine ji_iload_n dX8_takes_148 rfl ?_
                              first | refine ji_cV dX8_takes_149 (r_fresh1) rfl (rf_60) rfl rfl wX8_fresh vX8_fresh lX8_78 rfl (Nat.le_of_ble_eq_true rfl) rfl ?_ | refine ji_cV dX8_takes_149 (r_fresh0) rfl (rf_60) rfl rfl wX8_fresh vX8_fresh lX8_78 rfl (Nat.le_of_ble_eq_true rfl) rfl ?_
                              exact ji_ireturn dX8_takes_152 rfl (by first | rfl | exact ji_narB (by omega) | exact ji_narB w_t) ⟨by unfold rf_tk; first | rfl | ((repeat' split) <;> first | rfl | (exfalso; omega)), by unfold rf_tk; first | rfl | ((repeat' split) <;> first | rfl | (exfalso; omega))⟩
                          · try (exfalso; omega)
                            all_goals
                              refine ji_iconst dX8_takes_139 ?_
                              refine ji_goto (tgt := 144) dX8_takes_140 rfl ?_
                              refine ji_putE (ci := 8) (k := 15) rfl dX8_takes_144 lX8_67 (by decide) (rf_60) (by simp [rf_c]) (ji_fitZ (by first | omega | decide)) rfl (rf_pmm) ?_
                              refine ji_aload_n dX8_takes_147 rfl trivial ?_
                              refine ji_iload_n dX8_takes_148 rfl ?_
                              first | refine ji_cV dX8_takes_149 (r_fresh1) rfl (rf_60) rfl rfl wX8_fresh vX8_fresh lX8_78 rfl (Nat.le_of_ble_eq_true rfl) rfl ?_ | refine ji_cV dX8_takes_149 (r_fresh0) rfl (rf_60) rfl rfl wX8_fresh vX8_fresh lX8_78 rfl (Nat.le_of_ble_eq_true rfl) rfl ?_
                              exact ji_ireturn dX8_takes_152 rfl (by first | rfl | exact ji_narB (by omega) | exact ji_narB w_t) ⟨by unfold rf_tk; first | rfl | ((repeat' split) <;> first | rfl | (exfalso; omega)), by unfold rf_tk; first | rfl | ((repeat' split) <;> first | rfl | (exfalso; omega))⟩
                  · try (exfalso; omega)
                    all_goals
                      refine ji_iconst dX8_takes_116 ?_
                      refine ji_goto (tgt := 124) dX8_takes_117 rfl ?_
                      refine ji_putE (ci := 8) (k := 13) rfl dX8_takes_124 lX8_75 (by decide) (rf_60) (by simp [rf_c]) (ji_fitI _) rfl (rf_prq) ?_
                      refine ji_aload_n dX8_takes_127 rfl trivial ?_
                      refine ji_iload_n dX8_takes_128 rfl ?_
                      refine ji_if_ne (tgt := 139) dX8_takes_129 rfl (by omega) (fun c129 => ?_) (fun c129 => ?_)
                      · try (exfalso; omega)
                        all_goals
                          refine ji_iconst dX8_takes_139 ?_
                          refine ji_goto (tgt := 144) dX8_takes_140 rfl ?_
                          refine ji_putE (ci := 8) (k := 15) rfl dX8_takes_144 lX8_67 (by decide) (rf_60) (by simp [rf_c]) (ji_fitZ (by first | omega | decide)) rfl (rf_pmm) ?_
                          refine ji_aload_n dX8_takes_147 rfl trivial ?_
                          refine ji_iload_n dX8_takes_148 rfl ?_
                          first | refine ji_cV dX8_takes_149 (r_fresh1) rfl (rf_60) rfl rfl wX8_fresh vX8_fresh lX8_78 rfl (Nat.le_of_ble_eq_true rfl) rfl ?_ | refine ji_cV dX8_takes_149 (r_fresh0) rfl (rf_60) rfl rfl wX8_fresh vX8_fresh lX8_78 rfl (Nat.le_of_ble_eq_true rfl) rfl ?_
                          exact ji_ireturn dX8_takes_152 rfl (by first | rfl | exact ji_narB (by omega) | exact ji_narB w_t) ⟨by unfold rf_tk; first | rfl | ((repeat' split) <;> first | rfl | (exfalso; omega)), by unfold rf_tk; first | rfl | ((repeat' split) <;> first | rfl | (exfalso; omega))⟩
                      · try (exfalso; omega)
                        all_goals
                          refine ji_aload_n dX8_takes_132 rfl trivial ?_
                          refine ji_get (ci := 8) (k := 15) rfl dX8_takes_133 lX8_67 (by decide) (rf_60) rfl ?_
                          refine ji_if_eq (tgt := 143) dX8_takes_136 rfl (by omega) (fun c136 => ?_) (fun c136 => ?_)
                          · try (exfalso; omega)
                            all_goals
                              refine ji_iconst dX8_takes_143 ?_
                              refine ji_putE (ci := 8) (k := 15) rfl dX8_takes_144 lX8_67 (by decide) (rf_60) (by simp [rf_c]) (ji_fitZ (by first | omega | decide)) rfl (rf_pmm) ?_
                              refine ji_aload_n dX8_takes_147 rfl trivial ?_
                              refine ji_iload_n dX8_takes_148 rfl ?_
                              first | refine ji_cV dX8_takes_149 (r_fresh1) rfl (rf_60) rfl rfl wX8_fresh vX8_fresh lX8_78 rfl (Nat.le_of_ble_eq_true rfl) rfl ?_ | refine ji_cV dX8_takes_149 (r_fresh0) rfl (rf_60) rfl rfl wX8_fresh vX8_fresh lX8_78 rfl (Nat.le_of_ble_eq_true rfl) rfl ?_
                              exact ji_ireturn dX8_takes_152 rfl (by first | rfl | exact ji_narB (by omega) | exact ji_narB w_t) ⟨by unfold rf_tk; first | rfl | ((repeat' split) <;> first | rfl | (exfalso; omega)), by unfold rf_tk; first | rfl | ((repeat' split) <;> first | rfl | (exfalso; omega))⟩
                          · try (exfalso; omega)
                            all_goals
                              refine ji_iconst dX8_takes_139 ?_
                              refine ji_goto (tgt := 144) dX8_takes_140 rfl ?_
                              refine ji_putE (ci := 8) (k := 15) rfl dX8_takes_144 lX8_67 (by decide) (rf_60) (by simp [rf_c]) (ji_fitZ (by first | omega | decide)) rfl (rf_pmm) ?_
                              refine ji_aload_n dX8_takes_147 rfl trivial ?_
                              refine ji_iload_n dX8_takes_148 rfl ?_
                              first | refine ji_cV dX8_takes_149 (r_fresh1) rfl (rf_60) rfl rfl wX8_fresh vX8_fresh lX8_78 rfl (Nat.le_of_ble_eq_true rfl) rfl ?_ | refine ji_cV dX8_takes_149 (r_fresh0) rfl (rf_60) rfl rfl wX8_fresh vX8_fresh lX8_78 rfl (Nat.le_of_ble_eq_true rfl) rfl ?_
                              exact ji_ireturn dX8_takes_152 rfl (by first | rfl | exact ji_narB (by omega) | exact ji_narB w_t) ⟨by unfold rf_tk; first | rfl | ((repeat' split) <;> first | rfl | (exfalso; omega)), by unfold rf_tk; first | rfl | ((repeat' split) <;> first | rfl | (exfalso; omega))⟩
              · try (exfalso; omega)
                all_goals
                  refine ji_iconst dX8_takes_102 ?_
                  refine ji_goto (tgt := 107) dX8_takes_103 rfl ?_
                  refine ji_iadd dX8_takes_107 ?_
                  refine ji_putE (ci := 8) (k := 14) rfl dX8_takes_108 lX8_82 (by decide) (rf_60) (by simp [rf_c]) (ji_fitI _) rfl (rf_prp) ?_
                  refine ji_aload_n dX8_takes_111 rfl trivial ?_
                  refine ji_iload_n dX8_takes_112 rfl ?_
                  refine ji_if_eq (tgt := 120) dX8_takes_113 rfl (by omega) (fun c113 => ?_) (fun c113 => ?_)
                  · try (exfalso; omega)
                    all_goals
                      refine ji_aload_n dX8_takes_120 rfl trivial ?_
                      refine ji_get (ci := 8) (k := 13) rfl dX8_takes_121 lX8_75 (by decide) (rf_60) rfl ?_
                      refine ji_putE (ci := 8) (k := 13) rfl dX8_takes_124 lX8_75 (by decide) (rf_60) (by simp [rf_c]) (ji_fitI _) rfl (rf_prq) ?_
                      refine ji_aload_n dX8_takes_127 rfl trivial ?_
                      refine ji_iload_n dX8_takes_128 rfl ?_
                      refine ji_if_ne (tgt := 139) dX8_takes_129 rfl (by omega) (fun c129 => ?_) (fun c129 => ?_)
                      · try (exfalso; omega)
                        all_goals
                          refine ji_iconst dX8_takes_139 ?_
                          refine ji_goto (tgt := 144) dX8_takes_140 rfl ?_
                          refine ji_putE (ci := 8) (k := 15) rfl dX8_takes_144 lX8_67 (by decide) (rf_60) (by simp [rf_c]) (ji_fitZ (by first | omega | decide)) rfl (rf_pmm) ?_
                          refine ji_aload_n dX8_takes_147 rfl trivial ?_
                          refine ji_iload_n dX8_takes_148 rfl ?_
                          first | refine ji_cV dX8_takes_149 (r_fresh1) rfl (rf_60) rfl rfl wX8_fresh vX8_fresh lX8_78 rfl (Nat.le_of_ble_eq_true rfl) rfl ?_ | refine ji_cV dX8_takes_149 (r_fresh0) rfl (rf_60) rfl rfl wX8_fresh vX8_fresh lX8_78 rfl (Nat.le_of_ble_eq_true rfl) rfl ?_
                          exact ji_ireturn dX8_takes_152 rfl (by first | rfl | exact ji_narB (by omega) | exact ji_narB w_t) ⟨by unfold rf_tk; first | rfl | ((repeat' split) <;> first | rfl | (exfalso; omega)), by unfold rf_tk; first | rfl | ((repeat' split) <;> first | rfl | (exfalso; omega))⟩
                      · try (exfalso; omega)
                        all_goals
                          refine ji_aload_n dX8_takes_132 rfl trivial ?_
                          refine ji_get (ci := 8) (k := 15) rfl dX8_takes_133 lX8_67 (by decide) (rf_60) rfl ?_
                          refine ji_if_eq (tgt := 143) dX8_takes_136 rfl (by omega) (fun c136 => ?_) (fun c136 => ?_)
                          · try (exfalso; omega)
                            all_goals
                              refine ji_iconst dX8_takes_143 ?_
                              refine ji_putE (ci := 8) (k := 15) rfl dX8_takes_144 lX8_67 (by decide) (rf_60) (by simp [rf_c]) (ji_fitZ (by first | omega | decide)) rfl (rf_pmm) ?_
                              refine ji_aload_n dX8_takes_147 rfl trivial ?_
                              refine ji_iload_n dX8_takes_148 rfl ?_
                              first | refine ji_cV dX8_takes_149 (r_fresh1) rfl (rf_60) rfl rfl wX8_fresh vX8_fresh lX8_78 rfl (Nat.le_of_ble_eq_true rfl) rfl ?_ | refine ji_cV dX8_takes_149 (r_fresh0) rfl (rf_60) rfl rfl wX8_fresh vX8_fresh lX8_78 rfl (Nat.le_of_ble_eq_true rfl) rfl ?_
                              exact ji_ireturn dX8_takes_152 rfl (by first | rfl | exact ji_narB (by omega) | exact ji_narB w_t) ⟨by unfold rf_tk; first | rfl | ((repeat' split) <;> first | rfl | (exfalso; omega)), by unfold rf_tk; first | rfl | ((repeat' split) <;> first | rfl | (exfalso; omega))⟩
                          · try (exfalso; omega)
                            all_goals
                              refine ji_iconst dX8_takes_139 ?_
                              refine ji_goto (tgt := 144) dX8_takes_140 rfl ?_
                              refine ji_putE (ci := 8) (k := 15) rfl dX8_takes_144 lX8_67 (by decide) (rf_60) (by simp [rf_c]) (ji_fitZ (by first | omega | decide)) rfl (rf_pmm) ?_
                              refine ji_aload_n dX8_takes_147 rfl trivial ?_
                              refine ji_iload_n dX8_takes_148 rfl ?_
                              first | refine ji_cV dX8_takes_149 (r_fresh1) rfl (rf_60) rfl rfl wX8_fresh vX8_fresh lX8_78 rfl (Nat.le_of_ble_eq_true rfl) rfl ?_ | refine ji_cV dX8_takes_149 (r_fresh0) rfl (rf_60) rfl rfl wX8_fresh vX8_fresh lX8_78 rfl (Nat.le_of_ble_eq_true rfl) rfl ?_
                              exact ji_ireturn dX8_takes_152 rfl (by first | rfl | exact ji_narB (by omega) | exact ji_narB w_t) ⟨by unfold rf_tk; first | rfl | ((repeat' split) <;> first | rfl | (exfalso; omega)), by unfold rf_tk; first | rfl | ((repeat' split) <;> first | rfl | (exfalso; omega))⟩
                  · try (exfalso; omega)
                    all_goals
                      refine ji_iconst dX8_takes_116 ?_
                      refine ji_goto (tgt := 124) dX8_takes_117 rfl ?_
                      refine ji_putE (ci := 8) (k := 13) rfl dX8_takes_124 lX8_75 (by decide) (rf_60) (by simp [rf_c]) (ji_fitI _) rfl (rf_prq) ?_
                      refine ji_aload_n dX8_takes_127 rfl trivial ?_
                      refine ji_iload_n dX8_takes_128 rfl ?_
                      refine ji_if_ne (tgt := 139) dX8_takes_129 rfl (by omega) (fun c129 => ?_) (fun c129 => ?_)
                      · try (exfalso; omega)
                        all_goals
                          refine ji_iconst dX8_takes_139 ?_
                          refine ji_goto (tgt := 144) dX8_takes_140 rfl ?_
                          refine ji_putE (ci := 8) (k := 15) rfl dX8_takes_144 lX8_67 (by decide) (rf_60) (by simp [rf_c]) (ji_fitZ (by first | omega | decide)) rfl (rf_pmm) ?_
                          refine ji_aload_n dX8_takes_147 rfl trivial ?_
                          refine ji_iload_n dX8_takes_148 rfl ?_
                          first | refine ji_cV dX8_takes_149 (r_fresh1) rfl (rf_60) rfl rfl wX8_fresh vX8_fresh lX8_78 rfl (Nat.le_of_ble_eq_true rfl) rfl ?_ | refine ji_cV dX8_takes_149 (r_fresh0) rfl (rf_60) rfl rfl wX8_fresh vX8_fresh lX8_78 rfl (Nat.le_of_ble_eq_true rfl) rfl ?_
                          exact ji_ireturn dX8_takes_152 rfl (by first | rfl | exact ji_narB (by omega) | exact ji_narB w_t) ⟨by unfold rf_tk; first | rfl | ((repeat' split) <;> first | rfl | (exfalso; omega)), by unfold rf_tk; first | rfl | ((repeat' split) <;> first | rfl | (exfalso; omega))⟩
                      · try (exfalso; omega)
                        all_goals
                          refine ji_aload_n dX8_takes_132 rfl trivial ?_
                          refine ji_get (ci := 8) (k := 15) rfl dX8_takes_133 lX8_67 (by decide) (rf_60) rfl ?_
                          refine ji_if_eq (tgt := 143) dX8_takes_136 rfl (by omega) (fun c136 => ?_) (fun c136 => ?_)
                          · try (exfalso; omega)
                            all_goals
                              refine ji_iconst dX8_takes_143 ?_
                              refine ji_putE (ci := 8) (k := 15) rfl dX8_takes_144 lX8_67 (by decide) (rf_60) (by simp [rf_c]) (ji_fitZ (by first | omega | decide)) rfl (rf_pmm) ?_
                              refine ji_aload_n dX8_takes_147 rfl trivial ?_
                              refine ji_iload_n dX8_takes_148 rfl ?_
                              first | refine ji_cV dX8_takes_149 (r_fresh1) rfl (rf_60) rfl rfl wX8_fresh vX8_fresh lX8_78 rfl (Nat.le_of_ble_eq_true rfl) rfl ?_ | refine ji_cV dX8_takes_149 (r_fresh0) rfl (rf_60) rfl rfl wX8_fresh vX8_fresh lX8_78 rfl (Nat.le_of_ble_eq_true rfl) rfl ?_
                              exact ji_ireturn dX8_takes_152 rfl (by first | rfl | exact ji_narB (by omega) | exact ji_narB w_t) ⟨by unfold rf_tk; first | rfl | ((repeat' split) <;> first | rfl | (exfalso; omega)), by unfold rf_tk; first | rfl | ((repeat' split) <;> first | rfl | (exfalso; omega))⟩
                          · try (exfalso; omega)
                            all_goals
                              refine ji_iconst dX8_takes_139 ?_
                              refine ji_goto (tgt := 144) dX8_takes_140 rfl ?_
                              refine ji_putE (ci := 8) (k := 15) rfl dX8_takes_144 lX8_67 (by decide) (rf_60) (by simp [rf_c]) (ji_fitZ (by first | omega | decide)) rfl (rf_pmm) ?_
                              refine ji_aload_n dX8_takes_147 rfl trivial ?_
                              refine ji_iload_n dX8_takes_148 rfl ?_
                              first | refine ji_cV dX8_takes_149 (r_fresh1) rfl (rf_60) rfl rfl wX8_fresh vX8_fresh lX8_78 rfl (Nat.le_of_ble_eq_true rfl) rfl ?_ | refine ji_cV dX8_takes_149 (r_fresh0) rfl (rf_60) rfl rfl wX8_fresh vX8_fresh lX8_78 rfl (Nat.le_of_ble_eq_true rfl) rfl ?_
                              exact ji_ireturn dX8_takes_152 rfl (by first | rfl | exact ji_narB (by omega) | exact ji_narB w_t) ⟨by unfold rf_tk; first | rfl | ((repeat' split) <;> first | rfl | (exfalso; omega)), by unfold rf_tk; first | rfl | ((repeat' split) <;> first | rfl | (exfalso; omega))⟩
          · try (exfalso; omega)
            all_goals
              refine ji_aload_n dX8_takes_71 rfl trivial ?_
              refine ji_cV dX8_takes_72 (r_isWordOver hsk hi) rfl (rf_60) rfl rfl wX8_isWordOver vX8_isWordOver lX8_71 rfl (Nat.le_of_ble_eq_true rfl) rfl ?_
              refine ji_if_eq (tgt := 91) dX8_takes_75 rfl (by omega) (fun c75 => ?_) (fun c75 => ?_)
              · try (exfalso; omega)
                all_goals
                  refine ji_iconst dX8_takes_91 ?_
                  refine ji_istore_n dX8_takes_92 (by decide) rfl ?_
                  refine ji_aload_n dX8_takes_93 rfl trivial ?_
                  refine ji_dup dX8_takes_94 rfl ?_
                  refine ji_get (ci := 8) (k := 14) rfl dX8_takes_95 lX8_82 (by decide) (rf_60) rfl ?_
                  refine ji_iload_n dX8_takes_98 rfl ?_
                  refine ji_if_eq (tgt := 106) dX8_takes_99 rfl (by omega) (fun c99 => ?_) (fun c99 => ?_)
                  · try (exfalso; omega)
                    all_goals
                      refine ji_iconst dX8_takes_106 ?_
                      refine ji_iadd dX8_takes_107 ?_
                      refine ji_putE (ci := 8) (k := 14) rfl dX8_takes_108 lX8_82 (by decide) (rf_60) (by simp [rf_c]) (ji_fitI _) rfl (rf_prp) ?_
                      refine ji_aload_n dX8_takes_111 rfl trivial ?_
                      refine ji_iload_n dX8_takes_112 rfl ?_
                      refine ji_if_eq (tgt := 120) dX8_takes_113 rfl (by omega) (fun c113 => ?_) (fun c113 => ?_)
                      · try (exfalso; omega)
                        all_goals
                          refine ji_aload_n dX8_takes_120 rfl trivial ?_
                          refine ji_get (ci := 8) (k := 13) rfl dX8_takes_121 lX8_75 (by decide) (rf_60) rfl ?_
                          refine ji_putE (ci := 8) (k := 13) rfl dX8_takes_124 lX8_75 (by decide) (rf_60) (by simp [rf_c]) (ji_fitI _) rfl (rf_prq) ?_
                          refine ji_aload_n dX8_takes_127 rfl trivial ?_
                          refine ji_iload_n dX8_takes_128 rfl ?_
                          refine ji_if_ne (tgt := 139) dX8_takes_129 rfl (by omega) (fun c129 => ?_) (fun c129 => ?_)
                          · try (exfalso; omega)
                            all_goals
                              refine ji_iconst dX8_takes_139 ?_
                              refine ji_goto (tgt := 144) dX8_takes_140 rfl ?_
                              refine ji_putE (ci := 8) (k := 15) rfl dX8_takes_144 lX8_67 (by decide) (rf_60) (by simp [rf_c]) (ji_fitZ (by first | omega | decide)) rfl (rf_pmm) ?_
                              refine ji_aload_n dX8_takes_147 rfl trivial ?_
                              refine ji_iload_n dX8_takes_148 rfl ?_
                              first | refine ji_cV dX8_takes_149 (r_fresh1) rfl (rf_60) rfl rfl wX8_fresh vX8_fresh lX8_78 rfl (Nat.le_of_ble_eq_true rfl) rfl ?_ | refine ji_cV dX8_takes_149 (r_fresh0) rfl (rf_60) rfl rfl wX8_fresh vX8_fresh lX8_78 rfl (Nat.le_of_ble_eq_true rfl) rfl ?_
                              exact ji_ireturn dX8_takes_152 rfl (by first | rfl | exact ji_narB (by omega) | exact ji_narB w_t) ⟨by unfold rf_tk; first | rfl | ((repeat' split) <;> first | rfl | (exfalso; omega)), by unfold rf_tk; first | rfl | ((repeat' split) <;> first | rfl | (exfalso; omega))⟩
                          · try (exfalso; omega)
                            all_goals
                              refine ji_aload_n dX8_takes_132 rfl trivial ?_
                              refine ji_get (ci := 8) (k := 15) rfl dX8_takes_133 lX8_67 (by decide) (rf_60) rfl ?_
                              refine ji_if_eq (tgt := 143) dX8_takes_136 rfl (by omega) (fun c136 => ?_) (fun c136 => ?_)
                              · try (exfalso; omega)
                                all_goals
                                  refine ji_iconst dX8_takes_143 ?_
                                  refine ji_putE (ci := 8) (k := 15) rfl dX8_takes_144 lX8_67 (by decide) (rf_60) (by simp [rf_c]) (ji_fitZ (by first | omega | decide)) rfl (rf_pmm) ?_
                                  refine ji_aload_n dX8_takes_147 rfl trivial ?_
                                  refine ji_iload_n dX8_takes_148 rfl ?_
                                  first | refine ji_cV dX8_takes_149 (r_fresh1) rfl (rf_60) rfl rfl wX8_fresh vX8_fresh lX8_78 rfl (Nat.le_of_ble_eq_true rfl) rfl ?_ | refine ji_cV dX8_takes_149 (r_fresh0) rfl (rf_60) rfl rfl wX8_fresh vX8_fresh lX8_78 rfl (Nat.le_of_ble_eq_true rfl) rfl ?_
                                  exact ji_ireturn dX8_takes_152 rfl (by first | rfl | exact ji_narB (by omega) | exact ji_narB w_t) ⟨by unfold rf_tk; first | rfl | ((repeat' split) <;> first | rfl | (exfalso; omega)), by unfold rf_tk; first | rfl | ((repeat' split) <;> first | rfl | (exfalso; omega))⟩
                              · try (exfalso; omega)
                                all_goals
                                  refine ji_iconst dX8_takes_139 ?_
                                  refine ji_goto (tgt := 144) dX8_takes_140 rfl ?_
                                  refine ji_putE (ci := 8) (k := 15) rfl dX8_takes_144 lX8_67 (by decide) (rf_60) (by simp [rf_c]) (ji_fitZ (by first | omega | decide)) rfl (rf_pmm) ?_
                                  refine ji_aload_n dX8_takes_147 rfl trivial ?_
                                  refine ji_iload_n dX8_takes_148 rfl ?_
                                  first | refine ji_cV dX8_takes_149 (r_fresh1) rfl (rf_60) rfl rfl wX8_fresh vX8_fresh lX8_78 rfl (Nat.le_of_ble_eq_true rfl) rfl ?_ | refine ji_cV dX8_takes_149 (r_fresh0) rfl (rf_60) rfl rfl wX8_fresh vX8_fresh lX8_78 rfl (Nat.le_of_ble_eq_true rfl) rfl ?_
                                  exact ji_ireturn dX8_takes_152 rfl (by first | rfl | exact ji_narB (by omega) | exact ji_narB w_t) ⟨by unfold rf_tk; first | rfl | ((repeat' split) <;> first | rfl | (exfalso; omega)), by unfold rf_tk; first | rfl | ((repeat' split) <;> first | rfl | (exfalso; omega))⟩
                      · try (exfalso; omega)
                        all_goals
                          refine ji_iconst dX8_takes_116 ?_
                          refine ji_goto (tgt := 124) dX8_takes_117 rfl ?_
                          refine ji_putE (ci := 8) (k := 13) rfl dX8_takes_124 lX8_75 (by decide) (rf_60) (by simp [rf_c]) (ji_fitI _) rfl (rf_prq) ?_
                          refine ji_aload_n dX8_takes_127 rfl trivial ?_
                          refine ji_iload_n dX8_takes_128 rfl ?_
                          refine ji_if_ne (tgt := 139) dX8_takes_129 rfl (by omega) (fun c129 => ?_) (fun c129 => ?_)
                          · try (exfalso; omega)
                            all_goals
                              refine ji_iconst dX8_takes_139 ?_
                              refine ji_goto (tgt := 144) dX8_takes_140 rfl ?_
                              refine ji_putE (ci := 8) (k := 15) rfl dX8_takes_144 lX8_67 (by decide) (rf_60) (by simp [rf_c]) (ji_fitZ (by first | omega | decide)) rfl (rf_pmm) ?_
                              refine ji_aload_n dX8_takes_147 rfl trivial ?_
                              refine ji_iload_n dX8_takes_148 rfl ?_
                              first | refine ji_cV dX8_takes_149 (r_fresh1) rfl (rf_60) rfl rfl wX8_fresh vX8_fresh lX8_78 rfl (Nat.le_of_ble_eq_true rfl) rfl ?_ | refine ji_cV dX8_takes_149 (r_fresh0) rfl (rf_60) rfl rfl wX8_fresh vX8_fresh lX8_78 rfl (Nat.le_of_ble_eq_true rfl) rfl ?_
                              exact ji_ireturn dX8_takes_152 rfl (by first | rfl | exact ji_narB (by omega) | exact ji_narB w_t) ⟨by unfold rf_tk; first | rfl | ((repeat' split) <;> first | rfl | (exfalso; omega)), by unfold rf_tk; first | rfl | ((repeat' split) <;> first | rfl | (exfalso; omega))⟩
                          · try (exfalso; omega)
                            all_goals
                              refine ji_aload_n dX8_takes_132 rfl trivial ?_
                              refine ji_get (ci := 8) (k := 15) rfl dX8_takes_133 lX8_67 (by decide) (rf_60) rfl ?_
                              refine ji_if_eq (tgt := 143) dX8_takes_136 rfl (by omega) (fun c136 => ?_) (fun c136 => ?_)
                              · try (exfalso; omega)
                                all_goals
                                  refine ji_iconst dX8_takes_143 ?_
                                  refine ji_putE (ci := 8) (k := 15) rfl dX8_takes_144 lX8_67 (by decide) (rf_60) (by simp [rf_c]) (ji_fitZ (by first | omega | decide)) rfl (rf_pmm) ?_
                                  refine ji_aload_n dX8_takes_147 rfl trivial ?_
                                  refine ji_iload_n dX8_takes_148 rfl ?_
                                  first | refine ji_cV dX8_takes_149 (r_fresh1) rfl (rf_60) rfl rfl wX8_fresh vX8_fresh lX8_78 rfl (Nat.le_of_ble_eq_true rfl) rfl ?_ | refine ji_cV dX8_takes_149 (r_fresh0) rfl (rf_60) rfl rfl wX8_fresh vX8_fresh lX8_78 rfl (Nat.le_of_ble_eq_true rfl) rfl ?_
                                  exact ji_ireturn dX8_takes_152 rfl (by first | rfl | exact ji_narB (by omega) | exact ji_narB w_t) ⟨by unfold rf_tk; first | rfl | ((repeat' split) <;> first | rfl | (exfalso; omega)), by unfold rf_tk; first | rfl | ((repeat' split) <;> first | rfl | (exfalso; omega))⟩
                              · try (exfalso; omega)
                                all_goals
                                  refine ji_iconst dX8_takes_139 ?_
                                  refine ji_goto (tgt := 144) dX8_takes_140 rfl ?_
                                  refine ji_putE (ci := 8) (k := 15) rfl dX8_takes_144 lX8_67 (by decide) (rf_60) (by simp [rf_c]) (ji_fitZ (by first | omega | decide)) rfl (rf_pmm) ?_
                                  refine ji_aload_n dX8_takes_147 rfl trivial ?_
                                  refine ji_iload_n dX8_takes_148 rfl ?_
                                  first | refine ji_cV dX8_takes_149 (r_fresh1) rfl (rf_60) rfl rfl wX8_fresh vX8_fresh lX8_78 rfl (Nat.le_of_ble_eq_true rfl) rfl ?_ | refine ji_cV dX8_takes_149 (r_fresh0) rfl (rf_60) rfl rfl wX8_fresh vX8_fresh lX8_78 rfl (Nat.le_of_ble_eq_true rfl) rfl ?_
                                  exact ji_ireturn dX8_takes_152 rfl (by first | rfl | exact ji_narB (by omega) | exact ji_narB w_t) ⟨by unfold rf_tk; first | rfl | ((repeat' split) <;> first | rfl | (exfalso; omega)), by unfold rf_tk; first | rfl | ((repeat' split) <;> first | rfl | (exfalso; omega))⟩
                  · try (exfalso; omega)
                    all_goals
                      refine ji_iconst dX8_takes_102 ?_
                      refine ji_goto (tgt := 107) dX8_takes_103 rfl ?_
                      refine ji_iadd dX8_takes_107 ?_
                      refine ji_putE (ci := 8) (k := 14) rfl dX8_takes_108 lX8_82 (by decide) (rf_60) (by simp [rf_c]) (ji_fitI _) rfl (rf_prp) ?_
                      refine ji_aload_n dX8_takes_111 rfl trivial ?_
                      refine ji_iload_n dX8_takes_112 rfl ?_
                      refine ji_if_eq (tgt := 120) dX8_takes_113 rfl (by omega) (fun c113 => ?_) (fun c113 => ?_)
                      · try (exfalso; omega)
                        all_goals
                          refine ji_aload_n dX8_takes_120 rfl trivial ?_
                          refine ji_get (ci := 8) (k := 13) rfl dX8_takes_121 lX8_75 (by decide) (rf_60) rfl ?_
                          refine ji_putE (ci := 8) (k := 13) rfl dX8_takes_124 lX8_75 (by decide) (rf_60) (by simp [rf_c]) (ji_fitI _) rfl (rf_prq) ?_
                          refine ji_aload_n dX8_takes_127 rfl trivial ?_
                          refine ji_iload_n dX8_takes_128 rfl ?_
                          refine ji_if_ne (tgt := 139) dX8_takes_129 rfl (by omega) (fun c129 => ?_) (fun c129 => ?_)
                          · try (exfalso; omega)
                            all_goals
                              refine ji_iconst dX8_takes_139 ?_
                              refine ji_goto (tgt := 144) dX8_takes_140 rfl ?_
                              refine ji_putE (ci := 8) (k := 15) rfl dX8_takes_144 lX8_67 (by decide) (rf_60) (by simp [rf_c]) (ji_fitZ (by first | omega | decide)) rfl (rf_pmm) ?_
                              refine ji_aload_n dX8_takes_147 rfl trivial ?_
                              refine ji_iload_n dX8_takes_148 rfl ?_
                              first | refine ji_cV dX8_takes_149 (r_fresh1) rfl (rf_60) rfl rfl wX8_fresh vX8_fresh lX8_78 rfl (Nat.le_of_ble_eq_true rfl) rfl ?_ | refine ji_cV dX8_takes_149 (r_fresh0) rfl (rf_60) rfl rfl wX8_fresh vX8_fresh lX8_78 rfl (Nat.le_of_ble_eq_true rfl) rfl ?_
                              exact ji_ireturn dX8_takes_152 rfl (by first | rfl | exact ji_narB (by omega) | exact ji_narB w_t) ⟨by unfold rf_tk; first | rfl | ((repeat' split) <;> first | rfl | (exfalso; omega)), by unfold rf_tk; first | rfl | ((repeat' split) <;> first | rfl | (exfalso; omega))⟩
                          · try (exfalso; omega)
                            all_goals
                              refine ji_aload_n dX8_takes_132 rfl trivial ?_
                              refine ji_get (ci := 8) (k := 15) rfl dX8_takes_133 lX8_67 (by decide) (rf_60) rfl ?_
                              refine ji_if_eq (tgt := 143) dX8_takes_136 rfl (by omega) (fun c136 => ?_) (fun c136 => ?_)
                              · try (exfalso; omega)
                                all_goals
                                  refine ji_iconst dX8_takes_143 ?_
                                  refine ji_putE (ci := 8) (k := 15) rfl dX8_takes_144 lX8_67 (by decide) (rf_60) (by simp [rf_c]) (ji_fitZ (by first | omega | decide)) rfl (rf_pmm) ?_
                                  refine ji_aload_n dX8_takes_147 rfl trivial ?_
                                  refine ji_iload_n dX8_takes_148 rfl ?_
                                  first | refine ji_cV dX8_takes_149 (r_fresh1) rfl (rf_60) rfl rfl wX8_fresh vX8_fresh lX8_78 rfl (Nat.le_of_ble_eq_true rfl) rfl ?_ | refine ji_cV dX8_takes_149 (r_fresh0) rfl (rf_60) rfl rfl wX8_fresh vX8_fresh lX8_78 rfl (Nat.le_of_ble_eq_true rfl) rfl ?_
                                  exact ji_ireturn dX8_takes_152 rfl (by first | rfl | exact ji_narB (by omega) | exact ji_narB w_t) ⟨by unfold rf_tk; first | rfl | ((repeat' split) <;> first | rfl | (exfalso; omega)), by unfold rf_tk; first | rfl | ((repeat' split) <;> first | rfl | (exfalso; omega))⟩
                              · try (exfalso; omega)
                                all_goals
                                  refine ji_iconst dX8_takes_139 ?_
                                  refine ji_goto (tgt := 144) dX8_takes_140 rfl ?_
                                  refine ji_putE (ci := 8) (k := 15) rfl dX8_takes_144 lX8_67 (by decide) (rf_60) (by simp [rf_c]) (ji_fitZ (by first | omega | decide)) rfl (rf_pmm) ?_
                                  refine ji_aload_n dX8_takes_147 rfl trivial ?_
                                  refine ji_iload_n dX8_takes_148 rfl ?_
                                  first | refine ji_cV dX8_takes_149 (r_fresh1) rfl (rf_60) rfl rfl wX8_fresh vX8_fresh lX8_78 rfl (Nat.le_of_ble_eq_true rfl) rfl ?_ | refine ji_cV dX8_takes_149 (r_fresh0) rfl (rf_60) rfl rfl wX8_fresh vX8_fresh lX8_78 rfl (Nat.le_of_ble_eq_true rfl) rfl ?_
                                  exact ji_ireturn dX8_takes_152 rfl (by first | rfl | exact ji_narB (by omega) | exact ji_narB w_t) ⟨by unfold rf_tk; first | rfl | ((repeat' split) <;> first | rfl | (exfalso; omega)), by unfold rf_tk; first | rfl | ((repeat' split) <;> first | rfl | (exfalso; omega))⟩
                      · try (exfalso; omega)
                        all_goals
                          refine ji_iconst dX8_takes_116 ?_
                          refine ji_goto (tgt := 124) dX8_takes_117 rfl ?_
                          refine ji_putE (ci := 8) (k := 13) rfl dX8_takes_124 lX8_75 (by decide) (rf_60) (by simp [rf_c]) (ji_fitI _) rfl (rf_prq) ?_
                          refine ji_aload_n dX8_takes_127 rfl trivial ?_
                          refine ji_iload_n dX8_takes_128 rfl ?_
                          refine ji_if_ne (tgt := 139) dX8_takes_129 rfl (by omega) (fun c129 => ?_) (fun c129 => ?_)
                          · try (exfalso; omega)
                            all_goals
                              refine ji_iconst dX8_takes_139 ?_
                              refine ji_goto (tgt := 144) dX8_takes_140 rfl ?_
                              refine ji_putE (ci := 8) (k := 15) rfl dX8_takes_144 lX8_67 (by decide) (rf_60) (by simp [rf_c]) (ji_fitZ (by first | omega | decide)) rfl (rf_pmm) ?_
                              refine ji_aload_n dX8_takes_147 rfl trivial ?_
                              refine ji_iload_n dX8_takes_148 rfl ?_
                              first | refine ji_cV dX8_takes_149 (r_fresh1) rfl (rf_60) rfl rfl wX8_fresh vX8_fresh lX8_78 rfl (Nat.le_of_ble_eq_true rfl) rfl ?_ | refine ji_cV dX8_takes_149 (r_fresh0) rfl (rf_60) rfl rfl wX8_fresh vX8_fresh lX8_78 rfl (Nat.le_of_ble_eq_true rfl) rfl ?_
                              exact ji_ireturn dX8_takes_152 rfl (by first | rfl | exact ji_narB (by omega) | exact ji_narB w_t) ⟨by unfold rf_tk; first | rfl | ((repeat' split) <;> first | rfl | (exfalso; omega)), by unfold rf_tk; first | rfl | ((repeat' split) <;> first | rfl | (exfalso; omega))⟩
                          · try (exfalso; omega)
                            all_goals
                              refine ji_aload_n dX8_takes_132 rfl trivial ?_
                              refine ji_get (ci := 8) (k := 15) rfl dX8_takes_133 lX8_67 (by decide) (rf_60) rfl ?_
                              refine ji_if_eq (tgt := 143) dX8_takes_136 rfl (by omega) (fun c136 => ?_) (fun c136 => ?_)
                              · try (exfalso; omega)
                                all_goals
                                  refine ji_iconst dX8_takes_143 ?_
                                  refine ji_putE (ci := 8) (k := 15) rfl dX8_takes_144 lX8_67 (by decide) (rf_60) (by simp [rf_c]) (ji_fitZ (by first | omega | decide)) rfl (rf_pmm) ?_
                                  refine ji_aload_n dX8_takes_147 rfl trivial ?_
                                  refine ji_iload_n dX8_takes_148 rfl ?_
                                  first | refine ji_cV dX8_takes_149 (r_fresh1) rfl (rf_60) rfl rfl wX8_fresh vX8_fresh lX8_78 rfl (Nat.le_of_ble_eq_true rfl) rfl ?_ | refine ji_cV dX8_takes_149 (r_fresh0) rfl (rf_60) rfl rfl wX8_fresh vX8_fresh lX8_78 rfl (Nat.le_of_ble_eq_true rfl) rfl ?_
                                  exact ji_ireturn dX8_takes_152 rfl (by first | rfl | exact ji_narB (by omega) | exact ji_narB w_t) ⟨by unfold rf_tk; first | rfl | ((repeat' split) <;> first | rfl | (exfalso; omega)), by unfold rf_tk; first | rfl | ((repeat' split) <;> first | rfl | (exfalso; omega))⟩
                              · try (exfalso; omega)
                                all_goals
                                  refine ji_iconst dX8_takes_139 ?_
                                  refine ji_goto (tgt := 144) dX8_takes_140 rfl ?_
                                  refine ji_putE (ci := 8) (k := 15) rfl dX8_takes_144 lX8_67 (by decide) (rf_60) (by simp [rf_c]) (ji_fitZ (by first | omega | decide)) rfl (rf_pmm) ?_
                                  refine ji_aload_n dX8_takes_147 rfl trivial ?_
                                  refine ji_iload_n dX8_takes_148 rfl ?_
                                  first | refine ji_cV dX8_takes_149 (r_fresh1) rfl (rf_60) rfl rfl wX8_fresh vX8_fresh lX8_78 rfl (Nat.le_of_ble_eq_true rfl) rfl ?_ | refine ji_cV dX8_takes_149 (r_fresh0) rfl (rf_60) rfl rfl wX8_fresh vX8_fresh lX8_78 rfl (Nat.le_of_ble_eq_true rfl) rfl ?_
                                  exact ji_ireturn dX8_takes_152 rfl (by first | rfl | exact ji_narB (by omega) | exact ji_narB w_t) ⟨by unfold rf_tk; first | rfl | ((repeat' split) <;> first | rfl | (exfalso; omega)), by unfold rf_tk; first | rfl | ((repeat' split) <;> first | rfl | (exfalso; omega))⟩
              · try (exfalso; omega)
                all_goals
                  refine ji_aload_n dX8_takes_78 rfl trivial ?_
                  refine ji_get (ci := 8) (k := 14) rfl dX8_takes_79 lX8_82 (by decide) (rf_60) rfl ?_
                  refine ji_bipush dX8_takes_82 rfl ?_
                  refine ji_icmp_ge (tgt := 91) dX8_takes_84 rfl (by omega) (by omega) (fun c84 => ?_) (fun c84 => ?_)
                  · try (exfalso; omega)
                    all_goals
                      refine ji_iconst dX8_takes_91 ?_
                      refine ji_istore_n dX8_takes_92 (by decide) rfl ?_
                      refine ji_aload_n dX8_takes_93 rfl trivial ?_
                      refine ji_dup dX8_takes_94 rfl ?_
                      refine ji_get (ci := 8) (k := 14) rfl dX8_takes_95 lX8_82 (by decide) (rf_60) rfl ?_
                      refine ji_iload_n dX8_takes_98 rfl ?_
                      refine ji_if_eq (tgt := 106) dX8_takes_99 rfl (by omega) (fun c99 => ?_) (fun c99 => ?_)
                      · try (exfalso; omega)
                        all_goals
                          refine ji_iconst dX8_takes_106 ?_
                          refine ji_iadd dX8_takes_107 ?_
                          refine ji_putE (ci := 8) (k := 14) rfl dX8_takes_108 lX8_82 (by decide) (rf_60) (by simp [rf_c]) (ji_fitI _) rfl (rf_prp) ?_
                          refine ji_aload_n dX8_takes_111 rfl trivial ?_
                          refine ji_iload_n dX8_takes_112 rfl ?_
                          refine ji_if_eq (tgt := 120) dX8_takes_113 rfl (by omega) (fun c113 => ?_) (fun c113 => ?_)
                          · try (exfalso; omega)
                            all_goals
                              refine ji_aload_n dX8_takes_120 rfl trivial ?_
                              refine ji_get (ci := 8) (k := 13) rfl dX8_takes_121 lX8_75 (by decide) (rf_60) rfl ?_
                              refine ji_putE (ci := 8) (k := 13) rfl dX8_takes_124 lX8_75 (by decide) (rf_60) (by simp [rf_c]) (ji_fitI _) rfl (rf_prq) ?_
                              refine ji_aload_n dX8_takes_127 rfl trivial ?_
                              refine ji_iload_n dX8_takes_128 rfl ?_
                              refine ji_if_ne (tgt := 139) dX8_takes_129 rfl (by omega) (fun c129 => ?_) (fun c129 => ?_)
                              · try (exfalso; omega)
                                all_goals
                                  refine ji_iconst dX8_takes_139 ?_
                                  refine ji_goto (tgt := 144) dX8_takes_140 rfl ?_
                                  refine ji_putE (ci := 8) (k := 15) rfl dX8_takes_144 lX8_67 (by decide) (rf_60) (by simp [rf_c]) (ji_fitZ (by first | omega | decide)) rfl (rf_pmm) ?_
                                  refine ji_aload_n dX8_takes_147 rfl trivial ?_
                                  refine ji_iload_n dX8_takes_148 rfl ?_
                                  first | refine ji_cV dX8_takes_149 (r_fresh1) rfl (rf_60) rfl rfl wX8_fresh vX8_fresh lX8_78 rfl (Nat.le_of_ble_eq_true rfl) rfl ?_ | refine ji_cV dX8_takes_149 (r_fresh0) rfl (rf_60) rfl rfl wX8_fresh vX8_fresh lX8_78 rfl (Nat.le_of_ble_eq_true rfl) rfl ?_
                                  exact ji_ireturn dX8_takes_152 rfl (by first | rfl | exact ji_narB (by omega) | exact ji_narB w_t) ⟨by unfold rf_tk; first | rfl | ((repeat' split) <;> first | rfl | (exfalso; omega)), by unfold rf_tk; first | rfl | ((repeat' split) <;> first | rfl | (exfalso; omega))⟩
                              · try (exfalso; omega)
                                all_goals
                                  refine ji_aload_n dX8_takes_132 rfl trivial ?_
                                  refine ji_get (ci := 8) (k := 15) rfl dX8_takes_133 lX8_67 (by decide) (rf_60) rfl ?_
                                  refine ji_if_eq (tgt := 143) dX8_takes_136 rfl (by omega) (fun c136 => ?_) (fun c136 => ?_)
                                  · try (exfalso; omega)
                                    all_goals
                                      refine ji_iconst dX8_takes_143 ?_
                                      refine ji_putE (ci := 8) (k := 15) rfl dX8_takes_144 lX8_67 (by decide) (rf_60) (by simp [rf_c]) (ji_fitZ (by first | omega | decide)) rfl (rf_pmm) ?_
                                      refine ji_aload_n dX8_takes_147 rfl trivial ?_
                                      refine ji_iload_n dX8_takes_148 rfl ?_
                                      first | refine ji_cV dX8_takes_149 (r_fresh1) rfl (rf_60) rfl rfl wX8_fresh vX8_fresh lX8_78 rfl (Nat.le_of_ble_eq_true rfl) rfl ?_ | refine ji_cV dX8_takes_149 (r_fresh0) rfl (rf_60) rfl rfl wX8_fresh vX8_fresh lX8_78 rfl (Nat.le_of_ble_eq_true rfl) rfl ?_
                                      exact ji_ireturn dX8_takes_152 rfl (by first | rfl | exact ji_narB (by omega) | exact ji_narB w_t) ⟨by unfold rf_tk; first | rfl | ((repeat' split) <;> first | rfl | (exfalso; omega)), by unfold rf_tk; first | rfl | ((repeat' split) <;> first | rfl | (exfalso; omega))⟩
                                  · try (exfalso; omega)
                                    all_goals
                                      refine ji_iconst dX8_takes_139 ?_
                                      refine ji_goto (tgt := 144) dX8_takes_140 rfl ?_
                                      refine ji_putE (ci := 8) (k := 15) rfl dX8_takes_144 lX8_67 (by decide) (rf_60) (by simp [rf_c]) (ji_fitZ (by first | omega | decide)) rfl (rf_pmm) ?_
                                      refine ji_aload_n dX8_takes_147 rfl trivial ?_
                                      refine ji_iload_n dX8_takes_148 rfl ?_
                                      first | refine ji_cV dX8_takes_149 (r_fresh1) rfl (rf_60) rfl rfl wX8_fresh vX8_fresh lX8_78 rfl (Nat.le_of_ble_eq_true rfl) rfl ?_ | refine ji_cV dX8_takes_149 (r_fresh0) rfl (rf_60) rfl rfl wX8_fresh vX8_fresh lX8_78 rfl (Nat.le_of_ble_eq_true rfl) rfl ?_
                                      exact ji_ireturn dX8_takes_152 rfl (by first | rfl | exact ji_narB (by omega) | exact ji_narB w_t) ⟨by unfold rf_tk; first | rfl | ((repeat' split) <;> first | rfl | (exfalso; omega)), by unfold rf_tk; first | rfl | ((repeat' split) <;> first | rfl | (exfalso; omega))⟩
                          · try (exfalso; omega)
                            all_goals
                              refine ji_iconst dX8_takes_116 ?_
                              refine ji_goto (tgt := 124) dX8_takes_117 rfl ?_
                              refine ji_putE (ci := 8) (k := 13) rfl dX8_takes_124 lX8_75 (by decide) (rf_60) (by simp [rf_c]) (ji_fitI _) rfl (rf_prq) ?_
                              refine ji_aload_n dX8_takes_127 rfl trivial ?_
                              refine ji_iload_n dX8_takes_128 rfl ?_
                              refine ji_if_ne (tgt := 139) dX8_takes_129 rfl (by omega) (fun c129 => ?_) (fun c129 => ?_)
                              · try (exfalso; omega)
                                all_goals
                                  refine ji_iconst dX8_takes_139 ?_
                                  refine ji_goto (tgt := 144) dX8_takes_140 rfl ?_
                                  refine ji_putE (ci := 8) (k := 15) rfl dX8_takes_144 lX8_67 (by decide) (rf_60) (by simp [rf_c]) (ji_fitZ (by first | omega | decide)) rfl (rf_pmm) ?_
                                  refine ji_aload_n dX8_takes_147 rfl trivial ?_
                                  refine ji_iload_n dX8_takes_148 rfl ?_
                                  first | refine ji_cV dX8_takes_149 (r_fresh1) rfl (rf_60) rfl rfl wX8_fresh vX8_fresh lX8_78 rfl (Nat.le_of_ble_eq_true rfl) rfl ?_ | refine ji_cV dX8_takes_149 (r_fresh0) rfl (rf_60) rfl rfl wX8_fresh vX8_fresh lX8_78 rfl (Nat.le_of_ble_eq_true rfl) rfl ?_
                                  exact ji_ireturn dX8_takes_152 rfl (by first | rfl | exact ji_narB (by omega) | exact ji_narB w_t) ⟨by unfold rf_tk; first | rfl | ((repeat' split) <;> first | rfl | (exfalso; omega)), by unfold rf_tk; first | rfl | ((repeat' split) <;> first | rfl | (exfalso; omega))⟩
                              · try (exfalso; omega)
                                all_goals
                                  refine ji_aload_n dX8_takes_132 rfl trivial ?_
                                  refine ji_get (ci := 8) (k := 15) rfl dX8_takes_133 lX8_67 (by decide) (rf_60) rfl ?_
                                  refine ji_if_eq (tgt := 143) dX8_takes_136 rfl (by omega) (fun c136 => ?_) (fun c136 => ?_)
                                  · try (exfalso; omega)
                                    all_goals
                                      refine ji_iconst dX8_takes_143 ?_
                                      refine ji_putE (ci := 8) (k := 15) rfl dX8_takes_144 lX8_67 (by decide) (rf_60) (by simp [rf_c]) (ji_fitZ (by first | omega | decide)) rfl (rf_pmm) ?_
                                      refine ji_aload_n dX8_takes_147 rfl trivial ?_
                                      refine ji_iload_n dX8_takes_148 rfl ?_
                                      first | refine ji_cV dX8_takes_149 (r_fresh1) rfl (rf_60) rfl rfl wX8_fresh vX8_fresh lX8_78 rfl (Nat.le_of_ble_eq_true rfl) rfl ?_ | refine ji_cV dX8_takes_149 (r_fresh0) rfl (rf_60) rfl rfl wX8_fresh vX8_fresh lX8_78 rfl (Nat.le_of_ble_eq_true rfl) rfl ?_
                                      exact ji_ireturn dX8_takes_152 rfl (by first | rfl | exact ji_narB (by omega) | exact ji_narB w_t) ⟨by unfold rf_tk; first | rfl | ((repeat' split) <;> first | rfl | (exfalso; omega)), by unfold rf_tk; first | rfl | ((repeat' split) <;> first | rfl | (exfalso; omega))⟩
                                  · try (exfalso; omega)
                                    all_goals
                                      refine ji_iconst dX8_takes_139 ?_
                                      refine ji_goto (tgt := 144) dX8_takes_140 rfl ?_
                                      refine ji_putE (ci := 8) (k := 15) rfl dX8_takes_144 lX8_67 (by decide) (rf_60) (by simp [rf_c]) (ji_fitZ (by first | omega | decide)) rfl (rf_pmm) ?_
                                      refine ji_aload_n dX8_takes_147 rfl trivial ?_
                                      refine ji_iload_n dX8_takes_148 rfl ?_
                                      first | refine ji_cV dX8_takes_149 (r_fresh1) rfl (rf_60) rfl rfl wX8_fresh vX8_fresh lX8_78 rfl (Nat.le_of_ble_eq_true rfl) rfl ?_ | refine ji_cV dX8_takes_149 (r_fresh0) rfl (rf_60) rfl rfl wX8_fresh vX8_fresh lX8_78 rfl (Nat.le_of_ble_eq_true rfl) rfl ?_
                                      exact ji_ireturn dX8_takes_152 rfl (by first | rfl | exact ji_narB (by omega) | exact ji_narB w_t) ⟨by unfold rf_tk; first | rfl | ((repeat' split) <;> first | rfl | (exfalso; omega)), by unfold rf_tk; first | rfl | ((repeat' split) <;> first | rfl | (exfalso; omega))⟩
                      · try (exfalso; omega)
                        all_goals
                          refine ji_iconst dX8_takes_102 ?_
                          refine ji_goto (tgt := 107) dX8_takes_103 rfl ?_
                          refine ji_iadd dX8_takes_107 ?_
                          refine ji_putE (ci := 8) (k := 14) rfl dX8_takes_108 lX8_82 (by decide) (rf_60) (by simp [rf_c]) (ji_fitI _) rfl (rf_prp) ?_
                          refine ji_aload_n dX8_takes_111 rfl trivial ?_
                          refine ji_iload_n dX8_takes_112 rfl ?_
                          refine ji_if_eq (tgt := 120) dX8_takes_113 rfl (by omega) (fun c113 => ?_) (fun c113 => ?_)
                          · try (exfalso; omega)
                            all_goals
                              refine ji_aload_n dX8_takes_120 rfl trivial ?_
                              refine ji_get (ci := 8) (k := 13) rfl dX8_takes_121 lX8_75 (by decide) (rf_60) rfl ?_
                              refine ji_putE (ci := 8) (k := 13) rfl dX8_takes_124 lX8_75 (by decide) (rf_60) (by simp [rf_c]) (ji_fitI _) rfl (rf_prq) ?_
                              refine ji_aload_n dX8_takes_127 rfl trivial ?_
                              refine ji_iload_n dX8_takes_128 rfl ?_
                              refine ji_if_ne (tgt := 139) dX8_takes_129 rfl (by omega) (fun c129 => ?_) (fun c129 => ?_)
                              · try (exfalso; omega)
                                all_goals
                                  refine ji_iconst dX8_takes_139 ?_
                                  refine ji_goto (tgt := 144) dX8_takes_140 rfl ?_
                                  refine ji_putE (ci := 8) (k := 15) rfl dX8_takes_144 lX8_67 (by decide) (rf_60) (by simp [rf_c]) (ji_fitZ (by first | omega | decide)) rfl (rf_pmm) ?_
                                  refine ji_aload_n dX8_takes_147 rfl trivial ?_
                                  refine ji_iload_n dX8_takes_148 rfl ?_
                                  first | refine ji_cV dX8_takes_149 (r_fresh1) rfl (rf_60) rfl rfl wX8_fresh vX8_fresh lX8_78 rfl (Nat.le_of_ble_eq_true rfl) rfl ?_ | refine ji_cV dX8_takes_149 (r_fresh0) rfl (rf_60) rfl rfl wX8_fresh vX8_fresh lX8_78 rfl (Nat.le_of_ble_eq_true rfl) rfl ?_
                                  exact ji_ireturn dX8_takes_152 rfl (by first | rfl | exact ji_narB (by omega) | exact ji_narB w_t) ⟨by unfold rf_tk; first | rfl | ((repeat' split) <;> first | rfl | (exfalso; omega)), by unfold rf_tk; first | rfl | ((repeat' split) <;> first | rfl | (exfalso; omega))⟩
                              · try (exfalso; omega)
                                all_goals
                                  refine ji_aload_n dX8_takes_132 rfl trivial ?_
                                  refine ji_get (ci := 8) (k := 15) rfl dX8_takes_133 lX8_67 (by decide) (rf_60) rfl ?_
                                  refine ji_if_eq (tgt := 143) dX8_takes_136 rfl (by omega) (fun c136 => ?_) (fun c136 => ?_)
                                  · try (exfalso; omega)
                                    all_goals
                                      refine ji_iconst dX8_takes_143 ?_
                                      refine ji_putE (ci := 8) (k := 15) rfl dX8_takes_144 lX8_67 (by decide) (rf_60) (by simp [rf_c]) (ji_fitZ (by first | omega | decide)) rfl (rf_pmm) ?_
                                      refine ji_aload_n dX8_takes_147 rfl trivial ?_
                                      refine ji_iload_n dX8_takes_148 rfl ?_
                                      first | refine ji_cV dX8_takes_149 (r_fresh1) rfl (rf_60) rfl rfl wX8_fresh vX8_fresh lX8_78 rfl (Nat.le_of_ble_eq_true rfl) rfl ?_ | refine ji_cV dX8_takes_149 (r_fresh0) rfl (rf_60) rfl rfl wX8_fresh vX8_fresh lX8_78 rfl (Nat.le_of_ble_eq_true rfl) rfl ?_
                                      exact ji_ireturn dX8_takes_152 rfl (by first | rfl | exact ji_narB (by omega) | exact ji_narB w_t) ⟨by unfold rf_tk; first | rfl | ((repeat' split) <;> first | rfl | (exfalso; omega)), by unfold rf_tk; first | rfl | ((repeat' split) <;> first | rfl | (exfalso; omega))⟩
                                  · try (exfalso; omega)
                                    all_goals
                                      refine ji_iconst dX8_takes_139 ?_
                                      refine ji_goto (tgt := 144) dX8_takes_140 rfl ?_
                                      refine ji_putE (ci := 8) (k := 15) rfl dX8_takes_144 lX8_67 (by decide) (rf_60) (by simp [rf_c]) (ji_fitZ (by first | omega | decide)) rfl (rf_pmm) ?_
                                      refine ji_aload_n dX8_takes_147 rfl trivial ?_
                                      refine ji_iload_n dX8_takes_148 rfl ?_
                                      first | refine ji_cV dX8_takes_149 (r_fresh1) rfl (rf_60) rfl rfl wX8_fresh vX8_fresh lX8_78 rfl (Nat.le_of_ble_eq_true rfl) rfl ?_ | refine ji_cV dX8_takes_149 (r_fresh0) rfl (rf_60) rfl rfl wX8_fresh vX8_fresh lX8_78 rfl (Nat.le_of_ble_eq_true rfl) rfl ?_
                                      exact ji_ireturn dX8_takes_152 rfl (by first | rfl | exact ji_narB (by omega) | exact ji_narB w_t) ⟨by unfold rf_tk; first | rfl | ((repeat' split) <;> first | rfl | (exfalso; omega)), by unfold rf_tk; first | rfl | ((repeat' split) <;> first | rfl | (exfalso; omega))⟩
                          · try (exfalso; omega)
                            all_goals
                              refine ji_iconst dX8_takes_116 ?_
                              refine ji_goto (tgt := 124) dX8_takes_117 rfl ?_
                              refine ji_putE (ci := 8) (k := 13) rfl dX8_takes_124 lX8_75 (by decide) (rf_60) (by simp [rf_c]) (ji_fitI _) rfl (rf_prq) ?_
                              refine ji_aload_n dX8_takes_127 rfl trivial ?_
                              refine ji_iload_n dX8_takes_128 rfl ?_
                              refine ji_if_ne (tgt := 139) dX8_takes_129 rfl (by omega) (fun c129 => ?_) (fun c129 => ?_)
                              · try (exfalso; omega)
                                all_goals
                                  refine ji_iconst dX8_takes_139 ?_
                                  refine ji_goto (tgt := 144) dX8_takes_140 rfl ?_
                                  refine ji_putE (ci := 8) (k := 15) rfl dX8_takes_144 lX8_67 (by decide) (rf_60) (by simp [rf_c]) (ji_fitZ (by first | omega | decide)) rfl (rf_pmm) ?_
                                  refine ji_aload_n dX8_takes_147 rfl trivial ?_
                                  refine ji_iload_n dX8_takes_148 rfl ?_
                                  first | refine ji_cV dX8_takes_149 (r_fresh1) rfl (rf_60) rfl rfl wX8_fresh vX8_fresh lX8_78 rfl (Nat.le_of_ble_eq_true rfl) rfl ?_ | refine ji_cV dX8_takes_149 (r_fresh0) rfl (rf_60) rfl rfl wX8_fresh vX8_fresh lX8_78 rfl (Nat.le_of_ble_eq_true rfl) rfl ?_
                                  exact ji_ireturn dX8_takes_152 rfl (by first | rfl | exact ji_narB (by omega) | exact ji_narB w_t) ⟨by unfold rf_tk; first | rfl | ((repeat' split) <;> first | rfl | (exfalso; omega)), by unfold rf_tk; first | rfl | ((repeat' split) <;> first | rfl | (exfalso; omega))⟩
                              · try (exfalso; omega)
                                all_goals
                                  refine ji_aload_n dX8_takes_132 rfl trivial ?_
                                  refine ji_get (ci := 8) (k := 15) rfl dX8_takes_133 lX8_67 (by decide) (rf_60) rfl ?_
                                  refine ji_if_eq (tgt := 143) dX8_takes_136 rfl (by omega) (fun c136 => ?_) (fun c136 => ?_)
                                  · try (exfalso; omega)
                                    all_goals
                                      refine ji_iconst dX8_takes_143 ?_
                                      refine ji_putE (ci := 8) (k := 15) rfl dX8_takes_144 lX8_67 (by decide) (rf_60) (by simp [rf_c]) (ji_fitZ (by first | omega | decide)) rfl (rf_pmm) ?_
                                      refine ji_aload_n dX8_takes_147 rfl trivial ?_
                                      refine ji_iload_n dX8_takes_148 rfl ?_
                                      first | refine ji_cV dX8_takes_149 (r_fresh1) rfl (rf_60) rfl rfl wX8_fresh vX8_fresh lX8_78 rfl (Nat.le_of_ble_eq_true rfl) rfl ?_ | refine ji_cV dX8_takes_149 (r_fresh0) rfl (rf_60) rfl rfl wX8_fresh vX8_fresh lX8_78 rfl (Nat.le_of_ble_eq_true rfl) rfl ?_
                                      exact ji_ireturn dX8_takes_152 rfl (by first | rfl | exact ji_narB (by omega) | exact ji_narB w_t) ⟨by unfold rf_tk; first | rfl | ((repeat' split) <;> first | rfl | (exfalso; omega)), by unfold rf_tk; first | rfl | ((repeat' split) <;> first | rfl | (exfalso; omega))⟩
                                  · try (exfalso; omega)
                                    all_goals
                                      refine ji_iconst dX8_takes_139 ?_
                                      refine ji_goto (tgt := 144) dX8_takes_140 rfl ?_
                                      refine ji_putE (ci := 8) (k := 15) rfl dX8_takes_144 lX8_67 (by decide) (rf_60) (by simp [rf_c]) (ji_fitZ (by first | omega | decide)) rfl (rf_pmm) ?_
                                      refine ji_aload_n dX8_takes_147 rfl trivial ?_
                                      refine ji_iload_n dX8_takes_148 rfl ?_
                                      first | refine ji_cV dX8_takes_149 (r_fresh1) rfl (rf_60) rfl rfl wX8_fresh vX8_fresh lX8_78 rfl (Nat.le_of_ble_eq_true rfl) rfl ?_ | refine ji_cV dX8_takes_149 (r_fresh0) rfl (rf_60) rfl rfl wX8_fresh vX8_fresh lX8_78 rfl (Nat.le_of_ble_eq_true rfl) rfl ?_
                                      exact ji_ireturn dX8_takes_152 rfl (by first | rfl | exact ji_narB (by omega) | exact ji_narB w_t) ⟨by unfold rf_tk; first | rfl | ((repeat' split) <;> first | rfl | (exfalso; omega)), by unfold rf_tk; first | rfl | ((repeat' split) <;> first | rfl | (exfalso; omega))⟩
                  · try (exfalso; omega)
                    all_goals
                      refine ji_iconst dX8_takes_87 ?_
                      refine ji_goto (tgt := 92) dX8_takes_88 rfl ?_
                      refine ji_istore_n dX8_takes_92 (by decide) rfl ?_
                      refine ji_aload_n dX8_takes_93 rfl trivial ?_
                      refine ji_dup dX8_takes_94 rfl ?_
                      refine ji_get (ci := 8) (k := 14) rfl dX8_takes_95 lX8_82 (by decide) (rf_60) rfl ?_
                      refine ji_iload_n dX8_takes_98 rfl ?_
                      refine ji_if_eq (tgt := 106) dX8_takes_99 rfl (by omega) (fun c99 => ?_) (fun c99 => ?_)
                      · try (exfalso; omega)
                        all_goals
                          refine ji_iconst dX8_takes_106 ?_
                          refine ji_iadd dX8_takes_107 ?_
                          refine ji_putE (ci := 8) (k := 14) rfl dX8_takes_108 lX8_82 (by decide) (rf_60) (by simp [rf_c]) (ji_fitI _) rfl (rf_prp) ?_
                          refine ji_aload_n dX8_takes_111 rfl trivial ?_
                          refine ji_iload_n dX8_takes_112 rfl ?_
                          refine ji_if_eq (tgt := 120) dX8_takes_113 rfl (by omega) (fun c113 => ?_) (fun c113 => ?_)
                          · try (exfalso; omega)
                            all_goals
                              refine ji_aload_n dX8_takes_120 rfl trivial ?_
                              refine ji_get (ci := 8) (k := 13) rfl dX8_takes_121 lX8_75 (by decide) (rf_60) rfl ?_
                              refine ji_putE (ci := 8) (k := 13) rfl dX8_takes_124 lX8_75 (by decide) (rf_60) (by simp [rf_c]) (ji_fitI _) rfl (rf_prq) ?_
                              refine ji_aload_n dX8_takes_127 rfl trivial ?_
                              refine ji_iload_n dX8_takes_128 rfl ?_
                              refine ji_if_ne (tgt := 139) dX8_takes_129 rfl (by omega) (fun c129 => ?_) (fun c129 => ?_)
                              · try (exfalso; omega)
                                all_goals
                                  refine ji_iconst dX8_takes_139 ?_
                                  refine ji_goto (tgt := 144) dX8_takes_140 rfl ?_
                                  refine ji_putE (ci := 8) (k := 15) rfl dX8_takes_144 lX8_67 (by decide) (rf_60) (by simp [rf_c]) (ji_fitZ (by first | omega | decide)) rfl (rf_pmm) ?_
                                  refine ji_aload_n dX8_takes_147 rfl trivial ?_
                                  refine ji_iload_n dX8_takes_148 rfl ?_
                                  first | refine ji_cV dX8_takes_149 (r_fresh1) rfl (rf_60) rfl rfl wX8_fresh vX8_fresh lX8_78 rfl (Nat.le_of_ble_eq_true rfl) rfl ?_ | refine ji_cV dX8_takes_149 (r_fresh0) rfl (rf_60) rfl rfl wX8_fresh vX8_fresh lX8_78 rfl (Nat.le_of_ble_eq_true rfl) rfl ?_
                                  exact ji_ireturn dX8_takes_152 rfl (by first | rfl | exact ji_narB (by omega) | exact ji_narB w_t) ⟨by unfold rf_tk; first | rfl | ((repeat' split) <;> first | rfl | (exfalso; omega)), by unfold rf_tk; first | rfl | ((repeat' split) <;> first | rfl | (exfalso; omega))⟩
                              · try (exfalso; omega)
                                all_goals
                                  refine ji_aload_n dX8_takes_132 rfl trivial ?_
                                  refine ji_get (ci := 8) (k := 15) rfl dX8_takes_133 lX8_67 (by decide) (rf_60) rfl ?_
                                  refine ji_if_eq (tgt := 143) dX8_takes_136 rfl (by omega) (fun c136 => ?_) (fun c136 => ?_)
                                  · try (exfalso; omega)
                                    all_goals
                                      refine ji_iconst dX8_takes_143 ?_
                                      refine ji_putE (ci := 8) (k := 15) rfl dX8_takes_144 lX8_67 (by decide) (rf_60) (by simp [rf_c]) (ji_fitZ (by first | omega | decide)) rfl (rf_pmm) ?_
                                      refine ji_aload_n dX8_takes_147 rfl trivial ?_
                                      refine ji_iload_n dX8_takes_148 rfl ?_
                                      first | refine ji_cV dX8_takes_149 (r_fresh1) rfl (rf_60) rfl rfl wX8_fresh vX8_fresh lX8_78 rfl (Nat.le_of_ble_eq_true rfl) rfl ?_ | refine ji_cV dX8_takes_149 (r_fresh0) rfl (rf_60) rfl rfl wX8_fresh vX8_fresh lX8_78 rfl (Nat.le_of_ble_eq_true rfl) rfl ?_
                                      exact ji_ireturn dX8_takes_152 rfl (by first | rfl | exact ji_narB (by omega) | exact ji_narB w_t) ⟨by unfold rf_tk; first | rfl | ((repeat' split) <;> first | rfl | (exfalso; omega)), by unfold rf_tk; first | rfl | ((repeat' split) <;> first | rfl | (exfalso; omega))⟩
                                  · try (exfalso; omega)
                                    all_goals
                                      refine ji_iconst dX8_takes_139 ?_
                                      refine ji_goto (tgt := 144) dX8_takes_140 rfl ?_
                                      refine ji_putE (ci := 8) (k := 15) rfl dX8_takes_144 lX8_67 (by decide) (rf_60) (by simp [rf_c]) (ji_fitZ (by first | omega | decide)) rfl (rf_pmm) ?_
                                      refine ji_aload_n dX8_takes_147 rfl trivial ?_
                                      refine ji_iload_n dX8_takes_148 rfl ?_
                                      first | refine ji_cV dX8_takes_149 (r_fresh1) rfl (rf_60) rfl rfl wX8_fresh vX8_fresh lX8_78 rfl (Nat.le_of_ble_eq_true rfl) rfl ?_ | refine ji_cV dX8_takes_149 (r_fresh0) rfl (rf_60) rfl rfl wX8_fresh vX8_fresh lX8_78 rfl (Nat.le_of_ble_eq_true rfl) rfl ?_
                                      exact ji_ireturn dX8_takes_152 rfl (by first | rfl | exact ji_narB (by omega) | exact ji_narB w_t) ⟨by unfold rf_tk; first | rfl | ((repeat' split) <;> first | rfl | (exfalso; omega)), by unfold rf_tk; first | rfl | ((repeat' split) <;> first | rfl | (exfalso; omega))⟩
                          · try (exfalso; omega)
                            all_goals
                              refine ji_iconst dX8_takes_116 ?_
                              refine ji_goto (tgt := 124) dX8_takes_117 rfl ?_
                              refine ji_putE (ci := 8) (k := 13) rfl dX8_takes_124 lX8_75 (by decide) (rf_60) (by simp [rf_c]) (ji_fitI _) rfl (rf_prq) ?_
                              refine ji_aload_n dX8_takes_127 rfl trivial ?_
                              refine ji_iload_n dX8_takes_128 rfl ?_
                              refine ji_if_ne (tgt := 139) dX8_takes_129 rfl (by omega) (fun c129 => ?_) (fun c129 => ?_)
                              · try (exfalso; omega)
                                all_goals
                                  refine ji_iconst dX8_takes_139 ?_
                                  refine ji_goto (tgt := 144) dX8_takes_140 rfl ?_
                                  refine ji_putE (ci := 8) (k := 15) rfl dX8_takes_144 lX8_67 (by decide) (rf_60) (by simp [rf_c]) (ji_fitZ (by first | omega | decide)) rfl (rf_pmm) ?_
                                  refine ji_aload_n dX8_takes_147 rfl trivial ?_
                                  refine ji_iload_n dX8_takes_148 rfl ?_
                                  first | refine ji_cV dX8_takes_149 (r_fresh1) rfl (rf_60) rfl rfl wX8_fresh vX8_fresh lX8_78 rfl (Nat.le_of_ble_eq_true rfl) rfl ?_ | refine ji_cV dX8_takes_149 (r_fresh0) rfl (rf_60) rfl rfl wX8_fresh vX8_fresh lX8_78 rfl (Nat.le_of_ble_eq_true rfl) rfl ?_
                                  exact ji_ireturn dX8_takes_152 rfl (by first | rfl | exact ji_narB (by omega) | exact ji_narB w_t) ⟨by unfold rf_tk; first | rfl | ((repeat' split) <;> first | rfl | (exfalso; omega)), by unfold rf_tk; first | rfl | ((repeat' split) <;> first | rfl | (exfalso; omega))⟩
                              · try (exfalso; omega)
                                all_goals
                                  refine ji_aload_n dX8_takes_132 rfl trivial ?_
                                  refine ji_get (ci := 8) (k := 15) rfl dX8_takes_133 lX8_67 (by decide) (rf_60) rfl ?_
                                  refine ji_if_eq (tgt := 143) dX8_takes_136 rfl (by omega) (fun c136 => ?_) (fun c136 => ?_)
                                  · try (exfalso; omega)
                                    all_goals
                                      refine ji_iconst dX8_takes_143 ?_
                                      refine ji_putE (ci := 8) (k := 15) rfl dX8_takes_144 lX8_67 (by decide) (rf_60) (by simp [rf_c]) (ji_fitZ (by first | omega | decide)) rfl (rf_pmm) ?_
                                      refine ji_aload_n dX8_takes_147 rfl trivial ?_
                                      refine ji_iload_n dX8_takes_148 rfl ?_
                                      first | refine ji_cV dX8_takes_149 (r_fresh1) rfl (rf_60) rfl rfl wX8_fresh vX8_fresh lX8_78 rfl (Nat.le_of_ble_eq_true rfl) rfl ?_ | refine ji_cV dX8_takes_149 (r_fresh0) rfl (rf_60) rfl rfl wX8_fresh vX8_fresh lX8_78 rfl (Nat.le_of_ble_eq_true rfl) rfl ?_
                                      exact ji_ireturn dX8_takes_152 rfl (by first | rfl | exact ji_narB (by omega) | exact ji_narB w_t) ⟨by unfold rf_tk; first | rfl | ((repeat' split) <;> first | rfl | (exfalso; omega)), by unfold rf_tk; first | rfl | ((repeat' split) <;> first | rfl | (exfalso; omega))⟩
                                  · try (exfalso; omega)
                                    all_goals
                                      refine ji_iconst dX8_takes_139 ?_
                                      refine ji_goto (tgt := 144) dX8_takes_140 rfl ?_
                                      refine ji_putE (ci := 8) (k := 15) rfl dX8_takes_144 lX8_67 (by decide) (rf_60) (by simp [rf_c]) (ji_fitZ (by first | omega | decide)) rfl (rf_pmm) ?_
                                      refine ji_aload_n dX8_takes_147 rfl trivial ?_
                                      refine ji_iload_n dX8_takes_148 rfl ?_
                                      first | refine ji_cV dX8_takes_149 (r_fresh1) rfl (rf_60) rfl rfl wX8_fresh vX8_fresh lX8_78 rfl (Nat.le_of_ble_eq_true rfl) rfl ?_ | refine ji_cV dX8_takes_149 (r_fresh0) rfl (rf_60) rfl rfl wX8_fresh vX8_fresh lX8_78 rfl (Nat.le_of_ble_eq_true rfl) rfl ?_
                                      exact ji_ireturn dX8_takes_152 rfl (by first | rfl | exact ji_narB (by omega) | exact ji_narB w_t) ⟨by unfold rf_tk; first | rfl | ((repeat' split) <;> first | rfl | (exfalso; omega)), by unfold rf_tk; first | rfl | ((repeat' split) <;> first | rfl | (exfalso; omega))⟩
                      · try (exfalso; omega)
                        all_goals
                          refine ji_iconst dX8_takes_102 ?_
                          refine ji_goto (tgt := 107) dX8_takes_103 rfl ?_
                          refine ji_iadd dX8_takes_107 ?_
                          refine ji_putE (ci := 8) (k := 14) rfl dX8_takes_108 lX8_82 (by decide) (rf_60) (by simp [rf_c]) (ji_fitI _) rfl (rf_prp) ?_
                          refine ji_aload_n dX8_takes_111 rfl trivial ?_
                          refine ji_iload_n dX8_takes_112 rfl ?_
                          refine ji_if_eq (tgt := 120) dX8_takes_113 rfl (by omega) (fun c113 => ?_) (fun c113 => ?_)
                          · try (exfalso; omega)
                            all_goals
                              refine ji_aload_n dX8_takes_120 rfl trivial ?_
                              refine ji_get (ci := 8) (k := 13) rfl dX8_takes_121 lX8_75 (by decide) (rf_60) rfl ?_
                              refine ji_putE (ci := 8) (k := 13) rfl dX8_takes_124 lX8_75 (by decide) (rf_60) (by simp [rf_c]) (ji_fitI _) rfl (rf_prq) ?_
                              refine ji_aload_n dX8_takes_127 rfl trivial ?_
                              refine ji_iload_n dX8_takes_128 rfl ?_
                              refine ji_if_ne (tgt := 139) dX8_takes_129 rfl (by omega) (fun c129 => ?_) (fun c129 => ?_)
                              · try (exfalso; omega)
                                all_goals
                                  refine ji_iconst dX8_takes_139 ?_
                                  refine ji_goto (tgt := 144) dX8_takes_140 rfl ?_
                                  refine ji_putE (ci := 8) (k := 15) rfl dX8_takes_144 lX8_67 (by decide) (rf_60) (by simp [rf_c]) (ji_fitZ (by first | omega | decide)) rfl (rf_pmm) ?_
                                  refine ji_aload_n dX8_takes_147 rfl trivial ?_
                                  refine ji_iload_n dX8_takes_148 rfl ?_
                                  first | refine ji_cV dX8_takes_149 (r_fresh1) rfl (rf_60) rfl rfl wX8_fresh vX8_fresh lX8_78 rfl (Nat.le_of_ble_eq_true rfl) rfl ?_ | refine ji_cV dX8_takes_149 (r_fresh0) rfl (rf_60) rfl rfl wX8_fresh vX8_fresh lX8_78 rfl (Nat.le_of_ble_eq_true rfl) rfl ?_
                                  exact ji_ireturn dX8_takes_152 rfl (by first | rfl | exact ji_narB (by omega) | exact ji_narB w_t) ⟨by unfold rf_tk; first | rfl | ((repeat' split) <;> first | rfl | (exfalso; omega)), by unfold rf_tk; first | rfl | ((repeat' split) <;> first | rfl | (exfalso; omega))⟩
                              · try (exfalso; omega)
                                all_goals
                                  refine ji_aload_n dX8_takes_132 rfl trivial ?_
                                  refine ji_get (ci := 8) (k := 15) rfl dX8_takes_133 lX8_67 (by decide) (rf_60) rfl ?_
                                  refine ji_if_eq (tgt := 143) dX8_takes_136 rfl (by omega) (fun c136 => ?_) (fun c136 => ?_)
                                  · try (exfalso; omega)
                                    all_goals
                                      refine ji_iconst dX8_takes_143 ?_
                                      refine ji_putE (ci := 8) (k := 15) rfl dX8_takes_144 lX8_67 (by decide) (rf_60) (by simp [rf_c]) (ji_fitZ (by first | omega | decide)) rfl (rf_pmm) ?_
                                      refine ji_aload_n dX8_takes_147 rfl trivial ?_
                                      refine ji_iload_n dX8_takes_148 rfl ?_
                                      first | refine ji_cV dX8_takes_149 (r_fresh1) rfl (rf_60) rfl rfl wX8_fresh vX8_fresh lX8_78 rfl (Nat.le_of_ble_eq_true rfl) rfl ?_ | refine ji_cV dX8_takes_149 (r_fresh0) rfl (rf_60) rfl rfl wX8_fresh vX8_fresh lX8_78 rfl (Nat.le_of_ble_eq_true rfl) rfl ?_
                                      exact ji_ireturn dX8_takes_152 rfl (by first | rfl | exact ji_narB (by omega) | exact ji_narB w_t) ⟨by unfold rf_tk; first | rfl | ((repeat' split) <;> first | rfl | (exfalso; omega)), by unfold rf_tk; first | rfl | ((repeat' split) <;> first | rfl | (exfalso; omega))⟩
                                  · try (exfalso; omega)
                                    all_goals
                                      refine ji_iconst dX8_takes_139 ?_
                                      refine ji_goto (tgt := 144) dX8_takes_140 rfl ?_
                                      refine ji_putE (ci := 8) (k := 15) rfl dX8_takes_144 lX8_67 (by decide) (rf_60) (by simp [rf_c]) (ji_fitZ (by first | omega | decide)) rfl (rf_pmm) ?_
                                      refine ji_aload_n dX8_takes_147 rfl trivial ?_
                                      refine ji_iload_n dX8_takes_148 rfl ?_
                                      first | refine ji_cV dX8_takes_149 (r_fresh1) rfl (rf_60) rfl rfl wX8_fresh vX8_fresh lX8_78 rfl (Nat.le_of_ble_eq_true rfl) rfl ?_ | refine ji_cV dX8_takes_149 (r_fresh0) rfl (rf_60) rfl rfl wX8_fresh vX8_fresh lX8_78 rfl (Nat.le_of_ble_eq_true rfl) rfl ?_
                                      exact ji_ireturn dX8_takes_152 rfl (by first | rfl | exact ji_narB (by omega) | exact ji_narB w_t) ⟨by unfold rf_tk; first | rfl | ((repeat' split) <;> first | rfl | (exfalso; omega)), by unfold rf_tk; first | rfl | ((repeat' split) <;> first | rfl | (exfalso; omega))⟩
                          · try (exfalso; omega)
                            all_goals
                              refine ji_iconst dX8_takes_116 ?_
                              refine ji_goto (tgt := 124) dX8_takes_117 rfl ?_
                              refine ji_putE (ci := 8) (k := 13) rfl dX8_takes_124 lX8_75 (by decide) (rf_60) (by simp [rf_c]) (ji_fitI _) rfl (rf_prq) ?_
                              refine ji_aload_n dX8_takes_127 rfl trivial ?_
                              refine ji_iload_n dX8_takes_128 rfl ?_
                              refine ji_if_ne (tgt := 139) dX8_takes_129 rfl (by omega) (fun c129 => ?_) (fun c129 => ?_)
                              · try (exfalso; omega)
                                all_goals
                                  refine ji_iconst dX8_takes_139 ?_
                                  refine ji_goto (tgt := 144) dX8_takes_140 rfl ?_
                                  refine ji_putE (ci := 8) (k := 15) rfl dX8_takes_144 lX8_67 (by decide) (rf_60) (by simp [rf_c]) (ji_fitZ (by first | omega | decide)) rfl (rf_pmm) ?_
                                  refine ji_aload_n dX8_takes_147 rfl trivial ?_
                                  refine ji_iload_n dX8_takes_148 rfl ?_
                                  first | refine ji_cV dX8_takes_149 (r_fresh1) rfl (rf_60) rfl rfl wX8_fresh vX8_fresh lX8_78 rfl (Nat.le_of_ble_eq_true rfl) rfl ?_ | refine ji_cV dX8_takes_149 (r_fresh0) rfl (rf_60) rfl rfl wX8_fresh vX8_fresh lX8_78 rfl (Nat.le_of_ble_eq_true rfl) rfl ?_
                                  exact ji_ireturn dX8_takes_152 rfl (by first | rfl | exact ji_narB (by omega) | exact ji_narB w_t) ⟨by unfold rf_tk; first | rfl | ((repeat' split) <;> first | rfl | (exfalso; omega)), by unfold rf_tk; first | rfl | ((repeat' split) <;> first | rfl | (exfalso; omega))⟩
                              · try (exfalso; omega)
                                all_goals
                                  refine ji_aload_n dX8_takes_132 rfl trivial ?_
                                  refine ji_get (ci := 8) (k := 15) rfl dX8_takes_133 lX8_67 (by decide) (rf_60) rfl ?_
                                  refine ji_if_eq (tgt := 143) dX8_takes_136 rfl (by omega) (fun c136 => ?_) (fun c136 => ?_)
                                  · try (exfalso; omega)
                                    all_goals
                                      refine ji_iconst dX8_takes_143 ?_
                                      refine ji_putE (ci := 8) (k := 15) rfl dX8_takes_144 lX8_67 (by decide) (rf_60) (by simp [rf_c]) (ji_fitZ (by first | omega | decide)) rfl (rf_pmm) ?_
                                      refine ji_aload_n dX8_takes_147 rfl trivial ?_
                                      refine ji_iload_n dX8_takes_148 rfl ?_
                                      first | refine ji_cV dX8_takes_149 (r_fresh1) rfl (rf_60) rfl rfl wX8_fresh vX8_fresh lX8_78 rfl (Nat.le_of_ble_eq_true rfl) rfl ?_ | refine ji_cV dX8_takes_149 (r_fresh0) rfl (rf_60) rfl rfl wX8_fresh vX8_fresh lX8_78 rfl (Nat.le_of_ble_eq_true rfl) rfl ?_
                                      exact ji_ireturn dX8_takes_152 rfl (by first | rfl | exact ji_narB (by omega) | exact ji_narB w_t) ⟨by unfold rf_tk; first | rfl | ((repeat' split) <;> first | rfl | (exfalso; omega)), by unfold rf_tk; first | rfl | ((repeat' split) <;> first | rfl | (exfalso; omega))⟩
                                  · try (exfalso; omega)
                                    all_goals
                                      refine ji_iconst dX8_takes_139 ?_
                                      refine ji_goto (tgt := 144) dX8_takes_140 rfl ?_
                                      refine ji_putE (ci := 8) (k := 15) rfl dX8_takes_144 lX8_67 (by decide) (rf_60) (by simp [rf_c]) (ji_fitZ (by first | omega | decide)) rfl (rf_pmm) ?_
                                      refine ji_aload_n dX8_takes_147 rfl trivial ?_
                                      refine ji_iload_n dX8_takes_148 rfl ?_
                                      first | refine ji_cV dX8_takes_149 (r_fresh1) rfl (rf_60) rfl rfl wX8_fresh vX8_fresh lX8_78 rfl (Nat.le_of_ble_eq_true rfl) rfl ?_ | refine ji_cV dX8_takes_149 (r_fresh0) rfl (rf_60) rfl rfl wX8_fresh vX8_fresh lX8_78 rfl (Nat.le_of_ble_eq_true rfl) rfl ?_
                                      exact ji_ireturn dX8_takes_152 rfl (by first | rfl | exact ji_narB (by omega) | exact ji_narB w_t) ⟨by unfold rf_tk; first | rfl | ((repeat' split) <;> first | rfl | (exfalso; omega)), by unfold rf_tk; first | rfl | ((repeat' split) <;> first | rfl | (exfalso; omega))⟩
  · try (exfalso; omega)
    all_goals
      refine ji_aload_n dX8_takes_6 rfl trivial ?_
      refine ji_cV dX8_takes_7 (r_isWordOver hsk hi) rfl (rf_60) rfl rfl wX8_isWordOver vX8_isWordOver lX8_71 rfl (Nat.le_of_ble_eq_true rfl) rfl ?_
      refine ji_if_eq (tgt := 35) dX8_takes_10 rfl (by omega) (fun c10 => ?_) (fun c10 => ?_)
      · try (exfalso; omega)
        all_goals
          refine ji_iconst dX8_takes_35 ?_
          refine ji_istore_n dX8_takes_36 (by decide) rfl ?_
          refine ji_aload_n dX8_takes_37 rfl trivial ?_
          refine ji_dup dX8_takes_38 rfl ?_
          refine ji_get (ci := 8) (k := 13) rfl dX8_takes_39 lX8_75 (by decide) (rf_60) rfl ?_
          refine ji_iload_n dX8_takes_42 rfl ?_
          refine ji_if_eq (tgt := 50) dX8_takes_43 rfl (by omega) (fun c43 => ?_) (fun c43 => ?_)
          · try (exfalso; omega)
            all_goals
              refine ji_iconst dX8_takes_50 ?_
              refine ji_iadd dX8_takes_51 ?_
              refine ji_putE (ci := 8) (k := 13) rfl dX8_takes_52 lX8_75 (by decide) (rf_60) (by simp [rf_c]) (ji_fitI _) rfl (rf_prq) ?_
              refine ji_aload_n dX8_takes_55 rfl trivial ?_
              refine ji_iload_n dX8_takes_56 rfl ?_
              first | refine ji_cV dX8_takes_57 (r_fresh1) rfl (rf_60) rfl rfl wX8_fresh vX8_fresh lX8_78 rfl (Nat.le_of_ble_eq_true rfl) rfl ?_ | refine ji_cV dX8_takes_57 (r_fresh0) rfl (rf_60) rfl rfl wX8_fresh vX8_fresh lX8_78 rfl (Nat.le_of_ble_eq_true rfl) rfl ?_
              exact ji_ireturn dX8_takes_60 rfl (by first | rfl | exact ji_narB (by omega) | exact ji_narB w_t) ⟨by unfold rf_tk; first | rfl | ((repeat' split) <;> first | rfl | (exfalso; omega)), by unfold rf_tk; first | rfl | ((repeat' split) <;> first | rfl | (exfalso; omega))⟩
          · try (exfalso; omega)
            all_goals
              refine ji_iconst dX8_takes_46 ?_
              refine ji_goto (tgt := 51) dX8_takes_47 rfl ?_
              refine ji_iadd dX8_takes_51 ?_
              refine ji_putE (ci := 8) (k := 13) rfl dX8_takes_52 lX8_75 (by decide) (rf_60) (by simp [rf_c]) (ji_fitI _) rfl (rf_prq) ?_
              refine ji_aload_n dX8_takes_55 rfl trivial ?_
              refine ji_iload_n dX8_takes_56 rfl ?_
              first | refine ji_cV dX8_takes_57 (r_fresh1) rfl (rf_60) rfl rfl wX8_fresh vX8_fresh lX8_78 rfl (Nat.le_of_ble_eq_true rfl) rfl ?_ | refine ji_cV dX8_takes_57 (r_fresh0) rfl (rf_60) rfl rfl wX8_fresh vX8_fresh lX8_78 rfl (Nat.le_of_ble_eq_true rfl) rfl ?_
              exact ji_ireturn dX8_takes_60 rfl (by first | rfl | exact ji_narB (by omega) | exact ji_narB w_t) ⟨by unfold rf_tk; first | rfl | ((repeat' split) <;> first | rfl | (exfalso; omega)), by unfold rf_tk; first | rfl | ((repeat' split) <;> first | rfl | (exfalso; omega))⟩
      · try (exfalso; omega)
        all_goals
          refine ji_aload_n dX8_takes_13 rfl trivial ?_
          refine ji_get (ci := 8) (k := 13) rfl dX8_takes_14 lX8_75 (by decide) (rf_60) rfl ?_
          refine ji_iload_n dX8_takes_17 rfl ?_
          refine ji_if_eq (tgt := 26) dX8_takes_18 rfl (by omega) (fun c18 => ?_) (fun c18 => ?_)
          · try (exfalso; omega)
            all_goals
              refine ji_bipush dX8_takes_26 rfl ?_
              refine ji_icmp_ge (tgt := 35) dX8_takes_28 rfl (by omega) (by omega) (fun c28 => ?_) (fun c28 => ?_)
              · try (exfalso; omega)
                all_goals
                  refine ji_iconst dX8_takes_35 ?_
                  refine ji_istore_n dX8_takes_36 (by decide) rfl ?_
                  refine ji_aload_n dX8_takes_37 rfl trivial ?_
                  refine ji_dup dX8_takes_38 rfl ?_
                  refine ji_get (ci := 8) (k := 13) rfl dX8_takes_39 lX8_75 (by decide) (rf_60) rfl ?_
                  refine ji_iload_n dX8_takes_42 rfl ?_
                  refine ji_if_eq (tgt := 50) dX8_takes_43 rfl (by omega) (fun c43 => ?_) (fun c43 => ?_)
                  · try (exfalso; omega)
                    all_goals
                      refine ji_iconst dX8_takes_50 ?_
                      refine ji_iadd dX8_takes_51 ?_
                      refine ji_putE (ci := 8) (k := 13) rfl dX8_takes_52 lX8_75 (by decide) (rf_60) (by simp [rf_c]) (ji_fitI _) rfl (rf_prq) ?_
                      refine ji_aload_n dX8_takes_55 rfl trivial ?_
                      refine ji_iload_n dX8_takes_56 rfl ?_
                      first | refine ji_cV dX8_takes_57 (r_fresh1) rfl (rf_60) rfl rfl wX8_fresh vX8_fresh lX8_78 rfl (Nat.le_of_ble_eq_true rfl) rfl ?_ | refine ji_cV dX8_takes_57 (r_fresh0) rfl (rf_60) rfl rfl wX8_fresh vX8_fresh lX8_78 rfl (Nat.le_of_ble_eq_true rfl) rfl ?_
                      exact ji_ireturn dX8_takes_60 rfl (by first | rfl | exact ji_narB (by omega) | exact ji_narB w_t) ⟨by unfold rf_tk; first | rfl | ((repeat' split) <;> first | rfl | (exfalso; omega)), by unfold rf_tk; first | rfl | ((repeat' split) <;> first | rfl | (exfalso; omega))⟩
                  · try (exfalso; omega)
                    all_goals
                      refine ji_iconst dX8_takes_46 ?_
                      refine ji_goto (tgt := 51) dX8_takes_47 rfl ?_
                      refine ji_iadd dX8_takes_51 ?_
                      refine ji_putE (ci := 8) (k := 13) rfl dX8_takes_52 lX8_75 (by decide) (rf_60) (by simp [rf_c]) (ji_fitI _) rfl (rf_prq) ?_
                      refine ji_aload_n dX8_takes_55 rfl trivial ?_
                      refine ji_iload_n dX8_takes_56 rfl ?_
                      first | refine ji_cV dX8_takes_57 (r_fresh1) rfl (rf_60) rfl rfl wX8_fresh vX8_fresh lX8_78 rfl (Nat.le_of_ble_eq_true rfl) rfl ?_ | refine ji_cV dX8_takes_57 (r_fresh0) rfl (rf_60) rfl rfl wX8_fresh vX8_fresh lX8_78 rfl (Nat.le_of_ble_eq_true rfl) rfl ?_
                      exact ji_ireturn dX8_takes_60 rfl (by first | rfl | exact ji_narB (by omega) | exact ji_narB w_t) ⟨by unfold rf_tk; first | rfl | ((repeat' split) <;> first | rfl | (exfalso; omega)), by unfold rf_tk; first | rfl | ((repeat' split) <;> first | rfl | (exfalso; omega))⟩
              · try (exfalso; omega)
                all_goals
                  refine ji_iconst dX8_takes_31 ?_
                  refine ji_goto (tgt := 36) dX8_takes_32 rfl ?_
                  refine ji_istore_n dX8_takes_36 (by decide) rfl ?_
                  refine ji_aload_n dX8_takes_37 rfl trivial ?_
                  refine ji_dup dX8_takes_38 rfl ?_
                  refine ji_get (ci := 8) (k := 13) rfl dX8_takes_39 lX8_75 (by decide) (rf_60) rfl ?_
                  refine ji_iload_n dX8_takes_42 rfl ?_
                  refine ji_if_eq (tgt := 50) dX8_takes_43 rfl (by omega) (fun c43 => ?_) (fun c43 => ?_)
                  · try (exfalso; omega)
                    all_goals
                      refine ji_iconst dX8_takes_50 ?_
                      refine ji_iadd dX8_takes_51 ?_
                      refine ji_putE (ci := 8) (k := 13) rfl dX8_takes_52 lX8_75 (by decide) (rf_60) (by simp [rf_c]) (ji_fitI _) rfl (rf_prq) ?_
                      refine ji_aload_n dX8_takes_55 rfl trivial ?_
                      refine ji_iload_n dX8_takes_56 rfl ?_
                      first | refine ji_cV dX8_takes_57 (r_fresh1) rfl (rf_60) rfl rfl wX8_fresh vX8_fresh lX8_78 rfl (Nat.le_of_ble_eq_true rfl) rfl ?_ | refine ji_cV dX8_takes_57 (r_fresh0) rfl (rf_60) rfl rfl wX8_fresh vX8_fresh lX8_78 rfl (Nat.le_of_ble_eq_true rfl) rfl ?_
                      exact ji_ireturn dX8_takes_60 rfl (by first | rfl | exact ji_narB (by omega) | exact ji_narB w_t) ⟨by unfold rf_tk; first | rfl | ((repeat' split) <;> first | rfl | (exfalso; omega)), by unfold rf_tk; first | rfl | ((repeat' split) <;> first | rfl | (exfalso; omega))⟩
                  · try (exfalso; omega)
                    all_goals
                      refine ji_iconst dX8_takes_46 ?_
                      refine ji_goto (tgt := 51) dX8_takes_47 rfl ?_
                      refine ji_iadd dX8_takes_51 ?_
                      refine ji_putE (ci := 8) (k := 13) rfl dX8_takes_52 lX8_75 (by decide) (rf_60) (by simp [rf_c]) (ji_fitI _) rfl (rf_prq) ?_
                      refine ji_aload_n dX8_takes_55 rfl trivial ?_
                      refine ji_iload_n dX8_takes_56 rfl ?_
                      first | refine ji_cV dX8_takes_57 (r_fresh1) rfl (rf_60) rfl rfl wX8_fresh vX8_fresh lX8_78 rfl (Nat.le_of_ble_eq_true rfl) rfl ?_ | refine ji_cV dX8_takes_57 (r_fresh0) rfl (rf_60) rfl rfl wX8_fresh vX8_fresh lX8_78 rfl (Nat.le_of_ble_eq_true rfl) rfl ?_
                      exact ji_ireturn dX8_takes_60 rfl (by first | rfl | exact ji_narB (by omega) | exact ji_narB w_t) ⟨by unfold rf_tk; first | rfl | ((repeat' split) <;> first | rfl | (exfalso; omega)), by unfold rf_tk; first | rfl | ((repeat' split) <;> first | rfl | (exfalso; omega))⟩
          · try (exfalso; omega)
            all_goals
              refine ji_bipush dX8_takes_21 rfl ?_
              refine ji_goto (tgt := 28) dX8_takes_23 rfl ?_
              refine ji_icmp_ge (tgt := 35) dX8_takes_28 rfl (by omega) (by omega) (fun c28 => ?_) (fun c28 => ?_)
              · try (exfalso; omega)
                all_goals
                  refine ji_iconst dX8_takes_35 ?_
                  refine ji_istore_n dX8_takes_36 (by decide) rfl ?_
                  refine ji_aload_n dX8_takes_37 rfl trivial ?_
                  refine ji_dup dX8_takes_38 rfl ?_
                  refine ji_get (ci := 8) (k := 13) rfl dX8_takes_39 lX8_75 (by decide) (rf_60) rfl ?_
                  refine ji_iload_n dX8_takes_42 rfl ?_
                  refine ji_if_eq (tgt := 50) dX8_takes_43 rfl (by omega) (fun c43 => ?_) (fun c43 => ?_)
                  · try (exfalso; omega)
                    all_goals
                      refine ji_iconst dX8_takes_50 ?_
                      refine ji_iadd dX8_takes_51 ?_
                      refine ji_putE (ci := 8) (k := 13) rfl dX8_takes_52 lX8_75 (by decide) (rf_60) (by simp [rf_c]) (ji_fitI _) rfl (rf_prq) ?_
                      refine ji_aload_n dX8_takes_55 rfl trivial ?_
                      refine ji_iload_n dX8_takes_56 rfl ?_
                      first | refine ji_cV dX8_takes_57 (r_fresh1) rfl (rf_60) rfl rfl wX8_fresh vX8_fresh lX8_78 rfl (Nat.le_of_ble_eq_true rfl) rfl ?_ | refine ji_cV dX8_takes_57 (r_fresh0) rfl (rf_60) rfl rfl wX8_fresh vX8_fresh lX8_78 rfl (Nat.le_of_ble_eq_true rfl) rfl ?_
                      exact ji_ireturn dX8_takes_60 rfl (by first | rfl | exact ji_narB (by omega) | exact ji_narB w_t) ⟨by unfold rf_tk; first | rfl | ((repeat' split) <;> first | rfl | (exfalso; omega)), by unfold rf_tk; first | rfl | ((repeat' split) <;> first | rfl | (exfalso; omega))⟩
                  · try (exfalso; omega)
                    all_goals
                      refine ji_iconst dX8_takes_46 ?_
                      refine ji_goto (tgt := 51) dX8_takes_47 rfl ?_
                      refine ji_iadd dX8_takes_51 ?_
                      refine ji_putE (ci := 8) (k := 13) rfl dX8_takes_52 lX8_75 (by decide) (rf_60) (by simp [rf_c]) (ji_fitI _) rfl (rf_prq) ?_
                      refine ji_aload_n dX8_takes_55 rfl trivial ?_
                      refine ji_iload_n dX8_takes_56 rfl ?_
                      first | refine ji_cV dX8_takes_57 (r_fresh1) rfl (rf_60) rfl rfl wX8_fresh vX8_fresh lX8_78 rfl (Nat.le_of_ble_eq_true rfl) rfl ?_ | refine ji_cV dX8_takes_57 (r_fresh0) rfl (rf_60) rfl rfl wX8_fresh vX8_fresh lX8_78 rfl (Nat.le_of_ble_eq_true rfl) rfl ?_
                      exact ji_ireturn dX8_takes_60 rfl (by first | rfl | exact ji_narB (by omega) | exact ji_narB w_t) ⟨by unfold rf_tk; first | rfl | ((repeat' split) <;> first | rfl | (exfalso; omega)), by unfold rf_tk; first | rfl | ((repeat' split) <;> first | rfl | (exfalso; omega))⟩
              · try (exfalso; omega)
                all_goals
                  refine ji_iconst dX8_takes_31 ?_
                  refine ji_goto (tgt := 36) dX8_takes_32 rfl ?_
                  refine ji_istore_n dX8_takes_36 (by decide) rfl ?_
                  refine ji_aload_n dX8_takes_37 rfl trivial ?_
                  refine ji_dup dX8_takes_38 rfl ?_
                  refine ji_get (ci := 8) (k := 13) rfl dX8_takes_39 lX8_75 (by decide) (rf_60) rfl ?_
                  refine ji_iload_n dX8_takes_42 rfl ?_
                  refine ji_if_eq (tgt := 50) dX8_takes_43 rfl (by omega) (fun c43 => ?_) (fun c43 => ?_)
                  · try (exfalso; omega)
                    all_goals
                      refine ji_iconst dX8_takes_50 ?_
                      refine ji_iadd dX8_takes_51 ?_
                      refine ji_putE (ci := 8) (k := 13) rfl dX8_takes_52 lX8_75 (by decide) (rf_60) (by simp [rf_c]) (ji_fitI _) rfl (rf_prq) ?_
                      refine ji_aload_n dX8_takes_55 rfl trivial ?_
                      refine ji_iload_n dX8_takes_56 rfl ?_
                      first | refine ji_cV dX8_takes_57 (r_fresh1) rfl (rf_60) rfl rfl wX8_fresh vX8_fresh lX8_78 rfl (Nat.le_of_ble_eq_true rfl) rfl ?_ | refine ji_cV dX8_takes_57 (r_fresh0) rfl (rf_60) rfl rfl wX8_fresh vX8_fresh lX8_78 rfl (Nat.le_of_ble_eq_true rfl) rfl ?_
                      exact ji_ireturn dX8_takes_60 rfl (by first | rfl | exact ji_narB (by omega) | exact ji_narB w_t) ⟨by unfold rf_tk; first | rfl | ((repeat' split) <;> first | rfl | (exfalso; omega)), by unfold rf_tk; first | rfl | ((repeat' split) <;> first | rfl | (exfalso; omega))⟩
                  · try (exfalso; omega)
                    all_goals
                      refine ji_iconst dX8_takes_46 ?_
                      refine ji_goto (tgt := 51) dX8_takes_47 rfl ?_
                      refine ji_iadd dX8_takes_51 ?_
                      refine ji_putE (ci := 8) (k := 13) rfl dX8_takes_52 lX8_75 (by decide) (rf_60) (by simp [rf_c]) (ji_fitI _) rfl (rf_prq) ?_
                      refine ji_aload_n dX8_takes_55 rfl trivial ?_
                      refine ji_iload_n dX8_takes_56 rfl ?_
                      first | refine ji_cV dX8_takes_57 (r_fresh1) rfl (rf_60) rfl rfl wX8_fresh vX8_fresh lX8_78 rfl (Nat.le_of_ble_eq_true rfl) rfl ?_ | refine ji_cV dX8_takes_57 (r_fresh0) rfl (rf_60) rfl rfl wX8_fresh vX8_fresh lX8_78 rfl (Nat.le_of_ble_eq_true rfl) rfl ?_
                      exact ji_ireturn dX8_takes_60 rfl (by first | rfl | exact ji_narB (by omega) | exact ji_narB w_t) ⟨by unfold rf_tk; first | rfl | ((repeat' split) <;> first | rfl | (exfalso; omega)), by unfold rf_tk; first | rfl | ((repeat' split) <;> first | rfl | (exfalso; omega))⟩

set_option maxHeartbeats 4000000 in
set_option maxRecDepth 100000 in
theorem r_rightLength_l {bc bs : Nat} {b : Int} {R : Int × rf_S} (hb : b = 0 ∨ b = 1) (hz : 0 ≤ sz ∧ sz ≤ 100) (hbf : ∀ k, 0 ≤ bf k ∧ bf k < 128) : ∀ (u : Nat) (i rs rr rq rp mm : Int), 0 ≤ i ∧ i + u = sz → rf_sk i rs rr rq rp mm → R = rf_rl b bf u i rs rr rq rp mm →
    JW G (d + 4) mX8_rightLength 27 [some (.ref 60), some (.int (jI b)), some (.int (jI i))] [] (n, rf_f f th z kp ed nt nl wi ht sy sz bf rs rr rq rp mm ln lo lf lt co ro pg pf hsh) bc bs (fun r9 h9 => r9 = .inl (some (.int (jI R.1))) ∧ h9 = (n, rf_f f th z kp ed nt nl wi ht sy sz bf R.2.1 R.2.2.1 R.2.2.2.1 R.2.2.2.2.1 R.2.2.2.2.2 ln lo lf lt co ro pg pf hsh)) := by
  intro u
  induction u with
  | zero =>
    intro i rs rr rq rp mm hi hsk hR
    refine ji_iload_n dX8_rightLength_27 rfl ?_
    refine ji_aload_n dX8_rightLength_28 rfl trivial ?_
    refine ji_get (ci := 8) (k := 9) rfl dX8_rightLength_29 lX8_54 (by decide) (rf_60) rfl ?_
    refine ji_icmp_ge (tgt := 55) dX8_rightLength_32 rfl (by omega) (by omega) (fun c32 => ?_) (fun c32 => absurd c32 (by omega))
    refine ji_iload_n dX8_rightLength_55 rfl ?_
    exact ji_ireturn dX8_rightLength_56 rfl (rfl) ⟨by rw [hR]; rfl, by rw [hR]; rfl⟩
  | succ u ih =>
    intro i rs rr rq rp mm hi hsk hR
    have w_t := rf_tk_b b rs rr rq rp mm (bf i.toNat)
    refine ji_iload_n dX8_rightLength_27 rfl ?_
    refine ji_aload_n dX8_rightLength_28 rfl trivial ?_
    refine ji_get (ci := 8) (k := 9) rfl dX8_rightLength_29 lX8_54 (by decide) (rf_60) rfl ?_
    refine ji_icmp_ge (tgt := 55) dX8_rightLength_32 rfl (by omega) (by omega) (fun c32 => absurd c32 (by omega)) (fun c32 => ?_)
    refine ji_aload_n dX8_rightLength_35 rfl trivial ?_
    refine ji_aload_n dX8_rightLength_36 rfl trivial ?_
    refine ji_get (ci := 8) (k := 10) rfl dX8_rightLength_37 lX8_32 (by decide) (rf_60) rfl ?_
    refine ji_iload_n dX8_rightLength_40 rfl ?_
    refine ji_iaload dX8_rightLength_41 (rf_66) (by omega) ?_
    refine ji_iload_n dX8_rightLength_42 rfl ?_
    refine ji_cV dX8_rightLength_43 (r_takes hb (by have := hbf i.toNat; omega) hsk (by omega)) rfl (rf_60) rfl rfl wX8_takes vX8_takes lX8_88 rfl (Nat.le_of_ble_eq_true rfl) rfl ?_
    refine ji_if_eq (tgt := 55) dX8_rightLength_46 rfl (by omega) (fun c46 => ?_) (fun c46 => ?_)
    · try (exfalso; omega)
      all_goals
        refine ji_iload_n dX8_rightLength_55 rfl ?_
        exact ji_ireturn dX8_rightLength_56 rfl (rfl) ⟨by rw [hR, rf_rl, if_pos (by omega)], by rw [hR, rf_rl, if_pos (by omega)]⟩
    · try (exfalso; omega)
      all_goals
        refine ji_iinc dX8_rightLength_49 (by decide) rfl rfl ?_
        refine ji_goto (tgt := 27) dX8_rightLength_52 rfl ?_
        exact ih _ _ _ _ _ _ (by omega) (rf_tk_k hsk _) (by rw [hR, rf_rl, if_neg (by omega)])

set_option maxHeartbeats 4000000 in
set_option maxRecDepth 100000 in
theorem r_rightLength {b : Int} (hb : b = 0 ∨ b = 1) (hz : 0 ≤ sz ∧ sz ≤ 100) (hbf : ∀ k, 0 ≤ bf k ∧ bf k < 128) : JR G (d + 4) mX8_rightLength [.ref 60, .int (jI b)] (n, rf_f f th z kp ed nt nl wi ht sy sz bf rs rr rq rp mm ln lo lf lt co ro pg pf hsh) 0 0 (some (.int (jI ((rf_RL sz bf b).1)))) (n, rf_f f th z kp ed nt nl wi ht sy sz bf ((rf_RL sz bf b).2.1) ((rf_RL sz bf b).2.2.1) ((rf_RL sz bf b).2.2.2.1) ((rf_RL sz bf b).2.2.2.2.1) ((rf_RL sz bf b).2.2.2.2.2) ln lo lf lt co ro pg pf hsh) := by
  refine ji_ent (by decide) rfl (Nat.le_of_ble_eq_true rfl) rfl ?_
  refine ji_aload_n dX8_rightLength_0 rfl trivial ?_
  refine ji_iconst dX8_rightLength_1 ?_
  refine ji_putE (ci := 8) (k := 11) rfl dX8_rightLength_2 lX8_57 (by decide) (rf_60) (by simp [rf_c]) (ji_fitI _) rfl (rf_prs) ?_
  refine ji_aload_n dX8_rightLength_5 rfl trivial ?_
  refine ji_iconst dX8_rightLength_6 ?_
  refine ji_putE (ci := 8) (k := 12) rfl dX8_rightLength_7 lX8_60 (by decide) (rf_60) (by simp [rf_c]) (ji_fitI _) rfl (rf_prr) ?_
  refine ji_aload_n dX8_rightLength_10 rfl trivial ?_
  refine ji_iconst dX8_rightLength_11 ?_
  refine ji_putE (ci := 8) (k := 13) rfl dX8_rightLength_12 lX8_75 (by decide) (rf_60) (by simp [rf_c]) (ji_fitI _) rfl (rf_prq) ?_
  refine ji_aload_n dX8_rightLength_15 rfl trivial ?_
  refine ji_iconst dX8_rightLength_16 ?_
  refine ji_putE (ci := 8) (k := 14) rfl dX8_rightLength_17 lX8_82 (by decide) (rf_60) (by simp [rf_c]) (ji_fitI _) rfl (rf_prp) ?_
  refine ji_aload_n dX8_rightLength_20 rfl trivial ?_
  refine ji_iconst dX8_rightLength_21 ?_
  refine ji_putE (ci := 8) (k := 15) rfl dX8_rightLength_22 lX8_67 (by decide) (rf_60) (by simp [rf_c]) (ji_fitZ (by first | omega | decide)) rfl (rf_pmm) ?_
  refine ji_iconst dX8_rightLength_25 ?_
  refine ji_istore_n dX8_rightLength_26 (by decide) rfl ?_
  exact r_rightLength_l hb hz hbf sz.toNat 0 0 0 1 1 1 (by omega) (by unfold rf_sk; omega) rfl

set_option maxHeartbeats 4000000 in
set_option maxRecDepth 100000 in
theorem r_isText {b : Int} (hb : b = 0 ∨ b = 1) (hz : 0 ≤ sz ∧ sz ≤ 100) (hbf : ∀ k, 0 ≤ bf k ∧ bf k < 128) : JR G (d + 5) mX8_isText [.ref 60, .int (jI b)] (n, rf_f f th z kp ed nt nl wi ht sy sz bf rs rr rq rp mm ln lo lf lt co ro pg pf hsh) 0 0 (some (.int (jI (rf_TX sz bf b)))) (n, rf_f f th z kp ed nt nl wi ht sy sz bf ((rf_RL sz bf b).2.1) ((rf_RL sz bf b).2.2.1) ((rf_RL sz bf b).2.2.2.1) ((rf_RL sz bf b).2.2.2.2.1) ((rf_RL sz bf b).2.2.2.2.2) ln lo lf lt co ro pg pf hsh) := by
  have w_k := rf_RL_k hz bf b
  have w_w := rf_wo_d (rf_RL sz bf b).2.1 (rf_RL sz bf b).2.2.1
  refine ji_ent (by decide) rfl (Nat.le_of_ble_eq_true rfl) rfl ?_
  refine ji_aload_n dX8_isText_0 rfl trivial ?_
  refine ji_iload_n dX8_isText_1 rfl ?_
  refine ji_cV dX8_isText_2 (r_rightLength hb hz hbf) rfl (rf_60) rfl rfl wX8_rightLength vX8_rightLength lX8_92 rfl (Nat.le_of_ble_eq_true rfl) rfl ?_
  refine ji_aload_n dX8_isText_5 rfl trivial ?_
  refine ji_get (ci := 8) (k := 9) rfl dX8_isText_6 lX8_54 (by decide) (rf_60) rfl ?_
  refine ji_icmp_ne (tgt := 23) dX8_isText_9 rfl (by omega) (by omega) (fun c9 => ?_) (fun c9 => ?_)
  · try (exfalso; omega)
    all_goals
      refine ji_iconst dX8_isText_23 ?_
      exact ji_ireturn dX8_isText_24 rfl (by first | rfl | decide) ⟨jr_i (by unfold rf_TX; first | (rw [if_pos (by omega)]; done) | (rw [if_neg (by omega)]; done)), rfl⟩
  · try (exfalso; omega)
    all_goals
      refine ji_aload_n dX8_isText_12 rfl trivial ?_
      refine ji_cV dX8_isText_13 (r_isWordOver w_k.2 (by omega)) rfl (rf_60) rfl rfl wX8_isWordOver vX8_isWordOver lX8_71 rfl (Nat.le_of_ble_eq_true rfl) rfl ?_
      refine ji_if_eq (tgt := 23) dX8_isText_16 rfl (by omega) (fun c16 => ?_) (fun c16 => ?_)
      · try (exfalso; omega)
        all_goals
          refine ji_iconst dX8_isText_23 ?_
          exact ji_ireturn dX8_isText_24 rfl (by first | rfl | decide) ⟨jr_i (by unfold rf_TX; first | (rw [if_pos (by omega)]; done) | (rw [if_neg (by omega)]; done)), rfl⟩
      · try (exfalso; omega)
        all_goals
          refine ji_iconst dX8_isText_19 ?_
          refine ji_goto (tgt := 24) dX8_isText_20 rfl ?_
          exact ji_ireturn dX8_isText_24 rfl (by first | rfl | decide) ⟨jr_i (by unfold rf_TX; first | (rw [if_pos (by omega)]; done) | (rw [if_neg (by omega)]; done)), rfl⟩

theorem rf_TX_b (sz : Int) (bf : Nat → Int) (b : Int) : rf_TX sz bf b = 0 ∨ rf_TX sz bf b = 1 := by unfold rf_TX; split <;> omega
end RF
