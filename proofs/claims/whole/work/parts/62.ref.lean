/-! ===== the reference: texts ===== -/
def rz_ok (z : Nat → Int) : Prop := (∀ j, -10000 ≤ z j ∧ z j ≤ 10000) ∧ (1 ≤ z 0 ∧ z 0 ≤ 10) ∧ (∀ j, 85 ≤ j → j < 95 → 0 ≤ z j ∧ z j ≤ 359) ∧ ∀ j, 95 ≤ j → 0 ≤ z j ∧ z j < 128
def nl_ok (nl nt : Nat → Int) : Prop := (∀ j, 0 ≤ nl j ∧ nl j ≤ 100) ∧ ∀ j, 0 ≤ nt j ∧ nt j < 128
/-- a text's length and its characters: 0 to 9 paragraphs, 10 to 19 notes -/
def rf_sz (z nl : Nat → Int) (t : Int) : Int := if t < 10 then z (85 + t).toNat else nl (t - 10).toNat + 2
def rf_ch (z nt : Nat → Int) (t k : Int) : Int := if t < 10 then z (95 + 360 * t + k).toNat else if k = 0 then 48 + (t - 10) else if k = 1 then 32 else nt (100 * (t - 10) + k - 2).toNat
theorem rf_sz_b {z nl nt : Nat → Int} (hz : rz_ok z) (hn : nl_ok nl nt) {t : Int} (ht : 0 ≤ t ∧ t < 20) : 0 ≤ rf_sz z nl t ∧ (t < 10 → rf_sz z nl t ≤ 359) ∧ (10 ≤ t → 2 ≤ rf_sz z nl t ∧ rf_sz z nl t ≤ 102) := by
  unfold rf_sz
  split
  · have := hz.2.2.1 (85 + t).toNat (by omega) (by omega); omega
  · have := hn.1 (t - 10).toNat; omega
theorem rf_ch_b {z nl nt : Nat → Int} (hz : rz_ok z) (hn : nl_ok nl nt) {t k : Int} (ht : 0 ≤ t ∧ t < 20) (hk : 0 ≤ k) : 0 ≤ rf_ch z nt t k ∧ rf_ch z nt t k < 128 := by
  unfold rf_ch
  split
  · exact hz.2.2.2 _ (by omega)
  · split
    · omega
    · split
      · omega
      · exact hn.2 _
def rf_we (S : Int) (C : Int → Int) : Nat → Int → Int
  | 0, k => k
  | u + 1, k => if k < S ∧ ¬ C k = 32 then rf_we S C u (k + 1) else k
def rf_WE (S : Int) (C : Int → Int) (k : Int) : Int := rf_we S C (S - k).toNat k
theorem rf_we_b (S : Int) (C : Int → Int) : ∀ (u : Nat) (k : Int), k ≤ rf_we S C u k ∧ (rf_we S C u k ≤ S ∨ rf_we S C u k = k)
  | 0, k => by unfold rf_we; omega
  | u + 1, k => by have := rf_we_b S C u (k + 1); unfold rf_we; split <;> omega
theorem rf_WE_b (S : Int) (C : Int → Int) (k : Int) : k ≤ rf_WE S C k ∧ (rf_WE S C k ≤ S ∨ rf_WE S C k = k) := rf_we_b S C _ k
def rf_le (S : Int) (C : Int → Int) (x ind cols : Int) : Nat → Int → Int
  | 0, e => e
  | u + 1, e => if ind + rf_WE S C (e + 1) - x ≤ cols then (if rf_WE S C (e + 1) < S then rf_le S C x ind cols u (rf_WE S C (e + 1)) else rf_WE S C (e + 1)) else e
def rf_LE (S : Int) (C : Int → Int) (x ind cols : Int) : Int := if rf_WE S C x < S then rf_le S C x ind cols (S - rf_WE S C x).toNat (rf_WE S C x) else rf_WE S C x
theorem rf_le_b (S : Int) (C : Int → Int) (x ind cols : Int) : ∀ (u : Nat) (e : Int), e < S → e ≤ rf_le S C x ind cols u e ∧ rf_le S C x ind cols u e ≤ S
  | 0, e, h => by unfold rf_le; omega
  | u + 1, e, h => by
    have h1 := rf_WE_b S C (e + 1)
    unfold rf_le
    split
    · split
      · have := rf_le_b S C x ind cols u (rf_WE S C (e + 1)) (by omega); omega
      · omega
    · omega
theorem rf_LE_b (S : Int) (C : Int → Int) (x ind cols : Int) : x ≤ rf_LE S C x ind cols ∧ (rf_LE S C x ind cols ≤ S ∨ rf_LE S C x ind cols = x) := by
  have h1 := rf_WE_b S C x
  unfold rf_LE
  split
  · have := rf_le_b S C x ind cols (S - rf_WE S C x).toNat (rf_WE S C x) (by omega); omega
  · omega
def rf_wc (C : Int → Int) : Nat → Int
  | 0 => 0
  | i + 1 => rf_wc C i + (if C i = 32 then 1 else 0)
theorem rf_wc_b (C : Int → Int) : ∀ i : Nat, 0 ≤ rf_wc C i ∧ rf_wc C i ≤ i
  | 0 => by simp [rf_wc]
  | i + 1 => by have := rf_wc_b C i; unfold rf_wc; split <;> omega
def rf_st (S : Int) (C : Int → Int) : Nat → Int → Int
  | 0, k => k
  | u + 1, k => rf_st S C u (rf_WE S C k + 1)
def rf_ST (S : Int) (C : Int → Int) (w : Int) : Int := if S < rf_st S C w.toNat 0 then S else rf_st S C w.toNat 0
theorem rf_st_b (S : Int) (C : Int → Int) : ∀ (u : Nat) (k : Int), k ≤ rf_st S C u k ∧ (rf_st S C u k ≤ S + u ∨ rf_st S C u k ≤ k + u)
  | 0, k => by unfold rf_st; omega
  | u + 1, k => by have h1 := rf_WE_b S C k; have h2 := rf_st_b S C u (rf_WE S C k + 1); unfold rf_st; omega
def rf_nw (nt : Nat → Int) (k : Int) : Nat → Int
  | 0 => 0
  | i + 1 => rf_nw nt k i + (if nt (100 * k + i).toNat = 32 then 1 else 0)
theorem rf_nw_b (nt : Nat → Int) (k : Int) : ∀ i : Nat, 0 ≤ rf_nw nt k i ∧ rf_nw nt k i ≤ i
  | 0 => by simp [rf_nw]
  | i + 1 => by have := rf_nw_b nt k i; unfold rf_nw; split <;> omega
def rf_NW (nl nt : Nat → Int) (k : Int) : Int := (if 0 < nl k.toNat then 1 else 0) + rf_nw nt k (nl k.toNat).toNat
section RF
variable {G : ji_G} {d n : Nat} {f : Nat → ji_C} {th ed wi ht sz rs rr rq rp mm ln co ro pg : Int} {z kp nt nl sy bf lo lf lt pf : Nat → Int} {hsh : Int64}
set_option maxHeartbeats 4000000 in
set_option maxRecDepth 100000 in
theorem r_sizeOf (hz : rz_ok z) (hn : nl_ok nl nt) {t : Int} (ht9 : 0 ≤ t ∧ t < 20) : JR G d mX8_sizeOf [.ref 60, .int (jI t)] (n, rf_f f th z kp ed nt nl wi ht sy sz bf rs rr rq rp mm ln lo lf lt co ro pg pf hsh) 0 0 (some (.int (jI (rf_sz z nl t)))) (n, rf_f f th z kp ed nt nl wi ht sy sz bf rs rr rq rp mm ln lo lf lt co ro pg pf hsh) := by
  obtain ⟨z1, z2, z3, z4⟩ := id hz
  obtain ⟨n1, n2⟩ := id hn
  refine ji_ent (by decide) rfl (Nat.le_of_ble_eq_true rfl) rfl ?_
  refine ji_iload_n dX8_sizeOf_0 rfl ?_
  refine ji_bipush dX8_sizeOf_1 rfl ?_
  refine ji_icmp_ge (tgt := 18) dX8_sizeOf_3 rfl (by omega) (by omega) (fun c3 => ?_) (fun c3 => ?_)
  · try (exfalso; omega)
    all_goals
      refine ji_aload_n dX8_sizeOf_18 rfl trivial ?_
      refine ji_get (ci := 8) (k := 5) rfl dX8_sizeOf_19 lX8_19 (by decide) (rf_60) rfl ?_
      refine ji_iload_n dX8_sizeOf_22 rfl ?_
      refine ji_bipush dX8_sizeOf_23 rfl ?_
      refine ji_isub dX8_sizeOf_25 ?_
      refine ji_iaload dX8_sizeOf_26 (rf_64) (by omega) ?_
      refine ji_iconst dX8_sizeOf_27 ?_
      refine ji_iadd dX8_sizeOf_28 ?_
      exact ji_ireturn dX8_sizeOf_29 rfl (rfl) ⟨jr_i (by unfold rf_sz; first | (rw [if_pos (by omega)]; done) | (rw [if_neg (by omega)]; done)), rfl⟩
  · try (exfalso; omega)
    all_goals
      refine ji_aload_n dX8_sizeOf_6 rfl trivial ?_
      refine ji_get (ci := 8) (k := 1) rfl dX8_sizeOf_7 lX8_7 (by decide) (rf_60) rfl ?_
      refine ji_bipush dX8_sizeOf_10 rfl ?_
      refine ji_iload_n dX8_sizeOf_12 rfl ?_
      refine ji_iadd dX8_sizeOf_13 ?_
      refine ji_iaload dX8_sizeOf_14 (rf_61) (by omega) ?_
      refine ji_goto (tgt := 29) dX8_sizeOf_15 rfl ?_
      exact ji_ireturn dX8_sizeOf_29 rfl (rfl) ⟨jr_i (by unfold rf_sz; first | (rw [if_pos (by omega)]; done) | (rw [if_neg (by omega)]; done)), rfl⟩

set_option maxHeartbeats 4000000 in
set_option maxRecDepth 100000 in
theorem r_charOf (hz : rz_ok z) (hn : nl_ok nl nt) {t : Int} (ht9 : 0 ≤ t ∧ t < 20) {k : Int} (hk : 0 ≤ k ∧ (t < 10 → k < 360) ∧ (10 ≤ t → k < 102)) : JR G d mX8_charOf [.ref 60, .int (jI t), .int (jI k)] (n, rf_f f th z kp ed nt nl wi ht sy sz bf rs rr rq rp mm ln lo lf lt co ro pg pf hsh) 0 0 (some (.int (jI (rf_ch z nt t k)))) (n, rf_f f th z kp ed nt nl wi ht sy sz bf rs rr rq rp mm ln lo lf lt co ro pg pf hsh) := by
  obtain ⟨z1, z2, z3, z4⟩ := id hz
  obtain ⟨n1, n2⟩ := id hn
  refine ji_ent (by decide) rfl (Nat.le_of_ble_eq_true rfl) rfl ?_
  refine ji_iload_n dX8_charOf_0 rfl ?_
  refine ji_bipush dX8_charOf_1 rfl ?_
  refine ji_icmp_ge (tgt := 22) dX8_charOf_3 rfl (by omega) (by omega) (fun c3 => ?_) (fun c3 => ?_)
  · try (exfalso; omega)
    all_goals
      refine ji_iload_n dX8_charOf_22 rfl ?_
      refine ji_bipush dX8_charOf_23 rfl ?_
      refine ji_isub dX8_charOf_25 ?_
      refine ji_istore_n dX8_charOf_26 (by decide) rfl ?_
      refine ji_iload_n dX8_charOf_27 rfl ?_
      refine ji_if_ne (tgt := 38) dX8_charOf_28 rfl (by omega) (fun c28 => ?_) (fun c28 => ?_)
      · try (exfalso; omega)
        all_goals
          refine ji_iload_n dX8_charOf_38 rfl ?_
          refine ji_iconst dX8_charOf_39 ?_
          refine ji_icmp_ne (tgt := 48) dX8_charOf_40 rfl (by omega) (by omega) (fun c40 => ?_) (fun c40 => ?_)
          · try (exfalso; omega)
            all_goals
              refine ji_aload_n dX8_charOf_48 rfl trivial ?_
              refine ji_get (ci := 8) (k := 4) rfl dX8_charOf_49 lX8_16 (by decide) (rf_60) rfl ?_
              refine ji_bipush dX8_charOf_52 rfl ?_
              refine ji_iload_n dX8_charOf_54 rfl ?_
              refine ji_imul dX8_charOf_55 ?_
              refine ji_iload_n dX8_charOf_56 rfl ?_
              refine ji_iadd dX8_charOf_57 ?_
              refine ji_iconst dX8_charOf_58 ?_
              refine ji_isub dX8_charOf_59 ?_
              refine ji_iaload dX8_charOf_60 (rf_63) (by omega) ?_
              exact ji_ireturn dX8_charOf_61 rfl (rfl) ⟨jr_i (by unfold rf_ch; (repeat' split) <;> first | rfl | (exfalso; omega)), rfl⟩
          · try (exfalso; omega)
            all_goals
              refine ji_bipush dX8_charOf_43 rfl ?_
              refine ji_goto (tgt := 61) dX8_charOf_45 rfl ?_
              exact ji_ireturn dX8_charOf_61 rfl (rfl) ⟨jr_i (by unfold rf_ch; (repeat' split) <;> first | rfl | (exfalso; omega)), rfl⟩
      · try (exfalso; omega)
        all_goals
          refine ji_bipush dX8_charOf_31 rfl ?_
          refine ji_iload_n dX8_charOf_33 rfl ?_
          refine ji_iadd dX8_charOf_34 ?_
          refine ji_goto (tgt := 61) dX8_charOf_35 rfl ?_
          exact ji_ireturn dX8_charOf_61 rfl (rfl) ⟨jr_i (by unfold rf_ch; (repeat' split) <;> first | rfl | (exfalso; omega)), rfl⟩
  · try (exfalso; omega)
    all_goals
      refine ji_aload_n dX8_charOf_6 rfl trivial ?_
      refine ji_get (ci := 8) (k := 1) rfl dX8_charOf_7 lX8_7 (by decide) (rf_60) rfl ?_
      refine ji_bipush dX8_charOf_10 rfl ?_
      refine ji_sipush dX8_charOf_12 rfl ?_
      refine ji_iload_n dX8_charOf_15 rfl ?_
      refine ji_imul dX8_charOf_16 ?_
      refine ji_iadd dX8_charOf_17 ?_
      refine ji_iload_n dX8_charOf_18 rfl ?_
      refine ji_iadd dX8_charOf_19 ?_
      refine ji_iaload dX8_charOf_20 (rf_61) (by omega) ?_
      exact ji_ireturn dX8_charOf_21 rfl (rfl) ⟨jr_i (by unfold rf_ch; (repeat' split) <;> first | rfl | (exfalso; omega)), rfl⟩

set_option maxHeartbeats 4000000 in
set_option maxRecDepth 100000 in
theorem r_wordEnd_l {bc bs : Nat} {t x0 R : Int} (hz : rz_ok z) (hn : nl_ok nl nt) (ht9 : 0 ≤ t ∧ t < 20) : ∀ (u : Nat) (k : Int), 0 ≤ k ∧ k ≤ 1000 → u = (rf_sz z nl t - k).toNat → R = rf_we (rf_sz z nl t) (rf_ch z nt t) u k →
    JW G (d + 1) mX8_wordEnd 2 [some (.ref 60), some (.int (jI t)), some (.int (jI x0)), some (.int (jI k))] [] (n, rf_f f th z kp ed nt nl wi ht sy sz bf rs rr rq rp mm ln lo lf lt co ro pg pf hsh) bc bs (fun r9 h9 => r9 = .inl (some (.int (jI R))) ∧ h9 = (n, rf_f f th z kp ed nt nl wi ht sy sz bf rs rr rq rp mm ln lo lf lt co ro pg pf hsh)) := by
  obtain ⟨z1, z2, z3, z4⟩ := id hz
  obtain ⟨n1, n2⟩ := id hn
  have wsz := rf_sz_b hz hn ht9
  intro u
  induction u with
  | zero =>
    intro k hk hu hR
    refine ji_iload_n dX8_wordEnd_2 rfl ?_
    refine ji_aload_n dX8_wordEnd_3 rfl trivial ?_
    refine ji_iload_n dX8_wordEnd_4 rfl ?_
    refine ji_cV dX8_wordEnd_5 (r_sizeOf hz hn (by omega)) rfl (rf_60) rfl rfl wX8_sizeOf vX8_sizeOf lX8_109 rfl (Nat.le_of_ble_eq_true rfl) rfl ?_
    refine ji_icmp_ge (tgt := 28) dX8_wordEnd_8 rfl (by omega) (by omega) (fun c8 => ?_) (fun c8 => absurd c8 (by omega))
    refine ji_iload_n dX8_wordEnd_28 rfl ?_
    exact ji_ireturn dX8_wordEnd_29 rfl (rfl) ⟨by rw [hR]; rfl, rfl⟩
  | succ u ih =>
    intro k hk hu hR
    have wch := rf_ch_b (k := k) hz hn ht9 hk.1
    refine ji_iload_n dX8_wordEnd_2 rfl ?_
    refine ji_aload_n dX8_wordEnd_3 rfl trivial ?_
    refine ji_iload_n dX8_wordEnd_4 rfl ?_
    refine ji_cV dX8_wordEnd_5 (r_sizeOf hz hn (by omega)) rfl (rf_60) rfl rfl wX8_sizeOf vX8_sizeOf lX8_109 rfl (Nat.le_of_ble_eq_true rfl) rfl ?_
    refine ji_icmp_ge (tgt := 28) dX8_wordEnd_8 rfl (by omega) (by omega) (fun c8 => absurd c8 (by omega)) (fun c8 => ?_)
    refine ji_aload_n dX8_wordEnd_11 rfl trivial ?_
    refine ji_iload_n dX8_wordEnd_12 rfl ?_
    refine ji_iload_n dX8_wordEnd_13 rfl ?_
    refine ji_cV dX8_wordEnd_14 (r_charOf hz hn (by omega) (by omega)) rfl (rf_60) rfl rfl wX8_charOf vX8_charOf lX8_112 rfl (Nat.le_of_ble_eq_true rfl) rfl ?_
    refine ji_bipush dX8_wordEnd_17 rfl ?_
    refine ji_icmp_eq (tgt := 28) dX8_wordEnd_19 rfl (by omega) (by omega) (fun c19 => ?_) (fun c19 => ?_)
    · try (exfalso; omega)
      all_goals
        refine ji_iload_n dX8_wordEnd_28 rfl ?_
        exact ji_ireturn dX8_wordEnd_29 rfl (rfl) ⟨by rw [hR, rf_we, if_neg (by omega)], rfl⟩
    · try (exfalso; omega)
      all_goals
        refine ji_iinc dX8_wordEnd_22 (by decide) rfl rfl ?_
        refine ji_goto (tgt := 2) dX8_wordEnd_25 rfl ?_
        exact ih _ (by omega) (by omega) (by rw [hR, rf_we, if_pos (by omega)])

set_option maxHeartbeats 4000000 in
set_option maxRecDepth 100000 in
theorem r_wordEnd (hz : rz_ok z) (hn : nl_ok nl nt) {t : Int} (ht9 : 0 ≤ t ∧ t < 20) {k : Int} (hk : 0 ≤ k ∧ k ≤ 1000) : JR G (d + 1) mX8_wordEnd [.ref 60, .int (jI t), .int (jI k)] (n, rf_f f th z kp ed nt nl wi ht sy sz bf rs rr rq rp mm ln lo lf lt co ro pg pf hsh) 0 0 (some (.int (jI (rf_WE (rf_sz z nl t) (rf_ch z nt t) k)))) (n, rf_f f th z kp ed nt nl wi ht sy sz bf rs rr rq rp mm ln lo lf lt co ro pg pf hsh) := by
  refine ji_ent (by decide) rfl (Nat.le_of_ble_eq_true rfl) rfl ?_
  refine ji_iload_n dX8_wordEnd_0 rfl ?_
  refine ji_istore_n dX8_wordEnd_1 (by decide) rfl ?_
  exact r_wordEnd_l hz hn ht9 (rf_sz z nl t - k).toNat k hk rfl rfl

set_option maxHeartbeats 4000000 in
set_option maxRecDepth 100000 in
theorem r_lineEnd_x {bc bs : Nat} {t x ind cols e R : Int} {o7 : Option Value} (hR : R = e) : JW G d mX8_lineEnd 25 [some (.ref 60), some (.int (jI t)), some (.int (jI x)), some (.int (jI ind)), some (.int (jI cols)), some (.int (jI e)), some (.int (jI 0)), o7] [] (n, rf_f f th z kp ed nt nl wi ht sy sz bf rs rr rq rp mm ln lo lf lt co ro pg pf hsh) bc bs (fun r9 h9 => r9 = .inl (some (.int (jI R))) ∧ h9 = (n, rf_f f th z kp ed nt nl wi ht sy sz bf rs rr rq rp mm ln lo lf lt co ro pg pf hsh)) := by
  refine ji_iload dX8_lineEnd_25 rfl ?_
  refine ji_if_eq (tgt := 98) dX8_lineEnd_27 rfl (by omega) (fun c27 => ?_) (fun c27 => absurd c27 (by omega))
  refine ji_iload dX8_lineEnd_98 rfl ?_
  exact ji_ireturn dX8_lineEnd_100 rfl (rfl) ⟨jr_i hR.symm, rfl⟩

set_option maxHeartbeats 4000000 in
set_option maxRecDepth 100000 in
theorem r_lineEnd_l {bc bs : Nat} {t x ind cols R : Int} (hz : rz_ok z) (hn : nl_ok nl nt) (ht9 : 0 ≤ t ∧ t < 20) (hx : 0 ≤ x ∧ x ≤ 500) (hi9 : 0 ≤ ind ∧ ind ≤ 10) (hc9 : 0 ≤ cols ∧ cols ≤ 100) : ∀ (u : Nat) (e : Int) (o7 : Option Value), x ≤ e ∧ e < rf_sz z nl t → rf_sz z nl t - e ≤ u → R = rf_le (rf_sz z nl t) (rf_ch z nt t) x ind cols u e →
    JW G (d + 2) mX8_lineEnd 25 [some (.ref 60), some (.int (jI t)), some (.int (jI x)), some (.int (jI ind)), some (.int (jI cols)), some (.int (jI e)), some (.int (jI 1)), o7] [] (n, rf_f f th z kp ed nt nl wi ht sy sz bf rs rr rq rp mm ln lo lf lt co ro pg pf hsh) bc bs (fun r9 h9 => r9 = .inl (some (.int (jI R))) ∧ h9 = (n, rf_f f th z kp ed nt nl wi ht sy sz bf rs rr rq rp mm ln lo lf lt co ro pg pf hsh)) := by
  obtain ⟨z1, z2, z3, z4⟩ := id hz
  obtain ⟨n1, n2⟩ := id hn
  have wsz := rf_sz_b hz hn ht9
  intro u
  induction u with
  | zero =>
    intro e o7 he hu hR
    exfalso; omega
  | succ u ih =>
    intro e o7 he hu hR
    have wwe := rf_WE_b (rf_sz z nl t) (rf_ch z nt t) (e + 1)
    refine ji_iload dX8_lineEnd_25 rfl ?_
    refine ji_if_eq (tgt := 98) dX8_lineEnd_27 rfl (by omega) (fun c27 => absurd c27 (by omega)) (fun c27 => ?_)
    refine ji_aload_n dX8_lineEnd_30 rfl trivial ?_
    refine ji_iload_n dX8_lineEnd_31 rfl ?_
    refine ji_iload dX8_lineEnd_32 rfl ?_
    refine ji_iconst dX8_lineEnd_34 ?_
    refine ji_iadd dX8_lineEnd_35 ?_
    refine ji_cV dX8_lineEnd_36 (r_wordEnd hz hn (by omega) (by omega)) rfl (rf_60) rfl rfl wX8_wordEnd vX8_wordEnd lX8_116 rfl (Nat.le_of_ble_eq_true rfl) rfl ?_
    refine ji_istore dX8_lineEnd_39 (by decide) rfl ?_
    refine ji_iload_n dX8_lineEnd_41 rfl ?_
    refine ji_iload dX8_lineEnd_42 rfl ?_
    refine ji_iadd dX8_lineEnd_44 ?_
    refine ji_iload_n dX8_lineEnd_45 rfl ?_
    refine ji_isub dX8_lineEnd_46 ?_
    refine ji_iload dX8_lineEnd_47 rfl ?_
    refine ji_icmp_gt (tgt := 56) dX8_lineEnd_49 rfl (by omega) (by omega) (fun c49 => ?_) (fun c49 => ?_)
    · try (exfalso; omega)
      all_goals
        refine ji_iconst dX8_lineEnd_56 ?_
        refine ji_istore dX8_lineEnd_57 (by decide) rfl ?_
        refine ji_iload dX8_lineEnd_59 rfl ?_
        refine ji_if_eq (tgt := 69) dX8_lineEnd_61 rfl (by omega) (fun c61 => ?_) (fun c61 => ?_)
        · try (exfalso; omega)
          all_goals
            refine ji_iload dX8_lineEnd_69 rfl ?_
            refine ji_istore dX8_lineEnd_71 (by decide) rfl ?_
            refine ji_iload dX8_lineEnd_73 rfl ?_
            refine ji_if_eq (tgt := 92) dX8_lineEnd_75 rfl (by omega) (fun c75 => ?_) (fun c75 => ?_)
            · try (exfalso; omega)
              all_goals
                refine ji_iconst dX8_lineEnd_92 ?_
                refine ji_istore dX8_lineEnd_93 (by decide) rfl ?_
                refine ji_goto (tgt := 25) dX8_lineEnd_95 rfl ?_
                first | exact ih _ _ (by omega) (by omega) (by rw [hR, rf_le, if_pos (by omega), if_pos (by omega)]) | exact r_lineEnd_x (by rw [hR, rf_le, if_pos (by omega), if_neg (by omega)]) | exact r_lineEnd_x (by rw [hR, rf_le, if_neg (by omega)])
            · try (exfalso; omega)
              all_goals
                refine ji_iload dX8_lineEnd_78 rfl ?_
                refine ji_aload_n dX8_lineEnd_80 rfl trivial ?_
                refine ji_iload_n dX8_lineEnd_81 rfl ?_
                refine ji_cV dX8_lineEnd_82 (r_sizeOf hz hn (by omega)) rfl (rf_60) rfl rfl wX8_sizeOf vX8_sizeOf lX8_109 rfl (Nat.le_of_ble_eq_true rfl) rfl ?_
                refine ji_icmp_ge (tgt := 92) dX8_lineEnd_85 rfl (by omega) (by omega) (fun c85 => ?_) (fun c85 => ?_)
                · try (exfalso; omega)
                  all_goals
                    refine ji_iconst dX8_lineEnd_92 ?_
                    refine ji_istore dX8_lineEnd_93 (by decide) rfl ?_
                    refine ji_goto (tgt := 25) dX8_lineEnd_95 rfl ?_
                    first | exact ih _ _ (by omega) (by omega) (by rw [hR, rf_le, if_pos (by omega), if_pos (by omega)]) | exact r_lineEnd_x (by rw [hR, rf_le, if_pos (by omega), if_neg (by omega)]) | exact r_lineEnd_x (by rw [hR, rf_le, if_neg (by omega)])
                · try (exfalso; omega)
                  all_goals
                    refine ji_iconst dX8_lineEnd_88 ?_
                    refine ji_goto (tgt := 93) dX8_lineEnd_89 rfl ?_
                    refine ji_istore dX8_lineEnd_93 (by decide) rfl ?_
                    refine ji_goto (tgt := 25) dX8_lineEnd_95 rfl ?_
                    first | exact ih _ _ (by omega) (by omega) (by rw [hR, rf_le, if_pos (by omega), if_pos (by omega)]) | exact r_lineEnd_x (by rw [hR, rf_le, if_pos (by omega), if_neg (by omega)]) | exact r_lineEnd_x (by rw [hR, rf_le, if_neg (by omega)])
        · try (exfalso; omega)
          all_goals
            refine ji_iload dX8_lineEnd_64 rfl ?_
            refine ji_goto (tgt := 71) dX8_lineEnd_66 rfl ?_
            refine ji_istore dX8_lineEnd_71 (by decide) rfl ?_
            refine ji_iload dX8_lineEnd_73 rfl ?_
            refine ji_if_eq (tgt := 92) dX8_lineEnd_75 rfl (by omega) (fun c75 => ?_) (fun c75 => ?_)
            · try (exfalso; omega)
              all_goals
                refine ji_iconst dX8_lineEnd_92 ?_
                refine ji_istore dX8_lineEnd_93 (by decide) rfl ?_
                refine ji_goto (tgt := 25) dX8_lineEnd_95 rfl ?_
                first | exact ih _ _ (by omega) (by omega) (by rw [hR, rf_le, if_pos (by omega), if_pos (by omega)]) | exact r_lineEnd_x (by rw [hR, rf_le, if_pos (by omega), if_neg (by omega)]) | exact r_lineEnd_x (by rw [hR, rf_le, if_neg (by omega)])
            · try (exfalso; omega)
              all_goals
                refine ji_iload dX8_lineEnd_78 rfl ?_
                refine ji_aload_n dX8_lineEnd_80 rfl trivial ?_
                refine ji_iload_n dX8_lineEnd_81 rfl ?_
                refine ji_cV dX8_lineEnd_82 (r_sizeOf hz hn (by omega)) rfl (rf_60) rfl rfl wX8_sizeOf vX8_sizeOf lX8_109 rfl (Nat.le_of_ble_eq_true rfl) rfl ?_
                refine ji_icmp_ge (tgt := 92) dX8_lineEnd_85 rfl (by omega) (by omega) (fun c85 => ?_) (fun c85 => ?_)
                · try (exfalso; omega)
                  all_goals
                    refine ji_iconst dX8_lineEnd_92 ?_
                    refine ji_istore dX8_lineEnd_93 (by decide) rfl ?_
                    refine ji_goto (tgt := 25) dX8_lineEnd_95 rfl ?_
                    first | exact ih _ _ (by omega) (by omega) (by rw [hR, rf_le, if_pos (by omega), if_pos (by omega)]) | exact r_lineEnd_x (by rw [hR, rf_le, if_pos (by omega), if_neg (by omega)]) | exact r_lineEnd_x (by rw [hR, rf_le, if_neg (by omega)])
                · try (exfalso; omega)
                  all_goals
                    refine ji_iconst dX8_lineEnd_88 ?_
                    refine ji_goto (tgt := 93) dX8_lineEnd_89 rfl ?_
                    refine ji_istore dX8_lineEnd_93 (by decide) rfl ?_
                    refine ji_goto (tgt := 25) dX8_lineEnd_95 rfl ?_
                    first | exact ih _ _ (by omega) (by omega) (by rw [hR, rf_le, if_pos (by omega), if_pos (by omega)]) | exact r_lineEnd_x (by rw [hR, rf_le, if_pos (by omega), if_neg (by omega)]) | exact r_lineEnd_x (by rw [hR, rf_le, if_neg (by omega)])
    · try (exfalso; omega)
      all_goals
        refine ji_iconst dX8_lineEnd_52 ?_
        refine ji_goto (tgt := 57) dX8_lineEnd_53 rfl ?_
        refine ji_istore dX8_lineEnd_57 (by decide) rfl ?_
        refine ji_iload dX8_lineEnd_59 rfl ?_
        refine ji_if_eq (tgt := 69) dX8_lineEnd_61 rfl (by omega) (fun c61 => ?_) (fun c61 => ?_)
        · try (exfalso; omega)
          all_goals
            refine ji_iload dX8_lineEnd_69 rfl ?_
            refine ji_istore dX8_lineEnd_71 (by decide) rfl ?_
            refine ji_iload dX8_lineEnd_73 rfl ?_
            refine ji_if_eq (tgt := 92) dX8_lineEnd_75 rfl (by omega) (fun c75 => ?_) (fun c75 => ?_)
            · try (exfalso; omega)
              all_goals
                refine ji_iconst dX8_lineEnd_92 ?_
                refine ji_istore dX8_lineEnd_93 (by decide) rfl ?_
                refine ji_goto (tgt := 25) dX8_lineEnd_95 rfl ?_
                first | exact ih _ _ (by omega) (by omega) (by rw [hR, rf_le, if_pos (by omega), if_pos (by omega)]) | exact r_lineEnd_x (by rw [hR, rf_le, if_pos (by omega), if_neg (by omega)]) | exact r_lineEnd_x (by rw [hR, rf_le, if_neg (by omega)])
            · try (exfalso; omega)
              all_goals
                refine ji_iload dX8_lineEnd_78 rfl ?_
                refine ji_aload_n dX8_lineEnd_80 rfl trivial ?_
                refine ji_iload_n dX8_lineEnd_81 rfl ?_
                refine ji_cV dX8_lineEnd_82 (r_sizeOf hz hn (by omega)) rfl (rf_60) rfl rfl wX8_sizeOf vX8_sizeOf lX8_109 rfl (Nat.le_of_ble_eq_true rfl) rfl ?_
                refine ji_icmp_ge (tgt := 92) dX8_lineEnd_85 rfl (by omega) (by omega) (fun c85 => ?_) (fun c85 => ?_)
                · try (exfalso; omega)
                  all_goals
                    refine ji_iconst dX8_lineEnd_92 ?_
                    refine ji_istore dX8_lineEnd_93 (by decide) rfl ?_
                    refine ji_goto (tgt := 25) dX8_lineEnd_95 rfl ?_
                    first | exact ih _ _ (by omega) (by omega) (by rw [hR, rf_le, if_pos (by omega), if_pos (by omega)]) | exact r_lineEnd_x (by rw [hR, rf_le, if_pos (by omega), if_neg (by omega)]) | exact r_lineEnd_x (by rw [hR, rf_le, if_neg (by omega)])
                · try (exfalso; omega)
                  all_goals
                    refine ji_iconst dX8_lineEnd_88 ?_
                    refine ji_goto (tgt := 93) dX8_lineEnd_89 rfl ?_
                    refine ji_istore dX8_lineEnd_93 (by decide) rfl ?_
                    refine ji_goto (tgt := 25) dX8_lineEnd_95 rfl ?_
                    first | exact ih _ _ (by omega) (by omega) (by rw [hR, rf_le, if_pos (by omega), if_pos (by omega)]) | exact r_lineEnd_x (by rw [hR, rf_le, if_pos (by omega), if_neg (by omega)]) | exact r_lineEnd_x (by rw [hR, rf_le, if_neg (by omega)])
        · try (exfalso; omega)
          all_goals
            refine ji_iload dX8_lineEnd_64 rfl ?_
            refine ji_goto (tgt := 71) dX8_lineEnd_66 rfl ?_
            refine ji_istore dX8_lineEnd_71 (by decide) rfl ?_
            refine ji_iload dX8_lineEnd_73 rfl ?_
            refine ji_if_eq (tgt := 92) dX8_lineEnd_75 rfl (by omega) (fun c75 => ?_) (fun c75 => ?_)
            · try (exfalso; omega)
              all_goals
                refine ji_iconst dX8_lineEnd_92 ?_
                refine ji_istore dX8_lineEnd_93 (by decide) rfl ?_
                refine ji_goto (tgt := 25) dX8_lineEnd_95 rfl ?_
                first | exact ih _ _ (by omega) (by omega) (by rw [hR, rf_le, if_pos (by omega), if_pos (by omega)]) | exact r_lineEnd_x (by rw [hR, rf_le, if_pos (by omega), if_neg (by omega)]) | exact r_lineEnd_x (by rw [hR, rf_le, if_neg (by omega)])
            · try (exfalso; omega)
              all_goals
                refine ji_iload dX8_lineEnd_78 rfl ?_
                refine ji_aload_n dX8_lineEnd_80 rfl trivial ?_
                refine ji_iload_n dX8_lineEnd_81 rfl ?_
                refine ji_cV dX8_lineEnd_82 (r_sizeOf hz hn (by omega)) rfl (rf_60) rfl rfl wX8_sizeOf vX8_sizeOf lX8_109 rfl (Nat.le_of_ble_eq_true rfl) rfl ?_
                refine ji_icmp_ge (tgt := 92) dX8_lineEnd_85 rfl (by omega) (by omega) (fun c85 => ?_) (fun c85 => ?_)
                · try (exfalso; omega)
                  all_goals
                    refine ji_iconst dX8_lineEnd_92 ?_
                    refine ji_istore dX8_lineEnd_93 (by decide) rfl ?_
                    refine ji_goto (tgt := 25) dX8_lineEnd_95 rfl ?_
                    first | exact ih _ _ (by omega) (by omega) (by rw [hR, rf_le, if_pos (by omega), if_pos (by omega)]) | exact r_lineEnd_x (by rw [hR, rf_le, if_pos (by omega), if_neg (by omega)]) | exact r_lineEnd_x (by rw [hR, rf_le, if_neg (by omega)])
                · try (exfalso; omega)
                  all_goals
                    refine ji_iconst dX8_lineEnd_88 ?_
                    refine ji_goto (tgt := 93) dX8_lineEnd_89 rfl ?_
                    refine ji_istore dX8_lineEnd_93 (by decide) rfl ?_
                    refine ji_goto (tgt := 25) dX8_lineEnd_95 rfl ?_
                    first | exact ih _ _ (by omega) (by omega) (by rw [hR, rf_le, if_pos (by omega), if_pos (by omega)]) | exact r_lineEnd_x (by rw [hR, rf_le, if_pos (by omega), if_neg (by omega)]) | exact r_lineEnd_x (by rw [hR, rf_le, if_neg (by omega)])

set_option maxHeartbeats 4000000 in
set_option maxRecDepth 100000 in
theorem r_lineEnd (hz : rz_ok z) (hn : nl_ok nl nt) {t : Int} (ht9 : 0 ≤ t ∧ t < 20) {x ind cols : Int} (hx : 0 ≤ x ∧ x ≤ 500) (hi9 : 0 ≤ ind ∧ ind ≤ 10) (hc9 : 0 ≤ cols ∧ cols ≤ 100) : JR G (d + 2) mX8_lineEnd [.ref 60, .int (jI t), .int (jI x), .int (jI ind), .int (jI cols)] (n, rf_f f th z kp ed nt nl wi ht sy sz bf rs rr rq rp mm ln lo lf lt co ro pg pf hsh) 0 0 (some (.int (jI (rf_LE (rf_sz z nl t) (rf_ch z nt t) x ind cols)))) (n, rf_f f th z kp ed nt nl wi ht sy sz bf rs rr rq rp mm ln lo lf lt co ro pg pf hsh) := by
  obtain ⟨z1, z2, z3, z4⟩ := id hz
  obtain ⟨n1, n2⟩ := id hn
  have wsz := rf_sz_b hz hn ht9
  have wwe := rf_WE_b (rf_sz z nl t) (rf_ch z nt t) x
  refine ji_ent (by decide) rfl (Nat.le_of_ble_eq_true rfl) rfl ?_
  refine ji_aload_n dX8_lineEnd_0 rfl trivial ?_
  refine ji_iload_n dX8_lineEnd_1 rfl ?_
  refine ji_iload_n dX8_lineEnd_2 rfl ?_
  refine ji_cV dX8_lineEnd_3 (r_wordEnd hz hn (by omega) (by omega)) rfl (rf_60) rfl rfl wX8_wordEnd vX8_wordEnd lX8_116 rfl (Nat.le_of_ble_eq_true rfl) rfl ?_
  refine ji_istore dX8_lineEnd_6 (by decide) rfl ?_
  refine ji_iload dX8_lineEnd_8 rfl ?_
  refine ji_aload_n dX8_lineEnd_10 rfl trivial ?_
  refine ji_iload_n dX8_lineEnd_11 rfl ?_
  refine ji_cV dX8_lineEnd_12 (r_sizeOf hz hn (by omega)) rfl (rf_60) rfl rfl wX8_sizeOf vX8_sizeOf lX8_109 rfl (Nat.le_of_ble_eq_true rfl) rfl ?_
  refine ji_icmp_ge (tgt := 22) dX8_lineEnd_15 rfl (by omega) (by omega) (fun c15 => ?_) (fun c15 => ?_)
  · try (exfalso; omega)
    all_goals
      refine ji_iconst dX8_lineEnd_22 ?_
      refine ji_istore dX8_lineEnd_23 (by decide) rfl ?_
      first | exact r_lineEnd_l hz hn ht9 hx hi9 hc9 (rf_sz z nl t - rf_WE (rf_sz z nl t) (rf_ch z nt t) x).toNat _ _ (by omega) (by omega) (by unfold rf_LE; rw [if_pos (by omega)]) | exact r_lineEnd_x (by unfold rf_LE; rw [if_neg (by omega)])
  · try (exfalso; omega)
    all_goals
      refine ji_iconst dX8_lineEnd_18 ?_
      refine ji_goto (tgt := 23) dX8_lineEnd_19 rfl ?_
      refine ji_istore dX8_lineEnd_23 (by decide) rfl ?_
      first | exact r_lineEnd_l hz hn ht9 hx hi9 hc9 (rf_sz z nl t - rf_WE (rf_sz z nl t) (rf_ch z nt t) x).toNat _ _ (by omega) (by omega) (by unfold rf_LE; rw [if_pos (by omega)]) | exact r_lineEnd_x (by unfold rf_LE; rw [if_neg (by omega)])

set_option maxHeartbeats 4000000 in
set_option maxRecDepth 100000 in
theorem r_wordsOf_l {bc bs : Nat} (hz : rz_ok z) (hn : nl_ok nl nt) {q : Int} (hq : 0 ≤ q ∧ q < 10) : ∀ (u : Nat) (c k : Int), 0 ≤ k ∧ k + u = z (85 + q).toNat → c = 1 + rf_wc (rf_ch z nt q) k.toNat →
    JW G (d + 1) mX8_wordsOf 4 [some (.ref 60), some (.int (jI q)), some (.int (jI c)), some (.int (jI k))] [] (n, rf_f f th z kp ed nt nl wi ht sy sz bf rs rr rq rp mm ln lo lf lt co ro pg pf hsh) bc bs (fun r9 h9 => r9 = .inl (some (.int (jI (1 + rf_wc (rf_ch z nt q) (z (85 + q).toNat).toNat)))) ∧ h9 = (n, rf_f f th z kp ed nt nl wi ht sy sz bf rs rr rq rp mm ln lo lf lt co ro pg pf hsh)) := by
  obtain ⟨z1, z2, z3, z4⟩ := id hz
  obtain ⟨n1, n2⟩ := id hn
  have zl := z3 (85 + q).toNat (by omega) (by omega)
  have es : rf_sz z nl q = z (85 + q).toNat := if_pos (by omega)
  intro u
  induction u with
  | zero =>
    intro c k hk hc
    refine ji_iload_n dX8_wordsOf_4 rfl ?_
    refine ji_aload_n dX8_wordsOf_5 rfl trivial ?_
    refine ji_get (ci := 8) (k := 1) rfl dX8_wordsOf_6 lX8_7 (by decide) (rf_60) rfl ?_
    refine ji_bipush dX8_wordsOf_9 rfl ?_
    refine ji_iload_n dX8_wordsOf_11 rfl ?_
    refine ji_iadd dX8_wordsOf_12 ?_
    refine ji_iaload dX8_wordsOf_13 (rf_61) (by omega) ?_
    refine ji_icmp_ge (tgt := 42) dX8_wordsOf_14 rfl (by omega) (by omega) (fun c14 => ?_) (fun c14 => absurd c14 (by omega))
    refine ji_iload_n dX8_wordsOf_42 rfl ?_
    exact ji_ireturn dX8_wordsOf_43 rfl (rfl) ⟨jr_i (by rw [hc, show k = z (85 + q).toNat by omega]), rfl⟩
  | succ u ih =>
    intro c k hk hc
    have wch := rf_ch_b (t := q) (k := k) hz hn (by omega) hk.1
    have wwc := rf_wc_b (rf_ch z nt q) k.toNat
    have e1 : (k + 1).toNat = k.toNat + 1 := by omega
    have e2 : ((k.toNat : Nat) : Int) = k := by omega
    refine ji_iload_n dX8_wordsOf_4 rfl ?_
    refine ji_aload_n dX8_wordsOf_5 rfl trivial ?_
    refine ji_get (ci := 8) (k := 1) rfl dX8_wordsOf_6 lX8_7 (by decide) (rf_60) rfl ?_
    refine ji_bipush dX8_wordsOf_9 rfl ?_
    refine ji_iload_n dX8_wordsOf_11 rfl ?_
    refine ji_iadd dX8_wordsOf_12 ?_
    refine ji_iaload dX8_wordsOf_13 (rf_61) (by omega) ?_
    refine ji_icmp_ge (tgt := 42) dX8_wordsOf_14 rfl (by omega) (by omega) (fun c14 => absurd c14 (by omega)) (fun c14 => ?_)
    refine ji_iload_n dX8_wordsOf_17 rfl ?_
    refine ji_aload_n dX8_wordsOf_18 rfl trivial ?_
    refine ji_iload_n dX8_wordsOf_19 rfl ?_
    refine ji_iload_n dX8_wordsOf_20 rfl ?_
    refine ji_cV dX8_wordsOf_21 (r_charOf hz hn (by omega) (by omega)) rfl (rf_60) rfl rfl wX8_charOf vX8_charOf lX8_112 rfl (Nat.le_of_ble_eq_true rfl) rfl ?_
    refine ji_bipush dX8_wordsOf_24 rfl ?_
    refine ji_icmp_ne (tgt := 33) dX8_wordsOf_26 rfl (by omega) (by omega) (fun c26 => ?_) (fun c26 => ?_)
    · try (exfalso; omega)
      all_goals
        refine ji_iconst dX8_wordsOf_33 ?_
        refine ji_iadd dX8_wordsOf_34 ?_
        refine ji_istore_n dX8_wordsOf_35 (by decide) rfl ?_
        refine ji_iinc dX8_wordsOf_36 (by decide) rfl rfl ?_
        refine ji_goto (tgt := 4) dX8_wordsOf_39 rfl ?_
        exact ih _ _ (by omega) (by rw [e1, rf_wc, hc, e2]; first | (rw [if_pos (by omega)]; omega) | (rw [if_neg (by omega)]; omega))
    · try (exfalso; omega)
      all_goals
        refine ji_iconst dX8_wordsOf_29 ?_
        refine ji_goto (tgt := 34) dX8_wordsOf_30 rfl ?_
        refine ji_iadd dX8_wordsOf_34 ?_
        refine ji_istore_n dX8_wordsOf_35 (by decide) rfl ?_
        refine ji_iinc dX8_wordsOf_36 (by decide) rfl rfl ?_
        refine ji_goto (tgt := 4) dX8_wordsOf_39 rfl ?_
        exact ih _ _ (by omega) (by rw [e1, rf_wc, hc, e2]; first | (rw [if_pos (by omega)]; omega) | (rw [if_neg (by omega)]; omega))

def rf_WO (z nt : Nat → Int) (q : Int) : Int := 1 + rf_wc (rf_ch z nt q) (z (85 + q).toNat).toNat
theorem rf_WO_b {z : Nat → Int} (hz : rz_ok z) (nt : Nat → Int) {q : Int} (hq : 0 ≤ q ∧ q < 10) : 1 ≤ rf_WO z nt q ∧ rf_WO z nt q ≤ 360 := by
  have h1 := hz.2.2.1 (85 + q).toNat (by omega) (by omega)
  have h2 := rf_wc_b (rf_ch z nt q) (z (85 + q).toNat).toNat
  unfold rf_WO; omega
set_option maxHeartbeats 4000000 in
set_option maxRecDepth 100000 in
theorem r_wordsOf (hz : rz_ok z) (hn : nl_ok nl nt) {q : Int} (hq : 0 ≤ q ∧ q < 10) : JR G (d + 1) mX8_wordsOf [.ref 60, .int (jI q)] (n, rf_f f th z kp ed nt nl wi ht sy sz bf rs rr rq rp mm ln lo lf lt co ro pg pf hsh) 0 0 (some (.int (jI (rf_WO z nt q)))) (n, rf_f f th z kp ed nt nl wi ht sy sz bf rs rr rq rp mm ln lo lf lt co ro pg pf hsh) := by
  obtain ⟨z1, z2, z3, z4⟩ := id hz
  obtain ⟨n1, n2⟩ := id hn
  have zl := z3 (85 + q).toNat (by omega) (by omega)
  have es : rf_sz z nl q = z (85 + q).toNat := if_pos (by omega)
  refine ji_ent (by decide) rfl (Nat.le_of_ble_eq_true rfl) rfl ?_
  refine ji_iconst dX8_wordsOf_0 ?_
  refine ji_istore_n dX8_wordsOf_1 (by decide) rfl ?_
  refine ji_iconst dX8_wordsOf_2 ?_
  refine ji_istore_n dX8_wordsOf_3 (by decide) rfl ?_
  exact r_wordsOf_l hz hn hq (z (85 + q).toNat).toNat 1 0 (by omega) rfl

set_option maxHeartbeats 4000000 in
set_option maxRecDepth 100000 in
theorem r_startOf_l {bc bs : Nat} {w : Int} (hw : 0 ≤ w ∧ w ≤ 100) (hz : rz_ok z) (hn : nl_ok nl nt) {q : Int} (hq : 0 ≤ q ∧ q < 10) : ∀ (u : Nat) (k i : Int), 0 ≤ i ∧ i + u = w → 0 ≤ k ∧ k ≤ 360 + 2 * i → rf_st (rf_sz z nl q) (rf_ch z nt q) w.toNat 0 = rf_st (rf_sz z nl q) (rf_ch z nt q) u k →
    JW G (d + 2) mX8_startOf 5 [some (.ref 60), some (.int (jI q)), some (.int (jI w)), some (.int (jI k)), some (.int (jI i))] [] (n, rf_f f th z kp ed nt nl wi ht sy sz bf rs rr rq rp mm ln lo lf lt co ro pg pf hsh) bc bs (fun r9 h9 => r9 = .inl (some (.int (jI (rf_ST (rf_sz z nl q) (rf_ch z nt q) w)))) ∧ h9 = (n, rf_f f th z kp ed nt nl wi ht sy sz bf rs rr rq rp mm ln lo lf lt co ro pg pf hsh)) := by
  obtain ⟨z1, z2, z3, z4⟩ := id hz
  obtain ⟨n1, n2⟩ := id hn
  have zl := z3 (85 + q).toNat (by omega) (by omega)
  have es : rf_sz z nl q = z (85 + q).toNat := if_pos (by omega)
  intro u
  induction u with
  | zero =>
    intro k i hi hk hR
    refine ji_iload dX8_startOf_5 rfl ?_
    refine ji_iload_n dX8_startOf_7 rfl ?_
    refine ji_icmp_ge (tgt := 26) dX8_startOf_8 rfl (by omega) (by omega) (fun c8 => ?_) (fun c8 => absurd c8 (by omega))
    refine ji_iload_n dX8_startOf_26 rfl ?_
    refine ji_aload_n dX8_startOf_27 rfl trivial ?_
    refine ji_get (ci := 8) (k := 1) rfl dX8_startOf_28 lX8_7 (by decide) (rf_60) rfl ?_
    refine ji_bipush dX8_startOf_31 rfl ?_
    refine ji_iload_n dX8_startOf_33 rfl ?_
    refine ji_iadd dX8_startOf_34 ?_
    refine ji_iaload dX8_startOf_35 (rf_61) (by omega) ?_
    refine ji_icmp_le (tgt := 51) dX8_startOf_36 rfl (by omega) (by omega) (fun c36 => ?_) (fun c36 => ?_)
    · try (exfalso; omega)
      all_goals
        refine ji_iload_n dX8_startOf_51 rfl ?_
        exact ji_ireturn dX8_startOf_52 rfl (rfl) ⟨jr_i (by unfold rf_ST; rw [hR]; unfold rf_st; first | (rw [if_pos (by omega)]; omega) | (rw [if_neg (by omega)]; done)), rfl⟩
    · try (exfalso; omega)
      all_goals
        refine ji_aload_n dX8_startOf_39 rfl trivial ?_
        refine ji_get (ci := 8) (k := 1) rfl dX8_startOf_40 lX8_7 (by decide) (rf_60) rfl ?_
        refine ji_bipush dX8_startOf_43 rfl ?_
        refine ji_iload_n dX8_startOf_45 rfl ?_
        refine ji_iadd dX8_startOf_46 ?_
        refine ji_iaload dX8_startOf_47 (rf_61) (by omega) ?_
        refine ji_goto (tgt := 52) dX8_startOf_48 rfl ?_
        exact ji_ireturn dX8_startOf_52 rfl (rfl) ⟨jr_i (by unfold rf_ST; rw [hR]; unfold rf_st; first | (rw [if_pos (by omega)]; omega) | (rw [if_neg (by omega)]; done)), rfl⟩
  | succ u ih =>
    intro k i hi hk hR
    have wwe := rf_WE_b (rf_sz z nl q) (rf_ch z nt q) k
    refine ji_iload dX8_startOf_5 rfl ?_
    refine ji_iload_n dX8_startOf_7 rfl ?_
    refine ji_icmp_ge (tgt := 26) dX8_startOf_8 rfl (by omega) (by omega) (fun c8 => absurd c8 (by omega)) (fun c8 => ?_)
    refine ji_aload_n dX8_startOf_11 rfl trivial ?_
    refine ji_iload_n dX8_startOf_12 rfl ?_
    refine ji_iload_n dX8_startOf_13 rfl ?_
    refine ji_cV dX8_startOf_14 (r_wordEnd hz hn (by omega) (by omega)) rfl (rf_60) rfl rfl wX8_wordEnd vX8_wordEnd lX8_116 rfl (Nat.le_of_ble_eq_true rfl) rfl ?_
    refine ji_iconst dX8_startOf_17 ?_
    refine ji_iadd dX8_startOf_18 ?_
    refine ji_istore_n dX8_startOf_19 (by decide) rfl ?_
    refine ji_iinc dX8_startOf_20 (by decide) rfl rfl ?_
    refine ji_goto (tgt := 5) dX8_startOf_23 rfl ?_
    exact ih _ _ (by omega) (by omega) (by rw [hR, rf_st])

set_option maxHeartbeats 4000000 in
set_option maxRecDepth 100000 in
theorem r_startOf (hz : rz_ok z) (hn : nl_ok nl nt) {q : Int} (hq : 0 ≤ q ∧ q < 10) {w : Int} (hw : 0 ≤ w ∧ w ≤ 100) : JR G (d + 2) mX8_startOf [.ref 60, .int (jI q), .int (jI w)] (n, rf_f f th z kp ed nt nl wi ht sy sz bf rs rr rq rp mm ln lo lf lt co ro pg pf hsh) 0 0 (some (.int (jI (rf_ST (rf_sz z nl q) (rf_ch z nt q) w)))) (n, rf_f f th z kp ed nt nl wi ht sy sz bf rs rr rq rp mm ln lo lf lt co ro pg pf hsh) := by
  refine ji_ent (by decide) rfl (Nat.le_of_ble_eq_true rfl) rfl ?_
  refine ji_iconst dX8_startOf_0 ?_
  refine ji_istore_n dX8_startOf_1 (by decide) rfl ?_
  refine ji_iconst dX8_startOf_2 ?_
  refine ji_istore dX8_startOf_3 (by decide) rfl ?_
  exact r_startOf_l hw hz hn hq w.toNat 0 0 (by omega) (by omega) rfl

theorem rf_ST_b {z nl : Nat → Int} (hz : rz_ok z) {nt : Nat → Int} (hn : nl_ok nl nt) {q : Int} (hq : 0 ≤ q ∧ q < 10) (w : Int) : 0 ≤ rf_ST (rf_sz z nl q) (rf_ch z nt q) w ∧ rf_ST (rf_sz z nl q) (rf_ch z nt q) w ≤ rf_sz z nl q := by
  have h1 := rf_st_b (rf_sz z nl q) (rf_ch z nt q) w.toNat 0
  have h2 := rf_sz_b hz hn (t := q) (by omega)
  unfold rf_ST; split <;> omega
set_option maxHeartbeats 4000000 in
set_option maxRecDepth 100000 in
theorem r_noteWords_l {bc bs : Nat} (hn : nl_ok nl nt) {k : Int} (hk : 0 ≤ k ∧ k < 10) : ∀ (u : Nat) (c i : Int), 0 ≤ i ∧ i + u = nl k.toNat → c = (if 0 < nl k.toNat then 1 else 0) + rf_nw nt k i.toNat →
    JW G d mX8_noteWords 17 [some (.ref 60), some (.int (jI k)), some (.int (jI c)), some (.int (jI i))] [] (n, rf_f f th z kp ed nt nl wi ht sy sz bf rs rr rq rp mm ln lo lf lt co ro pg pf hsh) bc bs (fun r9 h9 => r9 = .inl (some (.int (jI (rf_NW nl nt k)))) ∧ h9 = (n, rf_f f th z kp ed nt nl wi ht sy sz bf rs rr rq rp mm ln lo lf lt co ro pg pf hsh)) := by
  obtain ⟨n1, n2⟩ := id hn
  have nk := n1 k.toNat
  intro u
  induction u with
  | zero =>
    intro c i hi hc
    refine ji_iload_n dX8_noteWords_17 rfl ?_
    refine ji_aload_n dX8_noteWords_18 rfl trivial ?_
    refine ji_get (ci := 8) (k := 5) rfl dX8_noteWords_19 lX8_19 (by decide) (rf_60) rfl ?_
    refine ji_iload_n dX8_noteWords_22 rfl ?_
    refine ji_iaload dX8_noteWords_23 (rf_64) (by omega) ?_
    refine ji_icmp_ge (tgt := 57) dX8_noteWords_24 rfl (by omega) (by omega) (fun c24 => ?_) (fun c24 => absurd c24 (by omega))
    refine ji_iload_n dX8_noteWords_57 rfl ?_
    exact ji_ireturn dX8_noteWords_58 rfl (rfl) ⟨jr_i (by rw [hc, show i = nl k.toNat by omega]; rfl), rfl⟩
  | succ u ih =>
    intro c i hi hc
    have n3 := n2 (100 * k + i).toNat
    have e1 : (i + 1).toNat = i.toNat + 1 := by omega
    have e2 : ((i.toNat : Nat) : Int) = i := by omega
    refine ji_iload_n dX8_noteWords_17 rfl ?_
    refine ji_aload_n dX8_noteWords_18 rfl trivial ?_
    refine ji_get (ci := 8) (k := 5) rfl dX8_noteWords_19 lX8_19 (by decide) (rf_60) rfl ?_
    refine ji_iload_n dX8_noteWords_22 rfl ?_
    refine ji_iaload dX8_noteWords_23 (rf_64) (by omega) ?_
    refine ji_icmp_ge (tgt := 57) dX8_noteWords_24 rfl (by omega) (by omega) (fun c24 => absurd c24 (by omega)) (fun c24 => ?_)
    refine ji_iload_n dX8_noteWords_27 rfl ?_
    refine ji_aload_n dX8_noteWords_28 rfl trivial ?_
    refine ji_get (ci := 8) (k := 4) rfl dX8_noteWords_29 lX8_16 (by decide) (rf_60) rfl ?_
    refine ji_bipush dX8_noteWords_32 rfl ?_
    refine ji_iload_n dX8_noteWords_34 rfl ?_
    refine ji_imul dX8_noteWords_35 ?_
    refine ji_iload_n dX8_noteWords_36 rfl ?_
    refine ji_iadd dX8_noteWords_37 ?_
    refine ji_iaload dX8_noteWords_38 (rf_63) (by omega) ?_
    refine ji_bipush dX8_noteWords_39 rfl ?_
    refine ji_icmp_ne (tgt := 48) dX8_noteWords_41 rfl (by omega) (by omega) (fun c41 => ?_) (fun c41 => ?_)
    · try (exfalso; omega)
      all_goals
        refine ji_iconst dX8_noteWords_48 ?_
        refine ji_iadd dX8_noteWords_49 ?_
        refine ji_istore_n dX8_noteWords_50 (by decide) rfl ?_
        refine ji_iinc dX8_noteWords_51 (by decide) rfl rfl ?_
        refine ji_goto (tgt := 17) dX8_noteWords_54 rfl ?_
        exact ih _ _ (by omega) (by rw [e1, rf_nw, hc, e2]; first | (rw [if_pos c41]; omega) | (rw [if_neg c41]; omega))
    · try (exfalso; omega)
      all_goals
        refine ji_iconst dX8_noteWords_44 ?_
        refine ji_goto (tgt := 49) dX8_noteWords_45 rfl ?_
        refine ji_iadd dX8_noteWords_49 ?_
        refine ji_istore_n dX8_noteWords_50 (by decide) rfl ?_
        refine ji_iinc dX8_noteWords_51 (by decide) rfl rfl ?_
        refine ji_goto (tgt := 17) dX8_noteWords_54 rfl ?_
        exact ih _ _ (by omega) (by rw [e1, rf_nw, hc, e2]; first | (rw [if_pos c41]; omega) | (rw [if_neg c41]; omega))

set_option maxHeartbeats 4000000 in
set_option maxRecDepth 100000 in
theorem r_noteWords (hn : nl_ok nl nt) {k : Int} (hk : 0 ≤ k ∧ k < 10) : JR G d mX8_noteWords [.ref 60, .int (jI k)] (n, rf_f f th z kp ed nt nl wi ht sy sz bf rs rr rq rp mm ln lo lf lt co ro pg pf hsh) 0 0 (some (.int (jI (rf_NW nl nt k)))) (n, rf_f f th z kp ed nt nl wi ht sy sz bf rs rr rq rp mm ln lo lf lt co ro pg pf hsh) := by
  obtain ⟨n1, n2⟩ := id hn
  have nk := n1 k.toNat
  refine ji_ent (by decide) rfl (Nat.le_of_ble_eq_true rfl) rfl ?_
  refine ji_aload_n dX8_noteWords_0 rfl trivial ?_
  refine ji_get (ci := 8) (k := 5) rfl dX8_noteWords_1 lX8_19 (by decide) (rf_60) rfl ?_
  refine ji_iload_n dX8_noteWords_4 rfl ?_
  refine ji_iaload dX8_noteWords_5 (rf_64) (by omega) ?_
  refine ji_if_le (tgt := 13) dX8_noteWords_6 rfl (by omega) (fun c6 => ?_) (fun c6 => ?_)
  · try (exfalso; omega)
    all_goals
      refine ji_iconst dX8_noteWords_13 ?_
      refine ji_istore_n dX8_noteWords_14 (by decide) rfl ?_
      refine ji_iconst dX8_noteWords_15 ?_
      refine ji_istore_n dX8_noteWords_16 (by decide) rfl ?_
      first | exact r_noteWords_l hn hk (nl k.toNat).toNat 1 0 (by omega) (by rw [if_pos (by omega)]; rfl) | exact r_noteWords_l hn hk (nl k.toNat).toNat 0 0 (by omega) (by rw [if_neg (by omega)]; rfl)
  · try (exfalso; omega)
    all_goals
      refine ji_iconst dX8_noteWords_9 ?_
      refine ji_goto (tgt := 14) dX8_noteWords_10 rfl ?_
      refine ji_istore_n dX8_noteWords_14 (by decide) rfl ?_
      refine ji_iconst dX8_noteWords_15 ?_
      refine ji_istore_n dX8_noteWords_16 (by decide) rfl ?_
      first | exact r_noteWords_l hn hk (nl k.toNat).toNat 1 0 (by omega) (by rw [if_pos (by omega)]; rfl) | exact r_noteWords_l hn hk (nl k.toNat).toNat 0 0 (by omega) (by rw [if_neg (by omega)]; rfl)

end RF
