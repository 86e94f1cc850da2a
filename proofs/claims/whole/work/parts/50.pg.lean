/-! ===== public methods: other sizes, digest ===== -/
def mx (x : Int64) (v : Int) : Int64 := 31 * x + (jI v).toInt64
/-- some numbers are mixed in -/
def mxs (g : Int → Int) : Nat → Int → Int64 → Int64
  | 0, _, x => x
  | u + 1, k, x => mxs g u (k + 1) (mx x (g k))
def mx2 (g : Int → Int → Int) (w : Nat) : Nat → Int → Int64 → Int64
  | 0, _, x => x
  | u + 1, k, x => mx2 g w u (k + 1) (mxs (g k) w 0 x)
def mxp (B : bk_T) (Y : ly_T) : Nat → Int → Int64 → Int64
  | 0, _, x => x
  | u + 1, k, x => mxp B Y u (k + 1) (mxs (wd_sign (bk_m B) (bk_tx B)) (bk_end B k - bk_start B k).toNat (bk_start B k) (mxs (cl_pp B Y k) 5 0 x))
section PG
variable {G : ji_G} {d n : Nat} {f : Nat → ji_C} {I : in_T} {P : pg_T} {M : mk_T} {H : hi_T} {Y Z : ly_T} {B : bk_T} {NT : nt_T} {SB : Nat → bk_T}

set_option maxHeartbeats 4000000 in
set_option maxRecDepth 100000 in
theorem k_mixed {h : ji_H} {x : Int64} {v : Int} : JR G d mX7_mixed [.long x, .int (jI (v))] h 0 0 (some (.long (mx x v))) h := by
  refine ji_ent (by decide) rfl (Nat.le_of_ble_eq_true rfl) rfl ?_
  refine ji_ldc2 dX7_mixed_0 lX7_385 ?_
  refine ji_lload_n dX7_mixed_3 rfl ?_
  refine ji_lmul dX7_mixed_4 ?_
  refine ji_iload_n dX7_mixed_5 rfl ?_
  refine ji_i2l dX7_mixed_6 rfl ?_
  refine ji_ladd dX7_mixed_7 ?_
  exact ji_lreturn dX7_mixed_8 rfl ⟨rfl, rfl⟩

set_option maxHeartbeats 4000000 in
set_option maxRecDepth 100000 in
theorem k_mixedLines_i (hok : cl_ok n f I P M H Y Z B NT SB) (hfr : cl_fr P Y B NT) {bc bs : Nat} {Q : ji_R → ji_H → Prop} {x0 R : Int64} {i : Int} (hi : 0 ≤ i ∧ i < Y.2.2.2.1) (kk : JW G (d + 4) mX7_mixedLines 46 [some (.ref 0), some (.long x0), none, some (.long R), none, some (.int (jI i)), some (.int (jI 6))] [] (n, cl_f f I P M H Y Z) bc bs Q) : ∀ (u : Nat) (x : Int64) (k : Int), 0 ≤ k ∧ k + u = 6 → R = mxs (cl_lnp B Y i) u k x →
    JW G (d + 4) mX7_mixedLines 20 [some (.ref 0), some (.long x0), none, some (.long x), none, some (.int (jI i)), some (.int (jI k))] [] (n, cl_f f I P M H Y Z) bc bs Q := by
  obtain ⟨c1, c2, c3, c4, c5, c6, c7, c8, c9, c10, c11, c12⟩ := id hok
  obtain ⟨⟨hm1, hm1'⟩, hm2, hm3, hmJ, hmF, hmT⟩ := id c8
  obtain ⟨hbat, hbok, hbne⟩ := id c6
  obtain ⟨bw, bkq, bfq, hb0, hb1, hb2, hbw, ⟨hbd, -, -⟩, -⟩ := id hbat
  obtain ⟨⟨hw1, hw2⟩, hh1, hh2⟩ := id c5
  obtain ⟨⟨hl1, hl2⟩, ⟨hp1, hp2⟩, hy1, hy2, hy3⟩ := id (cl_fr_b hok hfr)
  have hcx : ∀ {I' : in_T} {M' : mk_T} {H' : hi_T} {Y' Z' : ly_T}, ly_cx n (cl_f f I' P M' H' Y' Z') 40 Y.1 B P.2.1 := by rw [hy1]; exact cl_cx hok (by decide) rfl
  obtain ⟨hA0, hN, h3, h5, h7, h89⟩ := id c10.1
  have hl : 0 ≤ Y.2.2.2.1 ∧ Y.2.2.2.1 ≤ 240 := by omega
  have hp : 0 ≤ Y.2.2.2.2.1 ∧ Y.2.2.2.2.1 ≤ 240 := by omega
  intro u
  induction u with
  | zero =>
    intro x k hk hR
    have e1 : k = 6 := by omega
    subst e1
    have e2 : R = x := hR
    subst e2
    refine ji_iload dX7_mixedLines_20 rfl ?_
    refine ji_bipush dX7_mixedLines_22 rfl ?_
    refine ji_icmp_ge (tgt := 46) dX7_mixedLines_24 rfl (by omega) (by omega) (fun c24 => ?_) (fun c24 => absurd c24 (by omega))
    exact kk
  | succ u ih =>
    intro x k hk hR
    refine ji_iload dX7_mixedLines_20 rfl ?_
    refine ji_bipush dX7_mixedLines_22 rfl ?_
    refine ji_icmp_ge (tgt := 46) dX7_mixedLines_24 rfl (by omega) (by omega) (fun c24 => absurd c24 (by omega)) (fun c24 => ?_)
    refine ji_lload_n dX7_mixedLines_27 rfl ?_
    refine ji_aload_n dX7_mixedLines_28 rfl trivial ?_
    refine ji_iload dX7_mixedLines_29 rfl ?_
    refine ji_iload dX7_mixedLines_31 rfl ?_
    refine ji_cV dX7_mixedLines_33 (k_lineProperty hok hfr hi (by omega)) rfl (cl_0h) rfl rfl wX7_lineProperty vX7_lineProperty lX7_172 rfl (Nat.le_of_ble_eq_true rfl) rfl ?_
    refine ji_cS dX7_mixedLines_36 (k_mixed) rfl wX7_mixed sX7_mixed lX7_365 rfl (Nat.le_of_ble_eq_true rfl) rfl ?_
    refine ji_lstore_n dX7_mixedLines_39 (by decide) rfl ?_
    refine ji_iinc dX7_mixedLines_40 (by decide) rfl rfl ?_
    refine ji_goto (tgt := 20) dX7_mixedLines_43 rfl ?_
    exact ih _ _ (by omega) hR

set_option maxHeartbeats 4000000 in
set_option maxRecDepth 100000 in
theorem k_mixedLines_o (hok : cl_ok n f I P M H Y Z B NT SB) (hfr : cl_fr P Y B NT) {bc bs : Nat} {x0 R : Int64} : ∀ (u : Nat) (x : Int64) (i : Int) (o6 : Option Value), 0 ≤ i ∧ i + u = Y.2.2.2.1 → R = mx2 (cl_lnp B Y) 6 u i x →
    JW G (d + 4) mX7_mixedLines 5 [some (.ref 0), some (.long x0), none, some (.long x), none, some (.int (jI i)), o6] [] (n, cl_f f I P M H Y Z) bc bs (fun r9 h9 => r9 = .inl (some (.long R)) ∧ h9 = (n, cl_f f I P M H Y Z)) := by
  obtain ⟨c1, c2, c3, c4, c5, c6, c7, c8, c9, c10, c11, c12⟩ := id hok
  obtain ⟨⟨hm1, hm1'⟩, hm2, hm3, hmJ, hmF, hmT⟩ := id c8
  obtain ⟨hbat, hbok, hbne⟩ := id c6
  obtain ⟨bw, bkq, bfq, hb0, hb1, hb2, hbw, ⟨hbd, -, -⟩, -⟩ := id hbat
  obtain ⟨⟨hw1, hw2⟩, hh1, hh2⟩ := id c5
  obtain ⟨⟨hl1, hl2⟩, ⟨hp1, hp2⟩, hy1, hy2, hy3⟩ := id (cl_fr_b hok hfr)
  have hcx : ∀ {I' : in_T} {M' : mk_T} {H' : hi_T} {Y' Z' : ly_T}, ly_cx n (cl_f f I' P M' H' Y' Z') 40 Y.1 B P.2.1 := by rw [hy1]; exact cl_cx hok (by decide) rfl
  obtain ⟨hA0, hN, h3, h5, h7, h89⟩ := id c10.1
  have hl : 0 ≤ Y.2.2.2.1 ∧ Y.2.2.2.1 ≤ 240 := by omega
  have hp : 0 ≤ Y.2.2.2.2.1 ∧ Y.2.2.2.2.1 ≤ 240 := by omega
  intro u
  induction u with
  | zero =>
    intro x i o6 hi hR
    refine ji_iload dX7_mixedLines_5 rfl ?_
    refine ji_aload_n dX7_mixedLines_7 rfl trivial ?_
    refine ji_get (ci := 7) (k := 8) rfl dX7_mixedLines_8 lX7_64 (by decide) (cl_0h) rfl ?_
    refine ji_cV dX7_mixedLines_11 (cl_jYs (k_Layout_lines hcx hA0 hl)) rfl (cl_40h) rfl rfl wX3_lines vX3_lines lX7_349 rfl (Nat.le_of_ble_eq_true rfl) rfl ?_
    refine ji_icmp_ge (tgt := 52) dX7_mixedLines_14 rfl (by omega) (by omega) (fun c14 => ?_) (fun c14 => absurd c14 (by omega))
    refine ji_lload_n dX7_mixedLines_52 rfl ?_
    exact ji_lreturn dX7_mixedLines_53 rfl ⟨by rw [hR]; rfl, rfl⟩
  | succ u ih =>
    intro x i o6 hi hR
    refine ji_iload dX7_mixedLines_5 rfl ?_
    refine ji_aload_n dX7_mixedLines_7 rfl trivial ?_
    refine ji_get (ci := 7) (k := 8) rfl dX7_mixedLines_8 lX7_64 (by decide) (cl_0h) rfl ?_
    refine ji_cV dX7_mixedLines_11 (cl_jYs (k_Layout_lines hcx hA0 hl)) rfl (cl_40h) rfl rfl wX3_lines vX3_lines lX7_349 rfl (Nat.le_of_ble_eq_true rfl) rfl ?_
    refine ji_icmp_ge (tgt := 52) dX7_mixedLines_14 rfl (by omega) (by omega) (fun c14 => absurd c14 (by omega)) (fun c14 => ?_)
    refine ji_iconst dX7_mixedLines_17 ?_
    refine ji_istore dX7_mixedLines_18 (by decide) rfl ?_
    refine k_mixedLines_i hok hfr (i := i) (by omega) ?_ 6 _ 0 (by omega) rfl
    refine ji_iinc dX7_mixedLines_46 (by decide) rfl rfl ?_
    refine ji_goto (tgt := 5) dX7_mixedLines_49 rfl ?_
    exact ih _ _ _ (by omega) hR

set_option maxHeartbeats 4000000 in
set_option maxRecDepth 100000 in
theorem k_mixedLines (hok : cl_ok n f I P M H Y Z B NT SB) (hfr : cl_fr P Y B NT) {x0 : Int64} : JR G (d + 4) mX7_mixedLines [.ref 0, .long x0] (n, cl_f f I P M H Y Z) 0 0 (some (.long (mx2 (cl_lnp B Y) 6 (Y.2.2.2.1).toNat 0 x0))) (n, cl_f f I P M H Y Z) := by
  obtain ⟨c1, c2, c3, c4, c5, c6, c7, c8, c9, c10, c11, c12⟩ := id hok
  obtain ⟨⟨hm1, hm1'⟩, hm2, hm3, hmJ, hmF, hmT⟩ := id c8
  obtain ⟨hbat, hbok, hbne⟩ := id c6
  obtain ⟨bw, bkq, bfq, hb0, hb1, hb2, hbw, ⟨hbd, -, -⟩, -⟩ := id hbat
  obtain ⟨⟨hw1, hw2⟩, hh1, hh2⟩ := id c5
  obtain ⟨⟨hl1, hl2⟩, ⟨hp1, hp2⟩, hy1, hy2, hy3⟩ := id (cl_fr_b hok hfr)
  have hcx : ∀ {I' : in_T} {M' : mk_T} {H' : hi_T} {Y' Z' : ly_T}, ly_cx n (cl_f f I' P M' H' Y' Z') 40 Y.1 B P.2.1 := by rw [hy1]; exact cl_cx hok (by decide) rfl
  obtain ⟨hA0, hN, h3, h5, h7, h89⟩ := id c10.1
  have hl : 0 ≤ Y.2.2.2.1 ∧ Y.2.2.2.1 ≤ 240 := by omega
  have hp : 0 ≤ Y.2.2.2.2.1 ∧ Y.2.2.2.2.1 ≤ 240 := by omega
  refine ji_ent (by decide) rfl (Nat.le_of_ble_eq_true rfl) rfl ?_
  refine ji_lload_n dX7_mixedLines_0 rfl ?_
  refine ji_lstore_n dX7_mixedLines_1 (by decide) rfl ?_
  refine ji_iconst dX7_mixedLines_2 ?_
  refine ji_istore dX7_mixedLines_3 (by decide) rfl ?_
  exact k_mixedLines_o hok hfr (Y.2.2.2.1).toNat _ 0 _ (by omega) rfl

set_option maxHeartbeats 4000000 in
set_option maxRecDepth 100000 in
theorem k_mixedPages_i (hok : cl_ok n f I P M H Y Z B NT SB) (hfr : cl_fr P Y B NT) {bc bs : Nat} {Q : ji_R → ji_H → Prop} {x0 R : Int64} {i : Int} (hi : 0 ≤ i ∧ i < Y.2.2.2.2.1) (kk : JW G (d + 5) mX7_mixedPages 46 [some (.ref 0), some (.long x0), none, some (.long R), none, some (.int (jI i)), some (.int (jI 7))] [] (n, cl_f f I P M H Y Z) bc bs Q) : ∀ (u : Nat) (x : Int64) (k : Int), 0 ≤ k ∧ k + u = 7 → R = mxs (cl_pgp B P M Y i) u k x →
    JW G (d + 5) mX7_mixedPages 20 [some (.ref 0), some (.long x0), none, some (.long x), none, some (.int (jI i)), some (.int (jI k))] [] (n, cl_f f I P M H Y Z) bc bs Q := by
  obtain ⟨c1, c2, c3, c4, c5, c6, c7, c8, c9, c10, c11, c12⟩ := id hok
  obtain ⟨⟨hm1, hm1'⟩, hm2, hm3, hmJ, hmF, hmT⟩ := id c8
  obtain ⟨hbat, hbok, hbne⟩ := id c6
  obtain ⟨bw, bkq, bfq, hb0, hb1, hb2, hbw, ⟨hbd, -, -⟩, -⟩ := id hbat
  obtain ⟨⟨hw1, hw2⟩, hh1, hh2⟩ := id c5
  obtain ⟨⟨hl1, hl2⟩, ⟨hp1, hp2⟩, hy1, hy2, hy3⟩ := id (cl_fr_b hok hfr)
  have hcx : ∀ {I' : in_T} {M' : mk_T} {H' : hi_T} {Y' Z' : ly_T}, ly_cx n (cl_f f I' P M' H' Y' Z') 40 Y.1 B P.2.1 := by rw [hy1]; exact cl_cx hok (by decide) rfl
  obtain ⟨hA0, hN, h3, h5, h7, h89⟩ := id c10.1
  have hl : 0 ≤ Y.2.2.2.1 ∧ Y.2.2.2.1 ≤ 240 := by omega
  have hp : 0 ≤ Y.2.2.2.2.1 ∧ Y.2.2.2.2.1 ≤ 240 := by omega
  intro u
  induction u with
  | zero =>
    intro x k hk hR
    have e1 : k = 7 := by omega
    subst e1
    have e2 : R = x := hR
    subst e2
    refine ji_iload dX7_mixedPages_20 rfl ?_
    refine ji_bipush dX7_mixedPages_22 rfl ?_
    refine ji_icmp_ge (tgt := 46) dX7_mixedPages_24 rfl (by omega) (by omega) (fun c24 => ?_) (fun c24 => absurd c24 (by omega))
    exact kk
  | succ u ih =>
    intro x k hk hR
    refine ji_iload dX7_mixedPages_20 rfl ?_
    refine ji_bipush dX7_mixedPages_22 rfl ?_
    refine ji_icmp_ge (tgt := 46) dX7_mixedPages_24 rfl (by omega) (by omega) (fun c24 => absurd c24 (by omega)) (fun c24 => ?_)
    refine ji_lload_n dX7_mixedPages_27 rfl ?_
    refine ji_aload_n dX7_mixedPages_28 rfl trivial ?_
    refine ji_iload dX7_mixedPages_29 rfl ?_
    refine ji_iload dX7_mixedPages_31 rfl ?_
    refine ji_cV dX7_mixedPages_33 (k_pageProperty hok hfr hi (by omega)) rfl (cl_0h) rfl rfl wX7_pageProperty vX7_pageProperty lX7_165 rfl (Nat.le_of_ble_eq_true rfl) rfl ?_
    refine ji_cS dX7_mixedPages_36 (k_mixed) rfl wX7_mixed sX7_mixed lX7_365 rfl (Nat.le_of_ble_eq_true rfl) rfl ?_
    refine ji_lstore_n dX7_mixedPages_39 (by decide) rfl ?_
    refine ji_iinc dX7_mixedPages_40 (by decide) rfl rfl ?_
    refine ji_goto (tgt := 20) dX7_mixedPages_43 rfl ?_
    exact ih _ _ (by omega) hR

set_option maxHeartbeats 4000000 in
set_option maxRecDepth 100000 in
theorem k_mixedPages_o (hok : cl_ok n f I P M H Y Z B NT SB) (hfr : cl_fr P Y B NT) {bc bs : Nat} {x0 R : Int64} : ∀ (u : Nat) (x : Int64) (i : Int) (o6 : Option Value), 0 ≤ i ∧ i + u = Y.2.2.2.2.1 → R = mx2 (cl_pgp B P M Y) 7 u i x →
    JW G (d + 5) mX7_mixedPages 5 [some (.ref 0), some (.long x0), none, some (.long x), none, some (.int (jI i)), o6] [] (n, cl_f f I P M H Y Z) bc bs (fun r9 h9 => r9 = .inl (some (.long R)) ∧ h9 = (n, cl_f f I P M H Y Z)) := by
  obtain ⟨c1, c2, c3, c4, c5, c6, c7, c8, c9, c10, c11, c12⟩ := id hok
  obtain ⟨⟨hm1, hm1'⟩, hm2, hm3, hmJ, hmF, hmT⟩ := id c8
  obtain ⟨hbat, hbok, hbne⟩ := id c6
  obtain ⟨bw, bkq, bfq, hb0, hb1, hb2, hbw, ⟨hbd, -, -⟩, -⟩ := id hbat
  obtain ⟨⟨hw1, hw2⟩, hh1, hh2⟩ := id c5
  obtain ⟨⟨hl1, hl2⟩, ⟨hp1, hp2⟩, hy1, hy2, hy3⟩ := id (cl_fr_b hok hfr)
  have hcx : ∀ {I' : in_T} {M' : mk_T} {H' : hi_T} {Y' Z' : ly_T}, ly_cx n (cl_f f I' P M' H' Y' Z') 40 Y.1 B P.2.1 := by rw [hy1]; exact cl_cx hok (by decide) rfl
  obtain ⟨hA0, hN, h3, h5, h7, h89⟩ := id c10.1
  have hl : 0 ≤ Y.2.2.2.1 ∧ Y.2.2.2.1 ≤ 240 := by omega
  have hp : 0 ≤ Y.2.2.2.2.1 ∧ Y.2.2.2.2.1 ≤ 240 := by omega
  intro u
  induction u with
  | zero =>
    intro x i o6 hi hR
    refine ji_iload dX7_mixedPages_5 rfl ?_
    refine ji_aload_n dX7_mixedPages_7 rfl trivial ?_
    refine ji_get (ci := 7) (k := 8) rfl dX7_mixedPages_8 lX7_64 (by decide) (cl_0h) rfl ?_
    refine ji_cV dX7_mixedPages_11 (cl_jYs (k_Layout_pages hcx hA0 hl)) rfl (cl_40h) rfl rfl wX3_pages vX3_pages lX7_149 rfl (Nat.le_of_ble_eq_true rfl) rfl ?_
    refine ji_icmp_ge (tgt := 52) dX7_mixedPages_14 rfl (by omega) (by omega) (fun c14 => ?_) (fun c14 => absurd c14 (by omega))
    refine ji_lload_n dX7_mixedPages_52 rfl ?_
    exact ji_lreturn dX7_mixedPages_53 rfl ⟨by rw [hR]; rfl, rfl⟩
  | succ u ih =>
    intro x i o6 hi hR
    refine ji_iload dX7_mixedPages_5 rfl ?_
    refine ji_aload_n dX7_mixedPages_7 rfl trivial ?_
    refine ji_get (ci := 7) (k := 8) rfl dX7_mixedPages_8 lX7_64 (by decide) (cl_0h) rfl ?_
    refine ji_cV dX7_mixedPages_11 (cl_jYs (k_Layout_pages hcx hA0 hl)) rfl (cl_40h) rfl rfl wX3_pages vX3_pages lX7_149 rfl (Nat.le_of_ble_eq_true rfl) rfl ?_
    refine ji_icmp_ge (tgt := 52) dX7_mixedPages_14 rfl (by omega) (by omega) (fun c14 => absurd c14 (by omega)) (fun c14 => ?_)
    refine ji_iconst dX7_mixedPages_17 ?_
    refine ji_istore dX7_mixedPages_18 (by decide) rfl ?_
    refine k_mixedPages_i hok hfr (i := i) (by omega) ?_ 7 _ 0 (by omega) rfl
    refine ji_iinc dX7_mixedPages_46 (by decide) rfl rfl ?_
    refine ji_goto (tgt := 5) dX7_mixedPages_49 rfl ?_
    exact ih _ _ _ (by omega) hR

set_option maxHeartbeats 4000000 in
set_option maxRecDepth 100000 in
theorem k_mixedPages (hok : cl_ok n f I P M H Y Z B NT SB) (hfr : cl_fr P Y B NT) {x0 : Int64} : JR G (d + 5) mX7_mixedPages [.ref 0, .long x0] (n, cl_f f I P M H Y Z) 0 0 (some (.long (mx2 (cl_pgp B P M Y) 7 (Y.2.2.2.2.1).toNat 0 x0))) (n, cl_f f I P M H Y Z) := by
  obtain ⟨c1, c2, c3, c4, c5, c6, c7, c8, c9, c10, c11, c12⟩ := id hok
  obtain ⟨⟨hm1, hm1'⟩, hm2, hm3, hmJ, hmF, hmT⟩ := id c8
  obtain ⟨hbat, hbok, hbne⟩ := id c6
  obtain ⟨bw, bkq, bfq, hb0, hb1, hb2, hbw, ⟨hbd, -, -⟩, -⟩ := id hbat
  obtain ⟨⟨hw1, hw2⟩, hh1, hh2⟩ := id c5
  obtain ⟨⟨hl1, hl2⟩, ⟨hp1, hp2⟩, hy1, hy2, hy3⟩ := id (cl_fr_b hok hfr)
  have hcx : ∀ {I' : in_T} {M' : mk_T} {H' : hi_T} {Y' Z' : ly_T}, ly_cx n (cl_f f I' P M' H' Y' Z') 40 Y.1 B P.2.1 := by rw [hy1]; exact cl_cx hok (by decide) rfl
  obtain ⟨hA0, hN, h3, h5, h7, h89⟩ := id c10.1
  have hl : 0 ≤ Y.2.2.2.1 ∧ Y.2.2.2.1 ≤ 240 := by omega
  have hp : 0 ≤ Y.2.2.2.2.1 ∧ Y.2.2.2.2.1 ≤ 240 := by omega
  refine ji_ent (by decide) rfl (Nat.le_of_ble_eq_true rfl) rfl ?_
  refine ji_lload_n dX7_mixedPages_0 rfl ?_
  refine ji_lstore_n dX7_mixedPages_1 (by decide) rfl ?_
  refine ji_iconst dX7_mixedPages_2 ?_
  refine ji_istore dX7_mixedPages_3 (by decide) rfl ?_
  exact k_mixedPages_o hok hfr (Y.2.2.2.2.1).toNat _ 0 _ (by omega) rfl

set_option maxHeartbeats 4000000 in
set_option maxRecDepth 100000 in
theorem k_mixedAnnotations_i (hok : cl_ok n f I P M H Y Z B NT SB) (hfr : cl_fr P Y B NT) {bc bs : Nat} {Q : ji_R → ji_H → Prop} {x0 R : Int64} {i : Int} (hi : 0 ≤ i ∧ i < M.2.2.1) (kk : JW G (d + 4) mX7_mixedAnnotations 46 [some (.ref 0), some (.long x0), none, some (.long R), none, some (.int (jI i)), some (.int (jI 6))] [] (n, cl_f f I P M H Y Z) bc bs Q) : ∀ (u : Nat) (x : Int64) (k : Int), 0 ≤ k ∧ k + u = 6 → R = mxs (cl_anp B M Y i) u k x →
    JW G (d + 4) mX7_mixedAnnotations 20 [some (.ref 0), some (.long x0), none, some (.long x), none, some (.int (jI i)), some (.int (jI k))] [] (n, cl_f f I P M H Y Z) bc bs Q := by
  obtain ⟨c1, c2, c3, c4, c5, c6, c7, c8, c9, c10, c11, c12⟩ := id hok
  obtain ⟨⟨hm1, hm1'⟩, hm2, hm3, hmJ, hmF, hmT⟩ := id c8
  obtain ⟨hbat, hbok, hbne⟩ := id c6
  obtain ⟨bw, bkq, bfq, hb0, hb1, hb2, hbw, ⟨hbd, -, -⟩, -⟩ := id hbat
  obtain ⟨⟨hw1, hw2⟩, hh1, hh2⟩ := id c5
  obtain ⟨⟨hl1, hl2⟩, ⟨hp1, hp2⟩, hy1, hy2, hy3⟩ := id (cl_fr_b hok hfr)
  have hcx : ∀ {I' : in_T} {M' : mk_T} {H' : hi_T} {Y' Z' : ly_T}, ly_cx n (cl_f f I' P M' H' Y' Z') 40 Y.1 B P.2.1 := by rw [hy1]; exact cl_cx hok (by decide) rfl
  obtain ⟨hA0, hN, h3, h5, h7, h89⟩ := id c10.1
  have hl : 0 ≤ Y.2.2.2.1 ∧ Y.2.2.2.1 ≤ 240 := by omega
  have hp : 0 ≤ Y.2.2.2.2.1 ∧ Y.2.2.2.2.1 ≤ 240 := by omega
  intro u
  induction u with
  | zero =>
    intro x k hk hR
    have e1 : k = 6 := by omega
    subst e1
    have e2 : R = x := hR
    subst e2
    refine ji_iload dX7_mixedAnnotations_20 rfl ?_
    refine ji_bipush dX7_mixedAnnotations_22 rfl ?_
    refine ji_icmp_ge (tgt := 46) dX7_mixedAnnotations_24 rfl (by omega) (by omega) (fun c24 => ?_) (fun c24 => absurd c24 (by omega))
    exact kk
  | succ u ih =>
    intro x k hk hR
    refine ji_iload dX7_mixedAnnotations_20 rfl ?_
    refine ji_bipush dX7_mixedAnnotations_22 rfl ?_
    refine ji_icmp_ge (tgt := 46) dX7_mixedAnnotations_24 rfl (by omega) (by omega) (fun c24 => absurd c24 (by omega)) (fun c24 => ?_)
    refine ji_lload_n dX7_mixedAnnotations_27 rfl ?_
    refine ji_aload_n dX7_mixedAnnotations_28 rfl trivial ?_
    refine ji_iload dX7_mixedAnnotations_29 rfl ?_
    refine ji_iload dX7_mixedAnnotations_31 rfl ?_
    refine ji_cV dX7_mixedAnnotations_33 (k_annotationProperty hok hfr hi (by omega)) rfl (cl_0h) rfl rfl wX7_annotationProperty vX7_annotationProperty lX7_267 rfl (Nat.le_of_ble_eq_true rfl) rfl ?_
    refine ji_cS dX7_mixedAnnotations_36 (k_mixed) rfl wX7_mixed sX7_mixed lX7_365 rfl (Nat.le_of_ble_eq_true rfl) rfl ?_
    refine ji_lstore_n dX7_mixedAnnotations_39 (by decide) rfl ?_
    refine ji_iinc dX7_mixedAnnotations_40 (by decide) rfl rfl ?_
    refine ji_goto (tgt := 20) dX7_mixedAnnotations_43 rfl ?_
    exact ih _ _ (by omega) hR

set_option maxHeartbeats 4000000 in
set_option maxRecDepth 100000 in
theorem k_mixedAnnotations_o (hok : cl_ok n f I P M H Y Z B NT SB) (hfr : cl_fr P Y B NT) {bc bs : Nat} {x0 R : Int64} : ∀ (u : Nat) (x : Int64) (i : Int) (o6 : Option Value), 0 ≤ i ∧ i + u = M.2.2.1 → R = mx2 (cl_anp B M Y) 6 u i x →
    JW G (d + 4) mX7_mixedAnnotations 5 [some (.ref 0), some (.long x0), none, some (.long x), none, some (.int (jI i)), o6] [] (n, cl_f f I P M H Y Z) bc bs (fun r9 h9 => r9 = .inl (some (.long R)) ∧ h9 = (n, cl_f f I P M H Y Z)) := by
  obtain ⟨c1, c2, c3, c4, c5, c6, c7, c8, c9, c10, c11, c12⟩ := id hok
  obtain ⟨⟨hm1, hm1'⟩, hm2, hm3, hmJ, hmF, hmT⟩ := id c8
  obtain ⟨hbat, hbok, hbne⟩ := id c6
  obtain ⟨bw, bkq, bfq, hb0, hb1, hb2, hbw, ⟨hbd, -, -⟩, -⟩ := id hbat
  obtain ⟨⟨hw1, hw2⟩, hh1, hh2⟩ := id c5
  obtain ⟨⟨hl1, hl2⟩, ⟨hp1, hp2⟩, hy1, hy2, hy3⟩ := id (cl_fr_b hok hfr)
  have hcx : ∀ {I' : in_T} {M' : mk_T} {H' : hi_T} {Y' Z' : ly_T}, ly_cx n (cl_f f I' P M' H' Y' Z') 40 Y.1 B P.2.1 := by rw [hy1]; exact cl_cx hok (by decide) rfl
  obtain ⟨hA0, hN, h3, h5, h7, h89⟩ := id c10.1
  have hl : 0 ≤ Y.2.2.2.1 ∧ Y.2.2.2.1 ≤ 240 := by omega
  have hp : 0 ≤ Y.2.2.2.2.1 ∧ Y.2.2.2.2.1 ≤ 240 := by omega
  intro u
  induction u with
  | zero =>
    intro x i o6 hi hR
    refine ji_iload dX7_mixedAnnotations_5 rfl ?_
    refine ji_aload_n dX7_mixedAnnotations_7 rfl trivial ?_
    refine ji_get (ci := 7) (k := 6) rfl dX7_mixedAnnotations_8 lX7_48 (by decide) (cl_0h) rfl ?_
    refine ji_cV dX7_mixedAnnotations_11 (cl_jMs k_Marks_annotations) rfl (cl_12h) rfl rfl wX4_annotations vX4_annotations lX7_256 rfl (Nat.le_of_ble_eq_true rfl) rfl ?_
    refine ji_icmp_ge (tgt := 52) dX7_mixedAnnotations_14 rfl (by omega) (by omega) (fun c14 => ?_) (fun c14 => absurd c14 (by omega))
    refine ji_lload_n dX7_mixedAnnotations_52 rfl ?_
    exact ji_lreturn dX7_mixedAnnotations_53 rfl ⟨by rw [hR]; rfl, rfl⟩
  | succ u ih =>
    intro x i o6 hi hR
    refine ji_iload dX7_mixedAnnotations_5 rfl ?_
    refine ji_aload_n dX7_mixedAnnotations_7 rfl trivial ?_
    refine ji_get (ci := 7) (k := 6) rfl dX7_mixedAnnotations_8 lX7_48 (by decide) (cl_0h) rfl ?_
    refine ji_cV dX7_mixedAnnotations_11 (cl_jMs k_Marks_annotations) rfl (cl_12h) rfl rfl wX4_annotations vX4_annotations lX7_256 rfl (Nat.le_of_ble_eq_true rfl) rfl ?_
    refine ji_icmp_ge (tgt := 52) dX7_mixedAnnotations_14 rfl (by omega) (by omega) (fun c14 => absurd c14 (by omega)) (fun c14 => ?_)
    refine ji_iconst dX7_mixedAnnotations_17 ?_
    refine ji_istore dX7_mixedAnnotations_18 (by decide) rfl ?_
    refine k_mixedAnnotations_i hok hfr (i := i) (by omega) ?_ 6 _ 0 (by omega) rfl
    refine ji_iinc dX7_mixedAnnotations_46 (by decide) rfl rfl ?_
    refine ji_goto (tgt := 5) dX7_mixedAnnotations_49 rfl ?_
    exact ih _ _ _ (by omega) hR

set_option maxHeartbeats 4000000 in
set_option maxRecDepth 100000 in
theorem k_mixedAnnotations (hok : cl_ok n f I P M H Y Z B NT SB) (hfr : cl_fr P Y B NT) {x0 : Int64} : JR G (d + 4) mX7_mixedAnnotations [.ref 0, .long x0] (n, cl_f f I P M H Y Z) 0 0 (some (.long (mx2 (cl_anp B M Y) 6 (M.2.2.1).toNat 0 x0))) (n, cl_f f I P M H Y Z) := by
  obtain ⟨c1, c2, c3, c4, c5, c6, c7, c8, c9, c10, c11, c12⟩ := id hok
  obtain ⟨⟨hm1, hm1'⟩, hm2, hm3, hmJ, hmF, hmT⟩ := id c8
  obtain ⟨hbat, hbok, hbne⟩ := id c6
  obtain ⟨bw, bkq, bfq, hb0, hb1, hb2, hbw, ⟨hbd, -, -⟩, -⟩ := id hbat
  obtain ⟨⟨hw1, hw2⟩, hh1, hh2⟩ := id c5
  obtain ⟨⟨hl1, hl2⟩, ⟨hp1, hp2⟩, hy1, hy2, hy3⟩ := id (cl_fr_b hok hfr)
  have hcx : ∀ {I' : in_T} {M' : mk_T} {H' : hi_T} {Y' Z' : ly_T}, ly_cx n (cl_f f I' P M' H' Y' Z') 40 Y.1 B P.2.1 := by rw [hy1]; exact cl_cx hok (by decide) rfl
  obtain ⟨hA0, hN, h3, h5, h7, h89⟩ := id c10.1
  have hl : 0 ≤ Y.2.2.2.1 ∧ Y.2.2.2.1 ≤ 240 := by omega
  have hp : 0 ≤ Y.2.2.2.2.1 ∧ Y.2.2.2.2.1 ≤ 240 := by omega
  refine ji_ent (by decide) rfl (Nat.le_of_ble_eq_true rfl) rfl ?_
  refine ji_lload_n dX7_mixedAnnotations_0 rfl ?_
  refine ji_lstore_n dX7_mixedAnnotations_1 (by decide) rfl ?_
  refine ji_iconst dX7_mixedAnnotations_2 ?_
  refine ji_istore dX7_mixedAnnotations_3 (by decide) rfl ?_
  exact k_mixedAnnotations_o hok hfr (M.2.2.1).toNat _ 0 _ (by omega) rfl

set_option maxHeartbeats 4000000 in
set_option maxRecDepth 100000 in
theorem k_mixedParagraphs_i (hok : cl_ok n f I P M H Y Z B NT SB) (hfr : cl_fr P Y B NT) {bc bs : Nat} {Q : ji_R → ji_H → Prop} {x0 R : Int64} {i : Int} {o7 : Option Value} (hi : 0 ≤ i ∧ i < bk_P B) (kk : JW G (d + 4) mX7_mixedParagraphs 45 [some (.ref 0), some (.long x0), none, some (.long R), none, some (.int (jI i)), some (.int (jI 5)), o7] [] (n, cl_f f I P M H Y Z) bc bs Q) : ∀ (u : Nat) (x : Int64) (k : Int), 0 ≤ k ∧ k + u = 5 → R = mxs (cl_pp B Y i) u k x →
    JW G (d + 4) mX7_mixedParagraphs 20 [some (.ref 0), some (.long x0), none, some (.long x), none, some (.int (jI i)), some (.int (jI k)), o7] [] (n, cl_f f I P M H Y Z) bc bs Q := by
  obtain ⟨c1, c2, c3, c4, c5, c6, c7, c8, c9, c10, c11, c12⟩ := id hok
  obtain ⟨⟨hm1, hm1'⟩, hm2, hm3, hmJ, hmF, hmT⟩ := id c8
  obtain ⟨hbat, hbok, hbne⟩ := id c6
  obtain ⟨bw, bkq, bfq, hb0, hb1, hb2, hbw, ⟨hbd, -, -⟩, -⟩ := id hbat
  obtain ⟨⟨hw1, hw2⟩, hh1, hh2⟩ := id c5
  obtain ⟨⟨hl1, hl2⟩, ⟨hp1, hp2⟩, hy1, hy2, hy3⟩ := id (cl_fr_b hok hfr)
  have hcx : ∀ {I' : in_T} {M' : mk_T} {H' : hi_T} {Y' Z' : ly_T}, ly_cx n (cl_f f I' P M' H' Y' Z') 40 Y.1 B P.2.1 := by rw [hy1]; exact cl_cx hok (by decide) rfl
  obtain ⟨hA0, hN, h3, h5, h7, h89⟩ := id c10.1
  have hl : 0 ≤ Y.2.2.2.1 ∧ Y.2.2.2.1 ≤ 240 := by omega
  have hp : 0 ≤ Y.2.2.2.2.1 ∧ Y.2.2.2.2.1 ≤ 240 := by omega
  intro u
  induction u with
  | zero =>
    intro x k hk hR
    have e1 : k = 5 := by omega
    subst e1
    have e2 : R = x := hR
    subst e2
    refine ji_iload dX7_mixedParagraphs_20 rfl ?_
    refine ji_iconst dX7_mixedParagraphs_22 ?_
    refine ji_icmp_ge (tgt := 45) dX7_mixedParagraphs_23 rfl (by omega) (by omega) (fun c23 => ?_) (fun c23 => absurd c23 (by omega))
    exact kk
  | succ u ih =>
    intro x k hk hR
    refine ji_iload dX7_mixedParagraphs_20 rfl ?_
    refine ji_iconst dX7_mixedParagraphs_22 ?_
    refine ji_icmp_ge (tgt := 45) dX7_mixedParagraphs_23 rfl (by omega) (by omega) (fun c23 => absurd c23 (by omega)) (fun c23 => ?_)
    refine ji_lload_n dX7_mixedParagraphs_26 rfl ?_
    refine ji_aload_n dX7_mixedParagraphs_27 rfl trivial ?_
    refine ji_iload dX7_mixedParagraphs_28 rfl ?_
    refine ji_iload dX7_mixedParagraphs_30 rfl ?_
    refine ji_cV dX7_mixedParagraphs_32 (k_paragraphProperty hok hfr hi (by omega)) rfl (cl_0h) rfl rfl wX7_paragraphProperty vX7_paragraphProperty lX7_244 rfl (Nat.le_of_ble_eq_true rfl) rfl ?_
    refine ji_cS dX7_mixedParagraphs_35 (k_mixed) rfl wX7_mixed sX7_mixed lX7_365 rfl (Nat.le_of_ble_eq_true rfl) rfl ?_
    refine ji_lstore_n dX7_mixedParagraphs_38 (by decide) rfl ?_
    refine ji_iinc dX7_mixedParagraphs_39 (by decide) rfl rfl ?_
    refine ji_goto (tgt := 20) dX7_mixedParagraphs_42 rfl ?_
    exact ih _ _ (by omega) hR

set_option maxHeartbeats 4000000 in
set_option maxRecDepth 100000 in
theorem k_mixedParagraphs_j (hok : cl_ok n f I P M H Y Z B NT SB) (hfr : cl_fr P Y B NT) {bc bs : Nat} {Q : ji_R → ji_H → Prop} {x0 R : Int64} {i e : Int} (he : -1 ≤ e ∧ e ≤ 10000) (kk : ∀ k, JW G (d + 4) mX7_mixedParagraphs 97 [some (.ref 0), some (.long x0), none, some (.long R), none, some (.int (jI i)), some (.int (jI e)), some (.int (jI k))] [] (n, cl_f f I P M H Y Z) bc bs Q) : ∀ (u : Nat) (x : Int64) (k : Int), 0 ≤ k ∧ k ≤ 20000 → u = (e - k).toNat → R = mxs (wd_sign (bk_m B) (bk_tx B)) u k x →
    JW G (d + 4) mX7_mixedParagraphs 67 [some (.ref 0), some (.long x0), none, some (.long x), none, some (.int (jI i)), some (.int (jI e)), some (.int (jI k))] [] (n, cl_f f I P M H Y Z) bc bs Q := by
  obtain ⟨c1, c2, c3, c4, c5, c6, c7, c8, c9, c10, c11, c12⟩ := id hok
  obtain ⟨⟨hm1, hm1'⟩, hm2, hm3, hmJ, hmF, hmT⟩ := id c8
  obtain ⟨hbat, hbok, hbne⟩ := id c6
  obtain ⟨bw, bkq, bfq, hb0, hb1, hb2, hbw, ⟨hbd, -, -⟩, -⟩ := id hbat
  obtain ⟨⟨hw1, hw2⟩, hh1, hh2⟩ := id c5
  obtain ⟨⟨hl1, hl2⟩, ⟨hp1, hp2⟩, hy1, hy2, hy3⟩ := id (cl_fr_b hok hfr)
  have hcx : ∀ {I' : in_T} {M' : mk_T} {H' : hi_T} {Y' Z' : ly_T}, ly_cx n (cl_f f I' P M' H' Y' Z') 40 Y.1 B P.2.1 := by rw [hy1]; exact cl_cx hok (by decide) rfl
  obtain ⟨hA0, hN, h3, h5, h7, h89⟩ := id c10.1
  have hl : 0 ≤ Y.2.2.2.1 ∧ Y.2.2.2.1 ≤ 240 := by omega
  have hp : 0 ≤ Y.2.2.2.2.1 ∧ Y.2.2.2.2.1 ≤ 240 := by omega
  obtain ⟨wt, wq, hw0', -, -, ⟨hwd, -, -⟩, -⟩ := id hbw
  intro u
  induction u with
  | zero =>
    intro x k hk hu hR
    have e2 : R = x := hR
    subst e2
    refine ji_iload dX7_mixedParagraphs_67 rfl ?_
    refine ji_iload dX7_mixedParagraphs_69 rfl ?_
    refine ji_icmp_ge (tgt := 97) dX7_mixedParagraphs_71 rfl (by omega) (by omega) (fun c71 => ?_) (fun c71 => absurd c71 (by omega))
    exact kk _
  | succ u ih =>
    intro x k hk hu hR
    refine ji_iload dX7_mixedParagraphs_67 rfl ?_
    refine ji_iload dX7_mixedParagraphs_69 rfl ?_
    refine ji_icmp_ge (tgt := 97) dX7_mixedParagraphs_71 rfl (by omega) (by omega) (fun c71 => absurd c71 (by omega)) (fun c71 => ?_)
    refine ji_lload_n dX7_mixedParagraphs_74 rfl ?_
    refine ji_aload_n dX7_mixedParagraphs_75 rfl trivial ?_
    refine ji_get (ci := 7) (k := 5) rfl dX7_mixedParagraphs_76 lX7_41 (by decide) (cl_0h) rfl ?_
    refine ji_cV dX7_mixedParagraphs_79 (k_Book_words_w ((cl_dh hbd).trans hb0)) rfl ((cl_dh hbd).trans hb0) rfl rfl wX0_words vX0_words lX7_230 rfl (Nat.le_of_ble_eq_true rfl) rfl ?_
    refine ji_iload dX7_mixedParagraphs_82 rfl ?_
    refine ji_cV dX7_mixedParagraphs_84 (k_Words_signAt (hbw.kept cl_kf) hbok.1 (by omega)) rfl ((cl_dh hwd).trans hw0') rfl rfl wX6_signAt vX6_signAt lX7_247 rfl (Nat.le_of_ble_eq_true rfl) rfl ?_
    refine ji_cS dX7_mixedParagraphs_87 (k_mixed) rfl wX7_mixed sX7_mixed lX7_365 rfl (Nat.le_of_ble_eq_true rfl) rfl ?_
    refine ji_lstore_n dX7_mixedParagraphs_90 (by decide) rfl ?_
    refine ji_iinc dX7_mixedParagraphs_91 (by decide) rfl rfl ?_
    refine ji_goto (tgt := 67) dX7_mixedParagraphs_94 rfl ?_
    exact ih _ _ (by omega) (by omega) hR

set_option maxHeartbeats 4000000 in
set_option maxRecDepth 100000 in
theorem k_mixedParagraphs_o (hok : cl_ok n f I P M H Y Z B NT SB) (hfr : cl_fr P Y B NT) {bc bs : Nat} {x0 R : Int64} : ∀ (u : Nat) (x : Int64) (i : Int) (o6 o7 : Option Value), 0 ≤ i ∧ i + u = bk_P B → R = mxp B Y u i x →
    JW G (d + 4) mX7_mixedParagraphs 5 [some (.ref 0), some (.long x0), none, some (.long x), none, some (.int (jI i)), o6, o7] [] (n, cl_f f I P M H Y Z) bc bs (fun r9 h9 => r9 = .inl (some (.long R)) ∧ h9 = (n, cl_f f I P M H Y Z)) := by
  obtain ⟨c1, c2, c3, c4, c5, c6, c7, c8, c9, c10, c11, c12⟩ := id hok
  obtain ⟨⟨hm1, hm1'⟩, hm2, hm3, hmJ, hmF, hmT⟩ := id c8
  obtain ⟨hbat, hbok, hbne⟩ := id c6
  obtain ⟨bw, bkq, bfq, hb0, hb1, hb2, hbw, ⟨hbd, -, -⟩, -⟩ := id hbat
  obtain ⟨⟨hw1, hw2⟩, hh1, hh2⟩ := id c5
  obtain ⟨⟨hl1, hl2⟩, ⟨hp1, hp2⟩, hy1, hy2, hy3⟩ := id (cl_fr_b hok hfr)
  have hcx : ∀ {I' : in_T} {M' : mk_T} {H' : hi_T} {Y' Z' : ly_T}, ly_cx n (cl_f f I' P M' H' Y' Z') 40 Y.1 B P.2.1 := by rw [hy1]; exact cl_cx hok (by decide) rfl
  obtain ⟨hA0, hN, h3, h5, h7, h89⟩ := id c10.1
  have hl : 0 ≤ Y.2.2.2.1 ∧ Y.2.2.2.1 ≤ 240 := by omega
  have hp : 0 ≤ Y.2.2.2.2.1 ∧ Y.2.2.2.2.1 ≤ 240 := by omega
  have hP10 := hbok.2.1
  intro u
  induction u with
  | zero =>
    intro x i o6 o7 hi hR
    refine ji_iload dX7_mixedParagraphs_5 rfl ?_
    refine ji_aload_n dX7_mixedParagraphs_7 rfl trivial ?_
    refine ji_get (ci := 7) (k := 5) rfl dX7_mixedParagraphs_8 lX7_41 (by decide) (cl_0h) rfl ?_
    refine ji_cV dX7_mixedParagraphs_11 (k_Book_paragraphs (hbat.kept cl_kf) hbok) rfl ((cl_dh hbd).trans hb0) rfl rfl wX0_paragraphs vX0_paragraphs lX7_122 rfl (Nat.le_of_ble_eq_true rfl) rfl ?_
    refine ji_icmp_ge (tgt := 103) dX7_mixedParagraphs_14 rfl (by omega) (by omega) (fun c14 => ?_) (fun c14 => absurd c14 (by omega))
    refine ji_lload_n dX7_mixedParagraphs_103 rfl ?_
    exact ji_lreturn dX7_mixedParagraphs_104 rfl ⟨by rw [hR]; rfl, rfl⟩
  | succ u ih =>
    intro x i o6 o7 hi hR
    have g1 := bk_st_b hbok i
    have g2 := bk_en_b hbok i
    refine ji_iload dX7_mixedParagraphs_5 rfl ?_
    refine ji_aload_n dX7_mixedParagraphs_7 rfl trivial ?_
    refine ji_get (ci := 7) (k := 5) rfl dX7_mixedParagraphs_8 lX7_41 (by decide) (cl_0h) rfl ?_
    refine ji_cV dX7_mixedParagraphs_11 (k_Book_paragraphs (hbat.kept cl_kf) hbok) rfl ((cl_dh hbd).trans hb0) rfl rfl wX0_paragraphs vX0_paragraphs lX7_122 rfl (Nat.le_of_ble_eq_true rfl) rfl ?_
    refine ji_icmp_ge (tgt := 103) dX7_mixedParagraphs_14 rfl (by omega) (by omega) (fun c14 => absurd c14 (by omega)) (fun c14 => ?_)
    refine ji_iconst dX7_mixedParagraphs_17 ?_
    refine ji_istore dX7_mixedParagraphs_18 (by decide) rfl ?_
    refine k_mixedParagraphs_i hok hfr (i := i) (by omega) ?_ 5 _ 0 (by omega) rfl
    refine ji_aload_n dX7_mixedParagraphs_45 rfl trivial ?_
    refine ji_get (ci := 7) (k := 5) rfl dX7_mixedParagraphs_46 lX7_41 (by decide) (cl_0h) rfl ?_
    refine ji_iload dX7_mixedParagraphs_49 rfl ?_
    refine ji_cV dX7_mixedParagraphs_51 (k_Book_endOf (hbat.kept cl_kf) hbok (by omega)) rfl ((cl_dh hbd).trans hb0) rfl rfl wX0_endOf vX0_endOf lX7_287 rfl (Nat.le_of_ble_eq_true rfl) rfl ?_
    refine ji_istore dX7_mixedParagraphs_54 (by decide) rfl ?_
    refine ji_aload_n dX7_mixedParagraphs_56 rfl trivial ?_
    refine ji_get (ci := 7) (k := 5) rfl dX7_mixedParagraphs_57 lX7_41 (by decide) (cl_0h) rfl ?_
    refine ji_iload dX7_mixedParagraphs_60 rfl ?_
    refine ji_cV dX7_mixedParagraphs_62 (k_Book_startOf (hbat.kept cl_kf) hbok (by omega)) rfl ((cl_dh hbd).trans hb0) rfl rfl wX0_startOf vX0_startOf lX7_192 rfl (Nat.le_of_ble_eq_true rfl) rfl ?_
    refine ji_istore dX7_mixedParagraphs_65 (by decide) rfl ?_
    refine k_mixedParagraphs_j hok hfr g2 (fun k => ?_) (bk_end B i - bk_start B i).toNat _ _ (by omega) rfl rfl
    refine ji_iinc dX7_mixedParagraphs_97 (by decide) rfl rfl ?_
    refine ji_goto (tgt := 5) dX7_mixedParagraphs_100 rfl ?_
    exact ih _ _ _ _ (by omega) hR

set_option maxHeartbeats 4000000 in
set_option maxRecDepth 100000 in
theorem k_mixedParagraphs (hok : cl_ok n f I P M H Y Z B NT SB) (hfr : cl_fr P Y B NT) {x0 : Int64} : JR G (d + 4) mX7_mixedParagraphs [.ref 0, .long x0] (n, cl_f f I P M H Y Z) 0 0 (some (.long (mxp B Y (bk_P B) 0 x0))) (n, cl_f f I P M H Y Z) := by
  obtain ⟨c1, c2, c3, c4, c5, c6, c7, c8, c9, c10, c11, c12⟩ := id hok
  obtain ⟨⟨hm1, hm1'⟩, hm2, hm3, hmJ, hmF, hmT⟩ := id c8
  obtain ⟨hbat, hbok, hbne⟩ := id c6
  obtain ⟨bw, bkq, bfq, hb0, hb1, hb2, hbw, ⟨hbd, -, -⟩, -⟩ := id hbat
  obtain ⟨⟨hw1, hw2⟩, hh1, hh2⟩ := id c5
  obtain ⟨⟨hl1, hl2⟩, ⟨hp1, hp2⟩, hy1, hy2, hy3⟩ := id (cl_fr_b hok hfr)
  have hcx : ∀ {I' : in_T} {M' : mk_T} {H' : hi_T} {Y' Z' : ly_T}, ly_cx n (cl_f f I' P M' H' Y' Z') 40 Y.1 B P.2.1 := by rw [hy1]; exact cl_cx hok (by decide) rfl
  obtain ⟨hA0, hN, h3, h5, h7, h89⟩ := id c10.1
  have hl : 0 ≤ Y.2.2.2.1 ∧ Y.2.2.2.1 ≤ 240 := by omega
  have hp : 0 ≤ Y.2.2.2.2.1 ∧ Y.2.2.2.2.1 ≤ 240 := by omega
  refine ji_ent (by decide) rfl (Nat.le_of_ble_eq_true rfl) rfl ?_
  refine ji_lload_n dX7_mixedParagraphs_0 rfl ?_
  refine ji_lstore_n dX7_mixedParagraphs_1 (by decide) rfl ?_
  refine ji_iconst dX7_mixedParagraphs_2 ?_
  refine ji_istore dX7_mixedParagraphs_3 (by decide) rfl ?_
  exact k_mixedParagraphs_o hok hfr (bk_P B) _ 0 _ _ (by omega) rfl

set_option maxHeartbeats 4000000 in
set_option maxRecDepth 100000 in
theorem k_mixedInput_l (hok : cl_ok n f I P M H Y Z B NT SB) {bc bs : Nat} {x0 R : Int64} : ∀ (u : Nat) (x : Int64) (k : Int), 0 ≤ k ∧ k + u = I.1 → R = mxs (in_sign I.1 I.2.1) u k x →
    JW G (d + 1) mX7_mixedInput 15 [some (.ref 0), some (.long x0), none, some (.long x), none, some (.int (jI k))] [] (n, cl_f f I P M H Y Z) bc bs (fun r9 h9 => r9 = .inl (some (.long R)) ∧ h9 = (n, cl_f f I P M H Y Z)) := by
  obtain ⟨c1, c2, c3, c4, c5, c6, c7, c8, c9, c10, c11, c12⟩ := id hok
  obtain ⟨⟨hm1, hm1'⟩, hm2, hm3, hmJ, hmF, hmT⟩ := id c8
  obtain ⟨hbat, hbok, hbne⟩ := id c6
  obtain ⟨bw, bkq, bfq, hb0, hb1, hb2, hbw, ⟨hbd, -, -⟩, -⟩ := id hbat
  obtain ⟨⟨hw1, hw2⟩, hh1, hh2⟩ := id c5
  have hlen := c2.1
  intro u
  induction u with
  | zero =>
    intro x k hk hR
    refine ji_iload dX7_mixedInput_15 rfl ?_
    refine ji_aload_n dX7_mixedInput_17 rfl trivial ?_
    refine ji_get (ci := 7) (k := 0) rfl dX7_mixedInput_18 lX7_12 (by decide) (cl_0h) rfl ?_
    refine ji_cV dX7_mixedInput_21 (cl_jIs k_Input_length) rfl (cl_1h) rfl rfl wX2_length vX2_length lX7_95 rfl (Nat.le_of_ble_eq_true rfl) rfl ?_
    refine ji_icmp_ge (tgt := 47) dX7_mixedInput_24 rfl (by omega) (by omega) (fun c24 => ?_) (fun c24 => absurd c24 (by omega))
    refine ji_lload_n dX7_mixedInput_47 rfl ?_
    exact ji_lreturn dX7_mixedInput_48 rfl ⟨by rw [hR]; rfl, rfl⟩
  | succ u ih =>
    intro x k hk hR
    refine ji_iload dX7_mixedInput_15 rfl ?_
    refine ji_aload_n dX7_mixedInput_17 rfl trivial ?_
    refine ji_get (ci := 7) (k := 0) rfl dX7_mixedInput_18 lX7_12 (by decide) (cl_0h) rfl ?_
    refine ji_cV dX7_mixedInput_21 (cl_jIs k_Input_length) rfl (cl_1h) rfl rfl wX2_length vX2_length lX7_95 rfl (Nat.le_of_ble_eq_true rfl) rfl ?_
    refine ji_icmp_ge (tgt := 47) dX7_mixedInput_24 rfl (by omega) (by omega) (fun c24 => absurd c24 (by omega)) (fun c24 => ?_)
    refine ji_lload_n dX7_mixedInput_27 rfl ?_
    refine ji_aload_n dX7_mixedInput_28 rfl trivial ?_
    refine ji_get (ci := 7) (k := 0) rfl dX7_mixedInput_29 lX7_12 (by decide) (cl_0h) rfl ?_
    refine ji_iload dX7_mixedInput_32 rfl ?_
    refine ji_cV dX7_mixedInput_34 (cl_jIs (k_Input_signAt (by omega) c2)) rfl (cl_1h) rfl rfl wX2_signAt vX2_signAt lX7_387 rfl (Nat.le_of_ble_eq_true rfl) rfl ?_
    refine ji_cS dX7_mixedInput_37 (k_mixed) rfl wX7_mixed sX7_mixed lX7_365 rfl (Nat.le_of_ble_eq_true rfl) rfl ?_
    refine ji_lstore_n dX7_mixedInput_40 (by decide) rfl ?_
    refine ji_iinc dX7_mixedInput_41 (by decide) rfl rfl ?_
    refine ji_goto (tgt := 15) dX7_mixedInput_44 rfl ?_
    exact ih _ _ (by omega) hR

set_option maxHeartbeats 4000000 in
set_option maxRecDepth 100000 in
theorem k_mixedInput (hok : cl_ok n f I P M H Y Z B NT SB) {x0 : Int64} : JR G (d + 1) mX7_mixedInput [.ref 0, .long x0] (n, cl_f f I P M H Y Z) 0 0 (some (.long (mxs (in_sign I.1 I.2.1) I.1.toNat 0 (mx x0 I.1)))) (n, cl_f f I P M H Y Z) := by
  obtain ⟨c1, c2, c3, c4, c5, c6, c7, c8, c9, c10, c11, c12⟩ := id hok
  obtain ⟨⟨hm1, hm1'⟩, hm2, hm3, hmJ, hmF, hmT⟩ := id c8
  obtain ⟨hbat, hbok, hbne⟩ := id c6
  obtain ⟨bw, bkq, bfq, hb0, hb1, hb2, hbw, ⟨hbd, -, -⟩, -⟩ := id hbat
  obtain ⟨⟨hw1, hw2⟩, hh1, hh2⟩ := id c5
  have hlen := c2.1
  refine ji_ent (by decide) rfl (Nat.le_of_ble_eq_true rfl) rfl ?_
  refine ji_lload_n dX7_mixedInput_0 rfl ?_
  refine ji_aload_n dX7_mixedInput_1 rfl trivial ?_
  refine ji_get (ci := 7) (k := 0) rfl dX7_mixedInput_2 lX7_12 (by decide) (cl_0h) rfl ?_
  refine ji_cV dX7_mixedInput_5 (cl_jIs k_Input_length) rfl (cl_1h) rfl rfl wX2_length vX2_length lX7_95 rfl (Nat.le_of_ble_eq_true rfl) rfl ?_
  refine ji_cS dX7_mixedInput_8 (k_mixed) rfl wX7_mixed sX7_mixed lX7_365 rfl (Nat.le_of_ble_eq_true rfl) rfl ?_
  refine ji_lstore_n dX7_mixedInput_11 (by decide) rfl ?_
  refine ji_iconst dX7_mixedInput_12 ?_
  refine ji_istore dX7_mixedInput_13 (by decide) rfl ?_
  exact k_mixedInput_l hok I.1.toNat _ 0 (by omega) rfl

set_option maxHeartbeats 4000000 in
set_option maxRecDepth 100000 in
theorem k_digest_a (hok : cl_ok n f I P M H Y Z B NT SB) (hfr : cl_fr P Y B NT) {bc bs : Nat} {Q : ji_R → ji_H → Prop} {R : Int64} (hr : 9 ≤ M.1 ∨ bk_PA B M.1 ≤ M.1) (kk : JW G (d + 6) mX7_digest 32 [some (.ref 0), some (.long R), none, some (.int (jI 12)), none, none, none] [] (n, cl_f f I P M H Y Z) bc bs Q) : ∀ (u : Nat) (x : Int64) (k : Int), 0 ≤ k ∧ k + u = 12 → R = mxs (cl_cnt B M Y H.1) u k x →
    JW G (d + 6) mX7_digest 10 [some (.ref 0), some (.long x), none, some (.int (jI k)), none, none, none] [] (n, cl_f f I P M H Y Z) bc bs Q := by
  obtain ⟨c1, c2, c3, c4, c5, c6, c7, c8, c9, c10, c11, c12⟩ := id hok
  obtain ⟨⟨hm1, hm1'⟩, hm2, hm3, hmJ, hmF, hmT⟩ := id c8
  obtain ⟨hbat, hbok, hbne⟩ := id c6
  obtain ⟨bw, bkq, bfq, hb0, hb1, hb2, hbw, ⟨hbd, -, -⟩, -⟩ := id hbat
  obtain ⟨⟨hw1, hw2⟩, hh1, hh2⟩ := id c5
  obtain ⟨⟨hl1, hl2⟩, ⟨hp1, hp2⟩, hy1, hy2, hy3⟩ := id (cl_fr_b hok hfr)
  have hcx : ∀ {I' : in_T} {M' : mk_T} {H' : hi_T} {Y' Z' : ly_T}, ly_cx n (cl_f f I' P M' H' Y' Z') 40 Y.1 B P.2.1 := by rw [hy1]; exact cl_cx hok (by decide) rfl
  obtain ⟨hA0, hN, h3, h5, h7, h89⟩ := id c10.1
  have hl : 0 ≤ Y.2.2.2.1 ∧ Y.2.2.2.1 ≤ 240 := by omega
  have hp : 0 ≤ Y.2.2.2.2.1 ∧ Y.2.2.2.2.1 ≤ 240 := by omega
  intro u
  induction u with
  | zero =>
    intro x k hk hR
    have e1 : k = 12 := by omega
    subst e1
    have e2 : R = x := hR
    subst e2
    refine ji_iload_n dX7_digest_10 rfl ?_
    refine ji_bipush dX7_digest_11 rfl ?_
    refine ji_icmp_ge (tgt := 32) dX7_digest_13 rfl (by omega) (by omega) (fun c13 => ?_) (fun c13 => absurd c13 (by omega))
    exact kk
  | succ u ih =>
    intro x k hk hR
    refine ji_iload_n dX7_digest_10 rfl ?_
    refine ji_bipush dX7_digest_11 rfl ?_
    refine ji_icmp_ge (tgt := 32) dX7_digest_13 rfl (by omega) (by omega) (fun c13 => absurd c13 (by omega)) (fun c13 => ?_)
    refine ji_lload_n dX7_digest_16 rfl ?_
    refine ji_aload_n dX7_digest_17 rfl trivial ?_
    refine ji_iload_n dX7_digest_18 rfl ?_
    refine ji_cV dX7_digest_19 (k_countOf hok hfr hr (by omega)) rfl (cl_0h) rfl rfl wX7_countOf vX7_countOf lX7_238 rfl (Nat.le_of_ble_eq_true rfl) rfl ?_
    refine ji_cS dX7_digest_22 (k_mixed) rfl wX7_mixed sX7_mixed lX7_365 rfl (Nat.le_of_ble_eq_true rfl) rfl ?_
    refine ji_lstore_n dX7_digest_25 (by decide) rfl ?_
    refine ji_iinc dX7_digest_26 (by decide) rfl rfl ?_
    refine ji_goto (tgt := 10) dX7_digest_29 rfl ?_
    exact ih _ _ (by omega) hR

set_option maxHeartbeats 4000000 in
set_option maxRecDepth 100000 in
theorem k_digest_b (hok : cl_ok n f I P M H Y Z B NT SB) (hfr : cl_fr P Y B NT) {bc bs : Nat} {Q : ji_R → ji_H → Prop} {R : Int64} (kk : ∀ o, JW G (d + 6) mX7_digest 88 [some (.ref 0), some (.long R), none, some (.ref 5), some (.int (jI 5)), some (.int (jI 5)), o] [] (n, cl_f f I P M H Y Z) bc bs Q) : ∀ (u : Nat) (x : Int64) (k : Int) (o6 : Option Value), 0 ≤ k ∧ k + u = 5 → R = mxs (fun k => P.2.1 k.toNat) u k x →
    JW G (d + 6) mX7_digest 62 [some (.ref 0), some (.long x), none, some (.ref 5), some (.int (jI 5)), some (.int (jI k)), o6] [] (n, cl_f f I P M H Y Z) bc bs Q := by
  obtain ⟨c1, c2, c3, c4, c5, c6, c7, c8, c9, c10, c11, c12⟩ := id hok
  obtain ⟨⟨hm1, hm1'⟩, hm2, hm3, hmJ, hmF, hmT⟩ := id c8
  obtain ⟨hbat, hbok, hbne⟩ := id c6
  obtain ⟨bw, bkq, bfq, hb0, hb1, hb2, hbw, ⟨hbd, -, -⟩, -⟩ := id hbat
  obtain ⟨⟨hw1, hw2⟩, hh1, hh2⟩ := id c5
  obtain ⟨⟨hl1, hl2⟩, ⟨hp1, hp2⟩, hy1, hy2, hy3⟩ := id (cl_fr_b hok hfr)
  have hcx : ∀ {I' : in_T} {M' : mk_T} {H' : hi_T} {Y' Z' : ly_T}, ly_cx n (cl_f f I' P M' H' Y' Z') 40 Y.1 B P.2.1 := by rw [hy1]; exact cl_cx hok (by decide) rfl
  obtain ⟨hA0, hN, h3, h5, h7, h89⟩ := id c10.1
  have hl : 0 ≤ Y.2.2.2.1 ∧ Y.2.2.2.1 ≤ 240 := by omega
  have hp : 0 ≤ Y.2.2.2.2.1 ∧ Y.2.2.2.2.1 ≤ 240 := by omega
  intro u
  induction u with
  | zero =>
    intro x k o6 hk hR
    have e1 : k = 5 := by omega
    subst e1
    have e2 : R = x := hR
    subst e2
    refine ji_iload dX7_digest_62 rfl ?_
    refine ji_iload dX7_digest_64 rfl ?_
    refine ji_icmp_ge (tgt := 88) dX7_digest_66 rfl (by omega) (by omega) (fun c66 => ?_) (fun c66 => absurd c66 (by omega))
    exact kk _
  | succ u ih =>
    intro x k o6 hk hR
    refine ji_iload dX7_digest_62 rfl ?_
    refine ji_iload dX7_digest_64 rfl ?_
    refine ji_icmp_ge (tgt := 88) dX7_digest_66 rfl (by omega) (by omega) (fun c66 => absurd c66 (by omega)) (fun c66 => ?_)
    refine ji_aload_n dX7_digest_69 rfl trivial ?_
    refine ji_iload dX7_digest_70 rfl ?_
    refine ji_iaload dX7_digest_72 (cl_5h) (by omega) ?_
    refine ji_istore dX7_digest_73 (by decide) rfl ?_
    refine ji_lload_n dX7_digest_75 rfl ?_
    refine ji_iload dX7_digest_76 rfl ?_
    refine ji_cS dX7_digest_78 (k_mixed) rfl wX7_mixed sX7_mixed lX7_365 rfl (Nat.le_of_ble_eq_true rfl) rfl ?_
    refine ji_lstore_n dX7_digest_81 (by decide) rfl ?_
    refine ji_iinc dX7_digest_82 (by decide) rfl rfl ?_
    refine ji_goto (tgt := 62) dX7_digest_85 rfl ?_
    exact ih _ _ _ (by omega) hR

set_option maxHeartbeats 4000000 in
set_option maxRecDepth 100000 in
theorem k_digest_c (hok : cl_ok n f I P M H Y Z B NT SB) (hfr : cl_fr P Y B NT) {bc bs : Nat} {R : Int64} {o6 : Option Value} : ∀ (u : Nat) (x : Int64) (k : Int), 0 ≤ k ∧ k + u = 10 → R = mxs (in_sign I.1 I.2.1) I.1.toNat 0 (mx (mxs (fun k => nt_wd NT k.toNat) u k x) I.1) →
    JW G (d + 6) mX7_digest 114 [some (.ref 0), some (.long x), none, some (.int (jI k)), some (.int (jI 5)), some (.int (jI 5)), o6] [] (n, cl_f f I P M H Y Z) bc bs (fun r9 h9 => r9 = .inl (some (.long R)) ∧ h9 = (n, cl_f f I P M H Y Z)) := by
  obtain ⟨c1, c2, c3, c4, c5, c6, c7, c8, c9, c10, c11, c12⟩ := id hok
  obtain ⟨⟨hm1, hm1'⟩, hm2, hm3, hmJ, hmF, hmT⟩ := id c8
  obtain ⟨hbat, hbok, hbne⟩ := id c6
  obtain ⟨bw, bkq, bfq, hb0, hb1, hb2, hbw, ⟨hbd, -, -⟩, -⟩ := id hbat
  obtain ⟨⟨hw1, hw2⟩, hh1, hh2⟩ := id c5
  obtain ⟨⟨hl1, hl2⟩, ⟨hp1, hp2⟩, hy1, hy2, hy3⟩ := id (cl_fr_b hok hfr)
  have hcx : ∀ {I' : in_T} {M' : mk_T} {H' : hi_T} {Y' Z' : ly_T}, ly_cx n (cl_f f I' P M' H' Y' Z') 40 Y.1 B P.2.1 := by rw [hy1]; exact cl_cx hok (by decide) rfl
  obtain ⟨hA0, hN, h3, h5, h7, h89⟩ := id c10.1
  have hl : 0 ≤ Y.2.2.2.1 ∧ Y.2.2.2.1 ≤ 240 := by omega
  have hp : 0 ≤ Y.2.2.2.2.1 ∧ Y.2.2.2.2.1 ≤ 240 := by omega
  intro u
  induction u with
  | zero =>
    intro x k hk hR
    refine ji_iload_n dX7_digest_114 rfl ?_
    refine ji_bipush dX7_digest_115 rfl ?_
    refine ji_icmp_ge (tgt := 136) dX7_digest_117 rfl (by omega) (by omega) (fun c117 => ?_) (fun c117 => absurd c117 (by omega))
    refine ji_aload_n dX7_digest_136 rfl trivial ?_
    refine ji_lload_n dX7_digest_137 rfl ?_
    refine ji_cV dX7_digest_138 (k_mixedInput hok) rfl (cl_0h) rfl rfl wX7_mixedInput vX7_mixedInput lX7_382 rfl (Nat.le_of_ble_eq_true rfl) rfl ?_
    exact ji_lreturn dX7_digest_141 rfl ⟨by rw [hR]; rfl, rfl⟩
  | succ u ih =>
    intro x k hk hR
    refine ji_iload_n dX7_digest_114 rfl ?_
    refine ji_bipush dX7_digest_115 rfl ?_
    refine ji_icmp_ge (tgt := 136) dX7_digest_117 rfl (by omega) (by omega) (fun c117 => absurd c117 (by omega)) (fun c117 => ?_)
    refine ji_lload_n dX7_digest_120 rfl ?_
    refine ji_aload_n dX7_digest_121 rfl trivial ?_
    refine ji_iload_n dX7_digest_122 rfl ?_
    refine ji_cV dX7_digest_123 (k_wordsOfNote hok (by omega)) rfl (cl_0h) rfl rfl wX7_wordsOfNote vX7_wordsOfNote lX7_132 rfl (Nat.le_of_ble_eq_true rfl) rfl ?_
    refine ji_cS dX7_digest_126 (k_mixed) rfl wX7_mixed sX7_mixed lX7_365 rfl (Nat.le_of_ble_eq_true rfl) rfl ?_
    refine ji_lstore_n dX7_digest_129 (by decide) rfl ?_
    refine ji_iinc dX7_digest_130 (by decide) rfl rfl ?_
    refine ji_goto (tgt := 114) dX7_digest_133 rfl ?_
    exact ih _ _ (by omega) hR

def cl_dg (I : in_T) (B : bk_T) (P : pg_T) (M : mk_T) (Y : ly_T) (NT : nt_T) (e : Int) : Int64 :=
  mxs (in_sign I.1 I.2.1) I.1.toNat 0 (mx (mxs (fun k => nt_wd NT k.toNat) 10 0 (mx2 (cl_anp B M Y) 6 M.2.2.1.toNat 0 (mx2 (cl_pgp B P M Y) 7 Y.2.2.2.2.1.toNat 0 (mx2 (cl_lnp B Y) 6 Y.2.2.2.1.toNat 0 (mxp B Y (bk_P B) 0 (mxs (fun k => P.2.1 k.toNat) 5 0 (mx (mx (mxs (cl_cnt B M Y e) 12 0 1931) P.2.2.1) P.2.2.2.1))))))) I.1)
set_option maxHeartbeats 4000000 in
set_option maxRecDepth 100000 in
theorem k_digest_r (hok : cl_ok n f I P M H Y Z B NT SB) (hfr : cl_fr P Y B NT) (hr : 9 ≤ M.1 ∨ bk_PA B M.1 ≤ M.1) : JW G (d + 6) mX7_digest 4 [some (.ref 0), none, none, none, none, none, none] [] (n, cl_f f I P M H Y Z) 0 0 (fun r9 h9 => r9 = .inl (some (.long (cl_dg I B P M Y NT H.1))) ∧ h9 = (n, cl_f f I P M H Y Z)) := by
  obtain ⟨c1, c2, c3, c4, c5, c6, c7, c8, c9, c10, c11, c12⟩ := id hok
  obtain ⟨⟨hm1, hm1'⟩, hm2, hm3, hmJ, hmF, hmT⟩ := id c8
  obtain ⟨hbat, hbok, hbne⟩ := id c6
  obtain ⟨bw, bkq, bfq, hb0, hb1, hb2, hbw, ⟨hbd, -, -⟩, -⟩ := id hbat
  obtain ⟨⟨hw1, hw2⟩, hh1, hh2⟩ := id c5
  obtain ⟨⟨hl1, hl2⟩, ⟨hp1, hp2⟩, hy1, hy2, hy3⟩ := id (cl_fr_b hok hfr)
  have hcx : ∀ {I' : in_T} {M' : mk_T} {H' : hi_T} {Y' Z' : ly_T}, ly_cx n (cl_f f I' P M' H' Y' Z') 40 Y.1 B P.2.1 := by rw [hy1]; exact cl_cx hok (by decide) rfl
  obtain ⟨hA0, hN, h3, h5, h7, h89⟩ := id c10.1
  have hl : 0 ≤ Y.2.2.2.1 ∧ Y.2.2.2.1 ≤ 240 := by omega
  have hp : 0 ≤ Y.2.2.2.2.1 ∧ Y.2.2.2.2.1 ≤ 240 := by omega
  refine ji_ldc2 dX7_digest_4 lX7_363 ?_
  refine ji_lstore_n dX7_digest_7 (by decide) rfl ?_
  refine ji_iconst dX7_digest_8 ?_
  refine ji_istore_n dX7_digest_9 (by decide) rfl ?_
  refine k_digest_a hok hfr hr ?_ 12 _ 0 (by omega) rfl
  refine ji_lload_n dX7_digest_32 rfl ?_
  refine ji_aload_n dX7_digest_33 rfl trivial ?_
  refine ji_get (ci := 7) (k := 3) rfl dX7_digest_34 lX7_26 (by decide) (cl_0h) rfl ?_
  refine ji_cS dX7_digest_37 (k_mixed) rfl wX7_mixed sX7_mixed lX7_365 rfl (Nat.le_of_ble_eq_true rfl) rfl ?_
  refine ji_lstore_n dX7_digest_40 (by decide) rfl ?_
  refine ji_lload_n dX7_digest_41 rfl ?_
  refine ji_aload_n dX7_digest_42 rfl trivial ?_
  refine ji_get (ci := 7) (k := 4) rfl dX7_digest_43 lX7_30 (by decide) (cl_0h) rfl ?_
  refine ji_cS dX7_digest_46 (k_mixed) rfl wX7_mixed sX7_mixed lX7_365 rfl (Nat.le_of_ble_eq_true rfl) rfl ?_
  refine ji_lstore_n dX7_digest_49 (by decide) rfl ?_
  refine ji_aload_n dX7_digest_50 rfl trivial ?_
  refine ji_get (ci := 7) (k := 2) rfl dX7_digest_51 lX7_22 (by decide) (cl_0h) rfl ?_
  refine ji_astore_n dX7_digest_54 (by decide) trivial rfl ?_
  refine ji_aload_n dX7_digest_55 rfl trivial ?_
  refine ji_alen dX7_digest_56 (cl_5h) (fun cy => rfl) ?_
  refine ji_istore dX7_digest_57 (by decide) rfl ?_
  refine ji_iconst dX7_digest_59 ?_
  refine ji_istore dX7_digest_60 (by decide) rfl ?_
  refine k_digest_b hok hfr (fun o6 => ?_) 5 _ 0 _ (by omega) rfl
  refine ji_aload_n dX7_digest_88 rfl trivial ?_
  refine ji_lload_n dX7_digest_89 rfl ?_
  refine ji_cV dX7_digest_90 (k_mixedParagraphs hok hfr) rfl (cl_0h) rfl rfl wX7_mixedParagraphs vX7_mixedParagraphs lX7_369 rfl (Nat.le_of_ble_eq_true rfl) rfl ?_
  refine ji_lstore_n dX7_digest_93 (by decide) rfl ?_
  refine ji_aload_n dX7_digest_94 rfl trivial ?_
  refine ji_lload_n dX7_digest_95 rfl ?_
  refine ji_cV dX7_digest_96 (k_mixedLines hok hfr) rfl (cl_0h) rfl rfl wX7_mixedLines vX7_mixedLines lX7_373 rfl (Nat.le_of_ble_eq_true rfl) rfl ?_
  refine ji_lstore_n dX7_digest_99 (by decide) rfl ?_
  refine ji_aload_n dX7_digest_100 rfl trivial ?_
  refine ji_lload_n dX7_digest_101 rfl ?_
  refine ji_cV dX7_digest_102 (k_mixedPages hok hfr) rfl (cl_0h) rfl rfl wX7_mixedPages vX7_mixedPages lX7_376 rfl (Nat.le_of_ble_eq_true rfl) rfl ?_
  refine ji_lstore_n dX7_digest_105 (by decide) rfl ?_
  refine ji_aload_n dX7_digest_106 rfl trivial ?_
  refine ji_lload_n dX7_digest_107 rfl ?_
  refine ji_cV dX7_digest_108 (k_mixedAnnotations hok hfr) rfl (cl_0h) rfl rfl wX7_mixedAnnotations vX7_mixedAnnotations lX7_379 rfl (Nat.le_of_ble_eq_true rfl) rfl ?_
  refine ji_lstore_n dX7_digest_111 (by decide) rfl ?_
  refine ji_iconst dX7_digest_112 ?_
  refine ji_istore_n dX7_digest_113 (by decide) rfl ?_
  exact k_digest_c hok hfr 10 _ 0 (by omega) rfl

set_option maxHeartbeats 4000000 in
set_option maxRecDepth 100000 in
theorem k_digest (hok : cl_ok n f I P M H Y Z B NT SB) (hr : 9 ≤ M.1 ∨ bk_PA B M.1 ≤ M.1) : JR G (d + 6) mX7_digest [.ref 0] (n, cl_f f I P M H Y Z) 0 0 (some (.long (cl_dg I B (cl_RP P) M (cl_RY P Y B NT) NT H.1))) (n, cl_f f I (cl_RP P) M H (cl_RY P Y B NT) Z) := by
  obtain ⟨c1, c2, c3, c4, c5, c6, c7, c8, c9, c10, c11, c12⟩ := id hok
  obtain ⟨⟨hm1, hm1'⟩, hm2, hm3, hmJ, hmF, hmT⟩ := id c8
  obtain ⟨hbat, hbok, hbne⟩ := id c6
  obtain ⟨bw, bkq, bfq, hb0, hb1, hb2, hbw, ⟨hbd, -, -⟩, -⟩ := id hbat
  obtain ⟨⟨hw1, hw2⟩, hh1, hh2⟩ := id c5
  refine ji_ent (by decide) rfl (Nat.le_of_ble_eq_true rfl) rfl ?_
  refine ji_aload_n dX7_digest_0 rfl trivial ?_
  refine ji_cVv dX7_digest_1 (k_refresh hok) rfl (cl_0h) rfl rfl wX7_refresh vX7_refresh lX7_146 rfl (Nat.le_of_ble_eq_true rfl) rfl ?_
  exact k_digest_r (cl_fr_ok hok).2 (cl_fr_ok hok).1 hr

set_option maxHeartbeats 4000000 in
set_option maxRecDepth 100000 in
theorem x_ifSize1 (hok : cl_ok n f I P M H Y Z B NT SB) {v m o : Int} (b_v : -2147483648 ≤ v ∧ v < 2147483648) (b_m : -2147483648 ≤ m ∧ m < 2147483648) (hx : ¬ ((18 ≤ v ∧ v ≤ 60) ∧ 2 ≤ m ∧ m ≤ 20)) : JX G (d + 7) mX7_ifSize [.ref 0, .int (jI (v)), .int (jI (m)), .int (jI (o))] (n, cl_f f I P M H Y Z) 1 6 eA (n, cl_f f I P M H Y Z) := by
  obtain ⟨c1, c2, c3, c4, c5, c6, c7, c8, c9, c10, c11, c12⟩ := id hok
  obtain ⟨⟨hm1, hm1'⟩, hm2, hm3, hmJ, hmF, hmT⟩ := id c8
  obtain ⟨hbat, hbok, hbne⟩ := id c6
  obtain ⟨bw, bkq, bfq, hb0, hb1, hb2, hbw, ⟨hbd, -, -⟩, -⟩ := id hbat
  obtain ⟨⟨hw1, hw2⟩, hh1, hh2⟩ := id c5
  refine ji_ent (by decide) rfl (Nat.le_of_ble_eq_true rfl) rfl ?_
  refine ji_iload_n dX7_ifSize_0 rfl ?_
  refine ji_iload_n dX7_ifSize_1 rfl ?_
  exact ji_cSx dX7_ifSize_2 (x_checkSize b_v b_m hx) rfl wX7_checkSize sX7_checkSize lX7_142 rfl (Nat.le_of_ble_eq_true rfl) rfl (by omega) (by omega)

set_option maxHeartbeats 4000000 in
set_option maxRecDepth 100000 in
theorem x_ifSize2 (hok : cl_ok n f I P M H Y Z B NT SB) {v m o : Int} (b_v : -2147483648 ≤ v ∧ v < 2147483648) (b_m : -2147483648 ≤ m ∧ m < 2147483648) (b_o : -2147483648 ≤ o ∧ o < 2147483648) (hx : (18 ≤ v ∧ v ≤ 60) ∧ 2 ≤ m ∧ m ≤ 20) (hy : o < 0 ∨ 3 ≤ o) : JX G (d + 7) mX7_ifSize [.ref 0, .int (jI (v)), .int (jI (m)), .int (jI (o))] (n, cl_f f I P M H Y Z) 1 6 eA (n, cl_f f I P M H Y Z) := by
  obtain ⟨c1, c2, c3, c4, c5, c6, c7, c8, c9, c10, c11, c12⟩ := id hok
  obtain ⟨⟨hm1, hm1'⟩, hm2, hm3, hmJ, hmF, hmT⟩ := id c8
  obtain ⟨hbat, hbok, hbne⟩ := id c6
  obtain ⟨bw, bkq, bfq, hb0, hb1, hb2, hbw, ⟨hbd, -, -⟩, -⟩ := id hbat
  obtain ⟨⟨hw1, hw2⟩, hh1, hh2⟩ := id c5
  refine ji_ent (by decide) rfl (Nat.le_of_ble_eq_true rfl) rfl ?_
  refine ji_iload_n dX7_ifSize_0 rfl ?_
  refine ji_iload_n dX7_ifSize_1 rfl ?_
  refine ji_cSv dX7_ifSize_2 (k_checkSize b_v b_m hx) rfl wX7_checkSize sX7_checkSize lX7_142 rfl (Nat.le_of_ble_eq_true rfl) rfl ?_
  refine ji_iload_n dX7_ifSize_5 rfl ?_
  refine ji_iconst dX7_ifSize_6 ?_
  exact ji_cSx dX7_ifSize_7 (x_checkWhat b_o (by omega) hy) rfl wX7_checkWhat sX7_checkWhat lX7_162 rfl (Nat.le_of_ble_eq_true rfl) rfl (by omega) (by omega)

def cl_if (B : bk_T) (M : mk_T) (Z : ly_T) (o : Int) : Int := if o = 0 then Z.2.2.2.1 else if o = 1 then Z.2.2.2.2.1 else cl_at B Z M.1
set_option maxHeartbeats 4000000 in
set_option maxRecDepth 100000 in
theorem k_ifSize0 (hok : cl_ok n f I P M H Y Z B NT SB) {v m : Int} (b_v : -2147483648 ≤ v ∧ v < 2147483648) (b_m : -2147483648 ≤ m ∧ m < 2147483648) (hx : (18 ≤ v ∧ v ≤ 60) ∧ 2 ≤ m ∧ m ≤ 20) : JR G (d + 5) mX7_ifSize [.ref 0, .int (jI (v)), .int (jI (m)), .int (jI (0))] (n, cl_f f I P M H Y Z) 0 0 (some (.int (jI ((ly_Y P.2.2.2.2.1 B v m P.2.1 NT Z.2.2.2.2.2).2.2.2.1)))) (n, cl_f f I P M H Y (ly_Y P.2.2.2.2.1 B v m P.2.1 NT Z.2.2.2.2.2)) := by
  obtain ⟨c1, c2, c3, c4, c5, c6, c7, c8, c9, c10, c11, c12⟩ := id hok
  obtain ⟨⟨hm1, hm1'⟩, hm2, hm3, hmJ, hmF, hmT⟩ := id c8
  obtain ⟨hbat, hbok, hbne⟩ := id c6
  obtain ⟨bw, bkq, bfq, hb0, hb1, hb2, hbw, ⟨hbd, -, -⟩, -⟩ := id hbat
  obtain ⟨⟨hw1, hw2⟩, hh1, hh2⟩ := id c5
  have hzi := ly_iv_A4 (w := v) (h := m) (NT := NT) hbok c4 c3.2 c11.1
  have hzl := (ly_iv_R (w := v) (NT := NT) hbok c4 c3.2 c11.1).2
  have hz1 : 1 ≤ ly_ln B v P.2.1 NT Z.2.2.2.2.2 := hbne _ _ _ _
  refine ji_ent (by decide) rfl (Nat.le_of_ble_eq_true rfl) rfl ?_
  refine ji_iload_n dX7_ifSize_0 rfl ?_
  refine ji_iload_n dX7_ifSize_1 rfl ?_
  refine ji_cSv dX7_ifSize_2 (k_checkSize b_v b_m hx) rfl wX7_checkSize sX7_checkSize lX7_142 rfl (Nat.le_of_ble_eq_true rfl) rfl ?_
  refine ji_iload_n dX7_ifSize_5 rfl ?_
  refine ji_iconst dX7_ifSize_6 ?_
  refine ji_cSv dX7_ifSize_7 (k_checkWhat (by omega) (by omega) (by omega)) rfl wX7_checkWhat sX7_checkWhat lX7_162 rfl (Nat.le_of_ble_eq_true rfl) rfl ?_
  refine ji_aload_n dX7_ifSize_10 rfl trivial ?_
  refine ji_get (ci := 7) (k := 9) rfl dX7_ifSize_11 lX7_68 (by decide) (cl_0h) rfl ?_
  refine ji_aload_n dX7_ifSize_14 rfl trivial ?_
  refine ji_get (ci := 7) (k := 5) rfl dX7_ifSize_15 lX7_41 (by decide) (cl_0h) rfl ?_
  refine ji_iload_n dX7_ifSize_18 rfl ?_
  refine ji_iload_n dX7_ifSize_19 rfl ?_
  refine ji_cVv dX7_ifSize_20 (cl_jZ (ly_Y P.2.2.2.2.1 B v m P.2.1 NT Z.2.2.2.2.2) (k_Layout_lay (cl_cx hok (by decide) rfl) c11.1 c11.2 (cl_nat hok) c3.2 (show 0 ≤ v ∧ v ≤ 1000 by omega) (show 0 ≤ m ∧ m ≤ 1000 by omega))) rfl (cl_50h) rfl rfl wX3_lay vX3_lay lX7_345 rfl (Nat.le_of_ble_eq_true rfl) rfl ?_
  refine ji_iload_n dX7_ifSize_23 rfl ?_
  refine ji_lsw (tgt := 52) dX7_ifSize_24 (by decide) (by omega) rfl rfl ?_
  refine ji_aload_n dX7_ifSize_52 rfl trivial ?_
  refine ji_get (ci := 7) (k := 9) rfl dX7_ifSize_53 lX7_68 (by decide) (cl_0h) rfl ?_
  refine ji_cV dX7_ifSize_56 (cl_jZ (ly_Y P.2.2.2.2.1 B v m P.2.1 NT Z.2.2.2.2.2) (k_Layout_lines (cl_cx hok (by decide) rfl) hzi.1 hzl)) rfl (cl_50h) rfl rfl wX3_lines vX3_lines lX7_349 rfl (Nat.le_of_ble_eq_true rfl) rfl ?_
  exact ji_ireturn dX7_ifSize_59 rfl (rfl) ⟨rfl, rfl⟩

set_option maxHeartbeats 4000000 in
set_option maxRecDepth 100000 in
theorem k_ifSize1 (hok : cl_ok n f I P M H Y Z B NT SB) {v m : Int} (b_v : -2147483648 ≤ v ∧ v < 2147483648) (b_m : -2147483648 ≤ m ∧ m < 2147483648) (hx : (18 ≤ v ∧ v ≤ 60) ∧ 2 ≤ m ∧ m ≤ 20) : JR G (d + 5) mX7_ifSize [.ref 0, .int (jI (v)), .int (jI (m)), .int (jI (1))] (n, cl_f f I P M H Y Z) 0 0 (some (.int (jI ((ly_Y P.2.2.2.2.1 B v m P.2.1 NT Z.2.2.2.2.2).2.2.2.2.1)))) (n, cl_f f I P M H Y (ly_Y P.2.2.2.2.1 B v m P.2.1 NT Z.2.2.2.2.2)) := by
  obtain ⟨c1, c2, c3, c4, c5, c6, c7, c8, c9, c10, c11, c12⟩ := id hok
  obtain ⟨⟨hm1, hm1'⟩, hm2, hm3, hmJ, hmF, hmT⟩ := id c8
  obtain ⟨hbat, hbok, hbne⟩ := id c6
  obtain ⟨bw, bkq, bfq, hb0, hb1, hb2, hbw, ⟨hbd, -, -⟩, -⟩ := id hbat
  obtain ⟨⟨hw1, hw2⟩, hh1, hh2⟩ := id c5
  have hzi := ly_iv_A4 (w := v) (h := m) (NT := NT) hbok c4 c3.2 c11.1
  have hzl := (ly_iv_R (w := v) (NT := NT) hbok c4 c3.2 c11.1).2
  have hz1 : 1 ≤ ly_ln B v P.2.1 NT Z.2.2.2.2.2 := hbne _ _ _ _
  refine ji_ent (by decide) rfl (Nat.le_of_ble_eq_true rfl) rfl ?_
  refine ji_iload_n dX7_ifSize_0 rfl ?_
  refine ji_iload_n dX7_ifSize_1 rfl ?_
  refine ji_cSv dX7_ifSize_2 (k_checkSize b_v b_m hx) rfl wX7_checkSize sX7_checkSize lX7_142 rfl (Nat.le_of_ble_eq_true rfl) rfl ?_
  refine ji_iload_n dX7_ifSize_5 rfl ?_
  refine ji_iconst dX7_ifSize_6 ?_
  refine ji_cSv dX7_ifSize_7 (k_checkWhat (by omega) (by omega) (by omega)) rfl wX7_checkWhat sX7_checkWhat lX7_162 rfl (Nat.le_of_ble_eq_true rfl) rfl ?_
  refine ji_aload_n dX7_ifSize_10 rfl trivial ?_
  refine ji_get (ci := 7) (k := 9) rfl dX7_ifSize_11 lX7_68 (by decide) (cl_0h) rfl ?_
  refine ji_aload_n dX7_ifSize_14 rfl trivial ?_
  refine ji_get (ci := 7) (k := 5) rfl dX7_ifSize_15 lX7_41 (by decide) (cl_0h) rfl ?_
  refine ji_iload_n dX7_ifSize_18 rfl ?_
  refine ji_iload_n dX7_ifSize_19 rfl ?_
  refine ji_cVv dX7_ifSize_20 (cl_jZ (ly_Y P.2.2.2.2.1 B v m P.2.1 NT Z.2.2.2.2.2) (k_Layout_lay (cl_cx hok (by decide) rfl) c11.1 c11.2 (cl_nat hok) c3.2 (show 0 ≤ v ∧ v ≤ 1000 by omega) (show 0 ≤ m ∧ m ≤ 1000 by omega))) rfl (cl_50h) rfl rfl wX3_lay vX3_lay lX7_345 rfl (Nat.le_of_ble_eq_true rfl) rfl ?_
  refine ji_iload_n dX7_ifSize_23 rfl ?_
  refine ji_lsw (tgt := 60) dX7_ifSize_24 (by decide) (by omega) rfl rfl ?_
  refine ji_aload_n dX7_ifSize_60 rfl trivial ?_
  refine ji_get (ci := 7) (k := 9) rfl dX7_ifSize_61 lX7_68 (by decide) (cl_0h) rfl ?_
  refine ji_cV dX7_ifSize_64 (cl_jZ (ly_Y P.2.2.2.2.1 B v m P.2.1 NT Z.2.2.2.2.2) (k_Layout_pages (cl_cx hok (by decide) rfl) hzi.1 hzl)) rfl (cl_50h) rfl rfl wX3_pages vX3_pages lX7_149 rfl (Nat.le_of_ble_eq_true rfl) rfl ?_
  exact ji_ireturn dX7_ifSize_67 rfl (rfl) ⟨rfl, rfl⟩

set_option maxHeartbeats 4000000 in
set_option maxRecDepth 100000 in
theorem k_ifSize2 (hok : cl_ok n f I P M H Y Z B NT SB) {v m : Int} (b_v : -2147483648 ≤ v ∧ v < 2147483648) (b_m : -2147483648 ≤ m ∧ m < 2147483648) (hx : (18 ≤ v ∧ v ≤ 60) ∧ 2 ≤ m ∧ m ≤ 20) : JR G (d + 5) mX7_ifSize [.ref 0, .int (jI (v)), .int (jI (m)), .int (jI (2))] (n, cl_f f I P M H Y Z) 0 0 (some (.int (jI (cl_at B (ly_Y P.2.2.2.2.1 B v m P.2.1 NT Z.2.2.2.2.2) M.1)))) (n, cl_f f I P M H Y (ly_Y P.2.2.2.2.1 B v m P.2.1 NT Z.2.2.2.2.2)) := by
  obtain ⟨c1, c2, c3, c4, c5, c6, c7, c8, c9, c10, c11, c12⟩ := id hok
  obtain ⟨⟨hm1, hm1'⟩, hm2, hm3, hmJ, hmF, hmT⟩ := id c8
  obtain ⟨hbat, hbok, hbne⟩ := id c6
  obtain ⟨bw, bkq, bfq, hb0, hb1, hb2, hbw, ⟨hbd, -, -⟩, -⟩ := id hbat
  obtain ⟨⟨hw1, hw2⟩, hh1, hh2⟩ := id c5
  have hzi := ly_iv_A4 (w := v) (h := m) (NT := NT) hbok c4 c3.2 c11.1
  have hzl := (ly_iv_R (w := v) (NT := NT) hbok c4 c3.2 c11.1).2
  have hz1 : 1 ≤ ly_ln B v P.2.1 NT Z.2.2.2.2.2 := hbne _ _ _ _
  refine ji_ent (by decide) rfl (Nat.le_of_ble_eq_true rfl) rfl ?_
  refine ji_iload_n dX7_ifSize_0 rfl ?_
  refine ji_iload_n dX7_ifSize_1 rfl ?_
  refine ji_cSv dX7_ifSize_2 (k_checkSize b_v b_m hx) rfl wX7_checkSize sX7_checkSize lX7_142 rfl (Nat.le_of_ble_eq_true rfl) rfl ?_
  refine ji_iload_n dX7_ifSize_5 rfl ?_
  refine ji_iconst dX7_ifSize_6 ?_
  refine ji_cSv dX7_ifSize_7 (k_checkWhat (by omega) (by omega) (by omega)) rfl wX7_checkWhat sX7_checkWhat lX7_162 rfl (Nat.le_of_ble_eq_true rfl) rfl ?_
  refine ji_aload_n dX7_ifSize_10 rfl trivial ?_
  refine ji_get (ci := 7) (k := 9) rfl dX7_ifSize_11 lX7_68 (by decide) (cl_0h) rfl ?_
  refine ji_aload_n dX7_ifSize_14 rfl trivial ?_
  refine ji_get (ci := 7) (k := 5) rfl dX7_ifSize_15 lX7_41 (by decide) (cl_0h) rfl ?_
  refine ji_iload_n dX7_ifSize_18 rfl ?_
  refine ji_iload_n dX7_ifSize_19 rfl ?_
  refine ji_cVv dX7_ifSize_20 (cl_jZ (ly_Y P.2.2.2.2.1 B v m P.2.1 NT Z.2.2.2.2.2) (k_Layout_lay (cl_cx hok (by decide) rfl) c11.1 c11.2 (cl_nat hok) c3.2 (show 0 ≤ v ∧ v ≤ 1000 by omega) (show 0 ≤ m ∧ m ≤ 1000 by omega))) rfl (cl_50h) rfl rfl wX3_lay vX3_lay lX7_345 rfl (Nat.le_of_ble_eq_true rfl) rfl ?_
  refine ji_iload_n dX7_ifSize_23 rfl ?_
  refine ji_lsw (tgt := 68) dX7_ifSize_24 (by decide) (by omega) rfl rfl ?_
  refine ji_aload_n dX7_ifSize_68 rfl trivial ?_
  refine ji_get (ci := 7) (k := 9) rfl dX7_ifSize_69 lX7_68 (by decide) (cl_0h) rfl ?_
  refine ji_aload_n dX7_ifSize_72 rfl trivial ?_
  refine ji_get (ci := 7) (k := 6) rfl dX7_ifSize_73 lX7_48 (by decide) (cl_0h) rfl ?_
  refine ji_cV dX7_ifSize_76 (cl_jMs k_Marks_reader) rfl (cl_12h) rfl rfl wX4_reader vX4_reader lX7_352 rfl (Nat.le_of_ble_eq_true rfl) rfl ?_
  refine ji_cV dX7_ifSize_79 (cl_jZ (ly_Y P.2.2.2.2.1 B v m P.2.1 NT Z.2.2.2.2.2) (k_Layout_pageAt (cl_cx hok (by decide) rfl) hzi.1 hzl (by omega) hz1)) rfl (cl_50h) rfl rfl wX3_pageAt vX3_pageAt lX7_195 rfl (Nat.le_of_ble_eq_true rfl) rfl ?_
  exact ji_ireturn dX7_ifSize_82 rfl (rfl) ⟨rfl, rfl⟩

theorem k_ifSize (hok : cl_ok n f I P M H Y Z B NT SB) {v m o : Int} (b_v : -2147483648 ≤ v ∧ v < 2147483648) (b_m : -2147483648 ≤ m ∧ m < 2147483648) (hx : (18 ≤ v ∧ v ≤ 60) ∧ 2 ≤ m ∧ m ≤ 20) (hy : 0 ≤ o ∧ o < 3) : JR G (d + 5) mX7_ifSize [.ref 0, .int (jI v), .int (jI m), .int (jI o)] (n, cl_f f I P M H Y Z) 0 0 (some (.int (jI (cl_if B M (ly_Y P.2.2.2.2.1 B v m P.2.1 NT Z.2.2.2.2.2) o)))) (n, cl_f f I P M H Y (ly_Y P.2.2.2.2.1 B v m P.2.1 NT Z.2.2.2.2.2)) := by
  rcases (show o = 0 ∨ o = 1 ∨ o = 2 by omega) with rfl | rfl | rfl
  · exact k_ifSize0 hok b_v b_m hx
  · exact k_ifSize1 hok b_v b_m hx
  · exact k_ifSize2 hok b_v b_m hx
theorem cl_okZ (hok : cl_ok n f I P M H Y Z B NT SB) (v m : Int) : cl_ok n f I P M H Y (ly_Y P.2.2.2.2.1 B v m P.2.1 NT Z.2.2.2.2.2) B NT SB := by
  obtain ⟨c1, c2, c3, c4, c5, c6, c7, c8, c9, c10, c11, c12⟩ := hok
  exact ⟨c1, c2, c3, c4, c5, c6, c7, c8, c9, c10, ⟨ly_iv_A4 c6.2.1 c4 c3.2 c11.1, (ly_iv_R c6.2.1 c4 c3.2 c11.1).2⟩, c12⟩
/-- the first width with few pages -/
def cl_ft (B : bk_T) (P : pg_T) (NT : nt_T) (q : Int) : Nat → Int → ly_T → Int × ly_T
  | 0, _, Z => (-1, Z)
  | u + 1, w, Z => if (ly_Y P.2.2.2.2.1 B w P.2.2.2.1 P.2.1 NT Z.2.2.2.2.2).2.2.2.2.1 ≤ q then (w, ly_Y P.2.2.2.2.1 B w P.2.2.2.1 P.2.1 NT Z.2.2.2.2.2) else cl_ft B P NT q u (w + 1) (ly_Y P.2.2.2.2.1 B w P.2.2.2.1 P.2.1 NT Z.2.2.2.2.2)
theorem cl_okF (q : Int) : ∀ (u : Nat) (w : Int) (Z : ly_T), cl_ok n f I P M H Y Z B NT SB → cl_ok n f I P M H Y (cl_ft B P NT q u w Z).2 B NT SB
  | 0, w, Z, h => h
  | u + 1, w, Z, h => by
    unfold cl_ft
    split
    · exact cl_okZ h _ _
    · exact cl_okF q u _ _ (cl_okZ h _ _)
set_option maxHeartbeats 4000000 in
set_option maxRecDepth 100000 in
theorem x_fit (hok : cl_ok n f I P M H Y Z B NT SB) {v : Int} (b_v : -2147483648 ≤ v ∧ v < 2147483648) (hx : v < 1) : JX G (d + 7) mX7_fit [.ref 0, .int (jI (v))] (n, cl_f f I P M H Y Z) 1 6 eA (n, cl_f f I P M H Y Z) := by
  obtain ⟨c1, c2, c3, c4, c5, c6, c7, c8, c9, c10, c11, c12⟩ := id hok
  obtain ⟨⟨hm1, hm1'⟩, hm2, hm3, hmJ, hmF, hmT⟩ := id c8
  obtain ⟨hbat, hbok, hbne⟩ := id c6
  obtain ⟨bw, bkq, bfq, hb0, hb1, hb2, hbw, ⟨hbd, -, -⟩, -⟩ := id hbat
  obtain ⟨⟨hw1, hw2⟩, hh1, hh2⟩ := id c5
  refine ji_ent (by decide) rfl (Nat.le_of_ble_eq_true rfl) rfl ?_
  refine ji_iload_n dX7_fit_0 rfl ?_
  refine ji_iconst dX7_fit_1 ?_
  refine ji_icmp_ge (tgt := 16) dX7_fit_2 rfl (by omega) (by omega) (fun c2 => ?_) (fun c2 => ?_)
  · try (exfalso; omega)
    all_goals
      exfalso; omega
  · try (exfalso; omega)
    all_goals
      exact ji_throwW (text := "pages is less than 1") ji_thrA rfl (by decide) rfl dX7_fit_5 dX7_fit_8 dX7_fit_9 dX7_fit_12 dX7_fit_15 (by omega) (by omega) (Nat.le_of_ble_eq_true rfl) ⟨rfl, rfl⟩

set_option maxHeartbeats 4000000 in
set_option maxRecDepth 100000 in
theorem k_fit_l {bc bs : Nat} {v : Int} {R : Int × ly_T} (b_v : -2147483648 ≤ v ∧ v < 2147483648) : ∀ (u : Nat) (w : Int) (Z : ly_T) (hok : cl_ok n f I P M H Y Z B NT SB), 18 ≤ w ∧ w + u = 61 → R = cl_ft B P NT v u w Z →
    JW G (d + 5) mX7_fit 19 [some (.ref 0), some (.int (jI v)), some (.int (jI w))] [] (n, cl_f f I P M H Y Z) bc bs (fun r9 h9 => r9 = .inl (some (.int (jI R.1))) ∧ h9 = (n, cl_f f I P M H Y R.2)) := by
  intro u
  induction u with
  | zero =>
    intro w Z hok hw hR
    obtain ⟨c1, c2, c3, c4, c5, c6, c7, c8, c9, c10, c11, c12⟩ := id hok
    obtain ⟨⟨hm1, hm1'⟩, hm2, hm3, hmJ, hmF, hmT⟩ := id c8
    obtain ⟨hbat, hbok, hbne⟩ := id c6
    obtain ⟨bw, bkq, bfq, hb0, hb1, hb2, hbw, ⟨hbd, -, -⟩, -⟩ := id hbat
    obtain ⟨⟨hw1, hw2⟩, hh1, hh2⟩ := id c5
    refine ji_iload_n dX7_fit_19 rfl ?_
    refine ji_bipush dX7_fit_20 rfl ?_
    refine ji_icmp_gt (tgt := 60) dX7_fit_22 rfl (by omega) (by omega) (fun c22 => ?_) (fun c22 => absurd c22 (by omega))
    refine ji_iconst dX7_fit_60 ?_
    exact ji_ireturn dX7_fit_61 rfl (rfl) ⟨by rw [hR]; rfl, by rw [hR]; rfl⟩
  | succ u ih =>
    intro w Z hok hw hR
    obtain ⟨c1, c2, c3, c4, c5, c6, c7, c8, c9, c10, c11, c12⟩ := id hok
    obtain ⟨⟨hm1, hm1'⟩, hm2, hm3, hmJ, hmF, hmT⟩ := id c8
    obtain ⟨hbat, hbok, hbne⟩ := id c6
    obtain ⟨bw, bkq, bfq, hb0, hb1, hb2, hbw, ⟨hbd, -, -⟩, -⟩ := id hbat
    obtain ⟨⟨hw1, hw2⟩, hh1, hh2⟩ := id c5
    have hzi := ly_iv_A4 (w := w) (h := P.2.2.2.1) (NT := NT) hbok c4 c3.2 c11.1
    have hzl := (ly_iv_R (w := w) (NT := NT) hbok c4 c3.2 c11.1).2
    have hzq : ly_ln B w P.2.1 NT Z.2.2.2.2.2 = (ly_R B w P.2.1 NT Z.2.2.2.2.2).1 := rfl
    have hzp := ly_pg_b (w := w) (h := P.2.2.2.1) hbok c4 c3.2 c11.1
    refine ji_iload_n dX7_fit_19 rfl ?_
    refine ji_bipush dX7_fit_20 rfl ?_
    refine ji_icmp_gt (tgt := 60) dX7_fit_22 rfl (by first | omega | (show -2147483648 ≤ ly_pg B w P.2.2.2.1 P.2.1 NT Z.2.2.2.2.2 ∧ ly_pg B w P.2.2.2.1 P.2.1 NT Z.2.2.2.2.2 < 2147483648; omega)) (by first | omega | (show -2147483648 ≤ ly_pg B w P.2.2.2.1 P.2.1 NT Z.2.2.2.2.2 ∧ ly_pg B w P.2.2.2.1 P.2.1 NT Z.2.2.2.2.2 < 2147483648; omega)) (fun c22 => absurd c22 (by omega)) (fun c22 => ?_)
    refine ji_aload_n dX7_fit_25 rfl trivial ?_
    refine ji_get (ci := 7) (k := 9) rfl dX7_fit_26 lX7_68 (by decide) (cl_0h) rfl ?_
    refine ji_aload_n dX7_fit_29 rfl trivial ?_
    refine ji_get (ci := 7) (k := 5) rfl dX7_fit_30 lX7_41 (by decide) (cl_0h) rfl ?_
    refine ji_iload_n dX7_fit_33 rfl ?_
    refine ji_aload_n dX7_fit_34 rfl trivial ?_
    refine ji_get (ci := 7) (k := 4) rfl dX7_fit_35 lX7_30 (by decide) (cl_0h) rfl ?_
    refine ji_cVv dX7_fit_38 (cl_jZ (ly_Y P.2.2.2.2.1 B w P.2.2.2.1 P.2.1 NT Z.2.2.2.2.2) (k_Layout_lay (cl_cx hok (by decide) rfl) c11.1 c11.2 (cl_nat hok) c3.2 (show 0 ≤ w ∧ w ≤ 1000 by omega) (show 0 ≤ P.2.2.2.1 ∧ P.2.2.2.1 ≤ 1000 by omega))) rfl (cl_50h) rfl rfl wX3_lay vX3_lay lX7_345 rfl (Nat.le_of_ble_eq_true rfl) rfl ?_
    refine ji_aload_n dX7_fit_41 rfl trivial ?_
    refine ji_get (ci := 7) (k := 9) rfl dX7_fit_42 lX7_68 (by decide) (cl_0h) rfl ?_
    refine ji_cV dX7_fit_45 (cl_jZ (ly_Y P.2.2.2.2.1 B w P.2.2.2.1 P.2.1 NT Z.2.2.2.2.2) (k_Layout_pages (cl_cx hok (by decide) rfl) hzi.1 hzl)) rfl (cl_50h) rfl rfl wX3_pages vX3_pages lX7_149 rfl (Nat.le_of_ble_eq_true rfl) rfl ?_
    refine ji_iload_n dX7_fit_48 rfl ?_
    have c49p := hzp
    refine ji_icmp_gt (tgt := 54) dX7_fit_49 rfl (by first | omega | (show -2147483648 ≤ ly_pg B w P.2.2.2.1 P.2.1 NT Z.2.2.2.2.2 ∧ ly_pg B w P.2.2.2.1 P.2.1 NT Z.2.2.2.2.2 < 2147483648; omega)) (by first | omega | (show -2147483648 ≤ ly_pg B w P.2.2.2.1 P.2.1 NT Z.2.2.2.2.2 ∧ ly_pg B w P.2.2.2.1 P.2.1 NT Z.2.2.2.2.2 < 2147483648; omega)) (fun c49 => ?_) (fun c49 => ?_)
    · try (exfalso; omega)
      all_goals
        refine ji_iinc dX7_fit_54 (by decide) rfl rfl ?_
        refine ji_goto (tgt := 19) dX7_fit_57 rfl ?_
        exact ih _ _ (cl_okZ hok _ _) (by omega) (by rw [hR, cl_ft, if_neg (Int.not_le.mpr c49)])
    · try (exfalso; omega)
      all_goals
        refine ji_iload_n dX7_fit_52 rfl ?_
        exact ji_ireturn dX7_fit_53 rfl (rfl) ⟨by rw [hR, cl_ft, if_pos (Int.not_lt.mp c49)], by rw [hR, cl_ft, if_pos (Int.not_lt.mp c49)]⟩

set_option maxHeartbeats 4000000 in
set_option maxRecDepth 100000 in
theorem k_fit (hok : cl_ok n f I P M H Y Z B NT SB) {v : Int} (b_v : -2147483648 ≤ v ∧ v < 2147483648) (hx : 1 ≤ v) : JR G (d + 5) mX7_fit [.ref 0, .int (jI (v))] (n, cl_f f I P M H Y Z) 0 0 (some (.int (jI ((cl_ft B P NT v 43 18 Z).1)))) (n, cl_f f I P M H Y (cl_ft B P NT v 43 18 Z).2) := by
  obtain ⟨c1, c2, c3, c4, c5, c6, c7, c8, c9, c10, c11, c12⟩ := id hok
  obtain ⟨⟨hm1, hm1'⟩, hm2, hm3, hmJ, hmF, hmT⟩ := id c8
  obtain ⟨hbat, hbok, hbne⟩ := id c6
  obtain ⟨bw, bkq, bfq, hb0, hb1, hb2, hbw, ⟨hbd, -, -⟩, -⟩ := id hbat
  obtain ⟨⟨hw1, hw2⟩, hh1, hh2⟩ := id c5
  refine ji_ent (by decide) rfl (Nat.le_of_ble_eq_true rfl) rfl ?_
  refine ji_iload_n dX7_fit_0 rfl ?_
  refine ji_iconst dX7_fit_1 ?_
  refine ji_icmp_ge (tgt := 16) dX7_fit_2 rfl (by omega) (by omega) (fun c2 => ?_) (fun c2 => ?_)
  · try (exfalso; omega)
    all_goals
      refine ji_bipush dX7_fit_16 rfl ?_
      refine ji_istore_n dX7_fit_18 (by decide) rfl ?_
      exact k_fit_l b_v 43 18 Z hok (by omega) rfl
  · try (exfalso; omega)
    all_goals
      exfalso; omega

def cl_fs (P : pg_T) (Y : ly_T) : Nat → Int
  | 0 => 0
  | k + 1 => cl_fs P Y k + (cl_rw Y (cl_fl Y k) (cl_fl Y (k + 1)) + cl_rn P Y (cl_np Y k))
def cl_fd (P : pg_T) (Y : ly_T) : UInt64 := if 0 < (Y.2.2.2.2.1 - 1) * P.2.2.2.1 then FP.ddiv (FP.i2d (jI (cl_fs P Y (Y.2.2.2.2.1 - 1).toNat))) (FP.i2d (jI ((Y.2.2.2.2.1 - 1) * P.2.2.2.1))) else FP.dconst0
set_option maxHeartbeats 4000000 in
set_option maxRecDepth 100000 in
theorem k_fullness_l (hok : cl_ok n f I P M H Y Z B NT SB) (hfr : cl_fr P Y B NT) {bc bs : Nat} {Q : ji_R → ji_H → Prop} (kk : ∀ k, JW G (d + 6) mX7_fullness 49 [some (.ref 0), some (.int (jI (Y.2.2.2.2.1 - 1))), some (.int (jI (cl_fs P Y (Y.2.2.2.2.1 - 1).toNat))), some (.int (jI k))] [] (n, cl_f f I P M H Y Z) bc bs Q) : ∀ (u : Nat) (x k : Int), 0 ≤ k → u = (Y.2.2.2.2.1 - 1 - k).toNat → (k ≤ 0 ∨ k ≤ Y.2.2.2.2.1 - 1) → x = cl_fs P Y k.toNat →
    JW G (d + 6) mX7_fullness 18 [some (.ref 0), some (.int (jI (Y.2.2.2.2.1 - 1))), some (.int (jI x)), some (.int (jI k))] [] (n, cl_f f I P M H Y Z) bc bs Q := by
  obtain ⟨c1, c2, c3, c4, c5, c6, c7, c8, c9, c10, c11, c12⟩ := id hok
  obtain ⟨⟨hm1, hm1'⟩, hm2, hm3, hmJ, hmF, hmT⟩ := id c8
  obtain ⟨hbat, hbok, hbne⟩ := id c6
  obtain ⟨bw, bkq, bfq, hb0, hb1, hb2, hbw, ⟨hbd, -, -⟩, -⟩ := id hbat
  obtain ⟨⟨hw1, hw2⟩, hh1, hh2⟩ := id c5
  obtain ⟨⟨hl1, hl2⟩, ⟨hp1, hp2⟩, hy1, hy2, hy3⟩ := id (cl_fr_b hok hfr)
  have hcx : ∀ {I' : in_T} {M' : mk_T} {H' : hi_T} {Y' Z' : ly_T}, ly_cx n (cl_f f I' P M' H' Y' Z') 40 Y.1 B P.2.1 := by rw [hy1]; exact cl_cx hok (by decide) rfl
  obtain ⟨hA0, hN, h3, h5, h7, h89⟩ := id c10.1
  have hl : 0 ≤ Y.2.2.2.1 ∧ Y.2.2.2.1 ≤ 240 := by omega
  have hp : 0 ≤ Y.2.2.2.2.1 ∧ Y.2.2.2.2.1 ≤ 240 := by omega
  intro u
  induction u with
  | zero =>
    intro x k hk hu hk2 hR
    refine ji_iload_n dX7_fullness_18 rfl ?_
    refine ji_iload_n dX7_fullness_19 rfl ?_
    refine ji_icmp_ge (tgt := 49) dX7_fullness_20 rfl (by omega) (by omega) (fun c20 => ?_) (fun c20 => absurd c20 (by omega))
    exact (show x = cl_fs P Y (Y.2.2.2.2.1 - 1).toNat by rw [hR, show k.toNat = (Y.2.2.2.2.1 - 1).toNat by omega]) ▸ kk k
  | succ u ih =>
    intro x k hk hu hk2 hR
    refine ji_iload_n dX7_fullness_18 rfl ?_
    refine ji_iload_n dX7_fullness_19 rfl ?_
    refine ji_icmp_ge (tgt := 49) dX7_fullness_20 rfl (by omega) (by omega) (fun c20 => absurd c20 (by omega)) (fun c20 => ?_)
    refine ji_iload_n dX7_fullness_23 rfl ?_
    refine ji_aload_n dX7_fullness_24 rfl trivial ?_
    refine ji_get (ci := 7) (k := 8) rfl dX7_fullness_25 lX7_64 (by decide) (cl_0h) rfl ?_
    refine ji_iload_n dX7_fullness_28 rfl ?_
    refine ji_cV dX7_fullness_29 (cl_jYs (k_Layout_rowsOfPage hcx hA0 hl (by omega) hp h89)) rfl (cl_40h) rfl rfl wX3_rowsOfPage vX3_rowsOfPage lX7_357 rfl (Nat.le_of_ble_eq_true rfl) rfl ?_
    refine ji_aload_n dX7_fullness_32 rfl trivial ?_
    refine ji_get (ci := 7) (k := 8) rfl dX7_fullness_33 lX7_64 (by decide) (cl_0h) rfl ?_
    refine ji_iload_n dX7_fullness_36 rfl ?_
    refine ji_cV dX7_fullness_37 (cl_jYs (k_Layout_noteRowsOfPage hcx hA0 hl (by omega) hp h89 h7 hN)) rfl (cl_40h) rfl rfl wX3_noteRowsOfPage vX3_noteRowsOfPage lX7_360 rfl (Nat.le_of_ble_eq_true rfl) rfl ?_
    refine ji_iadd dX7_fullness_40 ?_
    refine ji_iadd dX7_fullness_41 ?_
    refine ji_istore_n dX7_fullness_42 (by decide) rfl ?_
    refine ji_iinc dX7_fullness_43 (by decide) rfl rfl ?_
    refine ji_goto (tgt := 18) dX7_fullness_46 rfl ?_
    exact ih _ _ (by omega) (by omega) (by omega) (by rw [show (k + 1).toNat = k.toNat + 1 by omega, cl_fs, ← hR, show ((k.toNat : Nat) : Int) = k by omega]; rfl)

set_option maxHeartbeats 4000000 in
set_option maxRecDepth 100000 in
theorem k_fullness_r (hok : cl_ok n f I P M H Y Z B NT SB) (hfr : cl_fr P Y B NT) (hne : 0 < (Y.2.2.2.2.1 - 1) * P.2.2.2.1 → vf_n64 (FP.ddiv (FP.i2d (jI (cl_fs P Y (Y.2.2.2.2.1 - 1).toNat))) (FP.i2d (jI ((Y.2.2.2.2.1 - 1) * P.2.2.2.1))))) : JW G (d + 6) mX7_fullness 4 [some (.ref 0), none, none, none] [] (n, cl_f f I P M H Y Z) 0 0 (fun r9 h9 => r9 = .inl (some (.double (cl_fd P Y))) ∧ h9 = (n, cl_f f I P M H Y Z)) := by
  obtain ⟨c1, c2, c3, c4, c5, c6, c7, c8, c9, c10, c11, c12⟩ := id hok
  obtain ⟨⟨hm1, hm1'⟩, hm2, hm3, hmJ, hmF, hmT⟩ := id c8
  obtain ⟨hbat, hbok, hbne⟩ := id c6
  obtain ⟨bw, bkq, bfq, hb0, hb1, hb2, hbw, ⟨hbd, -, -⟩, -⟩ := id hbat
  obtain ⟨⟨hw1, hw2⟩, hh1, hh2⟩ := id c5
  obtain ⟨⟨hl1, hl2⟩, ⟨hp1, hp2⟩, hy1, hy2, hy3⟩ := id (cl_fr_b hok hfr)
  have hcx : ∀ {I' : in_T} {M' : mk_T} {H' : hi_T} {Y' Z' : ly_T}, ly_cx n (cl_f f I' P M' H' Y' Z') 40 Y.1 B P.2.1 := by rw [hy1]; exact cl_cx hok (by decide) rfl
  obtain ⟨hA0, hN, h3, h5, h7, h89⟩ := id c10.1
  have hl : 0 ≤ Y.2.2.2.1 ∧ Y.2.2.2.1 ≤ 240 := by omega
  have hp : 0 ≤ Y.2.2.2.2.1 ∧ Y.2.2.2.2.1 ≤ 240 := by omega
  have hq0 : (Y.2.2.2.2.1 - 1) * P.2.2.2.1 ≤ 240 * 20 := by
    have h1 : (Y.2.2.2.2.1 - 1) * P.2.2.2.1 ≤ 240 * P.2.2.2.1 := Int.mul_le_mul_of_nonneg_right (by omega) (by omega)
    omega
  have hq1 : -20 ≤ (Y.2.2.2.2.1 - 1) * P.2.2.2.1 := by
    have h1 : -1 * P.2.2.2.1 ≤ (Y.2.2.2.2.1 - 1) * P.2.2.2.1 := Int.mul_le_mul_of_nonneg_right (by omega) (by omega)
    omega
  have hq2 : ∀ z : Int, z = (Y.2.2.2.2.1 - 1) * P.2.2.2.1 → -2147483648 ≤ z ∧ z < 2147483648 := fun z hz => by rw [hz]; omega
  refine ji_aload_n dX7_fullness_4 rfl trivial ?_
  refine ji_get (ci := 7) (k := 8) rfl dX7_fullness_5 lX7_64 (by decide) (cl_0h) rfl ?_
  refine ji_cV dX7_fullness_8 (cl_jYs (k_Layout_pages hcx hA0 hl)) rfl (cl_40h) rfl rfl wX3_pages vX3_pages lX7_149 rfl (Nat.le_of_ble_eq_true rfl) rfl ?_
  refine ji_iconst dX7_fullness_11 ?_
  refine ji_isub dX7_fullness_12 ?_
  refine ji_istore_n dX7_fullness_13 (by decide) rfl ?_
  refine ji_iconst dX7_fullness_14 ?_
  refine ji_istore_n dX7_fullness_15 (by decide) rfl ?_
  refine ji_iconst dX7_fullness_16 ?_
  refine ji_istore_n dX7_fullness_17 (by decide) rfl ?_
  refine k_fullness_l hok hfr (fun k => ?_) (Y.2.2.2.2.1 - 1).toNat 0 0 (by omega) (by omega) (by omega) rfl
  refine ji_iload_n dX7_fullness_49 rfl ?_
  refine ji_aload_n dX7_fullness_50 rfl trivial ?_
  refine ji_get (ci := 7) (k := 4) rfl dX7_fullness_51 lX7_30 (by decide) (cl_0h) rfl ?_
  refine ji_imul dX7_fullness_54 ?_
  refine ji_istore_n dX7_fullness_55 (by decide) rfl ?_
  refine ji_iload_n dX7_fullness_56 rfl ?_
  refine ji_if_le (tgt := 68) dX7_fullness_57 rfl (hq2 _ rfl) (fun c57 => ?_) (fun c57 => ?_)
  · try (exfalso; omega)
    all_goals
      refine ji_dconst0 dX7_fullness_68 ?_
      exact ji_dreturn dX7_fullness_69 rfl ⟨by unfold cl_fd; first | rw [if_pos (by omega)] | rw [if_neg (by omega)], rfl⟩
  · try (exfalso; omega)
    all_goals
      refine ji_iload_n dX7_fullness_60 rfl ?_
      refine ji_i2d dX7_fullness_61 ?_
      refine ji_iload_n dX7_fullness_62 rfl ?_
      refine ji_i2d dX7_fullness_63 ?_
      refine ji_ddiv dX7_fullness_64 (hne (by omega)) ?_
      refine ji_goto (tgt := 69) dX7_fullness_65 rfl ?_
      exact ji_dreturn dX7_fullness_69 rfl ⟨by unfold cl_fd; first | rw [if_pos (by omega)] | rw [if_neg (by omega)], rfl⟩

set_option maxHeartbeats 4000000 in
set_option maxRecDepth 100000 in
theorem k_fullness (hok : cl_ok n f I P M H Y Z B NT SB) (hne : 0 < ((cl_RY P Y B NT).2.2.2.2.1 - 1) * (cl_RP P).2.2.2.1 → vf_n64 (FP.ddiv (FP.i2d (jI (cl_fs (cl_RP P) (cl_RY P Y B NT) ((cl_RY P Y B NT).2.2.2.2.1 - 1).toNat))) (FP.i2d (jI (((cl_RY P Y B NT).2.2.2.2.1 - 1) * (cl_RP P).2.2.2.1))))) : JR G (d + 6) mX7_fullness [.ref 0] (n, cl_f f I P M H Y Z) 0 0 (some (.double (cl_fd (cl_RP P) (cl_RY P Y B NT)))) (n, cl_f f I (cl_RP P) M H (cl_RY P Y B NT) Z) := by
  obtain ⟨c1, c2, c3, c4, c5, c6, c7, c8, c9, c10, c11, c12⟩ := id hok
  obtain ⟨⟨hm1, hm1'⟩, hm2, hm3, hmJ, hmF, hmT⟩ := id c8
  obtain ⟨hbat, hbok, hbne⟩ := id c6
  obtain ⟨bw, bkq, bfq, hb0, hb1, hb2, hbw, ⟨hbd, -, -⟩, -⟩ := id hbat
  obtain ⟨⟨hw1, hw2⟩, hh1, hh2⟩ := id c5
  refine ji_ent (by decide) rfl (Nat.le_of_ble_eq_true rfl) rfl ?_
  refine ji_aload_n dX7_fullness_0 rfl trivial ?_
  refine ji_cVv dX7_fullness_1 (k_refresh hok) rfl (cl_0h) rfl rfl wX7_refresh vX7_refresh lX7_146 rfl (Nat.le_of_ble_eq_true rfl) rfl ?_
  exact k_fullness_r (cl_fr_ok hok).2 (cl_fr_ok hok).1 hne


end PG
