/-! ===== pure: fullness, digest, fit ===== -/
theorem mxs_c {g g' : Int → Int} : ∀ (u : Nat) (k k' : Int) (x : Int64), (∀ i : Nat, i < u → g (k + i) = g' (k' + i)) → mxs g u k x = mxs g' u k' x
  | 0, _, _, _, _ => rfl
  | u + 1, k, k', x, h => by
    show mxs g u (k + 1) (mx x (g k)) = mxs g' u (k' + 1) (mx x (g' k'))
    have h0 := h 0 (by omega)
    rw [Int.natCast_zero, Int.add_zero, Int.add_zero] at h0
    rw [h0]
    exact mxs_c u _ _ _ fun i hi => by
      have := h (i + 1) (by omega)
      rw [show k + ((i + 1 : Nat) : Int) = k + 1 + i by omega, show k' + ((i + 1 : Nat) : Int) = k' + 1 + i by omega] at this
      exact this
theorem mxs_a (g : Int → Int) : ∀ (u v : Nat) (k : Int) (x : Int64), mxs g (u + v) k x = mxs g v (k + u) (mxs g u k x)
  | 0, v, k, x => by rw [Nat.zero_add, Int.natCast_zero, Int.add_zero]; rfl
  | u + 1, v, k, x => by
    rw [show u + 1 + v = (u + v) + 1 by omega]
    show mxs g (u + v) (k + 1) (mx x (g k)) = mxs g v _ (mxs g u (k + 1) (mx x (g k)))
    rw [mxs_a g u v, show k + 1 + (u : Int) = k + ((u + 1 : Nat) : Int) by omega]
theorem mx2_e {g g' : Int → Int → Int} {w : Nat} (hw : 0 < w) : ∀ (u k : Nat) (x : Int64), (∀ i j : Nat, i < u → j < w → g ((k : Int) + i) j = g' ((k : Int) + i) j) → mx2 g w u k x = mxs (fun i => g' (i / w) (i % w)) (w * u) ((w * k : Nat) : Int) x
  | 0, k, x, _ => rfl
  | u + 1, k, x, h => by
    show mx2 g w u ((k : Int) + 1) (mxs (g k) w 0 x) = _
    rw [show w * (u + 1) = w + w * u by rw [Nat.mul_add]; omega, mxs_a, show ((k : Int) + 1) = ((k + 1 : Nat) : Int) by omega]
    have e : mxs (g (k : Int)) w 0 x = mxs (fun i => g' (i / w) (i % w)) w ((w * k : Nat) : Int) x := mxs_c w _ _ x fun j hj => by
      have h0 := h 0 j (by omega) hj
      rw [Int.natCast_zero, Int.add_zero] at h0
      rw [Int.zero_add, h0]
      have d1 : (((w * k : Nat) : Int) + j) / w = k := by
        rw [show ((w * k : Nat) : Int) + j = ((w * k + j : Nat) : Int) by omega, ← Int.natCast_ediv, Nat.mul_add_div hw, Nat.div_eq_of_lt hj, Nat.add_zero]
      have d2 : (((w * k : Nat) : Int) + j) % w = j := by
        rw [show ((w * k : Nat) : Int) + j = ((w * k + j : Nat) : Int) by omega, ← Int.natCast_emod, Nat.mul_add_mod, Nat.mod_eq_of_lt hj]
      show g' k j = g' (_ / _) (_ % _)
      rw [d1, d2]
    rw [e, mx2_e (g' := g') hw u (k + 1) _ fun i j hi hj => by
      have := h (i + 1) j (by omega) hj
      rw [show ((k + 1 : Nat) : Int) + i = (k : Int) + ((i + 1 : Nat) : Int) by omega]; exact this]
    rw [show ((w * (k + 1) : Nat) : Int) = ((w * k : Nat) : Int) + w by rw [Nat.mul_add]; omega]
theorem nw_eq {NT : nt_T} {z nl nt : Nat → Int} (h : NTR NT z nl nt) {k : Nat} (hk : k < 10) : nt_wd NT k = rf_NW nl nt k := by
  unfold nt_wd rf_NW
  rw [Int.toNat_natCast]
  rcases h k hk with ⟨h1, h2⟩ | ⟨m, tx, h1, h2, h3, h4, h5⟩
  · rw [h1, h2]; rfl
  · rw [h1, if_pos (by omega)]
    show ((wd_cnt tx m + 1 : Nat) : Int) - 1 = _
    have key : ∀ i : Nat, i + 2 ≤ m → (wd_cnt tx (i + 2) : Int) = 1 + rf_nw nt k i := by
      intro i
      induction i with
      | zero =>
        intro hi
        have a := h5 0 (by omega)
        have b := h5 1 (by omega)
        unfold rf_ch at a b
        rw [if_neg (by omega), if_pos (by omega)] at a
        rw [if_neg (by omega), if_neg (by omega), if_pos (by omega)] at b
        show ((0 + (if tx 0 = 32 then 1 else 0) + (if tx 1 = 32 then 1 else 0) : Nat) : Int) = 1 + 0
        rw [if_neg (by omega), if_pos (by omega)]; rfl
      | succ i ih =>
        intro hi
        have a := h5 (i + 2) (by omega)
        unfold rf_ch at a
        rw [if_neg (by omega), if_neg (by omega), if_neg (by omega), show 100 * (10 + (k : Int) - 10) + ((i + 2 : Nat) : Int) - 2 = 100 * (k : Int) + i by omega] at a
        show ((wd_cnt tx (i + 2) + (if tx (i + 2) = 32 then 1 else 0) : Nat) : Int) = 1 + (rf_nw nt k i + (if nt (100 * (k : Int) + i).toNat = 32 then 1 else 0))
        have b := ih (by omega)
        rw [a]
        split <;> omega
    have := key (nl k).toNat (by omega)
    rw [show (nl k).toNat + 2 = m by omega] at this
    omega
section LAY
variable {B : bk_T} {z nl nt sy : Nat → Int} {NT : nt_T} {Y : ly_T} {lo lf lt : Nat → Int} {ln pg : Nat} {pf : Nat → Int} {M : mk_T}
theorem fs_eq (h : LAYR B z nl nt sy NT Y lo lf lt ln pg pf) {P : pg_T} (hP : P.2.1 = sy) : ∀ k : Nat, k ≤ pg → cl_fs P Y k = rf_fs z nl nt sy Y.2.1 lo lf lt pf k
  | 0, _ => rfl
  | k + 1, hk => by
    obtain ⟨x, y, g1, g2, g3, g4, g5, g6⟩ := pg_eq h (q := k) (by omega)
    show cl_fs P Y k + (cl_rw Y (cl_fl Y k) (cl_fl Y ((k : Int) + 1)) + cl_rn P Y (cl_np Y k)) = rf_fs z nl nt sy Y.2.1 lo lf lt pf k + (rf_RO z sy lo lf (pf k) (pf (k + 1)) + rf_NR z nl nt sy Y.2.1 (rf_NO z nt lo lf lt (pf k) (pf (k + 1))))
    rw [fs_eq h hP k (by omega), no_eq h (by omega), g5, g6, g1, g2, rw_eq h g3 g4]
    unfold cl_rn
    rw [hP, h.2.2.1.rn]
theorem fd_eq (h : LAYR B z nl nt sy NT Y lo lf lt ln pg pf) {P : pg_T} (hP : P.2.1 = sy) (hh : 2 ≤ P.2.2.2.1) : cl_fd P Y = rf_fd (rf_fs z nl nt sy Y.2.1 lo lf lt pf ((pg : Int) - 1).toNat) pg P.2.2.2.1 := by
  have h1 := h.2.2.2.2.1
  unfold cl_fd rf_fd
  rw [h.2.1]
  by_cases c : (pg : Int) = 1
  · rw [if_pos c, if_neg (by rw [c]; omega)]
  · rw [if_neg c, if_pos (Int.mul_pos (by omega) (by omega)), fs_eq h hP _ (by omega)]
theorem mp_eq (hb : RB B z) (h : LAYR B z nl nt sy NT Y lo lf lt ln pg pf) : ∀ (u p : Nat) (x : Int64), p + u = bk_P B → mxp B Y u p x = rf_mp z nl nt ln lo lf pg pf u p x
  | 0, p, x, _ => rfl
  | u + 1, p, x, hp => by
    show mxp B Y u ((p : Int) + 1) _ = rf_mp z nl nt ln lo lf pg pf u ((p : Int) + 1) _
    rw [show ((p : Int) + 1) = ((p + 1 : Nat) : Int) by omega, mp_eq hb h u (p + 1) _ (by omega)]
    refine congrArg _ ?_
    rw [bk_start_e hb (p := p) (by omega), bk_end_e hb (p := p) (by omega)]
    have hz := hb.2.2.2.2.1 p (by omega)
    have hr := rb_b hb (p := p) (by omega)
    have hz10 := hb.2.2.1.1
    rw [mxs_c (g := cl_pp B Y p) (g' := rf_PP z nt ln lo lf pg pf p) 5 0 0 x fun i hi => by rw [Int.zero_add]; exact pp_eq hb h (by omega) (by omega)]
    rw [show ((rS z p : Int) + z (85 + p) - rS z p).toNat = (z (85 + p)).toNat by omega, show (z (85 + (p : Int)).toNat).toNat = (z (85 + p)).toNat by rw [show (85 + (p : Int)).toNat = 85 + p by omega]]
    refine mxs_c _ _ _ _ fun i hi => ?_
    rw [Int.zero_add, rf_ch_p (by omega), ← hb.2.2.2.2.2.2.1 p (by omega) i (by omega)]
    unfold wd_sign
    rw [if_pos (by omega)]
    exact congrArg _ (by omega)
theorem dg_eq (hb : RB B z) (hm : MR (bk_P B) z M) (h : LAYR B z nl nt sy NT Y lo lf lt ln pg pf) {P : pg_T} (hP : P.2.1 = sy) (hw : Y.2.1 = P.2.2.1) (I : in_T) (hI : 0 ≤ I.1) {bf : Nat → Int} (hf : ∀ k : Nat, (k : Int) < I.1 → I.2.1 k = bf k) (e : Int) : cl_dg I B P M Y NT e = rf_dg z nl nt sy e P.2.2.1 P.2.2.2.1 I.1 bf ln lo lf lt pg pf := by
  obtain ⟨m1, m2, m3, ⟨m4, m5, m6⟩, m7⟩ := id hm
  unfold cl_dg rf_dg rf_ml
  rw [mxs_c (g := cl_cnt B M Y e) (g' := rf_CN z nl nt e ln lo lf pg pf) 12 0 0 1931 fun i hi => by rw [Int.zero_add]; exact cnt_eq hb hm h e (by omega)]
  rw [hP, show (0 : Int) = ((0 : Nat) : Int) from rfl, mp_eq hb h _ 0 _ (by omega), show (z 0).toNat = bk_P B by rw [hb.2.2.1.2]; omega]
  rw [h.1, h.2.1, m4, Int.toNat_natCast, Int.toNat_natCast]
  rw [mx2_e (g' := rf_LN z nt sy lo lf lt pg pf) (w := 6) (by omega) ln 0 _ fun i j hi hj => by rw [Int.natCast_zero, Int.zero_add]; exact lnp_eq hb h hi j]
  rw [mx2_e (g' := rf_PN z nl nt sy Y.2.1 ln lo lf lt pf) (w := 7) (by omega) pg 0 _ fun i j hi hj => by rw [Int.natCast_zero, Int.zero_add]; exact pgq_eq hb hm h hP hi (by omega)]
  rw [mx2_e (g' := rf_AN z ln lo lf pg pf) (w := 6) (by omega) (z 14).toNat 0 _ fun i j hi hj => by rw [Int.natCast_zero, Int.zero_add]; exact anp_eq hb hm h (by omega) (by omega)]
  rw [hw, show (6 * (ln : Int)).toNat = 6 * ln by omega, show (7 * (pg : Int)).toNat = 7 * pg by omega, show (6 * z 14).toNat = 6 * (z 14).toNat by omega]
  rw [mxs_c (g := fun k => nt_wd NT k.toNat) (g' := rf_NW nl nt) 10 ((0 : Nat) : Int) ((0 : Nat) : Int) _ fun i hi => by rw [Int.natCast_zero, Int.zero_add]; exact nw_eq h.2.2.1.2.2.1 hi]
  refine mxs_c _ _ _ _ fun i hi => ?_
  rw [Int.natCast_zero, Int.zero_add]
  unfold in_sign
  rw [if_pos (by omega), Int.toNat_natCast]
  exact hf i (by omega)
end LAY
theorem ft_pg {B : bk_T} {z : Nat → Int} (h : RB B z) {nl nt sy : Nat → Int} {NT : nt_T} (hN : NTR NT z nl nt) (h4 : sy 4 = 0 ∨ sy 4 = 1) (bk : Nat) (w ht : Int) (A : Nat → Nat → Int) (lo lf lt pf : Nat → Int) : (rf_PG z nl nt sy w ht (rf_LL z nl nt sy w lo lf lt).1 (rf_LL z nl nt sy w lo lf lt).2.1 (rf_LL z nl nt sy w lo lf lt).2.2.1 (rf_LL z nl nt sy w lo lf lt).2.2.2 pf).1 = (ly_Y bk B w ht sy NT A).2.2.2.2.1 := by
  obtain ⟨ln, pg, e1, _, e3, e4⟩ := lay_all h hN h4 bk w ht A lo lf lt pf
  rw [e3, e4.2.1]
/-- pages at a width -/
def ft_P (B : bk_T) (ht : Int) (sy : Nat → Int) (NT : nt_T) (w : Int) : Int := (ly_Y 0 B w ht sy NT (fun _ _ => 0)).2.2.2.2.1
theorem ft_i {B : bk_T} {z : Nat → Int} (h : RB B z) {nl nt sy : Nat → Int} {NT : nt_T} (hN : NTR NT z nl nt) (h4 : sy 4 = 0 ∨ sy 4 = 1) (bk : Nat) (w ht : Int) (A : Nat → Nat → Int) : (ly_Y bk B w ht sy NT A).2.2.2.2.1 = ft_P B ht sy NT w := by
  unfold ft_P
  rw [← ft_pg h hN h4 bk w ht A (fun _ => 0) (fun _ => 0) (fun _ => 0) (fun _ => 0), ← ft_pg h hN h4 0 w ht (fun _ _ => 0) (fun _ => 0) (fun _ => 0) (fun _ => 0) (fun _ => 0)]
theorem ft_eq {B : bk_T} {z : Nat → Int} (h : RB B z) {nl nt : Nat → Int} {NT : nt_T} (hN : NTR NT z nl nt) {P : pg_T} (h4 : P.2.1 4 = 0 ∨ P.2.1 4 = 1) (q : Int) : ∀ (u : Nat) (w : Int) (Z : ly_T), (cl_ft B P NT q u w Z).1 = ft_w (ft_P B P.2.2.2.1 P.2.1 NT) q u w
  | 0, _, _ => rfl
  | u + 1, w, Z => by
    show (if _ then _ else _ : Int × ly_T).1 = if ft_P B P.2.2.2.1 P.2.1 NT w ≤ q then w else ft_w (ft_P B P.2.2.2.1 P.2.1 NT) q u (w + 1)
    rw [ft_i h hN h4]
    by_cases c : ft_P B P.2.2.2.1 P.2.1 NT w ≤ q
    · rw [if_pos c, if_pos c]
    · rw [if_neg c, if_neg c]; exact ft_eq h hN h4 q u _ _
