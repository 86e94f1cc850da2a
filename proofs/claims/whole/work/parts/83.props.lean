/-! ===== pure: properties ===== -/
/-- blanks between two places of a text -/
theorem wb_eq {tx : Nat → Int} {m b L : Nat} {C : Int → Int} (h : sl_ok tx m b L C) : ∀ (u k : Nat) (c : Int), k + u ≤ L → rf_wb C u k c = c + (wd_cnt tx (b + k + u) : Int) - wd_cnt tx (b + k)
  | 0, k, c, _ => by show c = _; rw [Nat.add_zero]; omega
  | u + 1, k, c, hu => by
    unfold rf_wb
    rw [show (k : Int) + 1 = ((k + 1 : Nat) : Int) by omega, wb_eq h u (k + 1) _ (by omega), h.2.1 k (by omega), show b + (k + 1) + u = b + k + (u + 1) by omega, show b + (k + 1) = b + k + 1 by omega, ct_s]
    split <;> omega
theorem WB_eq {tx : Nat → Int} {m b L : Nat} {C : Int → Int} (h : sl_ok tx m b L C) {x y : Nat} (hxy : x ≤ y) (hy : y ≤ L) : rf_WB C x y = (wd_cnt tx (b + y) : Int) - wd_cnt tx (b + x) := by
  unfold rf_WB
  rw [show ((y : Int) - x).toNat = y - x by omega, wb_eq h (y - x) x 0 (by omega), show b + x + (y - x) = b + y by omega]
  omega
theorem wc_eq {tx : Nat → Int} {m b L : Nat} {C : Int → Int} (h : sl_ok tx m b L C) : ∀ k : Nat, k ≤ L → rf_wc C k = (wd_cnt tx (b + k) : Int) - wd_cnt tx b
  | 0, _ => by show (0 : Int) = _; rw [Nat.add_zero]; omega
  | k + 1, hk => by
    unfold rf_wc
    rw [wc_eq h k (by omega), h.2.1 k (by omega), show b + (k + 1) = b + k + 1 by omega, ct_s]
    split <;> omega
theorem ct_st {tx : Nat → Int} {m c : Nat} {x : Nat} (h : c ≤ wd_cnt tx m) (e : wd_starts m tx c = x) : wd_cnt tx x = c := by
  obtain ⟨x', y', a1, a2, a3, a4, a5, a6, _⟩ := st_w h
  have : x = x' := by omega
  rw [this]; exact a5
theorem ct_en {tx : Nat → Int} {m c : Nat} {y : Nat} (h : c ≤ wd_cnt tx m) (e : wd_starts m tx (c + 1) = y + 1) : wd_cnt tx y = c := by
  obtain ⟨x', y', a1, a2, a3, a4, a5, a6, _⟩ := st_w h
  have : y = y' := by omega
  rw [this]; exact a6
theorem wo_eq {B : bk_T} {z : Nat → Int} (h : RB B z) (nt : Nat → Int) {p : Nat} (hp : p < bk_P B) : rf_WO z nt p = bk_fr B (p + 1) - bk_fr B p := by
  obtain ⟨e1, e2⟩ := rb_fr h hp
  have hz := h.2.2.2.2.1 p hp
  unfold rf_WO
  rw [show (85 + (p : Int)).toNat = 85 + p by omega, wc_eq (rb_sl h nt hp) _ (Nat.le_refl _), e1, e2]
  omega
theorem bk_pa_sp (B : bk_T) (place : Int) : ∀ u : Nat, ∃ c : Nat, bk_pa B place u = c ∧ c ≤ u ∧ (c = 0 ∨ bk_start B (c : Int) ≤ place) ∧ ∀ l : Nat, c < l → l ≤ u → place < bk_start B (l : Int)
  | 0 => ⟨0, rfl, by omega, Or.inl rfl, fun l a b => by omega⟩
  | u + 1 => by
    unfold bk_pa
    by_cases c : place < bk_start B ((u + 1 : Nat) : Int)
    · obtain ⟨v, a1, a2, a3, a4⟩ := bk_pa_sp B place u
      rw [if_pos c]
      refine ⟨v, a1, by omega, a3, fun l b1 b2 => ?_⟩
      by_cases e : l = u + 1
      · rw [e]; exact c
      · exact a4 l b1 (by omega)
    · rw [if_neg c]
      exact ⟨u + 1, rfl, by omega, Or.inr (by omega), fun l b1 b2 => by omega⟩
/-- the paragraph of a place -/
theorem pa_at {B : bk_T} {z : Nat → Int} (h : RB B z) {q : Nat} {o : Int} (hq : q < bk_P B) (ho : 0 ≤ o ∧ o ≤ z (85 + q)) : bk_PA B (rS z q + o) = q := by
  obtain ⟨c, c1, c2, c3, c4⟩ := bk_pa_sp B (rS z q + o) (bk_P B - 1)
  have hc : c < bk_P B := by omega
  have e := bk_start_e h (p := c) (by omega)
  unfold bk_PA
  rw [c1]
  rcases Nat.lt_trichotomy c q with r | r | r
  · have := c4 q r (by omega)
    rw [bk_start_e h (by omega)] at this; omega
  · rw [r]
  · rcases c3 with s | s
    · omega
    · have hs := rS_lt h r (by omega)
      have hz := h.2.2.2.2.1 q hq
      omega
theorem pos_at {B : bk_T} {z : Nat → Int} (h : RB B z) {q : Nat} {o : Int} (hq : q < bk_P B) (ho : 0 ≤ o ∧ o ≤ z (85 + q)) : bk_pos B (rS z q + o) = 1000 * q + o := by
  unfold bk_pos; rw [pa_at h hq ho, bk_start_e h (by omega)]; omega
section LAY
variable {B : bk_T} {z nl nt sy : Nat → Int} {NT : nt_T} {Y : ly_T} {lo lf lt : Nat → Int} {ln pg : Nat} {pf : Nat → Int}
theorem lp_eq (h : LAYR B z nl nt sy NT Y lo lf lt ln pg pf) (q : Int) : ∀ k : Nat, k ≤ ln → ly_lp Y.2.2.2.1 (Y.2.2.2.2.2 3) q k = rf_li lo q k
  | 0, _ => rfl
  | k + 1, hk => by
    obtain ⟨p, x, y, a1, a2, a3, _⟩ := h.2.2.1.1.2.1.at (l := k) (by omega)
    unfold ly_lp rf_li
    rw [lp_eq h q k (by omega), h.1, lg_i (by omega), a2, a3]
theorem rb_eq (h : LAYR B z nl nt sy NT Y lo lf lt ln pg pf) : ∀ (u l : Nat) (r : Int), l + u ≤ ln → ly_rb Y.2.2.2.1 (Y.2.2.2.2.2 5) u l r = rf_ro z sy lo lf u l r
  | 0, l, r, _ => rfl
  | u + 1, l, r, hu => by
    unfold ly_rb rf_ro
    rw [h.1, h.2.2.1.g5 (by omega), show (l : Int) + 1 = ((l + 1 : Nat) : Int) by omega, ← h.1]
    exact rb_eq h u (l + 1) _ (by omega)
theorem rw_eq (h : LAYR B z nl nt sy NT Y lo lf lt ln pg pf) {x y : Nat} (hxy : x < y) (hy : y ≤ ln) : cl_rw Y x y = rf_RO z sy lo lf x y := by
  unfold cl_rw ly_RB rf_RO
  rw [show ((y : Int) - ((x : Int) + 1)).toNat = y - (x + 1) by omega, show (x : Int) + 1 = ((x + 1 : Nat) : Int) by omega]
  exact rb_eq h _ _ _ (by omega)
theorem np_eq (h : LAYR B z nl nt sy NT Y lo lf lt ln pg pf) : ∀ (u l : Nat) (v : Int), 0 ≤ v → l + u ≤ ln → ly_np Y.2.2.2.1 (Y.2.2.2.2.2 7) u l v = rf_n2 z nt lo lf lt u l v
  | 0, l, v, _, _ => rfl
  | u + 1, l, v, hv, hu => by
    have e : rf_n1 (rf_ch z nt (lo l)) (lt l - lf l).toNat (lf l) v = ly_or v (rf_n1 (rf_ch z nt (lo l)) (lt l - lf l).toNat (lf l) 0) := by
      rw [← n1_or, ly_or_0 hv]
    unfold ly_np rf_n2
    rw [h.1, h.2.2.1.g7 (by omega), show (l : Int) + 1 = ((l + 1 : Nat) : Int) by omega, ← h.1, Int.toNat_natCast, e]
    exact np_eq h u (l + 1) _ (or_nn _ _) (by omega)
/-- a page's lines -/
theorem fl_eq (h : LAYR B z nl nt sy NT Y lo lf lt ln pg pf) {q : Nat} (hq : q ≤ pg) : cl_fl Y (q : Int) = pf q ∧ ∃ x : Nat, pf q = x ∧ x ≤ ln ∧ (q < pg → x < ln) := by
  obtain ⟨e1, e2, hL, hp⟩ := h
  have h3 := hp.1.2.2.1 q (by omega)
  have h4 := hp.1.2.2.2.1
  rw [Int.toNat_natCast] at h4
  obtain ⟨x, hx⟩ := Int.eq_ofNat_of_zero_le h3.1
  have hx : pf q = x := hx
  refine ⟨?_, x, hx, by omega, fun r => ?_⟩
  · unfold cl_fl
    rw [e2, e1]
    by_cases c : q < pg
    · rw [lg_i (by omega)]; exact hp.2.2.1 q hq
    · have e : q = pg := by omega
      rw [lg_o (by omega), e, h4]
  · have h2 := hp.1.2.1 q (by omega)
    have h5 := hp.1.2.2.1 (q + 1) (by omega)
    omega
theorem pg_eq (h : LAYR B z nl nt sy NT Y lo lf lt ln pg pf) {q : Nat} (hq : q < pg) : ∃ x y : Nat, pf q = x ∧ pf (q + 1) = y ∧ x < y ∧ y ≤ ln ∧ cl_fl Y (q : Int) = x ∧ cl_fl Y ((q : Int) + 1) = y := by
  obtain ⟨a1, x, a2, a3, a4⟩ := fl_eq h (q := q) (by omega)
  obtain ⟨b1, y, b2, b3, b4⟩ := fl_eq h (q := q + 1) (by omega)
  have h2 := h.2.2.2.1.2.1 q (by omega)
  refine ⟨x, y, a2, b2, by omega, b3, by rw [a1, a2], ?_⟩
  rw [show (q : Int) + 1 = ((q + 1 : Nat) : Int) by omega, b1, b2]
theorem no_eq (h : LAYR B z nl nt sy NT Y lo lf lt ln pg pf) {q : Nat} (hq : q < pg) : cl_np Y (q : Int) = rf_NO z nt lo lf lt (pf q) (pf (q + 1)) := by
  obtain ⟨x, y, a1, a2, a3, a4, a5, a6⟩ := pg_eq h hq
  unfold cl_np ly_NP rf_NO
  rw [a5, a6, a1, a2]
  exact np_eq h _ _ _ (by omega) (by omega)
/-- a property of a line -/
theorem lnp_eq (hb : RB B z) (h : LAYR B z nl nt sy NT Y lo lf lt ln pg pf) {l : Nat} (hl : l < ln) (v : Int) : cl_lnp B Y l v = rf_LN z nt sy lo lf lt pg pf l v := by
  obtain ⟨p, x, y, a1, a2, a3, a4, a5, a6, a7, a8, a9, a10, a11, a12⟩ := ln_x hb h hl
  obtain ⟨e1, e2, hL, hp⟩ := id h
  obtain ⟨b1, b2, b3, b4, _⟩ := hL.1.2.1.bp hb hl
  rw [a2, Int.toNat_natCast] at b4
  have hsl := rb_sl hb nt a1
  obtain ⟨f1, f2⟩ := rb_fr hb a1
  have hz := hb.2.2.2.2.1 p a1
  have hpo : cl_po Y (l : Int) = p := by unfold cl_po; rw [e1, lg_i (by omega)]; exact a3
  obtain ⟨x1, hx1⟩ := Int.eq_ofNat_of_zero_le b2
  have hx1 : lf l = x1 := hx1
  obtain ⟨y1, hy1⟩ := Int.eq_ofNat_of_zero_le (show 0 ≤ lt l by omega)
  have hy1 : lt l = y1 := hy1
  have sx : wd_starts (bk_m B) (bk_tx B) x = ((rS z p + x1 : Nat) : Int) := by
    unfold bk_ws at a10; rw [wst (by omega), hb.1.2] at a10; omega
  have sy1 : wd_starts (bk_m B) (bk_tx B) (y - 1 + 1) = ((rS z p + y1 : Nat) : Int) + 1 := by
    rw [show (y : Int) - 1 = ((y - 1 : Nat) : Int) by omega, wen (by omega), hb.1.2] at a11; omega
  have hn := hb.1.1
  have cx := ct_st (by omega) sx
  have cy := ct_en (by omega) sy1
  have hpa : cl_pgo Y (l : Int) = rf_PA pg pf l := by unfold cl_pgo; rw [e1, lg_i (by omega)]; exact hp.2.2.2 l hl
  unfold cl_lnp rf_LN
  rw [Int.toNat_natCast, hpo, a4, a5, a2]
  by_cases v0 : v = 0
  · rw [if_pos v0, if_pos v0]
  rw [if_neg v0, if_neg v0]
  by_cases v1 : v = 1
  · rw [if_pos v1, if_pos v1, bk_fw_e (by omega), hx1, show (0 : Int) = ((0 : Nat) : Int) from rfl, WB_eq hsl (by omega) (by omega), cx, Nat.add_zero, f1]
  rw [if_neg v1, if_neg v1]
  by_cases v2 : v = 2
  · rw [if_pos v2, if_pos v2, hx1, hy1, WB_eq hsl (by omega) (by omega), cx, cy]; omega
  rw [if_neg v2, if_neg v2]
  by_cases v3 : v = 3
  · rw [if_pos v3, if_pos v3]
    unfold cl_col
    rw [a4, a5, a11, a10, e1, lg_i (by omega), a12]; omega
  rw [if_neg v3, if_neg v3, hpa]
  by_cases v4 : v = 4
  · rw [if_pos v4, if_pos v4]
  rw [if_neg v4, if_neg v4]
  obtain ⟨k, k1, k2, k3, k4⟩ := PA_in hp.1 hl
  obtain ⟨f, _, g1, _, _, g4, g5, _⟩ := pg_eq h k2
  unfold rf_RA
  rw [k1, Int.toNat_natCast, g5, g1]
  have e := rw_eq h (x := f) (y := l + 1) (by omega) (by omega)
  rw [show ((l + 1 : Nat) : Int) = (l : Int) + 1 by omega] at e
  rw [e]
  by_cases c : (l : Int) = f
  · rw [if_pos c, ← c, RO_1]; rfl
  · rw [if_neg c]
theorem bcx_eq (x : Int) : ly_bc x = rf_bt x 10 := by
  have e : rf_bt x 10 = 0 + ly_bit x 0 + ly_bit x 1 + ly_bit x 2 + ly_bit x 3 + ly_bit x 4 + ly_bit x 5 + ly_bit x 6 + ly_bit x 7 + ly_bit x 8 + ly_bit x 9 := rfl
  rw [e, Int.zero_add]; rfl
theorem pl_eq (hb : RB B z) (h : LAYR B z nl nt sy NT Y lo lf lt ln pg pf) {q : Nat} (hq : q < pg) : ∃ p x : Nat, pf q = x ∧ x < ln ∧ p < bk_P B ∧ lo x = p ∧ cl_pl B Y (q : Int) = rS z p + lf x ∧ 0 ≤ lf x ∧ lf x ≤ z (85 + p) := by
  obtain ⟨a1, x, a2, a3, a4⟩ := fl_eq h (q := q) (by omega)
  obtain ⟨p, x', y, b1, b2, b3, b4, b5, b6, b7, b8, b9, b10, _⟩ := ln_x hb h (a4 hq)
  obtain ⟨c1, c2, c3, c4, _⟩ := h.2.2.1.1.2.1.bp hb (a4 hq)
  rw [b2, Int.toNat_natCast] at c4
  refine ⟨p, x, a2, a4 hq, b1, b2, ?_, c2, by omega⟩
  show bk_ws B (cl_fwl B Y (cl_fl Y q)) = _
  rw [a1, a2, b4]; exact b10
/-- a property of a page but the annotations -/
theorem pgp_eq (hb : RB B z) (h : LAYR B z nl nt sy NT Y lo lf lt ln pg pf) {P : pg_T} (hP : P.2.1 = sy) (M : mk_T) {q : Nat} (hq : q < pg) {v : Int} (hv : 0 ≤ v ∧ v < 6) : cl_pgp B P M Y q v = rf_PN z nl nt sy Y.2.1 ln lo lf lt pf q v := by
  obtain ⟨x, y, a1, a2, a3, a4, a5, a6⟩ := pg_eq h hq
  obtain ⟨e1, e2, hL, hp⟩ := id h
  unfold cl_pgp rf_PN
  rw [Int.toNat_natCast, show ((q : Int) + 1).toNat = q + 1 by omega, a5, a6, a1, a2, no_eq h hq, a1, a2]
  by_cases v0 : v = 0
  · obtain ⟨p, x', b1, b2, b3, b4, b5, b6, b7⟩ := pl_eq hb h hq
    rw [if_pos v0, if_pos v0, b5, pos_at hb b3 ⟨b6, b7⟩]
    unfold rf_FO
    rw [Int.toNat_natCast, show x = x' by omega, b4]
  rw [if_neg v0, if_neg v0]
  by_cases v1 : v = 1
  · rw [if_pos v1, if_pos v1, e2]
    by_cases c : q + 1 < pg
    · obtain ⟨p, x', b1, b2, b3, b4, b5, b6, b7⟩ := pl_eq hb h c
      rw [if_pos (by omega), if_neg (by omega), show (q : Int) + 1 = ((q + 1 : Nat) : Int) by omega, b5, pos_at hb b3 ⟨b6, b7⟩]
      unfold rf_FO
      rw [Int.toNat_natCast, show y = x' by omega, b4]
    · have e : q + 1 = pg := by omega
      have h4 := hp.1.2.2.2.1
      rw [Int.toNat_natCast, ← e, a2] at h4
      rw [if_neg (by omega), if_pos h4]
  rw [if_neg v1, if_neg v1]
  by_cases v2 : v = 2
  · rw [if_pos v2, if_pos v2]
  rw [if_neg v2, if_neg v2]
  by_cases v3 : v = 3
  · rw [if_pos v3, if_pos v3, rw_eq h a3 a4]
  rw [if_neg v3, if_neg v3]
  by_cases v4 : v = 4
  · rw [if_pos v4, if_pos v4]
    unfold cl_rn
    rw [hP]; exact hL.rn _
  rw [if_neg v4, if_neg v4, if_pos (by omega), if_pos (by omega), bcx_eq]
theorem pp_eq (hb : RB B z) (h : LAYR B z nl nt sy NT Y lo lf lt ln pg pf) {p : Nat} (hp : p < bk_P B) {v : Int} (hv : 0 ≤ v ∧ v < 5) : cl_pp B Y p v = rf_PP z nt ln lo lf pg pf p v := by
  unfold cl_pp rf_PP
  rw [show (75 + (p : Int)).toNat = 75 + p by omega, show (85 + (p : Int)).toNat = 85 + p by omega]
  by_cases v0 : v = 0
  · rw [if_pos v0, if_pos v0]; exact bk_kind_e hb hp
  rw [if_neg v0, if_neg v0]
  by_cases v1 : v = 1
  · rw [if_pos v1, if_pos v1, wo_eq hb nt hp, show (p : Int) + 1 = ((p + 1 : Nat) : Int) by omega, bk_fw_e (by omega), bk_fw_e (by omega)]
  rw [if_neg v1, if_neg v1]
  by_cases v2 : v = 2
  · rw [if_pos v2, if_pos v2, bk_end_e hb hp, bk_start_e hb (by omega)]; omega
  rw [if_neg v2, if_neg v2]
  by_cases v3 : v = 3
  · rw [if_pos v3, if_pos v3]
    have := lp_eq h (p : Int) ln (Nat.le_refl _)
    rw [show Y.2.2.2.1.toNat = ln by rw [h.1]; omega, Int.toNat_natCast]; exact this
  rw [if_neg v3, if_neg v3, bk_start_e hb (by omega)]
  have hz := hb.2.2.2.2.1 p hp
  have := at_page hb h hp (o := 0) (by omega)
  rw [show (rS z p : Int) + 0 = rS z p by omega] at this
  exact this
/-- a page that begins anywhere -/
theorem bo_eq (h : LAYR B z nl nt sy NT Y lo lf lt ln pg pf) (ht : Int) {x : Nat} (hx : x < ln) : ly_BF ht Y.2.2.2.1 sy Y.2.2.2.2.2 x = rf_BO z nl nt sy Y.2.1 ht ln lo lf lt x := by
  rw [h.1]; exact h.2.2.1.bo ht hx
end LAY
