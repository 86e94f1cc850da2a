/-! ===== pure: what a page shows; pages that begin anywhere ===== -/
theorem sol_eq {tx : Nat → Int} {m b L : Nat} {C : Int → Int} (h : sl_ok tx m b L C) {x y : Nat} (hxy : x < y) (hy : y ≤ wd_cnt tx m + 1) {x1 y1 : Int} (e1 : wd_starts m tx x = b + x1) (e2 : wd_starts m tx y - 1 = b + y1) (hx1 : 0 ≤ x1) (hy1 : y1 ≤ L) (ind col : Int) : wd_sol m (wd_cnt tx m + 1) tx (wd_starts m tx) x y ind col = rf_LC C x1 y1 (col - ind) := by
  unfold wd_sol rf_LC
  rw [wst (by omega), show (y : Int) - 1 = ((y - 1 : Nat) : Int) by omega, wen (by omega), show y - 1 + 1 = y by omega, e1, e2]
  by_cases c : ind ≤ col ∧ (b : Int) + x1 + col - ind < b + y1
  · rw [if_pos c, if_pos (by omega)]
    obtain ⟨k, hk⟩ := Int.eq_ofNat_of_zero_le (show 0 ≤ x1 + (col - ind) by omega)
    have hk : x1 + (col - ind) = k := hk
    have h1 := h.1
    rw [hk, h.2.1 k (by omega), show (b : Int) + x1 + col - ind = ((b + k : Nat) : Int) by omega, wd_sg (by omega)]
  · rw [if_neg c, if_neg (by omega)]
theorem c1_add (S : Int) (C : Int → Int) (co : Int) : ∀ (u : Nat) (x m c : Int), rf_c1 S C co u x (m + c) = rf_c1 S C co u x m + c
  | 0, x, m, c => rfl
  | u + 1, x, m, c => by
    unfold rf_c1
    split
    · rw [show m + c + 1 = m + 1 + c by omega]; exact c1_add S C co u _ _ c
    · rfl
/-- a line of a note -/
theorem h1_eq {tx : Nat → Int} {m : Nat} {C : Int → Int} (ht : tw_ok tx m) (hC : ∀ j : Nat, j < m → C j = tx j) (w col : Int) (K : Int → Int) : ∀ (d f uR : Nat) (l : Nat), f + d = wd_cnt tx m + 1 → (m : Int) - wd_starts m tx f ≤ uR →
    ((l : Int) < rf_c1 m C w uR (wd_starts m tx f) 0 ∧ ∃ x y : Nat, wd_fol m (wd_cnt tx m + 1) (wd_starts m tx) w l f = x ∧ wd_fol m (wd_cnt tx m + 1) (wd_starts m tx) w (l + 1) f = y ∧ x < y ∧ y ≤ wd_cnt tx m + 1 ∧ rf_h1 m C w col K uR (wd_starts m tx f) l = rf_LC C (wd_starts m tx x) (wd_starts m tx y - 1) col)
    ∨ (rf_c1 m C w uR (wd_starts m tx f) 0 ≤ l ∧ rf_h1 m C w col K uR (wd_starts m tx f) l = K (l - rf_c1 m C w uR (wd_starts m tx f) 0))
  | 0, f, uR, l, h1, h4 => by
    right
    have e : f = wd_cnt tx m + 1 := by omega
    have e2 := st_n tx m
    rw [← e] at e2
    have ec : rf_c1 m C w uR (wd_starts m tx f) 0 = 0 := by
      cases uR with
      | zero => rfl
      | succ u => unfold rf_c1; rw [if_neg (by omega)]
    have eh : rf_h1 m C w col K uR (wd_starts m tx f) l = K l := by
      cases uR with
      | zero => rfl
      | succ u => unfold rf_h1; rw [if_neg (by omega)]
    rw [ec, eh]
    exact ⟨by omega, by rw [show (l : Int) - 0 = l by omega]⟩
  | d + 1, f, uR, l, h1, h4 => by
    have hsl := nt_sl hC
    have c0 : wd_cnt tx 0 = 0 := rfl
    obtain ⟨w1, w2, w3, w4⟩ := sl_w ht hsl (c := f) ⟨by omega, by rw [Nat.zero_add]; omega⟩
    obtain ⟨uR, rfl⟩ : ∃ v, uR = v + 1 := ⟨uR - 1, by omega⟩
    obtain ⟨y, y1, y2, y3, y4⟩ := LE_eq ht hsl (f := f) ⟨by omega, by rw [Nat.zero_add]; omega⟩ 0 w
    rw [Nat.zero_add] at y1 y3
    rw [show w - 0 = w by omega] at y1
    rw [show wd_starts m tx f - ((0 : Nat) : Int) = wd_starts m tx f by omega] at y4
    have g := st_le ht (x := f) (y := y) (by omega) (by omega)
    have ef : ∀ k : Nat, wd_fol m (wd_cnt tx m + 1) (wd_starts m tx) w (k + 1) f = wd_fol m (wd_cnt tx m + 1) (wd_starts m tx) w k y := fun k => by
      show (if (f : Int) < ((wd_cnt tx m + 1 : Nat) : Int) then _ else _) = _
      rw [if_pos (by omega), y1]
    have ec : rf_c1 m C w (uR + 1) (wd_starts m tx f) 0 = rf_c1 m C w uR (wd_starts m tx y) 0 + 1 := by
      have q := c1_add m C w uR (wd_starts m tx y) 0 1
      show (if wd_starts m tx f < (m : Int) then rf_c1 m C w uR (rf_LE m C (wd_starts m tx f) 0 w + 1) (0 + 1) else 0) = _
      rw [if_pos (by omega), y4, show wd_starts m tx y - 1 - ((0 : Nat) : Int) + 1 = wd_starts m tx y by omega]
      exact q
    have cb := rf_c1_b m C w uR (wd_starts m tx y) 0
    cases l with
    | zero =>
      left
      refine ⟨by rw [ec]; omega, f, y, rfl, ef 0, by omega, y3, ?_⟩
      unfold rf_h1
      rw [if_pos (by omega), if_pos (by omega), y4, show wd_starts m tx y - 1 - ((0 : Nat) : Int) = wd_starts m tx y - 1 by omega]
    | succ l =>
      have eh : rf_h1 m C w col K (uR + 1) (wd_starts m tx f) ((l + 1 : Nat) : Int) = rf_h1 m C w col K uR (wd_starts m tx y) l := by
        show (if _ then _ else _) = _
        rw [if_pos (by omega), if_neg (by omega), y4, show wd_starts m tx y - 1 - ((0 : Nat) : Int) + 1 = wd_starts m tx y by omega, show ((l + 1 : Nat) : Int) - 1 = l by omega]
      rw [eh, ec, ef l, ef (l + 1)]
      rcases h1_eq ht hC w col K (wd_cnt tx m + 1 - y) y uR l (by omega) (by omega) with ⟨q1, x', y', q2⟩ | ⟨q1, q2⟩
      · left; exact ⟨by omega, x', y', q2⟩
      · right
        refine ⟨by omega, ?_⟩
        rw [q2, show ((l + 1 : Nat) : Int) - (rf_c1 m C w uR (wd_starts m tx y) 0 + 1) = (l : Int) - rf_c1 m C w uR (wd_starts m tx y) 0 by omega]
theorem h2_s (z nl nt sy : Nat → Int) (co x9 col : Int) (u : Nat) (k l : Int) : rf_h2 z nl nt sy co x9 col (u + 1) k l = if rf_SN nl sy x9 k = 1 then rf_h1 (rf_sz z nl (10 + k)) (rf_ch z nt (10 + k)) co col (fun l => rf_h2 z nl nt sy co x9 col u (k + 1) l) (rf_sz z nl (10 + k)).toNat 0 l else rf_h2 z nl nt sy co x9 col u (k + 1) l := rfl
theorem sf_eq {NT : nt_T} {z nl nt sy : Nat → Int} (h : NTR NT z nl nt) (h4 : sy 4 = 1) (w x col : Int) {N : Nat → Int} (hN : ∀ k : Nat, k < 10 → N k = ly_nl w NT k) : ∀ (u k l : Nat), k + u = 10 → ly_sf w NT N x col u k l = rf_h2 z nl nt sy w x col u k l
  | 0, k, l, _ => rfl
  | u + 1, k, l, hk => by
    have ih := fun l' => sf_eq h h4 w x col hN u (k + 1) l' (by omega)
    have hd := rf_SN_d nl sy x k
    rw [Int.toNat_natCast] at hd
    rcases h k (by omega) with ⟨q1, q2⟩ | ⟨m, tx, q1, q2, q3, q4, q5⟩
    · rw [ly_sf0 q1, h2_s]
      rw [if_neg (show ¬ rf_SN nl sy x k = 1 by omega), show (k : Int) + 1 = ((k + 1 : Nat) : Int) by omega]
      exact ih l
    · rw [ly_sf1 q1]
      have e : rf_sz z nl (10 + (k : Int)) = m := by unfold rf_sz; rw [if_neg (by omega), show (10 + (k : Int) - 10).toNat = k by omega]; omega
      have eN : N k = rf_c1 m (rf_ch z nt (10 + (k : Int))) w m 0 0 := by
        rw [hN k (by omega)]
        rcases nl_eq h w (k := k) (by omega) with ⟨r, _⟩ | ⟨_, r⟩
        · omega
        · rw [r]; unfold rf_NL; rw [e, show ((m : Nat) : Int).toNat = m by omega]
      rw [h2_s]
      by_cases c : ly_bit x k = 1
      · rw [if_pos c, if_pos (show rf_SN nl sy x k = 1 by omega), e, show ((m : Nat) : Int).toNat = m by omega, eN]
        have hh := h1_eq q4 q5 w col (fun l => rf_h2 z nl nt sy w x col u ((k : Int) + 1) l) (wd_cnt tx m + 1) 0 m l (by omega) (by rw [st_0]; omega)
        rw [st_0] at hh
        rcases hh with ⟨r1, x', y', r2, r3, r4, r5, r6⟩ | ⟨r1, r2⟩
        · rw [if_pos r1, r6, Int.toNat_natCast, show ((l : Int) + 1).toNat = l + 1 by omega]
          have r2 : wd_fol m (wd_cnt tx m + 1) (wd_starts m tx) w l 0 = x' := r2
          have r3 : wd_fol m (wd_cnt tx m + 1) (wd_starts m tx) w (l + 1) 0 = y' := r3
          rw [r2, r3]
          have g := st_le q4 (x := 0) (y := x') (by omega) (by omega)
          have g2 := st_le q4 (x := y') (y := wd_cnt tx m + 1) r5 (by omega)
          rw [st_0] at g
          rw [st_n] at g2
          have := sol_eq (nt_sl q5) r4 r5 (x1 := wd_starts m tx x') (y1 := wd_starts m tx y' - 1) (by omega) (by omega) (by omega) (by omega) 0 col
          rw [this, show col - 0 = col by omega]
        · rw [if_neg (by omega), r2]
          have cb := rf_c1_b m (rf_ch z nt (10 + (k : Int))) w m 0 0
          obtain ⟨l', hl'⟩ := Int.eq_ofNat_of_zero_le (show 0 ≤ (l : Int) - rf_c1 m (rf_ch z nt (10 + (k : Int))) w m 0 0 by omega)
          have hl' : (l : Int) - rf_c1 m (rf_ch z nt (10 + (k : Int))) w m 0 0 = l' := hl'
          rw [hl', show (k : Int) + 1 = ((k + 1 : Nat) : Int) by omega]
          exact ih l'
      · rw [if_neg c, if_neg (show ¬ rf_SN nl sy x k = 1 by omega), show (k : Int) + 1 = ((k + 1 : Nat) : Int) by omega]
        exact ih l
section LAY
variable {B : bk_T} {z nl nt sy : Nat → Int} {NT : nt_T} {Y : ly_T} {lo lf lt : Nat → Int} {ln pg : Nat} {pf : Nat → Int}
theorem sa_eq (hb : RB B z) (h : LAYR B z nl nt sy NT Y lo lf lt ln pg pf) {q : Nat} (hq : q < pg) {row col : Int} (hr : 0 ≤ row ∧ row < Y.2.2.1) : ∀ (u l : Nat) (lr : Int), pf q ≤ l → l + u = pf (q + 1) → (lr = if (l : Int) = pf q then 0 else rf_RO z sy lo lf (pf q) l) →
    ly_sa Y.2.1 Y.2.2.1 Y.2.2.2.1 Y.2.2.2.2.1 B sy NT Y.2.2.2.2.2 q row col u lr l = rf_s1 z nl nt sy Y.2.1 Y.2.2.1 lo lf lt pg pf (pf q) (pf (q + 1)) row col u l
  | 0, l, lr, h1, h2, h3 => by
    obtain ⟨x, y, a1, a2, a3, a4, a5, a6⟩ := pg_eq h hq
    have hno := no_eq h hq
    have e1 : ly_g Y.2.2.2.2.1 (Y.2.2.2.2.2 9) Y.2.2.2.1 (q : Int) = pf q := by rw [a1]; exact a5
    have e2 : ly_g Y.2.2.2.2.1 (Y.2.2.2.2.2 9) Y.2.2.2.1 ((q : Int) + 1) = pf (q + 1) := by rw [a2]; exact a6
    have e3 : ly_NP Y.2.2.2.1 (Y.2.2.2.2.2 7) (pf q) (pf (q + 1)) = rf_NO z nt lo lf lt (pf q) (pf (q + 1)) := by rw [← hno, a1, a2, ← a5, ← a6]; rfl
    have e4 := h.2.2.1.rn (rf_NO z nt lo lf lt (pf q) (pf (q + 1)))
    have e5 : lr = rf_RO z sy lo lf (pf q) (pf (q + 1)) := by rw [h3, if_neg (by omega), ← h2]; rfl
    show ly_st2 _ _ _ _ _ _ _ _ _ _ _ _ = rf_s2 _ _ _ _ _ _ _ _ _ _ _ _ _
    unfold ly_st2 rf_s2
    rw [e1, e2, e3, e4, e5]
    by_cases c0 : rf_NR z nl nt sy Y.2.1 (rf_NO z nt lo lf lt (pf q) (pf (q + 1))) = 0
    · rw [c0, if_pos (by omega), if_pos (Or.inl rfl)]
    · by_cases c1 : row < max (rf_RO z sy lo lf (pf q) (pf (q + 1))) (Y.2.2.1 - rf_NR z nl nt sy Y.2.1 (rf_NO z nt lo lf lt (pf q) (pf (q + 1))))
      · rw [if_pos (by omega), if_pos (Or.inr c1)]
      · rw [if_neg (by omega), if_neg (by omega)]
        unfold ly_SN rf_NC
        by_cases c2 : row = max (rf_RO z sy lo lf (pf q) (pf (q + 1))) (Y.2.2.1 - rf_NR z nl nt sy Y.2.1 (rf_NO z nt lo lf lt (pf q) (pf (q + 1))))
        · rw [if_pos (by omega), if_pos c2]
        · rw [if_neg (by omega), if_neg c2]
          have h4 : sy 4 = 1 := by
            rcases h.2.2.1.2.2.2 with r | r
            · exfalso
              apply c0
              unfold rf_NR
              rw [nr_0 (fun k s => by have := rf_SN_d nl sy (rf_NO z nt lo lf lt (pf q) (pf (q + 1))) k; omega) 10, if_neg (by omega)]
            · exact r
          obtain ⟨k, hk⟩ := Int.eq_ofNat_of_zero_le (show 0 ≤ row - max (rf_RO z sy lo lf (pf q) (pf (q + 1))) (Y.2.2.1 - rf_NR z nl nt sy Y.2.1 (rf_NO z nt lo lf lt (pf q) (pf (q + 1)))) - 1 by omega)
          rw [hk]
          exact sf_eq h.2.2.1.2.2.1 h4 Y.2.1 _ col h.2.2.1.2.1 10 0 k (by omega)
  | u + 1, l, lr, h1, h2, h3 => by
    obtain ⟨x, y, a1, a2, a3, a4, a5, a6⟩ := pg_eq h hq
    have hl : l < ln := by omega
    have e1 : ly_g Y.2.2.2.2.1 (Y.2.2.2.2.2 9) Y.2.2.2.1 (q : Int) = pf q := by rw [a1]; exact a5
    have hpa : rf_PA pg pf l = q := PA_eq h.2.2.2.1 hq h1 (by omega)
    have g5 : ly_g Y.2.2.2.1 (Y.2.2.2.2.2 5) 0 (l : Int) = rf_GB z sy lo lf l := by rw [h.1]; exact h.2.2.1.g5 hl
    obtain ⟨p, xw, yw, b1, b2, b3, b4, b5, b6, b7, b8, b9, b10, b11, b12⟩ := ln_x hb h hl
    obtain ⟨d1, d2, d3, d4, _⟩ := h.2.2.1.1.2.1.bp hb hl
    rw [b2, Int.toNat_natCast] at d4
    have hz := hb.2.2.2.2.1 p b1
    have hrow : lr + (if pf q < l then rf_GB z sy lo lf l else 0) = rf_RA z sy lo lf pg pf l := by
      unfold rf_RA
      rw [hpa, Int.toNat_natCast]
      by_cases c : (l : Int) = pf q
      · rw [h3, if_pos c, if_pos c, if_neg (by omega)]; rfl
      · rw [h3, if_neg c, if_neg c, if_pos (by omega)]
        have := RO_s z sy lo lf (x := x) (l := l) (by omega)
        rw [a1, this]; omega
    have hnext : rf_RA z sy lo lf pg pf l + 1 = if ((l + 1 : Nat) : Int) = pf q then 0 else rf_RO z sy lo lf (pf q) ((l + 1 : Nat) : Int) := by
      rw [if_neg (by omega)]
      unfold rf_RA
      rw [hpa, Int.toNat_natCast, show ((l + 1 : Nat) : Int) = (l : Int) + 1 by omega]
      by_cases c : (l : Int) = pf q
      · rw [if_pos c, ← c, RO_1]; rfl
      · rw [if_neg c]; omega
    have hsol : wd_sol (bk_m B) (bk_n B) (bk_tx B) (bk_s B) (ly_g Y.2.2.2.1 (Y.2.2.2.2.2 2) (bk_n B) l) (ly_g Y.2.2.2.1 (Y.2.2.2.2.2 2) (bk_n B) ((l : Int) + 1)) (ly_g Y.2.2.2.1 (Y.2.2.2.2.2 4) 0 l) col = rf_LC (rf_ch z nt (lo l)) (lf l) (lt l) (col - rf_ID z sy (lo l) (lf l)) := by
      have w1 : ly_g Y.2.2.2.1 (Y.2.2.2.2.2 2) (bk_n B) (l : Int) = xw := b4
      have w2 : ly_g Y.2.2.2.1 (Y.2.2.2.2.2 2) (bk_n B) ((l : Int) + 1) = yw := b5
      have w3 : ly_g Y.2.2.2.1 (Y.2.2.2.2.2 4) 0 (l : Int) = rf_ID z sy p (lf l) := by rw [h.1, lg_i (by omega)]; exact b12
      rw [w1, w2, w3, b2, hb.1.1, hb.1.2]
      have hn := hb.1.1
      refine sol_eq (rb_sl hb nt b1) b6 (by omega) ?_ ?_ d2 (by omega) _ _
      · unfold bk_ws at b10; rw [wst (by omega), hb.1.2] at b10; exact b10
      · rw [show (yw : Int) - 1 = ((yw - 1 : Nat) : Int) by omega, wen (by omega), hb.1.2, show yw - 1 + 1 = yw by omega] at b11; exact b11
    unfold ly_sa rf_s1
    rw [e1, g5, hrow, Int.toNat_natCast, hsol]
    by_cases c : rf_RA z sy lo lf pg pf l = row
    · rw [if_pos c, if_pos c]
    · rw [if_neg c, if_neg c, show (l : Int) + 1 = ((l + 1 : Nat) : Int) by omega]
      exact sa_eq hb h hq hr u (l + 1) _ (by omega) (by omega) hnext
theorem shown_eq (hb : RB B z) (h : LAYR B z nl nt sy NT Y lo lf lt ln pg pf) {P : pg_T} (hP : P.2.1 = sy) {q : Nat} (hq : q < pg) {row col : Int} (hr : 0 ≤ row ∧ row < Y.2.2.1) : cl_sa B P Y NT q row col = rf_SH z nl nt sy Y.2.1 Y.2.2.1 lo lf lt pg pf q row col := by
  obtain ⟨x, y, a1, a2, a3, a4, a5, a6⟩ := pg_eq h hq
  have e1 : ly_g Y.2.2.2.2.1 (Y.2.2.2.2.2 9) Y.2.2.2.1 (q : Int) = pf q := by rw [a1]; exact a5
  have e2 : ly_g Y.2.2.2.2.1 (Y.2.2.2.2.2 9) Y.2.2.2.1 ((q : Int) + 1) = pf (q + 1) := by rw [a2]; exact a6
  unfold cl_sa ly_SA rf_SH
  rw [hP, e1, e2, Int.toNat_natCast, show ((q : Int) + 1).toNat = q + 1 by omega, a1, a2, show ((y : Int) - x).toNat = y - x by omega]
  have := sa_eq (col := col) hb h hq hr (y - x) x 0 (by omega) (by omega) (by rw [if_pos a1.symm])
  rw [a1, a2] at this
  exact this
/-- a page has no more lines than rows -/
theorem b1_few (ht : Int) (x : Nat) : ∀ (u y : Nat), x < y → (hk : rk_ok z sy) → rf_b1 z nl nt sy Y.2.1 ht lo lf lt x u y ≤ max (y : Int) (x + ht) := by
  intro u
  induction u with
  | zero => intro y _ _; show (y : Int) ≤ _; omega
  | succ u ih =>
    intro y hy hk
    have e := ih (y + 1) (by omega) hk
    unfold rf_b1
    split
    · rename_i c
      rw [show (y : Int) + 1 = ((y + 1 : Nat) : Int) by omega]
      have h1 := rf_ro_b hk lo lf (((y : Int) + 1) - ((x : Int) + 1)).toNat ((x : Int) + 1) ((y : Int) + 1 - x)
      have h2 : 0 ≤ rf_NR z nl nt sy Y.2.1 (rf_NO z nt lo lf lt x ((y : Int) + 1)) := by
        unfold rf_NR
        split <;> omega
      have h3 : rf_ND z nl nt sy Y.2.1 lo lf lt x ((y : Int) + 1) = rf_ro z sy lo lf (((y : Int) + 1) - ((x : Int) + 1)).toNat ((x : Int) + 1) ((y : Int) + 1 - x) + rf_NR z nl nt sy Y.2.1 (rf_NO z nt lo lf lt x ((y : Int) + 1)) := rfl
      omega
    · omega
theorem bo_few (ht : Int) (h2 : 1 ≤ ht) {x : Nat} (hx : x < ln) (hk : rk_ok z sy) : rf_BO z nl nt sy Y.2.1 ht ln lo lf lt x ≤ x + ht := by
  have h1 := b1_few (z := z) (nl := nl) (nt := nt) (sy := sy) (Y := Y) (lo := lo) (lf := lf) (lt := lt) ht x (ln - (x + 1)) (x + 1) (by omega) hk
  have h3 : rf_B1 z nl nt sy Y.2.1 ht ln lo lf lt x = rf_b1 z nl nt sy Y.2.1 ht lo lf lt x (ln - (x + 1)) ((x + 1 : Nat) : Int) := by
    unfold rf_B1; rw [show ((ln : Int) - ((x : Int) + 1)).toNat = ln - (x + 1) by omega]; rfl
  have h4 := rf_b2_b z ln lo lf (rf_B1 z nl nt sy Y.2.1 ht ln lo lf lt x) (rf_B1 z nl nt sy Y.2.1 ht ln lo lf lt x - 1 - x).toNat (rf_B1 z nl nt sy Y.2.1 ht ln lo lf lt x - 1)
  unfold rf_BO
  split <;> omega
theorem fb_eq (h : LAYR B z nl nt sy NT Y lo lf lt ln pg pf) (ht : Int) {l : Nat} (hl : l < ln) : ∀ (u x : Nat), x + u = l → ly_fb ht Y.2.2.2.1 sy Y.2.2.2.2.2 l u x = rf_bw z nl nt sy Y.2.1 ht ln lo lf lt l u x
  | 0, x, _ => rfl
  | u + 1, x, hx => by
    unfold ly_fb rf_bw
    rw [bo_eq h ht (by omega), show (x : Int) + 1 = ((x + 1 : Nat) : Int) by omega, fb_eq h ht hl u (x + 1) (by omega)]
theorem bw_skip (ht : Int) (h2 : 1 ≤ ht) (hk : rk_ok z sy) {l : Nat} (hl : l < ln) : ∀ (d u x : Nat), x + d + u = l → x + d + ht ≤ l → rf_bw z nl nt sy Y.2.1 ht ln lo lf lt l (d + u) x = rf_bw z nl nt sy Y.2.1 ht ln lo lf lt l u ((x + d : Nat) : Int)
  | 0, u, x, _, _ => by rw [Nat.zero_add, Nat.add_zero]
  | d + 1, u, x, h1, h3 => by
    have hb := bo_few (z := z) (nl := nl) (nt := nt) (sy := sy) (Y := Y) (lo := lo) (lf := lf) (lt := lt) (ln := ln) ht h2 (x := x) (by omega) hk
    rw [show d + 1 + u = d + u + 1 by omega]
    show (if rf_BO z nl nt sy Y.2.1 ht ln lo lf lt x = l then (x : Int) else rf_bw z nl nt sy Y.2.1 ht ln lo lf lt l (d + u) ((x : Int) + 1)) = _
    rw [if_neg (by omega), show (x : Int) + 1 = ((x + 1 : Nat) : Int) by omega, bw_skip ht h2 hk hl d u (x + 1) (by omega) (by omega), show x + 1 + d = x + (d + 1) by omega]
theorem back_eq (h : LAYR B z nl nt sy NT Y lo lf lt ln pg pf) (hk : rk_ok z sy) (ht : Int) (h2 : 1 ≤ ht) {l : Nat} (hl : l < ln) : ly_fb ht Y.2.2.2.1 sy Y.2.2.2.2.2 l ((l : Int) - max 0 ((l : Int) - ht)).toNat (max 0 ((l : Int) - ht)) = rf_BW z nl nt sy Y.2.1 ht ln lo lf lt l := by
  obtain ⟨c, hc⟩ := Int.eq_ofNat_of_zero_le (show 0 ≤ max 0 ((l : Int) - ht) by omega)
  have hc : max 0 ((l : Int) - ht) = c := hc
  rw [hc, show ((l : Int) - c).toNat = l - c by omega, fb_eq h ht hl (l - c) c (by omega)]
  unfold rf_BW
  rw [Int.toNat_natCast]
  by_cases e : c = 0
  · subst e; rfl
  · have := bw_skip (z := z) (nl := nl) (nt := nt) (sy := sy) (Y := Y) (lo := lo) (lf := lf) (lt := lt) ht h2 hk hl c (l - c) 0 (by omega) (by omega)
    rw [show c + (l - c) = l by omega, Nat.zero_add] at this
    exact this.symm
end LAY
