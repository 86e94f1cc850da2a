/-! ===== the reference: pages ===== -/
theorem rf_l1_ok {z nl nt sy : Nat → Int} {co q : Int} (hq : 0 ≤ q ∧ q < z 0) (h10 : z 0 ≤ 10) : ∀ (u : Nat) (x ln : Int) (lo lf lt : Nat → Int), 0 ≤ x → 0 ≤ ln → (∀ l : Nat, (l : Int) < ln → (0 ≤ lo l ∧ lo l < z 0) ∧ 0 ≤ lf l ∧ lf l ≤ lt l ∧ lt l ≤ z (85 + lo l).toNat) → ∀ l : Nat, (l : Int) < (rf_l1 z nl nt sy co q u x ln lo lf lt).1 → (0 ≤ (rf_l1 z nl nt sy co q u x ln lo lf lt).2.1 l ∧ (rf_l1 z nl nt sy co q u x ln lo lf lt).2.1 l < z 0) ∧ 0 ≤ (rf_l1 z nl nt sy co q u x ln lo lf lt).2.2.1 l ∧ (rf_l1 z nl nt sy co q u x ln lo lf lt).2.2.1 l ≤ (rf_l1 z nl nt sy co q u x ln lo lf lt).2.2.2 l ∧ (rf_l1 z nl nt sy co q u x ln lo lf lt).2.2.2 l ≤ z (85 + (rf_l1 z nl nt sy co q u x ln lo lf lt).2.1 l).toNat
  | 0, x, ln, lo, lf, lt, _, _, h => h
  | u + 1, x, ln, lo, lf, lt, hx, hl, h => by
    unfold rf_l1
    split
    · rename_i hxs
      have wlt := rf_LT_b z nl nt sy co q x
      have es : rf_sz z nl q = z (85 + q).toNat := if_pos (by omega)
      refine rf_l1_ok hq h10 u _ _ _ _ _ (by omega) (by omega) (fun l hl2 => ?_)
      unfold va_up
      by_cases e : l = ln.toNat
      · rw [if_pos e, if_pos e, if_pos e]; omega
      · rw [if_neg e, if_neg e, if_neg e]; exact h l (by omega)
    · exact h
theorem rf_l2_ok {z nl nt sy : Nat → Int} {co : Int} (h10 : z 0 ≤ 10) : ∀ (u : Nat) (q ln : Int) (lo lf lt : Nat → Int), 0 ≤ q → q + u ≤ z 0 → 0 ≤ ln → (∀ l : Nat, (l : Int) < ln → (0 ≤ lo l ∧ lo l < z 0) ∧ 0 ≤ lf l ∧ lf l ≤ lt l ∧ lt l ≤ z (85 + lo l).toNat) → ∀ l : Nat, (l : Int) < (rf_l2 z nl nt sy co u q ln lo lf lt).1 → (0 ≤ (rf_l2 z nl nt sy co u q ln lo lf lt).2.1 l ∧ (rf_l2 z nl nt sy co u q ln lo lf lt).2.1 l < z 0) ∧ 0 ≤ (rf_l2 z nl nt sy co u q ln lo lf lt).2.2.1 l ∧ (rf_l2 z nl nt sy co u q ln lo lf lt).2.2.1 l ≤ (rf_l2 z nl nt sy co u q ln lo lf lt).2.2.2 l ∧ (rf_l2 z nl nt sy co u q ln lo lf lt).2.2.2 l ≤ z (85 + (rf_l2 z nl nt sy co u q ln lo lf lt).2.1 l).toNat
  | 0, q, ln, lo, lf, lt, _, _, _, h => h
  | u + 1, q, ln, lo, lf, lt, hq, hu, hl, h => by
    have m := rf_l1_m z nl nt sy co q (z (85 + q).toNat).toNat 0 ln lo lf lt
    unfold rf_l2
    exact rf_l2_ok h10 u _ _ _ _ _ (by omega) (by omega) (by omega) (rf_l1_ok (by omega) h10 _ _ _ _ _ _ (by omega) hl h)
theorem rf_LL_ok {z nl nt sy : Nat → Int} {co : Int} {lo lf lt : Nat → Int} (hz : rz_ok z) (hF : (rf_LL z nl nt sy co lo lf lt).1 ≤ 240) : rl_ok z (rf_LL z nl nt sy co lo lf lt).1 (rf_LL z nl nt sy co lo lf lt).2.1 (rf_LL z nl nt sy co lo lf lt).2.2.1 (rf_LL z nl nt sy co lo lf lt).2.2.2 :=
  ⟨⟨rf_l2_m z nl nt sy co _ _ _ _ _ _, hF⟩, rf_l2_ok hz.2.1.2 _ _ _ _ _ _ (by omega) (by have := hz.2.1; omega) (by omega) (fun l hl => by omega)⟩
theorem rf_p1_ok (z nl nt sy : Nat → Int) (co ro ln : Int) (lo lf lt : Nat → Int) : ∀ (u : Nat) (x pg : Int) (pf : Nat → Int), 0 ≤ pg ∧ pg ≤ x ∧ x ≤ ln → ln - x ≤ u → (∀ k : Nat, (k : Int) < pg → va_up pf pg.toNat x k < va_up pf pg.toNat x (k + 1)) → (∀ k : Nat, (k : Int) ≤ pg → 0 ≤ va_up pf pg.toNat x k ∧ va_up pf pg.toNat x k ≤ ln) → va_up pf pg.toNat x 0 = 0 →
    rp_ok ln (rf_p1 z nl nt sy co ro ln lo lf lt u x pg pf).1 (va_up (rf_p1 z nl nt sy co ro ln lo lf lt u x pg pf).2 (rf_p1 z nl nt sy co ro ln lo lf lt u x pg pf).1.toNat ln)
  | 0, x, pg, pf, h1, h2, h3, h4, h5 => by
    have e : x = ln := by omega
    subst e
    exact ⟨by show 0 ≤ pg ∧ pg ≤ x; omega, h3, h4, va_up_self _ _ _, h5⟩
  | u + 1, x, pg, pf, h1, h2, h3, h4, h5 => by
    unfold rf_p1
    split
    · rename_i hx
      have hb := rf_BO_b z nl nt sy co ro ln lo lf lt hx
      refine rf_p1_ok z nl nt sy co ro ln lo lf lt u _ _ _ (by omega) (by omega) (fun k hk => ?_) (fun k hk => ?_) ?_
      · by_cases e : (k : Int) = pg
        · rw [va_up_ne _ _ (by omega), show k + 1 = (pg + 1).toNat by omega, va_up_self, show k = pg.toNat by omega, va_up_self]; omega
        · rw [va_up_ne (va_up pf pg.toNat x) _ (show k ≠ (pg + 1).toNat by omega), va_up_ne (va_up pf pg.toNat x) _ (show k + 1 ≠ (pg + 1).toNat by omega)]; exact h3 k (by omega)
      · by_cases e : (k : Int) = pg + 1
        · rw [show k = (pg + 1).toNat by omega, va_up_self]; omega
        · rw [va_up_ne _ _ (by omega)]; exact h4 k (by omega)
      · rw [va_up_ne _ _ (by omega)]; exact h5
    · have e : x = ln := by omega
      subst e
      exact ⟨by show 0 ≤ pg ∧ pg ≤ x; omega, h3, h4, va_up_self _ _ _, h5⟩
theorem rf_PG_ok (z nl nt sy : Nat → Int) (co ro : Int) {ln : Int} (lo lf lt pf : Nat → Int) (hl : 0 ≤ ln) : rp_ok ln (rf_PG z nl nt sy co ro ln lo lf lt pf).1 (va_up (rf_PG z nl nt sy co ro ln lo lf lt pf).2 (rf_PG z nl nt sy co ro ln lo lf lt pf).1.toNat ln) :=
  rf_p1_ok z nl nt sy co ro ln lo lf lt _ _ _ _ (by omega) (by omega) (fun k hk => by omega) (fun k hk => (show k = 0 by omega) ▸ ⟨Int.le_refl _, hl⟩) rfl
def rf_pa (pf : Nat → Int) (l : Int) : Nat → Int → Int
  | 0, k => k
  | u + 1, k => if pf (k + 1).toNat ≤ l then rf_pa pf l u (k + 1) else k
def rf_PA (pg : Int) (pf : Nat → Int) (l : Int) : Int := rf_pa pf l pg.toNat 0
theorem rf_pa_b {ln pg : Int} {pf : Nat → Int} (hp : rp_ok ln pg pf) {l : Int} (hl : l < ln) : ∀ (u : Nat) (k : Int), 0 ≤ k ∧ k < pg → k + u = pg → k ≤ rf_pa pf l u k ∧ rf_pa pf l u k < pg
  | 0, k, h, hu => by omega
  | u + 1, k, h, hu => by
    unfold rf_pa
    split
    · rename_i q
      have hk : k + 1 < pg := by
        by_cases e : k + 1 = pg
        · have := hp.2.2.2.1; rw [← e] at this; omega
        · omega
      have := rf_pa_b hp hl u (k + 1) (by omega) (by omega); omega
    · omega
theorem rp_ok.pos {ln pg : Int} {pf : Nat → Int} (hp : rp_ok ln pg pf) (hl : 0 < ln) : 0 < pg := by
  obtain ⟨h1, h2, h3, h4, h5⟩ := hp
  by_cases e : pg = 0
  · rw [e] at h4; have : pf 0 = ln := h4; omega
  · omega
theorem rf_PA_b {ln pg : Int} {pf : Nat → Int} (hp : rp_ok ln pg pf) {l : Int} (hl : 0 ≤ l ∧ l < ln) : 0 ≤ rf_PA pg pf l ∧ rf_PA pg pf l < pg := by
  have h0 := hp.pos (by omega)
  exact rf_pa_b hp hl.2 _ _ (by omega) (by omega)
def rf_la (lo lf : Nat → Int) (q o : Int) : Nat → Int → Int → Int
  | 0, _, x => x
  | u + 1, l, x => rf_la lo lf q o u (l + 1) (if lo l.toNat = q ∧ lf l.toNat ≤ o then l else x)
def rf_LA (ln : Int) (lo lf : Nat → Int) (q o : Int) : Int := rf_la lo lf q o ln.toNat 0 0
theorem rf_la_b {ln : Int} (lo lf : Nat → Int) (q o : Int) : ∀ (u : Nat) (l x : Int), 0 ≤ l → l + u = ln → 0 ≤ x ∧ x < ln → 0 ≤ rf_la lo lf q o u l x ∧ rf_la lo lf q o u l x < ln
  | 0, l, x, _, _, h => h
  | u + 1, l, x, h1, h2, h3 => by
    unfold rf_la
    refine rf_la_b lo lf q o u _ _ (by omega) (by omega) ?_
    split <;> omega
theorem rf_LA_b {ln : Int} (lo lf : Nat → Int) (q o : Int) (hl : 0 < ln) : 0 ≤ rf_LA ln lo lf q o ∧ rf_LA ln lo lf q o < ln := rf_la_b lo lf q o _ _ _ (by omega) (by omega) (by omega)
def rf_PW (ln : Int) (lo lf : Nat → Int) (pg : Int) (pf : Nat → Int) (q o : Int) : Int := rf_PA pg pf (rf_LA ln lo lf q o)
def rf_FO (lo lf : Nat → Int) (l : Int) : Int := 1000 * lo l.toNat + lf l.toNat
def rf_bt (x : Int) : Nat → Int
  | 0 => 0
  | k + 1 => rf_bt x k + ly_bit x k
def rf_EO (ln : Int) (lo lt : Nat → Int) (l : Int) : Int := if rf_IL ln lo l = 1 then lt l.toNat else lt l.toNat + 1
def rf_MK (z : Nat → Int) (ln : Int) (lo lf lt : Nat → Int) (l k : Int) : Int := if z (15 + 5 * k).toNat = lo l.toNat ∧ z (15 + 5 * k + 1).toNat < rf_EO ln lo lt l ∧ lf l.toNat < z (15 + 5 * k + 2).toNat ∧ z (15 + 5 * k + 4).toNat = 0 then 1 else 0
theorem rf_MK_b (z : Nat → Int) (ln : Int) (lo lf lt : Nat → Int) (l k : Int) : rf_MK z ln lo lf lt l k = 0 ∨ rf_MK z ln lo lf lt l k = 1 := by unfold rf_MK; split <;> omega
def rf_a1 (z : Nat → Int) (ln : Int) (lo lf lt : Nat → Int) (k : Int) : Nat → Int → Int → Int
  | 0, _, x => x
  | u + 1, l, x => rf_a1 z ln lo lf lt k u (l + 1) (if x = 1 ∨ rf_MK z ln lo lf lt l k = 1 then 1 else 0)
theorem rf_a1_b (z : Nat → Int) (ln : Int) (lo lf lt : Nat → Int) (k : Int) : ∀ (u : Nat) (l x : Int), (x = 0 ∨ x = 1) → rf_a1 z ln lo lf lt k u l x = 0 ∨ rf_a1 z ln lo lf lt k u l x = 1
  | 0, l, x, h => h
  | u + 1, l, x, h => by unfold rf_a1; exact rf_a1_b z ln lo lf lt k u _ _ (by split <;> omega)
def rf_a2 (z : Nat → Int) (ln : Int) (lo lf lt : Nat → Int) (x y : Int) : Nat → Int
  | 0 => 0
  | k + 1 => rf_a2 z ln lo lf lt x y k + (if rf_a1 z ln lo lf lt k (y - x).toNat x 0 = 1 then 1 else 0)
def rf_AO (z : Nat → Int) (ln : Int) (lo lf lt : Nat → Int) (x y : Int) : Int := rf_a2 z ln lo lf lt x y (z 14).toNat
def rf_PN (z nl nt sy : Nat → Int) (co ln : Int) (lo lf lt pf : Nat → Int) (q v : Int) : Int :=
  if v = 0 then rf_FO lo lf (pf q.toNat) else if v = 1 then (if pf (q + 1).toNat = ln then -1 else rf_FO lo lf (pf (q + 1).toNat)) else if v = 2 then pf (q + 1).toNat - pf q.toNat else if v = 3 then rf_RO z sy lo lf (pf q.toNat) (pf (q + 1).toNat)
  else if v = 4 then rf_NR z nl nt sy co (rf_NO z nt lo lf lt (pf q.toNat) (pf (q + 1).toNat)) else if v = 5 then rf_bt (rf_NO z nt lo lf lt (pf q.toNat) (pf (q + 1).toNat)) 10 else rf_AO z ln lo lf lt (pf q.toNat) (pf (q + 1).toNat)
def rf_RA (z sy lo lf : Nat → Int) (pg : Int) (pf : Nat → Int) (l : Int) : Int := if l = pf (rf_PA pg pf l).toNat then 0 else rf_RO z sy lo lf (pf (rf_PA pg pf l).toNat) (l + 1) - 1
def rf_wb (C : Int → Int) : Nat → Int → Int → Int
  | 0, _, c => c
  | u + 1, k, c => rf_wb C u (k + 1) (c + (if C k = 32 then 1 else 0))
def rf_WB (C : Int → Int) (x y : Int) : Int := rf_wb C (y - x).toNat x 0
def rf_LN (z nt sy lo lf lt : Nat → Int) (pg : Int) (pf : Nat → Int) (l v : Int) : Int :=
  if v = 0 then lo l.toNat else if v = 1 then rf_WB (rf_ch z nt (lo l.toNat)) 0 (lf l.toNat) else if v = 2 then rf_WB (rf_ch z nt (lo l.toNat)) (lf l.toNat) (lt l.toNat) + 1 else if v = 3 then rf_ID z sy (lo l.toNat) (lf l.toNat) + lt l.toNat - lf l.toNat else if v = 4 then rf_PA pg pf l else rf_RA z sy lo lf pg pf l
section RF
variable {G : ji_G} {d n : Nat} {f : Nat → ji_C} {th ed wi ht sz rs rr rq rp mm ln co ro pg : Int} {z kp nt nl sy bf lo lf lt pf : Nat → Int} {hsh : Int64}
set_option maxHeartbeats 4000000 in
set_option maxRecDepth 100000 in
theorem r_layPages_l {bc bs : Nat} {w h : Int} {R : Int × (Nat → Int)} (hz : rz_ok z) (hn : nl_ok nl nt) (hk : rk_ok z sy) (hc9 : 0 ≤ co ∧ co ≤ 100) (hrl : rl_ok z ln lo lf lt) (hrc : rc_ok z) (hro : 0 ≤ ro ∧ ro ≤ 100) : ∀ (u : Nat) (x pg : Int) (pf : Nat → Int), 0 ≤ pg ∧ pg ≤ x ∧ x ≤ ln → ln - x ≤ u → R = rf_p1 z nl nt sy co ro ln lo lf lt u x pg pf →
    JW G (d + 7) mX8_layPages 17 [some (.ref 60), some (.int (jI w)), some (.int (jI h)), some (.int (jI x))] [] (n, rf_f f th z kp ed nt nl wi ht sy sz bf rs rr rq rp mm ln lo lf lt co ro pg pf hsh) bc bs (fun r9 h9 => r9 = .inl none ∧ h9 = (n, rf_f f th z kp ed nt nl wi ht sy sz bf rs rr rq rp mm ln lo lf lt co ro R.1 (va_up R.2 R.1.toNat ln) hsh)) := by
  obtain ⟨r1, r2⟩ := id hrl
  intro u
  induction u with
  | zero =>
    intro x pg pf hx hu hR
    refine ji_iload_n dX8_layPages_17 rfl ?_
    refine ji_aload_n dX8_layPages_18 rfl trivial ?_
    refine ji_get (ci := 8) (k := 16) rfl dX8_layPages_19 lX8_122 (by decide) (rf_60) rfl ?_
    refine ji_icmp_ge (tgt := 54) dX8_layPages_22 rfl (by omega) (by omega) (fun c22 => ?_) (fun c22 => absurd c22 (by omega))
    refine ji_aload_n dX8_layPages_54 rfl trivial ?_
    refine ji_get (ci := 8) (k := 23) rfl dX8_layPages_55 lX8_44 (by decide) (rf_60) rfl ?_
    refine ji_aload_n dX8_layPages_58 rfl trivial ?_
    refine ji_get (ci := 8) (k := 22) rfl dX8_layPages_59 lX8_170 (by decide) (rf_60) rfl ?_
    refine ji_aload_n dX8_layPages_62 rfl trivial ?_
    refine ji_get (ci := 8) (k := 16) rfl dX8_layPages_63 lX8_122 (by decide) (rf_60) rfl ?_
    refine ji_iastoreE dX8_layPages_66 (rf_70) (by omega) (rf_s70) ?_
    exact ji_return dX8_layPages_67 rfl ⟨rfl, by rw [hR]; rfl⟩
  | succ u ih =>
    intro x pg pf hx hu hR
    have wb : x < ln → x + 1 ≤ rf_BO z nl nt sy co ro ln lo lf lt x ∧ rf_BO z nl nt sy co ro ln lo lf lt x ≤ ln := fun h => rf_BO_b z nl nt sy co ro ln lo lf lt h
    refine ji_iload_n dX8_layPages_17 rfl ?_
    refine ji_aload_n dX8_layPages_18 rfl trivial ?_
    refine ji_get (ci := 8) (k := 16) rfl dX8_layPages_19 lX8_122 (by decide) (rf_60) rfl ?_
    refine ji_icmp_ge (tgt := 54) dX8_layPages_22 rfl (by omega) (by omega) (fun c22 => ?_) (fun c22 => ?_)
    · try (exfalso; omega)
      all_goals
        refine ji_aload_n dX8_layPages_54 rfl trivial ?_
        refine ji_get (ci := 8) (k := 23) rfl dX8_layPages_55 lX8_44 (by decide) (rf_60) rfl ?_
        refine ji_aload_n dX8_layPages_58 rfl trivial ?_
        refine ji_get (ci := 8) (k := 22) rfl dX8_layPages_59 lX8_170 (by decide) (rf_60) rfl ?_
        refine ji_aload_n dX8_layPages_62 rfl trivial ?_
        refine ji_get (ci := 8) (k := 16) rfl dX8_layPages_63 lX8_122 (by decide) (rf_60) rfl ?_
        refine ji_iastoreE dX8_layPages_66 (rf_70) (by omega) (rf_s70) ?_
        exact ji_return dX8_layPages_67 rfl ⟨rfl, by rw [hR, rf_p1, if_neg (by omega)]⟩
    · try (exfalso; omega)
      all_goals
        refine ji_aload_n dX8_layPages_25 rfl trivial ?_
        refine ji_get (ci := 8) (k := 23) rfl dX8_layPages_26 lX8_44 (by decide) (rf_60) rfl ?_
        refine ji_aload_n dX8_layPages_29 rfl trivial ?_
        refine ji_get (ci := 8) (k := 22) rfl dX8_layPages_30 lX8_170 (by decide) (rf_60) rfl ?_
        refine ji_iload_n dX8_layPages_33 rfl ?_
        refine ji_iastoreE dX8_layPages_34 (rf_70) (by omega) (rf_s70) ?_
        refine ji_aload_n dX8_layPages_35 rfl trivial ?_
        refine ji_dup dX8_layPages_36 rfl ?_
        refine ji_get (ci := 8) (k := 22) rfl dX8_layPages_37 lX8_170 (by decide) (rf_60) rfl ?_
        refine ji_iconst dX8_layPages_40 ?_
        refine ji_iadd dX8_layPages_41 ?_
        refine ji_putE (ci := 8) (k := 22) rfl dX8_layPages_42 lX8_170 (by decide) (rf_60) (by simp [rf_c]) (ji_fitI _) rfl (rf_ppg) ?_
        refine ji_aload_n dX8_layPages_45 rfl trivial ?_
        refine ji_iload_n dX8_layPages_46 rfl ?_
        refine ji_cV dX8_layPages_47 (r_breakOf hz hn hk hc9 hrl hrc hro (by omega)) rfl (rf_60) rfl rfl wX8_breakOf vX8_breakOf lX8_173 rfl (Nat.le_of_ble_eq_true rfl) rfl ?_
        refine ji_istore_n dX8_layPages_50 (by decide) rfl ?_
        refine ji_goto (tgt := 17) dX8_layPages_51 rfl ?_
        exact ih _ _ _ (by omega) (by omega) (by rw [hR, rf_p1, if_pos (by omega)])

set_option maxHeartbeats 4000000 in
set_option maxRecDepth 100000 in
theorem r_layPages (hz : rz_ok z) (hn : nl_ok nl nt) (hk : rk_ok z sy) (hrc : rc_ok z) {w h : Int} (hw : 0 ≤ w ∧ w ≤ 100) (hh9 : 0 ≤ h ∧ h ≤ 100) (hF : (rf_LL z nl nt sy w lo lf lt).1 ≤ 240) : JR G (d + 7) mX8_layPages [.ref 60, .int (jI w), .int (jI h)] (n, rf_f f th z kp ed nt nl wi ht sy sz bf rs rr rq rp mm ln lo lf lt co ro pg pf hsh) 0 0 none (n, rf_f f th z kp ed nt nl wi ht sy sz bf rs rr rq rp mm ((rf_LL z nl nt sy w lo lf lt).1) ((rf_LL z nl nt sy w lo lf lt).2.1) ((rf_LL z nl nt sy w lo lf lt).2.2.1) ((rf_LL z nl nt sy w lo lf lt).2.2.2) w h ((rf_PG z nl nt sy w h (rf_LL z nl nt sy w lo lf lt).1 (rf_LL z nl nt sy w lo lf lt).2.1 (rf_LL z nl nt sy w lo lf lt).2.2.1 (rf_LL z nl nt sy w lo lf lt).2.2.2 pf).1) (va_up (rf_PG z nl nt sy w h (rf_LL z nl nt sy w lo lf lt).1 (rf_LL z nl nt sy w lo lf lt).2.1 (rf_LL z nl nt sy w lo lf lt).2.2.1 (rf_LL z nl nt sy w lo lf lt).2.2.2 pf).2 (rf_PG z nl nt sy w h (rf_LL z nl nt sy w lo lf lt).1 (rf_LL z nl nt sy w lo lf lt).2.1 (rf_LL z nl nt sy w lo lf lt).2.2.1 (rf_LL z nl nt sy w lo lf lt).2.2.2 pf).1.toNat (rf_LL z nl nt sy w lo lf lt).1) hsh) := by
  have hrl := rf_LL_ok hz hF
  refine ji_ent (by decide) rfl (Nat.le_of_ble_eq_true rfl) rfl ?_
  refine ji_aload_n dX8_layPages_0 rfl trivial ?_
  refine ji_iload_n dX8_layPages_1 rfl ?_
  refine ji_cVv dX8_layPages_2 (r_layLines hz hn hk (by omega) hF) rfl (rf_60) rfl rfl wX8_layLines vX8_layLines lX8_166 rfl (Nat.le_of_ble_eq_true rfl) rfl ?_
  refine ji_aload_n dX8_layPages_5 rfl trivial ?_
  refine ji_iload_n dX8_layPages_6 rfl ?_
  refine ji_putE (ci := 8) (k := 21) rfl dX8_layPages_7 lX8_160 (by decide) (rf_60) (by simp [rf_c]) (ji_fitI _) rfl (rf_pro) ?_
  refine ji_aload_n dX8_layPages_10 rfl trivial ?_
  refine ji_iconst dX8_layPages_11 ?_
  refine ji_putE (ci := 8) (k := 22) rfl dX8_layPages_12 lX8_170 (by decide) (rf_60) (by simp [rf_c]) (ji_fitI _) rfl (rf_ppg) ?_
  refine ji_iconst dX8_layPages_15 ?_
  refine ji_istore_n dX8_layPages_16 (by decide) rfl ?_
  exact r_layPages_l hz hn hk hw hrl hrc hh9 (rf_LL z nl nt sy w lo lf lt).1.toNat 0 0 pf (by have := hrl.1; omega) (by omega) rfl

set_option maxHeartbeats 4000000 in
set_option maxRecDepth 100000 in
theorem r_layAll (hz : rz_ok z) (hn : nl_ok nl nt) (hk : rk_ok z sy) (hrc : rc_ok z) (hw : 0 ≤ wi ∧ wi ≤ 100) (hh9 : 0 ≤ ht ∧ ht ≤ 100) (hF : (rf_LL z nl nt sy wi lo lf lt).1 ≤ 240) : JR G (d + 8) mX8_layAll [.ref 60] (n, rf_f f th z kp ed nt nl wi ht sy sz bf rs rr rq rp mm ln lo lf lt co ro pg pf hsh) 0 0 none (n, rf_f f th z kp ed nt nl wi ht sy sz bf rs rr rq rp mm ((rf_LL z nl nt sy wi lo lf lt).1) ((rf_LL z nl nt sy wi lo lf lt).2.1) ((rf_LL z nl nt sy wi lo lf lt).2.2.1) ((rf_LL z nl nt sy wi lo lf lt).2.2.2) wi ht ((rf_PG z nl nt sy wi ht (rf_LL z nl nt sy wi lo lf lt).1 (rf_LL z nl nt sy wi lo lf lt).2.1 (rf_LL z nl nt sy wi lo lf lt).2.2.1 (rf_LL z nl nt sy wi lo lf lt).2.2.2 pf).1) (va_up (rf_PG z nl nt sy wi ht (rf_LL z nl nt sy wi lo lf lt).1 (rf_LL z nl nt sy wi lo lf lt).2.1 (rf_LL z nl nt sy wi lo lf lt).2.2.1 (rf_LL z nl nt sy wi lo lf lt).2.2.2 pf).2 (rf_PG z nl nt sy wi ht (rf_LL z nl nt sy wi lo lf lt).1 (rf_LL z nl nt sy wi lo lf lt).2.1 (rf_LL z nl nt sy wi lo lf lt).2.2.1 (rf_LL z nl nt sy wi lo lf lt).2.2.2 pf).1.toNat (rf_LL z nl nt sy wi lo lf lt).1) hsh) := by
  refine ji_ent (by decide) rfl (Nat.le_of_ble_eq_true rfl) rfl ?_
  refine ji_aload_n dX8_layAll_0 rfl trivial ?_
  refine ji_aload_n dX8_layAll_1 rfl trivial ?_
  refine ji_get (ci := 8) (k := 6) rfl dX8_layAll_2 lX8_22 (by decide) (rf_60) rfl ?_
  refine ji_aload_n dX8_layAll_5 rfl trivial ?_
  refine ji_get (ci := 8) (k := 7) rfl dX8_layAll_6 lX8_26 (by decide) (rf_60) rfl ?_
  refine ji_cVv dX8_layAll_9 (r_layPages hz hn hk hrc (by omega) (by omega) hF) rfl (rf_60) rfl rfl wX8_layPages vX8_layPages lX8_176 rfl (Nat.le_of_ble_eq_true rfl) rfl ?_
  exact ji_return dX8_layAll_12 rfl ⟨rfl, rfl⟩

set_option maxHeartbeats 4000000 in
set_option maxRecDepth 100000 in
theorem r_pageAt_l {bc bs : Nat} {l R : Int} (hpk : rp_ok ln pg pf) (hl : 0 ≤ l ∧ l < ln) (h240 : ln ≤ 240) : ∀ (u : Nat) (k : Int), 0 ≤ k ∧ k < pg → k + u = pg → R = rf_pa pf l u k →
    JW G d mX8_pageAt 2 [some (.ref 60), some (.int (jI l)), some (.int (jI k))] [] (n, rf_f f th z kp ed nt nl wi ht sy sz bf rs rr rq rp mm ln lo lf lt co ro pg pf hsh) bc bs (fun r9 h9 => r9 = .inl (some (.int (jI R))) ∧ h9 = (n, rf_f f th z kp ed nt nl wi ht sy sz bf rs rr rq rp mm ln lo lf lt co ro pg pf hsh)) := by
  obtain ⟨p1, p2, p3, p4, p5⟩ := id hpk
  intro u
  induction u with
  | zero =>
    intro k hk hu hR
    exfalso; omega
  | succ u ih =>
    intro k hk hu hR
    have w3 := p3 (k + 1).toNat (by omega)
    refine ji_aload_n dX8_pageAt_2 rfl trivial ?_
    refine ji_get (ci := 8) (k := 23) rfl dX8_pageAt_3 lX8_44 (by decide) (rf_60) rfl ?_
    refine ji_iload_n dX8_pageAt_6 rfl ?_
    refine ji_iconst dX8_pageAt_7 ?_
    refine ji_iadd dX8_pageAt_8 ?_
    refine ji_iaload dX8_pageAt_9 (rf_70) (by omega) ?_
    refine ji_iload_n dX8_pageAt_10 rfl ?_
    refine ji_icmp_gt (tgt := 20) dX8_pageAt_11 rfl (by omega) (by omega) (fun c11 => ?_) (fun c11 => ?_)
    · try (exfalso; omega)
      all_goals
        refine ji_iload_n dX8_pageAt_20 rfl ?_
        exact ji_ireturn dX8_pageAt_21 rfl (rfl) ⟨jr_i (by rw [hR, rf_pa, if_neg (by omega)]), rfl⟩
    · try (exfalso; omega)
      all_goals
        refine ji_iinc dX8_pageAt_14 (by decide) rfl rfl ?_
        refine ji_goto (tgt := 2) dX8_pageAt_17 rfl ?_
        exact ih _ (by by_cases e : k + 1 = pg; (rw [← e] at p4; omega); omega) (by omega) (by rw [hR, rf_pa, if_pos (by omega)])

set_option maxHeartbeats 4000000 in
set_option maxRecDepth 100000 in
theorem r_pageAt {l : Int} (hpk : rp_ok ln pg pf) (hl : 0 ≤ l ∧ l < ln) (h240 : ln ≤ 240) : JR G d mX8_pageAt [.ref 60, .int (jI l)] (n, rf_f f th z kp ed nt nl wi ht sy sz bf rs rr rq rp mm ln lo lf lt co ro pg pf hsh) 0 0 (some (.int (jI (rf_PA pg pf l)))) (n, rf_f f th z kp ed nt nl wi ht sy sz bf rs rr rq rp mm ln lo lf lt co ro pg pf hsh) := by
  have h0 := hpk.pos (by omega)
  refine ji_ent (by decide) rfl (Nat.le_of_ble_eq_true rfl) rfl ?_
  refine ji_iconst dX8_pageAt_0 ?_
  refine ji_istore_n dX8_pageAt_1 (by decide) rfl ?_
  exact r_pageAt_l hpk hl h240 pg.toNat 0 (by omega) (by omega) rfl

set_option maxHeartbeats 4000000 in
set_option maxRecDepth 100000 in
theorem r_lineAt_l {bc bs : Nat} {R : Int} (hz : rz_ok z) (hrl : rl_ok z ln lo lf lt) {q o : Int} (b_q : -2147483648 ≤ q ∧ q < 2147483648) (b_o : -2147483648 ≤ o ∧ o < 2147483648) : ∀ (u : Nat) (x l : Int), 0 ≤ l ∧ l + u = ln → R = rf_la lo lf q o u l x →
    JW G d mX8_lineAt 5 [some (.ref 60), some (.int (jI q)), some (.int (jI o)), some (.int (jI x)), some (.int (jI l))] [] (n, rf_f f th z kp ed nt nl wi ht sy sz bf rs rr rq rp mm ln lo lf lt co ro pg pf hsh) bc bs (fun r9 h9 => r9 = .inl (some (.int (jI R))) ∧ h9 = (n, rf_f f th z kp ed nt nl wi ht sy sz bf rs rr rq rp mm ln lo lf lt co ro pg pf hsh)) := by
  obtain ⟨r1, r2⟩ := id hrl
  have zb := hz.2.1
  intro u
  induction u with
  | zero =>
    intro x l hl hR
    refine ji_iload dX8_lineAt_5 rfl ?_
    refine ji_aload_n dX8_lineAt_7 rfl trivial ?_
    refine ji_get (ci := 8) (k := 16) rfl dX8_lineAt_8 lX8_122 (by decide) (rf_60) rfl ?_
    refine ji_icmp_ge (tgt := 49) dX8_lineAt_11 rfl (by omega) (by omega) (fun c11 => ?_) (fun c11 => absurd c11 (by omega))
    refine ji_iload_n dX8_lineAt_49 rfl ?_
    exact ji_ireturn dX8_lineAt_50 rfl (rfl) ⟨by rw [hR]; rfl, rfl⟩
  | succ u ih =>
    intro x l hl hR
    have rl := r2 l.toNat (by omega)
    have zl := hz.2.2.1 (85 + lo l.toNat).toNat (by omega) (by omega)
    refine ji_iload dX8_lineAt_5 rfl ?_
    refine ji_aload_n dX8_lineAt_7 rfl trivial ?_
    refine ji_get (ci := 8) (k := 16) rfl dX8_lineAt_8 lX8_122 (by decide) (rf_60) rfl ?_
    refine ji_icmp_ge (tgt := 49) dX8_lineAt_11 rfl (by omega) (by omega) (fun c11 => absurd c11 (by omega)) (fun c11 => ?_)
    refine ji_aload_n dX8_lineAt_14 rfl trivial ?_
    refine ji_get (ci := 8) (k := 17) rfl dX8_lineAt_15 lX8_35 (by decide) (rf_60) rfl ?_
    refine ji_iload dX8_lineAt_18 rfl ?_
    refine ji_iaload dX8_lineAt_20 (rf_67) (by omega) ?_
    refine ji_iload_n dX8_lineAt_21 rfl ?_
    refine ji_icmp_ne (tgt := 41) dX8_lineAt_22 rfl (by omega) (by omega) (fun c22 => ?_) (fun c22 => ?_)
    · try (exfalso; omega)
      all_goals
        refine ji_iload_n dX8_lineAt_41 rfl ?_
        refine ji_istore_n dX8_lineAt_42 (by decide) rfl ?_
        refine ji_iinc dX8_lineAt_43 (by decide) rfl rfl ?_
        refine ji_goto (tgt := 5) dX8_lineAt_46 rfl ?_
        first | exact ih _ _ (by omega) (by rw [hR, rf_la, if_pos (by omega)]) | exact ih _ _ (by omega) (by rw [hR, rf_la, if_neg (by omega)])
    · try (exfalso; omega)
      all_goals
        refine ji_aload_n dX8_lineAt_25 rfl trivial ?_
        refine ji_get (ci := 8) (k := 18) rfl dX8_lineAt_26 lX8_38 (by decide) (rf_60) rfl ?_
        refine ji_iload dX8_lineAt_29 rfl ?_
        refine ji_iaload dX8_lineAt_31 (rf_68) (by omega) ?_
        refine ji_iload_n dX8_lineAt_32 rfl ?_
        refine ji_icmp_gt (tgt := 41) dX8_lineAt_33 rfl (by omega) (by omega) (fun c33 => ?_) (fun c33 => ?_)
        · try (exfalso; omega)
          all_goals
            refine ji_iload_n dX8_lineAt_41 rfl ?_
            refine ji_istore_n dX8_lineAt_42 (by decide) rfl ?_
            refine ji_iinc dX8_lineAt_43 (by decide) rfl rfl ?_
            refine ji_goto (tgt := 5) dX8_lineAt_46 rfl ?_
            first | exact ih _ _ (by omega) (by rw [hR, rf_la, if_pos (by omega)]) | exact ih _ _ (by omega) (by rw [hR, rf_la, if_neg (by omega)])
        · try (exfalso; omega)
          all_goals
            refine ji_iload dX8_lineAt_36 rfl ?_
            refine ji_goto (tgt := 42) dX8_lineAt_38 rfl ?_
            refine ji_istore_n dX8_lineAt_42 (by decide) rfl ?_
            refine ji_iinc dX8_lineAt_43 (by decide) rfl rfl ?_
            refine ji_goto (tgt := 5) dX8_lineAt_46 rfl ?_
            first | exact ih _ _ (by omega) (by rw [hR, rf_la, if_pos (by omega)]) | exact ih _ _ (by omega) (by rw [hR, rf_la, if_neg (by omega)])

set_option maxHeartbeats 4000000 in
set_option maxRecDepth 100000 in
theorem r_lineAt (hz : rz_ok z) (hrl : rl_ok z ln lo lf lt) {q o : Int} (b_q : -2147483648 ≤ q ∧ q < 2147483648) (b_o : -2147483648 ≤ o ∧ o < 2147483648) : JR G d mX8_lineAt [.ref 60, .int (jI q), .int (jI o)] (n, rf_f f th z kp ed nt nl wi ht sy sz bf rs rr rq rp mm ln lo lf lt co ro pg pf hsh) 0 0 (some (.int (jI (rf_LA ln lo lf q o)))) (n, rf_f f th z kp ed nt nl wi ht sy sz bf rs rr rq rp mm ln lo lf lt co ro pg pf hsh) := by
  obtain ⟨r1, r2⟩ := id hrl
  refine ji_ent (by decide) rfl (Nat.le_of_ble_eq_true rfl) rfl ?_
  refine ji_iconst dX8_lineAt_0 ?_
  refine ji_istore_n dX8_lineAt_1 (by decide) rfl ?_
  refine ji_iconst dX8_lineAt_2 ?_
  refine ji_istore dX8_lineAt_3 (by decide) rfl ?_
  exact r_lineAt_l hz hrl b_q b_o ln.toNat 0 0 (by omega) rfl

set_option maxHeartbeats 4000000 in
set_option maxRecDepth 100000 in
theorem r_pageWith (hz : rz_ok z) (hrl : rl_ok z ln lo lf lt) (hpk : rp_ok ln pg pf) (hl1 : 1 ≤ ln) {q o : Int} (b_q : -2147483648 ≤ q ∧ q < 2147483648) (b_o : -2147483648 ≤ o ∧ o < 2147483648) : JR G (d + 1) mX8_pageWith [.ref 60, .int (jI q), .int (jI o)] (n, rf_f f th z kp ed nt nl wi ht sy sz bf rs rr rq rp mm ln lo lf lt co ro pg pf hsh) 0 0 (some (.int (jI (rf_PW ln lo lf pg pf q o)))) (n, rf_f f th z kp ed nt nl wi ht sy sz bf rs rr rq rp mm ln lo lf lt co ro pg pf hsh) := by
  obtain ⟨r1, r2⟩ := id hrl
  have wla := rf_LA_b lo lf q o (ln := ln) (by omega)
  refine ji_ent (by decide) rfl (Nat.le_of_ble_eq_true rfl) rfl ?_
  refine ji_aload_n dX8_pageWith_0 rfl trivial ?_
  refine ji_aload_n dX8_pageWith_1 rfl trivial ?_
  refine ji_iload_n dX8_pageWith_2 rfl ?_
  refine ji_iload_n dX8_pageWith_3 rfl ?_
  refine ji_cV dX8_pageWith_4 (r_lineAt hz hrl (by omega) (by omega)) rfl (rf_60) rfl rfl wX8_lineAt vX8_lineAt lX8_180 rfl (Nat.le_of_ble_eq_true rfl) rfl ?_
  refine ji_cV dX8_pageWith_7 (r_pageAt hpk (by omega) (by omega)) rfl (rf_60) rfl rfl wX8_pageAt vX8_pageAt lX8_183 rfl (Nat.le_of_ble_eq_true rfl) rfl ?_
  exact ji_ireturn dX8_pageWith_10 rfl (rfl) ⟨rfl, rfl⟩

set_option maxHeartbeats 4000000 in
set_option maxRecDepth 100000 in
theorem r_here (hz : rz_ok z) (hrl : rl_ok z ln lo lf lt) (hpk : rp_ok ln pg pf) (hl1 : 1 ≤ ln) : JR G (d + 2) mX8_here [.ref 60] (n, rf_f f th z kp ed nt nl wi ht sy sz bf rs rr rq rp mm ln lo lf lt co ro pg pf hsh) 0 0 (some (.int (jI (rf_PW ln lo lf pg pf (z 1) (z 2))))) (n, rf_f f th z kp ed nt nl wi ht sy sz bf rs rr rq rp mm ln lo lf lt co ro pg pf hsh) := by
  have zz1 := hz.1 1
  have zz2 := hz.1 2
  refine ji_ent (by decide) rfl (Nat.le_of_ble_eq_true rfl) rfl ?_
  refine ji_aload_n dX8_here_0 rfl trivial ?_
  refine ji_aload_n dX8_here_1 rfl trivial ?_
  refine ji_get (ci := 8) (k := 1) rfl dX8_here_2 lX8_7 (by decide) (rf_60) rfl ?_
  refine ji_iconst dX8_here_5 ?_
  refine ji_ialoadK (k := 1) dX8_here_6 (rf_61) rfl (by decide) ?_
  refine ji_aload_n dX8_here_7 rfl trivial ?_
  refine ji_get (ci := 8) (k := 1) rfl dX8_here_8 lX8_7 (by decide) (rf_60) rfl ?_
  refine ji_iconst dX8_here_11 ?_
  refine ji_ialoadK (k := 2) dX8_here_12 (rf_61) rfl (by decide) ?_
  refine ji_cV dX8_here_13 (r_pageWith hz hrl hpk hl1 (by omega) (by omega)) rfl (rf_60) rfl rfl wX8_pageWith vX8_pageWith lX8_186 rfl (Nat.le_of_ble_eq_true rfl) rfl ?_
  exact ji_ireturn dX8_here_16 rfl (rfl) ⟨jr_i (by first | rfl | omega), rfl⟩

set_option maxHeartbeats 4000000 in
set_option maxRecDepth 100000 in
theorem r_firstOf (hrl : rl_ok z ln lo lf lt) {l : Int} (hl : 0 ≤ l ∧ l < ln) : JR G d mX8_firstOf [.ref 60, .int (jI l)] (n, rf_f f th z kp ed nt nl wi ht sy sz bf rs rr rq rp mm ln lo lf lt co ro pg pf hsh) 0 0 (some (.int (jI (rf_FO lo lf l)))) (n, rf_f f th z kp ed nt nl wi ht sy sz bf rs rr rq rp mm ln lo lf lt co ro pg pf hsh) := by
  obtain ⟨r1, r2⟩ := id hrl
  refine ji_ent (by decide) rfl (Nat.le_of_ble_eq_true rfl) rfl ?_
  refine ji_sipush dX8_firstOf_0 rfl ?_
  refine ji_aload_n dX8_firstOf_3 rfl trivial ?_
  refine ji_get (ci := 8) (k := 17) rfl dX8_firstOf_4 lX8_35 (by decide) (rf_60) rfl ?_
  refine ji_iload_n dX8_firstOf_7 rfl ?_
  refine ji_iaload dX8_firstOf_8 (rf_67) (by omega) ?_
  refine ji_imul dX8_firstOf_9 ?_
  refine ji_aload_n dX8_firstOf_10 rfl trivial ?_
  refine ji_get (ci := 8) (k := 18) rfl dX8_firstOf_11 lX8_38 (by decide) (rf_60) rfl ?_
  refine ji_iload_n dX8_firstOf_14 rfl ?_
  refine ji_iaload dX8_firstOf_15 (rf_68) (by omega) ?_
  refine ji_iadd dX8_firstOf_16 ?_
  exact ji_ireturn dX8_firstOf_17 rfl (rfl) ⟨rfl, rfl⟩

set_option maxHeartbeats 4000000 in
set_option maxRecDepth 100000 in
theorem r_bits_l {bc bs : Nat} {x9 : Int} (hx9 : 0 ≤ x9 ∧ x9 < 1024) : ∀ (u : Nat) (k m : Int), 0 ≤ k ∧ k + u = 10 → m = rf_bt x9 k.toNat →
    JW G d mX8_bits 4 [some (.ref 60), some (.int (jI x9)), some (.int (jI m)), some (.int (jI k))] [] (n, rf_f f th z kp ed nt nl wi ht sy sz bf rs rr rq rp mm ln lo lf lt co ro pg pf hsh) bc bs (fun r9 h9 => r9 = .inl (some (.int (jI (rf_bt x9 10)))) ∧ h9 = (n, rf_f f th z kp ed nt nl wi ht sy sz bf rs rr rq rp mm ln lo lf lt co ro pg pf hsh)) := by
  intro u
  induction u with
  | zero =>
    intro k m hk9 hm
    refine ji_iload_n dX8_bits_4 rfl ?_
    refine ji_bipush dX8_bits_5 rfl ?_
    refine ji_icmp_ge (tgt := 24) dX8_bits_7 rfl (by omega) (by omega) (fun c7 => ?_) (fun c7 => absurd c7 (by omega))
    refine ji_iload_n dX8_bits_24 rfl ?_
    exact ji_ireturn dX8_bits_25 rfl (rfl) ⟨jr_i (by rw [hm, show k.toNat = 10 by omega]), rfl⟩
  | succ u ih =>
    intro k m hk9 hm
    refine ji_iload_n dX8_bits_4 rfl ?_
    refine ji_bipush dX8_bits_5 rfl ?_
    refine ji_icmp_ge (tgt := 24) dX8_bits_7 rfl (by omega) (by omega) (fun c7 => absurd c7 (by omega)) (fun c7 => ?_)
    refine ji_iload_n dX8_bits_10 rfl ?_
    refine ji_iload_n dX8_bits_11 rfl ?_
    refine ji_iload_n dX8_bits_12 rfl ?_
    refine ji_iop dX8_bits_13 (Or.inr (Or.inr (Or.inr ⟨rfl, rfl⟩))) ?_
    refine ji_iconst dX8_bits_14 ?_
    refine ji_iop dX8_bits_15 (Or.inl ⟨rfl, rfl⟩) ?_
    rw [ly_sh hx9 (by omega)]
    refine ji_iadd dX8_bits_16 ?_
    refine ji_istore_n dX8_bits_17 (by decide) rfl ?_
    refine ji_iinc dX8_bits_18 (by decide) rfl rfl ?_
    refine ji_goto (tgt := 4) dX8_bits_21 rfl ?_
    exact ih _ _ (by omega) (by rw [show (k + 1).toNat = k.toNat + 1 by omega, rf_bt, ← hm, show ((k.toNat : Nat) : Int) = k by omega])

set_option maxHeartbeats 4000000 in
set_option maxRecDepth 100000 in
theorem r_bits {x9 : Int} (hx9 : 0 ≤ x9 ∧ x9 < 1024) : JR G d mX8_bits [.ref 60, .int (jI x9)] (n, rf_f f th z kp ed nt nl wi ht sy sz bf rs rr rq rp mm ln lo lf lt co ro pg pf hsh) 0 0 (some (.int (jI (rf_bt x9 10)))) (n, rf_f f th z kp ed nt nl wi ht sy sz bf rs rr rq rp mm ln lo lf lt co ro pg pf hsh) := by
  refine ji_ent (by decide) rfl (Nat.le_of_ble_eq_true rfl) rfl ?_
  refine ji_iconst dX8_bits_0 ?_
  refine ji_istore_n dX8_bits_1 (by decide) rfl ?_
  refine ji_iconst dX8_bits_2 ?_
  refine ji_istore_n dX8_bits_3 (by decide) rfl ?_
  exact r_bits_l hx9 10 0 0 (by omega) rfl

set_option maxHeartbeats 4000000 in
set_option maxRecDepth 100000 in
theorem r_endOf (hz : rz_ok z) (hrl : rl_ok z ln lo lf lt) {l : Int} (hl : 0 ≤ l ∧ l < ln) : JR G (d + 1) mX8_endOf [.ref 60, .int (jI l)] (n, rf_f f th z kp ed nt nl wi ht sy sz bf rs rr rq rp mm ln lo lf lt co ro pg pf hsh) 0 0 (some (.int (jI (rf_EO ln lo lt l)))) (n, rf_f f th z kp ed nt nl wi ht sy sz bf rs rr rq rp mm ln lo lf lt co ro pg pf hsh) := by
  obtain ⟨r1, r2⟩ := id hrl
  have rl := r2 l.toNat (by omega)
  have wl := rf_IL_d ln lo l
  refine ji_ent (by decide) rfl (Nat.le_of_ble_eq_true rfl) rfl ?_
  refine ji_aload_n dX8_endOf_0 rfl trivial ?_
  refine ji_iload_n dX8_endOf_1 rfl ?_
  refine ji_cV dX8_endOf_2 (r_isLast hz hrl (by omega)) rfl (rf_60) rfl rfl wX8_isLast vX8_isLast lX8_154 rfl (Nat.le_of_ble_eq_true rfl) rfl ?_
  refine ji_if_eq (tgt := 17) dX8_endOf_5 rfl (by omega) (fun c5 => ?_) (fun c5 => ?_)
  · try (exfalso; omega)
    all_goals
      refine ji_aload_n dX8_endOf_17 rfl trivial ?_
      refine ji_get (ci := 8) (k := 19) rfl dX8_endOf_18 lX8_41 (by decide) (rf_60) rfl ?_
      refine ji_iload_n dX8_endOf_21 rfl ?_
      refine ji_iaload dX8_endOf_22 (rf_69) (by omega) ?_
      refine ji_iconst dX8_endOf_23 ?_
      refine ji_iadd dX8_endOf_24 ?_
      exact ji_ireturn dX8_endOf_25 rfl (rfl) ⟨jr_i (by unfold rf_EO; first | (rw [if_pos (by omega)]; done) | (rw [if_neg (by omega)]; done)), rfl⟩
  · try (exfalso; omega)
    all_goals
      refine ji_aload_n dX8_endOf_8 rfl trivial ?_
      refine ji_get (ci := 8) (k := 19) rfl dX8_endOf_9 lX8_41 (by decide) (rf_60) rfl ?_
      refine ji_iload_n dX8_endOf_12 rfl ?_
      refine ji_iaload dX8_endOf_13 (rf_69) (by omega) ?_
      refine ji_goto (tgt := 25) dX8_endOf_14 rfl ?_
      exact ji_ireturn dX8_endOf_25 rfl (rfl) ⟨jr_i (by unfold rf_EO; first | (rw [if_pos (by omega)]; done) | (rw [if_neg (by omega)]; done)), rfl⟩

set_option maxHeartbeats 4000000 in
set_option maxRecDepth 100000 in
theorem r_isMarked (hz : rz_ok z) (hrl : rl_ok z ln lo lf lt) {l : Int} (hl : 0 ≤ l ∧ l < ln) {k : Int} (hk9 : 0 ≤ k ∧ k < 12) : JR G (d + 2) mX8_isMarked [.ref 60, .int (jI l), .int (jI k)] (n, rf_f f th z kp ed nt nl wi ht sy sz bf rs rr rq rp mm ln lo lf lt co ro pg pf hsh) 0 0 (some (.int (jI (rf_MK z ln lo lf lt l k)))) (n, rf_f f th z kp ed nt nl wi ht sy sz bf rs rr rq rp mm ln lo lf lt co ro pg pf hsh) := by
  obtain ⟨r1, r2⟩ := id hrl
  have rl := r2 l.toNat (by omega)
  have zb := hz.2.1
  have zz0 := hz.1 (15 + 5 * k).toNat
  have zz1 := hz.1 (15 + 5 * k + 1).toNat
  have zz2 := hz.1 (15 + 5 * k + 2).toNat
  have zz4 := hz.1 (15 + 5 * k + 4).toNat
  have zl := hz.2.2.1 (85 + lo l.toNat).toNat (by omega) (by omega)
  have weo : rf_EO ln lo lt l = lt l.toNat ∨ rf_EO ln lo lt l = lt l.toNat + 1 := by unfold rf_EO; split <;> omega
  refine ji_ent (by decide) rfl (Nat.le_of_ble_eq_true rfl) rfl ?_
  refine ji_bipush dX8_isMarked_0 rfl ?_
  refine ji_iconst dX8_isMarked_2 ?_
  refine ji_iload_n dX8_isMarked_3 rfl ?_
  refine ji_imul dX8_isMarked_4 ?_
  refine ji_iadd dX8_isMarked_5 ?_
  refine ji_istore_n dX8_isMarked_6 (by decide) rfl ?_
  refine ji_aload_n dX8_isMarked_7 rfl trivial ?_
  refine ji_get (ci := 8) (k := 1) rfl dX8_isMarked_8 lX8_7 (by decide) (rf_60) rfl ?_
  refine ji_iload_n dX8_isMarked_11 rfl ?_
  refine ji_iaload dX8_isMarked_12 (rf_61) (by omega) ?_
  refine ji_aload_n dX8_isMarked_13 rfl trivial ?_
  refine ji_get (ci := 8) (k := 17) rfl dX8_isMarked_14 lX8_35 (by decide) (rf_60) rfl ?_
  refine ji_iload_n dX8_isMarked_17 rfl ?_
  refine ji_iaload dX8_isMarked_18 (rf_67) (by omega) ?_
  refine ji_icmp_ne (tgt := 70) dX8_isMarked_19 rfl (by omega) (by omega) (fun c19 => ?_) (fun c19 => ?_)
  · try (exfalso; omega)
    all_goals
      refine ji_iconst dX8_isMarked_70 ?_
      exact ji_ireturn dX8_isMarked_71 rfl (by first | rfl | decide) ⟨jr_i (by unfold rf_MK; first | (rw [if_pos (by omega)]; done) | (rw [if_neg (by omega)]; done)), rfl⟩
  · try (exfalso; omega)
    all_goals
      refine ji_aload_n dX8_isMarked_22 rfl trivial ?_
      refine ji_get (ci := 8) (k := 1) rfl dX8_isMarked_23 lX8_7 (by decide) (rf_60) rfl ?_
      refine ji_iload_n dX8_isMarked_26 rfl ?_
      refine ji_iconst dX8_isMarked_27 ?_
      refine ji_iadd dX8_isMarked_28 ?_
      refine ji_iaload dX8_isMarked_29 (rf_61) (by omega) ?_
      refine ji_aload_n dX8_isMarked_30 rfl trivial ?_
      refine ji_iload_n dX8_isMarked_31 rfl ?_
      refine ji_cV dX8_isMarked_32 (r_endOf hz hrl (by omega)) rfl (rf_60) rfl rfl wX8_endOf vX8_endOf lX8_192 rfl (Nat.le_of_ble_eq_true rfl) rfl ?_
      refine ji_icmp_ge (tgt := 70) dX8_isMarked_35 rfl (by omega) (by omega) (fun c35 => ?_) (fun c35 => ?_)
      · try (exfalso; omega)
        all_goals
          refine ji_iconst dX8_isMarked_70 ?_
          exact ji_ireturn dX8_isMarked_71 rfl (by first | rfl | decide) ⟨jr_i (by unfold rf_MK; first | (rw [if_pos (by omega)]; done) | (rw [if_neg (by omega)]; done)), rfl⟩
      · try (exfalso; omega)
        all_goals
          refine ji_aload_n dX8_isMarked_38 rfl trivial ?_
          refine ji_get (ci := 8) (k := 1) rfl dX8_isMarked_39 lX8_7 (by decide) (rf_60) rfl ?_
          refine ji_iload_n dX8_isMarked_42 rfl ?_
          refine ji_iconst dX8_isMarked_43 ?_
          refine ji_iadd dX8_isMarked_44 ?_
          refine ji_iaload dX8_isMarked_45 (rf_61) (by omega) ?_
          refine ji_aload_n dX8_isMarked_46 rfl trivial ?_
          refine ji_get (ci := 8) (k := 18) rfl dX8_isMarked_47 lX8_38 (by decide) (rf_60) rfl ?_
          refine ji_iload_n dX8_isMarked_50 rfl ?_
          refine ji_iaload dX8_isMarked_51 (rf_68) (by omega) ?_
          refine ji_icmp_le (tgt := 70) dX8_isMarked_52 rfl (by omega) (by omega) (fun c52 => ?_) (fun c52 => ?_)
          · try (exfalso; omega)
            all_goals
              refine ji_iconst dX8_isMarked_70 ?_
              exact ji_ireturn dX8_isMarked_71 rfl (by first | rfl | decide) ⟨jr_i (by unfold rf_MK; first | (rw [if_pos (by omega)]; done) | (rw [if_neg (by omega)]; done)), rfl⟩
          · try (exfalso; omega)
            all_goals
              refine ji_aload_n dX8_isMarked_55 rfl trivial ?_
              refine ji_get (ci := 8) (k := 1) rfl dX8_isMarked_56 lX8_7 (by decide) (rf_60) rfl ?_
              refine ji_iload_n dX8_isMarked_59 rfl ?_
              refine ji_iconst dX8_isMarked_60 ?_
              refine ji_iadd dX8_isMarked_61 ?_
              refine ji_iaload dX8_isMarked_62 (rf_61) (by omega) ?_
              refine ji_if_ne (tgt := 70) dX8_isMarked_63 rfl (by omega) (fun c63 => ?_) (fun c63 => ?_)
              · try (exfalso; omega)
                all_goals
                  refine ji_iconst dX8_isMarked_70 ?_
                  exact ji_ireturn dX8_isMarked_71 rfl (by first | rfl | decide) ⟨jr_i (by unfold rf_MK; first | (rw [if_pos (by omega)]; done) | (rw [if_neg (by omega)]; done)), rfl⟩
              · try (exfalso; omega)
                all_goals
                  refine ji_iconst dX8_isMarked_66 ?_
                  refine ji_goto (tgt := 71) dX8_isMarked_67 rfl ?_
                  exact ji_ireturn dX8_isMarked_71 rfl (by first | rfl | decide) ⟨jr_i (by unfold rf_MK; first | (rw [if_pos (by omega)]; done) | (rw [if_neg (by omega)]; done)), rfl⟩

set_option maxHeartbeats 4000000 in
set_option maxRecDepth 100000 in
theorem r_annotationsOn_i {bc bs : Nat} {Q : ji_R → ji_H → Prop} {x1 y1 c k R : Int} (hz : rz_ok z) (hrl : rl_ok z ln lo lf lt) (hk9 : 0 ≤ k ∧ k < 12) (h1 : 0 ≤ x1 ∧ x1 ≤ y1 ∧ y1 ≤ ln) (kk : JW G (d + 3) mX8_annotationsOn 58 [some (.ref 60), some (.int (jI x1)), some (.int (jI y1)), some (.int (jI c)), some (.int (jI k)), some (.int (jI R)), some (.int (jI y1))] [] (n, rf_f f th z kp ed nt nl wi ht sy sz bf rs rr rq rp mm ln lo lf lt co ro pg pf hsh) bc bs Q) : ∀ (u : Nat) (x l : Int), 0 ≤ l ∧ l + u = y1 → (x = 0 ∨ x = 1) → R = rf_a1 z ln lo lf lt k u l x →
    JW G (d + 3) mX8_annotationsOn 23 [some (.ref 60), some (.int (jI x1)), some (.int (jI y1)), some (.int (jI c)), some (.int (jI k)), some (.int (jI x)), some (.int (jI l))] [] (n, rf_f f th z kp ed nt nl wi ht sy sz bf rs rr rq rp mm ln lo lf lt co ro pg pf hsh) bc bs Q := by
  obtain ⟨r1, r2⟩ := id hrl
  intro u
  induction u with
  | zero =>
    intro x l hl hx hR
    have e1 : l = y1 := by omega
    subst e1
    have e2 : R = x := hR
    subst e2
    refine ji_iload dX8_annotationsOn_23 rfl ?_
    refine ji_iload_n dX8_annotationsOn_25 rfl ?_
    refine ji_icmp_ge (tgt := 58) dX8_annotationsOn_26 rfl (by omega) (by omega) (fun c26 => ?_) (fun c26 => absurd c26 (by omega))
    exact kk
  | succ u ih =>
    intro x l hl hx hR
    have wmk := rf_MK_b z ln lo lf lt l k
    refine ji_iload dX8_annotationsOn_23 rfl ?_
    refine ji_iload_n dX8_annotationsOn_25 rfl ?_
    refine ji_icmp_ge (tgt := 58) dX8_annotationsOn_26 rfl (by omega) (by omega) (fun c26 => absurd c26 (by omega)) (fun c26 => ?_)
    refine ji_iload dX8_annotationsOn_29 rfl ?_
    refine ji_if_ne (tgt := 45) dX8_annotationsOn_31 rfl (by omega) (fun c31 => ?_) (fun c31 => ?_)
    · try (exfalso; omega)
      all_goals
        refine ji_iconst dX8_annotationsOn_45 ?_
        refine ji_goto (tgt := 50) dX8_annotationsOn_46 rfl ?_
        refine ji_istore dX8_annotationsOn_50 (by decide) rfl ?_
        refine ji_iinc dX8_annotationsOn_52 (by decide) rfl rfl ?_
        refine ji_goto (tgt := 23) dX8_annotationsOn_55 rfl ?_
        first | exact ih _ _ (by omega) (by omega) (by rw [hR, rf_a1, if_pos (by omega)]) | exact ih _ _ (by omega) (by omega) (by rw [hR, rf_a1, if_neg (by omega)])
    · try (exfalso; omega)
      all_goals
        refine ji_aload_n dX8_annotationsOn_34 rfl trivial ?_
        refine ji_iload dX8_annotationsOn_35 rfl ?_
        refine ji_iload dX8_annotationsOn_37 rfl ?_
        refine ji_cV dX8_annotationsOn_39 (r_isMarked hz hrl (by omega) (by omega)) rfl (rf_60) rfl rfl wX8_isMarked vX8_isMarked lX8_195 rfl (Nat.le_of_ble_eq_true rfl) rfl ?_
        refine ji_if_eq (tgt := 49) dX8_annotationsOn_42 rfl (by omega) (fun c42 => ?_) (fun c42 => ?_)
        · try (exfalso; omega)
          all_goals
            refine ji_iconst dX8_annotationsOn_49 ?_
            refine ji_istore dX8_annotationsOn_50 (by decide) rfl ?_
            refine ji_iinc dX8_annotationsOn_52 (by decide) rfl rfl ?_
            refine ji_goto (tgt := 23) dX8_annotationsOn_55 rfl ?_
            first | exact ih _ _ (by omega) (by omega) (by rw [hR, rf_a1, if_pos (by omega)]) | exact ih _ _ (by omega) (by omega) (by rw [hR, rf_a1, if_neg (by omega)])
        · try (exfalso; omega)
          all_goals
            refine ji_iconst dX8_annotationsOn_45 ?_
            refine ji_goto (tgt := 50) dX8_annotationsOn_46 rfl ?_
            refine ji_istore dX8_annotationsOn_50 (by decide) rfl ?_
            refine ji_iinc dX8_annotationsOn_52 (by decide) rfl rfl ?_
            refine ji_goto (tgt := 23) dX8_annotationsOn_55 rfl ?_
            first | exact ih _ _ (by omega) (by omega) (by rw [hR, rf_a1, if_pos (by omega)]) | exact ih _ _ (by omega) (by omega) (by rw [hR, rf_a1, if_neg (by omega)])

set_option maxHeartbeats 4000000 in
set_option maxRecDepth 100000 in
theorem r_annotationsOn_o {bc bs : Nat} {x1 y1 : Int} (hz : rz_ok z) (hrl : rl_ok z ln lo lf lt) (hm9 : 0 ≤ z 14 ∧ z 14 ≤ 12) (h1 : 0 ≤ x1 ∧ x1 ≤ y1 ∧ y1 ≤ ln) : ∀ (u : Nat) (c k : Int) (o5 o6 : Option Value), 0 ≤ k ∧ k + u = z 14 → c = rf_a2 z ln lo lf lt x1 y1 k.toNat →
    JW G (d + 3) mX8_annotationsOn 5 [some (.ref 60), some (.int (jI x1)), some (.int (jI y1)), some (.int (jI c)), some (.int (jI k)), o5, o6] [] (n, rf_f f th z kp ed nt nl wi ht sy sz bf rs rr rq rp mm ln lo lf lt co ro pg pf hsh) bc bs (fun r9 h9 => r9 = .inl (some (.int (jI (rf_AO z ln lo lf lt x1 y1)))) ∧ h9 = (n, rf_f f th z kp ed nt nl wi ht sy sz bf rs rr rq rp mm ln lo lf lt co ro pg pf hsh)) := by
  obtain ⟨r1, r2⟩ := id hrl
  intro u
  induction u with
  | zero =>
    intro c k o5 o6 hk hc
    refine ji_iload dX8_annotationsOn_5 rfl ?_
    refine ji_aload_n dX8_annotationsOn_7 rfl trivial ?_
    refine ji_get (ci := 8) (k := 1) rfl dX8_annotationsOn_8 lX8_7 (by decide) (rf_60) rfl ?_
    refine ji_bipush dX8_annotationsOn_11 rfl ?_
    refine ji_ialoadK (k := 14) dX8_annotationsOn_13 (rf_61) rfl (by decide) ?_
    refine ji_icmp_ge (tgt := 77) dX8_annotationsOn_14 rfl (by omega) (by omega) (fun c14 => ?_) (fun c14 => absurd c14 (by omega))
    refine ji_iload_n dX8_annotationsOn_77 rfl ?_
    exact ji_ireturn dX8_annotationsOn_78 rfl (rfl) ⟨jr_i (by rw [hc, show k = z 14 by omega]; rfl), rfl⟩
  | succ u ih =>
    intro c k o5 o6 hk hc
    have wa1 := rf_a1_b z ln lo lf lt k (y1 - x1).toNat x1 0 (by omega)
    refine ji_iload dX8_annotationsOn_5 rfl ?_
    refine ji_aload_n dX8_annotationsOn_7 rfl trivial ?_
    refine ji_get (ci := 8) (k := 1) rfl dX8_annotationsOn_8 lX8_7 (by decide) (rf_60) rfl ?_
    refine ji_bipush dX8_annotationsOn_11 rfl ?_
    refine ji_ialoadK (k := 14) dX8_annotationsOn_13 (rf_61) rfl (by decide) ?_
    refine ji_icmp_ge (tgt := 77) dX8_annotationsOn_14 rfl (by omega) (by omega) (fun c14 => absurd c14 (by omega)) (fun c14 => ?_)
    refine ji_iconst dX8_annotationsOn_17 ?_
    refine ji_istore dX8_annotationsOn_18 (by decide) rfl ?_
    refine ji_iload_n dX8_annotationsOn_20 rfl ?_
    refine ji_istore dX8_annotationsOn_21 (by decide) rfl ?_
    refine r_annotationsOn_i (k := k) hz hrl (by omega) h1 ?_ (y1 - x1).toNat 0 x1 (by omega) (by omega) rfl
    refine ji_iload_n dX8_annotationsOn_58 rfl ?_
    refine ji_iload dX8_annotationsOn_59 rfl ?_
    refine ji_if_eq (tgt := 68) dX8_annotationsOn_61 rfl (by omega) (fun c61 => ?_) (fun c61 => ?_)
    · try (exfalso; omega)
      all_goals
        refine ji_iconst dX8_annotationsOn_68 ?_
        refine ji_iadd dX8_annotationsOn_69 ?_
        refine ji_istore_n dX8_annotationsOn_70 (by decide) rfl ?_
        refine ji_iinc dX8_annotationsOn_71 (by decide) rfl rfl ?_
        refine ji_goto (tgt := 5) dX8_annotationsOn_74 rfl ?_
        exact ih _ _ _ _ (by omega) (by rw [show (k + 1).toNat = k.toNat + 1 by omega, rf_a2, ← hc, show ((k.toNat : Nat) : Int) = k by omega]; first | (rw [if_pos (by omega)]; done) | (rw [if_neg (by omega)]; done))
    · try (exfalso; omega)
      all_goals
        refine ji_iconst dX8_annotationsOn_64 ?_
        refine ji_goto (tgt := 69) dX8_annotationsOn_65 rfl ?_
        refine ji_iadd dX8_annotationsOn_69 ?_
        refine ji_istore_n dX8_annotationsOn_70 (by decide) rfl ?_
        refine ji_iinc dX8_annotationsOn_71 (by decide) rfl rfl ?_
        refine ji_goto (tgt := 5) dX8_annotationsOn_74 rfl ?_
        exact ih _ _ _ _ (by omega) (by rw [show (k + 1).toNat = k.toNat + 1 by omega, rf_a2, ← hc, show ((k.toNat : Nat) : Int) = k by omega]; first | (rw [if_pos (by omega)]; done) | (rw [if_neg (by omega)]; done))

set_option maxHeartbeats 4000000 in
set_option maxRecDepth 100000 in
theorem r_annotationsOn (hz : rz_ok z) (hrl : rl_ok z ln lo lf lt) (hm9 : 0 ≤ z 14 ∧ z 14 ≤ 12) {x1 y1 : Int} (h1 : 0 ≤ x1 ∧ x1 ≤ y1 ∧ y1 ≤ ln) : JR G (d + 3) mX8_annotationsOn [.ref 60, .int (jI x1), .int (jI y1)] (n, rf_f f th z kp ed nt nl wi ht sy sz bf rs rr rq rp mm ln lo lf lt co ro pg pf hsh) 0 0 (some (.int (jI (rf_AO z ln lo lf lt x1 y1)))) (n, rf_f f th z kp ed nt nl wi ht sy sz bf rs rr rq rp mm ln lo lf lt co ro pg pf hsh) := by
  refine ji_ent (by decide) rfl (Nat.le_of_ble_eq_true rfl) rfl ?_
  refine ji_iconst dX8_annotationsOn_0 ?_
  refine ji_istore_n dX8_annotationsOn_1 (by decide) rfl ?_
  refine ji_iconst dX8_annotationsOn_2 ?_
  refine ji_istore dX8_annotationsOn_3 (by decide) rfl ?_
  exact r_annotationsOn_o hz hrl hm9 h1 (z 14).toNat 0 0 _ _ (by omega) rfl

set_option maxHeartbeats 4000000 in
set_option maxRecDepth 100000 in
theorem r_pageNow0 (hz : rz_ok z) (hn : nl_ok nl nt) (hk : rk_ok z sy) (hc9 : 0 ≤ co ∧ co ≤ 100) (hrl : rl_ok z ln lo lf lt) (hrc : rc_ok z) (hpk : rp_ok ln pg pf) (hm9 : 0 ≤ z 14 ∧ z 14 ≤ 12) {q : Int} (hq : 0 ≤ q ∧ q < pg) : JR G (d + 5) mX8_pageNow [.ref 60, .int (jI q), .int (jI 0)] (n, rf_f f th z kp ed nt nl wi ht sy sz bf rs rr rq rp mm ln lo lf lt co ro pg pf hsh) 0 0 (some (.int (jI (rf_FO lo lf (pf q.toNat))))) (n, rf_f f th z kp ed nt nl wi ht sy sz bf rs rr rq rp mm ln lo lf lt co ro pg pf hsh) := by
  obtain ⟨r1, r2⟩ := id hrl
  obtain ⟨p1, p2, p3, p4, p5⟩ := id hpk
  have w1 := p3 q.toNat (by omega)
  have w2 := p3 (q + 1).toNat (by omega)
  have w3 := p2 q.toNat (by omega)
  rw [show q.toNat + 1 = (q + 1).toNat by omega] at w3
  have w4 := rf_NO_b (nt := nt) hz hrl hrc (x := pf q.toNat) (y := pf (q + 1).toNat) (by omega)
  refine ji_ent (by decide) rfl (Nat.le_of_ble_eq_true rfl) rfl ?_
  refine ji_aload_n dX8_pageNow_0 rfl trivial ?_
  refine ji_get (ci := 8) (k := 23) rfl dX8_pageNow_1 lX8_44 (by decide) (rf_60) rfl ?_
  refine ji_iload_n dX8_pageNow_4 rfl ?_
  refine ji_iaload dX8_pageNow_5 (rf_70) (by omega) ?_
  refine ji_istore_n dX8_pageNow_6 (by decide) rfl ?_
  refine ji_aload_n dX8_pageNow_7 rfl trivial ?_
  refine ji_get (ci := 8) (k := 23) rfl dX8_pageNow_8 lX8_44 (by decide) (rf_60) rfl ?_
  refine ji_iload_n dX8_pageNow_11 rfl ?_
  refine ji_iconst dX8_pageNow_12 ?_
  refine ji_iadd dX8_pageNow_13 ?_
  refine ji_iaload dX8_pageNow_14 (rf_70) (by omega) ?_
  refine ji_istore dX8_pageNow_15 (by decide) rfl ?_
  refine ji_iload_n dX8_pageNow_17 rfl ?_
  refine ji_tsw (tgt := 56) dX8_pageNow_18 (by omega) (by omega) rfl rfl ?_
  refine ji_aload_n dX8_pageNow_56 rfl trivial ?_
  refine ji_iload_n dX8_pageNow_57 rfl ?_
  refine ji_cV dX8_pageNow_58 (r_firstOf hrl (by omega)) rfl (rf_60) rfl rfl wX8_firstOf vX8_firstOf lX8_198 rfl (Nat.le_of_ble_eq_true rfl) rfl ?_
  exact ji_ireturn dX8_pageNow_61 rfl (rfl) ⟨rfl, rfl⟩

set_option maxHeartbeats 4000000 in
set_option maxRecDepth 100000 in
theorem r_pageNow1 (hz : rz_ok z) (hn : nl_ok nl nt) (hk : rk_ok z sy) (hc9 : 0 ≤ co ∧ co ≤ 100) (hrl : rl_ok z ln lo lf lt) (hrc : rc_ok z) (hpk : rp_ok ln pg pf) (hm9 : 0 ≤ z 14 ∧ z 14 ≤ 12) {q : Int} (hq : 0 ≤ q ∧ q < pg) : JR G (d + 5) mX8_pageNow [.ref 60, .int (jI q), .int (jI 1)] (n, rf_f f th z kp ed nt nl wi ht sy sz bf rs rr rq rp mm ln lo lf lt co ro pg pf hsh) 0 0 (some (.int (jI (if (pf (q + 1).toNat) = ln then -1 else rf_FO lo lf (pf (q + 1).toNat))))) (n, rf_f f th z kp ed nt nl wi ht sy sz bf rs rr rq rp mm ln lo lf lt co ro pg pf hsh) := by
  obtain ⟨r1, r2⟩ := id hrl
  obtain ⟨p1, p2, p3, p4, p5⟩ := id hpk
  have w1 := p3 q.toNat (by omega)
  have w2 := p3 (q + 1).toNat (by omega)
  have w3 := p2 q.toNat (by omega)
  rw [show q.toNat + 1 = (q + 1).toNat by omega] at w3
  have w4 := rf_NO_b (nt := nt) hz hrl hrc (x := pf q.toNat) (y := pf (q + 1).toNat) (by omega)
  refine ji_ent (by decide) rfl (Nat.le_of_ble_eq_true rfl) rfl ?_
  refine ji_aload_n dX8_pageNow_0 rfl trivial ?_
  refine ji_get (ci := 8) (k := 23) rfl dX8_pageNow_1 lX8_44 (by decide) (rf_60) rfl ?_
  refine ji_iload_n dX8_pageNow_4 rfl ?_
  refine ji_iaload dX8_pageNow_5 (rf_70) (by omega) ?_
  refine ji_istore_n dX8_pageNow_6 (by decide) rfl ?_
  refine ji_aload_n dX8_pageNow_7 rfl trivial ?_
  refine ji_get (ci := 8) (k := 23) rfl dX8_pageNow_8 lX8_44 (by decide) (rf_60) rfl ?_
  refine ji_iload_n dX8_pageNow_11 rfl ?_
  refine ji_iconst dX8_pageNow_12 ?_
  refine ji_iadd dX8_pageNow_13 ?_
  refine ji_iaload dX8_pageNow_14 (rf_70) (by omega) ?_
  refine ji_istore dX8_pageNow_15 (by decide) rfl ?_
  refine ji_iload_n dX8_pageNow_17 rfl ?_
  refine ji_tsw (tgt := 62) dX8_pageNow_18 (by omega) (by omega) rfl rfl ?_
  refine ji_iload dX8_pageNow_62 rfl ?_
  refine ji_aload_n dX8_pageNow_64 rfl trivial ?_
  refine ji_get (ci := 8) (k := 16) rfl dX8_pageNow_65 lX8_122 (by decide) (rf_60) rfl ?_
  refine ji_icmp_ne (tgt := 75) dX8_pageNow_68 rfl (by omega) (by omega) (fun c68 => ?_) (fun c68 => ?_)
  · try (exfalso; omega)
    all_goals
      refine ji_aload_n dX8_pageNow_75 rfl trivial ?_
      refine ji_iload dX8_pageNow_76 rfl ?_
      refine ji_cV dX8_pageNow_78 (r_firstOf hrl (by omega)) rfl (rf_60) rfl rfl wX8_firstOf vX8_firstOf lX8_198 rfl (Nat.le_of_ble_eq_true rfl) rfl ?_
      exact ji_ireturn dX8_pageNow_81 rfl (rfl) ⟨jr_i (by first | rw [if_pos (by omega)] | rw [if_neg (by omega)]), rfl⟩
  · try (exfalso; omega)
    all_goals
      refine ji_iconst dX8_pageNow_71 ?_
      refine ji_goto (tgt := 81) dX8_pageNow_72 rfl ?_
      exact ji_ireturn dX8_pageNow_81 rfl (rfl) ⟨jr_i (by first | rw [if_pos (by omega)] | rw [if_neg (by omega)]), rfl⟩

set_option maxHeartbeats 4000000 in
set_option maxRecDepth 100000 in
theorem r_pageNow2 (hz : rz_ok z) (hn : nl_ok nl nt) (hk : rk_ok z sy) (hc9 : 0 ≤ co ∧ co ≤ 100) (hrl : rl_ok z ln lo lf lt) (hrc : rc_ok z) (hpk : rp_ok ln pg pf) (hm9 : 0 ≤ z 14 ∧ z 14 ≤ 12) {q : Int} (hq : 0 ≤ q ∧ q < pg) : JR G (d + 5) mX8_pageNow [.ref 60, .int (jI q), .int (jI 2)] (n, rf_f f th z kp ed nt nl wi ht sy sz bf rs rr rq rp mm ln lo lf lt co ro pg pf hsh) 0 0 (some (.int (jI ((pf (q + 1).toNat) - (pf q.toNat))))) (n, rf_f f th z kp ed nt nl wi ht sy sz bf rs rr rq rp mm ln lo lf lt co ro pg pf hsh) := by
  obtain ⟨r1, r2⟩ := id hrl
  obtain ⟨p1, p2, p3, p4, p5⟩ := id hpk
  have w1 := p3 q.toNat (by omega)
  have w2 := p3 (q + 1).toNat (by omega)
  have w3 := p2 q.toNat (by omega)
  rw [show q.toNat + 1 = (q + 1).toNat by omega] at w3
  have w4 := rf_NO_b (nt := nt) hz hrl hrc (x := pf q.toNat) (y := pf (q + 1).toNat) (by omega)
  refine ji_ent (by decide) rfl (Nat.le_of_ble_eq_true rfl) rfl ?_
  refine ji_aload_n dX8_pageNow_0 rfl trivial ?_
  refine ji_get (ci := 8) (k := 23) rfl dX8_pageNow_1 lX8_44 (by decide) (rf_60) rfl ?_
  refine ji_iload_n dX8_pageNow_4 rfl ?_
  refine ji_iaload dX8_pageNow_5 (rf_70) (by omega) ?_
  refine ji_istore_n dX8_pageNow_6 (by decide) rfl ?_
  refine ji_aload_n dX8_pageNow_7 rfl trivial ?_
  refine ji_get (ci := 8) (k := 23) rfl dX8_pageNow_8 lX8_44 (by decide) (rf_60) rfl ?_
  refine ji_iload_n dX8_pageNow_11 rfl ?_
  refine ji_iconst dX8_pageNow_12 ?_
  refine ji_iadd dX8_pageNow_13 ?_
  refine ji_iaload dX8_pageNow_14 (rf_70) (by omega) ?_
  refine ji_istore dX8_pageNow_15 (by decide) rfl ?_
  refine ji_iload_n dX8_pageNow_17 rfl ?_
  refine ji_tsw (tgt := 82) dX8_pageNow_18 (by omega) (by omega) rfl rfl ?_
  refine ji_iload dX8_pageNow_82 rfl ?_
  refine ji_iload_n dX8_pageNow_84 rfl ?_
  refine ji_isub dX8_pageNow_85 ?_
  exact ji_ireturn dX8_pageNow_86 rfl (rfl) ⟨rfl, rfl⟩

set_option maxHeartbeats 4000000 in
set_option maxRecDepth 100000 in
theorem r_pageNow3 (hz : rz_ok z) (hn : nl_ok nl nt) (hk : rk_ok z sy) (hc9 : 0 ≤ co ∧ co ≤ 100) (hrl : rl_ok z ln lo lf lt) (hrc : rc_ok z) (hpk : rp_ok ln pg pf) (hm9 : 0 ≤ z 14 ∧ z 14 ≤ 12) {q : Int} (hq : 0 ≤ q ∧ q < pg) : JR G (d + 5) mX8_pageNow [.ref 60, .int (jI q), .int (jI 3)] (n, rf_f f th z kp ed nt nl wi ht sy sz bf rs rr rq rp mm ln lo lf lt co ro pg pf hsh) 0 0 (some (.int (jI (rf_RO z sy lo lf (pf q.toNat) (pf (q + 1).toNat))))) (n, rf_f f th z kp ed nt nl wi ht sy sz bf rs rr rq rp mm ln lo lf lt co ro pg pf hsh) := by
  obtain ⟨r1, r2⟩ := id hrl
  obtain ⟨p1, p2, p3, p4, p5⟩ := id hpk
  have w1 := p3 q.toNat (by omega)
  have w2 := p3 (q + 1).toNat (by omega)
  have w3 := p2 q.toNat (by omega)
  rw [show q.toNat + 1 = (q + 1).toNat by omega] at w3
  have w4 := rf_NO_b (nt := nt) hz hrl hrc (x := pf q.toNat) (y := pf (q + 1).toNat) (by omega)
  refine ji_ent (by decide) rfl (Nat.le_of_ble_eq_true rfl) rfl ?_
  refine ji_aload_n dX8_pageNow_0 rfl trivial ?_
  refine ji_get (ci := 8) (k := 23) rfl dX8_pageNow_1 lX8_44 (by decide) (rf_60) rfl ?_
  refine ji_iload_n dX8_pageNow_4 rfl ?_
  refine ji_iaload dX8_pageNow_5 (rf_70) (by omega) ?_
  refine ji_istore_n dX8_pageNow_6 (by decide) rfl ?_
  refine ji_aload_n dX8_pageNow_7 rfl trivial ?_
  refine ji_get (ci := 8) (k := 23) rfl dX8_pageNow_8 lX8_44 (by decide) (rf_60) rfl ?_
  refine ji_iload_n dX8_pageNow_11 rfl ?_
  refine ji_iconst dX8_pageNow_12 ?_
  refine ji_iadd dX8_pageNow_13 ?_
  refine ji_iaload dX8_pageNow_14 (rf_70) (by omega) ?_
  refine ji_istore dX8_pageNow_15 (by decide) rfl ?_
  refine ji_iload_n dX8_pageNow_17 rfl ?_
  refine ji_tsw (tgt := 87) dX8_pageNow_18 (by omega) (by omega) rfl rfl ?_
  refine ji_aload_n dX8_pageNow_87 rfl trivial ?_
  refine ji_iload_n dX8_pageNow_88 rfl ?_
  refine ji_iload dX8_pageNow_89 rfl ?_
  refine ji_cV dX8_pageNow_91 (r_rowsOf hz hk hrl (by omega)) rfl (rf_60) rfl rfl wX8_rowsOf vX8_rowsOf lX8_145 rfl (Nat.le_of_ble_eq_true rfl) rfl ?_
  exact ji_ireturn dX8_pageNow_94 rfl (rfl) ⟨rfl, rfl⟩

set_option maxHeartbeats 4000000 in
set_option maxRecDepth 100000 in
theorem r_pageNow4 (hz : rz_ok z) (hn : nl_ok nl nt) (hk : rk_ok z sy) (hc9 : 0 ≤ co ∧ co ≤ 100) (hrl : rl_ok z ln lo lf lt) (hrc : rc_ok z) (hpk : rp_ok ln pg pf) (hm9 : 0 ≤ z 14 ∧ z 14 ≤ 12) {q : Int} (hq : 0 ≤ q ∧ q < pg) : JR G (d + 5) mX8_pageNow [.ref 60, .int (jI q), .int (jI 4)] (n, rf_f f th z kp ed nt nl wi ht sy sz bf rs rr rq rp mm ln lo lf lt co ro pg pf hsh) 0 0 (some (.int (jI (rf_NR z nl nt sy co (rf_NO z nt lo lf lt (pf q.toNat) (pf (q + 1).toNat)))))) (n, rf_f f th z kp ed nt nl wi ht sy sz bf rs rr rq rp mm ln lo lf lt co ro pg pf hsh) := by
  obtain ⟨r1, r2⟩ := id hrl
  obtain ⟨p1, p2, p3, p4, p5⟩ := id hpk
  have w1 := p3 q.toNat (by omega)
  have w2 := p3 (q + 1).toNat (by omega)
  have w3 := p2 q.toNat (by omega)
  rw [show q.toNat + 1 = (q + 1).toNat by omega] at w3
  have w4 := rf_NO_b (nt := nt) hz hrl hrc (x := pf q.toNat) (y := pf (q + 1).toNat) (by omega)
  refine ji_ent (by decide) rfl (Nat.le_of_ble_eq_true rfl) rfl ?_
  refine ji_aload_n dX8_pageNow_0 rfl trivial ?_
  refine ji_get (ci := 8) (k := 23) rfl dX8_pageNow_1 lX8_44 (by decide) (rf_60) rfl ?_
  refine ji_iload_n dX8_pageNow_4 rfl ?_
  refine ji_iaload dX8_pageNow_5 (rf_70) (by omega) ?_
  refine ji_istore_n dX8_pageNow_6 (by decide) rfl ?_
  refine ji_aload_n dX8_pageNow_7 rfl trivial ?_
  refine ji_get (ci := 8) (k := 23) rfl dX8_pageNow_8 lX8_44 (by decide) (rf_60) rfl ?_
  refine ji_iload_n dX8_pageNow_11 rfl ?_
  refine ji_iconst dX8_pageNow_12 ?_
  refine ji_iadd dX8_pageNow_13 ?_
  refine ji_iaload dX8_pageNow_14 (rf_70) (by omega) ?_
  refine ji_istore dX8_pageNow_15 (by decide) rfl ?_
  refine ji_iload_n dX8_pageNow_17 rfl ?_
  refine ji_tsw (tgt := 95) dX8_pageNow_18 (by omega) (by omega) rfl rfl ?_
  refine ji_aload_n dX8_pageNow_95 rfl trivial ?_
  refine ji_aload_n dX8_pageNow_96 rfl trivial ?_
  refine ji_iload_n dX8_pageNow_97 rfl ?_
  refine ji_iload dX8_pageNow_98 rfl ?_
  refine ji_cV dX8_pageNow_100 (r_notesOn hz hn hrl hrc (by omega)) rfl (rf_60) rfl rfl wX8_notesOn vX8_notesOn lX8_148 rfl (Nat.le_of_ble_eq_true rfl) rfl ?_
  refine ji_cV dX8_pageNow_103 (r_noteRows hz hn hk hc9 (by omega)) rfl (rf_60) rfl rfl wX8_noteRows vX8_noteRows lX8_151 rfl (Nat.le_of_ble_eq_true rfl) rfl ?_
  exact ji_ireturn dX8_pageNow_106 rfl (rfl) ⟨rfl, rfl⟩

set_option maxHeartbeats 4000000 in
set_option maxRecDepth 100000 in
theorem r_pageNow5 (hz : rz_ok z) (hn : nl_ok nl nt) (hk : rk_ok z sy) (hc9 : 0 ≤ co ∧ co ≤ 100) (hrl : rl_ok z ln lo lf lt) (hrc : rc_ok z) (hpk : rp_ok ln pg pf) (hm9 : 0 ≤ z 14 ∧ z 14 ≤ 12) {q : Int} (hq : 0 ≤ q ∧ q < pg) : JR G (d + 5) mX8_pageNow [.ref 60, .int (jI q), .int (jI 5)] (n, rf_f f th z kp ed nt nl wi ht sy sz bf rs rr rq rp mm ln lo lf lt co ro pg pf hsh) 0 0 (some (.int (jI (rf_bt (rf_NO z nt lo lf lt (pf q.toNat) (pf (q + 1).toNat)) 10)))) (n, rf_f f th z kp ed nt nl wi ht sy sz bf rs rr rq rp mm ln lo lf lt co ro pg pf hsh) := by
  obtain ⟨r1, r2⟩ := id hrl
  obtain ⟨p1, p2, p3, p4, p5⟩ := id hpk
  have w1 := p3 q.toNat (by omega)
  have w2 := p3 (q + 1).toNat (by omega)
  have w3 := p2 q.toNat (by omega)
  rw [show q.toNat + 1 = (q + 1).toNat by omega] at w3
  have w4 := rf_NO_b (nt := nt) hz hrl hrc (x := pf q.toNat) (y := pf (q + 1).toNat) (by omega)
  refine ji_ent (by decide) rfl (Nat.le_of_ble_eq_true rfl) rfl ?_
  refine ji_aload_n dX8_pageNow_0 rfl trivial ?_
  refine ji_get (ci := 8) (k := 23) rfl dX8_pageNow_1 lX8_44 (by decide) (rf_60) rfl ?_
  refine ji_iload_n dX8_pageNow_4 rfl ?_
  refine ji_iaload dX8_pageNow_5 (rf_70) (by omega) ?_
  refine ji_istore_n dX8_pageNow_6 (by decide) rfl ?_
  refine ji_aload_n dX8_pageNow_7 rfl trivial ?_
  refine ji_get (ci := 8) (k := 23) rfl dX8_pageNow_8 lX8_44 (by decide) (rf_60) rfl ?_
  refine ji_iload_n dX8_pageNow_11 rfl ?_
  refine ji_iconst dX8_pageNow_12 ?_
  refine ji_iadd dX8_pageNow_13 ?_
  refine ji_iaload dX8_pageNow_14 (rf_70) (by omega) ?_
  refine ji_istore dX8_pageNow_15 (by decide) rfl ?_
  refine ji_iload_n dX8_pageNow_17 rfl ?_
  refine ji_tsw (tgt := 107) dX8_pageNow_18 (by omega) (by omega) rfl rfl ?_
  refine ji_aload_n dX8_pageNow_107 rfl trivial ?_
  refine ji_aload_n dX8_pageNow_108 rfl trivial ?_
  refine ji_iload_n dX8_pageNow_109 rfl ?_
  refine ji_iload dX8_pageNow_110 rfl ?_
  refine ji_cV dX8_pageNow_112 (r_notesOn hz hn hrl hrc (by omega)) rfl (rf_60) rfl rfl wX8_notesOn vX8_notesOn lX8_148 rfl (Nat.le_of_ble_eq_true rfl) rfl ?_
  refine ji_cV dX8_pageNow_115 (r_bits (by omega)) rfl (rf_60) rfl rfl wX8_bits vX8_bits lX8_201 rfl (Nat.le_of_ble_eq_true rfl) rfl ?_
  exact ji_ireturn dX8_pageNow_118 rfl (rfl) ⟨rfl, rfl⟩

set_option maxHeartbeats 4000000 in
set_option maxRecDepth 100000 in
theorem r_pageNow6 (hz : rz_ok z) (hn : nl_ok nl nt) (hk : rk_ok z sy) (hc9 : 0 ≤ co ∧ co ≤ 100) (hrl : rl_ok z ln lo lf lt) (hrc : rc_ok z) (hpk : rp_ok ln pg pf) (hm9 : 0 ≤ z 14 ∧ z 14 ≤ 12) {q : Int} (hq : 0 ≤ q ∧ q < pg) : JR G (d + 5) mX8_pageNow [.ref 60, .int (jI q), .int (jI 6)] (n, rf_f f th z kp ed nt nl wi ht sy sz bf rs rr rq rp mm ln lo lf lt co ro pg pf hsh) 0 0 (some (.int (jI (rf_AO z ln lo lf lt (pf q.toNat) (pf (q + 1).toNat))))) (n, rf_f f th z kp ed nt nl wi ht sy sz bf rs rr rq rp mm ln lo lf lt co ro pg pf hsh) := by
  obtain ⟨r1, r2⟩ := id hrl
  obtain ⟨p1, p2, p3, p4, p5⟩ := id hpk
  have w1 := p3 q.toNat (by omega)
  have w2 := p3 (q + 1).toNat (by omega)
  have w3 := p2 q.toNat (by omega)
  rw [show q.toNat + 1 = (q + 1).toNat by omega] at w3
  have w4 := rf_NO_b (nt := nt) hz hrl hrc (x := pf q.toNat) (y := pf (q + 1).toNat) (by omega)
  refine ji_ent (by decide) rfl (Nat.le_of_ble_eq_true rfl) rfl ?_
  refine ji_aload_n dX8_pageNow_0 rfl trivial ?_
  refine ji_get (ci := 8) (k := 23) rfl dX8_pageNow_1 lX8_44 (by decide) (rf_60) rfl ?_
  refine ji_iload_n dX8_pageNow_4 rfl ?_
  refine ji_iaload dX8_pageNow_5 (rf_70) (by omega) ?_
  refine ji_istore_n dX8_pageNow_6 (by decide) rfl ?_
  refine ji_aload_n dX8_pageNow_7 rfl trivial ?_
  refine ji_get (ci := 8) (k := 23) rfl dX8_pageNow_8 lX8_44 (by decide) (rf_60) rfl ?_
  refine ji_iload_n dX8_pageNow_11 rfl ?_
  refine ji_iconst dX8_pageNow_12 ?_
  refine ji_iadd dX8_pageNow_13 ?_
  refine ji_iaload dX8_pageNow_14 (rf_70) (by omega) ?_
  refine ji_istore dX8_pageNow_15 (by decide) rfl ?_
  refine ji_iload_n dX8_pageNow_17 rfl ?_
  refine ji_tswD (tgt := 119) dX8_pageNow_18 (by omega) (by omega) rfl ?_
  refine ji_aload_n dX8_pageNow_119 rfl trivial ?_
  refine ji_iload_n dX8_pageNow_120 rfl ?_
  refine ji_iload dX8_pageNow_121 rfl ?_
  refine ji_cV dX8_pageNow_123 (r_annotationsOn hz hrl hm9 (by omega)) rfl (rf_60) rfl rfl wX8_annotationsOn vX8_annotationsOn lX8_204 rfl (Nat.le_of_ble_eq_true rfl) rfl ?_
  exact ji_ireturn dX8_pageNow_126 rfl (rfl) ⟨rfl, rfl⟩

set_option maxHeartbeats 4000000 in
set_option maxRecDepth 100000 in
theorem r_pageNow (hz : rz_ok z) (hn : nl_ok nl nt) (hk : rk_ok z sy) (hc9 : 0 ≤ co ∧ co ≤ 100) (hrl : rl_ok z ln lo lf lt) (hrc : rc_ok z) (hpk : rp_ok ln pg pf) (hm9 : 0 ≤ z 14 ∧ z 14 ≤ 12) {q : Int} (hq : 0 ≤ q ∧ q < pg) {v : Int} (hv : 0 ≤ v ∧ v < 7) : JR G (d + 5) mX8_pageNow [.ref 60, .int (jI q), .int (jI v)] (n, rf_f f th z kp ed nt nl wi ht sy sz bf rs rr rq rp mm ln lo lf lt co ro pg pf hsh) 0 0 (some (.int (jI (rf_PN z nl nt sy co ln lo lf lt pf q v)))) (n, rf_f f th z kp ed nt nl wi ht sy sz bf rs rr rq rp mm ln lo lf lt co ro pg pf hsh) := by
  rcases (show v = 0 ∨ v = 1 ∨ v = 2 ∨ v = 3 ∨ v = 4 ∨ v = 5 ∨ v = 6 by omega) with rfl | rfl | rfl | rfl | rfl | rfl | rfl
  · exact r_pageNow0 hz hn hk hc9 hrl hrc hpk hm9 hq
  · exact r_pageNow1 hz hn hk hc9 hrl hrc hpk hm9 hq
  · exact r_pageNow2 hz hn hk hc9 hrl hrc hpk hm9 hq
  · exact r_pageNow3 hz hn hk hc9 hrl hrc hpk hm9 hq
  · exact r_pageNow4 hz hn hk hc9 hrl hrc hpk hm9 hq
  · exact r_pageNow5 hz hn hk hc9 hrl hrc hpk hm9 hq
  · exact r_pageNow6 hz hn hk hc9 hrl hrc hpk hm9 hq

set_option maxHeartbeats 4000000 in
set_option maxRecDepth 100000 in
theorem r_rowAt (hz : rz_ok z) (hk : rk_ok z sy) (hrl : rl_ok z ln lo lf lt) (hpk : rp_ok ln pg pf) {l : Int} (hl : 0 ≤ l ∧ l < ln) : JR G (d + 3) mX8_rowAt [.ref 60, .int (jI l)] (n, rf_f f th z kp ed nt nl wi ht sy sz bf rs rr rq rp mm ln lo lf lt co ro pg pf hsh) 0 0 (some (.int (jI (rf_RA z sy lo lf pg pf l)))) (n, rf_f f th z kp ed nt nl wi ht sy sz bf rs rr rq rp mm ln lo lf lt co ro pg pf hsh) := by
  obtain ⟨r1, r2⟩ := id hrl
  obtain ⟨p1, p2, p3, p4, p5⟩ := id hpk
  have w1 := rf_PA_b hpk hl
  have w2 := p3 (rf_PA pg pf l).toNat (by omega)
  refine ji_ent (by decide) rfl (Nat.le_of_ble_eq_true rfl) rfl ?_
  refine ji_aload_n dX8_rowAt_0 rfl trivial ?_
  refine ji_get (ci := 8) (k := 23) rfl dX8_rowAt_1 lX8_44 (by decide) (rf_60) rfl ?_
  refine ji_aload_n dX8_rowAt_4 rfl trivial ?_
  refine ji_iload_n dX8_rowAt_5 rfl ?_
  refine ji_cV dX8_rowAt_6 (r_pageAt hpk (by omega) (by omega)) rfl (rf_60) rfl rfl wX8_pageAt vX8_pageAt lX8_183 rfl (Nat.le_of_ble_eq_true rfl) rfl ?_
  refine ji_iaload dX8_rowAt_9 (rf_70) (by omega) ?_
  refine ji_istore_n dX8_rowAt_10 (by decide) rfl ?_
  refine ji_iload_n dX8_rowAt_11 rfl ?_
  refine ji_iload_n dX8_rowAt_12 rfl ?_
  refine ji_icmp_ne (tgt := 20) dX8_rowAt_13 rfl (by omega) (by omega) (fun c13 => ?_) (fun c13 => ?_)
  · try (exfalso; omega)
    all_goals
      refine ji_aload_n dX8_rowAt_20 rfl trivial ?_
      refine ji_iload_n dX8_rowAt_21 rfl ?_
      refine ji_iload_n dX8_rowAt_22 rfl ?_
      refine ji_iconst dX8_rowAt_23 ?_
      refine ji_iadd dX8_rowAt_24 ?_
      refine ji_cV dX8_rowAt_25 (r_rowsOf hz hk hrl (by omega)) rfl (rf_60) rfl rfl wX8_rowsOf vX8_rowsOf lX8_145 rfl (Nat.le_of_ble_eq_true rfl) rfl ?_
      refine ji_iconst dX8_rowAt_28 ?_
      refine ji_isub dX8_rowAt_29 ?_
      exact ji_ireturn dX8_rowAt_30 rfl (rfl) ⟨jr_i (by unfold rf_RA; first | (rw [if_pos (by omega)]; done) | (rw [if_neg (by omega)]; done)), rfl⟩
  · try (exfalso; omega)
    all_goals
      refine ji_iconst dX8_rowAt_16 ?_
      refine ji_goto (tgt := 30) dX8_rowAt_17 rfl ?_
      exact ji_ireturn dX8_rowAt_30 rfl (rfl) ⟨jr_i (by unfold rf_RA; first | (rw [if_pos (by omega)]; done) | (rw [if_neg (by omega)]; done)), rfl⟩

set_option maxHeartbeats 4000000 in
set_option maxRecDepth 100000 in
theorem r_wordsBetween_l {bc bs : Nat} {q x y R : Int} (hz : rz_ok z) (hn : nl_ok nl nt) (hq : 0 ≤ q ∧ q < 10) (hxy : 0 ≤ x ∧ x ≤ y ∧ y ≤ 360) : ∀ (u : Nat) (c k : Int), x ≤ k ∧ k + u = y → R = rf_wb (rf_ch z nt q) u k c →
    JW G (d + 1) mX8_wordsBetween 6 [some (.ref 60), some (.int (jI q)), some (.int (jI x)), some (.int (jI y)), some (.int (jI c)), some (.int (jI k))] [] (n, rf_f f th z kp ed nt nl wi ht sy sz bf rs rr rq rp mm ln lo lf lt co ro pg pf hsh) bc bs (fun r9 h9 => r9 = .inl (some (.int (jI R))) ∧ h9 = (n, rf_f f th z kp ed nt nl wi ht sy sz bf rs rr rq rp mm ln lo lf lt co ro pg pf hsh)) := by
  intro u
  induction u with
  | zero =>
    intro c k hk hR
    refine ji_iload dX8_wordsBetween_6 rfl ?_
    refine ji_iload_n dX8_wordsBetween_8 rfl ?_
    refine ji_icmp_ge (tgt := 40) dX8_wordsBetween_9 rfl (by omega) (by omega) (fun c9 => ?_) (fun c9 => absurd c9 (by omega))
    refine ji_iload dX8_wordsBetween_40 rfl ?_
    exact ji_ireturn dX8_wordsBetween_42 rfl (rfl) ⟨by rw [hR]; rfl, rfl⟩
  | succ u ih =>
    intro c k hk hR
    have wch := rf_ch_b (t := q) (k := k) hz hn (by omega) (by omega)
    refine ji_iload dX8_wordsBetween_6 rfl ?_
    refine ji_iload_n dX8_wordsBetween_8 rfl ?_
    refine ji_icmp_ge (tgt := 40) dX8_wordsBetween_9 rfl (by omega) (by omega) (fun c9 => absurd c9 (by omega)) (fun c9 => ?_)
    refine ji_iload dX8_wordsBetween_12 rfl ?_
    refine ji_aload_n dX8_wordsBetween_14 rfl trivial ?_
    refine ji_iload_n dX8_wordsBetween_15 rfl ?_
    refine ji_iload dX8_wordsBetween_16 rfl ?_
    refine ji_cV dX8_wordsBetween_18 (r_charOf hz hn (by omega) (by omega)) rfl (rf_60) rfl rfl wX8_charOf vX8_charOf lX8_112 rfl (Nat.le_of_ble_eq_true rfl) rfl ?_
    refine ji_bipush dX8_wordsBetween_21 rfl ?_
    refine ji_icmp_ne (tgt := 30) dX8_wordsBetween_23 rfl (by omega) (by omega) (fun c23 => ?_) (fun c23 => ?_)
    · try (exfalso; omega)
      all_goals
        refine ji_iconst dX8_wordsBetween_30 ?_
        refine ji_iadd dX8_wordsBetween_31 ?_
        refine ji_istore dX8_wordsBetween_32 (by decide) rfl ?_
        refine ji_iinc dX8_wordsBetween_34 (by decide) rfl rfl ?_
        refine ji_goto (tgt := 6) dX8_wordsBetween_37 rfl ?_
        first | exact ih _ _ (by omega) (by rw [hR, rf_wb, if_pos (by omega)]) | exact ih _ _ (by omega) (by rw [hR, rf_wb, if_neg (by omega)])
    · try (exfalso; omega)
      all_goals
        refine ji_iconst dX8_wordsBetween_26 ?_
        refine ji_goto (tgt := 31) dX8_wordsBetween_27 rfl ?_
        refine ji_iadd dX8_wordsBetween_31 ?_
        refine ji_istore dX8_wordsBetween_32 (by decide) rfl ?_
        refine ji_iinc dX8_wordsBetween_34 (by decide) rfl rfl ?_
        refine ji_goto (tgt := 6) dX8_wordsBetween_37 rfl ?_
        first | exact ih _ _ (by omega) (by rw [hR, rf_wb, if_pos (by omega)]) | exact ih _ _ (by omega) (by rw [hR, rf_wb, if_neg (by omega)])

set_option maxHeartbeats 4000000 in
set_option maxRecDepth 100000 in
theorem r_wordsBetween (hz : rz_ok z) (hn : nl_ok nl nt) {q x y : Int} (hq : 0 ≤ q ∧ q < 10) (hxy : 0 ≤ x ∧ x ≤ y ∧ y ≤ 360) : JR G (d + 1) mX8_wordsBetween [.ref 60, .int (jI q), .int (jI x), .int (jI y)] (n, rf_f f th z kp ed nt nl wi ht sy sz bf rs rr rq rp mm ln lo lf lt co ro pg pf hsh) 0 0 (some (.int (jI (rf_WB (rf_ch z nt q) x y)))) (n, rf_f f th z kp ed nt nl wi ht sy sz bf rs rr rq rp mm ln lo lf lt co ro pg pf hsh) := by
  refine ji_ent (by decide) rfl (Nat.le_of_ble_eq_true rfl) rfl ?_
  refine ji_iconst dX8_wordsBetween_0 ?_
  refine ji_istore dX8_wordsBetween_1 (by decide) rfl ?_
  refine ji_iload_n dX8_wordsBetween_3 rfl ?_
  refine ji_istore dX8_wordsBetween_4 (by decide) rfl ?_
  exact r_wordsBetween_l hz hn hq hxy (y - x).toNat 0 x (by omega) rfl

set_option maxHeartbeats 4000000 in
set_option maxRecDepth 100000 in
theorem r_lineNow0 (hz : rz_ok z) (hn : nl_ok nl nt) (hk : rk_ok z sy) (hrl : rl_ok z ln lo lf lt) (hpk : rp_ok ln pg pf) {l : Int} (hl : 0 ≤ l ∧ l < ln) : JR G (d + 4) mX8_lineNow [.ref 60, .int (jI l), .int (jI 0)] (n, rf_f f th z kp ed nt nl wi ht sy sz bf rs rr rq rp mm ln lo lf lt co ro pg pf hsh) 0 0 (some (.int (jI (lo l.toNat)))) (n, rf_f f th z kp ed nt nl wi ht sy sz bf rs rr rq rp mm ln lo lf lt co ro pg pf hsh) := by
  obtain ⟨r1, r2⟩ := id hrl
  have rl := r2 l.toNat (by omega)
  have zb := hz.2.1
  have zl := hz.2.2.1 (85 + lo l.toNat).toNat (by omega) (by omega)
  refine ji_ent (by decide) rfl (Nat.le_of_ble_eq_true rfl) rfl ?_
  refine ji_aload_n dX8_lineNow_0 rfl trivial ?_
  refine ji_get (ci := 8) (k := 17) rfl dX8_lineNow_1 lX8_35 (by decide) (rf_60) rfl ?_
  refine ji_iload_n dX8_lineNow_4 rfl ?_
  refine ji_iaload dX8_lineNow_5 (rf_67) (by omega) ?_
  refine ji_istore_n dX8_lineNow_6 (by decide) rfl ?_
  refine ji_iload_n dX8_lineNow_7 rfl ?_
  refine ji_tsw (tgt := 44) dX8_lineNow_8 (by omega) (by omega) rfl rfl ?_
  refine ji_iload_n dX8_lineNow_44 rfl ?_
  exact ji_ireturn dX8_lineNow_45 rfl (rfl) ⟨rfl, rfl⟩

set_option maxHeartbeats 4000000 in
set_option maxRecDepth 100000 in
theorem r_lineNow1 (hz : rz_ok z) (hn : nl_ok nl nt) (hk : rk_ok z sy) (hrl : rl_ok z ln lo lf lt) (hpk : rp_ok ln pg pf) {l : Int} (hl : 0 ≤ l ∧ l < ln) : JR G (d + 4) mX8_lineNow [.ref 60, .int (jI l), .int (jI 1)] (n, rf_f f th z kp ed nt nl wi ht sy sz bf rs rr rq rp mm ln lo lf lt co ro pg pf hsh) 0 0 (some (.int (jI (rf_WB (rf_ch z nt (lo l.toNat)) 0 (lf l.toNat))))) (n, rf_f f th z kp ed nt nl wi ht sy sz bf rs rr rq rp mm ln lo lf lt co ro pg pf hsh) := by
  obtain ⟨r1, r2⟩ := id hrl
  have rl := r2 l.toNat (by omega)
  have zb := hz.2.1
  have zl := hz.2.2.1 (85 + lo l.toNat).toNat (by omega) (by omega)
  refine ji_ent (by decide) rfl (Nat.le_of_ble_eq_true rfl) rfl ?_
  refine ji_aload_n dX8_lineNow_0 rfl trivial ?_
  refine ji_get (ci := 8) (k := 17) rfl dX8_lineNow_1 lX8_35 (by decide) (rf_60) rfl ?_
  refine ji_iload_n dX8_lineNow_4 rfl ?_
  refine ji_iaload dX8_lineNow_5 (rf_67) (by omega) ?_
  refine ji_istore_n dX8_lineNow_6 (by decide) rfl ?_
  refine ji_iload_n dX8_lineNow_7 rfl ?_
  refine ji_tsw (tgt := 46) dX8_lineNow_8 (by omega) (by omega) rfl rfl ?_
  refine ji_aload_n dX8_lineNow_46 rfl trivial ?_
  refine ji_iload_n dX8_lineNow_47 rfl ?_
  refine ji_iconst dX8_lineNow_48 ?_
  refine ji_aload_n dX8_lineNow_49 rfl trivial ?_
  refine ji_get (ci := 8) (k := 18) rfl dX8_lineNow_50 lX8_38 (by decide) (rf_60) rfl ?_
  refine ji_iload_n dX8_lineNow_53 rfl ?_
  refine ji_iaload dX8_lineNow_54 (rf_68) (by omega) ?_
  refine ji_cV dX8_lineNow_55 (r_wordsBetween hz hn (by omega) (by omega)) rfl (rf_60) rfl rfl wX8_wordsBetween vX8_wordsBetween lX8_213 rfl (Nat.le_of_ble_eq_true rfl) rfl ?_
  exact ji_ireturn dX8_lineNow_58 rfl (rfl) ⟨rfl, rfl⟩

set_option maxHeartbeats 4000000 in
set_option maxRecDepth 100000 in
theorem r_lineNow2 (hz : rz_ok z) (hn : nl_ok nl nt) (hk : rk_ok z sy) (hrl : rl_ok z ln lo lf lt) (hpk : rp_ok ln pg pf) {l : Int} (hl : 0 ≤ l ∧ l < ln) : JR G (d + 4) mX8_lineNow [.ref 60, .int (jI l), .int (jI 2)] (n, rf_f f th z kp ed nt nl wi ht sy sz bf rs rr rq rp mm ln lo lf lt co ro pg pf hsh) 0 0 (some (.int (jI (rf_WB (rf_ch z nt (lo l.toNat)) (lf l.toNat) (lt l.toNat) + 1)))) (n, rf_f f th z kp ed nt nl wi ht sy sz bf rs rr rq rp mm ln lo lf lt co ro pg pf hsh) := by
  obtain ⟨r1, r2⟩ := id hrl
  have rl := r2 l.toNat (by omega)
  have zb := hz.2.1
  have zl := hz.2.2.1 (85 + lo l.toNat).toNat (by omega) (by omega)
  refine ji_ent (by decide) rfl (Nat.le_of_ble_eq_true rfl) rfl ?_
  refine ji_aload_n dX8_lineNow_0 rfl trivial ?_
  refine ji_get (ci := 8) (k := 17) rfl dX8_lineNow_1 lX8_35 (by decide) (rf_60) rfl ?_
  refine ji_iload_n dX8_lineNow_4 rfl ?_
  refine ji_iaload dX8_lineNow_5 (rf_67) (by omega) ?_
  refine ji_istore_n dX8_lineNow_6 (by decide) rfl ?_
  refine ji_iload_n dX8_lineNow_7 rfl ?_
  refine ji_tsw (tgt := 59) dX8_lineNow_8 (by omega) (by omega) rfl rfl ?_
  refine ji_aload_n dX8_lineNow_59 rfl trivial ?_
  refine ji_iload_n dX8_lineNow_60 rfl ?_
  refine ji_aload_n dX8_lineNow_61 rfl trivial ?_
  refine ji_get (ci := 8) (k := 18) rfl dX8_lineNow_62 lX8_38 (by decide) (rf_60) rfl ?_
  refine ji_iload_n dX8_lineNow_65 rfl ?_
  refine ji_iaload dX8_lineNow_66 (rf_68) (by omega) ?_
  refine ji_aload_n dX8_lineNow_67 rfl trivial ?_
  refine ji_get (ci := 8) (k := 19) rfl dX8_lineNow_68 lX8_41 (by decide) (rf_60) rfl ?_
  refine ji_iload_n dX8_lineNow_71 rfl ?_
  refine ji_iaload dX8_lineNow_72 (rf_69) (by omega) ?_
  refine ji_cV dX8_lineNow_73 (r_wordsBetween hz hn (by omega) (by omega)) rfl (rf_60) rfl rfl wX8_wordsBetween vX8_wordsBetween lX8_213 rfl (Nat.le_of_ble_eq_true rfl) rfl ?_
  refine ji_iconst dX8_lineNow_76 ?_
  refine ji_iadd dX8_lineNow_77 ?_
  exact ji_ireturn dX8_lineNow_78 rfl (rfl) ⟨rfl, rfl⟩

set_option maxHeartbeats 4000000 in
set_option maxRecDepth 100000 in
theorem r_lineNow3 (hz : rz_ok z) (hn : nl_ok nl nt) (hk : rk_ok z sy) (hrl : rl_ok z ln lo lf lt) (hpk : rp_ok ln pg pf) {l : Int} (hl : 0 ≤ l ∧ l < ln) : JR G (d + 4) mX8_lineNow [.ref 60, .int (jI l), .int (jI 3)] (n, rf_f f th z kp ed nt nl wi ht sy sz bf rs rr rq rp mm ln lo lf lt co ro pg pf hsh) 0 0 (some (.int (jI (rf_ID z sy (lo l.toNat) (lf l.toNat) + lt l.toNat - lf l.toNat)))) (n, rf_f f th z kp ed nt nl wi ht sy sz bf rs rr rq rp mm ln lo lf lt co ro pg pf hsh) := by
  obtain ⟨r1, r2⟩ := id hrl
  have rl := r2 l.toNat (by omega)
  have zb := hz.2.1
  have zl := hz.2.2.1 (85 + lo l.toNat).toNat (by omega) (by omega)
  refine ji_ent (by decide) rfl (Nat.le_of_ble_eq_true rfl) rfl ?_
  refine ji_aload_n dX8_lineNow_0 rfl trivial ?_
  refine ji_get (ci := 8) (k := 17) rfl dX8_lineNow_1 lX8_35 (by decide) (rf_60) rfl ?_
  refine ji_iload_n dX8_lineNow_4 rfl ?_
  refine ji_iaload dX8_lineNow_5 (rf_67) (by omega) ?_
  refine ji_istore_n dX8_lineNow_6 (by decide) rfl ?_
  refine ji_iload_n dX8_lineNow_7 rfl ?_
  refine ji_tsw (tgt := 79) dX8_lineNow_8 (by omega) (by omega) rfl rfl ?_
  refine ji_aload_n dX8_lineNow_79 rfl trivial ?_
  refine ji_iload_n dX8_lineNow_80 rfl ?_
  refine ji_aload_n dX8_lineNow_81 rfl trivial ?_
  refine ji_get (ci := 8) (k := 18) rfl dX8_lineNow_82 lX8_38 (by decide) (rf_60) rfl ?_
  refine ji_iload_n dX8_lineNow_85 rfl ?_
  refine ji_iaload dX8_lineNow_86 (rf_68) (by omega) ?_
  refine ji_cV dX8_lineNow_87 (r_indentOf hk (by omega) (by omega)) rfl (rf_60) rfl rfl wX8_indentOf vX8_indentOf lX8_125 rfl (Nat.le_of_ble_eq_true rfl) rfl ?_
  refine ji_aload_n dX8_lineNow_90 rfl trivial ?_
  refine ji_get (ci := 8) (k := 19) rfl dX8_lineNow_91 lX8_41 (by decide) (rf_60) rfl ?_
  refine ji_iload_n dX8_lineNow_94 rfl ?_
  refine ji_iaload dX8_lineNow_95 (rf_69) (by omega) ?_
  refine ji_iadd dX8_lineNow_96 ?_
  refine ji_aload_n dX8_lineNow_97 rfl trivial ?_
  refine ji_get (ci := 8) (k := 18) rfl dX8_lineNow_98 lX8_38 (by decide) (rf_60) rfl ?_
  refine ji_iload_n dX8_lineNow_101 rfl ?_
  refine ji_iaload dX8_lineNow_102 (rf_68) (by omega) ?_
  refine ji_isub dX8_lineNow_103 ?_
  exact ji_ireturn dX8_lineNow_104 rfl (rfl) ⟨rfl, rfl⟩

set_option maxHeartbeats 4000000 in
set_option maxRecDepth 100000 in
theorem r_lineNow4 (hz : rz_ok z) (hn : nl_ok nl nt) (hk : rk_ok z sy) (hrl : rl_ok z ln lo lf lt) (hpk : rp_ok ln pg pf) {l : Int} (hl : 0 ≤ l ∧ l < ln) : JR G (d + 4) mX8_lineNow [.ref 60, .int (jI l), .int (jI 4)] (n, rf_f f th z kp ed nt nl wi ht sy sz bf rs rr rq rp mm ln lo lf lt co ro pg pf hsh) 0 0 (some (.int (jI (rf_PA pg pf l)))) (n, rf_f f th z kp ed nt nl wi ht sy sz bf rs rr rq rp mm ln lo lf lt co ro pg pf hsh) := by
  obtain ⟨r1, r2⟩ := id hrl
  have rl := r2 l.toNat (by omega)
  have zb := hz.2.1
  have zl := hz.2.2.1 (85 + lo l.toNat).toNat (by omega) (by omega)
  refine ji_ent (by decide) rfl (Nat.le_of_ble_eq_true rfl) rfl ?_
  refine ji_aload_n dX8_lineNow_0 rfl trivial ?_
  refine ji_get (ci := 8) (k := 17) rfl dX8_lineNow_1 lX8_35 (by decide) (rf_60) rfl ?_
  refine ji_iload_n dX8_lineNow_4 rfl ?_
  refine ji_iaload dX8_lineNow_5 (rf_67) (by omega) ?_
  refine ji_istore_n dX8_lineNow_6 (by decide) rfl ?_
  refine ji_iload_n dX8_lineNow_7 rfl ?_
  refine ji_tsw (tgt := 105) dX8_lineNow_8 (by omega) (by omega) rfl rfl ?_
  refine ji_aload_n dX8_lineNow_105 rfl trivial ?_
  refine ji_iload_n dX8_lineNow_106 rfl ?_
  refine ji_cV dX8_lineNow_107 (r_pageAt hpk (by omega) (by omega)) rfl (rf_60) rfl rfl wX8_pageAt vX8_pageAt lX8_183 rfl (Nat.le_of_ble_eq_true rfl) rfl ?_
  exact ji_ireturn dX8_lineNow_110 rfl (rfl) ⟨rfl, rfl⟩

set_option maxHeartbeats 4000000 in
set_option maxRecDepth 100000 in
theorem r_lineNow5 (hz : rz_ok z) (hn : nl_ok nl nt) (hk : rk_ok z sy) (hrl : rl_ok z ln lo lf lt) (hpk : rp_ok ln pg pf) {l : Int} (hl : 0 ≤ l ∧ l < ln) : JR G (d + 4) mX8_lineNow [.ref 60, .int (jI l), .int (jI 5)] (n, rf_f f th z kp ed nt nl wi ht sy sz bf rs rr rq rp mm ln lo lf lt co ro pg pf hsh) 0 0 (some (.int (jI (rf_RA z sy lo lf pg pf l)))) (n, rf_f f th z kp ed nt nl wi ht sy sz bf rs rr rq rp mm ln lo lf lt co ro pg pf hsh) := by
  obtain ⟨r1, r2⟩ := id hrl
  have rl := r2 l.toNat (by omega)
  have zb := hz.2.1
  have zl := hz.2.2.1 (85 + lo l.toNat).toNat (by omega) (by omega)
  refine ji_ent (by decide) rfl (Nat.le_of_ble_eq_true rfl) rfl ?_
  refine ji_aload_n dX8_lineNow_0 rfl trivial ?_
  refine ji_get (ci := 8) (k := 17) rfl dX8_lineNow_1 lX8_35 (by decide) (rf_60) rfl ?_
  refine ji_iload_n dX8_lineNow_4 rfl ?_
  refine ji_iaload dX8_lineNow_5 (rf_67) (by omega) ?_
  refine ji_istore_n dX8_lineNow_6 (by decide) rfl ?_
  refine ji_iload_n dX8_lineNow_7 rfl ?_
  refine ji_tswD (tgt := 111) dX8_lineNow_8 (by omega) (by omega) rfl ?_
  refine ji_aload_n dX8_lineNow_111 rfl trivial ?_
  refine ji_iload_n dX8_lineNow_112 rfl ?_
  refine ji_cV dX8_lineNow_113 (r_rowAt hz hk hrl hpk (by omega)) rfl (rf_60) rfl rfl wX8_rowAt vX8_rowAt lX8_217 rfl (Nat.le_of_ble_eq_true rfl) rfl ?_
  exact ji_ireturn dX8_lineNow_116 rfl (rfl) ⟨rfl, rfl⟩

set_option maxHeartbeats 4000000 in
set_option maxRecDepth 100000 in
theorem r_lineNow (hz : rz_ok z) (hn : nl_ok nl nt) (hk : rk_ok z sy) (hrl : rl_ok z ln lo lf lt) (hpk : rp_ok ln pg pf) {l : Int} (hl : 0 ≤ l ∧ l < ln) {v : Int} (hv : 0 ≤ v ∧ v < 6) : JR G (d + 4) mX8_lineNow [.ref 60, .int (jI l), .int (jI v)] (n, rf_f f th z kp ed nt nl wi ht sy sz bf rs rr rq rp mm ln lo lf lt co ro pg pf hsh) 0 0 (some (.int (jI (rf_LN z nt sy lo lf lt pg pf l v)))) (n, rf_f f th z kp ed nt nl wi ht sy sz bf rs rr rq rp mm ln lo lf lt co ro pg pf hsh) := by
  rcases (show v = 0 ∨ v = 1 ∨ v = 2 ∨ v = 3 ∨ v = 4 ∨ v = 5 by omega) with rfl | rfl | rfl | rfl | rfl | rfl
  · exact r_lineNow0 hz hn hk hrl hpk hl
  · exact r_lineNow1 hz hn hk hrl hpk hl
  · exact r_lineNow2 hz hn hk hrl hpk hl
  · exact r_lineNow3 hz hn hk hrl hpk hl
  · exact r_lineNow4 hz hn hk hrl hpk hl
  · exact r_lineNow5 hz hn hk hrl hpk hl

end RF
