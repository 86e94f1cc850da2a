/-! ===== the reference: lines and pages ===== -/
abbrev rf_L4 : Type := Int × (Nat → Int) × (Nat → Int) × (Nat → Int)
def rf_ID (z sy : Nat → Int) (q x : Int) : Int := if z (75 + q).toNat = 2 then sy 1 else if z (75 + q).toNat = 0 ∧ x = 0 then sy 0 else 0
def rf_LT (z nl nt sy : Nat → Int) (co q x : Int) : Int := rf_LE (rf_sz z nl q) (rf_ch z nt q) x (rf_ID z sy q x) co
def rf_l1 (z nl nt sy : Nat → Int) (co q : Int) : Nat → Int → Int → (Nat → Int) → (Nat → Int) → (Nat → Int) → rf_L4
  | 0, _, ln, lo, lf, lt => (ln, lo, lf, lt)
  | u + 1, x, ln, lo, lf, lt => if x < z (85 + q).toNat then rf_l1 z nl nt sy co q u (rf_LT z nl nt sy co q x + 1) (ln + 1) (va_up lo ln.toNat q) (va_up lf ln.toNat x) (va_up lt ln.toNat (rf_LT z nl nt sy co q x)) else (ln, lo, lf, lt)
def rf_l2 (z nl nt sy : Nat → Int) (co : Int) : Nat → Int → Int → (Nat → Int) → (Nat → Int) → (Nat → Int) → rf_L4
  | 0, _, ln, lo, lf, lt => (ln, lo, lf, lt)
  | u + 1, q, ln, lo, lf, lt => rf_l2 z nl nt sy co u (q + 1) (rf_l1 z nl nt sy co q (z (85 + q).toNat).toNat 0 ln lo lf lt).1 (rf_l1 z nl nt sy co q (z (85 + q).toNat).toNat 0 ln lo lf lt).2.1 (rf_l1 z nl nt sy co q (z (85 + q).toNat).toNat 0 ln lo lf lt).2.2.1 (rf_l1 z nl nt sy co q (z (85 + q).toNat).toNat 0 ln lo lf lt).2.2.2
def rf_LL (z nl nt sy : Nat → Int) (co : Int) (lo lf lt : Nat → Int) : rf_L4 := rf_l2 z nl nt sy co (z 0).toNat 0 0 lo lf lt
theorem rf_l1_m (z nl nt sy : Nat → Int) (co q : Int) : ∀ (u : Nat) (x ln : Int) (lo lf lt : Nat → Int), ln ≤ (rf_l1 z nl nt sy co q u x ln lo lf lt).1
  | 0, x, ln, lo, lf, lt => by unfold rf_l1; omega
  | u + 1, x, ln, lo, lf, lt => by
    have h := rf_l1_m z nl nt sy co q u (rf_LT z nl nt sy co q x + 1) (ln + 1) (va_up lo ln.toNat q) (va_up lf ln.toNat x) (va_up lt ln.toNat (rf_LT z nl nt sy co q x))
    unfold rf_l1
    split
    · omega
    · exact Int.le_refl _
theorem rf_l2_m (z nl nt sy : Nat → Int) (co : Int) : ∀ (u : Nat) (q ln : Int) (lo lf lt : Nat → Int), ln ≤ (rf_l2 z nl nt sy co u q ln lo lf lt).1
  | 0, q, ln, lo, lf, lt => by unfold rf_l2; omega
  | u + 1, q, ln, lo, lf, lt => by
    have h0 := rf_l1_m z nl nt sy co q (z (85 + q).toNat).toNat 0 ln lo lf lt
    have h := rf_l2_m z nl nt sy co u (q + 1) (rf_l1 z nl nt sy co q (z (85 + q).toNat).toNat 0 ln lo lf lt).1 (rf_l1 z nl nt sy co q (z (85 + q).toNat).toNat 0 ln lo lf lt).2.1 (rf_l1 z nl nt sy co q (z (85 + q).toNat).toNat 0 ln lo lf lt).2.2.1 (rf_l1 z nl nt sy co q (z (85 + q).toNat).toNat 0 ln lo lf lt).2.2.2
    unfold rf_l2; omega
/-- the kinds and the styles -/
def rk_ok (z sy : Nat → Int) : Prop := (∀ j, 75 ≤ j → j < 85 → 0 ≤ z j ∧ z j ≤ 2) ∧ ∀ j, 0 ≤ sy j ∧ sy j ≤ 4
theorem rf_ID_b {z sy : Nat → Int} (h : rk_ok z sy) (q x : Int) : 0 ≤ rf_ID z sy q x ∧ rf_ID z sy q x ≤ 4 := by
  have h0 := h.2 0
  have h1 := h.2 1
  unfold rf_ID; split; omega; split <;> omega
theorem rf_LT_b (z nl nt sy : Nat → Int) (co q x : Int) : x ≤ rf_LT z nl nt sy co q x ∧ (rf_LT z nl nt sy co q x ≤ rf_sz z nl q ∨ rf_LT z nl nt sy co q x = x) := rf_LE_b _ _ _ _ _
/-- lines within the paragraphs -/
def rl_ok (z : Nat → Int) (ln : Int) (lo lf lt : Nat → Int) : Prop := (0 ≤ ln ∧ ln ≤ 240) ∧ ∀ l : Nat, (l : Int) < ln → (0 ≤ lo l ∧ lo l < z 0) ∧ 0 ≤ lf l ∧ lf l ≤ lt l ∧ lt l ≤ z (85 + lo l).toNat
/-- behind a caret there is a digit -/
def rc_ok (z : Nat → Int) : Prop := ∀ q k : Int, 0 ≤ q ∧ q < z 0 → 0 ≤ k ∧ k < z (85 + q).toNat → z (95 + 360 * q + k).toNat = 94 → 48 ≤ z (95 + 360 * q + (k + 1)).toNat ∧ z (95 + 360 * q + (k + 1)).toNat ≤ 57
def rf_GB (z sy lo lf : Nat → Int) (l : Int) : Int := if lf l.toNat = 0 then sy 2 + (if z (75 + lo l.toNat).toNat = 1 then 1 else 0) else 0
theorem rf_GB_b {z sy : Nat → Int} (h : rk_ok z sy) (lo lf : Nat → Int) (l : Int) : 0 ≤ rf_GB z sy lo lf l ∧ rf_GB z sy lo lf l ≤ 5 := by
  have h0 := h.2 2
  unfold rf_GB; split; (split <;> omega); omega
def rf_n1 (C : Int → Int) : Nat → Int → Int → Int
  | 0, _, x => x
  | u + 1, k, x => rf_n1 C u (k + 1) (ly_or x (if C k = 94 then ly_pow (C (k + 1) - 48) else 0))
def rf_n2 (z nt lo lf lt : Nat → Int) : Nat → Int → Int → Int
  | 0, _, x => x
  | u + 1, l, x => rf_n2 z nt lo lf lt u (l + 1) (rf_n1 (rf_ch z nt (lo l.toNat)) (lt l.toNat - lf l.toNat).toNat (lf l.toNat) x)
def rf_NO (z nt lo lf lt : Nat → Int) (x y : Int) : Int := rf_n2 z nt lo lf lt (y - x).toNat x 0
def rf_c1 (S : Int) (C : Int → Int) (co : Int) : Nat → Int → Int → Int
  | 0, _, m => m
  | u + 1, x, m => if x < S then rf_c1 S C co u (rf_LE S C x 0 co + 1) (m + 1) else m
def rf_NL (z nl nt : Nat → Int) (co k : Int) : Int := rf_c1 (rf_sz z nl (10 + k)) (rf_ch z nt (10 + k)) co (rf_sz z nl (10 + k)).toNat 0 0
theorem rf_c1_b (S : Int) (C : Int → Int) (co : Int) : ∀ (u : Nat) (x m : Int), m ≤ rf_c1 S C co u x m ∧ rf_c1 S C co u x m ≤ m + u
  | 0, x, m => by unfold rf_c1; omega
  | u + 1, x, m => by have := rf_c1_b S C co u (rf_LE S C x 0 co + 1) (m + 1); unfold rf_c1; split <;> omega
def rf_SN (nl sy : Nat → Int) (x k : Int) : Int := if ly_bit x k = 1 ∧ 0 < nl k.toNat ∧ sy 4 = 1 then 1 else 0
theorem rf_SN_d (nl sy : Nat → Int) (x k : Int) : (rf_SN nl sy x k = 1 ∧ ly_bit x k = 1 ∧ 0 < nl k.toNat ∧ sy 4 = 1) ∨ (rf_SN nl sy x k = 0 ∧ ¬ (ly_bit x k = 1 ∧ 0 < nl k.toNat ∧ sy 4 = 1)) := by unfold rf_SN; split <;> omega
def rf_nr (z nl nt sy : Nat → Int) (co x : Int) : Nat → Int
  | 0 => 0
  | k + 1 => rf_nr z nl nt sy co x k + (if rf_SN nl sy x k = 1 then rf_NL z nl nt co k else 0)
def rf_NR (z nl nt sy : Nat → Int) (co x : Int) : Int := if 0 < rf_nr z nl nt sy co x 10 then rf_nr z nl nt sy co x 10 + 1 else 0
theorem rf_NL_b {z nl nt : Nat → Int} (hz : rz_ok z) (hn : nl_ok nl nt) (co : Int) {k : Int} (hk : 0 ≤ k ∧ k < 10) : 0 ≤ rf_NL z nl nt co k ∧ rf_NL z nl nt co k ≤ 102 := by
  have h1 := rf_sz_b hz hn (t := 10 + k) (by omega)
  have h2 := rf_c1_b (rf_sz z nl (10 + k)) (rf_ch z nt (10 + k)) co (rf_sz z nl (10 + k)).toNat 0 0
  unfold rf_NL; omega
theorem rf_nr_b {z nl nt : Nat → Int} (hz : rz_ok z) (hn : nl_ok nl nt) (sy : Nat → Int) (co x : Int) : ∀ k : Nat, k ≤ 10 → 0 ≤ rf_nr z nl nt sy co x k ∧ rf_nr z nl nt sy co x k ≤ 102 * k
  | 0, _ => by simp [rf_nr]
  | k + 1, h => by have h1 := rf_nr_b hz hn sy co x k (by omega); have h2 := rf_NL_b hz hn co (k := (k : Int)) (by omega); unfold rf_nr; split <;> omega
theorem rf_NR_b {z nl nt : Nat → Int} (hz : rz_ok z) (hn : nl_ok nl nt) (sy : Nat → Int) (co x : Int) : 0 ≤ rf_NR z nl nt sy co x ∧ rf_NR z nl nt sy co x ≤ 1021 := by
  have := rf_nr_b hz hn sy co x 10 (by omega)
  unfold rf_NR; split <;> omega
def rf_ro (z sy lo lf : Nat → Int) : Nat → Int → Int → Int
  | 0, _, r => r
  | u + 1, l, r => rf_ro z sy lo lf u (l + 1) (r + rf_GB z sy lo lf l)
def rf_RO (z sy lo lf : Nat → Int) (x y : Int) : Int := rf_ro z sy lo lf (y - (x + 1)).toNat (x + 1) (y - x)
theorem rf_ro_b {z sy : Nat → Int} (h : rk_ok z sy) (lo lf : Nat → Int) : ∀ (u : Nat) (l r : Int), r ≤ rf_ro z sy lo lf u l r ∧ rf_ro z sy lo lf u l r ≤ r + 5 * u
  | 0, l, r => by unfold rf_ro; omega
  | u + 1, l, r => by have h1 := rf_GB_b h lo lf l; have h2 := rf_ro_b h lo lf u (l + 1) (r + rf_GB z sy lo lf l); unfold rf_ro; omega
theorem rf_RO_b {z sy : Nat → Int} (h : rk_ok z sy) (lo lf : Nat → Int) {x y : Int} (hx : 0 ≤ x ∧ x ≤ 240) (hy : 0 ≤ y ∧ y ≤ 241) : -240 ≤ rf_RO z sy lo lf x y ∧ rf_RO z sy lo lf x y ≤ 2000 := by
  have := rf_ro_b h lo lf (y - (x + 1)).toNat (x + 1) (y - x)
  unfold rf_RO; omega
def rf_ND (z nl nt sy : Nat → Int) (co : Int) (lo lf lt : Nat → Int) (x y : Int) : Int := rf_RO z sy lo lf x y + rf_NR z nl nt sy co (rf_NO z nt lo lf lt x y)
def rf_IL (ln : Int) (lo : Nat → Int) (l : Int) : Int := if l = ln - 1 ∨ ¬ lo (l + 1).toNat = lo l.toNat then 1 else 0
theorem rf_IL_d (ln : Int) (lo : Nat → Int) (l : Int) : (rf_IL ln lo l = 1 ∧ (l = ln - 1 ∨ ¬ lo (l + 1).toNat = lo l.toNat)) ∨ (rf_IL ln lo l = 0 ∧ ¬ (l = ln - 1 ∨ ¬ lo (l + 1).toNat = lo l.toNat)) := by unfold rf_IL; split <;> omega
def rf_FI (lf : Nat → Int) (l : Int) : Int := if lf l.toNat = 0 then 1 else 0
theorem rf_FI_d (lf : Nat → Int) (l : Int) : (rf_FI lf l = 1 ∧ lf l.toNat = 0) ∨ (rf_FI lf l = 0 ∧ ¬ lf l.toNat = 0) := by unfold rf_FI; split <;> omega
def rf_MB (z : Nat → Int) (ln : Int) (lo lf : Nat → Int) (y : Int) : Int := if z (75 + lo (y - 1).toNat).toNat = 1 ∨ (lo y.toNat = lo (y - 1).toNat ∧ lf (y - 1).toNat = 0) ∨ ((y = ln - 1 ∨ ¬ lo (y + 1).toNat = lo y.toNat) ∧ ¬ lf y.toNat = 0) then 0 else 1
theorem rf_MB_b (z : Nat → Int) (ln : Int) (lo lf : Nat → Int) (y : Int) : rf_MB z ln lo lf y = 0 ∨ rf_MB z ln lo lf y = 1 := by unfold rf_MB; split <;> omega
def rf_b1 (z nl nt sy : Nat → Int) (co ro : Int) (lo lf lt : Nat → Int) (x : Int) : Nat → Int → Int
  | 0, y => y
  | u + 1, y => if rf_ND z nl nt sy co lo lf lt x (y + 1) ≤ ro then rf_b1 z nl nt sy co ro lo lf lt x u (y + 1) else y
def rf_b2 (z : Nat → Int) (ln : Int) (lo lf : Nat → Int) (y : Int) : Nat → Int → Int
  | 0, _ => y
  | u + 1, c => if rf_MB z ln lo lf c = 0 then rf_b2 z ln lo lf y u (c - 1) else c
def rf_B1 (z nl nt sy : Nat → Int) (co ro ln : Int) (lo lf lt : Nat → Int) (x : Int) : Int := rf_b1 z nl nt sy co ro lo lf lt x (ln - (x + 1)).toNat (x + 1)
def rf_BO (z nl nt sy : Nat → Int) (co ro ln : Int) (lo lf lt : Nat → Int) (x : Int) : Int :=
  if sy 3 = 1 ∧ rf_B1 z nl nt sy co ro ln lo lf lt x < ln ∧ rf_MB z ln lo lf (rf_B1 z nl nt sy co ro ln lo lf lt x) = 0 then rf_b2 z ln lo lf (rf_B1 z nl nt sy co ro ln lo lf lt x) (rf_B1 z nl nt sy co ro ln lo lf lt x - 1 - x).toNat (rf_B1 z nl nt sy co ro ln lo lf lt x - 1) else rf_B1 z nl nt sy co ro ln lo lf lt x
theorem rf_b1_b (z nl nt sy : Nat → Int) (co ro : Int) (lo lf lt : Nat → Int) (x : Int) : ∀ (u : Nat) (y : Int), y ≤ rf_b1 z nl nt sy co ro lo lf lt x u y ∧ rf_b1 z nl nt sy co ro lo lf lt x u y ≤ y + u
  | 0, y => by unfold rf_b1; omega
  | u + 1, y => by have := rf_b1_b z nl nt sy co ro lo lf lt x u (y + 1); unfold rf_b1; split <;> omega
theorem rf_B1_b (z nl nt sy : Nat → Int) (co ro ln : Int) (lo lf lt : Nat → Int) {x : Int} (hx : x < ln) : x + 1 ≤ rf_B1 z nl nt sy co ro ln lo lf lt x ∧ rf_B1 z nl nt sy co ro ln lo lf lt x ≤ ln := by
  have := rf_b1_b z nl nt sy co ro lo lf lt x (ln - (x + 1)).toNat (x + 1)
  unfold rf_B1; omega
theorem rf_b2_b (z : Nat → Int) (ln : Int) (lo lf : Nat → Int) (y : Int) : ∀ (u : Nat) (c : Int), rf_b2 z ln lo lf y u c = y ∨ (c - u < rf_b2 z ln lo lf y u c ∧ rf_b2 z ln lo lf y u c ≤ c)
  | 0, c => by unfold rf_b2; omega
  | u + 1, c => by have := rf_b2_b z ln lo lf y u (c - 1); unfold rf_b2; split <;> omega
theorem rf_BO_b (z nl nt sy : Nat → Int) (co ro ln : Int) (lo lf lt : Nat → Int) {x : Int} (hx : x < ln) : x + 1 ≤ rf_BO z nl nt sy co ro ln lo lf lt x ∧ rf_BO z nl nt sy co ro ln lo lf lt x ≤ ln := by
  have h1 := rf_B1_b z nl nt sy co ro ln lo lf lt hx
  have h2 := rf_b2_b z ln lo lf (rf_B1 z nl nt sy co ro ln lo lf lt x) (rf_B1 z nl nt sy co ro ln lo lf lt x - 1 - x).toNat (rf_B1 z nl nt sy co ro ln lo lf lt x - 1)
  unfold rf_BO; split <;> omega
def rf_p1 (z nl nt sy : Nat → Int) (co ro ln : Int) (lo lf lt : Nat → Int) : Nat → Int → Int → (Nat → Int) → Int × (Nat → Int)
  | 0, _, pg, pf => (pg, pf)
  | u + 1, x, pg, pf => if x < ln then rf_p1 z nl nt sy co ro ln lo lf lt u (rf_BO z nl nt sy co ro ln lo lf lt x) (pg + 1) (va_up pf pg.toNat x) else (pg, pf)
def rf_PG (z nl nt sy : Nat → Int) (co ro ln : Int) (lo lf lt pf : Nat → Int) : Int × (Nat → Int) := rf_p1 z nl nt sy co ro ln lo lf lt ln.toNat 0 0 pf
/-- pages within the lines -/
def rp_ok (ln pg : Int) (pf : Nat → Int) : Prop := (0 ≤ pg ∧ pg ≤ ln) ∧ (∀ k : Nat, (k : Int) < pg → pf k < pf (k + 1)) ∧ (∀ k : Nat, (k : Int) ≤ pg → 0 ≤ pf k ∧ pf k ≤ ln) ∧ pf pg.toNat = ln ∧ pf 0 = 0
section RF
variable {G : ji_G} {d n : Nat} {f : Nat → ji_C} {th ed wi ht sz rs rr rq rp mm ln co ro pg : Int} {z kp nt nl sy bf lo lf lt pf : Nat → Int} {hsh : Int64}
set_option maxHeartbeats 4000000 in
set_option maxRecDepth 100000 in
theorem r_indentOf (hk : rk_ok z sy) {q : Int} (hq : 0 ≤ q ∧ q < 10) {x : Int} (b_x : -2147483648 ≤ x ∧ x < 2147483648) : JR G d mX8_indentOf [.ref 60, .int (jI q), .int (jI x)] (n, rf_f f th z kp ed nt nl wi ht sy sz bf rs rr rq rp mm ln lo lf lt co ro pg pf hsh) 0 0 (some (.int (jI (rf_ID z sy q x)))) (n, rf_f f th z kp ed nt nl wi ht sy sz bf rs rr rq rp mm ln lo lf lt co ro pg pf hsh) := by
  obtain ⟨k1, k2⟩ := id hk
  have s0 := k2 0
  have s1 := k2 1
  have zk := k1 (75 + q).toNat (by omega) (by omega)
  refine ji_ent (by decide) rfl (Nat.le_of_ble_eq_true rfl) rfl ?_
  refine ji_aload_n dX8_indentOf_0 rfl trivial ?_
  refine ji_get (ci := 8) (k := 1) rfl dX8_indentOf_1 lX8_7 (by decide) (rf_60) rfl ?_
  refine ji_bipush dX8_indentOf_4 rfl ?_
  refine ji_iload_n dX8_indentOf_6 rfl ?_
  refine ji_iadd dX8_indentOf_7 ?_
  refine ji_iaload dX8_indentOf_8 (rf_61) (by omega) ?_
  refine ji_iconst dX8_indentOf_9 ?_
  refine ji_icmp_ne (tgt := 22) dX8_indentOf_10 rfl (by omega) (by omega) (fun c10 => ?_) (fun c10 => ?_)
  · try (exfalso; omega)
    all_goals
      refine ji_aload_n dX8_indentOf_22 rfl trivial ?_
      refine ji_get (ci := 8) (k := 1) rfl dX8_indentOf_23 lX8_7 (by decide) (rf_60) rfl ?_
      refine ji_bipush dX8_indentOf_26 rfl ?_
      refine ji_iload_n dX8_indentOf_28 rfl ?_
      refine ji_iadd dX8_indentOf_29 ?_
      refine ji_iaload dX8_indentOf_30 (rf_61) (by omega) ?_
      refine ji_if_ne (tgt := 47) dX8_indentOf_31 rfl (by omega) (fun c31 => ?_) (fun c31 => ?_)
      · try (exfalso; omega)
        all_goals
          refine ji_iconst dX8_indentOf_47 ?_
          exact ji_ireturn dX8_indentOf_48 rfl (rfl) ⟨jr_i (by unfold rf_ID; (repeat' split) <;> first | rfl | (exfalso; omega)), rfl⟩
      · try (exfalso; omega)
        all_goals
          refine ji_iload_n dX8_indentOf_34 rfl ?_
          refine ji_if_ne (tgt := 47) dX8_indentOf_35 rfl (by omega) (fun c35 => ?_) (fun c35 => ?_)
          · try (exfalso; omega)
            all_goals
              refine ji_iconst dX8_indentOf_47 ?_
              exact ji_ireturn dX8_indentOf_48 rfl (rfl) ⟨jr_i (by unfold rf_ID; (repeat' split) <;> first | rfl | (exfalso; omega)), rfl⟩
          · try (exfalso; omega)
            all_goals
              refine ji_aload_n dX8_indentOf_38 rfl trivial ?_
              refine ji_get (ci := 8) (k := 8) rfl dX8_indentOf_39 lX8_29 (by decide) (rf_60) rfl ?_
              refine ji_iconst dX8_indentOf_42 ?_
              refine ji_ialoadK (k := 0) dX8_indentOf_43 (rf_65) rfl (by decide) ?_
              refine ji_goto (tgt := 48) dX8_indentOf_44 rfl ?_
              exact ji_ireturn dX8_indentOf_48 rfl (rfl) ⟨jr_i (by unfold rf_ID; (repeat' split) <;> first | rfl | (exfalso; omega)), rfl⟩
  · try (exfalso; omega)
    all_goals
      refine ji_aload_n dX8_indentOf_13 rfl trivial ?_
      refine ji_get (ci := 8) (k := 8) rfl dX8_indentOf_14 lX8_29 (by decide) (rf_60) rfl ?_
      refine ji_iconst dX8_indentOf_17 ?_
      refine ji_ialoadK (k := 1) dX8_indentOf_18 (rf_65) rfl (by decide) ?_
      refine ji_goto (tgt := 48) dX8_indentOf_19 rfl ?_
      exact ji_ireturn dX8_indentOf_48 rfl (rfl) ⟨jr_i (by unfold rf_ID; (repeat' split) <;> first | rfl | (exfalso; omega)), rfl⟩

set_option maxHeartbeats 4000000 in
set_option maxRecDepth 100000 in
theorem r_layLines_i {bc bs : Nat} {Q : ji_R → ji_H → Prop} {R : rf_L4} (hz : rz_ok z) (hn : nl_ok nl nt) (hk : rk_ok z sy) (hc9 : 0 ≤ co ∧ co ≤ 100) {q : Int} (hq : 0 ≤ q ∧ q < 10) (hR4 : R.1 ≤ 240) (kk : ∀ x, JW G (d + 3) mX8_layLines 107 [some (.ref 60), some (.int (jI co)), some (.int (jI q)), some (.int (jI x))] [] (n, rf_f f th z kp ed nt nl wi ht sy sz bf rs rr rq rp mm R.1 R.2.1 R.2.2.1 R.2.2.2 co ro pg pf hsh) bc bs Q) : ∀ (u : Nat) (x ln : Int) (lo lf lt : Nat → Int), 0 ≤ x ∧ x ≤ 400 → 0 ≤ ln → z (85 + q).toNat - x ≤ u → R = rf_l1 z nl nt sy co q u x ln lo lf lt →
    JW G (d + 3) mX8_layLines 24 [some (.ref 60), some (.int (jI co)), some (.int (jI q)), some (.int (jI x))] [] (n, rf_f f th z kp ed nt nl wi ht sy sz bf rs rr rq rp mm ln lo lf lt co ro pg pf hsh) bc bs Q := by
  obtain ⟨z1, z2, z3, z4⟩ := id hz
  obtain ⟨n1, n2⟩ := id hn
  have zl := z3 (85 + q).toNat (by omega) (by omega)
  have es : rf_sz z nl q = z (85 + q).toNat := if_pos (by omega)
  intro u
  induction u with
  | zero =>
    intro x ln lo lf lt hx hln hu hR
    have e0 : R = (ln, lo, lf, lt) := hR
    rw [e0] at kk
    refine ji_iload_n dX8_layLines_24 rfl ?_
    refine ji_aload_n dX8_layLines_25 rfl trivial ?_
    refine ji_get (ci := 8) (k := 1) rfl dX8_layLines_26 lX8_7 (by decide) (rf_60) rfl ?_
    refine ji_bipush dX8_layLines_29 rfl ?_
    refine ji_iload_n dX8_layLines_31 rfl ?_
    refine ji_iadd dX8_layLines_32 ?_
    refine ji_iaload dX8_layLines_33 (rf_61) (by omega) ?_
    refine ji_icmp_ge (tgt := 107) dX8_layLines_34 rfl (by omega) (by omega) (fun c34 => ?_) (fun c34 => absurd c34 (by omega))
    exact kk _
  | succ u ih =>
    intro x ln lo lf lt hx hln hu hR
    by_cases hxs : x < z (85 + q).toNat
    case neg =>
      have e0 : R = (ln, lo, lf, lt) := by rw [hR, rf_l1, if_neg hxs]
      rw [e0] at kk
      refine ji_iload_n dX8_layLines_24 rfl ?_
      refine ji_aload_n dX8_layLines_25 rfl trivial ?_
      refine ji_get (ci := 8) (k := 1) rfl dX8_layLines_26 lX8_7 (by decide) (rf_60) rfl ?_
      refine ji_bipush dX8_layLines_29 rfl ?_
      refine ji_iload_n dX8_layLines_31 rfl ?_
      refine ji_iadd dX8_layLines_32 ?_
      refine ji_iaload dX8_layLines_33 (rf_61) (by omega) ?_
      refine ji_icmp_ge (tgt := 107) dX8_layLines_34 rfl (by omega) (by omega) (fun c34 => ?_) (fun c34 => absurd c34 (by omega))
      exact kk _
    have hR1 : R = rf_l1 z nl nt sy co q u (rf_LT z nl nt sy co q x + 1) (ln + 1) (va_up lo ln.toNat q) (va_up lf ln.toNat x) (va_up lt ln.toNat (rf_LT z nl nt sy co q x)) := by rw [hR, rf_l1, if_pos hxs]
    have hm := rf_l1_m z nl nt sy co q u (rf_LT z nl nt sy co q x + 1) (ln + 1) (va_up lo ln.toNat q) (va_up lf ln.toNat x) (va_up lt ln.toNat (rf_LT z nl nt sy co q x))
    rw [← hR1] at hm
    have wid := rf_ID_b hk q x
    have wlt := rf_LT_b z nl nt sy co q x
    have wle : rf_LT z nl nt sy co q x = rf_LE (rf_sz z nl q) (rf_ch z nt q) x (rf_ID z sy q x) co := rfl
    refine ji_iload_n dX8_layLines_24 rfl ?_
    refine ji_aload_n dX8_layLines_25 rfl trivial ?_
    refine ji_get (ci := 8) (k := 1) rfl dX8_layLines_26 lX8_7 (by decide) (rf_60) rfl ?_
    refine ji_bipush dX8_layLines_29 rfl ?_
    refine ji_iload_n dX8_layLines_31 rfl ?_
    refine ji_iadd dX8_layLines_32 ?_
    refine ji_iaload dX8_layLines_33 (rf_61) (by omega) ?_
    refine ji_icmp_ge (tgt := 107) dX8_layLines_34 rfl (by omega) (by omega) (fun c34 => absurd c34 (by omega)) (fun c34 => ?_)
    refine ji_aload_n dX8_layLines_37 rfl trivial ?_
    refine ji_get (ci := 8) (k := 17) rfl dX8_layLines_38 lX8_35 (by decide) (rf_60) rfl ?_
    refine ji_aload_n dX8_layLines_41 rfl trivial ?_
    refine ji_get (ci := 8) (k := 16) rfl dX8_layLines_42 lX8_122 (by decide) (rf_60) rfl ?_
    refine ji_iload_n dX8_layLines_45 rfl ?_
    refine ji_iastoreE dX8_layLines_46 (rf_67) (by omega) (rf_s67) ?_
    refine ji_aload_n dX8_layLines_47 rfl trivial ?_
    refine ji_get (ci := 8) (k := 18) rfl dX8_layLines_48 lX8_38 (by decide) (rf_60) rfl ?_
    refine ji_aload_n dX8_layLines_51 rfl trivial ?_
    refine ji_get (ci := 8) (k := 16) rfl dX8_layLines_52 lX8_122 (by decide) (rf_60) rfl ?_
    refine ji_iload_n dX8_layLines_55 rfl ?_
    refine ji_iastoreE dX8_layLines_56 (rf_68) (by omega) (rf_s68) ?_
    refine ji_aload_n dX8_layLines_57 rfl trivial ?_
    refine ji_get (ci := 8) (k := 19) rfl dX8_layLines_58 lX8_41 (by decide) (rf_60) rfl ?_
    refine ji_aload_n dX8_layLines_61 rfl trivial ?_
    refine ji_get (ci := 8) (k := 16) rfl dX8_layLines_62 lX8_122 (by decide) (rf_60) rfl ?_
    refine ji_aload_n dX8_layLines_65 rfl trivial ?_
    refine ji_iload_n dX8_layLines_66 rfl ?_
    refine ji_iload_n dX8_layLines_67 rfl ?_
    refine ji_aload_n dX8_layLines_68 rfl trivial ?_
    refine ji_iload_n dX8_layLines_69 rfl ?_
    refine ji_iload_n dX8_layLines_70 rfl ?_
    refine ji_cV dX8_layLines_71 (r_indentOf hk (by omega) (by omega)) rfl (rf_60) rfl rfl wX8_indentOf vX8_indentOf lX8_125 rfl (Nat.le_of_ble_eq_true rfl) rfl ?_
    refine ji_aload_n dX8_layLines_74 rfl trivial ?_
    refine ji_get (ci := 8) (k := 20) rfl dX8_layLines_75 lX8_119 (by decide) (rf_60) rfl ?_
    refine ji_cV dX8_layLines_78 (r_lineEnd hz hn (by omega) (by omega) (by omega) (by omega)) rfl (rf_60) rfl rfl wX8_lineEnd vX8_lineEnd lX8_128 rfl (Nat.le_of_ble_eq_true rfl) rfl ?_
    refine ji_iastoreE dX8_layLines_81 (rf_69) (by omega) (rf_s69) ?_
    refine ji_aload_n dX8_layLines_82 rfl trivial ?_
    refine ji_get (ci := 8) (k := 19) rfl dX8_layLines_83 lX8_41 (by decide) (rf_60) rfl ?_
    refine ji_aload_n dX8_layLines_86 rfl trivial ?_
    refine ji_get (ci := 8) (k := 16) rfl dX8_layLines_87 lX8_122 (by decide) (rf_60) rfl ?_
    refine ji_iaload dX8_layLines_90 (rf_69) (by omega) ?_
    rw [va_up_self]
    refine ji_iconst dX8_layLines_91 ?_
    refine ji_iadd dX8_layLines_92 ?_
    refine ji_istore_n dX8_layLines_93 (by decide) rfl ?_
    refine ji_aload_n dX8_layLines_94 rfl trivial ?_
    refine ji_dup dX8_layLines_95 rfl ?_
    refine ji_get (ci := 8) (k := 16) rfl dX8_layLines_96 lX8_122 (by decide) (rf_60) rfl ?_
    refine ji_iconst dX8_layLines_99 ?_
    refine ji_iadd dX8_layLines_100 ?_
    refine ji_putE (ci := 8) (k := 16) rfl dX8_layLines_101 lX8_122 (by decide) (rf_60) (by simp [rf_c]) (ji_fitI _) rfl (rf_pln) ?_
    refine ji_goto (tgt := 24) dX8_layLines_104 rfl ?_
    exact ih _ _ _ _ _ (by omega) (by omega) (by omega) hR1

set_option maxHeartbeats 4000000 in
set_option maxRecDepth 100000 in
theorem r_layLines_o {bc bs : Nat} {R : rf_L4} (hz : rz_ok z) (hn : nl_ok nl nt) (hk : rk_ok z sy) (hc9 : 0 ≤ co ∧ co ≤ 100) (hR4 : R.1 ≤ 240) : ∀ (u : Nat) (q ln : Int) (lo lf lt : Nat → Int) (o3 : Option Value), 0 ≤ q ∧ q + u = z 0 → 0 ≤ ln → R = rf_l2 z nl nt sy co u q ln lo lf lt →
    JW G (d + 3) mX8_layLines 12 [some (.ref 60), some (.int (jI co)), some (.int (jI q)), o3] [] (n, rf_f f th z kp ed nt nl wi ht sy sz bf rs rr rq rp mm ln lo lf lt co ro pg pf hsh) bc bs (fun r9 h9 => r9 = .inl none ∧ h9 = (n, rf_f f th z kp ed nt nl wi ht sy sz bf rs rr rq rp mm R.1 R.2.1 R.2.2.1 R.2.2.2 co ro pg pf hsh)) := by
  obtain ⟨z1, z2, z3, z4⟩ := id hz
  obtain ⟨n1, n2⟩ := id hn
  intro u
  induction u with
  | zero =>
    intro q ln lo lf lt o3 hq hln hR
    refine ji_iload_n dX8_layLines_12 rfl ?_
    refine ji_aload_n dX8_layLines_13 rfl trivial ?_
    refine ji_get (ci := 8) (k := 1) rfl dX8_layLines_14 lX8_7 (by decide) (rf_60) rfl ?_
    refine ji_iconst dX8_layLines_17 ?_
    refine ji_ialoadK (k := 0) dX8_layLines_18 (rf_61) rfl (by decide) ?_
    refine ji_icmp_ge (tgt := 113) dX8_layLines_19 rfl (by omega) (by omega) (fun c19 => ?_) (fun c19 => absurd c19 (by omega))
    exact ji_return dX8_layLines_113 rfl ⟨rfl, by rw [hR]; rfl⟩
  | succ u ih =>
    intro q ln lo lf lt o3 hq hln hR
    have m1 := rf_l1_m z nl nt sy co q (z (85 + q).toNat).toNat 0 ln lo lf lt
    have m2 := rf_l2_m z nl nt sy co u (q + 1) (rf_l1 z nl nt sy co q (z (85 + q).toNat).toNat 0 ln lo lf lt).1 (rf_l1 z nl nt sy co q (z (85 + q).toNat).toNat 0 ln lo lf lt).2.1 (rf_l1 z nl nt sy co q (z (85 + q).toNat).toNat 0 ln lo lf lt).2.2.1 (rf_l1 z nl nt sy co q (z (85 + q).toNat).toNat 0 ln lo lf lt).2.2.2
    have m3 : R.1 = (rf_l2 z nl nt sy co u (q + 1) (rf_l1 z nl nt sy co q (z (85 + q).toNat).toNat 0 ln lo lf lt).1 (rf_l1 z nl nt sy co q (z (85 + q).toNat).toNat 0 ln lo lf lt).2.1 (rf_l1 z nl nt sy co q (z (85 + q).toNat).toNat 0 ln lo lf lt).2.2.1 (rf_l1 z nl nt sy co q (z (85 + q).toNat).toNat 0 ln lo lf lt).2.2.2).1 := by rw [hR, rf_l2]
    refine ji_iload_n dX8_layLines_12 rfl ?_
    refine ji_aload_n dX8_layLines_13 rfl trivial ?_
    refine ji_get (ci := 8) (k := 1) rfl dX8_layLines_14 lX8_7 (by decide) (rf_60) rfl ?_
    refine ji_iconst dX8_layLines_17 ?_
    refine ji_ialoadK (k := 0) dX8_layLines_18 (rf_61) rfl (by decide) ?_
    refine ji_icmp_ge (tgt := 113) dX8_layLines_19 rfl (by omega) (by omega) (fun c19 => absurd c19 (by omega)) (fun c19 => ?_)
    refine ji_iconst dX8_layLines_22 ?_
    refine ji_istore_n dX8_layLines_23 (by decide) rfl ?_
    refine r_layLines_i (R := rf_l1 z nl nt sy co q (z (85 + q).toNat).toNat 0 ln lo lf lt) hz hn hk hc9 (by omega) (by omega) (fun x => ?_) (z (85 + q).toNat).toNat 0 ln lo lf lt (by omega) hln (by omega) rfl
    refine ji_iinc dX8_layLines_107 (by decide) rfl rfl ?_
    refine ji_goto (tgt := 12) dX8_layLines_110 rfl ?_
    exact ih _ _ _ _ _ _ (by omega) (by omega) (by rw [hR, rf_l2])

set_option maxHeartbeats 4000000 in
set_option maxRecDepth 100000 in
theorem r_layLines (hz : rz_ok z) (hn : nl_ok nl nt) (hk : rk_ok z sy) {w : Int} (hw : 0 ≤ w ∧ w ≤ 100) (hF : (rf_LL z nl nt sy w lo lf lt).1 ≤ 240) : JR G (d + 3) mX8_layLines [.ref 60, .int (jI w)] (n, rf_f f th z kp ed nt nl wi ht sy sz bf rs rr rq rp mm ln lo lf lt co ro pg pf hsh) 0 0 none (n, rf_f f th z kp ed nt nl wi ht sy sz bf rs rr rq rp mm ((rf_LL z nl nt sy w lo lf lt).1) ((rf_LL z nl nt sy w lo lf lt).2.1) ((rf_LL z nl nt sy w lo lf lt).2.2.1) ((rf_LL z nl nt sy w lo lf lt).2.2.2) w ro pg pf hsh) := by
  obtain ⟨z1, z2, z3, z4⟩ := id hz
  obtain ⟨n1, n2⟩ := id hn
  refine ji_ent (by decide) rfl (Nat.le_of_ble_eq_true rfl) rfl ?_
  refine ji_aload_n dX8_layLines_0 rfl trivial ?_
  refine ji_iload_n dX8_layLines_1 rfl ?_
  refine ji_putE (ci := 8) (k := 20) rfl dX8_layLines_2 lX8_119 (by decide) (rf_60) (by simp [rf_c]) (ji_fitI _) rfl (rf_pco) ?_
  refine ji_aload_n dX8_layLines_5 rfl trivial ?_
  refine ji_iconst dX8_layLines_6 ?_
  refine ji_putE (ci := 8) (k := 16) rfl dX8_layLines_7 lX8_122 (by decide) (rf_60) (by simp [rf_c]) (ji_fitI _) rfl (rf_pln) ?_
  refine ji_iconst dX8_layLines_10 ?_
  refine ji_istore_n dX8_layLines_11 (by decide) rfl ?_
  exact r_layLines_o (R := (rf_LL z nl nt sy w lo lf lt)) hz hn hk hw hF (z 0).toNat 0 0 lo lf lt _ (by omega) (by omega) rfl

set_option maxHeartbeats 4000000 in
set_option maxRecDepth 100000 in
theorem r_isFirst (hz : rz_ok z) (hrl : rl_ok z ln lo lf lt) {l : Int} (hl : 0 ≤ l ∧ l < ln) : JR G d mX8_isFirst [.ref 60, .int (jI l)] (n, rf_f f th z kp ed nt nl wi ht sy sz bf rs rr rq rp mm ln lo lf lt co ro pg pf hsh) 0 0 (some (.int (jI (rf_FI lf l)))) (n, rf_f f th z kp ed nt nl wi ht sy sz bf rs rr rq rp mm ln lo lf lt co ro pg pf hsh) := by
  obtain ⟨r1, r2⟩ := id hrl
  have rl := r2 l.toNat (by omega)
  have zb := hz.2.1
  have zl := hz.2.2.1 (85 + lo l.toNat).toNat (by omega) (by omega)
  refine ji_ent (by decide) rfl (Nat.le_of_ble_eq_true rfl) rfl ?_
  refine ji_aload_n dX8_isFirst_0 rfl trivial ?_
  refine ji_get (ci := 8) (k := 18) rfl dX8_isFirst_1 lX8_38 (by decide) (rf_60) rfl ?_
  refine ji_iload_n dX8_isFirst_4 rfl ?_
  refine ji_iaload dX8_isFirst_5 (rf_68) (by omega) ?_
  refine ji_if_ne (tgt := 13) dX8_isFirst_6 rfl (by omega) (fun c6 => ?_) (fun c6 => ?_)
  · try (exfalso; omega)
    all_goals
      refine ji_iconst dX8_isFirst_13 ?_
      exact ji_ireturn dX8_isFirst_14 rfl (by first | rfl | decide) ⟨jr_i (by unfold rf_FI; first | (rw [if_pos (by omega)]; done) | (rw [if_neg (by omega)]; done)), rfl⟩
  · try (exfalso; omega)
    all_goals
      refine ji_iconst dX8_isFirst_9 ?_
      refine ji_goto (tgt := 14) dX8_isFirst_10 rfl ?_
      exact ji_ireturn dX8_isFirst_14 rfl (by first | rfl | decide) ⟨jr_i (by unfold rf_FI; first | (rw [if_pos (by omega)]; done) | (rw [if_neg (by omega)]; done)), rfl⟩

set_option maxHeartbeats 4000000 in
set_option maxRecDepth 100000 in
theorem r_gapBefore (hz : rz_ok z) (hk : rk_ok z sy) (hrl : rl_ok z ln lo lf lt) {l : Int} (hl : 0 ≤ l ∧ l < ln) : JR G (d + 1) mX8_gapBefore [.ref 60, .int (jI l)] (n, rf_f f th z kp ed nt nl wi ht sy sz bf rs rr rq rp mm ln lo lf lt co ro pg pf hsh) 0 0 (some (.int (jI (rf_GB z sy lo lf l)))) (n, rf_f f th z kp ed nt nl wi ht sy sz bf rs rr rq rp mm ln lo lf lt co ro pg pf hsh) := by
  obtain ⟨k1, k2⟩ := id hk
  obtain ⟨r1, r2⟩ := id hrl
  have rl := r2 l.toNat (by omega)
  have zb := hz.2.1
  have zk := k1 (75 + lo l.toNat).toNat (by omega) (by omega)
  have s2 := k2 2
  have wf := rf_FI_d lf l
  refine ji_ent (by decide) rfl (Nat.le_of_ble_eq_true rfl) rfl ?_
  refine ji_aload_n dX8_gapBefore_0 rfl trivial ?_
  refine ji_iload_n dX8_gapBefore_1 rfl ?_
  refine ji_cV dX8_gapBefore_2 (r_isFirst hz hrl (by omega)) rfl (rf_60) rfl rfl wX8_isFirst vX8_isFirst lX8_132 rfl (Nat.le_of_ble_eq_true rfl) rfl ?_
  refine ji_if_ne (tgt := 12) dX8_gapBefore_5 rfl (by omega) (fun c5 => ?_) (fun c5 => ?_)
  · try (exfalso; omega)
    all_goals
      refine ji_aload_n dX8_gapBefore_12 rfl trivial ?_
      refine ji_get (ci := 8) (k := 8) rfl dX8_gapBefore_13 lX8_29 (by decide) (rf_60) rfl ?_
      refine ji_iconst dX8_gapBefore_16 ?_
      refine ji_ialoadK (k := 2) dX8_gapBefore_17 (rf_65) rfl (by decide) ?_
      refine ji_aload_n dX8_gapBefore_18 rfl trivial ?_
      refine ji_get (ci := 8) (k := 1) rfl dX8_gapBefore_19 lX8_7 (by decide) (rf_60) rfl ?_
      refine ji_bipush dX8_gapBefore_22 rfl ?_
      refine ji_aload_n dX8_gapBefore_24 rfl trivial ?_
      refine ji_get (ci := 8) (k := 17) rfl dX8_gapBefore_25 lX8_35 (by decide) (rf_60) rfl ?_
      refine ji_iload_n dX8_gapBefore_28 rfl ?_
      refine ji_iaload dX8_gapBefore_29 (rf_67) (by omega) ?_
      refine ji_iadd dX8_gapBefore_30 ?_
      refine ji_iaload dX8_gapBefore_31 (rf_61) (by omega) ?_
      refine ji_iconst dX8_gapBefore_32 ?_
      refine ji_icmp_ne (tgt := 40) dX8_gapBefore_33 rfl (by omega) (by omega) (fun c33 => ?_) (fun c33 => ?_)
      · try (exfalso; omega)
        all_goals
          refine ji_iconst dX8_gapBefore_40 ?_
          refine ji_iadd dX8_gapBefore_41 ?_
          exact ji_ireturn dX8_gapBefore_42 rfl (rfl) ⟨jr_i (by unfold rf_GB; (repeat' split) <;> first | rfl | (exfalso; omega)), rfl⟩
      · try (exfalso; omega)
        all_goals
          refine ji_iconst dX8_gapBefore_36 ?_
          refine ji_goto (tgt := 41) dX8_gapBefore_37 rfl ?_
          refine ji_iadd dX8_gapBefore_41 ?_
          exact ji_ireturn dX8_gapBefore_42 rfl (rfl) ⟨jr_i (by unfold rf_GB; (repeat' split) <;> first | rfl | (exfalso; omega)), rfl⟩
  · try (exfalso; omega)
    all_goals
      refine ji_iconst dX8_gapBefore_8 ?_
      refine ji_goto (tgt := 42) dX8_gapBefore_9 rfl ?_
      exact ji_ireturn dX8_gapBefore_42 rfl (rfl) ⟨jr_i (by unfold rf_GB; (repeat' split) <;> first | rfl | (exfalso; omega)), rfl⟩

theorem rf_n1_b {C : Int → Int} {S : Int} (hC : ∀ k, 0 ≤ k ∧ k < S → C k = 94 → 48 ≤ C (k + 1) ∧ C (k + 1) ≤ 57) : ∀ (u : Nat) (k x : Int), (0 ≤ x ∧ x < 1024) → 0 ≤ k → k + u ≤ S → 0 ≤ rf_n1 C u k x ∧ rf_n1 C u k x < 1024
  | 0, k, x, h, _, _ => h
  | u + 1, k, x, h, h1, h2 => by
    unfold rf_n1
    refine rf_n1_b hC u _ _ (ly_or_b h ?_) (by omega) (by omega)
    split
    · have := hC k (by omega) (by assumption); exact ly_pow_b (by omega)
    · omega
theorem rc_ok.at {z nt : Nat → Int} (h : rc_ok z) (h0 : z 0 ≤ 10) {q : Int} (hq : 0 ≤ q ∧ q < z 0) : ∀ k, 0 ≤ k ∧ k < z (85 + q).toNat → rf_ch z nt q k = 94 → 48 ≤ rf_ch z nt q (k + 1) ∧ rf_ch z nt q (k + 1) ≤ 57 := by
  intro k hk
  unfold rf_ch
  rw [if_pos (by omega), if_pos (by omega)]
  exact h q k hq hk
theorem rf_n2_b {z nt lo lf lt : Nat → Int} {ln : Int} (hz : rz_ok z) (hrl : rl_ok z ln lo lf lt) (hrc : rc_ok z) : ∀ (u : Nat) (l x : Int), (0 ≤ x ∧ x < 1024) → 0 ≤ l → l + u ≤ ln → 0 ≤ rf_n2 z nt lo lf lt u l x ∧ rf_n2 z nt lo lf lt u l x < 1024
  | 0, l, x, h, _, _ => h
  | u + 1, l, x, h, h1, h2 => by
    have h3 := hrl.2 l.toNat (by omega)
    unfold rf_n2
    exact rf_n2_b hz hrl hrc u _ _ (rf_n1_b (S := z (85 + lo l.toNat).toNat) (hrc.at hz.2.1.2 h3.1) _ _ _ h (by omega) (by omega)) (by omega) (by omega)
theorem rf_NO_b {z nt lo lf lt : Nat → Int} {ln : Int} (hz : rz_ok z) (hrl : rl_ok z ln lo lf lt) (hrc : rc_ok z) {x y : Int} (h : 0 ≤ x ∧ x ≤ y ∧ y ≤ ln) : 0 ≤ rf_NO z nt lo lf lt x y ∧ rf_NO z nt lo lf lt x y < 1024 := rf_n2_b hz hrl hrc _ _ _ (by omega) (by omega) (by omega)
set_option maxHeartbeats 4000000 in
set_option maxRecDepth 100000 in
theorem r_notesOn_i {bc bs : Nat} {Q : ji_R → ji_H → Prop} {x1 y1 l R : Int} (hz : rz_ok z) (hn : nl_ok nl nt) (hrl : rl_ok z ln lo lf lt) (hrc : rc_ok z) (hl : 0 ≤ l ∧ l < ln) (h2 : 0 ≤ y1 ∧ y1 ≤ 240) (kk : ∀ k, JW G (d + 1) mX8_notesOn 83 [some (.ref 60), some (.int (jI x1)), some (.int (jI y1)), some (.int (jI R)), some (.int (jI l)), some (.int (jI k))] [] (n, rf_f f th z kp ed nt nl wi ht sy sz bf rs rr rq rp mm ln lo lf lt co ro pg pf hsh) bc bs Q) : ∀ (u : Nat) (k x : Int), lf l.toNat ≤ k ∧ k + u = lt l.toNat → 0 ≤ x ∧ x < 1024 → R = rf_n1 (rf_ch z nt (lo l.toNat)) u k x →
    JW G (d + 1) mX8_notesOn 20 [some (.ref 60), some (.int (jI x1)), some (.int (jI y1)), some (.int (jI x)), some (.int (jI l)), some (.int (jI k))] [] (n, rf_f f th z kp ed nt nl wi ht sy sz bf rs rr rq rp mm ln lo lf lt co ro pg pf hsh) bc bs Q := by
  obtain ⟨z1, z2, z3, z4⟩ := id hz
  obtain ⟨n1, n2⟩ := id hn
  obtain ⟨r1, r2⟩ := id hrl
  have rl := r2 l.toNat (by omega)
  have zl := z3 (85 + lo l.toNat).toNat (by omega) (by omega)
  intro u
  induction u with
  | zero =>
    intro k x hk h5 hR
    refine ji_iload dX8_notesOn_20 rfl ?_
    refine ji_aload_n dX8_notesOn_22 rfl trivial ?_
    refine ji_get (ci := 8) (k := 19) rfl dX8_notesOn_23 lX8_41 (by decide) (rf_60) rfl ?_
    refine ji_iload dX8_notesOn_26 rfl ?_
    refine ji_iaload dX8_notesOn_28 (rf_69) (by omega) ?_
    refine ji_icmp_ge (tgt := 83) dX8_notesOn_29 rfl (by omega) (by omega) (fun c29 => ?_) (fun c29 => absurd c29 (by omega))
    exact (show R = x from hR) ▸ kk _
  | succ u ih =>
    intro k x hk h5 hR
    have wch := rf_ch_b (t := lo l.toNat) (k := k) hz hn (by omega) (by omega)
    have wch1 := rf_ch_b (t := lo l.toNat) (k := k + 1) hz hn (by omega) (by omega)
    refine ji_iload dX8_notesOn_20 rfl ?_
    refine ji_aload_n dX8_notesOn_22 rfl trivial ?_
    refine ji_get (ci := 8) (k := 19) rfl dX8_notesOn_23 lX8_41 (by decide) (rf_60) rfl ?_
    refine ji_iload dX8_notesOn_26 rfl ?_
    refine ji_iaload dX8_notesOn_28 (rf_69) (by omega) ?_
    refine ji_icmp_ge (tgt := 83) dX8_notesOn_29 rfl (by omega) (by omega) (fun c29 => absurd c29 (by omega)) (fun c29 => ?_)
    refine ji_iload_n dX8_notesOn_32 rfl ?_
    refine ji_aload_n dX8_notesOn_33 rfl trivial ?_
    refine ji_aload_n dX8_notesOn_34 rfl trivial ?_
    refine ji_get (ci := 8) (k := 17) rfl dX8_notesOn_35 lX8_35 (by decide) (rf_60) rfl ?_
    refine ji_iload dX8_notesOn_38 rfl ?_
    refine ji_iaload dX8_notesOn_40 (rf_67) (by omega) ?_
    refine ji_iload dX8_notesOn_41 rfl ?_
    refine ji_cV dX8_notesOn_43 (r_charOf hz hn (by omega) (by omega)) rfl (rf_60) rfl rfl wX8_charOf vX8_charOf lX8_112 rfl (Nat.le_of_ble_eq_true rfl) rfl ?_
    refine ji_bipush dX8_notesOn_46 rfl ?_
    refine ji_icmp_ne (tgt := 74) dX8_notesOn_48 rfl (by omega) (by omega) (fun c48 => ?_) (fun c48 => ?_)
    · try (exfalso; omega)
      all_goals
        refine ji_iconst dX8_notesOn_74 ?_
        refine ji_iop dX8_notesOn_75 (Or.inr (Or.inl ⟨rfl, rfl⟩)) ?_
        first | rw [ly_orE h5.1 (by have wC := hrc.at (nt := nt) hz.2.1.2 rl.1 k (by omega) (by omega); have := ly_pow_b (k := rf_ch z nt (lo l.toNat) (k + 1) - 48) (by omega); omega)] | rw [ly_orE h5.1 (by omega)]
        refine ji_istore_n dX8_notesOn_76 (by decide) rfl ?_
        refine ji_iinc dX8_notesOn_77 (by decide) rfl rfl ?_
        refine ji_goto (tgt := 20) dX8_notesOn_80 rfl ?_
        first | exact ih _ _ (by omega) (ly_or_b h5 (by have wC := hrc.at (nt := nt) hz.2.1.2 rl.1 k (by omega) (by omega); exact ly_pow_b (by omega))) (by rw [hR, rf_n1, if_pos (by omega)]) | exact ih _ _ (by omega) (ly_or_b h5 (by omega)) (by rw [hR, rf_n1, if_neg (by omega)])
    · try (exfalso; omega)
      all_goals
        refine ji_iconst dX8_notesOn_51 ?_
        refine ji_aload_n dX8_notesOn_52 rfl trivial ?_
        refine ji_aload_n dX8_notesOn_53 rfl trivial ?_
        refine ji_get (ci := 8) (k := 17) rfl dX8_notesOn_54 lX8_35 (by decide) (rf_60) rfl ?_
        refine ji_iload dX8_notesOn_57 rfl ?_
        refine ji_iaload dX8_notesOn_59 (rf_67) (by omega) ?_
        refine ji_iload dX8_notesOn_60 rfl ?_
        refine ji_iconst dX8_notesOn_62 ?_
        refine ji_iadd dX8_notesOn_63 ?_
        refine ji_cV dX8_notesOn_64 (r_charOf hz hn (by omega) (by omega)) rfl (rf_60) rfl rfl wX8_charOf vX8_charOf lX8_112 rfl (Nat.le_of_ble_eq_true rfl) rfl ?_
        refine ji_bipush dX8_notesOn_67 rfl ?_
        refine ji_isub dX8_notesOn_69 ?_
        refine ji_iop dX8_notesOn_70 (Or.inr (Or.inr (Or.inl ⟨rfl, rfl⟩))) ?_
        rw [ly_shl (by have wC := hrc.at (nt := nt) hz.2.1.2 rl.1 k (by omega) (by omega); omega)]
        refine ji_goto (tgt := 75) dX8_notesOn_71 rfl ?_
        refine ji_iop dX8_notesOn_75 (Or.inr (Or.inl ⟨rfl, rfl⟩)) ?_
        first | rw [ly_orE h5.1 (by have wC := hrc.at (nt := nt) hz.2.1.2 rl.1 k (by omega) (by omega); have := ly_pow_b (k := rf_ch z nt (lo l.toNat) (k + 1) - 48) (by omega); omega)] | rw [ly_orE h5.1 (by omega)]
        refine ji_istore_n dX8_notesOn_76 (by decide) rfl ?_
        refine ji_iinc dX8_notesOn_77 (by decide) rfl rfl ?_
        refine ji_goto (tgt := 20) dX8_notesOn_80 rfl ?_
        first | exact ih _ _ (by omega) (ly_or_b h5 (by have wC := hrc.at (nt := nt) hz.2.1.2 rl.1 k (by omega) (by omega); exact ly_pow_b (by omega))) (by rw [hR, rf_n1, if_pos (by omega)]) | exact ih _ _ (by omega) (ly_or_b h5 (by omega)) (by rw [hR, rf_n1, if_neg (by omega)])

set_option maxHeartbeats 4000000 in
set_option maxRecDepth 100000 in
theorem r_notesOn_o {bc bs : Nat} {x1 y1 R : Int} (hz : rz_ok z) (hn : nl_ok nl nt) (hrl : rl_ok z ln lo lf lt) (hrc : rc_ok z) (h1 : 0 ≤ x1 ∧ x1 ≤ y1 ∧ y1 ≤ ln) : ∀ (u : Nat) (l x : Int) (o5 : Option Value), 0 ≤ l ∧ l + u = y1 → 0 ≤ x ∧ x < 1024 → R = rf_n2 z nt lo lf lt u l x →
    JW G (d + 1) mX8_notesOn 5 [some (.ref 60), some (.int (jI x1)), some (.int (jI y1)), some (.int (jI x)), some (.int (jI l)), o5] [] (n, rf_f f th z kp ed nt nl wi ht sy sz bf rs rr rq rp mm ln lo lf lt co ro pg pf hsh) bc bs (fun r9 h9 => r9 = .inl (some (.int (jI R))) ∧ h9 = (n, rf_f f th z kp ed nt nl wi ht sy sz bf rs rr rq rp mm ln lo lf lt co ro pg pf hsh)) := by
  obtain ⟨z1, z2, z3, z4⟩ := id hz
  obtain ⟨n1, n2⟩ := id hn
  obtain ⟨r1, r2⟩ := id hrl
  intro u
  induction u with
  | zero =>
    intro l x o5 hl h5 hR
    refine ji_iload dX8_notesOn_5 rfl ?_
    refine ji_iload_n dX8_notesOn_7 rfl ?_
    refine ji_icmp_ge (tgt := 89) dX8_notesOn_8 rfl (by omega) (by omega) (fun c8 => ?_) (fun c8 => absurd c8 (by omega))
    refine ji_iload_n dX8_notesOn_89 rfl ?_
    exact ji_ireturn dX8_notesOn_90 rfl (rfl) ⟨by rw [hR]; rfl, rfl⟩
  | succ u ih =>
    intro l x o5 hl h5 hR
    have rl := r2 l.toNat (by omega)
    refine ji_iload dX8_notesOn_5 rfl ?_
    refine ji_iload_n dX8_notesOn_7 rfl ?_
    refine ji_icmp_ge (tgt := 89) dX8_notesOn_8 rfl (by omega) (by omega) (fun c8 => absurd c8 (by omega)) (fun c8 => ?_)
    refine ji_aload_n dX8_notesOn_11 rfl trivial ?_
    refine ji_get (ci := 8) (k := 18) rfl dX8_notesOn_12 lX8_38 (by decide) (rf_60) rfl ?_
    refine ji_iload dX8_notesOn_15 rfl ?_
    refine ji_iaload dX8_notesOn_17 (rf_68) (by omega) ?_
    refine ji_istore dX8_notesOn_18 (by decide) rfl ?_
    refine r_notesOn_i hz hn hrl hrc (l := l) (by omega) (by omega) (fun k => ?_) (lt l.toNat - lf l.toNat).toNat _ x (by omega) h5 rfl
    refine ji_iinc dX8_notesOn_83 (by decide) rfl rfl ?_
    refine ji_goto (tgt := 5) dX8_notesOn_86 rfl ?_
    exact ih _ _ _ (by omega) (rf_n1_b (S := z (85 + lo l.toNat).toNat) (hrc.at hz.2.1.2 rl.1) _ _ _ h5 (by omega) (by omega)) (by rw [hR, rf_n2])

set_option maxHeartbeats 4000000 in
set_option maxRecDepth 100000 in
theorem r_notesOn (hz : rz_ok z) (hn : nl_ok nl nt) (hrl : rl_ok z ln lo lf lt) (hrc : rc_ok z) {x1 y1 : Int} (h1 : 0 ≤ x1 ∧ x1 ≤ y1 ∧ y1 ≤ ln) : JR G (d + 1) mX8_notesOn [.ref 60, .int (jI x1), .int (jI y1)] (n, rf_f f th z kp ed nt nl wi ht sy sz bf rs rr rq rp mm ln lo lf lt co ro pg pf hsh) 0 0 (some (.int (jI (rf_NO z nt lo lf lt x1 y1)))) (n, rf_f f th z kp ed nt nl wi ht sy sz bf rs rr rq rp mm ln lo lf lt co ro pg pf hsh) := by
  refine ji_ent (by decide) rfl (Nat.le_of_ble_eq_true rfl) rfl ?_
  refine ji_iconst dX8_notesOn_0 ?_
  refine ji_istore_n dX8_notesOn_1 (by decide) rfl ?_
  refine ji_iload_n dX8_notesOn_2 rfl ?_
  refine ji_istore dX8_notesOn_3 (by decide) rfl ?_
  exact r_notesOn_o hz hn hrl hrc h1 (y1 - x1).toNat x1 0 _ (by omega) (by omega) rfl

set_option maxHeartbeats 4000000 in
set_option maxRecDepth 100000 in
theorem r_noteLines_l {bc bs : Nat} {R : Int} (hz : rz_ok z) (hn : nl_ok nl nt) (hc9 : 0 ≤ co ∧ co ≤ 100) {k : Int} (hk9 : 0 ≤ k ∧ k < 10) : ∀ (u : Nat) (m x : Int), 0 ≤ x ∧ x ≤ 200 → rf_sz z nl (10 + k) - x ≤ u → R = rf_c1 (rf_sz z nl (10 + k)) (rf_ch z nt (10 + k)) co u x m →
    JW G (d + 3) mX8_noteLines 4 [some (.ref 60), some (.int (jI k)), some (.int (jI m)), some (.int (jI x))] [] (n, rf_f f th z kp ed nt nl wi ht sy sz bf rs rr rq rp mm ln lo lf lt co ro pg pf hsh) bc bs (fun r9 h9 => r9 = .inl (some (.int (jI R))) ∧ h9 = (n, rf_f f th z kp ed nt nl wi ht sy sz bf rs rr rq rp mm ln lo lf lt co ro pg pf hsh)) := by
  obtain ⟨z1, z2, z3, z4⟩ := id hz
  obtain ⟨n1, n2⟩ := id hn
  have wsz := rf_sz_b hz hn (t := 10 + k) (by omega)
  intro u
  induction u with
  | zero =>
    intro m x hx hu hR
    refine ji_iload_n dX8_noteLines_4 rfl ?_
    refine ji_aload_n dX8_noteLines_5 rfl trivial ?_
    refine ji_bipush dX8_noteLines_6 rfl ?_
    refine ji_iload_n dX8_noteLines_8 rfl ?_
    refine ji_iadd dX8_noteLines_9 ?_
    refine ji_cV dX8_noteLines_10 (r_sizeOf hz hn (by omega)) rfl (rf_60) rfl rfl wX8_sizeOf vX8_sizeOf lX8_109 rfl (Nat.le_of_ble_eq_true rfl) rfl ?_
    refine ji_icmp_ge (tgt := 39) dX8_noteLines_13 rfl (by omega) (by omega) (fun c13 => ?_) (fun c13 => absurd c13 (by omega))
    refine ji_iload_n dX8_noteLines_39 rfl ?_
    exact ji_ireturn dX8_noteLines_40 rfl (rfl) ⟨by rw [hR]; rfl, rfl⟩
  | succ u ih =>
    intro m x hx hu hR
    have wle := rf_LE_b (rf_sz z nl (10 + k)) (rf_ch z nt (10 + k)) x 0 co
    refine ji_iload_n dX8_noteLines_4 rfl ?_
    refine ji_aload_n dX8_noteLines_5 rfl trivial ?_
    refine ji_bipush dX8_noteLines_6 rfl ?_
    refine ji_iload_n dX8_noteLines_8 rfl ?_
    refine ji_iadd dX8_noteLines_9 ?_
    refine ji_cV dX8_noteLines_10 (r_sizeOf hz hn (by omega)) rfl (rf_60) rfl rfl wX8_sizeOf vX8_sizeOf lX8_109 rfl (Nat.le_of_ble_eq_true rfl) rfl ?_
    refine ji_icmp_ge (tgt := 39) dX8_noteLines_13 rfl (by omega) (by omega) (fun c13 => ?_) (fun c13 => ?_)
    · try (exfalso; omega)
      all_goals
        refine ji_iload_n dX8_noteLines_39 rfl ?_
        exact ji_ireturn dX8_noteLines_40 rfl (rfl) ⟨by rw [hR, rf_c1, if_neg (by omega)], rfl⟩
    · try (exfalso; omega)
      all_goals
        refine ji_aload_n dX8_noteLines_16 rfl trivial ?_
        refine ji_bipush dX8_noteLines_17 rfl ?_
        refine ji_iload_n dX8_noteLines_19 rfl ?_
        refine ji_iadd dX8_noteLines_20 ?_
        refine ji_iload_n dX8_noteLines_21 rfl ?_
        refine ji_iconst dX8_noteLines_22 ?_
        refine ji_aload_n dX8_noteLines_23 rfl trivial ?_
        refine ji_get (ci := 8) (k := 20) rfl dX8_noteLines_24 lX8_119 (by decide) (rf_60) rfl ?_
        refine ji_cV dX8_noteLines_27 (r_lineEnd hz hn (by omega) (by omega) (by omega) (by omega)) rfl (rf_60) rfl rfl wX8_lineEnd vX8_lineEnd lX8_128 rfl (Nat.le_of_ble_eq_true rfl) rfl ?_
        refine ji_iconst dX8_noteLines_30 ?_
        refine ji_iadd dX8_noteLines_31 ?_
        refine ji_istore_n dX8_noteLines_32 (by decide) rfl ?_
        refine ji_iinc dX8_noteLines_33 (by decide) rfl rfl ?_
        refine ji_goto (tgt := 4) dX8_noteLines_36 rfl ?_
        exact ih _ _ (by omega) (by omega) (by rw [hR, rf_c1, if_pos (by omega)])

set_option maxHeartbeats 4000000 in
set_option maxRecDepth 100000 in
theorem r_noteLines (hz : rz_ok z) (hn : nl_ok nl nt) (hc9 : 0 ≤ co ∧ co ≤ 100) {k : Int} (hk9 : 0 ≤ k ∧ k < 10) : JR G (d + 3) mX8_noteLines [.ref 60, .int (jI k)] (n, rf_f f th z kp ed nt nl wi ht sy sz bf rs rr rq rp mm ln lo lf lt co ro pg pf hsh) 0 0 (some (.int (jI (rf_NL z nl nt co k)))) (n, rf_f f th z kp ed nt nl wi ht sy sz bf rs rr rq rp mm ln lo lf lt co ro pg pf hsh) := by
  have wsz := rf_sz_b hz hn (t := 10 + k) (by omega)
  refine ji_ent (by decide) rfl (Nat.le_of_ble_eq_true rfl) rfl ?_
  refine ji_iconst dX8_noteLines_0 ?_
  refine ji_istore_n dX8_noteLines_1 (by decide) rfl ?_
  refine ji_iconst dX8_noteLines_2 ?_
  refine ji_istore_n dX8_noteLines_3 (by decide) rfl ?_
  exact r_noteLines_l hz hn hc9 hk9 (rf_sz z nl (10 + k)).toNat 0 0 (by omega) (by omega) rfl

set_option maxHeartbeats 4000000 in
set_option maxRecDepth 100000 in
theorem r_isShownNote (hn : nl_ok nl nt) (hk : rk_ok z sy) {x9 : Int} (hx9 : 0 ≤ x9 ∧ x9 < 1024) {k : Int} (hk9 : 0 ≤ k ∧ k < 10) : JR G d mX8_isShownNote [.ref 60, .int (jI x9), .int (jI k)] (n, rf_f f th z kp ed nt nl wi ht sy sz bf rs rr rq rp mm ln lo lf lt co ro pg pf hsh) 0 0 (some (.int (jI (rf_SN nl sy x9 k)))) (n, rf_f f th z kp ed nt nl wi ht sy sz bf rs rr rq rp mm ln lo lf lt co ro pg pf hsh) := by
  obtain ⟨k1, k2⟩ := id hk
  have n1 := hn.1 k.toNat
  have s4 := k2 4
  have wb := ly_bit_b x9 k
  refine ji_ent (by decide) rfl (Nat.le_of_ble_eq_true rfl) rfl ?_
  refine ji_iload_n dX8_isShownNote_0 rfl ?_
  refine ji_iload_n dX8_isShownNote_1 rfl ?_
  refine ji_iop dX8_isShownNote_2 (Or.inr (Or.inr (Or.inr ⟨rfl, rfl⟩))) ?_
  refine ji_iconst dX8_isShownNote_3 ?_
  refine ji_iop dX8_isShownNote_4 (Or.inl ⟨rfl, rfl⟩) ?_
  rw [ly_sh hx9 hk9]
  refine ji_iconst dX8_isShownNote_5 ?_
  refine ji_icmp_ne (tgt := 32) dX8_isShownNote_6 rfl (by omega) (by omega) (fun c6 => ?_) (fun c6 => ?_)
  · try (exfalso; omega)
    all_goals
      refine ji_iconst dX8_isShownNote_32 ?_
      exact ji_ireturn dX8_isShownNote_33 rfl (by first | rfl | decide) ⟨jr_i (by unfold rf_SN; first | (rw [if_pos (by omega)]; done) | (rw [if_neg (by omega)]; done)), rfl⟩
  · try (exfalso; omega)
    all_goals
      refine ji_aload_n dX8_isShownNote_9 rfl trivial ?_
      refine ji_get (ci := 8) (k := 5) rfl dX8_isShownNote_10 lX8_19 (by decide) (rf_60) rfl ?_
      refine ji_iload_n dX8_isShownNote_13 rfl ?_
      refine ji_iaload dX8_isShownNote_14 (rf_64) (by omega) ?_
      refine ji_if_le (tgt := 32) dX8_isShownNote_15 rfl (by omega) (fun c15 => ?_) (fun c15 => ?_)
      · try (exfalso; omega)
        all_goals
          refine ji_iconst dX8_isShownNote_32 ?_
          exact ji_ireturn dX8_isShownNote_33 rfl (by first | rfl | decide) ⟨jr_i (by unfold rf_SN; first | (rw [if_pos (by omega)]; done) | (rw [if_neg (by omega)]; done)), rfl⟩
      · try (exfalso; omega)
        all_goals
          refine ji_aload_n dX8_isShownNote_18 rfl trivial ?_
          refine ji_get (ci := 8) (k := 8) rfl dX8_isShownNote_19 lX8_29 (by decide) (rf_60) rfl ?_
          refine ji_iconst dX8_isShownNote_22 ?_
          refine ji_ialoadK (k := 4) dX8_isShownNote_23 (rf_65) rfl (by decide) ?_
          refine ji_iconst dX8_isShownNote_24 ?_
          refine ji_icmp_ne (tgt := 32) dX8_isShownNote_25 rfl (by omega) (by omega) (fun c25 => ?_) (fun c25 => ?_)
          · try (exfalso; omega)
            all_goals
              refine ji_iconst dX8_isShownNote_32 ?_
              exact ji_ireturn dX8_isShownNote_33 rfl (by first | rfl | decide) ⟨jr_i (by unfold rf_SN; first | (rw [if_pos (by omega)]; done) | (rw [if_neg (by omega)]; done)), rfl⟩
          · try (exfalso; omega)
            all_goals
              refine ji_iconst dX8_isShownNote_28 ?_
              refine ji_goto (tgt := 33) dX8_isShownNote_29 rfl ?_
              exact ji_ireturn dX8_isShownNote_33 rfl (by first | rfl | decide) ⟨jr_i (by unfold rf_SN; first | (rw [if_pos (by omega)]; done) | (rw [if_neg (by omega)]; done)), rfl⟩

set_option maxHeartbeats 4000000 in
set_option maxRecDepth 100000 in
theorem r_noteRows_l {bc bs : Nat} (hz : rz_ok z) (hn : nl_ok nl nt) (hk : rk_ok z sy) (hc9 : 0 ≤ co ∧ co ≤ 100) {x9 : Int} (hx9 : 0 ≤ x9 ∧ x9 < 1024) : ∀ (u : Nat) (k m : Int), 0 ≤ k ∧ k + u = 10 → m = rf_nr z nl nt sy co x9 k.toNat →
    JW G (d + 4) mX8_noteRows 4 [some (.ref 60), some (.int (jI x9)), some (.int (jI m)), some (.int (jI k))] [] (n, rf_f f th z kp ed nt nl wi ht sy sz bf rs rr rq rp mm ln lo lf lt co ro pg pf hsh) bc bs (fun r9 h9 => r9 = .inl (some (.int (jI (rf_NR z nl nt sy co x9)))) ∧ h9 = (n, rf_f f th z kp ed nt nl wi ht sy sz bf rs rr rq rp mm ln lo lf lt co ro pg pf hsh)) := by
  intro u
  induction u with
  | zero =>
    intro k m hk9 hm
    have ek : k = 10 := by omega
    subst ek
    have g1 := rf_nr_b hz hn sy co x9 10 (by omega)
    have e3 : (10 : Int).toNat = 10 := rfl
    rw [e3] at hm
    refine ji_iload_n dX8_noteRows_4 rfl ?_
    refine ji_bipush dX8_noteRows_5 rfl ?_
    refine ji_icmp_ge (tgt := 37) dX8_noteRows_7 rfl (by omega) (by omega) (fun c7 => ?_) (fun c7 => absurd c7 (by omega))
    refine ji_iload_n dX8_noteRows_37 rfl ?_
    refine ji_if_le (tgt := 47) dX8_noteRows_38 rfl (by omega) (fun c38 => ?_) (fun c38 => ?_)
    · try (exfalso; omega)
      all_goals
        refine ji_iconst dX8_noteRows_47 ?_
        exact ji_ireturn dX8_noteRows_48 rfl (rfl) ⟨jr_i (by unfold rf_NR; first | (rw [if_pos (by omega)]; omega) | (rw [if_neg (by omega)]; done)), rfl⟩
    · try (exfalso; omega)
      all_goals
        refine ji_iload_n dX8_noteRows_41 rfl ?_
        refine ji_iconst dX8_noteRows_42 ?_
        refine ji_iadd dX8_noteRows_43 ?_
        refine ji_goto (tgt := 48) dX8_noteRows_44 rfl ?_
        exact ji_ireturn dX8_noteRows_48 rfl (rfl) ⟨jr_i (by unfold rf_NR; first | (rw [if_pos (by omega)]; omega) | (rw [if_neg (by omega)]; done)), rfl⟩
  | succ u ih =>
    intro k m hk9 hm
    have e1 : (k + 1).toNat = k.toNat + 1 := by omega
    have e2 : ((k.toNat : Nat) : Int) = k := by omega
    have wsn := rf_SN_d nl sy x9 k
    have wnl := rf_NL_b hz hn co (k := k) (by omega)
    have wnr := rf_nr_b hz hn sy co x9 k.toNat (by omega)
    refine ji_iload_n dX8_noteRows_4 rfl ?_
    refine ji_bipush dX8_noteRows_5 rfl ?_
    refine ji_icmp_ge (tgt := 37) dX8_noteRows_7 rfl (by omega) (by omega) (fun c7 => absurd c7 (by omega)) (fun c7 => ?_)
    refine ji_iload_n dX8_noteRows_10 rfl ?_
    refine ji_aload_n dX8_noteRows_11 rfl trivial ?_
    refine ji_iload_n dX8_noteRows_12 rfl ?_
    refine ji_iload_n dX8_noteRows_13 rfl ?_
    refine ji_cV dX8_noteRows_14 (r_isShownNote hn hk hx9 (by omega)) rfl (rf_60) rfl rfl wX8_isShownNote vX8_isShownNote lX8_135 rfl (Nat.le_of_ble_eq_true rfl) rfl ?_
    refine ji_if_eq (tgt := 28) dX8_noteRows_17 rfl (by omega) (fun c17 => ?_) (fun c17 => ?_)
    · try (exfalso; omega)
      all_goals
        refine ji_iconst dX8_noteRows_28 ?_
        refine ji_iadd dX8_noteRows_29 ?_
        refine ji_istore_n dX8_noteRows_30 (by decide) rfl ?_
        refine ji_iinc dX8_noteRows_31 (by decide) rfl rfl ?_
        refine ji_goto (tgt := 4) dX8_noteRows_34 rfl ?_
        exact ih _ _ (by omega) (by rw [e1, rf_nr, ← hm, e2]; first | (rw [if_pos (by omega)]; done) | (rw [if_neg (by omega)]; done))
    · try (exfalso; omega)
      all_goals
        refine ji_aload_n dX8_noteRows_20 rfl trivial ?_
        refine ji_iload_n dX8_noteRows_21 rfl ?_
        refine ji_cV dX8_noteRows_22 (r_noteLines hz hn hc9 (by omega)) rfl (rf_60) rfl rfl wX8_noteLines vX8_noteLines lX8_139 rfl (Nat.le_of_ble_eq_true rfl) rfl ?_
        refine ji_goto (tgt := 29) dX8_noteRows_25 rfl ?_
        refine ji_iadd dX8_noteRows_29 ?_
        refine ji_istore_n dX8_noteRows_30 (by decide) rfl ?_
        refine ji_iinc dX8_noteRows_31 (by decide) rfl rfl ?_
        refine ji_goto (tgt := 4) dX8_noteRows_34 rfl ?_
        exact ih _ _ (by omega) (by rw [e1, rf_nr, ← hm, e2]; first | (rw [if_pos (by omega)]; done) | (rw [if_neg (by omega)]; done))

set_option maxHeartbeats 4000000 in
set_option maxRecDepth 100000 in
theorem r_noteRows (hz : rz_ok z) (hn : nl_ok nl nt) (hk : rk_ok z sy) (hc9 : 0 ≤ co ∧ co ≤ 100) {x9 : Int} (hx9 : 0 ≤ x9 ∧ x9 < 1024) : JR G (d + 4) mX8_noteRows [.ref 60, .int (jI x9)] (n, rf_f f th z kp ed nt nl wi ht sy sz bf rs rr rq rp mm ln lo lf lt co ro pg pf hsh) 0 0 (some (.int (jI (rf_NR z nl nt sy co x9)))) (n, rf_f f th z kp ed nt nl wi ht sy sz bf rs rr rq rp mm ln lo lf lt co ro pg pf hsh) := by
  refine ji_ent (by decide) rfl (Nat.le_of_ble_eq_true rfl) rfl ?_
  refine ji_iconst dX8_noteRows_0 ?_
  refine ji_istore_n dX8_noteRows_1 (by decide) rfl ?_
  refine ji_iconst dX8_noteRows_2 ?_
  refine ji_istore_n dX8_noteRows_3 (by decide) rfl ?_
  exact r_noteRows_l hz hn hk hc9 hx9 10 0 0 (by omega) rfl

set_option maxHeartbeats 4000000 in
set_option maxRecDepth 100000 in
theorem r_rowsOf_l {bc bs : Nat} {x1 y1 R : Int} (hz : rz_ok z) (hk : rk_ok z sy) (hrl : rl_ok z ln lo lf lt) (h1 : 0 ≤ x1 ∧ x1 ≤ ln ∧ 0 ≤ y1 ∧ y1 ≤ ln) : ∀ (u : Nat) (r l : Int), 0 ≤ l → l ≤ 1000 → u = (y1 - l).toNat → R = rf_ro z sy lo lf u l r →
    JW G (d + 2) mX8_rowsOf 9 [some (.ref 60), some (.int (jI x1)), some (.int (jI y1)), some (.int (jI r)), some (.int (jI l))] [] (n, rf_f f th z kp ed nt nl wi ht sy sz bf rs rr rq rp mm ln lo lf lt co ro pg pf hsh) bc bs (fun r9 h9 => r9 = .inl (some (.int (jI R))) ∧ h9 = (n, rf_f f th z kp ed nt nl wi ht sy sz bf rs rr rq rp mm ln lo lf lt co ro pg pf hsh)) := by
  obtain ⟨r1, r2⟩ := id hrl
  intro u
  induction u with
  | zero =>
    intro r l hl hl2 hu hR
    refine ji_iload dX8_rowsOf_9 rfl ?_
    refine ji_iload_n dX8_rowsOf_11 rfl ?_
    refine ji_icmp_ge (tgt := 30) dX8_rowsOf_12 rfl (by omega) (by omega) (fun c12 => ?_) (fun c12 => absurd c12 (by omega))
    refine ji_iload_n dX8_rowsOf_30 rfl ?_
    exact ji_ireturn dX8_rowsOf_31 rfl (rfl) ⟨by rw [hR]; rfl, rfl⟩
  | succ u ih =>
    intro r l hl hl2 hu hR
    refine ji_iload dX8_rowsOf_9 rfl ?_
    refine ji_iload_n dX8_rowsOf_11 rfl ?_
    refine ji_icmp_ge (tgt := 30) dX8_rowsOf_12 rfl (by omega) (by omega) (fun c12 => absurd c12 (by omega)) (fun c12 => ?_)
    refine ji_iload_n dX8_rowsOf_15 rfl ?_
    refine ji_aload_n dX8_rowsOf_16 rfl trivial ?_
    refine ji_iload dX8_rowsOf_17 rfl ?_
    refine ji_cV dX8_rowsOf_19 (r_gapBefore hz hk hrl (by omega)) rfl (rf_60) rfl rfl wX8_gapBefore vX8_gapBefore lX8_142 rfl (Nat.le_of_ble_eq_true rfl) rfl ?_
    refine ji_iadd dX8_rowsOf_22 ?_
    refine ji_istore_n dX8_rowsOf_23 (by decide) rfl ?_
    refine ji_iinc dX8_rowsOf_24 (by decide) rfl rfl ?_
    refine ji_goto (tgt := 9) dX8_rowsOf_27 rfl ?_
    exact ih _ _ (by omega) (by omega) (by omega) (by rw [hR, rf_ro])

set_option maxHeartbeats 4000000 in
set_option maxRecDepth 100000 in
theorem r_rowsOf (hz : rz_ok z) (hk : rk_ok z sy) (hrl : rl_ok z ln lo lf lt) {x1 y1 : Int} (h1 : 0 ≤ x1 ∧ x1 ≤ ln ∧ 0 ≤ y1 ∧ y1 ≤ ln) : JR G (d + 2) mX8_rowsOf [.ref 60, .int (jI x1), .int (jI y1)] (n, rf_f f th z kp ed nt nl wi ht sy sz bf rs rr rq rp mm ln lo lf lt co ro pg pf hsh) 0 0 (some (.int (jI (rf_RO z sy lo lf x1 y1)))) (n, rf_f f th z kp ed nt nl wi ht sy sz bf rs rr rq rp mm ln lo lf lt co ro pg pf hsh) := by
  obtain ⟨r1, r2⟩ := id hrl
  refine ji_ent (by decide) rfl (Nat.le_of_ble_eq_true rfl) rfl ?_
  refine ji_iload_n dX8_rowsOf_0 rfl ?_
  refine ji_iload_n dX8_rowsOf_1 rfl ?_
  refine ji_isub dX8_rowsOf_2 ?_
  refine ji_istore_n dX8_rowsOf_3 (by decide) rfl ?_
  refine ji_iload_n dX8_rowsOf_4 rfl ?_
  refine ji_iconst dX8_rowsOf_5 ?_
  refine ji_iadd dX8_rowsOf_6 ?_
  refine ji_istore dX8_rowsOf_7 (by decide) rfl ?_
  exact r_rowsOf_l hz hk hrl h1 (y1 - (x1 + 1)).toNat _ _ (by omega) (by omega) rfl rfl

set_option maxHeartbeats 4000000 in
set_option maxRecDepth 100000 in
theorem r_need (hz : rz_ok z) (hn : nl_ok nl nt) (hk : rk_ok z sy) (hc9 : 0 ≤ co ∧ co ≤ 100) (hrl : rl_ok z ln lo lf lt) (hrc : rc_ok z) {x1 y1 : Int} (h1 : 0 ≤ x1 ∧ x1 ≤ y1 ∧ y1 ≤ ln) : JR G (d + 5) mX8_need [.ref 60, .int (jI x1), .int (jI y1)] (n, rf_f f th z kp ed nt nl wi ht sy sz bf rs rr rq rp mm ln lo lf lt co ro pg pf hsh) 0 0 (some (.int (jI (rf_ND z nl nt sy co lo lf lt x1 y1)))) (n, rf_f f th z kp ed nt nl wi ht sy sz bf rs rr rq rp mm ln lo lf lt co ro pg pf hsh) := by
  have w1 := rf_NO_b (nt := nt) hz hrl hrc h1
  refine ji_ent (by decide) rfl (Nat.le_of_ble_eq_true rfl) rfl ?_
  refine ji_aload_n dX8_need_0 rfl trivial ?_
  refine ji_iload_n dX8_need_1 rfl ?_
  refine ji_iload_n dX8_need_2 rfl ?_
  refine ji_cV dX8_need_3 (r_rowsOf hz hk hrl (by omega)) rfl (rf_60) rfl rfl wX8_rowsOf vX8_rowsOf lX8_145 rfl (Nat.le_of_ble_eq_true rfl) rfl ?_
  refine ji_aload_n dX8_need_6 rfl trivial ?_
  refine ji_aload_n dX8_need_7 rfl trivial ?_
  refine ji_iload_n dX8_need_8 rfl ?_
  refine ji_iload_n dX8_need_9 rfl ?_
  refine ji_cV dX8_need_10 (r_notesOn hz hn hrl hrc (by omega)) rfl (rf_60) rfl rfl wX8_notesOn vX8_notesOn lX8_148 rfl (Nat.le_of_ble_eq_true rfl) rfl ?_
  refine ji_cV dX8_need_13 (r_noteRows hz hn hk hc9 (by omega)) rfl (rf_60) rfl rfl wX8_noteRows vX8_noteRows lX8_151 rfl (Nat.le_of_ble_eq_true rfl) rfl ?_
  refine ji_iadd dX8_need_16 ?_
  exact ji_ireturn dX8_need_17 rfl (rfl) ⟨rfl, rfl⟩

set_option maxHeartbeats 4000000 in
set_option maxRecDepth 100000 in
theorem r_isLast (hz : rz_ok z) (hrl : rl_ok z ln lo lf lt) {l : Int} (hl : 0 ≤ l ∧ l < ln) : JR G d mX8_isLast [.ref 60, .int (jI l)] (n, rf_f f th z kp ed nt nl wi ht sy sz bf rs rr rq rp mm ln lo lf lt co ro pg pf hsh) 0 0 (some (.int (jI (rf_IL ln lo l)))) (n, rf_f f th z kp ed nt nl wi ht sy sz bf rs rr rq rp mm ln lo lf lt co ro pg pf hsh) := by
  obtain ⟨r1, r2⟩ := id hrl
  have rl := r2 l.toNat (by omega)
  have zb := hz.2.1
  have rl1 : l = ln - 1 ∨ (0 ≤ lo (l + 1).toNat ∧ lo (l + 1).toNat < z 0) := by
    by_cases q : l = ln - 1
    · exact Or.inl q
    · exact Or.inr (r2 (l + 1).toNat (by omega)).1
  refine ji_ent (by decide) rfl (Nat.le_of_ble_eq_true rfl) rfl ?_
  refine ji_iload_n dX8_isLast_0 rfl ?_
  refine ji_aload_n dX8_isLast_1 rfl trivial ?_
  refine ji_get (ci := 8) (k := 16) rfl dX8_isLast_2 lX8_122 (by decide) (rf_60) rfl ?_
  refine ji_iconst dX8_isLast_5 ?_
  refine ji_isub dX8_isLast_6 ?_
  refine ji_icmp_eq (tgt := 27) dX8_isLast_7 rfl (by omega) (by omega) (fun c7 => ?_) (fun c7 => ?_)
  · try (exfalso; omega)
    all_goals
      refine ji_iconst dX8_isLast_27 ?_
      refine ji_goto (tgt := 32) dX8_isLast_28 rfl ?_
      exact ji_ireturn dX8_isLast_32 rfl (by first | rfl | decide) ⟨jr_i (by unfold rf_IL; first | (rw [if_pos (by omega)]; done) | (rw [if_neg (by omega)]; done)), rfl⟩
  · try (exfalso; omega)
    all_goals
      refine ji_aload_n dX8_isLast_10 rfl trivial ?_
      refine ji_get (ci := 8) (k := 17) rfl dX8_isLast_11 lX8_35 (by decide) (rf_60) rfl ?_
      refine ji_iload_n dX8_isLast_14 rfl ?_
      refine ji_iconst dX8_isLast_15 ?_
      refine ji_iadd dX8_isLast_16 ?_
      refine ji_iaload dX8_isLast_17 (rf_67) (by omega) ?_
      refine ji_aload_n dX8_isLast_18 rfl trivial ?_
      refine ji_get (ci := 8) (k := 17) rfl dX8_isLast_19 lX8_35 (by decide) (rf_60) rfl ?_
      refine ji_iload_n dX8_isLast_22 rfl ?_
      refine ji_iaload dX8_isLast_23 (rf_67) (by omega) ?_
      refine ji_icmp_eq (tgt := 31) dX8_isLast_24 rfl (by omega) (by omega) (fun c24 => ?_) (fun c24 => ?_)
      · try (exfalso; omega)
        all_goals
          refine ji_iconst dX8_isLast_31 ?_
          exact ji_ireturn dX8_isLast_32 rfl (by first | rfl | decide) ⟨jr_i (by unfold rf_IL; first | (rw [if_pos (by omega)]; done) | (rw [if_neg (by omega)]; done)), rfl⟩
      · try (exfalso; omega)
        all_goals
          refine ji_iconst dX8_isLast_27 ?_
          refine ji_goto (tgt := 32) dX8_isLast_28 rfl ?_
          exact ji_ireturn dX8_isLast_32 rfl (by first | rfl | decide) ⟨jr_i (by unfold rf_IL; first | (rw [if_pos (by omega)]; done) | (rw [if_neg (by omega)]; done)), rfl⟩

set_option maxHeartbeats 4000000 in
set_option maxRecDepth 100000 in
theorem r_mayBreak (hz : rz_ok z) (hk : rk_ok z sy) (hrl : rl_ok z ln lo lf lt) {y : Int} (hy : 1 ≤ y ∧ y < ln) : JR G (d + 1) mX8_mayBreak [.ref 60, .int (jI y)] (n, rf_f f th z kp ed nt nl wi ht sy sz bf rs rr rq rp mm ln lo lf lt co ro pg pf hsh) 0 0 (some (.int (jI (rf_MB z ln lo lf y)))) (n, rf_f f th z kp ed nt nl wi ht sy sz bf rs rr rq rp mm ln lo lf lt co ro pg pf hsh) := by
  obtain ⟨k1, k2⟩ := id hk
  obtain ⟨r1, r2⟩ := id hrl
  have zb := hz.2.1
  have rl := r2 y.toNat (by omega)
  have rl1 := r2 (y - 1).toNat (by omega)
  have zk := k1 (75 + lo (y - 1).toNat).toNat (by omega) (by omega)
  have wf1 := rf_FI_d lf (y - 1)
  have wf := rf_FI_d lf y
  have wl := rf_IL_d ln lo y
  refine ji_ent (by decide) rfl (Nat.le_of_ble_eq_true rfl) rfl ?_
  refine ji_aload_n dX8_mayBreak_0 rfl trivial ?_
  refine ji_get (ci := 8) (k := 1) rfl dX8_mayBreak_1 lX8_7 (by decide) (rf_60) rfl ?_
  refine ji_bipush dX8_mayBreak_4 rfl ?_
  refine ji_aload_n dX8_mayBreak_6 rfl trivial ?_
  refine ji_get (ci := 8) (k := 17) rfl dX8_mayBreak_7 lX8_35 (by decide) (rf_60) rfl ?_
  refine ji_iload_n dX8_mayBreak_10 rfl ?_
  refine ji_iconst dX8_mayBreak_11 ?_
  refine ji_isub dX8_mayBreak_12 ?_
  refine ji_iaload dX8_mayBreak_13 (rf_67) (by omega) ?_
  refine ji_iadd dX8_mayBreak_14 ?_
  refine ji_iaload dX8_mayBreak_15 (rf_61) (by omega) ?_
  refine ji_iconst dX8_mayBreak_16 ?_
  refine ji_icmp_ne (tgt := 24) dX8_mayBreak_17 rfl (by omega) (by omega) (fun c17 => ?_) (fun c17 => ?_)
  · try (exfalso; omega)
    all_goals
      refine ji_iconst dX8_mayBreak_24 ?_
      refine ji_istore_n dX8_mayBreak_25 (by decide) rfl ?_
      refine ji_aload_n dX8_mayBreak_26 rfl trivial ?_
      refine ji_get (ci := 8) (k := 17) rfl dX8_mayBreak_27 lX8_35 (by decide) (rf_60) rfl ?_
      refine ji_iload_n dX8_mayBreak_30 rfl ?_
      refine ji_iaload dX8_mayBreak_31 (rf_67) (by omega) ?_
      refine ji_aload_n dX8_mayBreak_32 rfl trivial ?_
      refine ji_get (ci := 8) (k := 17) rfl dX8_mayBreak_33 lX8_35 (by decide) (rf_60) rfl ?_
      refine ji_iload_n dX8_mayBreak_36 rfl ?_
      refine ji_iconst dX8_mayBreak_37 ?_
      refine ji_isub dX8_mayBreak_38 ?_
      refine ji_iaload dX8_mayBreak_39 (rf_67) (by omega) ?_
      refine ji_icmp_ne (tgt := 57) dX8_mayBreak_40 rfl (by omega) (by omega) (fun c40 => ?_) (fun c40 => ?_)
      · try (exfalso; omega)
        all_goals
          refine ji_iconst dX8_mayBreak_57 ?_
          refine ji_istore_n dX8_mayBreak_58 (by decide) rfl ?_
          refine ji_aload_n dX8_mayBreak_59 rfl trivial ?_
          refine ji_iload_n dX8_mayBreak_60 rfl ?_
          refine ji_cV dX8_mayBreak_61 (r_isLast hz hrl (by omega)) rfl (rf_60) rfl rfl wX8_isLast vX8_isLast lX8_154 rfl (Nat.le_of_ble_eq_true rfl) rfl ?_
          refine ji_if_eq (tgt := 79) dX8_mayBreak_64 rfl (by omega) (fun c64 => ?_) (fun c64 => ?_)
          · try (exfalso; omega)
            all_goals
              refine ji_iconst dX8_mayBreak_79 ?_
              refine ji_istore dX8_mayBreak_80 (by decide) rfl ?_
              refine ji_iload_n dX8_mayBreak_82 rfl ?_
              refine ji_if_ne (tgt := 99) dX8_mayBreak_83 rfl (by omega) (fun c83 => ?_) (fun c83 => ?_)
              · try (exfalso; omega)
                all_goals
                  refine ji_iconst dX8_mayBreak_99 ?_
                  exact ji_ireturn dX8_mayBreak_100 rfl (by first | rfl | decide) ⟨jr_i (by unfold rf_MB; first | (rw [if_pos (by omega)]; done) | (rw [if_neg (by omega)]; done)), rfl⟩
              · try (exfalso; omega)
                all_goals
                  refine ji_iload_n dX8_mayBreak_86 rfl ?_
                  refine ji_if_ne (tgt := 99) dX8_mayBreak_87 rfl (by omega) (fun c87 => ?_) (fun c87 => ?_)
                  · try (exfalso; omega)
                    all_goals
                      refine ji_iconst dX8_mayBreak_99 ?_
                      exact ji_ireturn dX8_mayBreak_100 rfl (by first | rfl | decide) ⟨jr_i (by unfold rf_MB; first | (rw [if_pos (by omega)]; done) | (rw [if_neg (by omega)]; done)), rfl⟩
                  · try (exfalso; omega)
                    all_goals
                      refine ji_iload dX8_mayBreak_90 rfl ?_
                      refine ji_if_ne (tgt := 99) dX8_mayBreak_92 rfl (by omega) (fun c92 => ?_) (fun c92 => ?_)
                      · try (exfalso; omega)
                        all_goals
                          refine ji_iconst dX8_mayBreak_99 ?_
                          exact ji_ireturn dX8_mayBreak_100 rfl (by first | rfl | decide) ⟨jr_i (by unfold rf_MB; first | (rw [if_pos (by omega)]; done) | (rw [if_neg (by omega)]; done)), rfl⟩
                      · try (exfalso; omega)
                        all_goals
                          refine ji_iconst dX8_mayBreak_95 ?_
                          refine ji_goto (tgt := 100) dX8_mayBreak_96 rfl ?_
                          exact ji_ireturn dX8_mayBreak_100 rfl (by first | rfl | decide) ⟨jr_i (by unfold rf_MB; first | (rw [if_pos (by omega)]; done) | (rw [if_neg (by omega)]; done)), rfl⟩
          · try (exfalso; omega)
            all_goals
              refine ji_aload_n dX8_mayBreak_67 rfl trivial ?_
              refine ji_iload_n dX8_mayBreak_68 rfl ?_
              refine ji_cV dX8_mayBreak_69 (r_isFirst hz hrl (by omega)) rfl (rf_60) rfl rfl wX8_isFirst vX8_isFirst lX8_132 rfl (Nat.le_of_ble_eq_true rfl) rfl ?_
              refine ji_if_ne (tgt := 79) dX8_mayBreak_72 rfl (by omega) (fun c72 => ?_) (fun c72 => ?_)
              · try (exfalso; omega)
                all_goals
                  refine ji_iconst dX8_mayBreak_79 ?_
                  refine ji_istore dX8_mayBreak_80 (by decide) rfl ?_
                  refine ji_iload_n dX8_mayBreak_82 rfl ?_
                  refine ji_if_ne (tgt := 99) dX8_mayBreak_83 rfl (by omega) (fun c83 => ?_) (fun c83 => ?_)
                  · try (exfalso; omega)
                    all_goals
                      refine ji_iconst dX8_mayBreak_99 ?_
                      exact ji_ireturn dX8_mayBreak_100 rfl (by first | rfl | decide) ⟨jr_i (by unfold rf_MB; first | (rw [if_pos (by omega)]; done) | (rw [if_neg (by omega)]; done)), rfl⟩
                  · try (exfalso; omega)
                    all_goals
                      refine ji_iload_n dX8_mayBreak_86 rfl ?_
                      refine ji_if_ne (tgt := 99) dX8_mayBreak_87 rfl (by omega) (fun c87 => ?_) (fun c87 => ?_)
                      · try (exfalso; omega)
                        all_goals
                          refine ji_iconst dX8_mayBreak_99 ?_
                          exact ji_ireturn dX8_mayBreak_100 rfl (by first | rfl | decide) ⟨jr_i (by unfold rf_MB; first | (rw [if_pos (by omega)]; done) | (rw [if_neg (by omega)]; done)), rfl⟩
                      · try (exfalso; omega)
                        all_goals
                          refine ji_iload dX8_mayBreak_90 rfl ?_
                          refine ji_if_ne (tgt := 99) dX8_mayBreak_92 rfl (by omega) (fun c92 => ?_) (fun c92 => ?_)
                          · try (exfalso; omega)
                            all_goals
                              refine ji_iconst dX8_mayBreak_99 ?_
                              exact ji_ireturn dX8_mayBreak_100 rfl (by first | rfl | decide) ⟨jr_i (by unfold rf_MB; first | (rw [if_pos (by omega)]; done) | (rw [if_neg (by omega)]; done)), rfl⟩
                          · try (exfalso; omega)
                            all_goals
                              refine ji_iconst dX8_mayBreak_95 ?_
                              refine ji_goto (tgt := 100) dX8_mayBreak_96 rfl ?_
                              exact ji_ireturn dX8_mayBreak_100 rfl (by first | rfl | decide) ⟨jr_i (by unfold rf_MB; first | (rw [if_pos (by omega)]; done) | (rw [if_neg (by omega)]; done)), rfl⟩
              · try (exfalso; omega)
                all_goals
                  refine ji_iconst dX8_mayBreak_75 ?_
                  refine ji_goto (tgt := 80) dX8_mayBreak_76 rfl ?_
                  refine ji_istore dX8_mayBreak_80 (by decide) rfl ?_
                  refine ji_iload_n dX8_mayBreak_82 rfl ?_
                  refine ji_if_ne (tgt := 99) dX8_mayBreak_83 rfl (by omega) (fun c83 => ?_) (fun c83 => ?_)
                  · try (exfalso; omega)
                    all_goals
                      refine ji_iconst dX8_mayBreak_99 ?_
                      exact ji_ireturn dX8_mayBreak_100 rfl (by first | rfl | decide) ⟨jr_i (by unfold rf_MB; first | (rw [if_pos (by omega)]; done) | (rw [if_neg (by omega)]; done)), rfl⟩
                  · try (exfalso; omega)
                    all_goals
                      refine ji_iload_n dX8_mayBreak_86 rfl ?_
                      refine ji_if_ne (tgt := 99) dX8_mayBreak_87 rfl (by omega) (fun c87 => ?_) (fun c87 => ?_)
                      · try (exfalso; omega)
                        all_goals
                          refine ji_iconst dX8_mayBreak_99 ?_
                          exact ji_ireturn dX8_mayBreak_100 rfl (by first | rfl | decide) ⟨jr_i (by unfold rf_MB; first | (rw [if_pos (by omega)]; done) | (rw [if_neg (by omega)]; done)), rfl⟩
                      · try (exfalso; omega)
                        all_goals
                          refine ji_iload dX8_mayBreak_90 rfl ?_
                          refine ji_if_ne (tgt := 99) dX8_mayBreak_92 rfl (by omega) (fun c92 => ?_) (fun c92 => ?_)
                          · try (exfalso; omega)
                            all_goals
                              refine ji_iconst dX8_mayBreak_99 ?_
                              exact ji_ireturn dX8_mayBreak_100 rfl (by first | rfl | decide) ⟨jr_i (by unfold rf_MB; first | (rw [if_pos (by omega)]; done) | (rw [if_neg (by omega)]; done)), rfl⟩
                          · try (exfalso; omega)
                            all_goals
                              refine ji_iconst dX8_mayBreak_95 ?_
                              refine ji_goto (tgt := 100) dX8_mayBreak_96 rfl ?_
                              exact ji_ireturn dX8_mayBreak_100 rfl (by first | rfl | decide) ⟨jr_i (by unfold rf_MB; first | (rw [if_pos (by omega)]; done) | (rw [if_neg (by omega)]; done)), rfl⟩
      · try (exfalso; omega)
        all_goals
          refine ji_aload_n dX8_mayBreak_43 rfl trivial ?_
          refine ji_iload_n dX8_mayBreak_44 rfl ?_
          refine ji_iconst dX8_mayBreak_45 ?_
          refine ji_isub dX8_mayBreak_46 ?_
          refine ji_cV dX8_mayBreak_47 (r_isFirst hz hrl (by omega)) rfl (rf_60) rfl rfl wX8_isFirst vX8_isFirst lX8_132 rfl (Nat.le_of_ble_eq_true rfl) rfl ?_
          refine ji_if_eq (tgt := 57) dX8_mayBreak_50 rfl (by omega) (fun c50 => ?_) (fun c50 => ?_)
          · try (exfalso; omega)
            all_goals
              refine ji_iconst dX8_mayBreak_57 ?_
              refine ji_istore_n dX8_mayBreak_58 (by decide) rfl ?_
              refine ji_aload_n dX8_mayBreak_59 rfl trivial ?_
              refine ji_iload_n dX8_mayBreak_60 rfl ?_
              refine ji_cV dX8_mayBreak_61 (r_isLast hz hrl (by omega)) rfl (rf_60) rfl rfl wX8_isLast vX8_isLast lX8_154 rfl (Nat.le_of_ble_eq_true rfl) rfl ?_
              refine ji_if_eq (tgt := 79) dX8_mayBreak_64 rfl (by omega) (fun c64 => ?_) (fun c64 => ?_)
              · try (exfalso; omega)
                all_goals
                  refine ji_iconst dX8_mayBreak_79 ?_
                  refine ji_istore dX8_mayBreak_80 (by decide) rfl ?_
                  refine ji_iload_n dX8_mayBreak_82 rfl ?_
                  refine ji_if_ne (tgt := 99) dX8_mayBreak_83 rfl (by omega) (fun c83 => ?_) (fun c83 => ?_)
                  · try (exfalso; omega)
                    all_goals
                      refine ji_iconst dX8_mayBreak_99 ?_
                      exact ji_ireturn dX8_mayBreak_100 rfl (by first | rfl | decide) ⟨jr_i (by unfold rf_MB; first | (rw [if_pos (by omega)]; done) | (rw [if_neg (by omega)]; done)), rfl⟩
                  · try (exfalso; omega)
                    all_goals
                      refine ji_iload_n dX8_mayBreak_86 rfl ?_
                      refine ji_if_ne (tgt := 99) dX8_mayBreak_87 rfl (by omega) (fun c87 => ?_) (fun c87 => ?_)
                      · try (exfalso; omega)
                        all_goals
                          refine ji_iconst dX8_mayBreak_99 ?_
                          exact ji_ireturn dX8_mayBreak_100 rfl (by first | rfl | decide) ⟨jr_i (by unfold rf_MB; first | (rw [if_pos (by omega)]; done) | (rw [if_neg (by omega)]; done)), rfl⟩
                      · try (exfalso; omega)
                        all_goals
                          refine ji_iload dX8_mayBreak_90 rfl ?_
                          refine ji_if_ne (tgt := 99) dX8_mayBreak_92 rfl (by omega) (fun c92 => ?_) (fun c92 => ?_)
                          · try (exfalso; omega)
                            all_goals
                              refine ji_iconst dX8_mayBreak_99 ?_
                              exact ji_ireturn dX8_mayBreak_100 rfl (by first | rfl | decide) ⟨jr_i (by unfold rf_MB; first | (rw [if_pos (by omega)]; done) | (rw [if_neg (by omega)]; done)), rfl⟩
                          · try (exfalso; omega)
                            all_goals
                              refine ji_iconst dX8_mayBreak_95 ?_
                              refine ji_goto (tgt := 100) dX8_mayBreak_96 rfl ?_
                              exact ji_ireturn dX8_mayBreak_100 rfl (by first | rfl | decide) ⟨jr_i (by unfold rf_MB; first | (rw [if_pos (by omega)]; done) | (rw [if_neg (by omega)]; done)), rfl⟩
              · try (exfalso; omega)
                all_goals
                  refine ji_aload_n dX8_mayBreak_67 rfl trivial ?_
                  refine ji_iload_n dX8_mayBreak_68 rfl ?_
                  refine ji_cV dX8_mayBreak_69 (r_isFirst hz hrl (by omega)) rfl (rf_60) rfl rfl wX8_isFirst vX8_isFirst lX8_132 rfl (Nat.le_of_ble_eq_true rfl) rfl ?_
                  refine ji_if_ne (tgt := 79) dX8_mayBreak_72 rfl (by omega) (fun c72 => ?_) (fun c72 => ?_)
                  · try (exfalso; omega)
                    all_goals
                      refine ji_iconst dX8_mayBreak_79 ?_
                      refine ji_istore dX8_mayBreak_80 (by decide) rfl ?_
                      refine ji_iload_n dX8_mayBreak_82 rfl ?_
                      refine ji_if_ne (tgt := 99) dX8_mayBreak_83 rfl (by omega) (fun c83 => ?_) (fun c83 => ?_)
                      · try (exfalso; omega)
                        all_goals
                          refine ji_iconst dX8_mayBreak_99 ?_
                          exact ji_ireturn dX8_mayBreak_100 rfl (by first | rfl | decide) ⟨jr_i (by unfold rf_MB; first | (rw [if_pos (by omega)]; done) | (rw [if_neg (by omega)]; done)), rfl⟩
                      · try (exfalso; omega)
                        all_goals
                          refine ji_iload_n dX8_mayBreak_86 rfl ?_
                          refine ji_if_ne (tgt := 99) dX8_mayBreak_87 rfl (by omega) (fun c87 => ?_) (fun c87 => ?_)
                          · try (exfalso; omega)
                            all_goals
                              refine ji_iconst dX8_mayBreak_99 ?_
                              exact ji_ireturn dX8_mayBreak_100 rfl (by first | rfl | decide) ⟨jr_i (by unfold rf_MB; first | (rw [if_pos (by omega)]; done) | (rw [if_neg (by omega)]; done)), rfl⟩
                          · try (exfalso; omega)
                            all_goals
                              refine ji_iload dX8_mayBreak_90 rfl ?_
                              refine ji_if_ne (tgt := 99) dX8_mayBreak_92 rfl (by omega) (fun c92 => ?_) (fun c92 => ?_)
                              · try (exfalso; omega)
                                all_goals
                                  refine ji_iconst dX8_mayBreak_99 ?_
                                  exact ji_ireturn dX8_mayBreak_100 rfl (by first | rfl | decide) ⟨jr_i (by unfold rf_MB; first | (rw [if_pos (by omega)]; done) | (rw [if_neg (by omega)]; done)), rfl⟩
                              · try (exfalso; omega)
                                all_goals
                                  refine ji_iconst dX8_mayBreak_95 ?_
                                  refine ji_goto (tgt := 100) dX8_mayBreak_96 rfl ?_
                                  exact ji_ireturn dX8_mayBreak_100 rfl (by first | rfl | decide) ⟨jr_i (by unfold rf_MB; first | (rw [if_pos (by omega)]; done) | (rw [if_neg (by omega)]; done)), rfl⟩
                  · try (exfalso; omega)
                    all_goals
                      refine ji_iconst dX8_mayBreak_75 ?_
                      refine ji_goto (tgt := 80) dX8_mayBreak_76 rfl ?_
                      refine ji_istore dX8_mayBreak_80 (by decide) rfl ?_
                      refine ji_iload_n dX8_mayBreak_82 rfl ?_
                      refine ji_if_ne (tgt := 99) dX8_mayBreak_83 rfl (by omega) (fun c83 => ?_) (fun c83 => ?_)
                      · try (exfalso; omega)
                        all_goals
                          refine ji_iconst dX8_mayBreak_99 ?_
                          exact ji_ireturn dX8_mayBreak_100 rfl (by first | rfl | decide) ⟨jr_i (by unfold rf_MB; first | (rw [if_pos (by omega)]; done) | (rw [if_neg (by omega)]; done)), rfl⟩
                      · try (exfalso; omega)
                        all_goals
                          refine ji_iload_n dX8_mayBreak_86 rfl ?_
                          refine ji_if_ne (tgt := 99) dX8_mayBreak_87 rfl (by omega) (fun c87 => ?_) (fun c87 => ?_)
                          · try (exfalso; omega)
                            all_goals
                              refine ji_iconst dX8_mayBreak_99 ?_
                              exact ji_ireturn dX8_mayBreak_100 rfl (by first | rfl | decide) ⟨jr_i (by unfold rf_MB; first | (rw [if_pos (by omega)]; done) | (rw [if_neg (by omega)]; done)), rfl⟩
                          · try (exfalso; omega)
                            all_goals
                              refine ji_iload dX8_mayBreak_90 rfl ?_
                              refine ji_if_ne (tgt := 99) dX8_mayBreak_92 rfl (by omega) (fun c92 => ?_) (fun c92 => ?_)
                              · try (exfalso; omega)
                                all_goals
                                  refine ji_iconst dX8_mayBreak_99 ?_
                                  exact ji_ireturn dX8_mayBreak_100 rfl (by first | rfl | decide) ⟨jr_i (by unfold rf_MB; first | (rw [if_pos (by omega)]; done) | (rw [if_neg (by omega)]; done)), rfl⟩
                              · try (exfalso; omega)
                                all_goals
                                  refine ji_iconst dX8_mayBreak_95 ?_
                                  refine ji_goto (tgt := 100) dX8_mayBreak_96 rfl ?_
                                  exact ji_ireturn dX8_mayBreak_100 rfl (by first | rfl | decide) ⟨jr_i (by unfold rf_MB; first | (rw [if_pos (by omega)]; done) | (rw [if_neg (by omega)]; done)), rfl⟩
          · try (exfalso; omega)
            all_goals
              refine ji_iconst dX8_mayBreak_53 ?_
              refine ji_goto (tgt := 58) dX8_mayBreak_54 rfl ?_
              refine ji_istore_n dX8_mayBreak_58 (by decide) rfl ?_
              refine ji_aload_n dX8_mayBreak_59 rfl trivial ?_
              refine ji_iload_n dX8_mayBreak_60 rfl ?_
              refine ji_cV dX8_mayBreak_61 (r_isLast hz hrl (by omega)) rfl (rf_60) rfl rfl wX8_isLast vX8_isLast lX8_154 rfl (Nat.le_of_ble_eq_true rfl) rfl ?_
              refine ji_if_eq (tgt := 79) dX8_mayBreak_64 rfl (by omega) (fun c64 => ?_) (fun c64 => ?_)
              · try (exfalso; omega)
                all_goals
                  refine ji_iconst dX8_mayBreak_79 ?_
                  refine ji_istore dX8_mayBreak_80 (by decide) rfl ?_
                  refine ji_iload_n dX8_mayBreak_82 rfl ?_
                  refine ji_if_ne (tgt := 99) dX8_mayBreak_83 rfl (by omega) (fun c83 => ?_) (fun c83 => ?_)
                  · try (exfalso; omega)
                    all_goals
                      refine ji_iconst dX8_mayBreak_99 ?_
                      exact ji_ireturn dX8_mayBreak_100 rfl (by first | rfl | decide) ⟨jr_i (by unfold rf_MB; first | (rw [if_pos (by omega)]; done) | (rw [if_neg (by omega)]; done)), rfl⟩
                  · try (exfalso; omega)
                    all_goals
                      refine ji_iload_n dX8_mayBreak_86 rfl ?_
                      refine ji_if_ne (tgt := 99) dX8_mayBreak_87 rfl (by omega) (fun c87 => ?_) (fun c87 => ?_)
                      · try (exfalso; omega)
                        all_goals
                          refine ji_iconst dX8_mayBreak_99 ?_
                          exact ji_ireturn dX8_mayBreak_100 rfl (by first | rfl | decide) ⟨jr_i (by unfold rf_MB; first | (rw [if_pos (by omega)]; done) | (rw [if_neg (by omega)]; done)), rfl⟩
                      · try (exfalso; omega)
                        all_goals
                          refine ji_iload dX8_mayBreak_90 rfl ?_
                          refine ji_if_ne (tgt := 99) dX8_mayBreak_92 rfl (by omega) (fun c92 => ?_) (fun c92 => ?_)
                          · try (exfalso; omega)
                            all_goals
                              refine ji_iconst dX8_mayBreak_99 ?_
                              exact ji_ireturn dX8_mayBreak_100 rfl (by first | rfl | decide) ⟨jr_i (by unfold rf_MB; first | (rw [if_pos (by omega)]; done) | (rw [if_neg (by omega)]; done)), rfl⟩
                          · try (exfalso; omega)
                            all_goals
                              refine ji_iconst dX8_mayBreak_95 ?_
                              refine ji_goto (tgt := 100) dX8_mayBreak_96 rfl ?_
                              exact ji_ireturn dX8_mayBreak_100 rfl (by first | rfl | decide) ⟨jr_i (by unfold rf_MB; first | (rw [if_pos (by omega)]; done) | (rw [if_neg (by omega)]; done)), rfl⟩
              · try (exfalso; omega)
                all_goals
                  refine ji_aload_n dX8_mayBreak_67 rfl trivial ?_
                  refine ji_iload_n dX8_mayBreak_68 rfl ?_
                  refine ji_cV dX8_mayBreak_69 (r_isFirst hz hrl (by omega)) rfl (rf_60) rfl rfl wX8_isFirst vX8_isFirst lX8_132 rfl (Nat.le_of_ble_eq_true rfl) rfl ?_
                  refine ji_if_ne (tgt := 79) dX8_mayBreak_72 rfl (by omega) (fun c72 => ?_) (fun c72 => ?_)
                  · try (exfalso; omega)
                    all_goals
                      refine ji_iconst dX8_mayBreak_79 ?_
                      refine ji_istore dX8_mayBreak_80 (by decide) rfl ?_
                      refine ji_iload_n dX8_mayBreak_82 rfl ?_
                      refine ji_if_ne (tgt := 99) dX8_mayBreak_83 rfl (by omega) (fun c83 => ?_) (fun c83 => ?_)
                      · try (exfalso; omega)
                        all_goals
                          refine ji_iconst dX8_mayBreak_99 ?_
                          exact ji_ireturn dX8_mayBreak_100 rfl (by first | rfl | decide) ⟨jr_i (by unfold rf_MB; first | (rw [if_pos (by omega)]; done) | (rw [if_neg (by omega)]; done)), rfl⟩
                      · try (exfalso; omega)
                        all_goals
                          refine ji_iload_n dX8_mayBreak_86 rfl ?_
                          refine ji_if_ne (tgt := 99) dX8_mayBreak_87 rfl (by omega) (fun c87 => ?_) (fun c87 => ?_)
                          · try (exfalso; omega)
                            all_goals
                              refine ji_iconst dX8_mayBreak_99 ?_
                              exact ji_ireturn dX8_mayBreak_100 rfl (by first | rfl | decide) ⟨jr_i (by unfold rf_MB; first | (rw [if_pos (by omega)]; done) | (rw [if_neg (by omega)]; done)), rfl⟩
                          · try (exfalso; omega)
                            all_goals
                              refine ji_iload dX8_mayBreak_90 rfl ?_
                              refine ji_if_ne (tgt := 99) dX8_mayBreak_92 rfl (by omega) (fun c92 => ?_) (fun c92 => ?_)
                              · try (exfalso; omega)
                                all_goals
                                  refine ji_iconst dX8_mayBreak_99 ?_
                                  exact ji_ireturn dX8_mayBreak_100 rfl (by first | rfl | decide) ⟨jr_i (by unfold rf_MB; first | (rw [if_pos (by omega)]; done) | (rw [if_neg (by omega)]; done)), rfl⟩
                              · try (exfalso; omega)
                                all_goals
                                  refine ji_iconst dX8_mayBreak_95 ?_
                                  refine ji_goto (tgt := 100) dX8_mayBreak_96 rfl ?_
                                  exact ji_ireturn dX8_mayBreak_100 rfl (by first | rfl | decide) ⟨jr_i (by unfold rf_MB; first | (rw [if_pos (by omega)]; done) | (rw [if_neg (by omega)]; done)), rfl⟩
                  · try (exfalso; omega)
                    all_goals
                      refine ji_iconst dX8_mayBreak_75 ?_
                      refine ji_goto (tgt := 80) dX8_mayBreak_76 rfl ?_
                      refine ji_istore dX8_mayBreak_80 (by decide) rfl ?_
                      refine ji_iload_n dX8_mayBreak_82 rfl ?_
                      refine ji_if_ne (tgt := 99) dX8_mayBreak_83 rfl (by omega) (fun c83 => ?_) (fun c83 => ?_)
                      · try (exfalso; omega)
                        all_goals
                          refine ji_iconst dX8_mayBreak_99 ?_
                          exact ji_ireturn dX8_mayBreak_100 rfl (by first | rfl | decide) ⟨jr_i (by unfold rf_MB; first | (rw [if_pos (by omega)]; done) | (rw [if_neg (by omega)]; done)), rfl⟩
                      · try (exfalso; omega)
                        all_goals
                          refine ji_iload_n dX8_mayBreak_86 rfl ?_
                          refine ji_if_ne (tgt := 99) dX8_mayBreak_87 rfl (by omega) (fun c87 => ?_) (fun c87 => ?_)
                          · try (exfalso; omega)
                            all_goals
                              refine ji_iconst dX8_mayBreak_99 ?_
                              exact ji_ireturn dX8_mayBreak_100 rfl (by first | rfl | decide) ⟨jr_i (by unfold rf_MB; first | (rw [if_pos (by omega)]; done) | (rw [if_neg (by omega)]; done)), rfl⟩
                          · try (exfalso; omega)
                            all_goals
                              refine ji_iload dX8_mayBreak_90 rfl ?_
                              refine ji_if_ne (tgt := 99) dX8_mayBreak_92 rfl (by omega) (fun c92 => ?_) (fun c92 => ?_)
                              · try (exfalso; omega)
                                all_goals
                                  refine ji_iconst dX8_mayBreak_99 ?_
                                  exact ji_ireturn dX8_mayBreak_100 rfl (by first | rfl | decide) ⟨jr_i (by unfold rf_MB; first | (rw [if_pos (by omega)]; done) | (rw [if_neg (by omega)]; done)), rfl⟩
                              · try (exfalso; omega)
                                all_goals
                                  refine ji_iconst dX8_mayBreak_95 ?_
                                  refine ji_goto (tgt := 100) dX8_mayBreak_96 rfl ?_
                                  exact ji_ireturn dX8_mayBreak_100 rfl (by first | rfl | decide) ⟨jr_i (by unfold rf_MB; first | (rw [if_pos (by omega)]; done) | (rw [if_neg (by omega)]; done)), rfl⟩
  · try (exfalso; omega)
    all_goals
      refine ji_iconst dX8_mayBreak_20 ?_
      refine ji_goto (tgt := 25) dX8_mayBreak_21 rfl ?_
      refine ji_istore_n dX8_mayBreak_25 (by decide) rfl ?_
      refine ji_aload_n dX8_mayBreak_26 rfl trivial ?_
      refine ji_get (ci := 8) (k := 17) rfl dX8_mayBreak_27 lX8_35 (by decide) (rf_60) rfl ?_
      refine ji_iload_n dX8_mayBreak_30 rfl ?_
      refine ji_iaload dX8_mayBreak_31 (rf_67) (by omega) ?_
      refine ji_aload_n dX8_mayBreak_32 rfl trivial ?_
      refine ji_get (ci := 8) (k := 17) rfl dX8_mayBreak_33 lX8_35 (by decide) (rf_60) rfl ?_
      refine ji_iload_n dX8_mayBreak_36 rfl ?_
      refine ji_iconst dX8_mayBreak_37 ?_
      refine ji_isub dX8_mayBreak_38 ?_
      refine ji_iaload dX8_mayBreak_39 (rf_67) (by omega) ?_
      refine ji_icmp_ne (tgt := 57) dX8_mayBreak_40 rfl (by omega) (by omega) (fun c40 => ?_) (fun c40 => ?_)
      · try (exfalso; omega)
        all_goals
          refine ji_iconst dX8_mayBreak_57 ?_
          refine ji_istore_n dX8_mayBreak_58 (by decide) rfl ?_
          refine ji_aload_n dX8_mayBreak_59 rfl trivial ?_
          refine ji_iload_n dX8_mayBreak_60 rfl ?_
          refine ji_cV dX8_mayBreak_61 (r_isLast hz hrl (by omega)) rfl (rf_60) rfl rfl wX8_isLast vX8_isLast lX8_154 rfl (Nat.le_of_ble_eq_true rfl) rfl ?_
          refine ji_if_eq (tgt := 79) dX8_mayBreak_64 rfl (by omega) (fun c64 => ?_) (fun c64 => ?_)
          · try (exfalso; omega)
            all_goals
              refine ji_iconst dX8_mayBreak_79 ?_
              refine ji_istore dX8_mayBreak_80 (by decide) rfl ?_
              refine ji_iload_n dX8_mayBreak_82 rfl ?_
              refine ji_if_ne (tgt := 99) dX8_mayBreak_83 rfl (by omega) (fun c83 => ?_) (fun c83 => ?_)
              · try (exfalso; omega)
                all_goals
                  refine ji_iconst dX8_mayBreak_99 ?_
                  exact ji_ireturn dX8_mayBreak_100 rfl (by first | rfl | decide) ⟨jr_i (by unfold rf_MB; first | (rw [if_pos (by omega)]; done) | (rw [if_neg (by omega)]; done)), rfl⟩
              · try (exfalso; omega)
                all_goals
                  refine ji_iload_n dX8_mayBreak_86 rfl ?_
                  refine ji_if_ne (tgt := 99) dX8_mayBreak_87 rfl (by omega) (fun c87 => ?_) (fun c87 => ?_)
                  · try (exfalso; omega)
                    all_goals
                      refine ji_iconst dX8_mayBreak_99 ?_
                      exact ji_ireturn dX8_mayBreak_100 rfl (by first | rfl | decide) ⟨jr_i (by unfold rf_MB; first | (rw [if_pos (by omega)]; done) | (rw [if_neg (by omega)]; done)), rfl⟩
                  · try (exfalso; omega)
                    all_goals
                      refine ji_iload dX8_mayBreak_90 rfl ?_
                      refine ji_if_ne (tgt := 99) dX8_mayBreak_92 rfl (by omega) (fun c92 => ?_) (fun c92 => ?_)
                      · try (exfalso; omega)
                        all_goals
                          refine ji_iconst dX8_mayBreak_99 ?_
                          exact ji_ireturn dX8_mayBreak_100 rfl (by first | rfl | decide) ⟨jr_i (by unfold rf_MB; first | (rw [if_pos (by omega)]; done) | (rw [if_neg (by omega)]; done)), rfl⟩
                      · try (exfalso; omega)
                        all_goals
                          refine ji_iconst dX8_mayBreak_95 ?_
                          refine ji_goto (tgt := 100) dX8_mayBreak_96 rfl ?_
                          exact ji_ireturn dX8_mayBreak_100 rfl (by first | rfl | decide) ⟨jr_i (by unfold rf_MB; first | (rw [if_pos (by omega)]; done) | (rw [if_neg (by omega)]; done)), rfl⟩
          · try (exfalso; omega)
            all_goals
              refine ji_aload_n dX8_mayBreak_67 rfl trivial ?_
              refine ji_iload_n dX8_mayBreak_68 rfl ?_
              refine ji_cV dX8_mayBreak_69 (r_isFirst hz hrl (by omega)) rfl (rf_60) rfl rfl wX8_isFirst vX8_isFirst lX8_132 rfl (Nat.le_of_ble_eq_true rfl) rfl ?_
              refine ji_if_ne (tgt := 79) dX8_mayBreak_72 rfl (by omega) (fun c72 => ?_) (fun c72 => ?_)
              · try (exfalso; omega)
                all_goals
                  refine ji_iconst dX8_mayBreak_79 ?_
                  refine ji_istore dX8_mayBreak_80 (by decide) rfl ?_
                  refine ji_iload_n dX8_mayBreak_82 rfl ?_
                  refine ji_if_ne (tgt := 99) dX8_mayBreak_83 rfl (by omega) (fun c83 => ?_) (fun c83 => ?_)
                  · try (exfalso; omega)
                    all_goals
                      refine ji_iconst dX8_mayBreak_99 ?_
                      exact ji_ireturn dX8_mayBreak_100 rfl (by first | rfl | decide) ⟨jr_i (by unfold rf_MB; first | (rw [if_pos (by omega)]; done) | (rw [if_neg (by omega)]; done)), rfl⟩
                  · try (exfalso; omega)
                    all_goals
                      refine ji_iload_n dX8_mayBreak_86 rfl ?_
                      refine ji_if_ne (tgt := 99) dX8_mayBreak_87 rfl (by omega) (fun c87 => ?_) (fun c87 => ?_)
                      · try (exfalso; omega)
                        all_goals
                          refine ji_iconst dX8_mayBreak_99 ?_
                          exact ji_ireturn dX8_mayBreak_100 rfl (by first | rfl | decide) ⟨jr_i (by unfold rf_MB; first | (rw [if_pos (by omega)]; done) | (rw [if_neg (by omega)]; done)), rfl⟩
                      · try (exfalso; omega)
                        all_goals
                          refine ji_iload dX8_mayBreak_90 rfl ?_
                          refine ji_if_ne (tgt := 99) dX8_mayBreak_92 rfl (by omega) (fun c92 => ?_) (fun c92 => ?_)
                          · try (exfalso; omega)
                            all_goals
                              refine ji_iconst dX8_mayBreak_99 ?_
                              exact ji_ireturn dX8_mayBreak_100 rfl (by first | rfl | decide) ⟨jr_i (by unfold rf_MB; first | (rw [if_pos (by omega)]; done) | (rw [if_neg (by omega)]; done)), rfl⟩
                          · try (exfalso; omega)
                            all_goals
                              refine ji_iconst dX8_mayBreak_95 ?_
                              refine ji_goto (tgt := 100) dX8_mayBreak_96 rfl ?_
                              exact ji_ireturn dX8_mayBreak_100 rfl (by first | rfl | decide) ⟨jr_i (by unfold rf_MB; first | (rw [if_pos (by omega)]; done) | (rw [if_neg (by omega)]; done)), rfl⟩
              · try (exfalso; omega)
                all_goals
                  refine ji_iconst dX8_mayBreak_75 ?_
                  refine ji_goto (tgt := 80) dX8_mayBreak_76 rfl ?_
                  refine ji_istore dX8_mayBreak_80 (by decide) rfl ?_
                  refine ji_iload_n dX8_mayBreak_82 rfl ?_
                  refine ji_if_ne (tgt := 99) dX8_mayBreak_83 rfl (by omega) (fun c83 => ?_) (fun c83 => ?_)
                  · try (exfalso; omega)
                    all_goals
                      refine ji_iconst dX8_mayBreak_99 ?_
                      exact ji_ireturn dX8_mayBreak_100 rfl (by first | rfl | decide) ⟨jr_i (by unfold rf_MB; first | (rw [if_pos (by omega)]; done) | (rw [if_neg (by omega)]; done)), rfl⟩
                  · try (exfalso; omega)
                    all_goals
                      refine ji_iload_n dX8_mayBreak_86 rfl ?_
                      refine ji_if_ne (tgt := 99) dX8_mayBreak_87 rfl (by omega) (fun c87 => ?_) (fun c87 => ?_)
                      · try (exfalso; omega)
                        all_goals
                          refine ji_iconst dX8_mayBreak_99 ?_
                          exact ji_ireturn dX8_mayBreak_100 rfl (by first | rfl | decide) ⟨jr_i (by unfold rf_MB; first | (rw [if_pos (by omega)]; done) | (rw [if_neg (by omega)]; done)), rfl⟩
                      · try (exfalso; omega)
                        all_goals
                          refine ji_iload dX8_mayBreak_90 rfl ?_
                          refine ji_if_ne (tgt := 99) dX8_mayBreak_92 rfl (by omega) (fun c92 => ?_) (fun c92 => ?_)
                          · try (exfalso; omega)
                            all_goals
                              refine ji_iconst dX8_mayBreak_99 ?_
                              exact ji_ireturn dX8_mayBreak_100 rfl (by first | rfl | decide) ⟨jr_i (by unfold rf_MB; first | (rw [if_pos (by omega)]; done) | (rw [if_neg (by omega)]; done)), rfl⟩
                          · try (exfalso; omega)
                            all_goals
                              refine ji_iconst dX8_mayBreak_95 ?_
                              refine ji_goto (tgt := 100) dX8_mayBreak_96 rfl ?_
                              exact ji_ireturn dX8_mayBreak_100 rfl (by first | rfl | decide) ⟨jr_i (by unfold rf_MB; first | (rw [if_pos (by omega)]; done) | (rw [if_neg (by omega)]; done)), rfl⟩
      · try (exfalso; omega)
        all_goals
          refine ji_aload_n dX8_mayBreak_43 rfl trivial ?_
          refine ji_iload_n dX8_mayBreak_44 rfl ?_
          refine ji_iconst dX8_mayBreak_45 ?_
          refine ji_isub dX8_mayBreak_46 ?_
          refine ji_cV dX8_mayBreak_47 (r_isFirst hz hrl (by omega)) rfl (rf_60) rfl rfl wX8_isFirst vX8_isFirst lX8_132 rfl (Nat.le_of_ble_eq_true rfl) rfl ?_
          refine ji_if_eq (tgt := 57) dX8_mayBreak_50 rfl (by omega) (fun c50 => ?_) (fun c50 => ?_)
          · try (exfalso; omega)
            all_goals
              refine ji_iconst dX8_mayBreak_57 ?_
              refine ji_istore_n dX8_mayBreak_58 (by decide) rfl ?_
              refine ji_aload_n dX8_mayBreak_59 rfl trivial ?_
              refine ji_iload_n dX8_mayBreak_60 rfl ?_
              refine ji_cV dX8_mayBreak_61 (r_isLast hz hrl (by omega)) rfl (rf_60) rfl rfl wX8_isLast vX8_isLast lX8_154 rfl (Nat.le_of_ble_eq_true rfl) rfl ?_
              refine ji_if_eq (tgt := 79) dX8_mayBreak_64 rfl (by omega) (fun c64 => ?_) (fun c64 => ?_)
              · try (exfalso; omega)
                all_goals
                  refine ji_iconst dX8_mayBreak_79 ?_
                  refine ji_istore dX8_mayBreak_80 (by decide) rfl ?_
                  refine ji_iload_n dX8_mayBreak_82 rfl ?_
                  refine ji_if_ne (tgt := 99) dX8_mayBreak_83 rfl (by omega) (fun c83 => ?_) (fun c83 => ?_)
                  · try (exfalso; omega)
                    all_goals
                      refine ji_iconst dX8_mayBreak_99 ?_
                      exact ji_ireturn dX8_mayBreak_100 rfl (by first | rfl | decide) ⟨jr_i (by unfold rf_MB; first | (rw [if_pos (by omega)]; done) | (rw [if_neg (by omega)]; done)), rfl⟩
                  · try (exfalso; omega)
                    all_goals
                      refine ji_iload_n dX8_mayBreak_86 rfl ?_
                      refine ji_if_ne (tgt := 99) dX8_mayBreak_87 rfl (by omega) (fun c87 => ?_) (fun c87 => ?_)
                      · try (exfalso; omega)
                        all_goals
                          refine ji_iconst dX8_mayBreak_99 ?_
                          exact ji_ireturn dX8_mayBreak_100 rfl (by first | rfl | decide) ⟨jr_i (by unfold rf_MB; first | (rw [if_pos (by omega)]; done) | (rw [if_neg (by omega)]; done)), rfl⟩
                      · try (exfalso; omega)
                        all_goals
                          refine ji_iload dX8_mayBreak_90 rfl ?_
                          refine ji_if_ne (tgt := 99) dX8_mayBreak_92 rfl (by omega) (fun c92 => ?_) (fun c92 => ?_)
                          · try (exfalso; omega)
                            all_goals
                              refine ji_iconst dX8_mayBreak_99 ?_
                              exact ji_ireturn dX8_mayBreak_100 rfl (by first | rfl | decide) ⟨jr_i (by unfold rf_MB; first | (rw [if_pos (by omega)]; done) | (rw [if_neg (by omega)]; done)), rfl⟩
                          · try (exfalso; omega)
                            all_goals
                              refine ji_iconst dX8_mayBreak_95 ?_
                              refine ji_goto (tgt := 100) dX8_mayBreak_96 rfl ?_
                              exact ji_ireturn dX8_mayBreak_100 rfl (by first | rfl | decide) ⟨jr_i (by unfold rf_MB; first | (rw [if_pos (by omega)]; done) | (rw [if_neg (by omega)]; done)), rfl⟩
              · try (exfalso; omega)
                all_goals
                  refine ji_aload_n dX8_mayBreak_67 rfl trivial ?_
                  refine ji_iload_n dX8_mayBreak_68 rfl ?_
                  refine ji_cV dX8_mayBreak_69 (r_isFirst hz hrl (by omega)) rfl (rf_60) rfl rfl wX8_isFirst vX8_isFirst lX8_132 rfl (Nat.le_of_ble_eq_true rfl) rfl ?_
                  refine ji_if_ne (tgt := 79) dX8_mayBreak_72 rfl (by omega) (fun c72 => ?_) (fun c72 => ?_)
                  · try (exfalso; omega)
                    all_goals
                      refine ji_iconst dX8_mayBreak_79 ?_
                      refine ji_istore dX8_mayBreak_80 (by decide) rfl ?_
                      refine ji_iload_n dX8_mayBreak_82 rfl ?_
                      refine ji_if_ne (tgt := 99) dX8_mayBreak_83 rfl (by omega) (fun c83 => ?_) (fun c83 => ?_)
                      · try (exfalso; omega)
                        all_goals
                          refine ji_iconst dX8_mayBreak_99 ?_
                          exact ji_ireturn dX8_mayBreak_100 rfl (by first | rfl | decide) ⟨jr_i (by unfold rf_MB; first | (rw [if_pos (by omega)]; done) | (rw [if_neg (by omega)]; done)), rfl⟩
                      · try (exfalso; omega)
                        all_goals
                          refine ji_iload_n dX8_mayBreak_86 rfl ?_
                          refine ji_if_ne (tgt := 99) dX8_mayBreak_87 rfl (by omega) (fun c87 => ?_) (fun c87 => ?_)
                          · try (exfalso; omega)
                            all_goals
                              refine ji_iconst dX8_mayBreak_99 ?_
                              exact ji_ireturn dX8_mayBreak_100 rfl (by first | rfl | decide) ⟨jr_i (by unfold rf_MB; first | (rw [if_pos (by omega)]; done) | (rw [if_neg (by omega)]; done)), rfl⟩
                          · try (exfalso; omega)
                            all_goals
                              refine ji_iload dX8_mayBreak_90 rfl ?_
                              refine ji_if_ne (tgt := 99) dX8_mayBreak_92 rfl (by omega) (fun c92 => ?_) (fun c92 => ?_)
                              · try (exfalso; omega)
                                all_goals
                                  refine ji_iconst dX8_mayBreak_99 ?_
                                  exact ji_ireturn dX8_mayBreak_100 rfl (by first | rfl | decide) ⟨jr_i (by unfold rf_MB; first | (rw [if_pos (by omega)]; done) | (rw [if_neg (by omega)]; done)), rfl⟩
                              · try (exfalso; omega)
                                all_goals
                                  refine ji_iconst dX8_mayBreak_95 ?_
                                  refine ji_goto (tgt := 100) dX8_mayBreak_96 rfl ?_
                                  exact ji_ireturn dX8_mayBreak_100 rfl (by first | rfl | decide) ⟨jr_i (by unfold rf_MB; first | (rw [if_pos (by omega)]; done) | (rw [if_neg (by omega)]; done)), rfl⟩
                  · try (exfalso; omega)
                    all_goals
                      refine ji_iconst dX8_mayBreak_75 ?_
                      refine ji_goto (tgt := 80) dX8_mayBreak_76 rfl ?_
                      refine ji_istore dX8_mayBreak_80 (by decide) rfl ?_
                      refine ji_iload_n dX8_mayBreak_82 rfl ?_
                      refine ji_if_ne (tgt := 99) dX8_mayBreak_83 rfl (by omega) (fun c83 => ?_) (fun c83 => ?_)
                      · try (exfalso; omega)
                        all_goals
                          refine ji_iconst dX8_mayBreak_99 ?_
                          exact ji_ireturn dX8_mayBreak_100 rfl (by first | rfl | decide) ⟨jr_i (by unfold rf_MB; first | (rw [if_pos (by omega)]; done) | (rw [if_neg (by omega)]; done)), rfl⟩
                      · try (exfalso; omega)
                        all_goals
                          refine ji_iload_n dX8_mayBreak_86 rfl ?_
                          refine ji_if_ne (tgt := 99) dX8_mayBreak_87 rfl (by omega) (fun c87 => ?_) (fun c87 => ?_)
                          · try (exfalso; omega)
                            all_goals
                              refine ji_iconst dX8_mayBreak_99 ?_
                              exact ji_ireturn dX8_mayBreak_100 rfl (by first | rfl | decide) ⟨jr_i (by unfold rf_MB; first | (rw [if_pos (by omega)]; done) | (rw [if_neg (by omega)]; done)), rfl⟩
                          · try (exfalso; omega)
                            all_goals
                              refine ji_iload dX8_mayBreak_90 rfl ?_
                              refine ji_if_ne (tgt := 99) dX8_mayBreak_92 rfl (by omega) (fun c92 => ?_) (fun c92 => ?_)
                              · try (exfalso; omega)
                                all_goals
                                  refine ji_iconst dX8_mayBreak_99 ?_
                                  exact ji_ireturn dX8_mayBreak_100 rfl (by first | rfl | decide) ⟨jr_i (by unfold rf_MB; first | (rw [if_pos (by omega)]; done) | (rw [if_neg (by omega)]; done)), rfl⟩
                              · try (exfalso; omega)
                                all_goals
                                  refine ji_iconst dX8_mayBreak_95 ?_
                                  refine ji_goto (tgt := 100) dX8_mayBreak_96 rfl ?_
                                  exact ji_ireturn dX8_mayBreak_100 rfl (by first | rfl | decide) ⟨jr_i (by unfold rf_MB; first | (rw [if_pos (by omega)]; done) | (rw [if_neg (by omega)]; done)), rfl⟩
          · try (exfalso; omega)
            all_goals
              refine ji_iconst dX8_mayBreak_53 ?_
              refine ji_goto (tgt := 58) dX8_mayBreak_54 rfl ?_
              refine ji_istore_n dX8_mayBreak_58 (by decide) rfl ?_
              refine ji_aload_n dX8_mayBreak_59 rfl trivial ?_
              refine ji_iload_n dX8_mayBreak_60 rfl ?_
              refine ji_cV dX8_mayBreak_61 (r_isLast hz hrl (by omega)) rfl (rf_60) rfl rfl wX8_isLast vX8_isLast lX8_154 rfl (Nat.le_of_ble_eq_true rfl) rfl ?_
              refine ji_if_eq (tgt := 79) dX8_mayBreak_64 rfl (by omega) (fun c64 => ?_) (fun c64 => ?_)
              · try (exfalso; omega)
                all_goals
                  refine ji_iconst dX8_mayBreak_79 ?_
                  refine ji_istore dX8_mayBreak_80 (by decide) rfl ?_
                  refine ji_iload_n dX8_mayBreak_82 rfl ?_
                  refine ji_if_ne (tgt := 99) dX8_mayBreak_83 rfl (by omega) (fun c83 => ?_) (fun c83 => ?_)
                  · try (exfalso; omega)
                    all_goals
                      refine ji_iconst dX8_mayBreak_99 ?_
                      exact ji_ireturn dX8_mayBreak_100 rfl (by first | rfl | decide) ⟨jr_i (by unfold rf_MB; first | (rw [if_pos (by omega)]; done) | (rw [if_neg (by omega)]; done)), rfl⟩
                  · try (exfalso; omega)
                    all_goals
                      refine ji_iload_n dX8_mayBreak_86 rfl ?_
                      refine ji_if_ne (tgt := 99) dX8_mayBreak_87 rfl (by omega) (fun c87 => ?_) (fun c87 => ?_)
                      · try (exfalso; omega)
                        all_goals
                          refine ji_iconst dX8_mayBreak_99 ?_
                          exact ji_ireturn dX8_mayBreak_100 rfl (by first | rfl | decide) ⟨jr_i (by unfold rf_MB; first | (rw [if_pos (by omega)]; done) | (rw [if_neg (by omega)]; done)), rfl⟩
                      · try (exfalso; omega)
                        all_goals
                          refine ji_iload dX8_mayBreak_90 rfl ?_
                          refine ji_if_ne (tgt := 99) dX8_mayBreak_92 rfl (by omega) (fun c92 => ?_) (fun c92 => ?_)
                          · try (exfalso; omega)
                            all_goals
                              refine ji_iconst dX8_mayBreak_99 ?_
                              exact ji_ireturn dX8_mayBreak_100 rfl (by first | rfl | decide) ⟨jr_i (by unfold rf_MB; first | (rw [if_pos (by omega)]; done) | (rw [if_neg (by omega)]; done)), rfl⟩
                          · try (exfalso; omega)
                            all_goals
                              refine ji_iconst dX8_mayBreak_95 ?_
                              refine ji_goto (tgt := 100) dX8_mayBreak_96 rfl ?_
                              exact ji_ireturn dX8_mayBreak_100 rfl (by first | rfl | decide) ⟨jr_i (by unfold rf_MB; first | (rw [if_pos (by omega)]; done) | (rw [if_neg (by omega)]; done)), rfl⟩
              · try (exfalso; omega)
                all_goals
                  refine ji_aload_n dX8_mayBreak_67 rfl trivial ?_
                  refine ji_iload_n dX8_mayBreak_68 rfl ?_
                  refine ji_cV dX8_mayBreak_69 (r_isFirst hz hrl (by omega)) rfl (rf_60) rfl rfl wX8_isFirst vX8_isFirst lX8_132 rfl (Nat.le_of_ble_eq_true rfl) rfl ?_
                  refine ji_if_ne (tgt := 79) dX8_mayBreak_72 rfl (by omega) (fun c72 => ?_) (fun c72 => ?_)
                  · try (exfalso; omega)
                    all_goals
                      refine ji_iconst dX8_mayBreak_79 ?_
                      refine ji_istore dX8_mayBreak_80 (by decide) rfl ?_
                      refine ji_iload_n dX8_mayBreak_82 rfl ?_
                      refine ji_if_ne (tgt := 99) dX8_mayBreak_83 rfl (by omega) (fun c83 => ?_) (fun c83 => ?_)
                      · try (exfalso; omega)
                        all_goals
                          refine ji_iconst dX8_mayBreak_99 ?_
                          exact ji_ireturn dX8_mayBreak_100 rfl (by first | rfl | decide) ⟨jr_i (by unfold rf_MB; first | (rw [if_pos (by omega)]; done) | (rw [if_neg (by omega)]; done)), rfl⟩
                      · try (exfalso; omega)
                        all_goals
                          refine ji_iload_n dX8_mayBreak_86 rfl ?_
                          refine ji_if_ne (tgt := 99) dX8_mayBreak_87 rfl (by omega) (fun c87 => ?_) (fun c87 => ?_)
                          · try (exfalso; omega)
                            all_goals
                              refine ji_iconst dX8_mayBreak_99 ?_
                              exact ji_ireturn dX8_mayBreak_100 rfl (by first | rfl | decide) ⟨jr_i (by unfold rf_MB; first | (rw [if_pos (by omega)]; done) | (rw [if_neg (by omega)]; done)), rfl⟩
                          · try (exfalso; omega)
                            all_goals
                              refine ji_iload dX8_mayBreak_90 rfl ?_
                              refine ji_if_ne (tgt := 99) dX8_mayBreak_92 rfl (by omega) (fun c92 => ?_) (fun c92 => ?_)
                              · try (exfalso; omega)
                                all_goals
                                  refine ji_iconst dX8_mayBreak_99 ?_
                                  exact ji_ireturn dX8_mayBreak_100 rfl (by first | rfl | decide) ⟨jr_i (by unfold rf_MB; first | (rw [if_pos (by omega)]; done) | (rw [if_neg (by omega)]; done)), rfl⟩
                              · try (exfalso; omega)
                                all_goals
                                  refine ji_iconst dX8_mayBreak_95 ?_
                                  refine ji_goto (tgt := 100) dX8_mayBreak_96 rfl ?_
                                  exact ji_ireturn dX8_mayBreak_100 rfl (by first | rfl | decide) ⟨jr_i (by unfold rf_MB; first | (rw [if_pos (by omega)]; done) | (rw [if_neg (by omega)]; done)), rfl⟩
                  · try (exfalso; omega)
                    all_goals
                      refine ji_iconst dX8_mayBreak_75 ?_
                      refine ji_goto (tgt := 80) dX8_mayBreak_76 rfl ?_
                      refine ji_istore dX8_mayBreak_80 (by decide) rfl ?_
                      refine ji_iload_n dX8_mayBreak_82 rfl ?_
                      refine ji_if_ne (tgt := 99) dX8_mayBreak_83 rfl (by omega) (fun c83 => ?_) (fun c83 => ?_)
                      · try (exfalso; omega)
                        all_goals
                          refine ji_iconst dX8_mayBreak_99 ?_
                          exact ji_ireturn dX8_mayBreak_100 rfl (by first | rfl | decide) ⟨jr_i (by unfold rf_MB; first | (rw [if_pos (by omega)]; done) | (rw [if_neg (by omega)]; done)), rfl⟩
                      · try (exfalso; omega)
                        all_goals
                          refine ji_iload_n dX8_mayBreak_86 rfl ?_
                          refine ji_if_ne (tgt := 99) dX8_mayBreak_87 rfl (by omega) (fun c87 => ?_) (fun c87 => ?_)
                          · try (exfalso; omega)
                            all_goals
                              refine ji_iconst dX8_mayBreak_99 ?_
                              exact ji_ireturn dX8_mayBreak_100 rfl (by first | rfl | decide) ⟨jr_i (by unfold rf_MB; first | (rw [if_pos (by omega)]; done) | (rw [if_neg (by omega)]; done)), rfl⟩
                          · try (exfalso; omega)
                            all_goals
                              refine ji_iload dX8_mayBreak_90 rfl ?_
                              refine ji_if_ne (tgt := 99) dX8_mayBreak_92 rfl (by omega) (fun c92 => ?_) (fun c92 => ?_)
                              · try (exfalso; omega)
                                all_goals
                                  refine ji_iconst dX8_mayBreak_99 ?_
                                  exact ji_ireturn dX8_mayBreak_100 rfl (by first | rfl | decide) ⟨jr_i (by unfold rf_MB; first | (rw [if_pos (by omega)]; done) | (rw [if_neg (by omega)]; done)), rfl⟩
                              · try (exfalso; omega)
                                all_goals
                                  refine ji_iconst dX8_mayBreak_95 ?_
                                  refine ji_goto (tgt := 100) dX8_mayBreak_96 rfl ?_
                                  exact ji_ireturn dX8_mayBreak_100 rfl (by first | rfl | decide) ⟨jr_i (by unfold rf_MB; first | (rw [if_pos (by omega)]; done) | (rw [if_neg (by omega)]; done)), rfl⟩

set_option maxHeartbeats 4000000 in
set_option maxRecDepth 100000 in
theorem r_breakOf_j {bc bs : Nat} {x y : Int} (hz : rz_ok z) (hk : rk_ok z sy) (hrl : rl_ok z ln lo lf lt) (hx : 0 ≤ x) (hy : y < ln) {R : Int} : ∀ (u : Nat) (c : Int), x ≤ c ∧ c < y → u = (c - x).toNat → R = rf_b2 z ln lo lf y u c →
    JW G (d + 2) mX8_breakOf 63 [some (.ref 60), some (.int (jI x)), some (.int (jI y)), some (.int (jI c))] [] (n, rf_f f th z kp ed nt nl wi ht sy sz bf rs rr rq rp mm ln lo lf lt co ro pg pf hsh) bc bs (fun r9 h9 => r9 = .inl (some (.int (jI R))) ∧ h9 = (n, rf_f f th z kp ed nt nl wi ht sy sz bf rs rr rq rp mm ln lo lf lt co ro pg pf hsh)) := by
  obtain ⟨r1, r2⟩ := id hrl
  intro u
  induction u with
  | zero =>
    intro c hc hu hR
    refine ji_iload_n dX8_breakOf_63 rfl ?_
    refine ji_iload_n dX8_breakOf_64 rfl ?_
    refine ji_icmp_le (tgt := 84) dX8_breakOf_65 rfl (by omega) (by omega) (fun c65 => ?_) (fun c65 => absurd c65 (by omega))
    refine ji_iload_n dX8_breakOf_84 rfl ?_
    exact ji_ireturn dX8_breakOf_85 rfl (rfl) ⟨by rw [hR]; rfl, rfl⟩
  | succ u ih =>
    intro c hc hu hR
    have wm := rf_MB_b z ln lo lf c
    refine ji_iload_n dX8_breakOf_63 rfl ?_
    refine ji_iload_n dX8_breakOf_64 rfl ?_
    refine ji_icmp_le (tgt := 84) dX8_breakOf_65 rfl (by omega) (by omega) (fun c65 => absurd c65 (by omega)) (fun c65 => ?_)
    refine ji_aload_n dX8_breakOf_68 rfl trivial ?_
    refine ji_iload_n dX8_breakOf_69 rfl ?_
    refine ji_cV dX8_breakOf_70 (r_mayBreak hz hk hrl (by omega)) rfl (rf_60) rfl rfl wX8_mayBreak vX8_mayBreak lX8_163 rfl (Nat.le_of_ble_eq_true rfl) rfl ?_
    refine ji_if_eq (tgt := 78) dX8_breakOf_73 rfl (by omega) (fun c73 => ?_) (fun c73 => ?_)
    · try (exfalso; omega)
      all_goals
        refine ji_iinc dX8_breakOf_78 (by decide) rfl rfl ?_
        refine ji_goto (tgt := 63) dX8_breakOf_81 rfl ?_
        exact ih _ (by omega) (by omega) (by rw [hR, rf_b2, if_pos (by omega)]; rfl)
    · try (exfalso; omega)
      all_goals
        refine ji_iload_n dX8_breakOf_76 rfl ?_
        exact ji_ireturn dX8_breakOf_77 rfl (rfl) ⟨jr_i (by rw [hR, rf_b2, if_neg (by omega)]), rfl⟩

set_option maxHeartbeats 4000000 in
set_option maxRecDepth 100000 in
theorem r_breakOf_l {bc bs : Nat} (hz : rz_ok z) (hn : nl_ok nl nt) (hk : rk_ok z sy) (hc9 : 0 ≤ co ∧ co ≤ 100) (hrl : rl_ok z ln lo lf lt) (hrc : rc_ok z) (hro : 0 ≤ ro ∧ ro ≤ 100) {x : Int} (hx : 0 ≤ x ∧ x < ln) : ∀ (u : Nat) (y : Int), x + 1 ≤ y ∧ y ≤ ln → u = (ln - y).toNat → (rf_B1 z nl nt sy co ro ln lo lf lt x) = rf_b1 z nl nt sy co ro lo lf lt x u y →
    JW G (d + 6) mX8_breakOf 4 [some (.ref 60), some (.int (jI x)), some (.int (jI y)), none] [] (n, rf_f f th z kp ed nt nl wi ht sy sz bf rs rr rq rp mm ln lo lf lt co ro pg pf hsh) bc bs (fun r9 h9 => r9 = .inl (some (.int (jI (rf_BO z nl nt sy co ro ln lo lf lt x)))) ∧ h9 = (n, rf_f f th z kp ed nt nl wi ht sy sz bf rs rr rq rp mm ln lo lf lt co ro pg pf hsh)) := by
  obtain ⟨r1, r2⟩ := id hrl
  obtain ⟨k1, k2⟩ := id hk
  have s3 := k2 3
  intro u
  induction u with
  | zero =>
    intro y hy hu hR
    refine ji_iload_n dX8_breakOf_4 rfl ?_
    refine ji_aload_n dX8_breakOf_5 rfl trivial ?_
    refine ji_get (ci := 8) (k := 16) rfl dX8_breakOf_6 lX8_122 (by decide) (rf_60) rfl ?_
    refine ji_icmp_ge (tgt := 33) dX8_breakOf_9 rfl (by omega) (by omega) (fun c9 => ?_) (fun c9 => absurd c9 (by omega))
    refine ji_aload_n dX8_breakOf_33 rfl trivial ?_
    refine ji_get (ci := 8) (k := 8) rfl dX8_breakOf_34 lX8_29 (by decide) (rf_60) rfl ?_
    refine ji_iconst dX8_breakOf_37 ?_
    refine ji_ialoadK (k := 3) dX8_breakOf_38 (rf_65) rfl (by decide) ?_
    refine ji_iconst dX8_breakOf_39 ?_
    refine ji_icmp_ne (tgt := 84) dX8_breakOf_40 rfl (by omega) (by omega) (fun c40 => ?_) (fun c40 => ?_)
    · try (exfalso; omega)
      all_goals
        refine ji_iload_n dX8_breakOf_84 rfl ?_
        exact ji_ireturn dX8_breakOf_85 rfl (rfl) ⟨jr_i (by have eb : (rf_B1 z nl nt sy co ro ln lo lf lt x) = y := hR; unfold rf_BO; rw [eb, if_neg (by omega)]), rfl⟩
    · try (exfalso; omega)
      all_goals
        refine ji_iload_n dX8_breakOf_43 rfl ?_
        refine ji_aload_n dX8_breakOf_44 rfl trivial ?_
        refine ji_get (ci := 8) (k := 16) rfl dX8_breakOf_45 lX8_122 (by decide) (rf_60) rfl ?_
        refine ji_icmp_ge (tgt := 84) dX8_breakOf_48 rfl (by omega) (by omega) (fun c48 => ?_) (fun c48 => ?_)
        · try (exfalso; omega)
          all_goals
            refine ji_iload_n dX8_breakOf_84 rfl ?_
            exact ji_ireturn dX8_breakOf_85 rfl (rfl) ⟨jr_i (by have eb : (rf_B1 z nl nt sy co ro ln lo lf lt x) = y := hR; unfold rf_BO; rw [eb, if_neg (by omega)]), rfl⟩
        · try (exfalso; omega)
          all_goals
            refine ji_aload_n dX8_breakOf_51 rfl trivial ?_
            refine ji_iload_n dX8_breakOf_52 rfl ?_
            refine ji_cV dX8_breakOf_53 (r_mayBreak hz hk hrl (by omega)) rfl (rf_60) rfl rfl wX8_mayBreak vX8_mayBreak lX8_163 rfl (Nat.le_of_ble_eq_true rfl) rfl ?_
            refine ji_if_ne (tgt := 84) dX8_breakOf_56 rfl (by omega) (fun c56 => ?_) (fun c56 => ?_)
            · try (exfalso; omega)
              all_goals
                refine ji_iload_n dX8_breakOf_84 rfl ?_
                exact ji_ireturn dX8_breakOf_85 rfl (rfl) ⟨jr_i (by have eb : (rf_B1 z nl nt sy co ro ln lo lf lt x) = y := hR; unfold rf_BO; rw [eb, if_neg (by omega)]), rfl⟩
            · try (exfalso; omega)
              all_goals
                refine ji_iload_n dX8_breakOf_59 rfl ?_
                refine ji_iconst dX8_breakOf_60 ?_
                refine ji_isub dX8_breakOf_61 ?_
                refine ji_istore_n dX8_breakOf_62 (by decide) rfl ?_
                exfalso; omega
  | succ u ih =>
    intro y hy hu hR
    have wro := rf_RO_b hk lo lf (x := x) (y := y + 1) (by omega) (by omega)
    have wnr := rf_NR_b hz hn sy co (rf_NO z nt lo lf lt x (y + 1))
    have wnd : rf_ND z nl nt sy co lo lf lt x (y + 1) = rf_RO z sy lo lf x (y + 1) + rf_NR z nl nt sy co (rf_NO z nt lo lf lt x (y + 1)) := rfl
    have wm := rf_MB_b z ln lo lf y
    refine ji_iload_n dX8_breakOf_4 rfl ?_
    refine ji_aload_n dX8_breakOf_5 rfl trivial ?_
    refine ji_get (ci := 8) (k := 16) rfl dX8_breakOf_6 lX8_122 (by decide) (rf_60) rfl ?_
    refine ji_icmp_ge (tgt := 33) dX8_breakOf_9 rfl (by omega) (by omega) (fun c9 => absurd c9 (by omega)) (fun c9 => ?_)
    refine ji_aload_n dX8_breakOf_12 rfl trivial ?_
    refine ji_iload_n dX8_breakOf_13 rfl ?_
    refine ji_iload_n dX8_breakOf_14 rfl ?_
    refine ji_iconst dX8_breakOf_15 ?_
    refine ji_iadd dX8_breakOf_16 ?_
    refine ji_cV dX8_breakOf_17 (r_need hz hn hk hc9 hrl hrc (by omega)) rfl (rf_60) rfl rfl wX8_need vX8_need lX8_157 rfl (Nat.le_of_ble_eq_true rfl) rfl ?_
    refine ji_aload_n dX8_breakOf_20 rfl trivial ?_
    refine ji_get (ci := 8) (k := 21) rfl dX8_breakOf_21 lX8_160 (by decide) (rf_60) rfl ?_
    refine ji_icmp_gt (tgt := 33) dX8_breakOf_24 rfl (by omega) (by omega) (fun c24 => ?_) (fun c24 => ?_)
    · try (exfalso; omega)
      all_goals
        have eb : (rf_B1 z nl nt sy co ro ln lo lf lt x) = y := by rw [hR, rf_b1, if_neg (by omega)]
        refine ji_aload_n dX8_breakOf_33 rfl trivial ?_
        refine ji_get (ci := 8) (k := 8) rfl dX8_breakOf_34 lX8_29 (by decide) (rf_60) rfl ?_
        refine ji_iconst dX8_breakOf_37 ?_
        refine ji_ialoadK (k := 3) dX8_breakOf_38 (rf_65) rfl (by decide) ?_
        refine ji_iconst dX8_breakOf_39 ?_
        refine ji_icmp_ne (tgt := 84) dX8_breakOf_40 rfl (by omega) (by omega) (fun c40 => ?_) (fun c40 => ?_)
        · try (exfalso; omega)
          all_goals
            refine ji_iload_n dX8_breakOf_84 rfl ?_
            exact ji_ireturn dX8_breakOf_85 rfl (rfl) ⟨jr_i (by unfold rf_BO; rw [eb, if_neg (by omega)]), rfl⟩
        · try (exfalso; omega)
          all_goals
            refine ji_iload_n dX8_breakOf_43 rfl ?_
            refine ji_aload_n dX8_breakOf_44 rfl trivial ?_
            refine ji_get (ci := 8) (k := 16) rfl dX8_breakOf_45 lX8_122 (by decide) (rf_60) rfl ?_
            refine ji_icmp_ge (tgt := 84) dX8_breakOf_48 rfl (by omega) (by omega) (fun c48 => ?_) (fun c48 => ?_)
            · try (exfalso; omega)
              all_goals
                refine ji_iload_n dX8_breakOf_84 rfl ?_
                exact ji_ireturn dX8_breakOf_85 rfl (rfl) ⟨jr_i (by unfold rf_BO; rw [eb, if_neg (by omega)]), rfl⟩
            · try (exfalso; omega)
              all_goals
                refine ji_aload_n dX8_breakOf_51 rfl trivial ?_
                refine ji_iload_n dX8_breakOf_52 rfl ?_
                refine ji_cV dX8_breakOf_53 (r_mayBreak hz hk hrl (by omega)) rfl (rf_60) rfl rfl wX8_mayBreak vX8_mayBreak lX8_163 rfl (Nat.le_of_ble_eq_true rfl) rfl ?_
                refine ji_if_ne (tgt := 84) dX8_breakOf_56 rfl (by omega) (fun c56 => ?_) (fun c56 => ?_)
                · try (exfalso; omega)
                  all_goals
                    refine ji_iload_n dX8_breakOf_84 rfl ?_
                    exact ji_ireturn dX8_breakOf_85 rfl (rfl) ⟨jr_i (by unfold rf_BO; rw [eb, if_neg (by omega)]), rfl⟩
                · try (exfalso; omega)
                  all_goals
                    refine ji_iload_n dX8_breakOf_59 rfl ?_
                    refine ji_iconst dX8_breakOf_60 ?_
                    refine ji_isub dX8_breakOf_61 ?_
                    refine ji_istore_n dX8_breakOf_62 (by decide) rfl ?_
                    exact r_breakOf_j hz hk hrl (by omega) (by omega) (y - 1 - x).toNat _ (by omega) rfl (by unfold rf_BO; rw [eb, if_pos (by omega)])
    · try (exfalso; omega)
      all_goals
        refine ji_iinc dX8_breakOf_27 (by decide) rfl rfl ?_
        refine ji_goto (tgt := 4) dX8_breakOf_30 rfl ?_
        exact ih _ (by omega) (by omega) (by rw [hR, rf_b1, if_pos (by omega)])

set_option maxHeartbeats 4000000 in
set_option maxRecDepth 100000 in
theorem r_breakOf (hz : rz_ok z) (hn : nl_ok nl nt) (hk : rk_ok z sy) (hc9 : 0 ≤ co ∧ co ≤ 100) (hrl : rl_ok z ln lo lf lt) (hrc : rc_ok z) (hro : 0 ≤ ro ∧ ro ≤ 100) {x : Int} (hx : 0 ≤ x ∧ x < ln) : JR G (d + 6) mX8_breakOf [.ref 60, .int (jI x)] (n, rf_f f th z kp ed nt nl wi ht sy sz bf rs rr rq rp mm ln lo lf lt co ro pg pf hsh) 0 0 (some (.int (jI (rf_BO z nl nt sy co ro ln lo lf lt x)))) (n, rf_f f th z kp ed nt nl wi ht sy sz bf rs rr rq rp mm ln lo lf lt co ro pg pf hsh) := by
  obtain ⟨r1, r2⟩ := id hrl
  refine ji_ent (by decide) rfl (Nat.le_of_ble_eq_true rfl) rfl ?_
  refine ji_iload_n dX8_breakOf_0 rfl ?_
  refine ji_iconst dX8_breakOf_1 ?_
  refine ji_iadd dX8_breakOf_2 ?_
  refine ji_istore_n dX8_breakOf_3 (by decide) rfl ?_
  exact r_breakOf_l hz hn hk hc9 hrl hrc hro hx (ln - (x + 1)).toNat _ (by omega) rfl rfl

end RF
