/-! ===== the reference: edits, the loops ===== -/
theorem rf_pl_so {a b : Int → Int → Int} {z : Nat → Int} {i q q1 : Nat} {v : Int} (hq : ((i = 0 ∧ q = 1) ∨ (0 < i ∧ q = 2 * i + 2)) ∧ q1 = q + 1) (hv : v = b (z q) (z q1)) (ha : a (z q) (z q1) = z q) : va_up (rf_pl a b z i) q1 v = rf_pl a b z (i + 1) := by
  obtain ⟨hq, rfl⟩ := hq
  have h := rf_pl_r (a := a) (b := b) (z := z) hq
  exact rf_pl_e hq (fun j h1 h2 => va_up_ne _ _ h2) ((va_up_ne _ _ (by omega)).trans (h.1.trans ha.symm)) ((va_up_self _ _ _).trans hv)
theorem rf_pl_sp {a b : Int → Int → Int} {z : Nat → Int} {i q q1 : Nat} {v : Int} (hq : ((i = 0 ∧ q = 1) ∨ (0 < i ∧ q = 2 * i + 2)) ∧ q1 = q + 1) (hv : v = a (z q) (z q1)) (hb : b (z q) (z q1) = z q1) : va_up (rf_pl a b z i) q v = rf_pl a b z (i + 1) := by
  obtain ⟨hq, rfl⟩ := hq
  have h := rf_pl_r (a := a) (b := b) (z := z) hq
  exact rf_pl_e hq (fun j h1 h2 => va_up_ne _ _ h1) ((va_up_self _ _ _).trans hv) ((va_up_ne _ _ (by omega)).trans (h.2.trans hb.symm))
theorem rf_pl_s2 {a b : Int → Int → Int} {z : Nat → Int} {i q q1 : Nat} {v w : Int} (hq : ((i = 0 ∧ q = 1) ∨ (0 < i ∧ q = 2 * i + 2)) ∧ q1 = q + 1) (hv : v = a (z q) (z q1)) (hw : w = b (z q) (z q1)) : va_up (va_up (rf_pl a b z i) q v) q1 w = rf_pl a b z (i + 1) := by
  obtain ⟨hq, rfl⟩ := hq
  exact rf_pl_e hq (fun j h1 h2 => (va_up_ne _ _ h2).trans (va_up_ne _ _ h1)) ((va_up_ne _ _ (by omega)).trans ((va_up_self _ _ _).trans hv)) ((va_up_self _ _ _).trans hw)
theorem rf_pl_sn {a b : Int → Int → Int} {z : Nat → Int} {i q q1 : Nat} (hq : ((i = 0 ∧ q = 1) ∨ (0 < i ∧ q = 2 * i + 2)) ∧ q1 = q + 1) (ha : a (z q) (z q1) = z q) (hb : b (z q) (z q1) = z q1) : rf_pl a b z i = rf_pl a b z (i + 1) := by
  obtain ⟨hq, rfl⟩ := hq
  have h := rf_pl_r (a := a) (b := b) (z := z) hq
  exact rf_pl_e hq (fun j h1 h2 => rfl) (h.1.trans ha.symm) (h.2.trans hb.symm)
def id_a (u _ : Int) : Int := u
def id_b (_ v : Int) : Int := v
def id_0 (u _ _ _ : Int) : Int := u
def id_1 (_ u _ _ : Int) : Int := u
def id_2 (_ _ u _ : Int) : Int := u
def id_4 (_ _ _ u : Int) : Int := u
def op_b (q x m u v : Int) : Int := v + (if u = q ∧ x ≤ v then m else 0)
def op_1 (q x m u0 u1 _ _ : Int) : Int := u1 + (if u0 = q ∧ x ≤ u1 then m else 0)
def op_2 (q x m u0 _ u2 u4 : Int) : Int := u2 + (if u0 = q ∧ ((u4 = 1 ∧ x ≤ u2) ∨ (¬ u4 = 1 ∧ x < u2)) then m else 0)
def rf_bh (v x y : Int) : Int := if v < x then v else if v < y then x else v - (y - x)
def cs_b (q x y L u v : Int) : Int := if u = q then (if rf_bh v x y < L then rf_bh v x y else L - 1) else v
def cs_1 (q x y u0 u1 _ _ : Int) : Int := if u0 = q then rf_bh u1 x y else u1
def cs_2 (q x y u0 _ u2 _ : Int) : Int := if u0 = q then rf_bh u2 x y else u2
def cs_4 (q x y u0 u1 u2 u4 : Int) : Int := if u0 = q then (if rf_bh u1 x y = rf_bh u2 x y then 1 else 0) else u4
def rn_a (q m u _ : Int) : Int := u + (if q ≤ u then m else 0)
def rn_0 (q m u _ _ _ : Int) : Int := u + (if q ≤ u then m else 0)
def dv_a (q x u v : Int) : Int := if u = q ∧ x ≤ v then u + 1 else u
def dv_b (q x u v : Int) : Int := if u = q then (if x ≤ v then v - x else if v = x - 1 then x - 2 else v) else v
def dv_m (v x : Int) : Int := if v < x - 1 then v else x - 1
def dv_0 (q x u0 u1 _ _ : Int) : Int := if u0 = q ∧ x ≤ u1 then q + 1 else u0
def dv_1 (q x u0 u1 _ _ : Int) : Int := if u0 = q then (if x ≤ u1 then u1 - x else dv_m u1 x) else u1
def dv_2 (q x u0 u1 u2 _ : Int) : Int := if u0 = q then (if x ≤ u1 then u2 - x else dv_m u2 x) else u2
def dv_4 (q x u0 u1 u2 u4 : Int) : Int := if u0 = q ∧ ¬ x ≤ u1 then (if dv_m u1 x = dv_m u2 x then 1 else 0) else u4
def un_b (q w u v : Int) : Int := v + (if u = q + 1 then w + 1 else 0)
def un_1 (q w u0 u1 _ _ : Int) : Int := u1 + (if u0 = q + 1 then w + 1 else 0)
def un_2 (q w u0 _ u2 _ : Int) : Int := u2 + (if u0 = q + 1 then w + 1 else 0)
def rf_KP (z kp : Nat → Int) (ed : Int) : Nat → Int := if ed = 4 then va_cpy z (va_cpy kp kp 3695 0 11085) 0 (3695 * (ed - 1)).toNat 3695 else va_cpy z kp 0 (3695 * ed).toNat 3695
def rf_KE (ed : Int) : Int := if ed = 4 then ed - 1 + 1 else ed + 1
def rf_UZ (z kp : Nat → Int) (ed : Int) : Nat → Int := va_cpy kp z (3695 * (ed - 1)).toNat 0 3695
section RF
variable {G : ji_G} {d n : Nat} {f : Nat → ji_C} {th ed wi ht sz rs rr rq rp mm ln co ro pg : Int} {z kp nt nl sy bf lo lf lt pf : Nat → Int} {hsh : Int64}
set_option maxHeartbeats 4000000 in
set_option maxRecDepth 100000 in
theorem r_keep_a {bc bs : Nat} {Q : ji_R → ji_H → Prop} (kk : ∀ k, JW G d mX8_keep 41 [some (.ref 60), some (.int (jI k))] [] (n, rf_f f th z (va_cpy kp kp 3695 0 11085) ed nt nl wi ht sy sz bf rs rr rq rp mm ln lo lf lt co ro pg pf hsh) bc bs Q) : ∀ (u : Nat) (k : Int), 3695 ≤ k ∧ k + u = 14780 →
    JW G d mX8_keep 12 [some (.ref 60), some (.int (jI k))] [] (n, rf_f f th z (va_cpy kp kp 3695 0 (k - 3695).toNat) ed nt nl wi ht sy sz bf rs rr rq rp mm ln lo lf lt co ro pg pf hsh) bc bs Q := by
  intro u
  induction u with
  | zero =>
    intro k hk
    refine ji_iload_n dX8_keep_12 rfl ?_
    refine ji_sipush dX8_keep_13 rfl ?_
    refine ji_icmp_ge (tgt := 41) dX8_keep_16 rfl (by omega) (by omega) (fun c16 => ?_) (fun c16 => absurd c16 (by omega))
    exact ji_eqv (kk k) rfl rfl (by rw [show (k - 3695).toNat = 11085 by omega])
  | succ u ih =>
    intro k hk
    refine ji_iload_n dX8_keep_12 rfl ?_
    refine ji_sipush dX8_keep_13 rfl ?_
    refine ji_icmp_ge (tgt := 41) dX8_keep_16 rfl (by omega) (by omega) (fun c16 => absurd c16 (by omega)) (fun c16 => ?_)
    refine ji_aload_n dX8_keep_19 rfl trivial ?_
    refine ji_get (ci := 8) (k := 2) rfl dX8_keep_20 lX8_13 (by decide) (rf_60) rfl ?_
    refine ji_iload_n dX8_keep_23 rfl ?_
    refine ji_sipush dX8_keep_24 rfl ?_
    refine ji_isub dX8_keep_27 ?_
    refine ji_aload_n dX8_keep_28 rfl trivial ?_
    refine ji_get (ci := 8) (k := 2) rfl dX8_keep_29 lX8_13 (by decide) (rf_60) rfl ?_
    refine ji_iload_n dX8_keep_32 rfl ?_
    refine ji_iaload dX8_keep_33 (rf_62) (by omega) ?_
    rw [va_cpy_r (show ¬ (0 ≤ k.toNat ∧ k.toNat < 0 + (k - 3695).toNat) by omega)]
    refine ji_iastoreE dX8_keep_34 (rf_62) (by omega) (rf_s62) ?_
    refine ji_iinc dX8_keep_35 (by decide) rfl rfl ?_
    refine ji_goto (tgt := 12) dX8_keep_38 rfl ?_
    exact ji_eqv (ih (k + 1) (by omega)) rfl rfl (by rw [show (k + 1 - 3695).toNat = (k - 3695).toNat + 1 by omega, ← va_cpy_u, show 0 + (k - 3695).toNat = (k - 3695).toNat by omega, show 3695 + (k - 3695).toNat = k.toNat by omega])

set_option maxHeartbeats 4000000 in
set_option maxRecDepth 100000 in
theorem r_keep_b {bc bs : Nat} (he : 0 ≤ ed ∧ ed < 4) : ∀ (u : Nat) (k : Int), 0 ≤ k ∧ k + u = 3695 →
    JW G d mX8_keep 53 [some (.ref 60), some (.int (jI k))] [] (n, rf_f f th z (va_cpy z kp 0 (3695 * ed).toNat k.toNat) ed nt nl wi ht sy sz bf rs rr rq rp mm ln lo lf lt co ro pg pf hsh) bc bs (fun r9 h9 => r9 = .inl none ∧ h9 = (n, rf_f f th z (va_cpy z kp 0 (3695 * ed).toNat 3695) (ed + 1) nt nl wi ht sy sz bf rs rr rq rp mm ln lo lf lt co ro pg pf hsh)) := by
  intro u
  induction u with
  | zero =>
    intro k hk
    refine ji_iload_n dX8_keep_53 rfl ?_
    refine ji_sipush dX8_keep_54 rfl ?_
    refine ji_icmp_ge (tgt := 87) dX8_keep_57 rfl (by omega) (by omega) (fun c57 => ?_) (fun c57 => absurd c57 (by omega))
    refine ji_aload_n dX8_keep_87 rfl trivial ?_
    refine ji_dup dX8_keep_88 rfl ?_
    refine ji_get (ci := 8) (k := 3) rfl dX8_keep_89 lX8_102 (by decide) (rf_60) rfl ?_
    refine ji_iconst dX8_keep_92 ?_
    refine ji_iadd dX8_keep_93 ?_
    refine ji_putE (ci := 8) (k := 3) rfl dX8_keep_94 lX8_102 (by decide) (rf_60) (by simp [rf_c]) (ji_fitI _) rfl (rf_ped) ?_
    exact ji_return dX8_keep_97 rfl ⟨rfl, by rw [show k.toNat = 3695 by omega]⟩
  | succ u ih =>
    intro k hk
    refine ji_iload_n dX8_keep_53 rfl ?_
    refine ji_sipush dX8_keep_54 rfl ?_
    refine ji_icmp_ge (tgt := 87) dX8_keep_57 rfl (by omega) (by omega) (fun c57 => absurd c57 (by omega)) (fun c57 => ?_)
    refine ji_aload_n dX8_keep_60 rfl trivial ?_
    refine ji_get (ci := 8) (k := 2) rfl dX8_keep_61 lX8_13 (by decide) (rf_60) rfl ?_
    refine ji_sipush dX8_keep_64 rfl ?_
    refine ji_aload_n dX8_keep_67 rfl trivial ?_
    refine ji_get (ci := 8) (k := 3) rfl dX8_keep_68 lX8_102 (by decide) (rf_60) rfl ?_
    refine ji_imul dX8_keep_71 ?_
    refine ji_iload_n dX8_keep_72 rfl ?_
    refine ji_iadd dX8_keep_73 ?_
    refine ji_aload_n dX8_keep_74 rfl trivial ?_
    refine ji_get (ci := 8) (k := 1) rfl dX8_keep_75 lX8_7 (by decide) (rf_60) rfl ?_
    refine ji_iload_n dX8_keep_78 rfl ?_
    refine ji_iaload dX8_keep_79 (rf_61) (by omega) ?_
    refine ji_iastoreE dX8_keep_80 (rf_62) (by omega) (rf_s62) ?_
    refine ji_iinc dX8_keep_81 (by decide) rfl rfl ?_
    refine ji_goto (tgt := 53) dX8_keep_84 rfl ?_
    exact ji_eqv (ih (k + 1) (by omega)) rfl rfl (by rw [show (k + 1).toNat = k.toNat + 1 by omega, ← va_cpy_u, show (3695 * ed).toNat + k.toNat = (3695 * ed + k).toNat by omega, show 0 + k.toNat = k.toNat by omega])

set_option maxHeartbeats 4000000 in
set_option maxRecDepth 100000 in
theorem r_keep (he : 0 ≤ ed ∧ ed ≤ 4) : JR G d mX8_keep [.ref 60] (n, rf_f f th z kp ed nt nl wi ht sy sz bf rs rr rq rp mm ln lo lf lt co ro pg pf hsh) 0 0 none (n, rf_f f th z (rf_KP z kp ed) (rf_KE ed) nt nl wi ht sy sz bf rs rr rq rp mm ln lo lf lt co ro pg pf hsh) := by
  have e1 : ed = 4 → rf_KP z kp ed = va_cpy z (va_cpy kp kp 3695 0 11085) 0 (3695 * (ed - 1)).toNat 3695 ∧ rf_KE ed = ed - 1 + 1 := fun h => ⟨if_pos h, if_pos h⟩
  have e2 : ¬ ed = 4 → rf_KP z kp ed = va_cpy z kp 0 (3695 * ed).toNat 3695 ∧ rf_KE ed = ed + 1 := fun h => ⟨if_neg h, if_neg h⟩
  refine ji_ent (by decide) rfl (Nat.le_of_ble_eq_true rfl) rfl ?_
  refine ji_aload_n dX8_keep_0 rfl trivial ?_
  refine ji_get (ci := 8) (k := 3) rfl dX8_keep_1 lX8_102 (by decide) (rf_60) rfl ?_
  refine ji_iconst dX8_keep_4 ?_
  refine ji_icmp_ne (tgt := 51) dX8_keep_5 rfl (by omega) (by omega) (fun c5 => ?_) (fun c5 => ?_)
  · try (exfalso; omega)
    all_goals
      refine ji_iconst dX8_keep_51 ?_
      refine ji_istore_n dX8_keep_52 (by decide) rfl ?_
      first | (rw [(e1 (by omega)).1, (e1 (by omega)).2]; (exact ji_eqv (r_keep_b (by omega) 3695 0 (by omega)) rfl rfl (by rw [show (0 : Int).toNat = 0 from rfl, va_cpy_0]))) | (rw [(e2 (by omega)).1, (e2 (by omega)).2]; (exact ji_eqv (r_keep_b (by omega) 3695 0 (by omega)) rfl rfl (by rw [show (0 : Int).toNat = 0 from rfl, va_cpy_0])))
  · try (exfalso; omega)
    all_goals
      refine ji_sipush dX8_keep_8 rfl ?_
      refine ji_istore_n dX8_keep_11 (by decide) rfl ?_
      refine ji_eqv (h2 := (n, rf_f f th z (va_cpy kp kp 3695 0 ((3695 : Int) - 3695).toNat) ed nt nl wi ht sy sz bf rs rr rq rp mm ln lo lf lt co ro pg pf hsh)) (r_keep_a (fun k => ?_) 11085 3695 (by omega)) rfl rfl (by rw [show ((3695 : Int) - 3695).toNat = 0 from rfl, va_cpy_0])
      refine ji_aload_n dX8_keep_41 rfl trivial ?_
      refine ji_dup dX8_keep_42 rfl ?_
      refine ji_get (ci := 8) (k := 3) rfl dX8_keep_43 lX8_102 (by decide) (rf_60) rfl ?_
      refine ji_iconst dX8_keep_46 ?_
      refine ji_isub dX8_keep_47 ?_
      refine ji_putE (ci := 8) (k := 3) rfl dX8_keep_48 lX8_102 (by decide) (rf_60) (by simp [rf_c]) (ji_fitI _) rfl (rf_ped) ?_
      refine ji_iconst dX8_keep_51 ?_
      refine ji_istore_n dX8_keep_52 (by decide) rfl ?_
      first | (rw [(e1 (by omega)).1, (e1 (by omega)).2]; (exact ji_eqv (r_keep_b (by omega) 3695 0 (by omega)) rfl rfl (by rw [show (0 : Int).toNat = 0 from rfl, va_cpy_0]))) | (rw [(e2 (by omega)).1, (e2 (by omega)).2]; (exact ji_eqv (r_keep_b (by omega) 3695 0 (by omega)) rfl rfl (by rw [show (0 : Int).toNat = 0 from rfl, va_cpy_0])))

set_option maxHeartbeats 4000000 in
set_option maxRecDepth 100000 in
theorem r_undo1 (hx : ed = 0) : JR G d mX8_undo [.ref 60] (n, rf_f f th z kp ed nt nl wi ht sy sz bf rs rr rq rp mm ln lo lf lt co ro pg pf hsh) 0 0 (some (.int (jI 0))) (n, rf_f f 1 z kp ed nt nl wi ht sy sz bf rs rr rq rp mm ln lo lf lt co ro pg pf hsh) := by
  refine ji_ent (by decide) rfl (Nat.le_of_ble_eq_true rfl) rfl ?_
  refine ji_aload_n dX8_undo_0 rfl trivial ?_
  refine ji_aload_n dX8_undo_1 rfl trivial ?_
  refine ji_get (ci := 8) (k := 3) rfl dX8_undo_2 lX8_102 (by decide) (rf_60) rfl ?_
  refine ji_if_le (tgt := 12) dX8_undo_5 rfl (by omega) (fun c5 => ?_) (fun c5 => ?_)
  · try (exfalso; omega)
    all_goals
      refine ji_iconst dX8_undo_12 ?_
      refine ji_putE (ci := 8) (k := 0) rfl dX8_undo_13 lX8_47 (by decide) (rf_60) (by simp [rf_c]) (ji_fitI _) rfl (rf_pth) ?_
      refine ji_aload_n dX8_undo_16 rfl trivial ?_
      refine ji_get (ci := 8) (k := 0) rfl dX8_undo_17 lX8_47 (by decide) (rf_60) rfl ?_
      refine ji_if_le (tgt := 25) dX8_undo_20 rfl (by omega) (fun c20 => ?_) (fun c20 => ?_)
      · try (exfalso; omega)
        all_goals
          exfalso; omega
      · try (exfalso; omega)
        all_goals
          refine ji_iconst dX8_undo_23 ?_
          exact ji_ireturn dX8_undo_24 rfl (rfl) ⟨jr_i (by first | rfl | omega), rfl⟩
  · try (exfalso; omega)
    all_goals
      refine ji_iconst dX8_undo_8 ?_
      refine ji_goto (tgt := 13) dX8_undo_9 rfl ?_
      refine ji_putE (ci := 8) (k := 0) rfl dX8_undo_13 lX8_47 (by decide) (rf_60) (by simp [rf_c]) (ji_fitI _) rfl (rf_pth) ?_
      refine ji_aload_n dX8_undo_16 rfl trivial ?_
      refine ji_get (ci := 8) (k := 0) rfl dX8_undo_17 lX8_47 (by decide) (rf_60) rfl ?_
      refine ji_if_le (tgt := 25) dX8_undo_20 rfl (by omega) (fun c20 => ?_) (fun c20 => ?_)
      · try (exfalso; omega)
        all_goals
          exfalso; omega
      · try (exfalso; omega)
        all_goals
          refine ji_iconst dX8_undo_23 ?_
          exact ji_ireturn dX8_undo_24 rfl (rfl) ⟨jr_i (by first | rfl | omega), rfl⟩

set_option maxHeartbeats 4000000 in
set_option maxRecDepth 100000 in
theorem r_undo_l {bc bs : Nat} (he : 0 ≤ ed ∧ ed < 4) : ∀ (u : Nat) (k : Int), 0 ≤ k ∧ k + u = 3695 →
    JW G d mX8_undo 37 [some (.ref 60), some (.int (jI k))] [] (n, rf_f f th (va_cpy kp z (3695 * ed).toNat 0 k.toNat) kp ed nt nl wi ht sy sz bf rs rr rq rp mm ln lo lf lt co ro pg pf hsh) bc bs (fun r9 h9 => r9 = .inl (some (.int (jI ed))) ∧ h9 = (n, rf_f f th (va_cpy kp z (3695 * ed).toNat 0 3695) kp ed nt nl wi ht sy sz bf rs rr rq rp mm ln lo lf lt co ro pg pf hsh)) := by
  intro u
  induction u with
  | zero =>
    intro k hk
    refine ji_iload_n dX8_undo_37 rfl ?_
    refine ji_sipush dX8_undo_38 rfl ?_
    refine ji_icmp_ge (tgt := 71) dX8_undo_41 rfl (by omega) (by omega) (fun c41 => ?_) (fun c41 => absurd c41 (by omega))
    refine ji_aload_n dX8_undo_71 rfl trivial ?_
    refine ji_get (ci := 8) (k := 3) rfl dX8_undo_72 lX8_102 (by decide) (rf_60) rfl ?_
    exact ji_ireturn dX8_undo_75 rfl (rfl) ⟨rfl, by rw [show k.toNat = 3695 by omega]⟩
  | succ u ih =>
    intro k hk
    refine ji_iload_n dX8_undo_37 rfl ?_
    refine ji_sipush dX8_undo_38 rfl ?_
    refine ji_icmp_ge (tgt := 71) dX8_undo_41 rfl (by omega) (by omega) (fun c41 => absurd c41 (by omega)) (fun c41 => ?_)
    refine ji_aload_n dX8_undo_44 rfl trivial ?_
    refine ji_get (ci := 8) (k := 1) rfl dX8_undo_45 lX8_7 (by decide) (rf_60) rfl ?_
    refine ji_iload_n dX8_undo_48 rfl ?_
    refine ji_aload_n dX8_undo_49 rfl trivial ?_
    refine ji_get (ci := 8) (k := 2) rfl dX8_undo_50 lX8_13 (by decide) (rf_60) rfl ?_
    refine ji_sipush dX8_undo_53 rfl ?_
    refine ji_aload_n dX8_undo_56 rfl trivial ?_
    refine ji_get (ci := 8) (k := 3) rfl dX8_undo_57 lX8_102 (by decide) (rf_60) rfl ?_
    refine ji_imul dX8_undo_60 ?_
    refine ji_iload_n dX8_undo_61 rfl ?_
    refine ji_iadd dX8_undo_62 ?_
    refine ji_iaload dX8_undo_63 (rf_62) (by omega) ?_
    refine ji_iastoreE dX8_undo_64 (rf_61) (by omega) (rf_s61) ?_
    refine ji_iinc dX8_undo_65 (by decide) rfl rfl ?_
    refine ji_goto (tgt := 37) dX8_undo_68 rfl ?_
    exact ji_eqv (ih (k + 1) (by omega)) rfl rfl (by rw [show (k + 1).toNat = k.toNat + 1 by omega, ← va_cpy_u, show (3695 * ed).toNat + k.toNat = (3695 * ed + k).toNat by omega, show 0 + k.toNat = k.toNat by omega])

set_option maxHeartbeats 4000000 in
set_option maxRecDepth 100000 in
theorem r_undo (hx : 0 < ed ∧ ed ≤ 4) : JR G d mX8_undo [.ref 60] (n, rf_f f th z kp ed nt nl wi ht sy sz bf rs rr rq rp mm ln lo lf lt co ro pg pf hsh) 0 0 (some (.int (jI (ed - 1)))) (n, rf_f f 0 (rf_UZ z kp ed) kp (ed - 1) nt nl wi ht sy sz bf rs rr rq rp mm ln lo lf lt co ro pg pf hsh) := by
  refine ji_ent (by decide) rfl (Nat.le_of_ble_eq_true rfl) rfl ?_
  refine ji_aload_n dX8_undo_0 rfl trivial ?_
  refine ji_aload_n dX8_undo_1 rfl trivial ?_
  refine ji_get (ci := 8) (k := 3) rfl dX8_undo_2 lX8_102 (by decide) (rf_60) rfl ?_
  refine ji_if_le (tgt := 12) dX8_undo_5 rfl (by omega) (fun c5 => ?_) (fun c5 => ?_)
  · try (exfalso; omega)
    all_goals
      refine ji_iconst dX8_undo_12 ?_
      refine ji_putE (ci := 8) (k := 0) rfl dX8_undo_13 lX8_47 (by decide) (rf_60) (by simp [rf_c]) (ji_fitI _) rfl (rf_pth) ?_
      refine ji_aload_n dX8_undo_16 rfl trivial ?_
      refine ji_get (ci := 8) (k := 0) rfl dX8_undo_17 lX8_47 (by decide) (rf_60) rfl ?_
      refine ji_if_le (tgt := 25) dX8_undo_20 rfl (by omega) (fun c20 => ?_) (fun c20 => ?_)
      · try (exfalso; omega)
        all_goals
          refine ji_aload_n dX8_undo_25 rfl trivial ?_
          refine ji_dup dX8_undo_26 rfl ?_
          refine ji_get (ci := 8) (k := 3) rfl dX8_undo_27 lX8_102 (by decide) (rf_60) rfl ?_
          refine ji_iconst dX8_undo_30 ?_
          refine ji_isub dX8_undo_31 ?_
          refine ji_putE (ci := 8) (k := 3) rfl dX8_undo_32 lX8_102 (by decide) (rf_60) (by simp [rf_c]) (ji_fitI _) rfl (rf_ped) ?_
          refine ji_iconst dX8_undo_35 ?_
          refine ji_istore_n dX8_undo_36 (by decide) rfl ?_
          exact ji_eqv (r_undo_l (by omega) 3695 0 (by omega)) rfl rfl (by rw [show (0 : Int).toNat = 0 from rfl, va_cpy_0])
      · try (exfalso; omega)
        all_goals
          refine ji_iconst dX8_undo_23 ?_
          exact ji_ireturn dX8_undo_24 rfl (rfl) ⟨jr_i (by first | rfl | omega), rfl⟩
  · try (exfalso; omega)
    all_goals
      refine ji_iconst dX8_undo_8 ?_
      refine ji_goto (tgt := 13) dX8_undo_9 rfl ?_
      refine ji_putE (ci := 8) (k := 0) rfl dX8_undo_13 lX8_47 (by decide) (rf_60) (by simp [rf_c]) (ji_fitI _) rfl (rf_pth) ?_
      refine ji_aload_n dX8_undo_16 rfl trivial ?_
      refine ji_get (ci := 8) (k := 0) rfl dX8_undo_17 lX8_47 (by decide) (rf_60) rfl ?_
      refine ji_if_le (tgt := 25) dX8_undo_20 rfl (by omega) (fun c20 => ?_) (fun c20 => ?_)
      · try (exfalso; omega)
        all_goals
          refine ji_aload_n dX8_undo_25 rfl trivial ?_
          refine ji_dup dX8_undo_26 rfl ?_
          refine ji_get (ci := 8) (k := 3) rfl dX8_undo_27 lX8_102 (by decide) (rf_60) rfl ?_
          refine ji_iconst dX8_undo_30 ?_
          refine ji_isub dX8_undo_31 ?_
          refine ji_putE (ci := 8) (k := 3) rfl dX8_undo_32 lX8_102 (by decide) (rf_60) (by simp [rf_c]) (ji_fitI _) rfl (rf_ped) ?_
          refine ji_iconst dX8_undo_35 ?_
          refine ji_istore_n dX8_undo_36 (by decide) rfl ?_
          exact ji_eqv (r_undo_l (by omega) 3695 0 (by omega)) rfl rfl (by rw [show (0 : Int).toNat = 0 from rfl, va_cpy_0])
      · try (exfalso; omega)
        all_goals
          refine ji_iconst dX8_undo_23 ?_
          exact ji_ireturn dX8_undo_24 rfl (rfl) ⟨jr_i (by first | rfl | omega), rfl⟩

set_option maxHeartbeats 4000000 in
set_option maxRecDepth 100000 in
theorem r_open_p {bc bs : Nat} {Q : ji_R → ji_H → Prop} {q x m : Int} (hq : 0 ≤ q ∧ q < 10) (hx : 0 ≤ x ∧ x ≤ 400) (hm : 0 ≤ m ∧ m ≤ 400) (hB : ∀ j, -20000 ≤ z j ∧ z j ≤ 20000) (h3 : 0 ≤ z 3 ∧ z 3 ≤ 5) (kk : ∀ k o, JW G d mX8_open 152 [some (.ref 60), some (.int (jI q)), some (.int (jI x)), some (.int (jI m)), some (.int (jI k)), o, none] [] (n, rf_f f th (rf_pl id_a (op_b q x m) z (z 3 + 1).toNat) kp ed nt nl wi ht sy sz bf rs rr rq rp mm ln lo lf lt co ro pg pf hsh) bc bs Q) : ∀ (u : Nat) (k : Int) (o : Option Value), 0 ≤ k ∧ k + u = z 3 + 1 →
    JW G d mX8_open 75 [some (.ref 60), some (.int (jI q)), some (.int (jI x)), some (.int (jI m)), some (.int (jI k)), o, none] [] (n, rf_f f th (rf_pl id_a (op_b q x m) z k.toNat) kp ed nt nl wi ht sy sz bf rs rr rq rp mm ln lo lf lt co ro pg pf hsh) bc bs Q := by
  intro u
  induction u with
  | zero =>
    intro k o hk
    have e3 : (rf_pl id_a (op_b q x m) z k.toNat) 3 = z 3 := rf_pl_h (by omega) (by omega)
    refine ji_iload dX8_open_75 rfl ?_
    refine ji_aload_n dX8_open_77 rfl trivial ?_
    refine ji_get (ci := 8) (k := 1) rfl dX8_open_78 lX8_7 (by decide) (rf_60) rfl ?_
    refine ji_iconst dX8_open_81 ?_
    refine ji_ialoadK (k := 3) dX8_open_82 (rf_61) rfl (by decide) ?_
    rw [e3]
    refine ji_icmp_gt (tgt := 152) dX8_open_83 rfl (by omega) (by omega) (fun c83 => ?_) (fun c83 => absurd c83 (by omega))
    exact ji_eqv (kk _ _) rfl rfl (by rw [show k.toNat = (z 3 + 1).toNat by omega])
  | succ u ih =>
    intro k o hk
    have f1 : k = 0 → (rf_pl id_a (op_b q x m) z k.toNat) ((1 : Int) + 1).toNat = z 2 := fun h => by subst h; exact (rf_pl_r (i := 0) (q := 1) (by omega)).2
    have f2 : k = 0 → (rf_pl id_a (op_b q x m) z k.toNat) (1 : Int).toNat = z 1 := fun h => by subst h; exact (rf_pl_r (i := 0) (q := 1) (by omega)).1
    have g1 : ¬ k = 0 → (rf_pl id_a (op_b q x m) z k.toNat) (4 + 2 * k - 2 + 1).toNat = z (2 * k.toNat + 3) := fun h => by rw [show (4 + 2 * k - 2 + 1).toNat = 2 * k.toNat + 2 + 1 by omega]; exact (rf_pl_r (i := k.toNat) (q := 2 * k.toNat + 2) (by omega)).2
    have g2 : ¬ k = 0 → (rf_pl id_a (op_b q x m) z k.toNat) (4 + 2 * k - 2).toNat = z (2 * k.toNat + 2) := fun h => by rw [show (4 + 2 * k - 2).toNat = 2 * k.toNat + 2 by omega]; exact (rf_pl_r (i := k.toNat) (q := 2 * k.toNat + 2) (by omega)).1
    have f3 : k = 0 → ∀ v, va_up (rf_pl id_a (op_b q x m) z k.toNat) (1 : Int).toNat v ((1 : Int) + 1).toNat = z 2 := fun h v => (va_up_ne _ _ (by decide)).trans (f1 h)
    have g3 : ¬ k = 0 → ∀ v, va_up (rf_pl id_a (op_b q x m) z k.toNat) (4 + 2 * k - 2).toNat v (4 + 2 * k - 2 + 1).toNat = z (2 * k.toNat + 3) := fun h v => (va_up_ne _ _ (by omega)).trans (g1 h)
    have e3 : (rf_pl id_a (op_b q x m) z k.toNat) 3 = z 3 := rf_pl_h (by omega) (by omega)
    have b1 := hB 1
    have b2 := hB 2
    have b3 := hB (2 * k.toNat + 2)
    have b4 := hB (2 * k.toNat + 3)
    refine ji_iload dX8_open_75 rfl ?_
    refine ji_aload_n dX8_open_77 rfl trivial ?_
    refine ji_get (ci := 8) (k := 1) rfl dX8_open_78 lX8_7 (by decide) (rf_60) rfl ?_
    refine ji_iconst dX8_open_81 ?_
    refine ji_ialoadK (k := 3) dX8_open_82 (rf_61) rfl (by decide) ?_
    rw [e3]
    refine ji_icmp_gt (tgt := 152) dX8_open_83 rfl (by omega) (by omega) (fun c83 => absurd c83 (by omega)) (fun c83 => ?_)
    refine ji_iload dX8_open_86 rfl ?_
    refine ji_if_ne (tgt := 95) dX8_open_88 rfl (by omega) (fun c88 => ?_) (fun c88 => ?_)
    · try (exfalso; omega)
      all_goals
        refine ji_iconst dX8_open_95 ?_
        refine ji_iconst dX8_open_96 ?_
        refine ji_iload dX8_open_97 rfl ?_
        refine ji_imul dX8_open_99 ?_
        refine ji_iadd dX8_open_100 ?_
        refine ji_iconst dX8_open_101 ?_
        refine ji_isub dX8_open_102 ?_
        refine ji_istore dX8_open_103 (by decide) rfl ?_
        refine ji_aload_n dX8_open_105 rfl trivial ?_
        refine ji_get (ci := 8) (k := 1) rfl dX8_open_106 lX8_7 (by decide) (rf_60) rfl ?_
        refine ji_iload dX8_open_109 rfl ?_
        refine ji_iconst dX8_open_111 ?_
        refine ji_iadd dX8_open_112 ?_
        refine ji_dup2 dX8_open_113 rfl rfl ?_
        refine ji_iaload dX8_open_114 (rf_61) (by omega) ?_
        first | rw [f1 (by omega)] | rw [g1 (by omega)] | rw [f3 (by omega)] | rw [g3 (by omega)]
        refine ji_aload_n dX8_open_115 rfl trivial ?_
        refine ji_get (ci := 8) (k := 1) rfl dX8_open_116 lX8_7 (by decide) (rf_60) rfl ?_
        refine ji_iload dX8_open_119 rfl ?_
        refine ji_iaload dX8_open_121 (rf_61) (by omega) ?_
        first | rw [f2 (by omega)] | rw [g2 (by omega)]
        refine ji_iload_n dX8_open_122 rfl ?_
        refine ji_icmp_ne (tgt := 143) dX8_open_123 rfl (by omega) (by omega) (fun c123 => ?_) (fun c123 => ?_)
        · try (exfalso; omega)
          all_goals
            refine ji_iconst dX8_open_143 ?_
            refine ji_iadd dX8_open_144 ?_
            refine ji_iastoreE dX8_open_145 (rf_61) (by omega) (rf_s61) ?_
            refine ji_iinc dX8_open_146 (by decide) rfl rfl ?_
            refine ji_goto (tgt := 75) dX8_open_149 rfl ?_
            first | exact ji_eqv (ih (k + 1) _ (by omega)) rfl rfl (by rw [show (k + 1).toNat = k.toNat + 1 by omega]; (try rw [show ((1 : Int) + 1).toNat = 2 from rfl]); (try rw [show (1 : Int).toNat = 1 from rfl]); rw [rf_pl_so (q := 1) (q1 := 2) (by omega) (by unfold op_b; (repeat' split) <;> omega) (rfl)]) | exact ji_eqv (ih (k + 1) _ (by omega)) rfl rfl (by rw [show (k + 1).toNat = k.toNat + 1 by omega]; (try rw [show (4 + 2 * k - 2 + 1).toNat = 2 * k.toNat + 3 by omega]); (try rw [show (4 + 2 * k - 2).toNat = 2 * k.toNat + 2 by omega]); rw [rf_pl_so (q := 2 * k.toNat + 2) (q1 := 2 * k.toNat + 3) (by omega) (by unfold op_b; (repeat' split) <;> omega) (rfl)])
        · try (exfalso; omega)
          all_goals
            refine ji_aload_n dX8_open_126 rfl trivial ?_
            refine ji_get (ci := 8) (k := 1) rfl dX8_open_127 lX8_7 (by decide) (rf_60) rfl ?_
            refine ji_iload dX8_open_130 rfl ?_
            refine ji_iconst dX8_open_132 ?_
            refine ji_iadd dX8_open_133 ?_
            refine ji_iaload dX8_open_134 (rf_61) (by omega) ?_
            first | rw [f1 (by omega)] | rw [g1 (by omega)] | rw [f3 (by omega)] | rw [g3 (by omega)]
            refine ji_iload_n dX8_open_135 rfl ?_
            refine ji_icmp_lt (tgt := 143) dX8_open_136 rfl (by omega) (by omega) (fun c136 => ?_) (fun c136 => ?_)
            · try (exfalso; omega)
              all_goals
                refine ji_iconst dX8_open_143 ?_
                refine ji_iadd dX8_open_144 ?_
                refine ji_iastoreE dX8_open_145 (rf_61) (by omega) (rf_s61) ?_
                refine ji_iinc dX8_open_146 (by decide) rfl rfl ?_
                refine ji_goto (tgt := 75) dX8_open_149 rfl ?_
                first | exact ji_eqv (ih (k + 1) _ (by omega)) rfl rfl (by rw [show (k + 1).toNat = k.toNat + 1 by omega]; (try rw [show ((1 : Int) + 1).toNat = 2 from rfl]); (try rw [show (1 : Int).toNat = 1 from rfl]); rw [rf_pl_so (q := 1) (q1 := 2) (by omega) (by unfold op_b; (repeat' split) <;> omega) (rfl)]) | exact ji_eqv (ih (k + 1) _ (by omega)) rfl rfl (by rw [show (k + 1).toNat = k.toNat + 1 by omega]; (try rw [show (4 + 2 * k - 2 + 1).toNat = 2 * k.toNat + 3 by omega]); (try rw [show (4 + 2 * k - 2).toNat = 2 * k.toNat + 2 by omega]); rw [rf_pl_so (q := 2 * k.toNat + 2) (q1 := 2 * k.toNat + 3) (by omega) (by unfold op_b; (repeat' split) <;> omega) (rfl)])
            · try (exfalso; omega)
              all_goals
                refine ji_iload_n dX8_open_139 rfl ?_
                refine ji_goto (tgt := 144) dX8_open_140 rfl ?_
                refine ji_iadd dX8_open_144 ?_
                refine ji_iastoreE dX8_open_145 (rf_61) (by omega) (rf_s61) ?_
                refine ji_iinc dX8_open_146 (by decide) rfl rfl ?_
                refine ji_goto (tgt := 75) dX8_open_149 rfl ?_
                first | exact ji_eqv (ih (k + 1) _ (by omega)) rfl rfl (by rw [show (k + 1).toNat = k.toNat + 1 by omega]; (try rw [show ((1 : Int) + 1).toNat = 2 from rfl]); (try rw [show (1 : Int).toNat = 1 from rfl]); rw [rf_pl_so (q := 1) (q1 := 2) (by omega) (by unfold op_b; (repeat' split) <;> omega) (rfl)]) | exact ji_eqv (ih (k + 1) _ (by omega)) rfl rfl (by rw [show (k + 1).toNat = k.toNat + 1 by omega]; (try rw [show (4 + 2 * k - 2 + 1).toNat = 2 * k.toNat + 3 by omega]); (try rw [show (4 + 2 * k - 2).toNat = 2 * k.toNat + 2 by omega]); rw [rf_pl_so (q := 2 * k.toNat + 2) (q1 := 2 * k.toNat + 3) (by omega) (by unfold op_b; (repeat' split) <;> omega) (rfl)])
    · try (exfalso; omega)
      all_goals
        refine ji_iconst dX8_open_91 ?_
        refine ji_goto (tgt := 103) dX8_open_92 rfl ?_
        refine ji_istore dX8_open_103 (by decide) rfl ?_
        refine ji_aload_n dX8_open_105 rfl trivial ?_
        refine ji_get (ci := 8) (k := 1) rfl dX8_open_106 lX8_7 (by decide) (rf_60) rfl ?_
        refine ji_iload dX8_open_109 rfl ?_
        refine ji_iconst dX8_open_111 ?_
        refine ji_iadd dX8_open_112 ?_
        refine ji_dup2 dX8_open_113 rfl rfl ?_
        refine ji_iaload dX8_open_114 (rf_61) (by omega) ?_
        first | rw [f1 (by omega)] | rw [g1 (by omega)] | rw [f3 (by omega)] | rw [g3 (by omega)]
        refine ji_aload_n dX8_open_115 rfl trivial ?_
        refine ji_get (ci := 8) (k := 1) rfl dX8_open_116 lX8_7 (by decide) (rf_60) rfl ?_
        refine ji_iload dX8_open_119 rfl ?_
        refine ji_iaload dX8_open_121 (rf_61) (by omega) ?_
        first | rw [f2 (by omega)] | rw [g2 (by omega)]
        refine ji_iload_n dX8_open_122 rfl ?_
        refine ji_icmp_ne (tgt := 143) dX8_open_123 rfl (by omega) (by omega) (fun c123 => ?_) (fun c123 => ?_)
        · try (exfalso; omega)
          all_goals
            refine ji_iconst dX8_open_143 ?_
            refine ji_iadd dX8_open_144 ?_
            refine ji_iastoreE dX8_open_145 (rf_61) (by omega) (rf_s61) ?_
            refine ji_iinc dX8_open_146 (by decide) rfl rfl ?_
            refine ji_goto (tgt := 75) dX8_open_149 rfl ?_
            first | exact ji_eqv (ih (k + 1) _ (by omega)) rfl rfl (by rw [show (k + 1).toNat = k.toNat + 1 by omega]; (try rw [show ((1 : Int) + 1).toNat = 2 from rfl]); (try rw [show (1 : Int).toNat = 1 from rfl]); rw [rf_pl_so (q := 1) (q1 := 2) (by omega) (by unfold op_b; (repeat' split) <;> omega) (rfl)]) | exact ji_eqv (ih (k + 1) _ (by omega)) rfl rfl (by rw [show (k + 1).toNat = k.toNat + 1 by omega]; (try rw [show (4 + 2 * k - 2 + 1).toNat = 2 * k.toNat + 3 by omega]); (try rw [show (4 + 2 * k - 2).toNat = 2 * k.toNat + 2 by omega]); rw [rf_pl_so (q := 2 * k.toNat + 2) (q1 := 2 * k.toNat + 3) (by omega) (by unfold op_b; (repeat' split) <;> omega) (rfl)])
        · try (exfalso; omega)
          all_goals
            refine ji_aload_n dX8_open_126 rfl trivial ?_
            refine ji_get (ci := 8) (k := 1) rfl dX8_open_127 lX8_7 (by decide) (rf_60) rfl ?_
            refine ji_iload dX8_open_130 rfl ?_
            refine ji_iconst dX8_open_132 ?_
            refine ji_iadd dX8_open_133 ?_
            refine ji_iaload dX8_open_134 (rf_61) (by omega) ?_
            first | rw [f1 (by omega)] | rw [g1 (by omega)] | rw [f3 (by omega)] | rw [g3 (by omega)]
            refine ji_iload_n dX8_open_135 rfl ?_
            refine ji_icmp_lt (tgt := 143) dX8_open_136 rfl (by omega) (by omega) (fun c136 => ?_) (fun c136 => ?_)
            · try (exfalso; omega)
              all_goals
                refine ji_iconst dX8_open_143 ?_
                refine ji_iadd dX8_open_144 ?_
                refine ji_iastoreE dX8_open_145 (rf_61) (by omega) (rf_s61) ?_
                refine ji_iinc dX8_open_146 (by decide) rfl rfl ?_
                refine ji_goto (tgt := 75) dX8_open_149 rfl ?_
                first | exact ji_eqv (ih (k + 1) _ (by omega)) rfl rfl (by rw [show (k + 1).toNat = k.toNat + 1 by omega]; (try rw [show ((1 : Int) + 1).toNat = 2 from rfl]); (try rw [show (1 : Int).toNat = 1 from rfl]); rw [rf_pl_so (q := 1) (q1 := 2) (by omega) (by unfold op_b; (repeat' split) <;> omega) (rfl)]) | exact ji_eqv (ih (k + 1) _ (by omega)) rfl rfl (by rw [show (k + 1).toNat = k.toNat + 1 by omega]; (try rw [show (4 + 2 * k - 2 + 1).toNat = 2 * k.toNat + 3 by omega]); (try rw [show (4 + 2 * k - 2).toNat = 2 * k.toNat + 2 by omega]); rw [rf_pl_so (q := 2 * k.toNat + 2) (q1 := 2 * k.toNat + 3) (by omega) (by unfold op_b; (repeat' split) <;> omega) (rfl)])
            · try (exfalso; omega)
              all_goals
                refine ji_iload_n dX8_open_139 rfl ?_
                refine ji_goto (tgt := 144) dX8_open_140 rfl ?_
                refine ji_iadd dX8_open_144 ?_
                refine ji_iastoreE dX8_open_145 (rf_61) (by omega) (rf_s61) ?_
                refine ji_iinc dX8_open_146 (by decide) rfl rfl ?_
                refine ji_goto (tgt := 75) dX8_open_149 rfl ?_
                first | exact ji_eqv (ih (k + 1) _ (by omega)) rfl rfl (by rw [show (k + 1).toNat = k.toNat + 1 by omega]; (try rw [show ((1 : Int) + 1).toNat = 2 from rfl]); (try rw [show (1 : Int).toNat = 1 from rfl]); rw [rf_pl_so (q := 1) (q1 := 2) (by omega) (by unfold op_b; (repeat' split) <;> omega) (rfl)]) | exact ji_eqv (ih (k + 1) _ (by omega)) rfl rfl (by rw [show (k + 1).toNat = k.toNat + 1 by omega]; (try rw [show (4 + 2 * k - 2 + 1).toNat = 2 * k.toNat + 3 by omega]); (try rw [show (4 + 2 * k - 2).toNat = 2 * k.toNat + 2 by omega]); rw [rf_pl_so (q := 2 * k.toNat + 2) (q1 := 2 * k.toNat + 3) (by omega) (by unfold op_b; (repeat' split) <;> omega) (rfl)])

set_option maxHeartbeats 4000000 in
set_option maxRecDepth 100000 in
theorem r_open_m {bc bs : Nat} {q x m : Int} (hq : 0 ≤ q ∧ q < 10) (hx : 0 ≤ x ∧ x ≤ 400) (hm : 0 ≤ m ∧ m ≤ 400) (hB : ∀ j, -20000 ≤ z j ∧ z j ≤ 20000) (h14 : 0 ≤ z 14 ∧ z 14 ≤ 12)  : ∀ (u : Nat) (k : Int) (o5 o6 : Option Value), 0 ≤ k ∧ k + u = z 14 →
    JW G d mX8_open 155 [some (.ref 60), some (.int (jI q)), some (.int (jI x)), some (.int (jI m)), some (.int (jI k)), o5, o6] [] (n, rf_f f th (rf_mk id_0 (op_1 q x m) (op_2 q x m) id_4 z k.toNat) kp ed nt nl wi ht sy sz bf rs rr rq rp mm ln lo lf lt co ro pg pf hsh) bc bs (fun r9 h9 => r9 = .inl none ∧ h9 = (n, rf_f f th (rf_mk id_0 (op_1 q x m) (op_2 q x m) id_4 z (z 14).toNat) kp ed nt nl wi ht sy sz bf rs rr rq rp mm ln lo lf lt co ro pg pf hsh)) := by
  intro u
  induction u with
  | zero =>
    intro k o5 o6 hk
    have e14 : (rf_mk id_0 (op_1 q x m) (op_2 q x m) id_4 z k.toNat) 14 = z 14 := rf_mk_r (by omega)
    refine ji_iload dX8_open_155 rfl ?_
    refine ji_aload_n dX8_open_157 rfl trivial ?_
    refine ji_get (ci := 8) (k := 1) rfl dX8_open_158 lX8_7 (by decide) (rf_60) rfl ?_
    refine ji_bipush dX8_open_161 rfl ?_
    refine ji_ialoadK (k := 14) dX8_open_163 (rf_61) rfl (by decide) ?_
    rw [e14]
    refine ji_icmp_ge (tgt := 299) dX8_open_164 rfl (by omega) (by omega) (fun c164 => ?_) (fun c164 => absurd c164 (by omega))
    exact ji_return dX8_open_299 rfl ⟨rfl, by rw [show k.toNat = (z 14).toNat by omega]⟩
  | succ u ih =>
    intro k o5 o6 hk
    have e14 : (rf_mk id_0 (op_1 q x m) (op_2 q x m) id_4 z k.toNat) 14 = z 14 := rf_mk_r (by omega)
    have r0 : (rf_mk id_0 (op_1 q x m) (op_2 q x m) id_4 z k.toNat) (15 + 5 * k).toNat = z (15 + 5 * k.toNat) := by rw [show (15 + 5 * k).toNat = 15 + 5 * k.toNat by omega]; exact rf_mk_r (by omega)
    have b0 := hB (15 + 5 * k.toNat)
    have r1 : (rf_mk id_0 (op_1 q x m) (op_2 q x m) id_4 z k.toNat) (15 + 5 * k + 1).toNat = z (15 + 5 * k.toNat + 1) := by rw [show (15 + 5 * k + 1).toNat = 15 + 5 * k.toNat + 1 by omega]; exact rf_mk_r (by omega)
    have b1 := hB (15 + 5 * k.toNat + 1)
    have r2 : (rf_mk id_0 (op_1 q x m) (op_2 q x m) id_4 z k.toNat) (15 + 5 * k + 2).toNat = z (15 + 5 * k.toNat + 2) := by rw [show (15 + 5 * k + 2).toNat = 15 + 5 * k.toNat + 2 by omega]; exact rf_mk_r (by omega)
    have b2 := hB (15 + 5 * k.toNat + 2)
    have r4 : (rf_mk id_0 (op_1 q x m) (op_2 q x m) id_4 z k.toNat) (15 + 5 * k + 4).toNat = z (15 + 5 * k.toNat + 4) := by rw [show (15 + 5 * k + 4).toNat = 15 + 5 * k.toNat + 4 by omega]; exact rf_mk_r (by omega)
    have b4 := hB (15 + 5 * k.toNat + 4)
    have s10 : ∀ v, va_up (rf_mk id_0 (op_1 q x m) (op_2 q x m) id_4 z k.toNat) (15 + 5 * k + 1).toNat v (15 + 5 * k).toNat = z (15 + 5 * k.toNat) := fun v => (va_up_ne _ _ (by omega)).trans r0
    have s20 : ∀ v, va_up (rf_mk id_0 (op_1 q x m) (op_2 q x m) id_4 z k.toNat) (15 + 5 * k + 2).toNat v (15 + 5 * k).toNat = z (15 + 5 * k.toNat) := fun v => (va_up_ne _ _ (by omega)).trans r0
    have s40 : ∀ v, va_up (rf_mk id_0 (op_1 q x m) (op_2 q x m) id_4 z k.toNat) (15 + 5 * k + 4).toNat v (15 + 5 * k).toNat = z (15 + 5 * k.toNat) := fun v => (va_up_ne _ _ (by omega)).trans r0
    have s01 : ∀ v, va_up (rf_mk id_0 (op_1 q x m) (op_2 q x m) id_4 z k.toNat) (15 + 5 * k).toNat v (15 + 5 * k + 1).toNat = z (15 + 5 * k.toNat + 1) := fun v => (va_up_ne _ _ (by omega)).trans r1
    have s21 : ∀ v, va_up (rf_mk id_0 (op_1 q x m) (op_2 q x m) id_4 z k.toNat) (15 + 5 * k + 2).toNat v (15 + 5 * k + 1).toNat = z (15 + 5 * k.toNat + 1) := fun v => (va_up_ne _ _ (by omega)).trans r1
    have s41 : ∀ v, va_up (rf_mk id_0 (op_1 q x m) (op_2 q x m) id_4 z k.toNat) (15 + 5 * k + 4).toNat v (15 + 5 * k + 1).toNat = z (15 + 5 * k.toNat + 1) := fun v => (va_up_ne _ _ (by omega)).trans r1
    have s02 : ∀ v, va_up (rf_mk id_0 (op_1 q x m) (op_2 q x m) id_4 z k.toNat) (15 + 5 * k).toNat v (15 + 5 * k + 2).toNat = z (15 + 5 * k.toNat + 2) := fun v => (va_up_ne _ _ (by omega)).trans r2
    have s12 : ∀ v, va_up (rf_mk id_0 (op_1 q x m) (op_2 q x m) id_4 z k.toNat) (15 + 5 * k + 1).toNat v (15 + 5 * k + 2).toNat = z (15 + 5 * k.toNat + 2) := fun v => (va_up_ne _ _ (by omega)).trans r2
    have s42 : ∀ v, va_up (rf_mk id_0 (op_1 q x m) (op_2 q x m) id_4 z k.toNat) (15 + 5 * k + 4).toNat v (15 + 5 * k + 2).toNat = z (15 + 5 * k.toNat + 2) := fun v => (va_up_ne _ _ (by omega)).trans r2
    have s04 : ∀ v, va_up (rf_mk id_0 (op_1 q x m) (op_2 q x m) id_4 z k.toNat) (15 + 5 * k).toNat v (15 + 5 * k + 4).toNat = z (15 + 5 * k.toNat + 4) := fun v => (va_up_ne _ _ (by omega)).trans r4
    have s14 : ∀ v, va_up (rf_mk id_0 (op_1 q x m) (op_2 q x m) id_4 z k.toNat) (15 + 5 * k + 1).toNat v (15 + 5 * k + 4).toNat = z (15 + 5 * k.toNat + 4) := fun v => (va_up_ne _ _ (by omega)).trans r4
    have s24 : ∀ v, va_up (rf_mk id_0 (op_1 q x m) (op_2 q x m) id_4 z k.toNat) (15 + 5 * k + 2).toNat v (15 + 5 * k + 4).toNat = z (15 + 5 * k.toNat + 4) := fun v => (va_up_ne _ _ (by omega)).trans r4
    refine ji_iload dX8_open_155 rfl ?_
    refine ji_aload_n dX8_open_157 rfl trivial ?_
    refine ji_get (ci := 8) (k := 1) rfl dX8_open_158 lX8_7 (by decide) (rf_60) rfl ?_
    refine ji_bipush dX8_open_161 rfl ?_
    refine ji_ialoadK (k := 14) dX8_open_163 (rf_61) rfl (by decide) ?_
    rw [e14]
    refine ji_icmp_ge (tgt := 299) dX8_open_164 rfl (by omega) (by omega) (fun c164 => absurd c164 (by omega)) (fun c164 => ?_)
    refine ji_bipush dX8_open_167 rfl ?_
    refine ji_iconst dX8_open_169 ?_
    refine ji_iload dX8_open_170 rfl ?_
    refine ji_imul dX8_open_172 ?_
    refine ji_iadd dX8_open_173 ?_
    refine ji_istore dX8_open_174 (by decide) rfl ?_
    refine ji_aload_n dX8_open_176 rfl trivial ?_
    refine ji_get (ci := 8) (k := 1) rfl dX8_open_177 lX8_7 (by decide) (rf_60) rfl ?_
    refine ji_iload dX8_open_180 rfl ?_
    refine ji_iaload dX8_open_182 (rf_61) (by omega) ?_
    rw [r0]
    refine ji_iload_n dX8_open_183 rfl ?_
    refine ji_icmp_ne (tgt := 191) dX8_open_184 rfl (by omega) (by omega) (fun c184 => ?_) (fun c184 => ?_)
    · try (exfalso; omega)
      all_goals
        refine ji_iconst dX8_open_191 ?_
        refine ji_istore dX8_open_192 (by decide) rfl ?_
        refine ji_aload_n dX8_open_194 rfl trivial ?_
        refine ji_get (ci := 8) (k := 1) rfl dX8_open_195 lX8_7 (by decide) (rf_60) rfl ?_
        refine ji_iload dX8_open_198 rfl ?_
        refine ji_iconst dX8_open_200 ?_
        refine ji_iadd dX8_open_201 ?_
        refine ji_dup2 dX8_open_202 rfl rfl ?_
        refine ji_iaload dX8_open_203 (rf_61) (by omega) ?_
        rw [r2]
        refine ji_iload dX8_open_204 rfl ?_
        refine ji_if_eq (tgt := 255) dX8_open_206 rfl (by omega) (fun c206 => ?_) (fun c206 => ?_)
        · try (exfalso; omega)
          all_goals
            refine ji_iconst dX8_open_255 ?_
            refine ji_iadd dX8_open_256 ?_
            refine ji_iastoreE dX8_open_257 (rf_61) (by omega) (rf_s61) ?_
            refine ji_aload_n dX8_open_258 rfl trivial ?_
            refine ji_get (ci := 8) (k := 1) rfl dX8_open_259 lX8_7 (by decide) (rf_60) rfl ?_
            refine ji_iload dX8_open_262 rfl ?_
            refine ji_iconst dX8_open_264 ?_
            refine ji_iadd dX8_open_265 ?_
            refine ji_dup2 dX8_open_266 rfl rfl ?_
            refine ji_iaload dX8_open_267 (rf_61) (by omega) ?_
            rw [s21]
            refine ji_iload dX8_open_268 rfl ?_
            refine ji_if_eq (tgt := 290) dX8_open_270 rfl (by omega) (fun c270 => ?_) (fun c270 => ?_)
            · try (exfalso; omega)
              all_goals
                refine ji_iconst dX8_open_290 ?_
                refine ji_iadd dX8_open_291 ?_
                refine ji_iastoreE dX8_open_292 (rf_61) (by omega) (rf_s61) ?_
                refine ji_iinc dX8_open_293 (by decide) rfl rfl ?_
                refine ji_goto (tgt := 155) dX8_open_296 rfl ?_
                exact ji_eqv (ih (k + 1) _ _ (by omega)) rfl rfl (by rw [show (k + 1).toNat = k.toNat + 1 by omega]; (try rw [show (15 + 5 * k + 1).toNat = 15 + 5 * k.toNat + 1 by omega]); (try rw [show (15 + 5 * k + 2).toNat = 15 + 5 * k.toNat + 2 by omega]); (try rw [show (15 + 5 * k + 4).toNat = 15 + 5 * k.toNat + 4 by omega]); (try rw [show (15 + 5 * k).toNat = 15 + 5 * k.toNat by omega]); exact congrArg (fun r9 => (n, rf_f f th r9 kp ed nt nl wi ht sy sz bf rs rr rq rp mm ln lo lf lt co ro pg pf hsh)) (rf_mk_e (fun j hj => by rw [va_up_ne _ _ (by omega), va_up_ne _ _ (by omega)]) (by rw [va_up_ne _ _ (by omega), va_up_ne _ _ (by omega), rf_mk_r (by omega)]; rfl) (by rw [va_up_self]; unfold op_1; (repeat' split) <;> omega) (by rw [va_up_ne _ _ (by omega), va_up_self]; unfold op_2; (repeat' split) <;> omega) (by rw [va_up_ne _ _ (by omega), va_up_ne _ _ (by omega), rf_mk_r (by omega)]) (by rw [va_up_ne _ _ (by omega), va_up_ne _ _ (by omega), rf_mk_r (by omega)]; rfl)))
            · try (exfalso; omega)
              all_goals
                refine ji_aload_n dX8_open_273 rfl trivial ?_
                refine ji_get (ci := 8) (k := 1) rfl dX8_open_274 lX8_7 (by decide) (rf_60) rfl ?_
                refine ji_iload dX8_open_277 rfl ?_
                refine ji_iconst dX8_open_279 ?_
                refine ji_iadd dX8_open_280 ?_
                refine ji_iaload dX8_open_281 (rf_61) (by omega) ?_
                rw [s21]
                refine ji_iload_n dX8_open_282 rfl ?_
                refine ji_icmp_lt (tgt := 290) dX8_open_283 rfl (by omega) (by omega) (fun c283 => ?_) (fun c283 => ?_)
                · try (exfalso; omega)
                  all_goals
                    refine ji_iconst dX8_open_290 ?_
                    refine ji_iadd dX8_open_291 ?_
                    refine ji_iastoreE dX8_open_292 (rf_61) (by omega) (rf_s61) ?_
                    refine ji_iinc dX8_open_293 (by decide) rfl rfl ?_
                    refine ji_goto (tgt := 155) dX8_open_296 rfl ?_
                    exact ji_eqv (ih (k + 1) _ _ (by omega)) rfl rfl (by rw [show (k + 1).toNat = k.toNat + 1 by omega]; (try rw [show (15 + 5 * k + 1).toNat = 15 + 5 * k.toNat + 1 by omega]); (try rw [show (15 + 5 * k + 2).toNat = 15 + 5 * k.toNat + 2 by omega]); (try rw [show (15 + 5 * k + 4).toNat = 15 + 5 * k.toNat + 4 by omega]); (try rw [show (15 + 5 * k).toNat = 15 + 5 * k.toNat by omega]); exact congrArg (fun r9 => (n, rf_f f th r9 kp ed nt nl wi ht sy sz bf rs rr rq rp mm ln lo lf lt co ro pg pf hsh)) (rf_mk_e (fun j hj => by rw [va_up_ne _ _ (by omega), va_up_ne _ _ (by omega)]) (by rw [va_up_ne _ _ (by omega), va_up_ne _ _ (by omega), rf_mk_r (by omega)]; rfl) (by rw [va_up_self]; unfold op_1; (repeat' split) <;> omega) (by rw [va_up_ne _ _ (by omega), va_up_self]; unfold op_2; (repeat' split) <;> omega) (by rw [va_up_ne _ _ (by omega), va_up_ne _ _ (by omega), rf_mk_r (by omega)]) (by rw [va_up_ne _ _ (by omega), va_up_ne _ _ (by omega), rf_mk_r (by omega)]; rfl)))
                · try (exfalso; omega)
                  all_goals
                    refine ji_iload_n dX8_open_286 rfl ?_
                    refine ji_goto (tgt := 291) dX8_open_287 rfl ?_
                    refine ji_iadd dX8_open_291 ?_
                    refine ji_iastoreE dX8_open_292 (rf_61) (by omega) (rf_s61) ?_
                    refine ji_iinc dX8_open_293 (by decide) rfl rfl ?_
                    refine ji_goto (tgt := 155) dX8_open_296 rfl ?_
                    exact ji_eqv (ih (k + 1) _ _ (by omega)) rfl rfl (by rw [show (k + 1).toNat = k.toNat + 1 by omega]; (try rw [show (15 + 5 * k + 1).toNat = 15 + 5 * k.toNat + 1 by omega]); (try rw [show (15 + 5 * k + 2).toNat = 15 + 5 * k.toNat + 2 by omega]); (try rw [show (15 + 5 * k + 4).toNat = 15 + 5 * k.toNat + 4 by omega]); (try rw [show (15 + 5 * k).toNat = 15 + 5 * k.toNat by omega]); exact congrArg (fun r9 => (n, rf_f f th r9 kp ed nt nl wi ht sy sz bf rs rr rq rp mm ln lo lf lt co ro pg pf hsh)) (rf_mk_e (fun j hj => by rw [va_up_ne _ _ (by omega), va_up_ne _ _ (by omega)]) (by rw [va_up_ne _ _ (by omega), va_up_ne _ _ (by omega), rf_mk_r (by omega)]; rfl) (by rw [va_up_self]; unfold op_1; (repeat' split) <;> omega) (by rw [va_up_ne _ _ (by omega), va_up_self]; unfold op_2; (repeat' split) <;> omega) (by rw [va_up_ne _ _ (by omega), va_up_ne _ _ (by omega), rf_mk_r (by omega)]) (by rw [va_up_ne _ _ (by omega), va_up_ne _ _ (by omega), rf_mk_r (by omega)]; rfl)))
        · try (exfalso; omega)
          all_goals
            refine ji_aload_n dX8_open_209 rfl trivial ?_
            refine ji_get (ci := 8) (k := 1) rfl dX8_open_210 lX8_7 (by decide) (rf_60) rfl ?_
            refine ji_iload dX8_open_213 rfl ?_
            refine ji_iconst dX8_open_215 ?_
            refine ji_iadd dX8_open_216 ?_
            refine ji_iaload dX8_open_217 (rf_61) (by omega) ?_
            rw [r4]
            refine ji_iconst dX8_open_218 ?_
            refine ji_icmp_ne (tgt := 238) dX8_open_219 rfl (by omega) (by omega) (fun c219 => ?_) (fun c219 => ?_)
            · try (exfalso; omega)
              all_goals
                refine ji_aload_n dX8_open_238 rfl trivial ?_
                refine ji_get (ci := 8) (k := 1) rfl dX8_open_239 lX8_7 (by decide) (rf_60) rfl ?_
                refine ji_iload dX8_open_242 rfl ?_
                refine ji_iconst dX8_open_244 ?_
                refine ji_iadd dX8_open_245 ?_
                refine ji_iaload dX8_open_246 (rf_61) (by omega) ?_
                rw [r2]
                refine ji_iload_n dX8_open_247 rfl ?_
                refine ji_icmp_le (tgt := 255) dX8_open_248 rfl (by omega) (by omega) (fun c248 => ?_) (fun c248 => ?_)
                · try (exfalso; omega)
                  all_goals
                    refine ji_iconst dX8_open_255 ?_
                    refine ji_iadd dX8_open_256 ?_
                    refine ji_iastoreE dX8_open_257 (rf_61) (by omega) (rf_s61) ?_
                    refine ji_aload_n dX8_open_258 rfl trivial ?_
                    refine ji_get (ci := 8) (k := 1) rfl dX8_open_259 lX8_7 (by decide) (rf_60) rfl ?_
                    refine ji_iload dX8_open_262 rfl ?_
                    refine ji_iconst dX8_open_264 ?_
                    refine ji_iadd dX8_open_265 ?_
                    refine ji_dup2 dX8_open_266 rfl rfl ?_
                    refine ji_iaload dX8_open_267 (rf_61) (by omega) ?_
                    rw [s21]
                    refine ji_iload dX8_open_268 rfl ?_
                    refine ji_if_eq (tgt := 290) dX8_open_270 rfl (by omega) (fun c270 => ?_) (fun c270 => ?_)
                    · try (exfalso; omega)
                      all_goals
                        refine ji_iconst dX8_open_290 ?_
                        refine ji_iadd dX8_open_291 ?_
                        refine ji_iastoreE dX8_open_292 (rf_61) (by omega) (rf_s61) ?_
                        refine ji_iinc dX8_open_293 (by decide) rfl rfl ?_
                        refine ji_goto (tgt := 155) dX8_open_296 rfl ?_
                        exact ji_eqv (ih (k + 1) _ _ (by omega)) rfl rfl (by rw [show (k + 1).toNat = k.toNat + 1 by omega]; (try rw [show (15 + 5 * k + 1).toNat = 15 + 5 * k.toNat + 1 by omega]); (try rw [show (15 + 5 * k + 2).toNat = 15 + 5 * k.toNat + 2 by omega]); (try rw [show (15 + 5 * k + 4).toNat = 15 + 5 * k.toNat + 4 by omega]); (try rw [show (15 + 5 * k).toNat = 15 + 5 * k.toNat by omega]); exact congrArg (fun r9 => (n, rf_f f th r9 kp ed nt nl wi ht sy sz bf rs rr rq rp mm ln lo lf lt co ro pg pf hsh)) (rf_mk_e (fun j hj => by rw [va_up_ne _ _ (by omega), va_up_ne _ _ (by omega)]) (by rw [va_up_ne _ _ (by omega), va_up_ne _ _ (by omega), rf_mk_r (by omega)]; rfl) (by rw [va_up_self]; unfold op_1; (repeat' split) <;> omega) (by rw [va_up_ne _ _ (by omega), va_up_self]; unfold op_2; (repeat' split) <;> omega) (by rw [va_up_ne _ _ (by omega), va_up_ne _ _ (by omega), rf_mk_r (by omega)]) (by rw [va_up_ne _ _ (by omega), va_up_ne _ _ (by omega), rf_mk_r (by omega)]; rfl)))
                    · try (exfalso; omega)
                      all_goals
                        refine ji_aload_n dX8_open_273 rfl trivial ?_
                        refine ji_get (ci := 8) (k := 1) rfl dX8_open_274 lX8_7 (by decide) (rf_60) rfl ?_
                        refine ji_iload dX8_open_277 rfl ?_
                        refine ji_iconst dX8_open_279 ?_
                        refine ji_iadd dX8_open_280 ?_
                        refine ji_iaload dX8_open_281 (rf_61) (by omega) ?_
                        rw [s21]
                        refine ji_iload_n dX8_open_282 rfl ?_
                        refine ji_icmp_lt (tgt := 290) dX8_open_283 rfl (by omega) (by omega) (fun c283 => ?_) (fun c283 => ?_)
                        · try (exfalso; omega)
                          all_goals
                            refine ji_iconst dX8_open_290 ?_
                            refine ji_iadd dX8_open_291 ?_
                            refine ji_iastoreE dX8_open_292 (rf_61) (by omega) (rf_s61) ?_
                            refine ji_iinc dX8_open_293 (by decide) rfl rfl ?_
                            refine ji_goto (tgt := 155) dX8_open_296 rfl ?_
                            exact ji_eqv (ih (k + 1) _ _ (by omega)) rfl rfl (by rw [show (k + 1).toNat = k.toNat + 1 by omega]; (try rw [show (15 + 5 * k + 1).toNat = 15 + 5 * k.toNat + 1 by omega]); (try rw [show (15 + 5 * k + 2).toNat = 15 + 5 * k.toNat + 2 by omega]); (try rw [show (15 + 5 * k + 4).toNat = 15 + 5 * k.toNat + 4 by omega]); (try rw [show (15 + 5 * k).toNat = 15 + 5 * k.toNat by omega]); exact congrArg (fun r9 => (n, rf_f f th r9 kp ed nt nl wi ht sy sz bf rs rr rq rp mm ln lo lf lt co ro pg pf hsh)) (rf_mk_e (fun j hj => by rw [va_up_ne _ _ (by omega), va_up_ne _ _ (by omega)]) (by rw [va_up_ne _ _ (by omega), va_up_ne _ _ (by omega), rf_mk_r (by omega)]; rfl) (by rw [va_up_self]; unfold op_1; (repeat' split) <;> omega) (by rw [va_up_ne _ _ (by omega), va_up_self]; unfold op_2; (repeat' split) <;> omega) (by rw [va_up_ne _ _ (by omega), va_up_ne _ _ (by omega), rf_mk_r (by omega)]) (by rw [va_up_ne _ _ (by omega), va_up_ne _ _ (by omega), rf_mk_r (by omega)]; rfl)))
                        · try (exfalso; omega)
                          all_goals
                            refine ji_iload_n dX8_open_286 rfl ?_
                            refine ji_goto (tgt := 291) dX8_open_287 rfl ?_
                            refine ji_iadd dX8_open_291 ?_
                            refine ji_iastoreE dX8_open_292 (rf_61) (by omega) (rf_s61) ?_
                            refine ji_iinc dX8_open_293 (by decide) rfl rfl ?_
                            refine ji_goto (tgt := 155) dX8_open_296 rfl ?_
                            exact ji_eqv (ih (k + 1) _ _ (by omega)) rfl rfl (by rw [show (k + 1).toNat = k.toNat + 1 by omega]; (try rw [show (15 + 5 * k + 1).toNat = 15 + 5 * k.toNat + 1 by omega]); (try rw [show (15 + 5 * k + 2).toNat = 15 + 5 * k.toNat + 2 by omega]); (try rw [show (15 + 5 * k + 4).toNat = 15 + 5 * k.toNat + 4 by omega]); (try rw [show (15 + 5 * k).toNat = 15 + 5 * k.toNat by omega]); exact congrArg (fun r9 => (n, rf_f f th r9 kp ed nt nl wi ht sy sz bf rs rr rq rp mm ln lo lf lt co ro pg pf hsh)) (rf_mk_e (fun j hj => by rw [va_up_ne _ _ (by omega), va_up_ne _ _ (by omega)]) (by rw [va_up_ne _ _ (by omega), va_up_ne _ _ (by omega), rf_mk_r (by omega)]; rfl) (by rw [va_up_self]; unfold op_1; (repeat' split) <;> omega) (by rw [va_up_ne _ _ (by omega), va_up_self]; unfold op_2; (repeat' split) <;> omega) (by rw [va_up_ne _ _ (by omega), va_up_ne _ _ (by omega), rf_mk_r (by omega)]) (by rw [va_up_ne _ _ (by omega), va_up_ne _ _ (by omega), rf_mk_r (by omega)]; rfl)))
                · try (exfalso; omega)
                  all_goals
                    refine ji_iload_n dX8_open_251 rfl ?_
                    refine ji_goto (tgt := 256) dX8_open_252 rfl ?_
                    refine ji_iadd dX8_open_256 ?_
                    refine ji_iastoreE dX8_open_257 (rf_61) (by omega) (rf_s61) ?_
                    refine ji_aload_n dX8_open_258 rfl trivial ?_
                    refine ji_get (ci := 8) (k := 1) rfl dX8_open_259 lX8_7 (by decide) (rf_60) rfl ?_
                    refine ji_iload dX8_open_262 rfl ?_
                    refine ji_iconst dX8_open_264 ?_
                    refine ji_iadd dX8_open_265 ?_
                    refine ji_dup2 dX8_open_266 rfl rfl ?_
                    refine ji_iaload dX8_open_267 (rf_61) (by omega) ?_
                    rw [s21]
                    refine ji_iload dX8_open_268 rfl ?_
                    refine ji_if_eq (tgt := 290) dX8_open_270 rfl (by omega) (fun c270 => ?_) (fun c270 => ?_)
                    · try (exfalso; omega)
                      all_goals
                        refine ji_iconst dX8_open_290 ?_
                        refine ji_iadd dX8_open_291 ?_
                        refine ji_iastoreE dX8_open_292 (rf_61) (by omega) (rf_s61) ?_
                        refine ji_iinc dX8_open_293 (by decide) rfl rfl ?_
                        refine ji_goto (tgt := 155) dX8_open_296 rfl ?_
                        exact ji_eqv (ih (k + 1) _ _ (by omega)) rfl rfl (by rw [show (k + 1).toNat = k.toNat + 1 by omega]; (try rw [show (15 + 5 * k + 1).toNat = 15 + 5 * k.toNat + 1 by omega]); (try rw [show (15 + 5 * k + 2).toNat = 15 + 5 * k.toNat + 2 by omega]); (try rw [show (15 + 5 * k + 4).toNat = 15 + 5 * k.toNat + 4 by omega]); (try rw [show (15 + 5 * k).toNat = 15 + 5 * k.toNat by omega]); exact congrArg (fun r9 => (n, rf_f f th r9 kp ed nt nl wi ht sy sz bf rs rr rq rp mm ln lo lf lt co ro pg pf hsh)) (rf_mk_e (fun j hj => by rw [va_up_ne _ _ (by omega), va_up_ne _ _ (by omega)]) (by rw [va_up_ne _ _ (by omega), va_up_ne _ _ (by omega), rf_mk_r (by omega)]; rfl) (by rw [va_up_self]; unfold op_1; (repeat' split) <;> omega) (by rw [va_up_ne _ _ (by omega), va_up_self]; unfold op_2; (repeat' split) <;> omega) (by rw [va_up_ne _ _ (by omega), va_up_ne _ _ (by omega), rf_mk_r (by omega)]) (by rw [va_up_ne _ _ (by omega), va_up_ne _ _ (by omega), rf_mk_r (by omega)]; rfl)))
                    · try (exfalso; omega)
                      all_goals
                        refine ji_aload_n dX8_open_273 rfl trivial ?_
                        refine ji_get (ci := 8) (k := 1) rfl dX8_open_274 lX8_7 (by decide) (rf_60) rfl ?_
                        refine ji_iload dX8_open_277 rfl ?_
                        refine ji_iconst dX8_open_279 ?_
                        refine ji_iadd dX8_open_280 ?_
                        refine ji_iaload dX8_open_281 (rf_61) (by omega) ?_
                        rw [s21]
                        refine ji_iload_n dX8_open_282 rfl ?_
                        refine ji_icmp_lt (tgt := 290) dX8_open_283 rfl (by omega) (by omega) (fun c283 => ?_) (fun c283 => ?_)
                        · try (exfalso; omega)
                          all_goals
                            refine ji_iconst dX8_open_290 ?_
                            refine ji_iadd dX8_open_291 ?_
                            refine ji_iastoreE dX8_open_292 (rf_61) (by omega) (rf_s61) ?_
                            refine ji_iinc dX8_open_293 (by decide) rfl rfl ?_
                            refine ji_goto (tgt := 155) dX8_open_296 rfl ?_
                            exact ji_eqv (ih (k + 1) _ _ (by omega)) rfl rfl (by rw [show (k + 1).toNat = k.toNat + 1 by omega]; (try rw [show (15 + 5 * k + 1).toNat = 15 + 5 * k.toNat + 1 by omega]); (try rw [show (15 + 5 * k + 2).toNat = 15 + 5 * k.toNat + 2 by omega]); (try rw [show (15 + 5 * k + 4).toNat = 15 + 5 * k.toNat + 4 by omega]); (try rw [show (15 + 5 * k).toNat = 15 + 5 * k.toNat by omega]); exact congrArg (fun r9 => (n, rf_f f th r9 kp ed nt nl wi ht sy sz bf rs rr rq rp mm ln lo lf lt co ro pg pf hsh)) (rf_mk_e (fun j hj => by rw [va_up_ne _ _ (by omega), va_up_ne _ _ (by omega)]) (by rw [va_up_ne _ _ (by omega), va_up_ne _ _ (by omega), rf_mk_r (by omega)]; rfl) (by rw [va_up_self]; unfold op_1; (repeat' split) <;> omega) (by rw [va_up_ne _ _ (by omega), va_up_self]; unfold op_2; (repeat' split) <;> omega) (by rw [va_up_ne _ _ (by omega), va_up_ne _ _ (by omega), rf_mk_r (by omega)]) (by rw [va_up_ne _ _ (by omega), va_up_ne _ _ (by omega), rf_mk_r (by omega)]; rfl)))
                        · try (exfalso; omega)
                          all_goals
                            refine ji_iload_n dX8_open_286 rfl ?_
                            refine ji_goto (tgt := 291) dX8_open_287 rfl ?_
                            refine ji_iadd dX8_open_291 ?_
                            refine ji_iastoreE dX8_open_292 (rf_61) (by omega) (rf_s61) ?_
                            refine ji_iinc dX8_open_293 (by decide) rfl rfl ?_
                            refine ji_goto (tgt := 155) dX8_open_296 rfl ?_
                            exact ji_eqv (ih (k + 1) _ _ (by omega)) rfl rfl (by rw [show (k + 1).toNat = k.toNat + 1 by omega]; (try rw [show (15 + 5 * k + 1).toNat = 15 + 5 * k.toNat + 1 by omega]); (try rw [show (15 + 5 * k + 2).toNat = 15 + 5 * k.toNat + 2 by omega]); (try rw [show (15 + 5 * k + 4).toNat = 15 + 5 * k.toNat + 4 by omega]); (try rw [show (15 + 5 * k).toNat = 15 + 5 * k.toNat by omega]); exact congrArg (fun r9 => (n, rf_f f th r9 kp ed nt nl wi ht sy sz bf rs rr rq rp mm ln lo lf lt co ro pg pf hsh)) (rf_mk_e (fun j hj => by rw [va_up_ne _ _ (by omega), va_up_ne _ _ (by omega)]) (by rw [va_up_ne _ _ (by omega), va_up_ne _ _ (by omega), rf_mk_r (by omega)]; rfl) (by rw [va_up_self]; unfold op_1; (repeat' split) <;> omega) (by rw [va_up_ne _ _ (by omega), va_up_self]; unfold op_2; (repeat' split) <;> omega) (by rw [va_up_ne _ _ (by omega), va_up_ne _ _ (by omega), rf_mk_r (by omega)]) (by rw [va_up_ne _ _ (by omega), va_up_ne _ _ (by omega), rf_mk_r (by omega)]; rfl)))
            · try (exfalso; omega)
              all_goals
                refine ji_aload_n dX8_open_222 rfl trivial ?_
                refine ji_get (ci := 8) (k := 1) rfl dX8_open_223 lX8_7 (by decide) (rf_60) rfl ?_
                refine ji_iload dX8_open_226 rfl ?_
                refine ji_iconst dX8_open_228 ?_
                refine ji_iadd dX8_open_229 ?_
                refine ji_iaload dX8_open_230 (rf_61) (by omega) ?_
                rw [r2]
                refine ji_iload_n dX8_open_231 rfl ?_
                refine ji_icmp_lt (tgt := 255) dX8_open_232 rfl (by omega) (by omega) (fun c232 => ?_) (fun c232 => ?_)
                · try (exfalso; omega)
                  all_goals
                    refine ji_iconst dX8_open_255 ?_
                    refine ji_iadd dX8_open_256 ?_
                    refine ji_iastoreE dX8_open_257 (rf_61) (by omega) (rf_s61) ?_
                    refine ji_aload_n dX8_open_258 rfl trivial ?_
                    refine ji_get (ci := 8) (k := 1) rfl dX8_open_259 lX8_7 (by decide) (rf_60) rfl ?_
                    refine ji_iload dX8_open_262 rfl ?_
                    refine ji_iconst dX8_open_264 ?_
                    refine ji_iadd dX8_open_265 ?_
                    refine ji_dup2 dX8_open_266 rfl rfl ?_
                    refine ji_iaload dX8_open_267 (rf_61) (by omega) ?_
                    rw [s21]
                    refine ji_iload dX8_open_268 rfl ?_
                    refine ji_if_eq (tgt := 290) dX8_open_270 rfl (by omega) (fun c270 => ?_) (fun c270 => ?_)
                    · try (exfalso; omega)
                      all_goals
                        refine ji_iconst dX8_open_290 ?_
                        refine ji_iadd dX8_open_291 ?_
                        refine ji_iastoreE dX8_open_292 (rf_61) (by omega) (rf_s61) ?_
                        refine ji_iinc dX8_open_293 (by decide) rfl rfl ?_
                        refine ji_goto (tgt := 155) dX8_open_296 rfl ?_
                        exact ji_eqv (ih (k + 1) _ _ (by omega)) rfl rfl (by rw [show (k + 1).toNat = k.toNat + 1 by omega]; (try rw [show (15 + 5 * k + 1).toNat = 15 + 5 * k.toNat + 1 by omega]); (try rw [show (15 + 5 * k + 2).toNat = 15 + 5 * k.toNat + 2 by omega]); (try rw [show (15 + 5 * k + 4).toNat = 15 + 5 * k.toNat + 4 by omega]); (try rw [show (15 + 5 * k).toNat = 15 + 5 * k.toNat by omega]); exact congrArg (fun r9 => (n, rf_f f th r9 kp ed nt nl wi ht sy sz bf rs rr rq rp mm ln lo lf lt co ro pg pf hsh)) (rf_mk_e (fun j hj => by rw [va_up_ne _ _ (by omega), va_up_ne _ _ (by omega)]) (by rw [va_up_ne _ _ (by omega), va_up_ne _ _ (by omega), rf_mk_r (by omega)]; rfl) (by rw [va_up_self]; unfold op_1; (repeat' split) <;> omega) (by rw [va_up_ne _ _ (by omega), va_up_self]; unfold op_2; (repeat' split) <;> omega) (by rw [va_up_ne _ _ (by omega), va_up_ne _ _ (by omega), rf_mk_r (by omega)]) (by rw [va_up_ne _ _ (by omega), va_up_ne _ _ (by omega), rf_mk_r (by omega)]; rfl)))
                    · try (exfalso; omega)
                      all_goals
                        refine ji_aload_n dX8_open_273 rfl trivial ?_
                        refine ji_get (ci := 8) (k := 1) rfl dX8_open_274 lX8_7 (by decide) (rf_60) rfl ?_
                        refine ji_iload dX8_open_277 rfl ?_
                        refine ji_iconst dX8_open_279 ?_
                        refine ji_iadd dX8_open_280 ?_
                        refine ji_iaload dX8_open_281 (rf_61) (by omega) ?_
                        rw [s21]
                        refine ji_iload_n dX8_open_282 rfl ?_
                        refine ji_icmp_lt (tgt := 290) dX8_open_283 rfl (by omega) (by omega) (fun c283 => ?_) (fun c283 => ?_)
                        · try (exfalso; omega)
                          all_goals
                            refine ji_iconst dX8_open_290 ?_
                            refine ji_iadd dX8_open_291 ?_
                            refine ji_iastoreE dX8_open_292 (rf_61) (by omega) (rf_s61) ?_
                            refine ji_iinc dX8_open_293 (by decide) rfl rfl ?_
                            refine ji_goto (tgt := 155) dX8_open_296 rfl ?_
                            exact ji_eqv (ih (k + 1) _ _ (by omega)) rfl rfl (by rw [show (k + 1).toNat = k.toNat + 1 by omega]; (try rw [show (15 + 5 * k + 1).toNat = 15 + 5 * k.toNat + 1 by omega]); (try rw [show (15 + 5 * k + 2).toNat = 15 + 5 * k.toNat + 2 by omega]); (try rw [show (15 + 5 * k + 4).toNat = 15 + 5 * k.toNat + 4 by omega]); (try rw [show (15 + 5 * k).toNat = 15 + 5 * k.toNat by omega]); exact congrArg (fun r9 => (n, rf_f f th r9 kp ed nt nl wi ht sy sz bf rs rr rq rp mm ln lo lf lt co ro pg pf hsh)) (rf_mk_e (fun j hj => by rw [va_up_ne _ _ (by omega), va_up_ne _ _ (by omega)]) (by rw [va_up_ne _ _ (by omega), va_up_ne _ _ (by omega), rf_mk_r (by omega)]; rfl) (by rw [va_up_self]; unfold op_1; (repeat' split) <;> omega) (by rw [va_up_ne _ _ (by omega), va_up_self]; unfold op_2; (repeat' split) <;> omega) (by rw [va_up_ne _ _ (by omega), va_up_ne _ _ (by omega), rf_mk_r (by omega)]) (by rw [va_up_ne _ _ (by omega), va_up_ne _ _ (by omega), rf_mk_r (by omega)]; rfl)))
                        · try (exfalso; omega)
                          all_goals
                            refine ji_iload_n dX8_open_286 rfl ?_
                            refine ji_goto (tgt := 291) dX8_open_287 rfl ?_
                            refine ji_iadd dX8_open_291 ?_
                            refine ji_iastoreE dX8_open_292 (rf_61) (by omega) (rf_s61) ?_
                            refine ji_iinc dX8_open_293 (by decide) rfl rfl ?_
                            refine ji_goto (tgt := 155) dX8_open_296 rfl ?_
                            exact ji_eqv (ih (k + 1) _ _ (by omega)) rfl rfl (by rw [show (k + 1).toNat = k.toNat + 1 by omega]; (try rw [show (15 + 5 * k + 1).toNat = 15 + 5 * k.toNat + 1 by omega]); (try rw [show (15 + 5 * k + 2).toNat = 15 + 5 * k.toNat + 2 by omega]); (try rw [show (15 + 5 * k + 4).toNat = 15 + 5 * k.toNat + 4 by omega]); (try rw [show (15 + 5 * k).toNat = 15 + 5 * k.toNat by omega]); exact congrArg (fun r9 => (n, rf_f f th r9 kp ed nt nl wi ht sy sz bf rs rr rq rp mm ln lo lf lt co ro pg pf hsh)) (rf_mk_e (fun j hj => by rw [va_up_ne _ _ (by omega), va_up_ne _ _ (by omega)]) (by rw [va_up_ne _ _ (by omega), va_up_ne _ _ (by omega), rf_mk_r (by omega)]; rfl) (by rw [va_up_self]; unfold op_1; (repeat' split) <;> omega) (by rw [va_up_ne _ _ (by omega), va_up_self]; unfold op_2; (repeat' split) <;> omega) (by rw [va_up_ne _ _ (by omega), va_up_ne _ _ (by omega), rf_mk_r (by omega)]) (by rw [va_up_ne _ _ (by omega), va_up_ne _ _ (by omega), rf_mk_r (by omega)]; rfl)))
                · try (exfalso; omega)
                  all_goals
                    refine ji_goto (tgt := 251) dX8_open_235 rfl ?_
                    refine ji_iload_n dX8_open_251 rfl ?_
                    refine ji_goto (tgt := 256) dX8_open_252 rfl ?_
                    refine ji_iadd dX8_open_256 ?_
                    refine ji_iastoreE dX8_open_257 (rf_61) (by omega) (rf_s61) ?_
                    refine ji_aload_n dX8_open_258 rfl trivial ?_
                    refine ji_get (ci := 8) (k := 1) rfl dX8_open_259 lX8_7 (by decide) (rf_60) rfl ?_
                    refine ji_iload dX8_open_262 rfl ?_
                    refine ji_iconst dX8_open_264 ?_
                    refine ji_iadd dX8_open_265 ?_
                    refine ji_dup2 dX8_open_266 rfl rfl ?_
                    refine ji_iaload dX8_open_267 (rf_61) (by omega) ?_
                    rw [s21]
                    refine ji_iload dX8_open_268 rfl ?_
                    refine ji_if_eq (tgt := 290) dX8_open_270 rfl (by omega) (fun c270 => ?_) (fun c270 => ?_)
                    · try (exfalso; omega)
                      all_goals
                        refine ji_iconst dX8_open_290 ?_
                        refine ji_iadd dX8_open_291 ?_
                        refine ji_iastoreE dX8_open_292 (rf_61) (by omega) (rf_s61) ?_
                        refine ji_iinc dX8_open_293 (by decide) rfl rfl ?_
                        refine ji_goto (tgt := 155) dX8_open_296 rfl ?_
                        exact ji_eqv (ih (k + 1) _ _ (by omega)) rfl rfl (by rw [show (k + 1).toNat = k.toNat + 1 by omega]; (try rw [show (15 + 5 * k + 1).toNat = 15 + 5 * k.toNat + 1 by omega]); (try rw [show (15 + 5 * k + 2).toNat = 15 + 5 * k.toNat + 2 by omega]); (try rw [show (15 + 5 * k + 4).toNat = 15 + 5 * k.toNat + 4 by omega]); (try rw [show (15 + 5 * k).toNat = 15 + 5 * k.toNat by omega]); exact congrArg (fun r9 => (n, rf_f f th r9 kp ed nt nl wi ht sy sz bf rs rr rq rp mm ln lo lf lt co ro pg pf hsh)) (rf_mk_e (fun j hj => by rw [va_up_ne _ _ (by omega), va_up_ne _ _ (by omega)]) (by rw [va_up_ne _ _ (by omega), va_up_ne _ _ (by omega), rf_mk_r (by omega)]; rfl) (by rw [va_up_self]; unfold op_1; (repeat' split) <;> omega) (by rw [va_up_ne _ _ (by omega), va_up_self]; unfold op_2; (repeat' split) <;> omega) (by rw [va_up_ne _ _ (by omega), va_up_ne _ _ (by omega), rf_mk_r (by omega)]) (by rw [va_up_ne _ _ (by omega), va_up_ne _ _ (by omega), rf_mk_r (by omega)]; rfl)))
                    · try (exfalso; omega)
                      all_goals
                        refine ji_aload_n dX8_open_273 rfl trivial ?_
                        refine ji_get (ci := 8) (k := 1) rfl dX8_open_274 lX8_7 (by decide) (rf_60) rfl ?_
                        refine ji_iload dX8_open_277 rfl ?_
                        refine ji_iconst dX8_open_279 ?_
                        refine ji_iadd dX8_open_280 ?_
                        refine ji_iaload dX8_open_281 (rf_61) (by omega) ?_
                        rw [s21]
                        refine ji_iload_n dX8_open_282 rfl ?_
                        refine ji_icmp_lt (tgt := 290) dX8_open_283 rfl (by omega) (by omega) (fun c283 => ?_) (fun c283 => ?_)
                        · try (exfalso; omega)
                          all_goals
                            refine ji_iconst dX8_open_290 ?_
                            refine ji_iadd dX8_open_291 ?_
                            refine ji_iastoreE dX8_open_292 (rf_61) (by omega) (rf_s61) ?_
                            refine ji_iinc dX8_open_293 (by decide) rfl rfl ?_
                            refine ji_goto (tgt := 155) dX8_open_296 rfl ?_
                            exact ji_eqv (ih (k + 1) _ _ (by omega)) rfl rfl (by rw [show (k + 1).toNat = k.toNat + 1 by omega]; (try rw [show (15 + 5 * k + 1).toNat = 15 + 5 * k.toNat + 1 by omega]); (try rw [show (15 + 5 * k + 2).toNat = 15 + 5 * k.toNat + 2 by omega]); (try rw [show (15 + 5 * k + 4).toNat = 15 + 5 * k.toNat + 4 by omega]); (try rw [show (15 + 5 * k).toNat = 15 + 5 * k.toNat by omega]); exact congrArg (fun r9 => (n, rf_f f th r9 kp ed nt nl wi ht sy sz bf rs rr rq rp mm ln lo lf lt co ro pg pf hsh)) (rf_mk_e (fun j hj => by rw [va_up_ne _ _ (by omega), va_up_ne _ _ (by omega)]) (by rw [va_up_ne _ _ (by omega), va_up_ne _ _ (by omega), rf_mk_r (by omega)]; rfl) (by rw [va_up_self]; unfold op_1; (repeat' split) <;> omega) (by rw [va_up_ne _ _ (by omega), va_up_self]; unfold op_2; (repeat' split) <;> omega) (by rw [va_up_ne _ _ (by omega), va_up_ne _ _ (by omega), rf_mk_r (by omega)]) (by rw [va_up_ne _ _ (by omega), va_up_ne _ _ (by omega), rf_mk_r (by omega)]; rfl)))
                        · try (exfalso; omega)
                          all_goals
                            refine ji_iload_n dX8_open_286 rfl ?_
                            refine ji_goto (tgt := 291) dX8_open_287 rfl ?_
                            refine ji_iadd dX8_open_291 ?_
                            refine ji_iastoreE dX8_open_292 (rf_61) (by omega) (rf_s61) ?_
                            refine ji_iinc dX8_open_293 (by decide) rfl rfl ?_
                            refine ji_goto (tgt := 155) dX8_open_296 rfl ?_
                            exact ji_eqv (ih (k + 1) _ _ (by omega)) rfl rfl (by rw [show (k + 1).toNat = k.toNat + 1 by omega]; (try rw [show (15 + 5 * k + 1).toNat = 15 + 5 * k.toNat + 1 by omega]); (try rw [show (15 + 5 * k + 2).toNat = 15 + 5 * k.toNat + 2 by omega]); (try rw [show (15 + 5 * k + 4).toNat = 15 + 5 * k.toNat + 4 by omega]); (try rw [show (15 + 5 * k).toNat = 15 + 5 * k.toNat by omega]); exact congrArg (fun r9 => (n, rf_f f th r9 kp ed nt nl wi ht sy sz bf rs rr rq rp mm ln lo lf lt co ro pg pf hsh)) (rf_mk_e (fun j hj => by rw [va_up_ne _ _ (by omega), va_up_ne _ _ (by omega)]) (by rw [va_up_ne _ _ (by omega), va_up_ne _ _ (by omega), rf_mk_r (by omega)]; rfl) (by rw [va_up_self]; unfold op_1; (repeat' split) <;> omega) (by rw [va_up_ne _ _ (by omega), va_up_self]; unfold op_2; (repeat' split) <;> omega) (by rw [va_up_ne _ _ (by omega), va_up_ne _ _ (by omega), rf_mk_r (by omega)]) (by rw [va_up_ne _ _ (by omega), va_up_ne _ _ (by omega), rf_mk_r (by omega)]; rfl)))
    · try (exfalso; omega)
      all_goals
        refine ji_iconst dX8_open_187 ?_
        refine ji_goto (tgt := 192) dX8_open_188 rfl ?_
        refine ji_istore dX8_open_192 (by decide) rfl ?_
        refine ji_aload_n dX8_open_194 rfl trivial ?_
        refine ji_get (ci := 8) (k := 1) rfl dX8_open_195 lX8_7 (by decide) (rf_60) rfl ?_
        refine ji_iload dX8_open_198 rfl ?_
        refine ji_iconst dX8_open_200 ?_
        refine ji_iadd dX8_open_201 ?_
        refine ji_dup2 dX8_open_202 rfl rfl ?_
        refine ji_iaload dX8_open_203 (rf_61) (by omega) ?_
        rw [r2]
        refine ji_iload dX8_open_204 rfl ?_
        refine ji_if_eq (tgt := 255) dX8_open_206 rfl (by omega) (fun c206 => ?_) (fun c206 => ?_)
        · try (exfalso; omega)
          all_goals
            refine ji_iconst dX8_open_255 ?_
            refine ji_iadd dX8_open_256 ?_
            refine ji_iastoreE dX8_open_257 (rf_61) (by omega) (rf_s61) ?_
            refine ji_aload_n dX8_open_258 rfl trivial ?_
            refine ji_get (ci := 8) (k := 1) rfl dX8_open_259 lX8_7 (by decide) (rf_60) rfl ?_
            refine ji_iload dX8_open_262 rfl ?_
            refine ji_iconst dX8_open_264 ?_
            refine ji_iadd dX8_open_265 ?_
            refine ji_dup2 dX8_open_266 rfl rfl ?_
            refine ji_iaload dX8_open_267 (rf_61) (by omega) ?_
            rw [s21]
            refine ji_iload dX8_open_268 rfl ?_
            refine ji_if_eq (tgt := 290) dX8_open_270 rfl (by omega) (fun c270 => ?_) (fun c270 => ?_)
            · try (exfalso; omega)
              all_goals
                refine ji_iconst dX8_open_290 ?_
                refine ji_iadd dX8_open_291 ?_
                refine ji_iastoreE dX8_open_292 (rf_61) (by omega) (rf_s61) ?_
                refine ji_iinc dX8_open_293 (by decide) rfl rfl ?_
                refine ji_goto (tgt := 155) dX8_open_296 rfl ?_
                exact ji_eqv (ih (k + 1) _ _ (by omega)) rfl rfl (by rw [show (k + 1).toNat = k.toNat + 1 by omega]; (try rw [show (15 + 5 * k + 1).toNat = 15 + 5 * k.toNat + 1 by omega]); (try rw [show (15 + 5 * k + 2).toNat = 15 + 5 * k.toNat + 2 by omega]); (try rw [show (15 + 5 * k + 4).toNat = 15 + 5 * k.toNat + 4 by omega]); (try rw [show (15 + 5 * k).toNat = 15 + 5 * k.toNat by omega]); exact congrArg (fun r9 => (n, rf_f f th r9 kp ed nt nl wi ht sy sz bf rs rr rq rp mm ln lo lf lt co ro pg pf hsh)) (rf_mk_e (fun j hj => by rw [va_up_ne _ _ (by omega), va_up_ne _ _ (by omega)]) (by rw [va_up_ne _ _ (by omega), va_up_ne _ _ (by omega), rf_mk_r (by omega)]; rfl) (by rw [va_up_self]; unfold op_1; (repeat' split) <;> omega) (by rw [va_up_ne _ _ (by omega), va_up_self]; unfold op_2; (repeat' split) <;> omega) (by rw [va_up_ne _ _ (by omega), va_up_ne _ _ (by omega), rf_mk_r (by omega)]) (by rw [va_up_ne _ _ (by omega), va_up_ne _ _ (by omega), rf_mk_r (by omega)]; rfl)))
            · try (exfalso; omega)
              all_goals
                refine ji_aload_n dX8_open_273 rfl trivial ?_
                refine ji_get (ci := 8) (k := 1) rfl dX8_open_274 lX8_7 (by decide) (rf_60) rfl ?_
                refine ji_iload dX8_open_277 rfl ?_
                refine ji_iconst dX8_open_279 ?_
                refine ji_iadd dX8_open_280 ?_
                refine ji_iaload dX8_open_281 (rf_61) (by omega) ?_
                rw [s21]
                refine ji_iload_n dX8_open_282 rfl ?_
                refine ji_icmp_lt (tgt := 290) dX8_open_283 rfl (by omega) (by omega) (fun c283 => ?_) (fun c283 => ?_)
                · try (exfalso; omega)
                  all_goals
                    refine ji_iconst dX8_open_290 ?_
                    refine ji_iadd dX8_open_291 ?_
                    refine ji_iastoreE dX8_open_292 (rf_61) (by omega) (rf_s61) ?_
                    refine ji_iinc dX8_open_293 (by decide) rfl rfl ?_
                    refine ji_goto (tgt := 155) dX8_open_296 rfl ?_
                    exact ji_eqv (ih (k + 1) _ _ (by omega)) rfl rfl (by rw [show (k + 1).toNat = k.toNat + 1 by omega]; (try rw [show (15 + 5 * k + 1).toNat = 15 + 5 * k.toNat + 1 by omega]); (try rw [show (15 + 5 * k + 2).toNat = 15 + 5 * k.toNat + 2 by omega]); (try rw [show (15 + 5 * k + 4).toNat = 15 + 5 * k.toNat + 4 by omega]); (try rw [show (15 + 5 * k).toNat = 15 + 5 * k.toNat by omega]); exact congrArg (fun r9 => (n, rf_f f th r9 kp ed nt nl wi ht sy sz bf rs rr rq rp mm ln lo lf lt co ro pg pf hsh)) (rf_mk_e (fun j hj => by rw [va_up_ne _ _ (by omega), va_up_ne _ _ (by omega)]) (by rw [va_up_ne _ _ (by omega), va_up_ne _ _ (by omega), rf_mk_r (by omega)]; rfl) (by rw [va_up_self]; unfold op_1; (repeat' split) <;> omega) (by rw [va_up_ne _ _ (by omega), va_up_self]; unfold op_2; (repeat' split) <;> omega) (by rw [va_up_ne _ _ (by omega), va_up_ne _ _ (by omega), rf_mk_r (by omega)]) (by rw [va_up_ne _ _ (by omega), va_up_ne _ _ (by omega), rf_mk_r (by omega)]; rfl)))
                · try (exfalso; omega)
                  all_goals
                    refine ji_iload_n dX8_open_286 rfl ?_
                    refine ji_goto (tgt := 291) dX8_open_287 rfl ?_
                    refine ji_iadd dX8_open_291 ?_
                    refine ji_iastoreE dX8_open_292 (rf_61) (by omega) (rf_s61) ?_
                    refine ji_iinc dX8_open_293 (by decide) rfl rfl ?_
                    refine ji_goto (tgt := 155) dX8_open_296 rfl ?_
                    exact ji_eqv (ih (k + 1) _ _ (by omega)) rfl rfl (by rw [show (k + 1).toNat = k.toNat + 1 by omega]; (try rw [show (15 + 5 * k + 1).toNat = 15 + 5 * k.toNat + 1 by omega]); (try rw [show (15 + 5 * k + 2).toNat = 15 + 5 * k.toNat + 2 by omega]); (try rw [show (15 + 5 * k + 4).toNat = 15 + 5 * k.toNat + 4 by omega]); (try rw [show (15 + 5 * k).toNat = 15 + 5 * k.toNat by omega]); exact congrArg (fun r9 => (n, rf_f f th r9 kp ed nt nl wi ht sy sz bf rs rr rq rp mm ln lo lf lt co ro pg pf hsh)) (rf_mk_e (fun j hj => by rw [va_up_ne _ _ (by omega), va_up_ne _ _ (by omega)]) (by rw [va_up_ne _ _ (by omega), va_up_ne _ _ (by omega), rf_mk_r (by omega)]; rfl) (by rw [va_up_self]; unfold op_1; (repeat' split) <;> omega) (by rw [va_up_ne _ _ (by omega), va_up_self]; unfold op_2; (repeat' split) <;> omega) (by rw [va_up_ne _ _ (by omega), va_up_ne _ _ (by omega), rf_mk_r (by omega)]) (by rw [va_up_ne _ _ (by omega), va_up_ne _ _ (by omega), rf_mk_r (by omega)]; rfl)))
        · try (exfalso; omega)
          all_goals
            refine ji_aload_n dX8_open_209 rfl trivial ?_
            refine ji_get (ci := 8) (k := 1) rfl dX8_open_210 lX8_7 (by decide) (rf_60) rfl ?_
            refine ji_iload dX8_open_213 rfl ?_
            refine ji_iconst dX8_open_215 ?_
            refine ji_iadd dX8_open_216 ?_
            refine ji_iaload dX8_open_217 (rf_61) (by omega) ?_
            rw [r4]
            refine ji_iconst dX8_open_218 ?_
            refine ji_icmp_ne (tgt := 238) dX8_open_219 rfl (by omega) (by omega) (fun c219 => ?_) (fun c219 => ?_)
            · try (exfalso; omega)
              all_goals
                refine ji_aload_n dX8_open_238 rfl trivial ?_
                refine ji_get (ci := 8) (k := 1) rfl dX8_open_239 lX8_7 (by decide) (rf_60) rfl ?_
                refine ji_iload dX8_open_242 rfl ?_
                refine ji_iconst dX8_open_244 ?_
                refine ji_iadd dX8_open_245 ?_
                refine ji_iaload dX8_open_246 (rf_61) (by omega) ?_
                rw [r2]
                refine ji_iload_n dX8_open_247 rfl ?_
                refine ji_icmp_le (tgt := 255) dX8_open_248 rfl (by omega) (by omega) (fun c248 => ?_) (fun c248 => ?_)
                · try (exfalso; omega)
                  all_goals
                    refine ji_iconst dX8_open_255 ?_
                    refine ji_iadd dX8_open_256 ?_
                    refine ji_iastoreE dX8_open_257 (rf_61) (by omega) (rf_s61) ?_
                    refine ji_aload_n dX8_open_258 rfl trivial ?_
                    refine ji_get (ci := 8) (k := 1) rfl dX8_open_259 lX8_7 (by decide) (rf_60) rfl ?_
                    refine ji_iload dX8_open_262 rfl ?_
                    refine ji_iconst dX8_open_264 ?_
                    refine ji_iadd dX8_open_265 ?_
                    refine ji_dup2 dX8_open_266 rfl rfl ?_
                    refine ji_iaload dX8_open_267 (rf_61) (by omega) ?_
                    rw [s21]
                    refine ji_iload dX8_open_268 rfl ?_
                    refine ji_if_eq (tgt := 290) dX8_open_270 rfl (by omega) (fun c270 => ?_) (fun c270 => ?_)
                    · try (exfalso; omega)
                      all_goals
                        refine ji_iconst dX8_open_290 ?_
                        refine ji_iadd dX8_open_291 ?_
                        refine ji_iastoreE dX8_open_292 (rf_61) (by omega) (rf_s61) ?_
                        refine ji_iinc dX8_open_293 (by decide) rfl rfl ?_
                        refine ji_goto (tgt := 155) dX8_open_296 rfl ?_
                        exact ji_eqv (ih (k + 1) _ _ (by omega)) rfl rfl (by rw [show (k + 1).toNat = k.toNat + 1 by omega]; (try rw [show (15 + 5 * k + 1).toNat = 15 + 5 * k.toNat + 1 by omega]); (try rw [show (15 + 5 * k + 2).toNat = 15 + 5 * k.toNat + 2 by omega]); (try rw [show (15 + 5 * k + 4).toNat = 15 + 5 * k.toNat + 4 by omega]); (try rw [show (15 + 5 * k).toNat = 15 + 5 * k.toNat by omega]); exact congrArg (fun r9 => (n, rf_f f th r9 kp ed nt nl wi ht sy sz bf rs rr rq rp mm ln lo lf lt co ro pg pf hsh)) (rf_mk_e (fun j hj => by rw [va_up_ne _ _ (by omega), va_up_ne _ _ (by omega)]) (by rw [va_up_ne _ _ (by omega), va_up_ne _ _ (by omega), rf_mk_r (by omega)]; rfl) (by rw [va_up_self]; unfold op_1; (repeat' split) <;> omega) (by rw [va_up_ne _ _ (by omega), va_up_self]; unfold op_2; (repeat' split) <;> omega) (by rw [va_up_ne _ _ (by omega), va_up_ne _ _ (by omega), rf_mk_r (by omega)]) (by rw [va_up_ne _ _ (by omega), va_up_ne _ _ (by omega), rf_mk_r (by omega)]; rfl)))
                    · try (exfalso; omega)
                      all_goals
                        refine ji_aload_n dX8_open_273 rfl trivial ?_
                        refine ji_get (ci := 8) (k := 1) rfl dX8_open_274 lX8_7 (by decide) (rf_60) rfl ?_
                        refine ji_iload dX8_open_277 rfl ?_
                        refine ji_iconst dX8_open_279 ?_
                        refine ji_iadd dX8_open_280 ?_
                        refine ji_iaload dX8_open_281 (rf_61) (by omega) ?_
                        rw [s21]
                        refine ji_iload_n dX8_open_282 rfl ?_
                        refine ji_icmp_lt (tgt := 290) dX8_open_283 rfl (by omega) (by omega) (fun c283 => ?_) (fun c283 => ?_)
                        · try (exfalso; omega)
                          all_goals
                            refine ji_iconst dX8_open_290 ?_
                            refine ji_iadd dX8_open_291 ?_
                            refine ji_iastoreE dX8_open_292 (rf_61) (by omega) (rf_s61) ?_
                            refine ji_iinc dX8_open_293 (by decide) rfl rfl ?_
                            refine ji_goto (tgt := 155) dX8_open_296 rfl ?_
                            exact ji_eqv (ih (k + 1) _ _ (by omega)) rfl rfl (by rw [show (k + 1).toNat = k.toNat + 1 by omega]; (try rw [show (15 + 5 * k + 1).toNat = 15 + 5 * k.toNat + 1 by omega]); (try rw [show (15 + 5 * k + 2).toNat = 15 + 5 * k.toNat + 2 by omega]); (try rw [show (15 + 5 * k + 4).toNat = 15 + 5 * k.toNat + 4 by omega]); (try rw [show (15 + 5 * k).toNat = 15 + 5 * k.toNat by omega]); exact congrArg (fun r9 => (n, rf_f f th r9 kp ed nt nl wi ht sy sz bf rs rr rq rp mm ln lo lf lt co ro pg pf hsh)) (rf_mk_e (fun j hj => by rw [va_up_ne _ _ (by omega), va_up_ne _ _ (by omega)]) (by rw [va_up_ne _ _ (by omega), va_up_ne _ _ (by omega), rf_mk_r (by omega)]; rfl) (by rw [va_up_self]; unfold op_1; (repeat' split) <;> omega) (by rw [va_up_ne _ _ (by omega), va_up_self]; unfold op_2; (repeat' split) <;> omega) (by rw [va_up_ne _ _ (by omega), va_up_ne _ _ (by omega), rf_mk_r (by omega)]) (by rw [va_up_ne _ _ (by omega), va_up_ne _ _ (by omega), rf_mk_r (by omega)]; rfl)))
                        · try (exfalso; omega)
                          all_goals
                            refine ji_iload_n dX8_open_286 rfl ?_
                            refine ji_goto (tgt := 291) dX8_open_287 rfl ?_
                            refine ji_iadd dX8_open_291 ?_
                            refine ji_iastoreE dX8_open_292 (rf_61) (by omega) (rf_s61) ?_
                            refine ji_iinc dX8_open_293 (by decide) rfl rfl ?_
                            refine ji_goto (tgt := 155) dX8_open_296 rfl ?_
                            exact ji_eqv (ih (k + 1) _ _ (by omega)) rfl rfl (by rw [show (k + 1).toNat = k.toNat + 1 by omega]; (try rw [show (15 + 5 * k + 1).toNat = 15 + 5 * k.toNat + 1 by omega]); (try rw [show (15 + 5 * k + 2).toNat = 15 + 5 * k.toNat + 2 by omega]); (try rw [show (15 + 5 * k + 4).toNat = 15 + 5 * k.toNat + 4 by omega]); (try rw [show (15 + 5 * k).toNat = 15 + 5 * k.toNat by omega]); exact congrArg (fun r9 => (n, rf_f f th r9 kp ed nt nl wi ht sy sz bf rs rr rq rp mm ln lo lf lt co ro pg pf hsh)) (rf_mk_e (fun j hj => by rw [va_up_ne _ _ (by omega), va_up_ne _ _ (by omega)]) (by rw [va_up_ne _ _ (by omega), va_up_ne _ _ (by omega), rf_mk_r (by omega)]; rfl) (by rw [va_up_self]; unfold op_1; (repeat' split) <;> omega) (by rw [va_up_ne _ _ (by omega), va_up_self]; unfold op_2; (repeat' split) <;> omega) (by rw [va_up_ne _ _ (by omega), va_up_ne _ _ (by omega), rf_mk_r (by omega)]) (by rw [va_up_ne _ _ (by omega), va_up_ne _ _ (by omega), rf_mk_r (by omega)]; rfl)))
                · try (exfalso; omega)
                  all_goals
                    refine ji_iload_n dX8_open_251 rfl ?_
                    refine ji_goto (tgt := 256) dX8_open_252 rfl ?_
                    refine ji_iadd dX8_open_256 ?_
                    refine ji_iastoreE dX8_open_257 (rf_61) (by omega) (rf_s61) ?_
                    refine ji_aload_n dX8_open_258 rfl trivial ?_
                    refine ji_get (ci := 8) (k := 1) rfl dX8_open_259 lX8_7 (by decide) (rf_60) rfl ?_
                    refine ji_iload dX8_open_262 rfl ?_
                    refine ji_iconst dX8_open_264 ?_
                    refine ji_iadd dX8_open_265 ?_
                    refine ji_dup2 dX8_open_266 rfl rfl ?_
                    refine ji_iaload dX8_open_267 (rf_61) (by omega) ?_
                    rw [s21]
                    refine ji_iload dX8_open_268 rfl ?_
                    refine ji_if_eq (tgt := 290) dX8_open_270 rfl (by omega) (fun c270 => ?_) (fun c270 => ?_)
                    · try (exfalso; omega)
                      all_goals
                        refine ji_iconst dX8_open_290 ?_
                        refine ji_iadd dX8_open_291 ?_
                        refine ji_iastoreE dX8_open_292 (rf_61) (by omega) (rf_s61) ?_
                        refine ji_iinc dX8_open_293 (by decide) rfl rfl ?_
                        refine ji_goto (tgt := 155) dX8_open_296 rfl ?_
                        exact ji_eqv (ih (k + 1) _ _ (by omega)) rfl rfl (by rw [show (k + 1).toNat = k.toNat + 1 by omega]; (try rw [show (15 + 5 * k + 1).toNat = 15 + 5 * k.toNat + 1 by omega]); (try rw [show (15 + 5 * k + 2).toNat = 15 + 5 * k.toNat + 2 by omega]); (try rw [show (15 + 5 * k + 4).toNat = 15 + 5 * k.toNat + 4 by omega]); (try rw [show (15 + 5 * k).toNat = 15 + 5 * k.toNat by omega]); exact congrArg (fun r9 => (n, rf_f f th r9 kp ed nt nl wi ht sy sz bf rs rr rq rp mm ln lo lf lt co ro pg pf hsh)) (rf_mk_e (fun j hj => by rw [va_up_ne _ _ (by omega), va_up_ne _ _ (by omega)]) (by rw [va_up_ne _ _ (by omega), va_up_ne _ _ (by omega), rf_mk_r (by omega)]; rfl) (by rw [va_up_self]; unfold op_1; (repeat' split) <;> omega) (by rw [va_up_ne _ _ (by omega), va_up_self]; unfold op_2; (repeat' split) <;> omega) (by rw [va_up_ne _ _ (by omega), va_up_ne _ _ (by omega), rf_mk_r (by omega)]) (by rw [va_up_ne _ _ (by omega), va_up_ne _ _ (by omega), rf_mk_r (by omega)]; rfl)))
                    · try (exfalso; omega)
                      all_goals
                        refine ji_aload_n dX8_open_273 rfl trivial ?_
                        refine ji_get (ci := 8) (k := 1) rfl dX8_open_274 lX8_7 (by decide) (rf_60) rfl ?_
                        refine ji_iload dX8_open_277 rfl ?_
                        refine ji_iconst dX8_open_279 ?_
                        refine ji_iadd dX8_open_280 ?_
                        refine ji_iaload dX8_open_281 (rf_61) (by omega) ?_
                        rw [s21]
                        refine ji_iload_n dX8_open_282 rfl ?_
                        refine ji_icmp_lt (tgt := 290) dX8_open_283 rfl (by omega) (by omega) (fun c283 => ?_) (fun c283 => ?_)
                        · try (exfalso; omega)
                          all_goals
                            refine ji_iconst dX8_open_290 ?_
                            refine ji_iadd dX8_open_291 ?_
                            refine ji_iastoreE dX8_open_292 (rf_61) (by omega) (rf_s61) ?_
                            refine ji_iinc dX8_open_293 (by decide) rfl rfl ?_
                            refine ji_goto (tgt := 155) dX8_open_296 rfl ?_
                            exact ji_eqv (ih (k + 1) _ _ (by omega)) rfl rfl (by rw [show (k + 1).toNat = k.toNat + 1 by omega]; (try rw [show (15 + 5 * k + 1).toNat = 15 + 5 * k.toNat + 1 by omega]); (try rw [show (15 + 5 * k + 2).toNat = 15 + 5 * k.toNat + 2 by omega]); (try rw [show (15 + 5 * k + 4).toNat = 15 + 5 * k.toNat + 4 by omega]); (try rw [show (15 + 5 * k).toNat = 15 + 5 * k.toNat by omega]); exact congrArg (fun r9 => (n, rf_f f th r9 kp ed nt nl wi ht sy sz bf rs rr rq rp mm ln lo lf lt co ro pg pf hsh)) (rf_mk_e (fun j hj => by rw [va_up_ne _ _ (by omega), va_up_ne _ _ (by omega)]) (by rw [va_up_ne _ _ (by omega), va_up_ne _ _ (by omega), rf_mk_r (by omega)]; rfl) (by rw [va_up_self]; unfold op_1; (repeat' split) <;> omega) (by rw [va_up_ne _ _ (by omega), va_up_self]; unfold op_2; (repeat' split) <;> omega) (by rw [va_up_ne _ _ (by omega), va_up_ne _ _ (by omega), rf_mk_r (by omega)]) (by rw [va_up_ne _ _ (by omega), va_up_ne _ _ (by omega), rf_mk_r (by omega)]; rfl)))
                        · try (exfalso; omega)
                          all_goals
                            refine ji_iload_n dX8_open_286 rfl ?_
                            refine ji_goto (tgt := 291) dX8_open_287 rfl ?_
                            refine ji_iadd dX8_open_291 ?_
                            refine ji_iastoreE dX8_open_292 (rf_61) (by omega) (rf_s61) ?_
                            refine ji_iinc dX8_open_293 (by decide) rfl rfl ?_
                            refine ji_goto (tgt := 155) dX8_open_296 rfl ?_
                            exact ji_eqv (ih (k + 1) _ _ (by omega)) rfl rfl (by rw [show (k + 1).toNat = k.toNat + 1 by omega]; (try rw [show (15 + 5 * k + 1).toNat = 15 + 5 * k.toNat + 1 by omega]); (try rw [show (15 + 5 * k + 2).toNat = 15 + 5 * k.toNat + 2 by omega]); (try rw [show (15 + 5 * k + 4).toNat = 15 + 5 * k.toNat + 4 by omega]); (try rw [show (15 + 5 * k).toNat = 15 + 5 * k.toNat by omega]); exact congrArg (fun r9 => (n, rf_f f th r9 kp ed nt nl wi ht sy sz bf rs rr rq rp mm ln lo lf lt co ro pg pf hsh)) (rf_mk_e (fun j hj => by rw [va_up_ne _ _ (by omega), va_up_ne _ _ (by omega)]) (by rw [va_up_ne _ _ (by omega), va_up_ne _ _ (by omega), rf_mk_r (by omega)]; rfl) (by rw [va_up_self]; unfold op_1; (repeat' split) <;> omega) (by rw [va_up_ne _ _ (by omega), va_up_self]; unfold op_2; (repeat' split) <;> omega) (by rw [va_up_ne _ _ (by omega), va_up_ne _ _ (by omega), rf_mk_r (by omega)]) (by rw [va_up_ne _ _ (by omega), va_up_ne _ _ (by omega), rf_mk_r (by omega)]; rfl)))
            · try (exfalso; omega)
              all_goals
                refine ji_aload_n dX8_open_222 rfl trivial ?_
                refine ji_get (ci := 8) (k := 1) rfl dX8_open_223 lX8_7 (by decide) (rf_60) rfl ?_
                refine ji_iload dX8_open_226 rfl ?_
                refine ji_iconst dX8_open_228 ?_
                refine ji_iadd dX8_open_229 ?_
                refine ji_iaload dX8_open_230 (rf_61) (by omega) ?_
                rw [r2]
                refine ji_iload_n dX8_open_231 rfl ?_
                refine ji_icmp_lt (tgt := 255) dX8_open_232 rfl (by omega) (by omega) (fun c232 => ?_) (fun c232 => ?_)
                · try (exfalso; omega)
                  all_goals
                    refine ji_iconst dX8_open_255 ?_
                    refine ji_iadd dX8_open_256 ?_
                    refine ji_iastoreE dX8_open_257 (rf_61) (by omega) (rf_s61) ?_
                    refine ji_aload_n dX8_open_258 rfl trivial ?_
                    refine ji_get (ci := 8) (k := 1) rfl dX8_open_259 lX8_7 (by decide) (rf_60) rfl ?_
                    refine ji_iload dX8_open_262 rfl ?_
                    refine ji_iconst dX8_open_264 ?_
                    refine ji_iadd dX8_open_265 ?_
                    refine ji_dup2 dX8_open_266 rfl rfl ?_
                    refine ji_iaload dX8_open_267 (rf_61) (by omega) ?_
                    rw [s21]
                    refine ji_iload dX8_open_268 rfl ?_
                    refine ji_if_eq (tgt := 290) dX8_open_270 rfl (by omega) (fun c270 => ?_) (fun c270 => ?_)
                    · try (exfalso; omega)
                      all_goals
                        refine ji_iconst dX8_open_290 ?_
                        refine ji_iadd dX8_open_291 ?_
                        refine ji_iastoreE dX8_open_292 (rf_61) (by omega) (rf_s61) ?_
                        refine ji_iinc dX8_open_293 (by decide) rfl rfl ?_
                        refine ji_goto (tgt := 155) dX8_open_296 rfl ?_
                        exact ji_eqv (ih (k + 1) _ _ (by omega)) rfl rfl (by rw [show (k + 1).toNat = k.toNat + 1 by omega]; (try rw [show (15 + 5 * k + 1).toNat = 15 + 5 * k.toNat + 1 by omega]); (try rw [show (15 + 5 * k + 2).toNat = 15 + 5 * k.toNat + 2 by omega]); (try rw [show (15 + 5 * k + 4).toNat = 15 + 5 * k.toNat + 4 by omega]); (try rw [show (15 + 5 * k).toNat = 15 + 5 * k.toNat by omega]); exact congrArg (fun r9 => (n, rf_f f th r9 kp ed nt nl wi ht sy sz bf rs rr rq rp mm ln lo lf lt co ro pg pf hsh)) (rf_mk_e (fun j hj => by rw [va_up_ne _ _ (by omega), va_up_ne _ _ (by omega)]) (by rw [va_up_ne _ _ (by omega), va_up_ne _ _ (by omega), rf_mk_r (by omega)]; rfl) (by rw [va_up_self]; unfold op_1; (repeat' split) <;> omega) (by rw [va_up_ne _ _ (by omega), va_up_self]; unfold op_2; (repeat' split) <;> omega) (by rw [va_up_ne _ _ (by omega), va_up_ne _ _ (by omega), rf_mk_r (by omega)]) (by rw [va_up_ne _ _ (by omega), va_up_ne _ _ (by omega), rf_mk_r (by omega)]; rfl)))
                    · try (exfalso; omega)
                      all_goals
                        refine ji_aload_n dX8_open_273 rfl trivial ?_
                        refine ji_get (ci := 8) (k := 1) rfl dX8_open_274 lX8_7 (by decide) (rf_60) rfl ?_
                        refine ji_iload dX8_open_277 rfl ?_
                        refine ji_iconst dX8_open_279 ?_
                        refine ji_iadd dX8_open_280 ?_
                        refine ji_iaload dX8_open_281 (rf_61) (by omega) ?_
                        rw [s21]
                        refine ji_iload_n dX8_open_282 rfl ?_
                        refine ji_icmp_lt (tgt := 290) dX8_open_283 rfl (by omega) (by omega) (fun c283 => ?_) (fun c283 => ?_)
                        · try (exfalso; omega)
                          all_goals
                            refine ji_iconst dX8_open_290 ?_
                            refine ji_iadd dX8_open_291 ?_
                            refine ji_iastoreE dX8_open_292 (rf_61) (by omega) (rf_s61) ?_
                            refine ji_iinc dX8_open_293 (by decide) rfl rfl ?_
                            refine ji_goto (tgt := 155) dX8_open_296 rfl ?_
                            exact ji_eqv (ih (k + 1) _ _ (by omega)) rfl rfl (by rw [show (k + 1).toNat = k.toNat + 1 by omega]; (try rw [show (15 + 5 * k + 1).toNat = 15 + 5 * k.toNat + 1 by omega]); (try rw [show (15 + 5 * k + 2).toNat = 15 + 5 * k.toNat + 2 by omega]); (try rw [show (15 + 5 * k + 4).toNat = 15 + 5 * k.toNat + 4 by omega]); (try rw [show (15 + 5 * k).toNat = 15 + 5 * k.toNat by omega]); exact congrArg (fun r9 => (n, rf_f f th r9 kp ed nt nl wi ht sy sz bf rs rr rq rp mm ln lo lf lt co ro pg pf hsh)) (rf_mk_e (fun j hj => by rw [va_up_ne _ _ (by omega), va_up_ne _ _ (by omega)]) (by rw [va_up_ne _ _ (by omega), va_up_ne _ _ (by omega), rf_mk_r (by omega)]; rfl) (by rw [va_up_self]; unfold op_1; (repeat' split) <;> omega) (by rw [va_up_ne _ _ (by omega), va_up_self]; unfold op_2; (repeat' split) <;> omega) (by rw [va_up_ne _ _ (by omega), va_up_ne _ _ (by omega), rf_mk_r (by omega)]) (by rw [va_up_ne _ _ (by omega), va_up_ne _ _ (by omega), rf_mk_r (by omega)]; rfl)))
                        · try (exfalso; omega)
                          all_goals
                            refine ji_iload_n dX8_open_286 rfl ?_
                            refine ji_goto (tgt := 291) dX8_open_287 rfl ?_
                            refine ji_iadd dX8_open_291 ?_
                            refine ji_iastoreE dX8_open_292 (rf_61) (by omega) (rf_s61) ?_
                            refine ji_iinc dX8_open_293 (by decide) rfl rfl ?_
                            refine ji_goto (tgt := 155) dX8_open_296 rfl ?_
                            exact ji_eqv (ih (k + 1) _ _ (by omega)) rfl rfl (by rw [show (k + 1).toNat = k.toNat + 1 by omega]; (try rw [show (15 + 5 * k + 1).toNat = 15 + 5 * k.toNat + 1 by omega]); (try rw [show (15 + 5 * k + 2).toNat = 15 + 5 * k.toNat + 2 by omega]); (try rw [show (15 + 5 * k + 4).toNat = 15 + 5 * k.toNat + 4 by omega]); (try rw [show (15 + 5 * k).toNat = 15 + 5 * k.toNat by omega]); exact congrArg (fun r9 => (n, rf_f f th r9 kp ed nt nl wi ht sy sz bf rs rr rq rp mm ln lo lf lt co ro pg pf hsh)) (rf_mk_e (fun j hj => by rw [va_up_ne _ _ (by omega), va_up_ne _ _ (by omega)]) (by rw [va_up_ne _ _ (by omega), va_up_ne _ _ (by omega), rf_mk_r (by omega)]; rfl) (by rw [va_up_self]; unfold op_1; (repeat' split) <;> omega) (by rw [va_up_ne _ _ (by omega), va_up_self]; unfold op_2; (repeat' split) <;> omega) (by rw [va_up_ne _ _ (by omega), va_up_ne _ _ (by omega), rf_mk_r (by omega)]) (by rw [va_up_ne _ _ (by omega), va_up_ne _ _ (by omega), rf_mk_r (by omega)]; rfl)))
                · try (exfalso; omega)
                  all_goals
                    refine ji_goto (tgt := 251) dX8_open_235 rfl ?_
                    refine ji_iload_n dX8_open_251 rfl ?_
                    refine ji_goto (tgt := 256) dX8_open_252 rfl ?_
                    refine ji_iadd dX8_open_256 ?_
                    refine ji_iastoreE dX8_open_257 (rf_61) (by omega) (rf_s61) ?_
                    refine ji_aload_n dX8_open_258 rfl trivial ?_
                    refine ji_get (ci := 8) (k := 1) rfl dX8_open_259 lX8_7 (by decide) (rf_60) rfl ?_
                    refine ji_iload dX8_open_262 rfl ?_
                    refine ji_iconst dX8_open_264 ?_
                    refine ji_iadd dX8_open_265 ?_
                    refine ji_dup2 dX8_open_266 rfl rfl ?_
                    refine ji_iaload dX8_open_267 (rf_61) (by omega) ?_
                    rw [s21]
                    refine ji_iload dX8_open_268 rfl ?_
                    refine ji_if_eq (tgt := 290) dX8_open_270 rfl (by omega) (fun c270 => ?_) (fun c270 => ?_)
                    · try (exfalso; omega)
                      all_goals
                        refine ji_iconst dX8_open_290 ?_
                        refine ji_iadd dX8_open_291 ?_
                        refine ji_iastoreE dX8_open_292 (rf_61) (by omega) (rf_s61) ?_
                        refine ji_iinc dX8_open_293 (by decide) rfl rfl ?_
                        refine ji_goto (tgt := 155) dX8_open_296 rfl ?_
                        exact ji_eqv (ih (k + 1) _ _ (by omega)) rfl rfl (by rw [show (k + 1).toNat = k.toNat + 1 by omega]; (try rw [show (15 + 5 * k + 1).toNat = 15 + 5 * k.toNat + 1 by omega]); (try rw [show (15 + 5 * k + 2).toNat = 15 + 5 * k.toNat + 2 by omega]); (try rw [show (15 + 5 * k + 4).toNat = 15 + 5 * k.toNat + 4 by omega]); (try rw [show (15 + 5 * k).toNat = 15 + 5 * k.toNat by omega]); exact congrArg (fun r9 => (n, rf_f f th r9 kp ed nt nl wi ht sy sz bf rs rr rq rp mm ln lo lf lt co ro pg pf hsh)) (rf_mk_e (fun j hj => by rw [va_up_ne _ _ (by omega), va_up_ne _ _ (by omega)]) (by rw [va_up_ne _ _ (by omega), va_up_ne _ _ (by omega), rf_mk_r (by omega)]; rfl) (by rw [va_up_self]; unfold op_1; (repeat' split) <;> omega) (by rw [va_up_ne _ _ (by omega), va_up_self]; unfold op_2; (repeat' split) <;> omega) (by rw [va_up_ne _ _ (by omega), va_up_ne _ _ (by omega), rf_mk_r (by omega)]) (by rw [va_up_ne _ _ (by omega), va_up_ne _ _ (by omega), rf_mk_r (by omega)]; rfl)))
                    · try (exfalso; omega)
                      all_goals
                        refine ji_aload_n dX8_open_273 rfl trivial ?_
                        refine ji_get (ci := 8) (k := 1) rfl dX8_open_274 lX8_7 (by decide) (rf_60) rfl ?_
                        refine ji_iload dX8_open_277 rfl ?_
                        refine ji_iconst dX8_open_279 ?_
                        refine ji_iadd dX8_open_280 ?_
                        refine ji_iaload dX8_open_281 (rf_61) (by omega) ?_
                        rw [s21]
                        refine ji_iload_n dX8_open_282 rfl ?_
                        refine ji_icmp_lt (tgt := 290) dX8_open_283 rfl (by omega) (by omega) (fun c283 => ?_) (fun c283 => ?_)
                        · try (exfalso; omega)
                          all_goals
                            refine ji_iconst dX8_open_290 ?_
                            refine ji_iadd dX8_open_291 ?_
                            refine ji_iastoreE dX8_open_292 (rf_61) (by omega) (rf_s61) ?_
                            refine ji_iinc dX8_open_293 (by decide) rfl rfl ?_
                            refine ji_goto (tgt := 155) dX8_open_296 rfl ?_
                            exact ji_eqv (ih (k + 1) _ _ (by omega)) rfl rfl (by rw [show (k + 1).toNat = k.toNat + 1 by omega]; (try rw [show (15 + 5 * k + 1).toNat = 15 + 5 * k.toNat + 1 by omega]); (try rw [show (15 + 5 * k + 2).toNat = 15 + 5 * k.toNat + 2 by omega]); (try rw [show (15 + 5 * k + 4).toNat = 15 + 5 * k.toNat + 4 by omega]); (try rw [show (15 + 5 * k).toNat = 15 + 5 * k.toNat by omega]); exact congrArg (fun r9 => (n, rf_f f th r9 kp ed nt nl wi ht sy sz bf rs rr rq rp mm ln lo lf lt co ro pg pf hsh)) (rf_mk_e (fun j hj => by rw [va_up_ne _ _ (by omega), va_up_ne _ _ (by omega)]) (by rw [va_up_ne _ _ (by omega), va_up_ne _ _ (by omega), rf_mk_r (by omega)]; rfl) (by rw [va_up_self]; unfold op_1; (repeat' split) <;> omega) (by rw [va_up_ne _ _ (by omega), va_up_self]; unfold op_2; (repeat' split) <;> omega) (by rw [va_up_ne _ _ (by omega), va_up_ne _ _ (by omega), rf_mk_r (by omega)]) (by rw [va_up_ne _ _ (by omega), va_up_ne _ _ (by omega), rf_mk_r (by omega)]; rfl)))
                        · try (exfalso; omega)
                          all_goals
                            refine ji_iload_n dX8_open_286 rfl ?_
                            refine ji_goto (tgt := 291) dX8_open_287 rfl ?_
                            refine ji_iadd dX8_open_291 ?_
                            refine ji_iastoreE dX8_open_292 (rf_61) (by omega) (rf_s61) ?_
                            refine ji_iinc dX8_open_293 (by decide) rfl rfl ?_
                            refine ji_goto (tgt := 155) dX8_open_296 rfl ?_
                            exact ji_eqv (ih (k + 1) _ _ (by omega)) rfl rfl (by rw [show (k + 1).toNat = k.toNat + 1 by omega]; (try rw [show (15 + 5 * k + 1).toNat = 15 + 5 * k.toNat + 1 by omega]); (try rw [show (15 + 5 * k + 2).toNat = 15 + 5 * k.toNat + 2 by omega]); (try rw [show (15 + 5 * k + 4).toNat = 15 + 5 * k.toNat + 4 by omega]); (try rw [show (15 + 5 * k).toNat = 15 + 5 * k.toNat by omega]); exact congrArg (fun r9 => (n, rf_f f th r9 kp ed nt nl wi ht sy sz bf rs rr rq rp mm ln lo lf lt co ro pg pf hsh)) (rf_mk_e (fun j hj => by rw [va_up_ne _ _ (by omega), va_up_ne _ _ (by omega)]) (by rw [va_up_ne _ _ (by omega), va_up_ne _ _ (by omega), rf_mk_r (by omega)]; rfl) (by rw [va_up_self]; unfold op_1; (repeat' split) <;> omega) (by rw [va_up_ne _ _ (by omega), va_up_self]; unfold op_2; (repeat' split) <;> omega) (by rw [va_up_ne _ _ (by omega), va_up_ne _ _ (by omega), rf_mk_r (by omega)]) (by rw [va_up_ne _ _ (by omega), va_up_ne _ _ (by omega), rf_mk_r (by omega)]; rfl)))

set_option maxHeartbeats 4000000 in
set_option maxRecDepth 100000 in
theorem r_behind {h : ji_H} {v x y : Int} (b_v : -2147483648 ≤ v ∧ v < 2147483648) (b_x : -2147483648 ≤ x ∧ x < 2147483648) (b_y : -2147483648 ≤ y ∧ y < 2147483648) : JR G d mX8_behind [.int (jI v), .int (jI x), .int (jI y)] h 0 0 (some (.int (jI (rf_bh v x y)))) h := by
  refine ji_ent (by decide) rfl (Nat.le_of_ble_eq_true rfl) rfl ?_
  refine ji_iload_n dX8_behind_0 rfl ?_
  refine ji_iload_n dX8_behind_1 rfl ?_
  refine ji_icmp_ge (tgt := 9) dX8_behind_2 rfl (by omega) (by omega) (fun c2 => ?_) (fun c2 => ?_)
  · try (exfalso; omega)
    all_goals
      refine ji_iload_n dX8_behind_9 rfl ?_
      refine ji_iload_n dX8_behind_10 rfl ?_
      refine ji_icmp_ge (tgt := 18) dX8_behind_11 rfl (by omega) (by omega) (fun c11 => ?_) (fun c11 => ?_)
      · try (exfalso; omega)
        all_goals
          refine ji_iload_n dX8_behind_18 rfl ?_
          refine ji_iload_n dX8_behind_19 rfl ?_
          refine ji_iload_n dX8_behind_20 rfl ?_
          refine ji_isub dX8_behind_21 ?_
          refine ji_isub dX8_behind_22 ?_
          exact ji_ireturn dX8_behind_23 rfl (rfl) ⟨jr_i (by unfold rf_bh; (repeat' split) <;> first | rfl | (exfalso; omega)), rfl⟩
      · try (exfalso; omega)
        all_goals
          refine ji_iload_n dX8_behind_14 rfl ?_
          refine ji_goto (tgt := 23) dX8_behind_15 rfl ?_
          exact ji_ireturn dX8_behind_23 rfl (rfl) ⟨jr_i (by unfold rf_bh; (repeat' split) <;> first | rfl | (exfalso; omega)), rfl⟩
  · try (exfalso; omega)
    all_goals
      refine ji_iload_n dX8_behind_5 rfl ?_
      refine ji_goto (tgt := 23) dX8_behind_6 rfl ?_
      exact ji_ireturn dX8_behind_23 rfl (rfl) ⟨jr_i (by unfold rf_bh; (repeat' split) <;> first | rfl | (exfalso; omega)), rfl⟩

theorem rf_bh_b {v x y : Int} (hv : -20000 ≤ v ∧ v ≤ 20000) (hx : 0 ≤ x ∧ x ≤ 1000) (hy : 0 ≤ y ∧ y ≤ 1000) : -30000 ≤ rf_bh v x y ∧ rf_bh v x y ≤ 30000 := by unfold rf_bh; (repeat' split) <;> omega
set_option maxHeartbeats 4000000 in
set_option maxRecDepth 100000 in
theorem r_close_p {bc bs : Nat} {Q : ji_R → ji_H → Prop} {q x y L : Int} (hq : 0 ≤ q ∧ q < 10) (hx : 0 ≤ x ∧ x ≤ y ∧ y ≤ 400) (hL : z (85 + q).toNat = L) (hB : ∀ j, -20000 ≤ z j ∧ z j ≤ 20000) (h3 : 0 ≤ z 3 ∧ z 3 ≤ 5) (kk : ∀ k o5 o6, JW G (d + 1) mX8_close 179 [some (.ref 60), some (.int (jI q)), some (.int (jI x)), some (.int (jI y)), some (.int (jI k)), o5, o6] [] (n, rf_f f th (rf_pl id_a (cs_b q x y L) z (z 3 + 1).toNat) kp ed nt nl wi ht sy sz bf rs rr rq rp mm ln lo lf lt co ro pg pf hsh) bc bs Q) : ∀ (u : Nat) (k : Int) (o5 o6 : Option Value), 0 ≤ k ∧ k + u = z 3 + 1 →
    JW G (d + 1) mX8_close 77 [some (.ref 60), some (.int (jI q)), some (.int (jI x)), some (.int (jI y)), some (.int (jI k)), o5, o6] [] (n, rf_f f th (rf_pl id_a (cs_b q x y L) z k.toNat) kp ed nt nl wi ht sy sz bf rs rr rq rp mm ln lo lf lt co ro pg pf hsh) bc bs Q := by
  intro u
  induction u with
  | zero =>
    intro k o5 o6 hk
    have e3 : (rf_pl id_a (cs_b q x y L) z k.toNat) 3 = z 3 := rf_pl_h (by omega) (by omega)
    refine ji_iload dX8_close_77 rfl ?_
    refine ji_aload_n dX8_close_79 rfl trivial ?_
    refine ji_get (ci := 8) (k := 1) rfl dX8_close_80 lX8_7 (by decide) (rf_60) rfl ?_
    refine ji_iconst dX8_close_83 ?_
    refine ji_ialoadK (k := 3) dX8_close_84 (rf_61) rfl (by decide) ?_
    rw [e3]
    refine ji_icmp_gt (tgt := 179) dX8_close_85 rfl (by omega) (by omega) (fun c85 => ?_) (fun c85 => absurd c85 (by omega))
    exact ji_eqv (kk _ _ _) rfl rfl (by rw [show k.toNat = (z 3 + 1).toNat by omega])
  | succ u ih =>
    intro k o5 o6 hk
    have f1 : k = 0 → (rf_pl id_a (cs_b q x y L) z k.toNat) ((1 : Int) + 1).toNat = z 2 := fun h => by subst h; exact (rf_pl_r (i := 0) (q := 1) (by omega)).2
    have f2 : k = 0 → (rf_pl id_a (cs_b q x y L) z k.toNat) (1 : Int).toNat = z 1 := fun h => by subst h; exact (rf_pl_r (i := 0) (q := 1) (by omega)).1
    have g1 : ¬ k = 0 → (rf_pl id_a (cs_b q x y L) z k.toNat) (4 + 2 * k - 2 + 1).toNat = z (2 * k.toNat + 3) := fun h => by rw [show (4 + 2 * k - 2 + 1).toNat = 2 * k.toNat + 2 + 1 by omega]; exact (rf_pl_r (i := k.toNat) (q := 2 * k.toNat + 2) (by omega)).2
    have g2 : ¬ k = 0 → (rf_pl id_a (cs_b q x y L) z k.toNat) (4 + 2 * k - 2).toNat = z (2 * k.toNat + 2) := fun h => by rw [show (4 + 2 * k - 2).toNat = 2 * k.toNat + 2 by omega]; exact (rf_pl_r (i := k.toNat) (q := 2 * k.toNat + 2) (by omega)).1
    have e3 : (rf_pl id_a (cs_b q x y L) z k.toNat) 3 = z 3 := rf_pl_h (by omega) (by omega)
    have eL : (rf_pl id_a (cs_b q x y L) z k.toNat) (85 + q).toNat = L := (rf_pl_h (by omega) (by omega)).trans hL
    have bL := hB (85 + q).toNat
    have b1 := hB 1
    have b2 := hB 2
    have b3 := hB (2 * k.toNat + 2)
    have b4 := hB (2 * k.toNat + 3)
    have w2 := rf_bh_b (x := x) (y := y) b2 (by omega) (by omega)
    have w4 := rf_bh_b (x := x) (y := y) b4 (by omega) (by omega)
    refine ji_iload dX8_close_77 rfl ?_
    refine ji_aload_n dX8_close_79 rfl trivial ?_
    refine ji_get (ci := 8) (k := 1) rfl dX8_close_80 lX8_7 (by decide) (rf_60) rfl ?_
    refine ji_iconst dX8_close_83 ?_
    refine ji_ialoadK (k := 3) dX8_close_84 (rf_61) rfl (by decide) ?_
    rw [e3]
    refine ji_icmp_gt (tgt := 179) dX8_close_85 rfl (by omega) (by omega) (fun c85 => absurd c85 (by omega)) (fun c85 => ?_)
    refine ji_iload dX8_close_88 rfl ?_
    refine ji_if_ne (tgt := 97) dX8_close_90 rfl (by omega) (fun c90 => ?_) (fun c90 => ?_)
    · try (exfalso; omega)
      all_goals
        refine ji_iconst dX8_close_97 ?_
        refine ji_iconst dX8_close_98 ?_
        refine ji_iload dX8_close_99 rfl ?_
        refine ji_imul dX8_close_101 ?_
        refine ji_iadd dX8_close_102 ?_
        refine ji_iconst dX8_close_103 ?_
        refine ji_isub dX8_close_104 ?_
        refine ji_istore dX8_close_105 (by decide) rfl ?_
        refine ji_aload_n dX8_close_107 rfl trivial ?_
        refine ji_get (ci := 8) (k := 1) rfl dX8_close_108 lX8_7 (by decide) (rf_60) rfl ?_
        refine ji_iload dX8_close_111 rfl ?_
        refine ji_iaload dX8_close_113 (rf_61) (by omega) ?_
        first | rw [f2 (by omega)] | rw [g2 (by omega)]
        refine ji_iload_n dX8_close_114 rfl ?_
        refine ji_icmp_ne (tgt := 173) dX8_close_115 rfl (by omega) (by omega) (fun c115 => ?_) (fun c115 => ?_)
        · try (exfalso; omega)
          all_goals
            refine ji_iinc dX8_close_173 (by decide) rfl rfl ?_
            refine ji_goto (tgt := 77) dX8_close_176 rfl ?_
            first | exact ji_eqv (ih (k + 1) _ _ (by omega)) rfl rfl (by rw [show (k + 1).toNat = k.toNat + 1 by omega]; (try rw [show ((1 : Int) + 1).toNat = 2 from rfl]); rw [rf_pl_so (q := 1) (q1 := 2) (by omega) (by unfold cs_b; (repeat' split) <;> omega) (rfl)]) | exact ji_eqv (ih (k + 1) _ _ (by omega)) rfl rfl (by rw [show (k + 1).toNat = k.toNat + 1 by omega]; (try rw [show (4 + 2 * k - 2 + 1).toNat = 2 * k.toNat + 3 by omega]); rw [rf_pl_so (q := 2 * k.toNat + 2) (q1 := 2 * k.toNat + 3) (by omega) (by unfold cs_b; (repeat' split) <;> omega) (rfl)]) | exact ji_eqv (ih (k + 1) _ _ (by omega)) rfl rfl (by rw [show (k + 1).toNat = k.toNat + 1 by omega]; (try rw [show ((1 : Int) + 1).toNat = 2 from rfl]); rw [rf_pl_sn (q := 1) (q1 := 2) (by omega) (rfl) (by unfold cs_b; (repeat' split) <;> omega)]) | exact ji_eqv (ih (k + 1) _ _ (by omega)) rfl rfl (by rw [show (k + 1).toNat = k.toNat + 1 by omega]; (try rw [show (4 + 2 * k - 2 + 1).toNat = 2 * k.toNat + 3 by omega]); rw [rf_pl_sn (q := 2 * k.toNat + 2) (q1 := 2 * k.toNat + 3) (by omega) (rfl) (by unfold cs_b; (repeat' split) <;> omega)])
        · try (exfalso; omega)
          all_goals
            refine ji_aload_n dX8_close_118 rfl trivial ?_
            refine ji_get (ci := 8) (k := 1) rfl dX8_close_119 lX8_7 (by decide) (rf_60) rfl ?_
            refine ji_iload dX8_close_122 rfl ?_
            refine ji_iconst dX8_close_124 ?_
            refine ji_iadd dX8_close_125 ?_
            refine ji_iaload dX8_close_126 (rf_61) (by omega) ?_
            first | rw [f1 (by omega)] | rw [g1 (by omega)]
            refine ji_iload_n dX8_close_127 rfl ?_
            refine ji_iload_n dX8_close_128 rfl ?_
            refine ji_cS dX8_close_129 (r_behind (by omega) (by omega) (by omega)) rfl wX8_behind sX8_behind lX8_306 rfl (Nat.le_of_ble_eq_true rfl) rfl ?_
            refine ji_istore dX8_close_132 (by decide) rfl ?_
            refine ji_aload_n dX8_close_134 rfl trivial ?_
            refine ji_get (ci := 8) (k := 1) rfl dX8_close_135 lX8_7 (by decide) (rf_60) rfl ?_
            refine ji_iload dX8_close_138 rfl ?_
            refine ji_iconst dX8_close_140 ?_
            refine ji_iadd dX8_close_141 ?_
            refine ji_iload dX8_close_142 rfl ?_
            refine ji_aload_n dX8_close_144 rfl trivial ?_
            refine ji_get (ci := 8) (k := 1) rfl dX8_close_145 lX8_7 (by decide) (rf_60) rfl ?_
            refine ji_bipush dX8_close_148 rfl ?_
            refine ji_iload_n dX8_close_150 rfl ?_
            refine ji_iadd dX8_close_151 ?_
            refine ji_iaload dX8_close_152 (rf_61) (by omega) ?_
            rw [eL]
            refine ji_icmp_ge (tgt := 161) dX8_close_153 rfl (by omega) (by omega) (fun c153 => ?_) (fun c153 => ?_)
            · try (exfalso; omega)
              all_goals
                refine ji_aload_n dX8_close_161 rfl trivial ?_
                refine ji_get (ci := 8) (k := 1) rfl dX8_close_162 lX8_7 (by decide) (rf_60) rfl ?_
                refine ji_bipush dX8_close_165 rfl ?_
                refine ji_iload_n dX8_close_167 rfl ?_
                refine ji_iadd dX8_close_168 ?_
                refine ji_iaload dX8_close_169 (rf_61) (by omega) ?_
                rw [eL]
                refine ji_iconst dX8_close_170 ?_
                refine ji_isub dX8_close_171 ?_
                refine ji_iastoreE dX8_close_172 (rf_61) (by omega) (rf_s61) ?_
                refine ji_iinc dX8_close_173 (by decide) rfl rfl ?_
                refine ji_goto (tgt := 77) dX8_close_176 rfl ?_
                first | exact ji_eqv (ih (k + 1) _ _ (by omega)) rfl rfl (by rw [show (k + 1).toNat = k.toNat + 1 by omega]; (try rw [show ((1 : Int) + 1).toNat = 2 from rfl]); rw [rf_pl_so (q := 1) (q1 := 2) (by omega) (by unfold cs_b; (repeat' split) <;> omega) (rfl)]) | exact ji_eqv (ih (k + 1) _ _ (by omega)) rfl rfl (by rw [show (k + 1).toNat = k.toNat + 1 by omega]; (try rw [show (4 + 2 * k - 2 + 1).toNat = 2 * k.toNat + 3 by omega]); rw [rf_pl_so (q := 2 * k.toNat + 2) (q1 := 2 * k.toNat + 3) (by omega) (by unfold cs_b; (repeat' split) <;> omega) (rfl)]) | exact ji_eqv (ih (k + 1) _ _ (by omega)) rfl rfl (by rw [show (k + 1).toNat = k.toNat + 1 by omega]; (try rw [show ((1 : Int) + 1).toNat = 2 from rfl]); rw [rf_pl_sn (q := 1) (q1 := 2) (by omega) (rfl) (by unfold cs_b; (repeat' split) <;> omega)]) | exact ji_eqv (ih (k + 1) _ _ (by omega)) rfl rfl (by rw [show (k + 1).toNat = k.toNat + 1 by omega]; (try rw [show (4 + 2 * k - 2 + 1).toNat = 2 * k.toNat + 3 by omega]); rw [rf_pl_sn (q := 2 * k.toNat + 2) (q1 := 2 * k.toNat + 3) (by omega) (rfl) (by unfold cs_b; (repeat' split) <;> omega)])
            · try (exfalso; omega)
              all_goals
                refine ji_iload dX8_close_156 rfl ?_
                refine ji_goto (tgt := 172) dX8_close_158 rfl ?_
                refine ji_iastoreE dX8_close_172 (rf_61) (by omega) (rf_s61) ?_
                refine ji_iinc dX8_close_173 (by decide) rfl rfl ?_
                refine ji_goto (tgt := 77) dX8_close_176 rfl ?_
                first | exact ji_eqv (ih (k + 1) _ _ (by omega)) rfl rfl (by rw [show (k + 1).toNat = k.toNat + 1 by omega]; (try rw [show ((1 : Int) + 1).toNat = 2 from rfl]); rw [rf_pl_so (q := 1) (q1 := 2) (by omega) (by unfold cs_b; (repeat' split) <;> omega) (rfl)]) | exact ji_eqv (ih (k + 1) _ _ (by omega)) rfl rfl (by rw [show (k + 1).toNat = k.toNat + 1 by omega]; (try rw [show (4 + 2 * k - 2 + 1).toNat = 2 * k.toNat + 3 by omega]); rw [rf_pl_so (q := 2 * k.toNat + 2) (q1 := 2 * k.toNat + 3) (by omega) (by unfold cs_b; (repeat' split) <;> omega) (rfl)]) | exact ji_eqv (ih (k + 1) _ _ (by omega)) rfl rfl (by rw [show (k + 1).toNat = k.toNat + 1 by omega]; (try rw [show ((1 : Int) + 1).toNat = 2 from rfl]); rw [rf_pl_sn (q := 1) (q1 := 2) (by omega) (rfl) (by unfold cs_b; (repeat' split) <;> omega)]) | exact ji_eqv (ih (k + 1) _ _ (by omega)) rfl rfl (by rw [show (k + 1).toNat = k.toNat + 1 by omega]; (try rw [show (4 + 2 * k - 2 + 1).toNat = 2 * k.toNat + 3 by omega]); rw [rf_pl_sn (q := 2 * k.toNat + 2) (q1 := 2 * k.toNat + 3) (by omega) (rfl) (by unfold cs_b; (repeat' split) <;> omega)])
    · try (exfalso; omega)
      all_goals
        refine ji_iconst dX8_close_93 ?_
        refine ji_goto (tgt := 105) dX8_close_94 rfl ?_
        refine ji_istore dX8_close_105 (by decide) rfl ?_
        refine ji_aload_n dX8_close_107 rfl trivial ?_
        refine ji_get (ci := 8) (k := 1) rfl dX8_close_108 lX8_7 (by decide) (rf_60) rfl ?_
        refine ji_iload dX8_close_111 rfl ?_
        refine ji_iaload dX8_close_113 (rf_61) (by omega) ?_
        first | rw [f2 (by omega)] | rw [g2 (by omega)]
        refine ji_iload_n dX8_close_114 rfl ?_
        refine ji_icmp_ne (tgt := 173) dX8_close_115 rfl (by omega) (by omega) (fun c115 => ?_) (fun c115 => ?_)
        · try (exfalso; omega)
          all_goals
            refine ji_iinc dX8_close_173 (by decide) rfl rfl ?_
            refine ji_goto (tgt := 77) dX8_close_176 rfl ?_
            first | exact ji_eqv (ih (k + 1) _ _ (by omega)) rfl rfl (by rw [show (k + 1).toNat = k.toNat + 1 by omega]; (try rw [show ((1 : Int) + 1).toNat = 2 from rfl]); rw [rf_pl_so (q := 1) (q1 := 2) (by omega) (by unfold cs_b; (repeat' split) <;> omega) (rfl)]) | exact ji_eqv (ih (k + 1) _ _ (by omega)) rfl rfl (by rw [show (k + 1).toNat = k.toNat + 1 by omega]; (try rw [show (4 + 2 * k - 2 + 1).toNat = 2 * k.toNat + 3 by omega]); rw [rf_pl_so (q := 2 * k.toNat + 2) (q1 := 2 * k.toNat + 3) (by omega) (by unfold cs_b; (repeat' split) <;> omega) (rfl)]) | exact ji_eqv (ih (k + 1) _ _ (by omega)) rfl rfl (by rw [show (k + 1).toNat = k.toNat + 1 by omega]; (try rw [show ((1 : Int) + 1).toNat = 2 from rfl]); rw [rf_pl_sn (q := 1) (q1 := 2) (by omega) (rfl) (by unfold cs_b; (repeat' split) <;> omega)]) | exact ji_eqv (ih (k + 1) _ _ (by omega)) rfl rfl (by rw [show (k + 1).toNat = k.toNat + 1 by omega]; (try rw [show (4 + 2 * k - 2 + 1).toNat = 2 * k.toNat + 3 by omega]); rw [rf_pl_sn (q := 2 * k.toNat + 2) (q1 := 2 * k.toNat + 3) (by omega) (rfl) (by unfold cs_b; (repeat' split) <;> omega)])
        · try (exfalso; omega)
          all_goals
            refine ji_aload_n dX8_close_118 rfl trivial ?_
            refine ji_get (ci := 8) (k := 1) rfl dX8_close_119 lX8_7 (by decide) (rf_60) rfl ?_
            refine ji_iload dX8_close_122 rfl ?_
            refine ji_iconst dX8_close_124 ?_
            refine ji_iadd dX8_close_125 ?_
            refine ji_iaload dX8_close_126 (rf_61) (by omega) ?_
            first | rw [f1 (by omega)] | rw [g1 (by omega)]
            refine ji_iload_n dX8_close_127 rfl ?_
            refine ji_iload_n dX8_close_128 rfl ?_
            refine ji_cS dX8_close_129 (r_behind (by omega) (by omega) (by omega)) rfl wX8_behind sX8_behind lX8_306 rfl (Nat.le_of_ble_eq_true rfl) rfl ?_
            refine ji_istore dX8_close_132 (by decide) rfl ?_
            refine ji_aload_n dX8_close_134 rfl trivial ?_
            refine ji_get (ci := 8) (k := 1) rfl dX8_close_135 lX8_7 (by decide) (rf_60) rfl ?_
            refine ji_iload dX8_close_138 rfl ?_
            refine ji_iconst dX8_close_140 ?_
            refine ji_iadd dX8_close_141 ?_
            refine ji_iload dX8_close_142 rfl ?_
            refine ji_aload_n dX8_close_144 rfl trivial ?_
            refine ji_get (ci := 8) (k := 1) rfl dX8_close_145 lX8_7 (by decide) (rf_60) rfl ?_
            refine ji_bipush dX8_close_148 rfl ?_
            refine ji_iload_n dX8_close_150 rfl ?_
            refine ji_iadd dX8_close_151 ?_
            refine ji_iaload dX8_close_152 (rf_61) (by omega) ?_
            rw [eL]
            refine ji_icmp_ge (tgt := 161) dX8_close_153 rfl (by omega) (by omega) (fun c153 => ?_) (fun c153 => ?_)
            · try (exfalso; omega)
              all_goals
                refine ji_aload_n dX8_close_161 rfl trivial ?_
                refine ji_get (ci := 8) (k := 1) rfl dX8_close_162 lX8_7 (by decide) (rf_60) rfl ?_
                refine ji_bipush dX8_close_165 rfl ?_
                refine ji_iload_n dX8_close_167 rfl ?_
                refine ji_iadd dX8_close_168 ?_
                refine ji_iaload dX8_close_169 (rf_61) (by omega) ?_
                rw [eL]
                refine ji_iconst dX8_close_170 ?_
                refine ji_isub dX8_close_171 ?_
                refine ji_iastoreE dX8_close_172 (rf_61) (by omega) (rf_s61) ?_
                refine ji_iinc dX8_close_173 (by decide) rfl rfl ?_
                refine ji_goto (tgt := 77) dX8_close_176 rfl ?_
                first | exact ji_eqv (ih (k + 1) _ _ (by omega)) rfl rfl (by rw [show (k + 1).toNat = k.toNat + 1 by omega]; (try rw [show ((1 : Int) + 1).toNat = 2 from rfl]); rw [rf_pl_so (q := 1) (q1 := 2) (by omega) (by unfold cs_b; (repeat' split) <;> omega) (rfl)]) | exact ji_eqv (ih (k + 1) _ _ (by omega)) rfl rfl (by rw [show (k + 1).toNat = k.toNat + 1 by omega]; (try rw [show (4 + 2 * k - 2 + 1).toNat = 2 * k.toNat + 3 by omega]); rw [rf_pl_so (q := 2 * k.toNat + 2) (q1 := 2 * k.toNat + 3) (by omega) (by unfold cs_b; (repeat' split) <;> omega) (rfl)]) | exact ji_eqv (ih (k + 1) _ _ (by omega)) rfl rfl (by rw [show (k + 1).toNat = k.toNat + 1 by omega]; (try rw [show ((1 : Int) + 1).toNat = 2 from rfl]); rw [rf_pl_sn (q := 1) (q1 := 2) (by omega) (rfl) (by unfold cs_b; (repeat' split) <;> omega)]) | exact ji_eqv (ih (k + 1) _ _ (by omega)) rfl rfl (by rw [show (k + 1).toNat = k.toNat + 1 by omega]; (try rw [show (4 + 2 * k - 2 + 1).toNat = 2 * k.toNat + 3 by omega]); rw [rf_pl_sn (q := 2 * k.toNat + 2) (q1 := 2 * k.toNat + 3) (by omega) (rfl) (by unfold cs_b; (repeat' split) <;> omega)])
            · try (exfalso; omega)
              all_goals
                refine ji_iload dX8_close_156 rfl ?_
                refine ji_goto (tgt := 172) dX8_close_158 rfl ?_
                refine ji_iastoreE dX8_close_172 (rf_61) (by omega) (rf_s61) ?_
                refine ji_iinc dX8_close_173 (by decide) rfl rfl ?_
                refine ji_goto (tgt := 77) dX8_close_176 rfl ?_
                first | exact ji_eqv (ih (k + 1) _ _ (by omega)) rfl rfl (by rw [show (k + 1).toNat = k.toNat + 1 by omega]; (try rw [show ((1 : Int) + 1).toNat = 2 from rfl]); rw [rf_pl_so (q := 1) (q1 := 2) (by omega) (by unfold cs_b; (repeat' split) <;> omega) (rfl)]) | exact ji_eqv (ih (k + 1) _ _ (by omega)) rfl rfl (by rw [show (k + 1).toNat = k.toNat + 1 by omega]; (try rw [show (4 + 2 * k - 2 + 1).toNat = 2 * k.toNat + 3 by omega]); rw [rf_pl_so (q := 2 * k.toNat + 2) (q1 := 2 * k.toNat + 3) (by omega) (by unfold cs_b; (repeat' split) <;> omega) (rfl)]) | exact ji_eqv (ih (k + 1) _ _ (by omega)) rfl rfl (by rw [show (k + 1).toNat = k.toNat + 1 by omega]; (try rw [show ((1 : Int) + 1).toNat = 2 from rfl]); rw [rf_pl_sn (q := 1) (q1 := 2) (by omega) (rfl) (by unfold cs_b; (repeat' split) <;> omega)]) | exact ji_eqv (ih (k + 1) _ _ (by omega)) rfl rfl (by rw [show (k + 1).toNat = k.toNat + 1 by omega]; (try rw [show (4 + 2 * k - 2 + 1).toNat = 2 * k.toNat + 3 by omega]); rw [rf_pl_sn (q := 2 * k.toNat + 2) (q1 := 2 * k.toNat + 3) (by omega) (rfl) (by unfold cs_b; (repeat' split) <;> omega)])

set_option maxHeartbeats 4000000 in
set_option maxRecDepth 100000 in
theorem r_close_m {bc bs : Nat} {q x y : Int} (hq : 0 ≤ q ∧ q < 10) (hx : 0 ≤ x ∧ x ≤ y ∧ y ≤ 400) (hB : ∀ j, -20000 ≤ z j ∧ z j ≤ 20000) (h14 : 0 ≤ z 14 ∧ z 14 ≤ 12)  : ∀ (u : Nat) (k : Int) (o5 o6 : Option Value), 0 ≤ k ∧ k + u = z 14 →
    JW G (d + 1) mX8_close 182 [some (.ref 60), some (.int (jI q)), some (.int (jI x)), some (.int (jI y)), some (.int (jI k)), o5, o6] [] (n, rf_f f th (rf_mk id_0 (cs_1 q x y) (cs_2 q x y) (cs_4 q x y) z k.toNat) kp ed nt nl wi ht sy sz bf rs rr rq rp mm ln lo lf lt co ro pg pf hsh) bc bs (fun r9 h9 => r9 = .inl none ∧ h9 = (n, rf_f f th (rf_mk id_0 (cs_1 q x y) (cs_2 q x y) (cs_4 q x y) z (z 14).toNat) kp ed nt nl wi ht sy sz bf rs rr rq rp mm ln lo lf lt co ro pg pf hsh)) := by
  intro u
  induction u with
  | zero =>
    intro k o5 o6 hk
    have e14 : (rf_mk id_0 (cs_1 q x y) (cs_2 q x y) (cs_4 q x y) z k.toNat) 14 = z 14 := rf_mk_r (by omega)
    refine ji_iload dX8_close_182 rfl ?_
    refine ji_aload_n dX8_close_184 rfl trivial ?_
    refine ji_get (ci := 8) (k := 1) rfl dX8_close_185 lX8_7 (by decide) (rf_60) rfl ?_
    refine ji_bipush dX8_close_188 rfl ?_
    refine ji_ialoadK (k := 14) dX8_close_190 (rf_61) rfl (by decide) ?_
    rw [e14]
    refine ji_icmp_ge (tgt := 301) dX8_close_191 rfl (by omega) (by omega) (fun c191 => ?_) (fun c191 => absurd c191 (by omega))
    exact ji_return dX8_close_301 rfl ⟨rfl, by rw [show k.toNat = (z 14).toNat by omega]⟩
  | succ u ih =>
    intro k o5 o6 hk
    have e14 : (rf_mk id_0 (cs_1 q x y) (cs_2 q x y) (cs_4 q x y) z k.toNat) 14 = z 14 := rf_mk_r (by omega)
    have r0 : (rf_mk id_0 (cs_1 q x y) (cs_2 q x y) (cs_4 q x y) z k.toNat) (15 + 5 * k).toNat = z (15 + 5 * k.toNat) := by rw [show (15 + 5 * k).toNat = 15 + 5 * k.toNat by omega]; exact rf_mk_r (by omega)
    have b0 := hB (15 + 5 * k.toNat)
    have r1 : (rf_mk id_0 (cs_1 q x y) (cs_2 q x y) (cs_4 q x y) z k.toNat) (15 + 5 * k + 1).toNat = z (15 + 5 * k.toNat + 1) := by rw [show (15 + 5 * k + 1).toNat = 15 + 5 * k.toNat + 1 by omega]; exact rf_mk_r (by omega)
    have b1 := hB (15 + 5 * k.toNat + 1)
    have r2 : (rf_mk id_0 (cs_1 q x y) (cs_2 q x y) (cs_4 q x y) z k.toNat) (15 + 5 * k + 2).toNat = z (15 + 5 * k.toNat + 2) := by rw [show (15 + 5 * k + 2).toNat = 15 + 5 * k.toNat + 2 by omega]; exact rf_mk_r (by omega)
    have b2 := hB (15 + 5 * k.toNat + 2)
    have r4 : (rf_mk id_0 (cs_1 q x y) (cs_2 q x y) (cs_4 q x y) z k.toNat) (15 + 5 * k + 4).toNat = z (15 + 5 * k.toNat + 4) := by rw [show (15 + 5 * k + 4).toNat = 15 + 5 * k.toNat + 4 by omega]; exact rf_mk_r (by omega)
    have b4 := hB (15 + 5 * k.toNat + 4)
    have s10 : ∀ v, va_up (rf_mk id_0 (cs_1 q x y) (cs_2 q x y) (cs_4 q x y) z k.toNat) (15 + 5 * k + 1).toNat v (15 + 5 * k).toNat = z (15 + 5 * k.toNat) := fun v => (va_up_ne _ _ (by omega)).trans r0
    have s20 : ∀ v, va_up (rf_mk id_0 (cs_1 q x y) (cs_2 q x y) (cs_4 q x y) z k.toNat) (15 + 5 * k + 2).toNat v (15 + 5 * k).toNat = z (15 + 5 * k.toNat) := fun v => (va_up_ne _ _ (by omega)).trans r0
    have s40 : ∀ v, va_up (rf_mk id_0 (cs_1 q x y) (cs_2 q x y) (cs_4 q x y) z k.toNat) (15 + 5 * k + 4).toNat v (15 + 5 * k).toNat = z (15 + 5 * k.toNat) := fun v => (va_up_ne _ _ (by omega)).trans r0
    have s01 : ∀ v, va_up (rf_mk id_0 (cs_1 q x y) (cs_2 q x y) (cs_4 q x y) z k.toNat) (15 + 5 * k).toNat v (15 + 5 * k + 1).toNat = z (15 + 5 * k.toNat + 1) := fun v => (va_up_ne _ _ (by omega)).trans r1
    have s21 : ∀ v, va_up (rf_mk id_0 (cs_1 q x y) (cs_2 q x y) (cs_4 q x y) z k.toNat) (15 + 5 * k + 2).toNat v (15 + 5 * k + 1).toNat = z (15 + 5 * k.toNat + 1) := fun v => (va_up_ne _ _ (by omega)).trans r1
    have s41 : ∀ v, va_up (rf_mk id_0 (cs_1 q x y) (cs_2 q x y) (cs_4 q x y) z k.toNat) (15 + 5 * k + 4).toNat v (15 + 5 * k + 1).toNat = z (15 + 5 * k.toNat + 1) := fun v => (va_up_ne _ _ (by omega)).trans r1
    have s02 : ∀ v, va_up (rf_mk id_0 (cs_1 q x y) (cs_2 q x y) (cs_4 q x y) z k.toNat) (15 + 5 * k).toNat v (15 + 5 * k + 2).toNat = z (15 + 5 * k.toNat + 2) := fun v => (va_up_ne _ _ (by omega)).trans r2
    have s12 : ∀ v, va_up (rf_mk id_0 (cs_1 q x y) (cs_2 q x y) (cs_4 q x y) z k.toNat) (15 + 5 * k + 1).toNat v (15 + 5 * k + 2).toNat = z (15 + 5 * k.toNat + 2) := fun v => (va_up_ne _ _ (by omega)).trans r2
    have s42 : ∀ v, va_up (rf_mk id_0 (cs_1 q x y) (cs_2 q x y) (cs_4 q x y) z k.toNat) (15 + 5 * k + 4).toNat v (15 + 5 * k + 2).toNat = z (15 + 5 * k.toNat + 2) := fun v => (va_up_ne _ _ (by omega)).trans r2
    have s04 : ∀ v, va_up (rf_mk id_0 (cs_1 q x y) (cs_2 q x y) (cs_4 q x y) z k.toNat) (15 + 5 * k).toNat v (15 + 5 * k + 4).toNat = z (15 + 5 * k.toNat + 4) := fun v => (va_up_ne _ _ (by omega)).trans r4
    have s14 : ∀ v, va_up (rf_mk id_0 (cs_1 q x y) (cs_2 q x y) (cs_4 q x y) z k.toNat) (15 + 5 * k + 1).toNat v (15 + 5 * k + 4).toNat = z (15 + 5 * k.toNat + 4) := fun v => (va_up_ne _ _ (by omega)).trans r4
    have s24 : ∀ v, va_up (rf_mk id_0 (cs_1 q x y) (cs_2 q x y) (cs_4 q x y) z k.toNat) (15 + 5 * k + 2).toNat v (15 + 5 * k + 4).toNat = z (15 + 5 * k.toNat + 4) := fun v => (va_up_ne _ _ (by omega)).trans r4
    have w1 := rf_bh_b (x := x) (y := y) b1 (by omega) (by omega)
    have w2 := rf_bh_b (x := x) (y := y) b2 (by omega) (by omega)
    refine ji_iload dX8_close_182 rfl ?_
    refine ji_aload_n dX8_close_184 rfl trivial ?_
    refine ji_get (ci := 8) (k := 1) rfl dX8_close_185 lX8_7 (by decide) (rf_60) rfl ?_
    refine ji_bipush dX8_close_188 rfl ?_
    refine ji_ialoadK (k := 14) dX8_close_190 (rf_61) rfl (by decide) ?_
    rw [e14]
    refine ji_icmp_ge (tgt := 301) dX8_close_191 rfl (by omega) (by omega) (fun c191 => absurd c191 (by omega)) (fun c191 => ?_)
    refine ji_bipush dX8_close_194 rfl ?_
    refine ji_iconst dX8_close_196 ?_
    refine ji_iload dX8_close_197 rfl ?_
    refine ji_imul dX8_close_199 ?_
    refine ji_iadd dX8_close_200 ?_
    refine ji_istore dX8_close_201 (by decide) rfl ?_
    refine ji_aload_n dX8_close_203 rfl trivial ?_
    refine ji_get (ci := 8) (k := 1) rfl dX8_close_204 lX8_7 (by decide) (rf_60) rfl ?_
    refine ji_iload dX8_close_207 rfl ?_
    refine ji_iaload dX8_close_209 (rf_61) (by omega) ?_
    rw [r0]
    refine ji_iload_n dX8_close_210 rfl ?_
    refine ji_icmp_ne (tgt := 295) dX8_close_211 rfl (by omega) (by omega) (fun c211 => ?_) (fun c211 => ?_)
    · try (exfalso; omega)
      all_goals
        refine ji_iinc dX8_close_295 (by decide) rfl rfl ?_
        refine ji_goto (tgt := 182) dX8_close_298 rfl ?_
        first | exact ji_eqv (ih (k + 1) _ _ (by omega)) rfl rfl (by rw [show (k + 1).toNat = k.toNat + 1 by omega]; (try rw [show (15 + 5 * k + 1).toNat = 15 + 5 * k.toNat + 1 by omega]); (try rw [show (15 + 5 * k + 2).toNat = 15 + 5 * k.toNat + 2 by omega]); (try rw [show (15 + 5 * k + 4).toNat = 15 + 5 * k.toNat + 4 by omega]); (try rw [show (15 + 5 * k).toNat = 15 + 5 * k.toNat by omega]); exact congrArg (fun r9 => (n, rf_f f th r9 kp ed nt nl wi ht sy sz bf rs rr rq rp mm ln lo lf lt co ro pg pf hsh)) (rf_mk_e (fun j hj => by rw [va_up_ne _ _ (by omega), va_up_ne _ _ (by omega), va_up_ne _ _ (by omega)]) (by rw [va_up_ne _ _ (by omega), va_up_ne _ _ (by omega), va_up_ne _ _ (by omega), rf_mk_r (by omega)]; rfl) (by rw [va_up_ne _ _ (by omega), va_up_ne _ _ (by omega), va_up_self]; unfold cs_1; (repeat' split) <;> omega) (by rw [va_up_ne _ _ (by omega), va_up_self]; unfold cs_2; (repeat' split) <;> omega) (by rw [va_up_ne _ _ (by omega), va_up_ne _ _ (by omega), va_up_ne _ _ (by omega), rf_mk_r (by omega)]) (by rw [va_up_self]; unfold cs_4; (repeat' split) <;> omega))) | exact ji_eqv (ih (k + 1) _ _ (by omega)) rfl rfl (by rw [show (k + 1).toNat = k.toNat + 1 by omega]; (try rw [show (15 + 5 * k + 1).toNat = 15 + 5 * k.toNat + 1 by omega]); (try rw [show (15 + 5 * k + 2).toNat = 15 + 5 * k.toNat + 2 by omega]); (try rw [show (15 + 5 * k + 4).toNat = 15 + 5 * k.toNat + 4 by omega]); (try rw [show (15 + 5 * k).toNat = 15 + 5 * k.toNat by omega]); exact congrArg (fun r9 => (n, rf_f f th r9 kp ed nt nl wi ht sy sz bf rs rr rq rp mm ln lo lf lt co ro pg pf hsh)) (rf_mk_e (fun j hj => rfl) (by rw [rf_mk_r (by omega)]; rfl) (by rw [rf_mk_r (by omega)]; unfold cs_1; (repeat' split) <;> omega) (by rw [rf_mk_r (by omega)]; unfold cs_2; (repeat' split) <;> omega) (by rw [rf_mk_r (by omega)]) (by rw [rf_mk_r (by omega)]; unfold cs_4; (repeat' split) <;> omega)))
    · try (exfalso; omega)
      all_goals
        refine ji_aload_n dX8_close_214 rfl trivial ?_
        refine ji_get (ci := 8) (k := 1) rfl dX8_close_215 lX8_7 (by decide) (rf_60) rfl ?_
        refine ji_iload dX8_close_218 rfl ?_
        refine ji_iconst dX8_close_220 ?_
        refine ji_iadd dX8_close_221 ?_
        refine ji_aload_n dX8_close_222 rfl trivial ?_
        refine ji_get (ci := 8) (k := 1) rfl dX8_close_223 lX8_7 (by decide) (rf_60) rfl ?_
        refine ji_iload dX8_close_226 rfl ?_
        refine ji_iconst dX8_close_228 ?_
        refine ji_iadd dX8_close_229 ?_
        refine ji_iaload dX8_close_230 (rf_61) (by omega) ?_
        rw [r1]
        refine ji_iload_n dX8_close_231 rfl ?_
        refine ji_iload_n dX8_close_232 rfl ?_
        refine ji_cS dX8_close_233 (r_behind (by omega) (by omega) (by omega)) rfl wX8_behind sX8_behind lX8_306 rfl (Nat.le_of_ble_eq_true rfl) rfl ?_
        refine ji_iastoreE dX8_close_236 (rf_61) (by omega) (rf_s61) ?_
        refine ji_aload_n dX8_close_237 rfl trivial ?_
        refine ji_get (ci := 8) (k := 1) rfl dX8_close_238 lX8_7 (by decide) (rf_60) rfl ?_
        refine ji_iload dX8_close_241 rfl ?_
        refine ji_iconst dX8_close_243 ?_
        refine ji_iadd dX8_close_244 ?_
        refine ji_aload_n dX8_close_245 rfl trivial ?_
        refine ji_get (ci := 8) (k := 1) rfl dX8_close_246 lX8_7 (by decide) (rf_60) rfl ?_
        refine ji_iload dX8_close_249 rfl ?_
        refine ji_iconst dX8_close_251 ?_
        refine ji_iadd dX8_close_252 ?_
        refine ji_iaload dX8_close_253 (rf_61) (by omega) ?_
        rw [s12]
        refine ji_iload_n dX8_close_254 rfl ?_
        refine ji_iload_n dX8_close_255 rfl ?_
        refine ji_cS dX8_close_256 (r_behind (by omega) (by omega) (by omega)) rfl wX8_behind sX8_behind lX8_306 rfl (Nat.le_of_ble_eq_true rfl) rfl ?_
        refine ji_iastoreE dX8_close_259 (rf_61) (by omega) (rf_s61) ?_
        refine ji_aload_n dX8_close_260 rfl trivial ?_
        refine ji_get (ci := 8) (k := 1) rfl dX8_close_261 lX8_7 (by decide) (rf_60) rfl ?_
        refine ji_iload dX8_close_264 rfl ?_
        refine ji_iconst dX8_close_266 ?_
        refine ji_iadd dX8_close_267 ?_
        refine ji_aload_n dX8_close_268 rfl trivial ?_
        refine ji_get (ci := 8) (k := 1) rfl dX8_close_269 lX8_7 (by decide) (rf_60) rfl ?_
        refine ji_iload dX8_close_272 rfl ?_
        refine ji_iconst dX8_close_274 ?_
        refine ji_iadd dX8_close_275 ?_
        refine ji_iaload dX8_close_276 (rf_61) (by omega) ?_
        rw [va_up_ne _ _ (by omega), va_up_self]
        refine ji_aload_n dX8_close_277 rfl trivial ?_
        refine ji_get (ci := 8) (k := 1) rfl dX8_close_278 lX8_7 (by decide) (rf_60) rfl ?_
        refine ji_iload dX8_close_281 rfl ?_
        refine ji_iconst dX8_close_283 ?_
        refine ji_iadd dX8_close_284 ?_
        refine ji_iaload dX8_close_285 (rf_61) (by omega) ?_
        rw [va_up_self]
        refine ji_icmp_ne (tgt := 293) dX8_close_286 rfl (by omega) (by omega) (fun c286 => ?_) (fun c286 => ?_)
        · try (exfalso; omega)
          all_goals
            refine ji_iconst dX8_close_293 ?_
            refine ji_iastoreE dX8_close_294 (rf_61) (by omega) (rf_s61) ?_
            refine ji_iinc dX8_close_295 (by decide) rfl rfl ?_
            refine ji_goto (tgt := 182) dX8_close_298 rfl ?_
            first | exact ji_eqv (ih (k + 1) _ _ (by omega)) rfl rfl (by rw [show (k + 1).toNat = k.toNat + 1 by omega]; (try rw [show (15 + 5 * k + 1).toNat = 15 + 5 * k.toNat + 1 by omega]); (try rw [show (15 + 5 * k + 2).toNat = 15 + 5 * k.toNat + 2 by omega]); (try rw [show (15 + 5 * k + 4).toNat = 15 + 5 * k.toNat + 4 by omega]); (try rw [show (15 + 5 * k).toNat = 15 + 5 * k.toNat by omega]); exact congrArg (fun r9 => (n, rf_f f th r9 kp ed nt nl wi ht sy sz bf rs rr rq rp mm ln lo lf lt co ro pg pf hsh)) (rf_mk_e (fun j hj => by rw [va_up_ne _ _ (by omega), va_up_ne _ _ (by omega), va_up_ne _ _ (by omega)]) (by rw [va_up_ne _ _ (by omega), va_up_ne _ _ (by omega), va_up_ne _ _ (by omega), rf_mk_r (by omega)]; rfl) (by rw [va_up_ne _ _ (by omega), va_up_ne _ _ (by omega), va_up_self]; unfold cs_1; (repeat' split) <;> omega) (by rw [va_up_ne _ _ (by omega), va_up_self]; unfold cs_2; (repeat' split) <;> omega) (by rw [va_up_ne _ _ (by omega), va_up_ne _ _ (by omega), va_up_ne _ _ (by omega), rf_mk_r (by omega)]) (by rw [va_up_self]; unfold cs_4; (repeat' split) <;> omega))) | exact ji_eqv (ih (k + 1) _ _ (by omega)) rfl rfl (by rw [show (k + 1).toNat = k.toNat + 1 by omega]; (try rw [show (15 + 5 * k + 1).toNat = 15 + 5 * k.toNat + 1 by omega]); (try rw [show (15 + 5 * k + 2).toNat = 15 + 5 * k.toNat + 2 by omega]); (try rw [show (15 + 5 * k + 4).toNat = 15 + 5 * k.toNat + 4 by omega]); (try rw [show (15 + 5 * k).toNat = 15 + 5 * k.toNat by omega]); exact congrArg (fun r9 => (n, rf_f f th r9 kp ed nt nl wi ht sy sz bf rs rr rq rp mm ln lo lf lt co ro pg pf hsh)) (rf_mk_e (fun j hj => rfl) (by rw [rf_mk_r (by omega)]; rfl) (by rw [rf_mk_r (by omega)]; unfold cs_1; (repeat' split) <;> omega) (by rw [rf_mk_r (by omega)]; unfold cs_2; (repeat' split) <;> omega) (by rw [rf_mk_r (by omega)]) (by rw [rf_mk_r (by omega)]; unfold cs_4; (repeat' split) <;> omega)))
        · try (exfalso; omega)
          all_goals
            refine ji_iconst dX8_close_289 ?_
            refine ji_goto (tgt := 294) dX8_close_290 rfl ?_
            refine ji_iastoreE dX8_close_294 (rf_61) (by omega) (rf_s61) ?_
            refine ji_iinc dX8_close_295 (by decide) rfl rfl ?_
            refine ji_goto (tgt := 182) dX8_close_298 rfl ?_
            first | exact ji_eqv (ih (k + 1) _ _ (by omega)) rfl rfl (by rw [show (k + 1).toNat = k.toNat + 1 by omega]; (try rw [show (15 + 5 * k + 1).toNat = 15 + 5 * k.toNat + 1 by omega]); (try rw [show (15 + 5 * k + 2).toNat = 15 + 5 * k.toNat + 2 by omega]); (try rw [show (15 + 5 * k + 4).toNat = 15 + 5 * k.toNat + 4 by omega]); (try rw [show (15 + 5 * k).toNat = 15 + 5 * k.toNat by omega]); exact congrArg (fun r9 => (n, rf_f f th r9 kp ed nt nl wi ht sy sz bf rs rr rq rp mm ln lo lf lt co ro pg pf hsh)) (rf_mk_e (fun j hj => by rw [va_up_ne _ _ (by omega), va_up_ne _ _ (by omega), va_up_ne _ _ (by omega)]) (by rw [va_up_ne _ _ (by omega), va_up_ne _ _ (by omega), va_up_ne _ _ (by omega), rf_mk_r (by omega)]; rfl) (by rw [va_up_ne _ _ (by omega), va_up_ne _ _ (by omega), va_up_self]; unfold cs_1; (repeat' split) <;> omega) (by rw [va_up_ne _ _ (by omega), va_up_self]; unfold cs_2; (repeat' split) <;> omega) (by rw [va_up_ne _ _ (by omega), va_up_ne _ _ (by omega), va_up_ne _ _ (by omega), rf_mk_r (by omega)]) (by rw [va_up_self]; unfold cs_4; (repeat' split) <;> omega))) | exact ji_eqv (ih (k + 1) _ _ (by omega)) rfl rfl (by rw [show (k + 1).toNat = k.toNat + 1 by omega]; (try rw [show (15 + 5 * k + 1).toNat = 15 + 5 * k.toNat + 1 by omega]); (try rw [show (15 + 5 * k + 2).toNat = 15 + 5 * k.toNat + 2 by omega]); (try rw [show (15 + 5 * k + 4).toNat = 15 + 5 * k.toNat + 4 by omega]); (try rw [show (15 + 5 * k).toNat = 15 + 5 * k.toNat by omega]); exact congrArg (fun r9 => (n, rf_f f th r9 kp ed nt nl wi ht sy sz bf rs rr rq rp mm ln lo lf lt co ro pg pf hsh)) (rf_mk_e (fun j hj => rfl) (by rw [rf_mk_r (by omega)]; rfl) (by rw [rf_mk_r (by omega)]; unfold cs_1; (repeat' split) <;> omega) (by rw [rf_mk_r (by omega)]; unfold cs_2; (repeat' split) <;> omega) (by rw [rf_mk_r (by omega)]) (by rw [rf_mk_r (by omega)]; unfold cs_4; (repeat' split) <;> omega)))

set_option maxHeartbeats 4000000 in
set_option maxRecDepth 100000 in
theorem r_renumber_p {bc bs : Nat} {Q : ji_R → ji_H → Prop} {q m : Int} (hq : 0 ≤ q ∧ q < 11) (hm : -1 ≤ m ∧ m ≤ 1) (hB : ∀ j, -20000 ≤ z j ∧ z j ≤ 20000) (h3 : 0 ≤ z 3 ∧ z 3 ≤ 5) (kk : ∀ k o, JW G d mX8_renumber 61 [some (.ref 60), some (.int (jI q)), some (.int (jI m)), some (.int (jI k)), o] [] (n, rf_f f th (rf_pl (rn_a q m) id_b z (z 3 + 1).toNat) kp ed nt nl wi ht sy sz bf rs rr rq rp mm ln lo lf lt co ro pg pf hsh) bc bs Q) : ∀ (u : Nat) (k : Int) (o : Option Value), 0 ≤ k ∧ k + u = z 3 + 1 →
    JW G d mX8_renumber 2 [some (.ref 60), some (.int (jI q)), some (.int (jI m)), some (.int (jI k)), o] [] (n, rf_f f th (rf_pl (rn_a q m) id_b z k.toNat) kp ed nt nl wi ht sy sz bf rs rr rq rp mm ln lo lf lt co ro pg pf hsh) bc bs Q := by
  intro u
  induction u with
  | zero =>
    intro k o hk
    have e3 : (rf_pl (rn_a q m) id_b z k.toNat) 3 = z 3 := rf_pl_h (by omega) (by omega)
    refine ji_iload_n dX8_renumber_2 rfl ?_
    refine ji_aload_n dX8_renumber_3 rfl trivial ?_
    refine ji_get (ci := 8) (k := 1) rfl dX8_renumber_4 lX8_7 (by decide) (rf_60) rfl ?_
    refine ji_iconst dX8_renumber_7 ?_
    refine ji_ialoadK (k := 3) dX8_renumber_8 (rf_61) rfl (by decide) ?_
    rw [e3]
    refine ji_icmp_gt (tgt := 61) dX8_renumber_9 rfl (by omega) (by omega) (fun c9 => ?_) (fun c9 => absurd c9 (by omega))
    exact ji_eqv (kk _ _) rfl rfl (by rw [show k.toNat = (z 3 + 1).toNat by omega])
  | succ u ih =>
    intro k o hk
    have f1 : k = 0 → (rf_pl (rn_a q m) id_b z k.toNat) ((1 : Int) + 1).toNat = z 2 := fun h => by subst h; exact (rf_pl_r (i := 0) (q := 1) (by omega)).2
    have f2 : k = 0 → (rf_pl (rn_a q m) id_b z k.toNat) (1 : Int).toNat = z 1 := fun h => by subst h; exact (rf_pl_r (i := 0) (q := 1) (by omega)).1
    have g1 : ¬ k = 0 → (rf_pl (rn_a q m) id_b z k.toNat) (4 + 2 * k - 2 + 1).toNat = z (2 * k.toNat + 3) := fun h => by rw [show (4 + 2 * k - 2 + 1).toNat = 2 * k.toNat + 2 + 1 by omega]; exact (rf_pl_r (i := k.toNat) (q := 2 * k.toNat + 2) (by omega)).2
    have g2 : ¬ k = 0 → (rf_pl (rn_a q m) id_b z k.toNat) (4 + 2 * k - 2).toNat = z (2 * k.toNat + 2) := fun h => by rw [show (4 + 2 * k - 2).toNat = 2 * k.toNat + 2 by omega]; exact (rf_pl_r (i := k.toNat) (q := 2 * k.toNat + 2) (by omega)).1
    have f3 : k = 0 → ∀ v, va_up (rf_pl (rn_a q m) id_b z k.toNat) (1 : Int).toNat v ((1 : Int) + 1).toNat = z 2 := fun h v => (va_up_ne _ _ (by decide)).trans (f1 h)
    have g3 : ¬ k = 0 → ∀ v, va_up (rf_pl (rn_a q m) id_b z k.toNat) (4 + 2 * k - 2).toNat v (4 + 2 * k - 2 + 1).toNat = z (2 * k.toNat + 3) := fun h v => (va_up_ne _ _ (by omega)).trans (g1 h)
    have e3 : (rf_pl (rn_a q m) id_b z k.toNat) 3 = z 3 := rf_pl_h (by omega) (by omega)
    have b1 := hB 1
    have b2 := hB 2
    have b3 := hB (2 * k.toNat + 2)
    have b4 := hB (2 * k.toNat + 3)
    refine ji_iload_n dX8_renumber_2 rfl ?_
    refine ji_aload_n dX8_renumber_3 rfl trivial ?_
    refine ji_get (ci := 8) (k := 1) rfl dX8_renumber_4 lX8_7 (by decide) (rf_60) rfl ?_
    refine ji_iconst dX8_renumber_7 ?_
    refine ji_ialoadK (k := 3) dX8_renumber_8 (rf_61) rfl (by decide) ?_
    rw [e3]
    refine ji_icmp_gt (tgt := 61) dX8_renumber_9 rfl (by omega) (by omega) (fun c9 => absurd c9 (by omega)) (fun c9 => ?_)
    refine ji_iload_n dX8_renumber_12 rfl ?_
    refine ji_if_ne (tgt := 20) dX8_renumber_13 rfl (by omega) (fun c13 => ?_) (fun c13 => ?_)
    · try (exfalso; omega)
      all_goals
        refine ji_iconst dX8_renumber_20 ?_
        refine ji_iconst dX8_renumber_21 ?_
        refine ji_iload_n dX8_renumber_22 rfl ?_
        refine ji_imul dX8_renumber_23 ?_
        refine ji_iadd dX8_renumber_24 ?_
        refine ji_iconst dX8_renumber_25 ?_
        refine ji_isub dX8_renumber_26 ?_
        refine ji_istore dX8_renumber_27 (by decide) rfl ?_
        refine ji_aload_n dX8_renumber_29 rfl trivial ?_
        refine ji_get (ci := 8) (k := 1) rfl dX8_renumber_30 lX8_7 (by decide) (rf_60) rfl ?_
        refine ji_iload dX8_renumber_33 rfl ?_
        refine ji_dup2 dX8_renumber_35 rfl rfl ?_
        refine ji_iaload dX8_renumber_36 (rf_61) (by omega) ?_
        first | rw [f2 (by omega)] | rw [g2 (by omega)]
        refine ji_aload_n dX8_renumber_37 rfl trivial ?_
        refine ji_get (ci := 8) (k := 1) rfl dX8_renumber_38 lX8_7 (by decide) (rf_60) rfl ?_
        refine ji_iload dX8_renumber_41 rfl ?_
        refine ji_iaload dX8_renumber_43 (rf_61) (by omega) ?_
        first | rw [f2 (by omega)] | rw [g2 (by omega)]
        refine ji_iload_n dX8_renumber_44 rfl ?_
        refine ji_icmp_lt (tgt := 52) dX8_renumber_45 rfl (by omega) (by omega) (fun c45 => ?_) (fun c45 => ?_)
        · try (exfalso; omega)
          all_goals
            refine ji_iconst dX8_renumber_52 ?_
            refine ji_iadd dX8_renumber_53 ?_
            refine ji_iastoreE dX8_renumber_54 (rf_61) (by omega) (rf_s61) ?_
            refine ji_iinc dX8_renumber_55 (by decide) rfl rfl ?_
            refine ji_goto (tgt := 2) dX8_renumber_58 rfl ?_
            first | exact ji_eqv (ih (k + 1) _ (by omega)) rfl rfl (by rw [show (k + 1).toNat = k.toNat + 1 by omega]; (try rw [show ((1 : Int) + 1).toNat = 2 from rfl]); (try rw [show (1 : Int).toNat = 1 from rfl]); rw [rf_pl_sp (q := 1) (q1 := 2) (by omega) (by unfold rn_a; (repeat' split) <;> omega) (rfl)]) | exact ji_eqv (ih (k + 1) _ (by omega)) rfl rfl (by rw [show (k + 1).toNat = k.toNat + 1 by omega]; (try rw [show (4 + 2 * k - 2 + 1).toNat = 2 * k.toNat + 3 by omega]); (try rw [show (4 + 2 * k - 2).toNat = 2 * k.toNat + 2 by omega]); rw [rf_pl_sp (q := 2 * k.toNat + 2) (q1 := 2 * k.toNat + 3) (by omega) (by unfold rn_a; (repeat' split) <;> omega) (rfl)])
        · try (exfalso; omega)
          all_goals
            refine ji_iload_n dX8_renumber_48 rfl ?_
            refine ji_goto (tgt := 53) dX8_renumber_49 rfl ?_
            refine ji_iadd dX8_renumber_53 ?_
            refine ji_iastoreE dX8_renumber_54 (rf_61) (by omega) (rf_s61) ?_
            refine ji_iinc dX8_renumber_55 (by decide) rfl rfl ?_
            refine ji_goto (tgt := 2) dX8_renumber_58 rfl ?_
            first | exact ji_eqv (ih (k + 1) _ (by omega)) rfl rfl (by rw [show (k + 1).toNat = k.toNat + 1 by omega]; (try rw [show ((1 : Int) + 1).toNat = 2 from rfl]); (try rw [show (1 : Int).toNat = 1 from rfl]); rw [rf_pl_sp (q := 1) (q1 := 2) (by omega) (by unfold rn_a; (repeat' split) <;> omega) (rfl)]) | exact ji_eqv (ih (k + 1) _ (by omega)) rfl rfl (by rw [show (k + 1).toNat = k.toNat + 1 by omega]; (try rw [show (4 + 2 * k - 2 + 1).toNat = 2 * k.toNat + 3 by omega]); (try rw [show (4 + 2 * k - 2).toNat = 2 * k.toNat + 2 by omega]); rw [rf_pl_sp (q := 2 * k.toNat + 2) (q1 := 2 * k.toNat + 3) (by omega) (by unfold rn_a; (repeat' split) <;> omega) (rfl)])
    · try (exfalso; omega)
      all_goals
        refine ji_iconst dX8_renumber_16 ?_
        refine ji_goto (tgt := 27) dX8_renumber_17 rfl ?_
        refine ji_istore dX8_renumber_27 (by decide) rfl ?_
        refine ji_aload_n dX8_renumber_29 rfl trivial ?_
        refine ji_get (ci := 8) (k := 1) rfl dX8_renumber_30 lX8_7 (by decide) (rf_60) rfl ?_
        refine ji_iload dX8_renumber_33 rfl ?_
        refine ji_dup2 dX8_renumber_35 rfl rfl ?_
        refine ji_iaload dX8_renumber_36 (rf_61) (by omega) ?_
        first | rw [f2 (by omega)] | rw [g2 (by omega)]
        refine ji_aload_n dX8_renumber_37 rfl trivial ?_
        refine ji_get (ci := 8) (k := 1) rfl dX8_renumber_38 lX8_7 (by decide) (rf_60) rfl ?_
        refine ji_iload dX8_renumber_41 rfl ?_
        refine ji_iaload dX8_renumber_43 (rf_61) (by omega) ?_
        first | rw [f2 (by omega)] | rw [g2 (by omega)]
        refine ji_iload_n dX8_renumber_44 rfl ?_
        refine ji_icmp_lt (tgt := 52) dX8_renumber_45 rfl (by omega) (by omega) (fun c45 => ?_) (fun c45 => ?_)
        · try (exfalso; omega)
          all_goals
            refine ji_iconst dX8_renumber_52 ?_
            refine ji_iadd dX8_renumber_53 ?_
            refine ji_iastoreE dX8_renumber_54 (rf_61) (by omega) (rf_s61) ?_
            refine ji_iinc dX8_renumber_55 (by decide) rfl rfl ?_
            refine ji_goto (tgt := 2) dX8_renumber_58 rfl ?_
            first | exact ji_eqv (ih (k + 1) _ (by omega)) rfl rfl (by rw [show (k + 1).toNat = k.toNat + 1 by omega]; (try rw [show ((1 : Int) + 1).toNat = 2 from rfl]); (try rw [show (1 : Int).toNat = 1 from rfl]); rw [rf_pl_sp (q := 1) (q1 := 2) (by omega) (by unfold rn_a; (repeat' split) <;> omega) (rfl)]) | exact ji_eqv (ih (k + 1) _ (by omega)) rfl rfl (by rw [show (k + 1).toNat = k.toNat + 1 by omega]; (try rw [show (4 + 2 * k - 2 + 1).toNat = 2 * k.toNat + 3 by omega]); (try rw [show (4 + 2 * k - 2).toNat = 2 * k.toNat + 2 by omega]); rw [rf_pl_sp (q := 2 * k.toNat + 2) (q1 := 2 * k.toNat + 3) (by omega) (by unfold rn_a; (repeat' split) <;> omega) (rfl)])
        · try (exfalso; omega)
          all_goals
            refine ji_iload_n dX8_renumber_48 rfl ?_
            refine ji_goto (tgt := 53) dX8_renumber_49 rfl ?_
            refine ji_iadd dX8_renumber_53 ?_
            refine ji_iastoreE dX8_renumber_54 (rf_61) (by omega) (rf_s61) ?_
            refine ji_iinc dX8_renumber_55 (by decide) rfl rfl ?_
            refine ji_goto (tgt := 2) dX8_renumber_58 rfl ?_
            first | exact ji_eqv (ih (k + 1) _ (by omega)) rfl rfl (by rw [show (k + 1).toNat = k.toNat + 1 by omega]; (try rw [show ((1 : Int) + 1).toNat = 2 from rfl]); (try rw [show (1 : Int).toNat = 1 from rfl]); rw [rf_pl_sp (q := 1) (q1 := 2) (by omega) (by unfold rn_a; (repeat' split) <;> omega) (rfl)]) | exact ji_eqv (ih (k + 1) _ (by omega)) rfl rfl (by rw [show (k + 1).toNat = k.toNat + 1 by omega]; (try rw [show (4 + 2 * k - 2 + 1).toNat = 2 * k.toNat + 3 by omega]); (try rw [show (4 + 2 * k - 2).toNat = 2 * k.toNat + 2 by omega]); rw [rf_pl_sp (q := 2 * k.toNat + 2) (q1 := 2 * k.toNat + 3) (by omega) (by unfold rn_a; (repeat' split) <;> omega) (rfl)])

set_option maxHeartbeats 4000000 in
set_option maxRecDepth 100000 in
theorem r_renumber_m {bc bs : Nat} {q m : Int} (hq : 0 ≤ q ∧ q < 11) (hm : -1 ≤ m ∧ m ≤ 1) (hB : ∀ j, -20000 ≤ z j ∧ z j ≤ 20000) (h14 : 0 ≤ z 14 ∧ z 14 ≤ 12)  : ∀ (u : Nat) (k : Int) (o4 : Option Value), 0 ≤ k ∧ k + u = z 14 →
    JW G d mX8_renumber 63 [some (.ref 60), some (.int (jI q)), some (.int (jI m)), some (.int (jI k)), o4] [] (n, rf_f f th (rf_mk (rn_0 q m) id_1 id_2 id_4 z k.toNat) kp ed nt nl wi ht sy sz bf rs rr rq rp mm ln lo lf lt co ro pg pf hsh) bc bs (fun r9 h9 => r9 = .inl none ∧ h9 = (n, rf_f f th (rf_mk (rn_0 q m) id_1 id_2 id_4 z (z 14).toNat) kp ed nt nl wi ht sy sz bf rs rr rq rp mm ln lo lf lt co ro pg pf hsh)) := by
  intro u
  induction u with
  | zero =>
    intro k o4 hk
    have e14 : (rf_mk (rn_0 q m) id_1 id_2 id_4 z k.toNat) 14 = z 14 := rf_mk_r (by omega)
    refine ji_iload_n dX8_renumber_63 rfl ?_
    refine ji_aload_n dX8_renumber_64 rfl trivial ?_
    refine ji_get (ci := 8) (k := 1) rfl dX8_renumber_65 lX8_7 (by decide) (rf_60) rfl ?_
    refine ji_bipush dX8_renumber_68 rfl ?_
    refine ji_ialoadK (k := 14) dX8_renumber_70 (rf_61) rfl (by decide) ?_
    rw [e14]
    refine ji_icmp_ge (tgt := 114) dX8_renumber_71 rfl (by omega) (by omega) (fun c71 => ?_) (fun c71 => absurd c71 (by omega))
    exact ji_return dX8_renumber_114 rfl ⟨rfl, by rw [show k.toNat = (z 14).toNat by omega]⟩
  | succ u ih =>
    intro k o4 hk
    have e14 : (rf_mk (rn_0 q m) id_1 id_2 id_4 z k.toNat) 14 = z 14 := rf_mk_r (by omega)
    have r0 : (rf_mk (rn_0 q m) id_1 id_2 id_4 z k.toNat) (15 + 5 * k).toNat = z (15 + 5 * k.toNat) := by rw [show (15 + 5 * k).toNat = 15 + 5 * k.toNat by omega]; exact rf_mk_r (by omega)
    have b0 := hB (15 + 5 * k.toNat)
    have r1 : (rf_mk (rn_0 q m) id_1 id_2 id_4 z k.toNat) (15 + 5 * k + 1).toNat = z (15 + 5 * k.toNat + 1) := by rw [show (15 + 5 * k + 1).toNat = 15 + 5 * k.toNat + 1 by omega]; exact rf_mk_r (by omega)
    have b1 := hB (15 + 5 * k.toNat + 1)
    have r2 : (rf_mk (rn_0 q m) id_1 id_2 id_4 z k.toNat) (15 + 5 * k + 2).toNat = z (15 + 5 * k.toNat + 2) := by rw [show (15 + 5 * k + 2).toNat = 15 + 5 * k.toNat + 2 by omega]; exact rf_mk_r (by omega)
    have b2 := hB (15 + 5 * k.toNat + 2)
    have r4 : (rf_mk (rn_0 q m) id_1 id_2 id_4 z k.toNat) (15 + 5 * k + 4).toNat = z (15 + 5 * k.toNat + 4) := by rw [show (15 + 5 * k + 4).toNat = 15 + 5 * k.toNat + 4 by omega]; exact rf_mk_r (by omega)
    have b4 := hB (15 + 5 * k.toNat + 4)
    have s10 : ∀ v, va_up (rf_mk (rn_0 q m) id_1 id_2 id_4 z k.toNat) (15 + 5 * k + 1).toNat v (15 + 5 * k).toNat = z (15 + 5 * k.toNat) := fun v => (va_up_ne _ _ (by omega)).trans r0
    have s20 : ∀ v, va_up (rf_mk (rn_0 q m) id_1 id_2 id_4 z k.toNat) (15 + 5 * k + 2).toNat v (15 + 5 * k).toNat = z (15 + 5 * k.toNat) := fun v => (va_up_ne _ _ (by omega)).trans r0
    have s40 : ∀ v, va_up (rf_mk (rn_0 q m) id_1 id_2 id_4 z k.toNat) (15 + 5 * k + 4).toNat v (15 + 5 * k).toNat = z (15 + 5 * k.toNat) := fun v => (va_up_ne _ _ (by omega)).trans r0
    have s01 : ∀ v, va_up (rf_mk (rn_0 q m) id_1 id_2 id_4 z k.toNat) (15 + 5 * k).toNat v (15 + 5 * k + 1).toNat = z (15 + 5 * k.toNat + 1) := fun v => (va_up_ne _ _ (by omega)).trans r1
    have s21 : ∀ v, va_up (rf_mk (rn_0 q m) id_1 id_2 id_4 z k.toNat) (15 + 5 * k + 2).toNat v (15 + 5 * k + 1).toNat = z (15 + 5 * k.toNat + 1) := fun v => (va_up_ne _ _ (by omega)).trans r1
    have s41 : ∀ v, va_up (rf_mk (rn_0 q m) id_1 id_2 id_4 z k.toNat) (15 + 5 * k + 4).toNat v (15 + 5 * k + 1).toNat = z (15 + 5 * k.toNat + 1) := fun v => (va_up_ne _ _ (by omega)).trans r1
    have s02 : ∀ v, va_up (rf_mk (rn_0 q m) id_1 id_2 id_4 z k.toNat) (15 + 5 * k).toNat v (15 + 5 * k + 2).toNat = z (15 + 5 * k.toNat + 2) := fun v => (va_up_ne _ _ (by omega)).trans r2
    have s12 : ∀ v, va_up (rf_mk (rn_0 q m) id_1 id_2 id_4 z k.toNat) (15 + 5 * k + 1).toNat v (15 + 5 * k + 2).toNat = z (15 + 5 * k.toNat + 2) := fun v => (va_up_ne _ _ (by omega)).trans r2
    have s42 : ∀ v, va_up (rf_mk (rn_0 q m) id_1 id_2 id_4 z k.toNat) (15 + 5 * k + 4).toNat v (15 + 5 * k + 2).toNat = z (15 + 5 * k.toNat + 2) := fun v => (va_up_ne _ _ (by omega)).trans r2
    have s04 : ∀ v, va_up (rf_mk (rn_0 q m) id_1 id_2 id_4 z k.toNat) (15 + 5 * k).toNat v (15 + 5 * k + 4).toNat = z (15 + 5 * k.toNat + 4) := fun v => (va_up_ne _ _ (by omega)).trans r4
    have s14 : ∀ v, va_up (rf_mk (rn_0 q m) id_1 id_2 id_4 z k.toNat) (15 + 5 * k + 1).toNat v (15 + 5 * k + 4).toNat = z (15 + 5 * k.toNat + 4) := fun v => (va_up_ne _ _ (by omega)).trans r4
    have s24 : ∀ v, va_up (rf_mk (rn_0 q m) id_1 id_2 id_4 z k.toNat) (15 + 5 * k + 2).toNat v (15 + 5 * k + 4).toNat = z (15 + 5 * k.toNat + 4) := fun v => (va_up_ne _ _ (by omega)).trans r4
    refine ji_iload_n dX8_renumber_63 rfl ?_
    refine ji_aload_n dX8_renumber_64 rfl trivial ?_
    refine ji_get (ci := 8) (k := 1) rfl dX8_renumber_65 lX8_7 (by decide) (rf_60) rfl ?_
    refine ji_bipush dX8_renumber_68 rfl ?_
    refine ji_ialoadK (k := 14) dX8_renumber_70 (rf_61) rfl (by decide) ?_
    rw [e14]
    refine ji_icmp_ge (tgt := 114) dX8_renumber_71 rfl (by omega) (by omega) (fun c71 => absurd c71 (by omega)) (fun c71 => ?_)
    refine ji_aload_n dX8_renumber_74 rfl trivial ?_
    refine ji_get (ci := 8) (k := 1) rfl dX8_renumber_75 lX8_7 (by decide) (rf_60) rfl ?_
    refine ji_bipush dX8_renumber_78 rfl ?_
    refine ji_iconst dX8_renumber_80 ?_
    refine ji_iload_n dX8_renumber_81 rfl ?_
    refine ji_imul dX8_renumber_82 ?_
    refine ji_iadd dX8_renumber_83 ?_
    refine ji_dup2 dX8_renumber_84 rfl rfl ?_
    refine ji_iaload dX8_renumber_85 (rf_61) (by omega) ?_
    rw [r0]
    refine ji_aload_n dX8_renumber_86 rfl trivial ?_
    refine ji_get (ci := 8) (k := 1) rfl dX8_renumber_87 lX8_7 (by decide) (rf_60) rfl ?_
    refine ji_bipush dX8_renumber_90 rfl ?_
    refine ji_iconst dX8_renumber_92 ?_
    refine ji_iload_n dX8_renumber_93 rfl ?_
    refine ji_imul dX8_renumber_94 ?_
    refine ji_iadd dX8_renumber_95 ?_
    refine ji_iaload dX8_renumber_96 (rf_61) (by omega) ?_
    rw [r0]
    refine ji_iload_n dX8_renumber_97 rfl ?_
    refine ji_icmp_lt (tgt := 105) dX8_renumber_98 rfl (by omega) (by omega) (fun c98 => ?_) (fun c98 => ?_)
    · try (exfalso; omega)
      all_goals
        refine ji_iconst dX8_renumber_105 ?_
        refine ji_iadd dX8_renumber_106 ?_
        refine ji_iastoreE dX8_renumber_107 (rf_61) (by omega) (rf_s61) ?_
        refine ji_iinc dX8_renumber_108 (by decide) rfl rfl ?_
        refine ji_goto (tgt := 63) dX8_renumber_111 rfl ?_
        exact ji_eqv (ih (k + 1) _ (by omega)) rfl rfl (by rw [show (k + 1).toNat = k.toNat + 1 by omega]; (try rw [show (15 + 5 * k + 1).toNat = 15 + 5 * k.toNat + 1 by omega]); (try rw [show (15 + 5 * k + 2).toNat = 15 + 5 * k.toNat + 2 by omega]); (try rw [show (15 + 5 * k + 4).toNat = 15 + 5 * k.toNat + 4 by omega]); (try rw [show (15 + 5 * k).toNat = 15 + 5 * k.toNat by omega]); exact congrArg (fun r9 => (n, rf_f f th r9 kp ed nt nl wi ht sy sz bf rs rr rq rp mm ln lo lf lt co ro pg pf hsh)) (rf_mk_e (fun j hj => by rw [va_up_ne _ _ (by omega)]) (by rw [va_up_self]; unfold rn_0; (repeat' split) <;> omega) (by rw [va_up_ne _ _ (by omega), rf_mk_r (by omega)]; rfl) (by rw [va_up_ne _ _ (by omega), rf_mk_r (by omega)]; rfl) (by rw [va_up_ne _ _ (by omega), rf_mk_r (by omega)]) (by rw [va_up_ne _ _ (by omega), rf_mk_r (by omega)]; rfl)))
    · try (exfalso; omega)
      all_goals
        refine ji_iload_n dX8_renumber_101 rfl ?_
        refine ji_goto (tgt := 106) dX8_renumber_102 rfl ?_
        refine ji_iadd dX8_renumber_106 ?_
        refine ji_iastoreE dX8_renumber_107 (rf_61) (by omega) (rf_s61) ?_
        refine ji_iinc dX8_renumber_108 (by decide) rfl rfl ?_
        refine ji_goto (tgt := 63) dX8_renumber_111 rfl ?_
        exact ji_eqv (ih (k + 1) _ (by omega)) rfl rfl (by rw [show (k + 1).toNat = k.toNat + 1 by omega]; (try rw [show (15 + 5 * k + 1).toNat = 15 + 5 * k.toNat + 1 by omega]); (try rw [show (15 + 5 * k + 2).toNat = 15 + 5 * k.toNat + 2 by omega]); (try rw [show (15 + 5 * k + 4).toNat = 15 + 5 * k.toNat + 4 by omega]); (try rw [show (15 + 5 * k).toNat = 15 + 5 * k.toNat by omega]); exact congrArg (fun r9 => (n, rf_f f th r9 kp ed nt nl wi ht sy sz bf rs rr rq rp mm ln lo lf lt co ro pg pf hsh)) (rf_mk_e (fun j hj => by rw [va_up_ne _ _ (by omega)]) (by rw [va_up_self]; unfold rn_0; (repeat' split) <;> omega) (by rw [va_up_ne _ _ (by omega), rf_mk_r (by omega)]; rfl) (by rw [va_up_ne _ _ (by omega), rf_mk_r (by omega)]; rfl) (by rw [va_up_ne _ _ (by omega), rf_mk_r (by omega)]) (by rw [va_up_ne _ _ (by omega), rf_mk_r (by omega)]; rfl)))

def rf_RN (z : Nat → Int) (q m : Int) : Nat → Int := rf_mk (rn_0 q m) id_1 id_2 id_4 (rf_pl (rn_a q m) id_b z (z 3 + 1).toNat) (rf_pl (rn_a q m) id_b z (z 3 + 1).toNat 14).toNat
theorem rn_ab {q m : Int} (hm : -1 ≤ m ∧ m ≤ 1) {x : Int} (u v : Int) (h1 : -x ≤ u ∧ u ≤ x) : -(x + 1) ≤ rn_a q m u v ∧ rn_a q m u v ≤ x + 1 := by unfold rn_a; split <;> omega
set_option maxHeartbeats 4000000 in
set_option maxRecDepth 100000 in
theorem r_renumber {q m : Int} (hq : 0 ≤ q ∧ q < 11) (hm : -1 ≤ m ∧ m ≤ 1) (hB : ∀ j, -15000 ≤ z j ∧ z j ≤ 15000) (h3 : 0 ≤ z 3 ∧ z 3 ≤ 5) (h14 : 0 ≤ z 14 ∧ z 14 ≤ 12) : JR G d mX8_renumber [.ref 60, .int (jI q), .int (jI m)] (n, rf_f f th z kp ed nt nl wi ht sy sz bf rs rr rq rp mm ln lo lf lt co ro pg pf hsh) 0 0 none (n, rf_f f th (rf_RN z q m) kp ed nt nl wi ht sy sz bf rs rr rq rp mm ln lo lf lt co ro pg pf hsh) := by
  have e14 : rf_pl (rn_a q m) id_b z (z 3 + 1).toNat 14 = z 14 := rf_pl_h (by omega) (by omega)
  refine ji_ent (by decide) rfl (Nat.le_of_ble_eq_true rfl) rfl ?_
  refine ji_iconst dX8_renumber_0 ?_
  refine ji_istore_n dX8_renumber_1 (by decide) rfl ?_
  refine ji_eqv (h2 := (n, rf_f f th (rf_pl (rn_a q m) id_b z (0 : Int).toNat) kp ed nt nl wi ht sy sz bf rs rr rq rp mm ln lo lf lt co ro pg pf hsh)) (r_renumber_p hq hm (fun j => by have := hB j; omega) h3 (fun k o => ?_) (z 3 + 1).toNat 0 _ (by omega)) rfl rfl (by rw [show (0 : Int).toNat = 0 from rfl, rf_pl_0])
  refine ji_iconst dX8_renumber_61 ?_
  refine ji_istore_n dX8_renumber_62 (by decide) rfl ?_
  exact ji_eqv (h2 := (n, rf_f f th (rf_mk (rn_0 q m) id_1 id_2 id_4 (rf_pl (rn_a q m) id_b z (z 3 + 1).toNat) (0 : Int).toNat) kp ed nt nl wi ht sy sz bf rs rr rq rp mm ln lo lf lt co ro pg pf hsh)) (r_renumber_m (z := rf_pl (rn_a q m) id_b z (z 3 + 1).toNat) hq hm (fun j => by have := rf_pl_b (y := 15001) (a := rn_a q m) (b := id_b) hB (by omega) (fun u v h1 _ => rn_ab hm u v h1) (fun u v _ h2 => by unfold id_b; omega) (z 3 + 1).toNat j; omega) (by omega) (rf_pl (rn_a q m) id_b z (z 3 + 1).toNat 14).toNat 0 _ (by omega)) rfl rfl (by rw [show (0 : Int).toNat = 0 from rfl, rf_mk_0])

end RF
