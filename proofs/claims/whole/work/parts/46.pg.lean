/-! ===== History, seen from the whole; find ===== -/
def mk_cp (D S : mk_T) : mk_T := (S.1, S.2.1, S.2.2.1, va_cpy S.2.2.2.1 D.2.2.2.1 0 0 5, va_cpy S.2.2.2.2.1 D.2.2.2.2.1 0 0 12, va_cpy S.2.2.2.2.2.1 D.2.2.2.2.2.1 0 0 12, va_cpy S.2.2.2.2.2.2 D.2.2.2.2.2.2 0 0 12)
def hi_fo (H : hi_T) : hi_T := (3, fun i => if i < 3 then H.2.1 (i + 1) else H.2.1 i, fun i => if i < 3 then H.2.2.1 (i + 1) else if i = 3 then H.2.2.1 0 else H.2.2.1 i, H.2.2.2)
def hi_k0 (H : hi_T) (M : mk_T) (bk : Nat) : hi_T := (H.1 + 1, va_up H.2.1 H.1.toNat (some bk), H.2.2.1, va_up H.2.2.2 (H.2.2.1 H.1.toNat) (mk_cp (H.2.2.2 (H.2.2.1 H.1.toNat)) M))
def hi_k (H : hi_T) (M : mk_T) (bk : Nat) : hi_T := if H.1 < 4 then hi_k0 H M bk else hi_k0 (hi_fo H) M bk
section PG
variable {G : ji_G} {d n : Nat} {f : Nat → ji_C} {I : in_T} {P : pg_T} {M : mk_T} {H : hi_T} {Y Z : ly_T} {B : bk_T} {NT : nt_T} {SB : Nat → bk_T}

theorem cl_j12 (k : Nat) (hk : 1 ≤ k ∧ k ≤ 4) : cl_f f I P M H Y Z (12 + k) = mk_H 12 cl_z M (12 + k) := cl_a12 (by omega)
theorem cl_s0 {j : Nat} (hj : j < 4) : (n, cl_f f I P M H Y Z).2 (20 + 5 * j) = .inl (4, [.int (jI (H.2.2.2 j).1), .int (jI (H.2.2.2 j).2.1), .ref (20 + 5 * j + 1), .int (jI (H.2.2.2 j).2.2.1), .ref (20 + 5 * j + 2), .ref (20 + 5 * j + 3), .ref (20 + 5 * j + 4)]) := (cl_smx hj (by omega)).trans mk_0
theorem cl_sk {j : Nat} (hj : j < 4) (k : Nat) (hk : k ≤ 4) : cl_f f I P M H Y Z (20 + 5 * j + k) = mk_H (20 + 5 * j) cl_z (H.2.2.2 j) (20 + 5 * j + k) := cl_smx hj (by omega)
theorem c_forgetOldest (hh : hi_ok n f H SB) (he : H.1 = 4) : JR G d mX1_forgetOldest [.ref 17] (n, cl_f f I P M H Y Z) 0 0 none (n, cl_f f I P M (hi_fo H) Y Z) := by
  obtain ⟨h1, h2, h3, h4⟩ := hh
  obtain ⟨b1, q1, w1, -⟩ := h4 1 (by omega)
  obtain ⟨b2, q2, w2, -⟩ := h4 2 (by omega)
  obtain ⟨b3, q3, w3, -⟩ := h4 3 (by omega)
  obtain ⟨_, _, _, v1, -, -, -, ⟨d1, -, -⟩, -⟩ := w1
  obtain ⟨_, _, _, v2, -, -, -, ⟨d2, -, -⟩, -⟩ := w2
  obtain ⟨_, _, _, v3, -, -, -, ⟨d3, -, -⟩, -⟩ := w3
  have p0 := h2 0 (by omega)
  have p1 := h2 1 (by omega)
  have p2 := h2 2 (by omega)
  have p3 := h2 3 (by omega)
  have k := k_History_forgetOldest (G := G) (d := d) (n := n) (f := cl_f f I P M H Y Z) (e := H.1) (bf := H.2.1) (mf := fun i => some (20 + 5 * H.2.2.1 i)) ⟨q1, q2, q3⟩ ⟨rfl, rfl, rfl, rfl⟩ ⟨(cl_dh (n := n) d1).trans v1, (cl_dh (n := n) d2).trans v2, (cl_dh (n := n) d3).trans v3⟩ ⟨cl_s0 (n := n) p0, cl_s0 (n := n) p1, cl_s0 (n := n) p2, cl_s0 (n := n) p3⟩ (by unfold ji_dy at d1 d2 d3; omega) (by omega)
  have e1 : va_up (va_up (va_up H.2.1 0 (some b1)) 1 (some b2)) 2 (some b3) = (hi_fo H).2.1 := by
    funext i
    show _ = if i < 3 then H.2.1 (i + 1) else H.2.1 i
    unfold va_up
    by_cases z2 : i = 2
    · rw [if_pos z2, if_pos (by omega), z2, q3]
    · rw [if_neg z2]
      by_cases z1 : i = 1
      · rw [if_pos z1, if_pos (by omega), z1, q2]
      · rw [if_neg z1]
        by_cases z0 : i = 0
        · rw [if_pos z0, if_pos (by omega), z0, q1]
        · rw [if_neg z0, if_neg (by omega)]
  have e2 : va_up (va_up (va_up (va_up (fun i => some (20 + 5 * H.2.2.1 i)) 0 (some (20 + 5 * H.2.2.1 1))) 1 (some (20 + 5 * H.2.2.1 2))) 2 (some (20 + 5 * H.2.2.1 3))) 3 (some (20 + 5 * H.2.2.1 0)) = fun i => some (20 + 5 * (hi_fo H).2.2.1 i) := by
    funext i
    show _ = some (20 + 5 * (if i < 3 then H.2.2.1 (i + 1) else if i = 3 then H.2.2.1 0 else H.2.2.1 i))
    unfold va_up
    by_cases z3 : i = 3
    · rw [if_pos z3, if_neg (by omega), if_pos z3]
    · rw [if_neg z3]
      by_cases z2 : i = 2
      · rw [if_pos z2, if_pos (by omega), z2]
      · rw [if_neg z2]
        by_cases z1 : i = 1
        · rw [if_pos z1, if_pos (by omega), z1]
        · rw [if_neg z1]
          by_cases z0 : i = 0
          · rw [if_pos z0, if_pos (by omega), z0]
          · rw [if_neg z0, if_neg (by omega), if_neg z3]
  rw [e1, e2] at k
  exact cl_jH 3 (hi_fo H).2.1 (hi_fo H).2.2.1 k
theorem cl_ph17 {v : Int} : ((n, cl_f f I P M H Y Z).1, va_up (n, cl_f f I P M H Y Z).2 17 (.inl (1, ([.ref 18, .ref 19, .int (jI H.1)] : List Value).set 2 (.int (jI v))))) = (n, cl_f f I P M (v, H.2) Y Z) := by
  refine Prod.ext rfl (funext fun x => ?_)
  show va_up (cl_f f I P M H Y Z) 17 _ x = cl_f f I P M (v, H.2) Y Z x
  by_cases hx : x = 17
  · subst hx; rw [va_up_self, cl_17]; rfl
  · rw [va_up_ne _ _ hx]
    rcases (show x = 18 ∨ x = 19 ∨ (x < 17 ∨ 19 < x) by omega) with rfl | rfl | h
    · rw [cl_18, cl_18]
    · rw [cl_19, cl_19]
    · exact cl_xh h
theorem cl_s18 {v : Nat → Option Nat} : ((n, cl_f f I P M H Y Z).1, va_up (n, cl_f f I P M H Y Z).2 18 (.inr (.object RX0, 4, .inr (.inr v)))) = (n, cl_f f I P M (H.1, v, H.2.2) Y Z) := by
  refine Prod.ext rfl (funext fun x => ?_)
  show va_up (cl_f f I P M H Y Z) 18 _ x = cl_f f I P M (H.1, v, H.2.2) Y Z x
  by_cases hx : x = 18
  · subst hx; rw [va_up_self, cl_18]
  · rw [va_up_ne _ _ hx]
    rcases (show x = 17 ∨ x = 19 ∨ (x < 17 ∨ 19 < x) by omega) with rfl | rfl | h
    · rw [cl_17, cl_17]
    · rw [cl_19, cl_19]
    · exact cl_xh h
theorem ji_aastoreC {mm : ji_M} {pc : Nat} {L : List (Option Value)} {st : List Value} {bc bs : Nat} {Q : ji_R → ji_H → Prop} {a : Nat} {fs : List Value} {i : Int} (hd : decode mm.2.1 pc = .ok (.aastore, 1)) (hi : 0 ≤ i ∧ i < 4) (ha : ji_dy a) (ho : f a = .inl (0, fs))
    (kk : JW G d mm (pc + 1) L st (n, cl_f f I P M (H.1, va_up H.2.1 i.toNat (some a), H.2.2) Y Z) bc bs Q) : JW G d mm pc L (.ref a :: .int (jI i) :: .ref 18 :: st) (n, cl_f f I P M H Y Z) bc bs Q :=
  ji_aastore (C := RX0) (T := TX0) (N := 3) hd cl_18h (fun cy => rfl) (by omega) rfl ((cl_dh ha).trans ho) (by rw [cl_s18]; exact kk)
theorem c_save {j : Nat} (hj : j < 4) : JR G (d + 1) mX4_copy [.ref (20 + 5 * j), .ref 12] (n, cl_f f I P M H Y Z) 0 0 none (n, cl_f f I P M (H.1, H.2.1, H.2.2.1, va_up H.2.2.2 j (mk_cp (H.2.2.2 j) M)) Y Z) :=
  cl_jS hj (mk_cp (H.2.2.2 j) M) (k_Marks_copy (b := 20 + 5 * j) (b2 := 12) (r2 := M.1) (j2 := M.2.1) (a2 := M.2.2.1) (J2 := M.2.2.2.1) (F2 := M.2.2.2.2.1) (T2 := M.2.2.2.2.2.1) (C2 := M.2.2.2.2.2.2) (by omega) (@cl_12 f I P M H Y Z) ((cl_j12 1 (by omega)).trans mk_1) ((cl_j12 2 (by omega)).trans mk_2) ((cl_j12 3 (by omega)).trans mk_3) ((cl_j12 4 (by omega)).trans mk_4))
theorem c_restore {j : Nat} (hj : j < 4) : JR G (d + 1) mX4_copy [.ref 12, .ref (20 + 5 * j)] (n, cl_f f I P M H Y Z) 0 0 none (n, cl_f f I P (mk_cp M (H.2.2.2 j)) H Y Z) :=
  cl_jM (mk_cp M (H.2.2.2 j)) (k_Marks_copy (b := 12) (b2 := 20 + 5 * j) (r2 := (H.2.2.2 j).1) (j2 := (H.2.2.2 j).2.1) (a2 := (H.2.2.2 j).2.2.1) (J2 := (H.2.2.2 j).2.2.2.1) (F2 := (H.2.2.2 j).2.2.2.2.1) (T2 := (H.2.2.2 j).2.2.2.2.2.1) (C2 := (H.2.2.2 j).2.2.2.2.2.2) (by omega) (cl_s0 (n := n) hj) ((cl_sk hj 1 (by omega)).trans mk_1) ((cl_sk hj 2 (by omega)).trans mk_2) ((cl_sk hj 3 (by omega)).trans mk_3) ((cl_sk hj 4 (by omega)).trans mk_4))
set_option maxHeartbeats 4000000 in
set_option maxRecDepth 100000 in
theorem c_keep0 (hh : hi_ok n f H SB) (he : 0 ≤ H.1 ∧ H.1 < 4) {bk : Nat} {fs : List Value} (hb0 : f bk = .inl (0, fs)) (hbd : ji_dy bk) : JR G (d + 2) mX1_keep [.ref 17, .ref bk, .ref 12] (n, cl_f f I P M H Y Z) 0 0 none (n, cl_f f I P M (hi_k0 H M bk) Y Z) := by
  have hpi := hh.2.1 H.1.toNat (by omega)
  refine ji_ent (by decide) rfl (Nat.le_of_ble_eq_true rfl) rfl ?_
  refine ji_aload_n dX1_keep_0 rfl trivial ?_
  refine ji_get (ci := 1) (k := 2) rfl dX1_keep_1 lX1_24 (by decide) (cl_17h) rfl ?_
  refine ji_iconst dX1_keep_4 ?_
  refine ji_icmp_lt (tgt := 12) dX1_keep_5 rfl (by omega) (by omega) (fun c5 => ?_) (fun c5 => absurd c5 (by omega))
  refine ji_aload_n dX1_keep_12 rfl trivial ?_
  refine ji_get (ci := 1) (k := 2) rfl dX1_keep_13 lX1_24 (by decide) (cl_17h) rfl ?_
  refine ji_if_lt (tgt := 31) dX1_keep_16 rfl (by omega) (fun c16 => absurd c16 (by omega)) (fun c16 => ?_)
  refine ji_aload_n dX1_keep_19 rfl trivial ?_
  refine ji_get (ci := 1) (k := 1) rfl dX1_keep_20 lX1_19 (by decide) (cl_17h) rfl ?_
  refine ji_aload_n dX1_keep_23 rfl trivial ?_
  refine ji_get (ci := 1) (k := 2) rfl dX1_keep_24 lX1_24 (by decide) (cl_17h) rfl ?_
  refine ji_aaloadS dX1_keep_27 (cl_19h) (fun cy => rfl) (by omega) (rfl) ?_
  refine ji_goto (tgt := 32) dX1_keep_28 rfl ?_
  refine ji_astore_n dX1_keep_32 (by decide) trivial rfl ?_
  refine ji_aload_n dX1_keep_33 rfl trivial ?_
  refine ji_ifnull dX1_keep_34 ?_
  refine ji_aload_n dX1_keep_37 rfl trivial ?_
  refine ji_aload_n dX1_keep_38 rfl trivial ?_
  refine ji_cVv dX1_keep_39 (c_save hpi) rfl (cl_s0 hpi) rfl rfl wX4_copy vX4_copy lX1_31 rfl (Nat.le_of_ble_eq_true rfl) rfl ?_
  refine ji_aload_n dX1_keep_42 rfl trivial ?_
  refine ji_get (ci := 1) (k := 0) rfl dX1_keep_43 lX1_11 (by decide) (cl_17h) rfl ?_
  refine ji_aload_n dX1_keep_46 rfl trivial ?_
  refine ji_get (ci := 1) (k := 2) rfl dX1_keep_47 lX1_24 (by decide) (cl_17h) rfl ?_
  refine ji_aload_n dX1_keep_50 rfl trivial ?_
  refine ji_aastoreC dX1_keep_51 (by omega) hbd hb0 ?_
  refine ji_aload_n dX1_keep_52 rfl trivial ?_
  refine ji_dup dX1_keep_53 rfl ?_
  refine ji_get (ci := 1) (k := 2) rfl dX1_keep_54 lX1_24 (by decide) (cl_17h) rfl ?_
  refine ji_iconst dX1_keep_57 ?_
  refine ji_iadd dX1_keep_58 ?_
  refine ji_putE (ci := 1) (k := 2) rfl dX1_keep_59 lX1_24 (by decide) (cl_17h) (by simp) (ji_fitI _) rfl (cl_ph17) ?_
  exact ji_return dX1_keep_62 rfl ⟨rfl, rfl⟩

set_option maxHeartbeats 4000000 in
set_option maxRecDepth 100000 in
theorem c_keep4 (hh : hi_ok n f H SB) (he : H.1 = 4) {bk : Nat} {fs : List Value} (hb0 : f bk = .inl (0, fs)) (hbd : ji_dy bk) : JR G (d + 2) mX1_keep [.ref 17, .ref bk, .ref 12] (n, cl_f f I P M H Y Z) 0 0 none (n, cl_f f I P M (hi_k0 (hi_fo H) M bk) Y Z) := by
  have hpi : (hi_fo H).2.2.1 (3 : Int).toNat < 4 := by show (if (3 : Nat) < 3 then H.2.2.1 (3 + 1) else if (3 : Nat) = 3 then H.2.2.1 0 else H.2.2.1 3) < 4; rw [if_neg (by omega), if_pos rfl]; exact hh.2.1 0 (by omega)
  refine ji_ent (by decide) rfl (Nat.le_of_ble_eq_true rfl) rfl ?_
  refine ji_aload_n dX1_keep_0 rfl trivial ?_
  refine ji_get (ci := 1) (k := 2) rfl dX1_keep_1 lX1_24 (by decide) (cl_17h) rfl ?_
  refine ji_iconst dX1_keep_4 ?_
  refine ji_icmp_lt (tgt := 12) dX1_keep_5 rfl (by omega) (by omega) (fun c5 => absurd c5 (by omega)) (fun c5 => ?_)
  refine ji_aload_n dX1_keep_8 rfl trivial ?_
  refine ji_cVv dX1_keep_9 (c_forgetOldest hh he) rfl (cl_17h) rfl rfl wX1_forgetOldest vX1_forgetOldest lX1_28 rfl (Nat.le_of_ble_eq_true rfl) rfl ?_
  refine ji_aload_n dX1_keep_12 rfl trivial ?_
  refine ji_get (ci := 1) (k := 2) rfl dX1_keep_13 lX1_24 (by decide) (cl_17h) rfl ?_
  refine ji_if_lt (tgt := 31) dX1_keep_16 rfl (show (-2147483648 : Int) ≤ 3 ∧ (3 : Int) < 2147483648 by omega) (fun c16 => absurd c16 (show ¬ (3 : Int) < 0 by omega)) (fun c16 => ?_)
  refine ji_aload_n dX1_keep_19 rfl trivial ?_
  refine ji_get (ci := 1) (k := 1) rfl dX1_keep_20 lX1_19 (by decide) (cl_17h) rfl ?_
  refine ji_aload_n dX1_keep_23 rfl trivial ?_
  refine ji_get (ci := 1) (k := 2) rfl dX1_keep_24 lX1_24 (by decide) (cl_17h) rfl ?_
  refine ji_aaloadS dX1_keep_27 (cl_19h) (fun cy => rfl) (show (0 : Int) ≤ 3 ∧ (3 : Int) < (4 : Nat) ∧ (3 : Int) < 2147483648 by omega) (rfl) ?_
  refine ji_goto (tgt := 32) dX1_keep_28 rfl ?_
  refine ji_astore_n dX1_keep_32 (by decide) trivial rfl ?_
  refine ji_aload_n dX1_keep_33 rfl trivial ?_
  refine ji_ifnull dX1_keep_34 ?_
  refine ji_aload_n dX1_keep_37 rfl trivial ?_
  refine ji_aload_n dX1_keep_38 rfl trivial ?_
  refine ji_cVv dX1_keep_39 (c_save hpi) rfl (cl_s0 hpi) rfl rfl wX4_copy vX4_copy lX1_31 rfl (Nat.le_of_ble_eq_true rfl) rfl ?_
  refine ji_aload_n dX1_keep_42 rfl trivial ?_
  refine ji_get (ci := 1) (k := 0) rfl dX1_keep_43 lX1_11 (by decide) (cl_17h) rfl ?_
  refine ji_aload_n dX1_keep_46 rfl trivial ?_
  refine ji_get (ci := 1) (k := 2) rfl dX1_keep_47 lX1_24 (by decide) (cl_17h) rfl ?_
  refine ji_aload_n dX1_keep_50 rfl trivial ?_
  refine ji_aastoreC dX1_keep_51 (show (0 : Int) ≤ 3 ∧ (3 : Int) < 4 by omega) hbd hb0 ?_
  refine ji_aload_n dX1_keep_52 rfl trivial ?_
  refine ji_dup dX1_keep_53 rfl ?_
  refine ji_get (ci := 1) (k := 2) rfl dX1_keep_54 lX1_24 (by decide) (cl_17h) rfl ?_
  refine ji_iconst dX1_keep_57 ?_
  refine ji_iadd dX1_keep_58 ?_
  refine ji_putE (ci := 1) (k := 2) rfl dX1_keep_59 lX1_24 (by decide) (cl_17h) (by simp) (ji_fitI _) rfl (cl_ph17) ?_
  exact ji_return dX1_keep_62 rfl ⟨rfl, rfl⟩

theorem c_keep (hh : hi_ok n f H SB) {bk : Nat} {fs : List Value} (hb0 : f bk = .inl (0, fs)) (hbd : ji_dy bk) : JR G (d + 2) mX1_keep [.ref 17, .ref bk, .ref 12] (n, cl_f f I P M H Y Z) 0 0 none (n, cl_f f I P M (hi_k H M bk) Y Z) := by
  have h1 := hh.1
  by_cases q : H.1 < 4
  · have e : hi_k H M bk = hi_k0 H M bk := if_pos q
    rw [e]; exact c_keep0 hh ⟨h1.1, q⟩ hb0 hbd
  · have e : hi_k H M bk = hi_k0 (hi_fo H) M bk := if_neg q
    rw [e]; exact c_keep4 hh (by omega) hb0 hbd
set_option maxHeartbeats 4000000 in
set_option maxRecDepth 100000 in
theorem c_bringBack (hh : hi_ok n f H SB) (he : 0 < H.1) : JR G (d + 2) mX1_bringBack [.ref 17, .ref 12] (n, cl_f f I P M H Y Z) 0 0 none (n, cl_f f I P (mk_cp M (H.2.2.2 (H.2.2.1 (H.1 - 1).toNat))) (H.1 - 1, H.2) Y Z) := by
  have hh1 := hh.1
  have hpi := hh.2.1 (H.1 - 1).toNat (by omega)
  refine ji_ent (by decide) rfl (Nat.le_of_ble_eq_true rfl) rfl ?_
  refine ji_aload_n dX1_bringBack_0 rfl trivial ?_
  refine ji_get (ci := 1) (k := 2) rfl dX1_bringBack_1 lX1_24 (by decide) (cl_17h) rfl ?_
  refine ji_if_le (tgt := 29) dX1_bringBack_4 rfl (by omega) (fun c4 => absurd c4 (by omega)) (fun c4 => ?_)
  refine ji_aload_n dX1_bringBack_7 rfl trivial ?_
  refine ji_get (ci := 1) (k := 2) rfl dX1_bringBack_8 lX1_24 (by decide) (cl_17h) rfl ?_
  refine ji_iconst dX1_bringBack_11 ?_
  refine ji_icmp_gt (tgt := 29) dX1_bringBack_12 rfl (by omega) (by omega) (fun c12 => absurd c12 (by omega)) (fun c12 => ?_)
  refine ji_aload_n dX1_bringBack_15 rfl trivial ?_
  refine ji_get (ci := 1) (k := 1) rfl dX1_bringBack_16 lX1_19 (by decide) (cl_17h) rfl ?_
  refine ji_aload_n dX1_bringBack_19 rfl trivial ?_
  refine ji_get (ci := 1) (k := 2) rfl dX1_bringBack_20 lX1_24 (by decide) (cl_17h) rfl ?_
  refine ji_iconst dX1_bringBack_23 ?_
  refine ji_isub dX1_bringBack_24 ?_
  refine ji_aaloadS dX1_bringBack_25 (cl_19h) (fun cy => rfl) (by omega) (rfl) ?_
  refine ji_goto (tgt := 30) dX1_bringBack_26 rfl ?_
  refine ji_astore_n dX1_bringBack_30 (by decide) trivial rfl ?_
  refine ji_aload_n dX1_bringBack_31 rfl trivial ?_
  refine ji_ifnull dX1_bringBack_32 ?_
  refine ji_aload_n dX1_bringBack_35 rfl trivial ?_
  refine ji_aload_n dX1_bringBack_36 rfl trivial ?_
  refine ji_cVv dX1_bringBack_37 (c_restore hpi) rfl (cl_12h) rfl rfl wX4_copy vX4_copy lX1_31 rfl (Nat.le_of_ble_eq_true rfl) rfl ?_
  refine ji_aload_n dX1_bringBack_40 rfl trivial ?_
  refine ji_dup dX1_bringBack_41 rfl ?_
  refine ji_get (ci := 1) (k := 2) rfl dX1_bringBack_42 lX1_24 (by decide) (cl_17h) rfl ?_
  refine ji_iconst dX1_bringBack_45 ?_
  refine ji_isub dX1_bringBack_46 ?_
  refine ji_putE (ci := 1) (k := 2) rfl dX1_bringBack_47 lX1_24 (by decide) (cl_17h) (by simp) (ji_fitI _) rfl (cl_ph17) ?_
  exact ji_return dX1_bringBack_50 rfl ⟨rfl, rfl⟩

def cl_bg (I : in_T) (B : bk_T) (k : Int) : Int := in_begins I.1 I.2.1 (bk_m B) (bk_n B) (bk_tx B) (bk_s B) k
def cl_wb (I : in_T) (B : bk_T) (r : Int) : Nat → Int → Int
  | 0, _ => -1
  | u + 1, k => if r < bk_ws B k ∧ ¬ cl_bg I B k = 0 then k else cl_wb I B r u (k + 1)
def cl_wf (I : in_T) (B : bk_T) (r : Int) : Nat → Int
  | 0 => -1
  | u + 1 => if bk_ws B u < r ∧ ¬ cl_bg I B u = 0 then u else cl_wf I B r u
theorem cl_wb_s (I : in_T) (B : bk_T) (r : Int) (u : Nat) (k : Int) : cl_wb I B r (u + 1) k = if r < bk_ws B k ∧ ¬ cl_bg I B k = 0 then k else cl_wb I B r u (k + 1) := rfl
theorem cl_wf_s (I : in_T) (B : bk_T) (r : Int) (u : Nat) : cl_wf I B r (u + 1) = if bk_ws B u < r ∧ ¬ cl_bg I B u = 0 then (u : Int) else cl_wf I B r u := rfl
theorem in_eq_b (len : Int) (g : Nat → Int) (m : Nat) (tx : Nat → Int) (st size : Int) : ∀ (u : Nat) (i : Int), 0 ≤ in_eq len g m tx st size u i ∧ in_eq len g m tx st size u i ≤ 1
  | 0, i => by unfold in_eq; split <;> omega
  | u + 1, i => by unfold in_eq; split; exact in_eq_b len g m tx st size u (i + 1); omega
theorem in_begins_b (len : Int) (g : Nat → Int) (m n : Nat) (tx s : Nat → Int) (k : Int) : 0 ≤ in_begins len g m n tx s k ∧ in_begins len g m n tx s k ≤ 1 := by
  unfold in_begins; split; omega; exact in_eq_b _ _ _ _ _ _ _ _
theorem wd_atI {w m k : Nat} {tx s : Nat → Int} (hw : wd_at (n, f) w m k tx s) : wd_at (in_H n (cl_f f I P M H Y Z) I) w m k tx s := by rw [cl_in]; exact hw.kept cl_kf
set_option maxHeartbeats 4000000 in
set_option maxRecDepth 100000 in
theorem k_wordBehindReader_l (hok : cl_ok n f I P M H Y Z B NT SB) {R : Int} {bw bkq bfq : Nat} (hb0 : f P.2.2.2.2.1 = .inl (0, [.ref bw, .ref bkq, .ref bfq])) (hbw : wd_at (n, f) bw (bk_m B) (bk_n B) (bk_tx B) (bk_s B)) : ∀ (u : Nat) (i : Int), 0 ≤ i ∧ i + u = bk_n B → R = cl_wb I B M.1 u i → JW G (d + 2) mX7_wordBehindReader 10 [some (.ref 0), some (.ref bw), some (.int (jI i))] [] (n, cl_f f I P M H Y Z) 0 0 (fun r9 h9 => r9 = .inl (some (.int (jI R))) ∧ h9 = (n, cl_f f I P M H Y Z)) := by
  obtain ⟨c1, c2, c3, c4, c5, c6, c7, c8, c9, c10, c11, c12⟩ := id hok
  obtain ⟨⟨hm1, hm1'⟩, hm2, hm3, hmJ, hmF, hmT⟩ := id c8
  obtain ⟨hbat, hbok, hbne⟩ := id c6
  obtain ⟨⟨hw1, hw2⟩, hh1, hh2⟩ := id c5
  obtain ⟨wt, wq, hw0', -, -, ⟨hwd, -, -⟩, -⟩ := id hbw
  have hn0 := hbok.1.2.1
  intro u
  induction u with
  | zero =>
    intro i hi hR
    refine ji_iload_n dX7_wordBehindReader_10 rfl ?_
    refine ji_aload_n dX7_wordBehindReader_11 rfl trivial ?_
    refine ji_cV dX7_wordBehindReader_12 (k_Words_size (hbw.kept cl_kf) hbok.1) rfl ((cl_dh hwd).trans hw0') rfl rfl wX6_size vX6_size lX7_390 rfl (Nat.le_of_ble_eq_true rfl) rfl ?_
    refine ji_icmp_ge (tgt := 53) dX7_wordBehindReader_15 rfl (by omega) (by omega) (fun c15 => ?_) (fun c15 => absurd c15 (by omega))
    refine ji_iconst dX7_wordBehindReader_53 ?_
    exact ji_ireturn dX7_wordBehindReader_54 rfl (rfl) ⟨jr_i hR.symm, rfl⟩
  | succ u ih =>
    intro i hi hR
    have w1 := bk_ws_b hbok i
    have w2 := in_begins_b I.1 I.2.1 (bk_m B) (bk_n B) (bk_tx B) (bk_s B) i
    have w3 : cl_bg I B i = in_begins I.1 I.2.1 (bk_m B) (bk_n B) (bk_tx B) (bk_s B) i := rfl
    have w4 : bk_ws B i = wd_start (bk_m B) (bk_n B) (bk_s B) i := rfl
    refine ji_iload_n dX7_wordBehindReader_10 rfl ?_
    refine ji_aload_n dX7_wordBehindReader_11 rfl trivial ?_
    refine ji_cV dX7_wordBehindReader_12 (k_Words_size (hbw.kept cl_kf) hbok.1) rfl ((cl_dh hwd).trans hw0') rfl rfl wX6_size vX6_size lX7_390 rfl (Nat.le_of_ble_eq_true rfl) rfl ?_
    refine ji_icmp_ge (tgt := 53) dX7_wordBehindReader_15 rfl (by omega) (by omega) (fun c15 => absurd c15 (by omega)) (fun c15 => ?_)
    refine ji_aload_n dX7_wordBehindReader_18 rfl trivial ?_
    refine ji_iload_n dX7_wordBehindReader_19 rfl ?_
    refine ji_cV dX7_wordBehindReader_20 (k_Words_startOf (hbw.kept cl_kf) hbok.1 (by omega)) rfl ((cl_dh hwd).trans hw0') rfl rfl wX6_startOf vX6_startOf lX7_234 rfl (Nat.le_of_ble_eq_true rfl) rfl ?_
    refine ji_aload_n dX7_wordBehindReader_23 rfl trivial ?_
    refine ji_get (ci := 7) (k := 6) rfl dX7_wordBehindReader_24 lX7_48 (by decide) (cl_0h) rfl ?_
    refine ji_cV dX7_wordBehindReader_27 (cl_jMs k_Marks_reader) rfl (cl_12h) rfl rfl wX4_reader vX4_reader lX7_352 rfl (Nat.le_of_ble_eq_true rfl) rfl ?_
    refine ji_icmp_le (tgt := 47) dX7_wordBehindReader_30 rfl (by omega) (by omega) (fun c30 => ?_) (fun c30 => ?_)
    · try (exfalso; omega)
      all_goals
        refine ji_iinc dX7_wordBehindReader_47 (by decide) rfl rfl ?_
        refine ji_goto (tgt := 10) dX7_wordBehindReader_50 rfl ?_
        first | (exfalso; omega) | exact ih (i + 1) (by omega) (by rw [hR, cl_wb_s, if_neg (by omega)])
    · try (exfalso; omega)
      all_goals
        refine ji_aload_n dX7_wordBehindReader_33 rfl trivial ?_
        refine ji_get (ci := 7) (k := 0) rfl dX7_wordBehindReader_34 lX7_12 (by decide) (cl_0h) rfl ?_
        refine ji_aload_n dX7_wordBehindReader_37 rfl trivial ?_
        refine ji_iload_n dX7_wordBehindReader_38 rfl ?_
        refine ji_cV dX7_wordBehindReader_39 (cl_jI I (k_Input_beginsWith (wd_atI hbw) hbok.1 c2 (by omega))) rfl (cl_1h) rfl rfl wX2_beginsWith vX2_beginsWith lX7_459 rfl (Nat.le_of_ble_eq_true rfl) rfl ?_
        refine ji_if_eq (tgt := 47) dX7_wordBehindReader_42 rfl (by omega) (fun c42 => ?_) (fun c42 => ?_)
        · try (exfalso; omega)
          all_goals
            refine ji_iinc dX7_wordBehindReader_47 (by decide) rfl rfl ?_
            refine ji_goto (tgt := 10) dX7_wordBehindReader_50 rfl ?_
            first | (exfalso; omega) | exact ih (i + 1) (by omega) (by rw [hR, cl_wb_s, if_neg (by omega)])
        · try (exfalso; omega)
          all_goals
            refine ji_iload_n dX7_wordBehindReader_45 rfl ?_
            exact ji_ireturn dX7_wordBehindReader_46 rfl (rfl) ⟨jr_i (by rw [hR, cl_wb_s, if_pos (by omega)]), rfl⟩

set_option maxHeartbeats 4000000 in
set_option maxRecDepth 100000 in
theorem k_wordBeforeReader_l (hok : cl_ok n f I P M H Y Z B NT SB) {R : Int} {bw bkq bfq : Nat} (hb0 : f P.2.2.2.2.1 = .inl (0, [.ref bw, .ref bkq, .ref bfq])) (hbw : wd_at (n, f) bw (bk_m B) (bk_n B) (bk_tx B) (bk_s B)) : ∀ (u : Nat) (i : Int), i + 1 = u ∧ i < bk_n B → R = cl_wf I B M.1 u → JW G (d + 2) mX7_wordBeforeReader 15 [some (.ref 0), some (.ref bw), some (.int (jI i))] [] (n, cl_f f I P M H Y Z) 0 0 (fun r9 h9 => r9 = .inl (some (.int (jI R))) ∧ h9 = (n, cl_f f I P M H Y Z)) := by
  obtain ⟨c1, c2, c3, c4, c5, c6, c7, c8, c9, c10, c11, c12⟩ := id hok
  obtain ⟨⟨hm1, hm1'⟩, hm2, hm3, hmJ, hmF, hmT⟩ := id c8
  obtain ⟨hbat, hbok, hbne⟩ := id c6
  obtain ⟨⟨hw1, hw2⟩, hh1, hh2⟩ := id c5
  obtain ⟨wt, wq, hw0', -, -, ⟨hwd, -, -⟩, -⟩ := id hbw
  have hn0 := hbok.1.2.1
  intro u
  induction u with
  | zero =>
    intro i hi hR
    refine ji_iload_n dX7_wordBeforeReader_15 rfl ?_
    refine ji_if_lt (tgt := 54) dX7_wordBeforeReader_16 rfl (by omega) (fun c16 => ?_) (fun c16 => absurd c16 (by omega))
    refine ji_iconst dX7_wordBeforeReader_54 ?_
    exact ji_ireturn dX7_wordBeforeReader_55 rfl (rfl) ⟨jr_i hR.symm, rfl⟩
  | succ u ih =>
    intro i hi hR
    have e0 : ((u : Nat) : Int) = i := by omega
    have w1 := bk_ws_b hbok i
    have w2 := in_begins_b I.1 I.2.1 (bk_m B) (bk_n B) (bk_tx B) (bk_s B) i
    have w3 : cl_bg I B i = in_begins I.1 I.2.1 (bk_m B) (bk_n B) (bk_tx B) (bk_s B) i := rfl
    have w4 : bk_ws B i = wd_start (bk_m B) (bk_n B) (bk_s B) i := rfl
    refine ji_iload_n dX7_wordBeforeReader_15 rfl ?_
    refine ji_if_lt (tgt := 54) dX7_wordBeforeReader_16 rfl (by omega) (fun c16 => absurd c16 (by omega)) (fun c16 => ?_)
    refine ji_aload_n dX7_wordBeforeReader_19 rfl trivial ?_
    refine ji_iload_n dX7_wordBeforeReader_20 rfl ?_
    refine ji_cV dX7_wordBeforeReader_21 (k_Words_startOf (hbw.kept cl_kf) hbok.1 (by omega)) rfl ((cl_dh hwd).trans hw0') rfl rfl wX6_startOf vX6_startOf lX7_234 rfl (Nat.le_of_ble_eq_true rfl) rfl ?_
    refine ji_aload_n dX7_wordBeforeReader_24 rfl trivial ?_
    refine ji_get (ci := 7) (k := 6) rfl dX7_wordBeforeReader_25 lX7_48 (by decide) (cl_0h) rfl ?_
    refine ji_cV dX7_wordBeforeReader_28 (cl_jMs k_Marks_reader) rfl (cl_12h) rfl rfl wX4_reader vX4_reader lX7_352 rfl (Nat.le_of_ble_eq_true rfl) rfl ?_
    refine ji_icmp_ge (tgt := 48) dX7_wordBeforeReader_31 rfl (by omega) (by omega) (fun c31 => ?_) (fun c31 => ?_)
    · try (exfalso; omega)
      all_goals
        refine ji_iinc dX7_wordBeforeReader_48 (by decide) rfl rfl ?_
        refine ji_goto (tgt := 15) dX7_wordBeforeReader_51 rfl ?_
        first | (exfalso; omega) | exact ih (i - 1) (by omega) (by rw [hR, cl_wf_s, if_neg (by rw [e0]; omega)])
    · try (exfalso; omega)
      all_goals
        refine ji_aload_n dX7_wordBeforeReader_34 rfl trivial ?_
        refine ji_get (ci := 7) (k := 0) rfl dX7_wordBeforeReader_35 lX7_12 (by decide) (cl_0h) rfl ?_
        refine ji_aload_n dX7_wordBeforeReader_38 rfl trivial ?_
        refine ji_iload_n dX7_wordBeforeReader_39 rfl ?_
        refine ji_cV dX7_wordBeforeReader_40 (cl_jI I (k_Input_beginsWith (wd_atI hbw) hbok.1 c2 (by omega))) rfl (cl_1h) rfl rfl wX2_beginsWith vX2_beginsWith lX7_459 rfl (Nat.le_of_ble_eq_true rfl) rfl ?_
        refine ji_if_eq (tgt := 48) dX7_wordBeforeReader_43 rfl (by omega) (fun c43 => ?_) (fun c43 => ?_)
        · try (exfalso; omega)
          all_goals
            refine ji_iinc dX7_wordBeforeReader_48 (by decide) rfl rfl ?_
            refine ji_goto (tgt := 15) dX7_wordBeforeReader_51 rfl ?_
            first | (exfalso; omega) | exact ih (i - 1) (by omega) (by rw [hR, cl_wf_s, if_neg (by rw [e0]; omega)])
        · try (exfalso; omega)
          all_goals
            refine ji_iload_n dX7_wordBeforeReader_46 rfl ?_
            exact ji_ireturn dX7_wordBeforeReader_47 rfl (rfl) ⟨jr_i (by rw [hR, cl_wf_s, if_pos (by rw [e0]; omega)]; exact e0.symm), rfl⟩

set_option maxHeartbeats 4000000 in
set_option maxRecDepth 100000 in
theorem k_wordBehindReader (hok : cl_ok n f I P M H Y Z B NT SB) : JR G (d + 2) mX7_wordBehindReader [.ref 0] (n, cl_f f I P M H Y Z) 0 0 (some (.int (jI (cl_wb I B M.1 (bk_n B) 0)))) (n, cl_f f I P M H Y Z) := by
  obtain ⟨c1, c2, c3, c4, c5, c6, c7, c8, c9, c10, c11, c12⟩ := id hok
  obtain ⟨⟨hm1, hm1'⟩, hm2, hm3, hmJ, hmF, hmT⟩ := id c8
  obtain ⟨hbat, hbok, hbne⟩ := id c6
  obtain ⟨bw, bkq, bfq, hb0, hb1, hb2, hbw, ⟨hbd, -, -⟩, -⟩ := id hbat
  obtain ⟨⟨hw1, hw2⟩, hh1, hh2⟩ := id c5
  obtain ⟨wt, wq, hw0', -, -, ⟨hwd, -, -⟩, -⟩ := id hbw
  have hn0 := hbok.1.2.1
  refine ji_ent (by decide) rfl (Nat.le_of_ble_eq_true rfl) rfl ?_
  refine ji_aload_n dX7_wordBehindReader_0 rfl trivial ?_
  refine ji_get (ci := 7) (k := 5) rfl dX7_wordBehindReader_1 lX7_41 (by decide) (cl_0h) rfl ?_
  refine ji_cV dX7_wordBehindReader_4 (k_Book_words_w ((cl_dh hbd).trans hb0)) rfl ((cl_dh hbd).trans hb0) rfl rfl wX0_words vX0_words lX7_230 rfl (Nat.le_of_ble_eq_true rfl) rfl ?_
  refine ji_astore_n dX7_wordBehindReader_7 (by decide) trivial rfl ?_
  refine ji_iconst dX7_wordBehindReader_8 ?_
  refine ji_istore_n dX7_wordBehindReader_9 (by decide) rfl ?_
  exact k_wordBehindReader_l hok hb0 hbw (bk_n B) 0 (by omega) rfl

set_option maxHeartbeats 4000000 in
set_option maxRecDepth 100000 in
theorem k_wordBeforeReader (hok : cl_ok n f I P M H Y Z B NT SB) : JR G (d + 2) mX7_wordBeforeReader [.ref 0] (n, cl_f f I P M H Y Z) 0 0 (some (.int (jI (cl_wf I B M.1 (bk_n B))))) (n, cl_f f I P M H Y Z) := by
  obtain ⟨c1, c2, c3, c4, c5, c6, c7, c8, c9, c10, c11, c12⟩ := id hok
  obtain ⟨⟨hm1, hm1'⟩, hm2, hm3, hmJ, hmF, hmT⟩ := id c8
  obtain ⟨hbat, hbok, hbne⟩ := id c6
  obtain ⟨bw, bkq, bfq, hb0, hb1, hb2, hbw, ⟨hbd, -, -⟩, -⟩ := id hbat
  obtain ⟨⟨hw1, hw2⟩, hh1, hh2⟩ := id c5
  obtain ⟨wt, wq, hw0', -, -, ⟨hwd, -, -⟩, -⟩ := id hbw
  have hn0 := hbok.1.2.1
  refine ji_ent (by decide) rfl (Nat.le_of_ble_eq_true rfl) rfl ?_
  refine ji_aload_n dX7_wordBeforeReader_0 rfl trivial ?_
  refine ji_get (ci := 7) (k := 5) rfl dX7_wordBeforeReader_1 lX7_41 (by decide) (cl_0h) rfl ?_
  refine ji_cV dX7_wordBeforeReader_4 (k_Book_words_w ((cl_dh hbd).trans hb0)) rfl ((cl_dh hbd).trans hb0) rfl rfl wX0_words vX0_words lX7_230 rfl (Nat.le_of_ble_eq_true rfl) rfl ?_
  refine ji_astore_n dX7_wordBeforeReader_7 (by decide) trivial rfl ?_
  refine ji_aload_n dX7_wordBeforeReader_8 rfl trivial ?_
  refine ji_cV dX7_wordBeforeReader_9 (k_Words_size (hbw.kept cl_kf) hbok.1) rfl ((cl_dh hwd).trans hw0') rfl rfl wX6_size vX6_size lX7_390 rfl (Nat.le_of_ble_eq_true rfl) rfl ?_
  refine ji_iconst dX7_wordBeforeReader_12 ?_
  refine ji_isub dX7_wordBeforeReader_13 ?_
  refine ji_istore_n dX7_wordBeforeReader_14 (by decide) rfl ?_
  exact k_wordBeforeReader_l hok hb0 hbw (bk_n B) _ (by omega) rfl

end PG
