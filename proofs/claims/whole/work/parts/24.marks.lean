/-! ===== Marks: the object at b, its rows behind it ===== -/
theorem ji_acopyE {G : ji_G} {d : Nat} {M : ji_M} {pc : Nat} {L : List (Option Value)} {st : List Value} {h h2 : ji_H} {bc bs : Nat} {Q : ji_R → ji_H → Prop} {idx q0 q1 n0 n1 : Nat} {f g : Nat → Int} {ty : FieldType} {sp dp n : Int} (hd : decode M.2.1 pc = .ok (.invokestatic idx, 3)) (hl : ji_in (.methodLink M.1.cls idx arraycopyName)) (hq0 : h.2 q0 = .inr (ty, n0, .inl f)) (hq1 : h.2 q1 = .inr (ty, n1, .inl g)) (hty : ∀ cy : Nat → ClassId, (ji_tys cy)[ji_ti ty]? = some (cy (ji_ti ty), ty)) (hprim : refKind ty = false)
    (hs : 0 ≤ sp ∧ sp + n ≤ n0) (hp : 0 ≤ dp ∧ dp + n ≤ n1) (hn : 0 ≤ n) (hb : n0 < 2147483648 ∧ n1 < 2147483648) (hfit : ∀ i : Nat, (i : Int) < n → fits ty (.int (jI (f (sp.toNat + i)))) = true) (hcat : (st.map fun v => v.category).sum ≤ 8) (he : (h.1, va_up h.2 q1 (.inr (ty, n1, .inl (va_cpy f g sp.toNat dp.toNat n.toNat)))) = h2)
    (kk : JW G (d + 1) M (pc + 3) L st h2 bc bs Q) : JW G (d + 1) M pc L (.int (jI n) :: .int (jI dp) :: .ref q1 :: .int (jI sp) :: .ref q0 :: st) h bc bs Q := ji_acopy hd hl hq0 hq1 hty hprim hs hp hn hb hfit hcat (he ▸ kk)
def mk_h (b : Nat) (f : Nat → ji_C) (r j a : Int) (J F T C : Nat → Int) : Nat → ji_C :=
  va_up (va_up (va_up (va_up (va_up f b (.inl (4, [.int (jI r), .int (jI j), .ref (b + 1), .int (jI a), .ref (b + 2), .ref (b + 3), .ref (b + 4)]))) (b + 1) (.inr (.int, 5, .inl J))) (b + 2) (.inr (.int, 12, .inl F))) (b + 3) (.inr (.int, 12, .inl T))) (b + 4) (.inr (.int, 12, .inl C))
section MMarks
variable {G : ji_G} {d n b : Nat} {f : Nat → ji_C} {r j a : Int} {J F T C : Nat → Int}
theorem mk_0 : mk_h b f r j a J F T C b = .inl (4, [.int (jI r), .int (jI j), .ref (b + 1), .int (jI a), .ref (b + 2), .ref (b + 3), .ref (b + 4)]) := by unfold mk_h va_up; (repeat' split) <;> first | rfl | (exfalso; omega)
theorem mk_1 : mk_h b f r j a J F T C (b + 1) = .inr (.int, 5, .inl J) := by unfold mk_h va_up; (repeat' split) <;> first | rfl | (exfalso; omega)
theorem mk_2 : mk_h b f r j a J F T C (b + 2) = .inr (.int, 12, .inl F) := by unfold mk_h va_up; (repeat' split) <;> first | rfl | (exfalso; omega)
theorem mk_3 : mk_h b f r j a J F T C (b + 3) = .inr (.int, 12, .inl T) := by unfold mk_h va_up; (repeat' split) <;> first | rfl | (exfalso; omega)
theorem mk_4 : mk_h b f r j a J F T C (b + 4) = .inr (.int, 12, .inl C) := by unfold mk_h va_up; (repeat' split) <;> first | rfl | (exfalso; omega)
theorem mk_o {x : Nat} (hx : x < b ∨ b + 4 < x) : mk_h b f r j a J F T C x = f x := by unfold mk_h va_up; (repeat' split) <;> first | rfl | (exfalso; omega)
theorem mk_pr {v : Int} : ((n, mk_h b f r j a J F T C).1, va_up (n, mk_h b f r j a J F T C).2 b (.inl (4, ([.int (jI r), .int (jI j), .ref (b + 1), .int (jI a), .ref (b + 2), .ref (b + 3), .ref (b + 4)] : List Value).set 0 (.int (jI v))))) = (n, mk_h b f v j a J F T C) := by refine Prod.ext rfl (funext fun x => ?_); show va_up (mk_h b f r j a J F T C) b _ x = mk_h b f v j a J F T C x; unfold mk_h va_up; (repeat' split) <;> first | rfl | (exfalso; omega)
theorem mk_pj {v : Int} : ((n, mk_h b f r j a J F T C).1, va_up (n, mk_h b f r j a J F T C).2 b (.inl (4, ([.int (jI r), .int (jI j), .ref (b + 1), .int (jI a), .ref (b + 2), .ref (b + 3), .ref (b + 4)] : List Value).set 1 (.int (jI v))))) = (n, mk_h b f r v a J F T C) := by refine Prod.ext rfl (funext fun x => ?_); show va_up (mk_h b f r j a J F T C) b _ x = mk_h b f r v a J F T C x; unfold mk_h va_up; (repeat' split) <;> first | rfl | (exfalso; omega)
theorem mk_pa {v : Int} : ((n, mk_h b f r j a J F T C).1, va_up (n, mk_h b f r j a J F T C).2 b (.inl (4, ([.int (jI r), .int (jI j), .ref (b + 1), .int (jI a), .ref (b + 2), .ref (b + 3), .ref (b + 4)] : List Value).set 3 (.int (jI v))))) = (n, mk_h b f r j v J F T C) := by refine Prod.ext rfl (funext fun x => ?_); show va_up (mk_h b f r j a J F T C) b _ x = mk_h b f r j v J F T C x; unfold mk_h va_up; (repeat' split) <;> first | rfl | (exfalso; omega)
theorem mk_sJ {v : Nat → Int} : ((n, mk_h b f r j a J F T C).1, va_up (n, mk_h b f r j a J F T C).2 (b + 1) (.inr (.int, 5, .inl v))) = (n, mk_h b f r j a v F T C) := by refine Prod.ext rfl (funext fun x => ?_); show va_up (mk_h b f r j a J F T C) (b + 1) _ x = mk_h b f r j a v F T C x; unfold mk_h va_up; (repeat' split) <;> first | rfl | (exfalso; omega)
theorem mk_sF {v : Nat → Int} : ((n, mk_h b f r j a J F T C).1, va_up (n, mk_h b f r j a J F T C).2 (b + 2) (.inr (.int, 12, .inl v))) = (n, mk_h b f r j a J v T C) := by refine Prod.ext rfl (funext fun x => ?_); show va_up (mk_h b f r j a J F T C) (b + 2) _ x = mk_h b f r j a J v T C x; unfold mk_h va_up; (repeat' split) <;> first | rfl | (exfalso; omega)
theorem mk_sT {v : Nat → Int} : ((n, mk_h b f r j a J F T C).1, va_up (n, mk_h b f r j a J F T C).2 (b + 3) (.inr (.int, 12, .inl v))) = (n, mk_h b f r j a J F v C) := by refine Prod.ext rfl (funext fun x => ?_); show va_up (mk_h b f r j a J F T C) (b + 3) _ x = mk_h b f r j a J F v C x; unfold mk_h va_up; (repeat' split) <;> first | rfl | (exfalso; omega)
theorem mk_sC {v : Nat → Int} : ((n, mk_h b f r j a J F T C).1, va_up (n, mk_h b f r j a J F T C).2 (b + 4) (.inr (.int, 12, .inl v))) = (n, mk_h b f r j a J F T v) := by refine Prod.ext rfl (funext fun x => ?_); show va_up (mk_h b f r j a J F T C) (b + 4) _ x = mk_h b f r j a J F T v x; unfold mk_h va_up; (repeat' split) <;> first | rfl | (exfalso; omega)
set_option maxHeartbeats 4000000 in
set_option maxRecDepth 100000 in
theorem k_Marks_reader   : JR G d mX4_reader [.ref b] (n, mk_h b f r j a J F T C) 0 0 (some (.int (jI (r)))) (n, mk_h b f r j a J F T C) := by
  refine ji_ent (by decide) rfl (Nat.le_of_ble_eq_true rfl) rfl ?_
  refine ji_aload_n dX4_reader_0 rfl trivial ?_
  refine ji_get (ci := 4) (k := 0) rfl dX4_reader_1 lX4_24 (by decide) (mk_0) rfl ?_
  exact ji_ireturn dX4_reader_4 rfl (rfl) ⟨jr_i (by omega), rfl⟩

set_option maxHeartbeats 4000000 in
set_option maxRecDepth 100000 in
theorem k_Marks_jumps   : JR G d mX4_jumps [.ref b] (n, mk_h b f r j a J F T C) 0 0 (some (.int (jI (j)))) (n, mk_h b f r j a J F T C) := by
  refine ji_ent (by decide) rfl (Nat.le_of_ble_eq_true rfl) rfl ?_
  refine ji_aload_n dX4_jumps_0 rfl trivial ?_
  refine ji_get (ci := 4) (k := 1) rfl dX4_jumps_1 lX4_28 (by decide) (mk_0) rfl ?_
  exact ji_ireturn dX4_jumps_4 rfl (rfl) ⟨jr_i (by omega), rfl⟩

set_option maxHeartbeats 4000000 in
set_option maxRecDepth 100000 in
theorem k_Marks_annotations   : JR G d mX4_annotations [.ref b] (n, mk_h b f r j a J F T C) 0 0 (some (.int (jI (a)))) (n, mk_h b f r j a J F T C) := by
  refine ji_ent (by decide) rfl (Nat.le_of_ble_eq_true rfl) rfl ?_
  refine ji_aload_n dX4_annotations_0 rfl trivial ?_
  refine ji_get (ci := 4) (k := 3) rfl dX4_annotations_1 lX4_31 (by decide) (mk_0) rfl ?_
  exact ji_ireturn dX4_annotations_4 rfl (rfl) ⟨jr_i (by omega), rfl⟩

set_option maxHeartbeats 4000000 in
set_option maxRecDepth 100000 in
theorem k_Marks_setReader  {v : Int} : JR G d mX4_setReader [.ref b, .int (jI (v))] (n, mk_h b f r j a J F T C) 0 0 none (n, mk_h b f v j a J F T C) := by
  refine ji_ent (by decide) rfl (Nat.le_of_ble_eq_true rfl) rfl ?_
  refine ji_aload_n dX4_setReader_0 rfl trivial ?_
  refine ji_iload_n dX4_setReader_1 rfl ?_
  refine ji_putE (ci := 4) (k := 0) rfl dX4_setReader_2 lX4_24 (by decide) (mk_0) (by simp) (ji_fitI _) rfl (mk_pr) ?_
  exact ji_return dX4_setReader_5 rfl ⟨rfl, rfl⟩

set_option maxHeartbeats 4000000 in
set_option maxRecDepth 100000 in
theorem k_Marks_reset   : JR G d mX4_reset [.ref b] (n, mk_h b f r j a J F T C) 0 0 none (n, mk_h b f 0 0 0 J F T C) := by
  refine ji_ent (by decide) rfl (Nat.le_of_ble_eq_true rfl) rfl ?_
  refine ji_aload_n dX4_reset_0 rfl trivial ?_
  refine ji_iconst dX4_reset_1 ?_
  refine ji_putE (ci := 4) (k := 0) rfl dX4_reset_2 lX4_24 (by decide) (mk_0) (by simp) (ji_fitI _) rfl (mk_pr) ?_
  refine ji_aload_n dX4_reset_5 rfl trivial ?_
  refine ji_iconst dX4_reset_6 ?_
  refine ji_putE (ci := 4) (k := 1) rfl dX4_reset_7 lX4_28 (by decide) (mk_0) (by simp) (ji_fitI _) rfl (mk_pj) ?_
  refine ji_aload_n dX4_reset_10 rfl trivial ?_
  refine ji_iconst dX4_reset_11 ?_
  refine ji_putE (ci := 4) (k := 3) rfl dX4_reset_12 lX4_31 (by decide) (mk_0) (by simp) (ji_fitI _) rfl (mk_pa) ?_
  exact ji_return dX4_reset_15 rfl ⟨rfl, rfl⟩

set_option maxHeartbeats 4000000 in
set_option maxRecDepth 100000 in
theorem k_Marks_copy {b2 : Nat} {r2 j2 a2 : Int} {J2 F2 T2 C2 : Nat → Int} (hne : b2 + 4 < b ∨ b + 4 < b2) (h0 : f b2 = .inl (4, [.int (jI r2), .int (jI j2), .ref (b2 + 1), .int (jI a2), .ref (b2 + 2), .ref (b2 + 3), .ref (b2 + 4)])) (h1 : f (b2 + 1) = .inr (.int, 5, .inl J2)) (h2 : f (b2 + 2) = .inr (.int, 12, .inl F2)) (h3 : f (b2 + 3) = .inr (.int, 12, .inl T2)) (h4 : f (b2 + 4) = .inr (.int, 12, .inl C2)): JR G (d + 1) mX4_copy [.ref b, .ref b2] (n, mk_h b f r j a J F T C) 0 0 none (n, mk_h b f r2 j2 a2 (va_cpy J2 J 0 0 5) (va_cpy F2 F 0 0 12) (va_cpy T2 T 0 0 12) (va_cpy C2 C 0 0 12)) := by
  refine ji_ent (by decide) rfl (Nat.le_of_ble_eq_true rfl) rfl ?_
  refine ji_aload_n dX4_copy_0 rfl trivial ?_
  refine ji_aload_n dX4_copy_1 rfl trivial ?_
  refine ji_get (ci := 4) (k := 0) rfl dX4_copy_2 lX4_24 (by decide) ((mk_o (by omega)).trans h0) rfl ?_
  refine ji_putE (ci := 4) (k := 0) rfl dX4_copy_5 lX4_24 (by decide) (mk_0) (by simp) (ji_fitI _) rfl (mk_pr) ?_
  refine ji_aload_n dX4_copy_8 rfl trivial ?_
  refine ji_aload_n dX4_copy_9 rfl trivial ?_
  refine ji_get (ci := 4) (k := 1) rfl dX4_copy_10 lX4_28 (by decide) ((mk_o (by omega)).trans h0) rfl ?_
  refine ji_putE (ci := 4) (k := 1) rfl dX4_copy_13 lX4_28 (by decide) (mk_0) (by simp) (ji_fitI _) rfl (mk_pj) ?_
  refine ji_aload_n dX4_copy_16 rfl trivial ?_
  refine ji_get (ci := 4) (k := 2) rfl dX4_copy_17 lX4_9 (by decide) ((mk_o (by omega)).trans h0) rfl ?_
  refine ji_iconst dX4_copy_20 ?_
  refine ji_aload_n dX4_copy_21 rfl trivial ?_
  refine ji_get (ci := 4) (k := 2) rfl dX4_copy_22 lX4_9 (by decide) (mk_0) rfl ?_
  refine ji_iconst dX4_copy_25 ?_
  refine ji_iconst dX4_copy_26 ?_
  refine ji_acopyE dX4_copy_27 lX4_34 ((mk_o (by omega)).trans h1) (mk_1) (fun cy => rfl) rfl (by omega) (by omega) (by omega) (by omega) (fun i hi => rfl) (Nat.le_of_ble_eq_true rfl) (mk_sJ) ?_
  refine ji_aload_n dX4_copy_30 rfl trivial ?_
  refine ji_aload_n dX4_copy_31 rfl trivial ?_
  refine ji_get (ci := 4) (k := 3) rfl dX4_copy_32 lX4_31 (by decide) ((mk_o (by omega)).trans h0) rfl ?_
  refine ji_putE (ci := 4) (k := 3) rfl dX4_copy_35 lX4_31 (by decide) (mk_0) (by simp) (ji_fitI _) rfl (mk_pa) ?_
  refine ji_aload_n dX4_copy_38 rfl trivial ?_
  refine ji_get (ci := 4) (k := 4) rfl dX4_copy_39 lX4_15 (by decide) ((mk_o (by omega)).trans h0) rfl ?_
  refine ji_iconst dX4_copy_42 ?_
  refine ji_aload_n dX4_copy_43 rfl trivial ?_
  refine ji_get (ci := 4) (k := 4) rfl dX4_copy_44 lX4_15 (by decide) (mk_0) rfl ?_
  refine ji_iconst dX4_copy_47 ?_
  refine ji_bipush dX4_copy_48 rfl ?_
  refine ji_acopyE dX4_copy_50 lX4_34 ((mk_o (by omega)).trans h2) (mk_2) (fun cy => rfl) rfl (by omega) (by omega) (by omega) (by omega) (fun i hi => rfl) (Nat.le_of_ble_eq_true rfl) (mk_sF) ?_
  refine ji_aload_n dX4_copy_53 rfl trivial ?_
  refine ji_get (ci := 4) (k := 5) rfl dX4_copy_54 lX4_18 (by decide) ((mk_o (by omega)).trans h0) rfl ?_
  refine ji_iconst dX4_copy_57 ?_
  refine ji_aload_n dX4_copy_58 rfl trivial ?_
  refine ji_get (ci := 4) (k := 5) rfl dX4_copy_59 lX4_18 (by decide) (mk_0) rfl ?_
  refine ji_iconst dX4_copy_62 ?_
  refine ji_bipush dX4_copy_63 rfl ?_
  refine ji_acopyE dX4_copy_65 lX4_34 ((mk_o (by omega)).trans h3) (mk_3) (fun cy => rfl) rfl (by omega) (by omega) (by omega) (by omega) (fun i hi => rfl) (Nat.le_of_ble_eq_true rfl) (mk_sT) ?_
  refine ji_aload_n dX4_copy_68 rfl trivial ?_
  refine ji_get (ci := 4) (k := 6) rfl dX4_copy_69 lX4_21 (by decide) ((mk_o (by omega)).trans h0) rfl ?_
  refine ji_iconst dX4_copy_72 ?_
  refine ji_aload_n dX4_copy_73 rfl trivial ?_
  refine ji_get (ci := 4) (k := 6) rfl dX4_copy_74 lX4_21 (by decide) (mk_0) rfl ?_
  refine ji_iconst dX4_copy_77 ?_
  refine ji_bipush dX4_copy_78 rfl ?_
  refine ji_acopyE dX4_copy_80 lX4_34 ((mk_o (by omega)).trans h4) (mk_4) (fun cy => rfl) rfl (by omega) (by omega) (by omega) (by omega) (fun i hi => rfl) (Nat.le_of_ble_eq_true rfl) (mk_sC) ?_
  exact ji_return dX4_copy_83 rfl ⟨rfl, rfl⟩

set_option maxHeartbeats 4000000 in
set_option maxRecDepth 100000 in
theorem k_Marks_jumpTo  {v : Int} (hj : 0 ≤ j ∧ j < 5) : JR G (d + 1) mX4_jumpTo [.ref b, .int (jI (v))] (n, mk_h b f r j a J F T C) 0 0 none (n, mk_h b f v (j + 1) a (va_up J j.toNat r) F T C) := by
  refine ji_ent (by decide) rfl (Nat.le_of_ble_eq_true rfl) rfl ?_
  refine ji_aload_n dX4_jumpTo_0 rfl trivial ?_
  refine ji_get (ci := 4) (k := 1) rfl dX4_jumpTo_1 lX4_28 (by decide) (mk_0) rfl ?_
  refine ji_iconst dX4_jumpTo_4 ?_
  refine ji_icmp_lt (tgt := 27) dX4_jumpTo_5 rfl (by omega) (by omega) (fun c5 => ?_) (fun c5 => absurd c5 (by omega))
  refine ji_aload_n dX4_jumpTo_27 rfl trivial ?_
  refine ji_get (ci := 4) (k := 1) rfl dX4_jumpTo_28 lX4_28 (by decide) (mk_0) rfl ?_
  refine ji_if_lt (tgt := 57) dX4_jumpTo_31 rfl (by omega) (fun c31 => absurd c31 (by omega)) (fun c31 => ?_)
  refine ji_aload_n dX4_jumpTo_34 rfl trivial ?_
  refine ji_get (ci := 4) (k := 2) rfl dX4_jumpTo_35 lX4_9 (by decide) (mk_0) rfl ?_
  refine ji_aload_n dX4_jumpTo_38 rfl trivial ?_
  refine ji_get (ci := 4) (k := 1) rfl dX4_jumpTo_39 lX4_28 (by decide) (mk_0) rfl ?_
  refine ji_aload_n dX4_jumpTo_42 rfl trivial ?_
  refine ji_get (ci := 4) (k := 0) rfl dX4_jumpTo_43 lX4_24 (by decide) (mk_0) rfl ?_
  refine ji_iastoreE dX4_jumpTo_46 (mk_1) (by omega) (mk_sJ) ?_
  refine ji_aload_n dX4_jumpTo_47 rfl trivial ?_
  refine ji_dup dX4_jumpTo_48 rfl ?_
  refine ji_get (ci := 4) (k := 1) rfl dX4_jumpTo_49 lX4_28 (by decide) (mk_0) rfl ?_
  refine ji_iconst dX4_jumpTo_52 ?_
  refine ji_iadd dX4_jumpTo_53 ?_
  refine ji_putE (ci := 4) (k := 1) rfl dX4_jumpTo_54 lX4_28 (by decide) (mk_0) (by simp) (ji_fitI _) rfl (mk_pj) ?_
  refine ji_aload_n dX4_jumpTo_57 rfl trivial ?_
  refine ji_iload_n dX4_jumpTo_58 rfl ?_
  refine ji_putE (ci := 4) (k := 0) rfl dX4_jumpTo_59 lX4_24 (by decide) (mk_0) (by simp) (ji_fitI _) rfl (mk_pr) ?_
  exact ji_return dX4_jumpTo_62 rfl ⟨rfl, rfl⟩

set_option maxHeartbeats 4000000 in
set_option maxRecDepth 100000 in
theorem k_Marks_jumpTo5  {v : Int} (hj : j = 5) : JR G (d + 1) mX4_jumpTo [.ref b, .int (jI (v))] (n, mk_h b f r j a J F T C) 0 0 none (n, mk_h b f v (4 + 1) a (va_up (va_cpy J J 1 0 4) 4 r) F T C) := by
  refine ji_ent (by decide) rfl (Nat.le_of_ble_eq_true rfl) rfl ?_
  refine ji_aload_n dX4_jumpTo_0 rfl trivial ?_
  refine ji_get (ci := 4) (k := 1) rfl dX4_jumpTo_1 lX4_28 (by decide) (mk_0) rfl ?_
  refine ji_iconst dX4_jumpTo_4 ?_
  refine ji_icmp_lt (tgt := 27) dX4_jumpTo_5 rfl (by omega) (by omega) (fun c5 => absurd c5 (by omega)) (fun c5 => ?_)
  refine ji_aload_n dX4_jumpTo_8 rfl trivial ?_
  refine ji_get (ci := 4) (k := 2) rfl dX4_jumpTo_9 lX4_9 (by decide) (mk_0) rfl ?_
  refine ji_iconst dX4_jumpTo_12 ?_
  refine ji_aload_n dX4_jumpTo_13 rfl trivial ?_
  refine ji_get (ci := 4) (k := 2) rfl dX4_jumpTo_14 lX4_9 (by decide) (mk_0) rfl ?_
  refine ji_iconst dX4_jumpTo_17 ?_
  refine ji_iconst dX4_jumpTo_18 ?_
  refine ji_acopyE dX4_jumpTo_19 lX4_34 (mk_1) (mk_1) (fun cy => rfl) rfl (by omega) (by omega) (by omega) (by omega) (fun i hi => rfl) (Nat.le_of_ble_eq_true rfl) (mk_sJ) ?_
  refine ji_aload_n dX4_jumpTo_22 rfl trivial ?_
  refine ji_iconst dX4_jumpTo_23 ?_
  refine ji_putE (ci := 4) (k := 1) rfl dX4_jumpTo_24 lX4_28 (by decide) (mk_0) (by simp) (ji_fitI _) rfl (mk_pj) ?_
  refine ji_aload_n dX4_jumpTo_27 rfl trivial ?_
  refine ji_get (ci := 4) (k := 1) rfl dX4_jumpTo_28 lX4_28 (by decide) (mk_0) rfl ?_
  refine ji_if_lt (tgt := 57) dX4_jumpTo_31 rfl (by omega) (fun c31 => absurd c31 (by omega)) (fun c31 => ?_)
  refine ji_aload_n dX4_jumpTo_34 rfl trivial ?_
  refine ji_get (ci := 4) (k := 2) rfl dX4_jumpTo_35 lX4_9 (by decide) (mk_0) rfl ?_
  refine ji_aload_n dX4_jumpTo_38 rfl trivial ?_
  refine ji_get (ci := 4) (k := 1) rfl dX4_jumpTo_39 lX4_28 (by decide) (mk_0) rfl ?_
  refine ji_aload_n dX4_jumpTo_42 rfl trivial ?_
  refine ji_get (ci := 4) (k := 0) rfl dX4_jumpTo_43 lX4_24 (by decide) (mk_0) rfl ?_
  refine ji_iastoreE dX4_jumpTo_46 (mk_1) (by omega) (mk_sJ) ?_
  refine ji_aload_n dX4_jumpTo_47 rfl trivial ?_
  refine ji_dup dX4_jumpTo_48 rfl ?_
  refine ji_get (ci := 4) (k := 1) rfl dX4_jumpTo_49 lX4_28 (by decide) (mk_0) rfl ?_
  refine ji_iconst dX4_jumpTo_52 ?_
  refine ji_iadd dX4_jumpTo_53 ?_
  refine ji_putE (ci := 4) (k := 1) rfl dX4_jumpTo_54 lX4_28 (by decide) (mk_0) (by simp) (ji_fitI _) rfl (mk_pj) ?_
  refine ji_aload_n dX4_jumpTo_57 rfl trivial ?_
  refine ji_iload_n dX4_jumpTo_58 rfl ?_
  refine ji_putE (ci := 4) (k := 0) rfl dX4_jumpTo_59 lX4_24 (by decide) (mk_0) (by simp) (ji_fitI _) rfl (mk_pr) ?_
  exact ji_return dX4_jumpTo_62 rfl ⟨rfl, rfl⟩

set_option maxHeartbeats 4000000 in
set_option maxRecDepth 100000 in
theorem k_Marks_jumpBack  (hj : 0 < j ∧ j ≤ 5) : JR G d mX4_jumpBack [.ref b] (n, mk_h b f r j a J F T C) 0 0 none (n, mk_h b f (J (j - 1).toNat) (j - 1) a J F T C) := by
  refine ji_ent (by decide) rfl (Nat.le_of_ble_eq_true rfl) rfl ?_
  refine ji_aload_n dX4_jumpBack_0 rfl trivial ?_
  refine ji_get (ci := 4) (k := 1) rfl dX4_jumpBack_1 lX4_28 (by decide) (mk_0) rfl ?_
  refine ji_if_le (tgt := 38) dX4_jumpBack_4 rfl (by omega) (fun c4 => absurd c4 (by omega)) (fun c4 => ?_)
  refine ji_aload_n dX4_jumpBack_7 rfl trivial ?_
  refine ji_get (ci := 4) (k := 1) rfl dX4_jumpBack_8 lX4_28 (by decide) (mk_0) rfl ?_
  refine ji_iconst dX4_jumpBack_11 ?_
  refine ji_icmp_gt (tgt := 38) dX4_jumpBack_12 rfl (by omega) (by omega) (fun c12 => absurd c12 (by omega)) (fun c12 => ?_)
  refine ji_aload_n dX4_jumpBack_15 rfl trivial ?_
  refine ji_dup dX4_jumpBack_16 rfl ?_
  refine ji_get (ci := 4) (k := 1) rfl dX4_jumpBack_17 lX4_28 (by decide) (mk_0) rfl ?_
  refine ji_iconst dX4_jumpBack_20 ?_
  refine ji_isub dX4_jumpBack_21 ?_
  refine ji_putE (ci := 4) (k := 1) rfl dX4_jumpBack_22 lX4_28 (by decide) (mk_0) (by simp) (ji_fitI _) rfl (mk_pj) ?_
  refine ji_aload_n dX4_jumpBack_25 rfl trivial ?_
  refine ji_aload_n dX4_jumpBack_26 rfl trivial ?_
  refine ji_get (ci := 4) (k := 2) rfl dX4_jumpBack_27 lX4_9 (by decide) (mk_0) rfl ?_
  refine ji_aload_n dX4_jumpBack_30 rfl trivial ?_
  refine ji_get (ci := 4) (k := 1) rfl dX4_jumpBack_31 lX4_28 (by decide) (mk_0) rfl ?_
  refine ji_iaload dX4_jumpBack_34 (mk_1) (by omega) ?_
  refine ji_putE (ci := 4) (k := 0) rfl dX4_jumpBack_35 lX4_24 (by decide) (mk_0) (by simp) (ji_fitI _) rfl (mk_pr) ?_
  exact ji_return dX4_jumpBack_38 rfl ⟨rfl, rfl⟩

set_option maxHeartbeats 4000000 in
set_option maxRecDepth 100000 in
theorem k_Marks_addAnnotation  {x1 x2 x3 : Int} (ha : 0 ≤ a ∧ a < 12) : JR G d mX4_addAnnotation [.ref b, .int (jI (x1)), .int (jI (x2)), .int (jI (x3))] (n, mk_h b f r j a J F T C) 0 0 (some (.int (jI (a)))) (n, mk_h b f r j (a + 1) J (va_up F a.toNat x1) (va_up T a.toNat x2) (va_up C a.toNat x3)) := by
  refine ji_ent (by decide) rfl (Nat.le_of_ble_eq_true rfl) rfl ?_
  refine ji_aload_n dX4_addAnnotation_0 rfl trivial ?_
  refine ji_get (ci := 4) (k := 3) rfl dX4_addAnnotation_1 lX4_31 (by decide) (mk_0) rfl ?_
  refine ji_istore dX4_addAnnotation_4 (by decide) rfl ?_
  refine ji_iload dX4_addAnnotation_6 rfl ?_
  refine ji_if_lt (tgt := 52) dX4_addAnnotation_8 rfl (by omega) (fun c8 => absurd c8 (by omega)) (fun c8 => ?_)
  refine ji_iload dX4_addAnnotation_11 rfl ?_
  refine ji_bipush dX4_addAnnotation_13 rfl ?_
  refine ji_icmp_ge (tgt := 52) dX4_addAnnotation_15 rfl (by omega) (by omega) (fun c15 => absurd c15 (by omega)) (fun c15 => ?_)
  refine ji_aload_n dX4_addAnnotation_18 rfl trivial ?_
  refine ji_get (ci := 4) (k := 4) rfl dX4_addAnnotation_19 lX4_15 (by decide) (mk_0) rfl ?_
  refine ji_iload dX4_addAnnotation_22 rfl ?_
  refine ji_iload_n dX4_addAnnotation_24 rfl ?_
  refine ji_iastoreE dX4_addAnnotation_25 (mk_2) (by omega) (mk_sF) ?_
  refine ji_aload_n dX4_addAnnotation_26 rfl trivial ?_
  refine ji_get (ci := 4) (k := 5) rfl dX4_addAnnotation_27 lX4_18 (by decide) (mk_0) rfl ?_
  refine ji_iload dX4_addAnnotation_30 rfl ?_
  refine ji_iload_n dX4_addAnnotation_32 rfl ?_
  refine ji_iastoreE dX4_addAnnotation_33 (mk_3) (by omega) (mk_sT) ?_
  refine ji_aload_n dX4_addAnnotation_34 rfl trivial ?_
  refine ji_get (ci := 4) (k := 6) rfl dX4_addAnnotation_35 lX4_21 (by decide) (mk_0) rfl ?_
  refine ji_iload dX4_addAnnotation_38 rfl ?_
  refine ji_iload_n dX4_addAnnotation_40 rfl ?_
  refine ji_iastoreE dX4_addAnnotation_41 (mk_4) (by omega) (mk_sC) ?_
  refine ji_aload_n dX4_addAnnotation_42 rfl trivial ?_
  refine ji_dup dX4_addAnnotation_43 rfl ?_
  refine ji_get (ci := 4) (k := 3) rfl dX4_addAnnotation_44 lX4_31 (by decide) (mk_0) rfl ?_
  refine ji_iconst dX4_addAnnotation_47 ?_
  refine ji_iadd dX4_addAnnotation_48 ?_
  refine ji_putE (ci := 4) (k := 3) rfl dX4_addAnnotation_49 lX4_31 (by decide) (mk_0) (by simp) (ji_fitI _) rfl (mk_pa) ?_
  refine ji_iload dX4_addAnnotation_52 rfl ?_
  exact ji_ireturn dX4_addAnnotation_54 rfl (rfl) ⟨rfl, rfl⟩

set_option maxHeartbeats 4000000 in
set_option maxRecDepth 100000 in
theorem k_Marks_dropAnnotation  {k : Int} (hk : 0 ≤ k ∧ k < a ∧ a ≤ 12) : JR G (d + 1) mX4_dropAnnotation [.ref b, .int (jI (k))] (n, mk_h b f r j a J F T C) 0 0 none (n, mk_h b f r j (a - 1) J (va_cpy F F (k + 1).toNat k.toNat (a - 1 - k).toNat) (va_cpy T T (k + 1).toNat k.toNat (a - 1 - k).toNat) (va_cpy C C (k + 1).toNat k.toNat (a - 1 - k).toNat)) := by
  refine ji_ent (by decide) rfl (Nat.le_of_ble_eq_true rfl) rfl ?_
  refine ji_iload_n dX4_dropAnnotation_0 rfl ?_
  refine ji_if_lt (tgt := 21) dX4_dropAnnotation_1 rfl (by omega) (fun c1 => absurd c1 (by omega)) (fun c1 => ?_)
  refine ji_iload_n dX4_dropAnnotation_4 rfl ?_
  refine ji_aload_n dX4_dropAnnotation_5 rfl trivial ?_
  refine ji_get (ci := 4) (k := 3) rfl dX4_dropAnnotation_6 lX4_31 (by decide) (mk_0) rfl ?_
  refine ji_icmp_ge (tgt := 21) dX4_dropAnnotation_9 rfl (by omega) (by omega) (fun c9 => absurd c9 (by omega)) (fun c9 => ?_)
  refine ji_aload_n dX4_dropAnnotation_12 rfl trivial ?_
  refine ji_get (ci := 4) (k := 3) rfl dX4_dropAnnotation_13 lX4_31 (by decide) (mk_0) rfl ?_
  refine ji_bipush dX4_dropAnnotation_16 rfl ?_
  refine ji_icmp_le (tgt := 22) dX4_dropAnnotation_18 rfl (by omega) (by omega) (fun c18 => ?_) (fun c18 => absurd c18 (by omega))
  refine ji_aload_n dX4_dropAnnotation_22 rfl trivial ?_
  refine ji_dup dX4_dropAnnotation_23 rfl ?_
  refine ji_get (ci := 4) (k := 3) rfl dX4_dropAnnotation_24 lX4_31 (by decide) (mk_0) rfl ?_
  refine ji_iconst dX4_dropAnnotation_27 ?_
  refine ji_isub dX4_dropAnnotation_28 ?_
  refine ji_putE (ci := 4) (k := 3) rfl dX4_dropAnnotation_29 lX4_31 (by decide) (mk_0) (by simp) (ji_fitI _) rfl (mk_pa) ?_
  refine ji_aload_n dX4_dropAnnotation_32 rfl trivial ?_
  refine ji_get (ci := 4) (k := 3) rfl dX4_dropAnnotation_33 lX4_31 (by decide) (mk_0) rfl ?_
  refine ji_iload_n dX4_dropAnnotation_36 rfl ?_
  refine ji_isub dX4_dropAnnotation_37 ?_
  refine ji_istore_n dX4_dropAnnotation_38 (by decide) rfl ?_
  refine ji_aload_n dX4_dropAnnotation_39 rfl trivial ?_
  refine ji_get (ci := 4) (k := 4) rfl dX4_dropAnnotation_40 lX4_15 (by decide) (mk_0) rfl ?_
  refine ji_iload_n dX4_dropAnnotation_43 rfl ?_
  refine ji_iconst dX4_dropAnnotation_44 ?_
  refine ji_iadd dX4_dropAnnotation_45 ?_
  refine ji_aload_n dX4_dropAnnotation_46 rfl trivial ?_
  refine ji_get (ci := 4) (k := 4) rfl dX4_dropAnnotation_47 lX4_15 (by decide) (mk_0) rfl ?_
  refine ji_iload_n dX4_dropAnnotation_50 rfl ?_
  refine ji_iload_n dX4_dropAnnotation_51 rfl ?_
  refine ji_acopyE dX4_dropAnnotation_52 lX4_34 (mk_2) (mk_2) (fun cy => rfl) rfl (by omega) (by omega) (by omega) (by omega) (fun i hi => rfl) (Nat.le_of_ble_eq_true rfl) (mk_sF) ?_
  refine ji_aload_n dX4_dropAnnotation_55 rfl trivial ?_
  refine ji_get (ci := 4) (k := 5) rfl dX4_dropAnnotation_56 lX4_18 (by decide) (mk_0) rfl ?_
  refine ji_iload_n dX4_dropAnnotation_59 rfl ?_
  refine ji_iconst dX4_dropAnnotation_60 ?_
  refine ji_iadd dX4_dropAnnotation_61 ?_
  refine ji_aload_n dX4_dropAnnotation_62 rfl trivial ?_
  refine ji_get (ci := 4) (k := 5) rfl dX4_dropAnnotation_63 lX4_18 (by decide) (mk_0) rfl ?_
  refine ji_iload_n dX4_dropAnnotation_66 rfl ?_
  refine ji_iload_n dX4_dropAnnotation_67 rfl ?_
  refine ji_acopyE dX4_dropAnnotation_68 lX4_34 (mk_3) (mk_3) (fun cy => rfl) rfl (by omega) (by omega) (by omega) (by omega) (fun i hi => rfl) (Nat.le_of_ble_eq_true rfl) (mk_sT) ?_
  refine ji_aload_n dX4_dropAnnotation_71 rfl trivial ?_
  refine ji_get (ci := 4) (k := 6) rfl dX4_dropAnnotation_72 lX4_21 (by decide) (mk_0) rfl ?_
  refine ji_iload_n dX4_dropAnnotation_75 rfl ?_
  refine ji_iconst dX4_dropAnnotation_76 ?_
  refine ji_iadd dX4_dropAnnotation_77 ?_
  refine ji_aload_n dX4_dropAnnotation_78 rfl trivial ?_
  refine ji_get (ci := 4) (k := 6) rfl dX4_dropAnnotation_79 lX4_21 (by decide) (mk_0) rfl ?_
  refine ji_iload_n dX4_dropAnnotation_82 rfl ?_
  refine ji_iload_n dX4_dropAnnotation_83 rfl ?_
  refine ji_acopyE dX4_dropAnnotation_84 lX4_34 (mk_4) (mk_4) (fun cy => rfl) rfl (by omega) (by omega) (by omega) (by omega) (fun i hi => rfl) (Nat.le_of_ble_eq_true rfl) (mk_sC) ?_
  exact ji_return dX4_dropAnnotation_87 rfl ⟨rfl, rfl⟩

def mk_ex (a k : Int) : Int := if 0 ≤ k ∧ k < a ∧ k < 12 then 1 else 0
def mk_get (a : Int) (F : Nat → Int) (k : Int) : Int := if 0 ≤ k ∧ k < a ∧ k < 12 then F k.toNat else 0
def mk_lost (a : Int) (F T : Nat → Int) (k : Int) : Int := if mk_get a F k = mk_get a T k then 1 else 0
theorem mk_ex_b (a k : Int) : 0 ≤ mk_ex a k ∧ mk_ex a k ≤ 1 := by unfold mk_ex; split <;> omega
theorem mk_lost_b (a : Int) (F T : Nat → Int) (k : Int) : 0 ≤ mk_lost a F T k ∧ mk_lost a F T k ≤ 1 := by unfold mk_lost; split <;> omega
theorem mk_get_b {a : Int} {F : Nat → Int} (hF : ∀ i, -1000000 ≤ F i ∧ F i ≤ 1000000) (k : Int) : -1000000 ≤ mk_get a F k ∧ mk_get a F k ≤ 1000000 := by unfold mk_get; split; exact hF _; omega

set_option maxHeartbeats 4000000 in
set_option maxRecDepth 100000 in
theorem k_Marks_exists  {k : Int} (hk : -100000 ≤ k ∧ k ≤ 100000) (ha : 0 ≤ a ∧ a ≤ 12) : JR G d mX4_exists [.ref b, .int (jI (k))] (n, mk_h b f r j a J F T C) 0 0 (some (.int (jI (mk_ex a k)))) (n, mk_h b f r j a J F T C) := by
  refine ji_ent (by decide) rfl (Nat.le_of_ble_eq_true rfl) rfl ?_
  refine ji_iload_n dX4_exists_0 rfl ?_
  refine ji_if_lt (tgt := 22) dX4_exists_1 rfl (by omega) (fun c1 => ?_) (fun c1 => ?_)
  · refine ji_iconst dX4_exists_22 ?_
    exact ji_ireturn dX4_exists_23 rfl (by first | rfl | decide) ⟨jr_i (by unfold mk_ex; first | (rw [if_pos (by omega)] <;> omega) | (rw [if_neg (by omega)] <;> omega)), rfl⟩
  · refine ji_iload_n dX4_exists_4 rfl ?_
    refine ji_aload_n dX4_exists_5 rfl trivial ?_
    refine ji_get (ci := 4) (k := 3) rfl dX4_exists_6 lX4_31 (by decide) (mk_0) rfl ?_
    refine ji_icmp_ge (tgt := 22) dX4_exists_9 rfl (by omega) (by omega) (fun c9 => ?_) (fun c9 => ?_)
    · refine ji_iconst dX4_exists_22 ?_
      exact ji_ireturn dX4_exists_23 rfl (by first | rfl | decide) ⟨jr_i (by unfold mk_ex; first | (rw [if_pos (by omega)] <;> omega) | (rw [if_neg (by omega)] <;> omega)), rfl⟩
    · refine ji_iload_n dX4_exists_12 rfl ?_
      refine ji_bipush dX4_exists_13 rfl ?_
      refine ji_icmp_ge (tgt := 22) dX4_exists_15 rfl (by omega) (by omega) (fun c15 => ?_) (fun c15 => ?_)
      · refine ji_iconst dX4_exists_22 ?_
        exact ji_ireturn dX4_exists_23 rfl (by first | rfl | decide) ⟨jr_i (by unfold mk_ex; first | (rw [if_pos (by omega)] <;> omega) | (rw [if_neg (by omega)] <;> omega)), rfl⟩
      · refine ji_iconst dX4_exists_18 ?_
        refine ji_goto (tgt := 23) dX4_exists_19 rfl ?_
        exact ji_ireturn dX4_exists_23 rfl (by first | rfl | decide) ⟨jr_i (by unfold mk_ex; first | (rw [if_pos (by omega)] <;> omega) | (rw [if_neg (by omega)] <;> omega)), rfl⟩

set_option maxHeartbeats 4000000 in
set_option maxRecDepth 100000 in
theorem k_Marks_fromOf  {k : Int} (hk : -100000 ≤ k ∧ k ≤ 100000) (ha : 0 ≤ a ∧ a ≤ 12) : JR G (d + 1) mX4_fromOf [.ref b, .int (jI (k))] (n, mk_h b f r j a J F T C) 0 0 (some (.int (jI (mk_get a F k)))) (n, mk_h b f r j a J F T C) := by
  have q1 := mk_ex_b a k
  have q2 : mk_ex a k = 0 → ¬ (0 ≤ k ∧ k < a ∧ k < 12) := fun z q => by unfold mk_ex at z; rw [if_pos q] at z; omega
  have q3 : mk_ex a k ≠ 0 → (0 ≤ k ∧ k < a ∧ k < 12) := fun z => by unfold mk_ex at z; split at z <;> omega
  refine ji_ent (by decide) rfl (Nat.le_of_ble_eq_true rfl) rfl ?_
  refine ji_aload_n dX4_fromOf_0 rfl trivial ?_
  refine ji_iload_n dX4_fromOf_1 rfl ?_
  refine ji_cV dX4_fromOf_2 (k_Marks_exists (by omega) (by omega)) rfl (mk_0) rfl rfl wX4_exists vX4_exists lX4_40 rfl (Nat.le_of_ble_eq_true rfl) rfl ?_
  refine ji_if_eq (tgt := 17) dX4_fromOf_5 rfl (by first | omega | (have := q3 (by omega); omega)) (fun c5 => ?_) (fun c5 => ?_)
  · refine ji_iconst dX4_fromOf_17 ?_
    exact ji_ireturn dX4_fromOf_18 rfl (rfl) ⟨jr_i (by unfold mk_get; first | rw [if_pos (by omega)] | rw [if_neg (by omega)]), rfl⟩
  · refine ji_aload_n dX4_fromOf_8 rfl trivial ?_
    refine ji_get (ci := 4) (k := 4) rfl dX4_fromOf_9 lX4_15 (by decide) (mk_0) rfl ?_
    refine ji_iload_n dX4_fromOf_12 rfl ?_
    refine ji_iaload dX4_fromOf_13 (mk_2) (by first | omega | (have := q3 (by omega); omega)) ?_
    refine ji_goto (tgt := 18) dX4_fromOf_14 rfl ?_
    exact ji_ireturn dX4_fromOf_18 rfl (rfl) ⟨jr_i (by unfold mk_get; first | rw [if_pos (by omega)] | rw [if_neg (by omega)]), rfl⟩

set_option maxHeartbeats 4000000 in
set_option maxRecDepth 100000 in
theorem k_Marks_toOf  {k : Int} (hk : -100000 ≤ k ∧ k ≤ 100000) (ha : 0 ≤ a ∧ a ≤ 12) : JR G (d + 1) mX4_toOf [.ref b, .int (jI (k))] (n, mk_h b f r j a J F T C) 0 0 (some (.int (jI (mk_get a T k)))) (n, mk_h b f r j a J F T C) := by
  have q1 := mk_ex_b a k
  have q2 : mk_ex a k = 0 → ¬ (0 ≤ k ∧ k < a ∧ k < 12) := fun z q => by unfold mk_ex at z; rw [if_pos q] at z; omega
  have q3 : mk_ex a k ≠ 0 → (0 ≤ k ∧ k < a ∧ k < 12) := fun z => by unfold mk_ex at z; split at z <;> omega
  refine ji_ent (by decide) rfl (Nat.le_of_ble_eq_true rfl) rfl ?_
  refine ji_aload_n dX4_toOf_0 rfl trivial ?_
  refine ji_iload_n dX4_toOf_1 rfl ?_
  refine ji_cV dX4_toOf_2 (k_Marks_exists (by omega) (by omega)) rfl (mk_0) rfl rfl wX4_exists vX4_exists lX4_40 rfl (Nat.le_of_ble_eq_true rfl) rfl ?_
  refine ji_if_eq (tgt := 17) dX4_toOf_5 rfl (by first | omega | (have := q3 (by omega); omega)) (fun c5 => ?_) (fun c5 => ?_)
  · refine ji_iconst dX4_toOf_17 ?_
    exact ji_ireturn dX4_toOf_18 rfl (rfl) ⟨jr_i (by unfold mk_get; first | rw [if_pos (by omega)] | rw [if_neg (by omega)]), rfl⟩
  · refine ji_aload_n dX4_toOf_8 rfl trivial ?_
    refine ji_get (ci := 4) (k := 5) rfl dX4_toOf_9 lX4_18 (by decide) (mk_0) rfl ?_
    refine ji_iload_n dX4_toOf_12 rfl ?_
    refine ji_iaload dX4_toOf_13 (mk_3) (by first | omega | (have := q3 (by omega); omega)) ?_
    refine ji_goto (tgt := 18) dX4_toOf_14 rfl ?_
    exact ji_ireturn dX4_toOf_18 rfl (rfl) ⟨jr_i (by unfold mk_get; first | rw [if_pos (by omega)] | rw [if_neg (by omega)]), rfl⟩

set_option maxHeartbeats 4000000 in
set_option maxRecDepth 100000 in
theorem k_Marks_colorOf  {k : Int} (hk : -100000 ≤ k ∧ k ≤ 100000) (ha : 0 ≤ a ∧ a ≤ 12) : JR G (d + 1) mX4_colorOf [.ref b, .int (jI (k))] (n, mk_h b f r j a J F T C) 0 0 (some (.int (jI (mk_get a C k)))) (n, mk_h b f r j a J F T C) := by
  have q1 := mk_ex_b a k
  have q2 : mk_ex a k = 0 → ¬ (0 ≤ k ∧ k < a ∧ k < 12) := fun z q => by unfold mk_ex at z; rw [if_pos q] at z; omega
  have q3 : mk_ex a k ≠ 0 → (0 ≤ k ∧ k < a ∧ k < 12) := fun z => by unfold mk_ex at z; split at z <;> omega
  refine ji_ent (by decide) rfl (Nat.le_of_ble_eq_true rfl) rfl ?_
  refine ji_aload_n dX4_colorOf_0 rfl trivial ?_
  refine ji_iload_n dX4_colorOf_1 rfl ?_
  refine ji_cV dX4_colorOf_2 (k_Marks_exists (by omega) (by omega)) rfl (mk_0) rfl rfl wX4_exists vX4_exists lX4_40 rfl (Nat.le_of_ble_eq_true rfl) rfl ?_
  refine ji_if_eq (tgt := 17) dX4_colorOf_5 rfl (by first | omega | (have := q3 (by omega); omega)) (fun c5 => ?_) (fun c5 => ?_)
  · refine ji_iconst dX4_colorOf_17 ?_
    exact ji_ireturn dX4_colorOf_18 rfl (rfl) ⟨jr_i (by unfold mk_get; first | rw [if_pos (by omega)] | rw [if_neg (by omega)]), rfl⟩
  · refine ji_aload_n dX4_colorOf_8 rfl trivial ?_
    refine ji_get (ci := 4) (k := 6) rfl dX4_colorOf_9 lX4_21 (by decide) (mk_0) rfl ?_
    refine ji_iload_n dX4_colorOf_12 rfl ?_
    refine ji_iaload dX4_colorOf_13 (mk_4) (by first | omega | (have := q3 (by omega); omega)) ?_
    refine ji_goto (tgt := 18) dX4_colorOf_14 rfl ?_
    exact ji_ireturn dX4_colorOf_18 rfl (rfl) ⟨jr_i (by unfold mk_get; first | rw [if_pos (by omega)] | rw [if_neg (by omega)]), rfl⟩

set_option maxHeartbeats 4000000 in
set_option maxRecDepth 100000 in
theorem k_Marks_isLost  {k : Int} (hk : -100000 ≤ k ∧ k ≤ 100000) (ha : 0 ≤ a ∧ a ≤ 12) (hF : ∀ i, -1000000 ≤ F i ∧ F i ≤ 1000000) (hT : ∀ i, -1000000 ≤ T i ∧ T i ≤ 1000000) : JR G (d + 2) mX4_isLost [.ref b, .int (jI (k))] (n, mk_h b f r j a J F T C) 0 0 (some (.int (jI (mk_lost a F T k)))) (n, mk_h b f r j a J F T C) := by
  have q4 := mk_get_b (a := a) hF k
  have q5 := mk_get_b (a := a) hT k
  refine ji_ent (by decide) rfl (Nat.le_of_ble_eq_true rfl) rfl ?_
  refine ji_aload_n dX4_isLost_0 rfl trivial ?_
  refine ji_iload_n dX4_isLost_1 rfl ?_
  refine ji_cV dX4_isLost_2 (k_Marks_fromOf (by omega) (by omega)) rfl (mk_0) rfl rfl wX4_fromOf vX4_fromOf lX4_44 rfl (Nat.le_of_ble_eq_true rfl) rfl ?_
  refine ji_aload_n dX4_isLost_5 rfl trivial ?_
  refine ji_iload_n dX4_isLost_6 rfl ?_
  refine ji_cV dX4_isLost_7 (k_Marks_toOf (by omega) (by omega)) rfl (mk_0) rfl rfl wX4_toOf vX4_toOf lX4_48 rfl (Nat.le_of_ble_eq_true rfl) rfl ?_
  refine ji_icmp_ne (tgt := 17) dX4_isLost_10 rfl (by omega) (by omega) (fun c10 => ?_) (fun c10 => ?_)
  · refine ji_iconst dX4_isLost_17 ?_
    exact ji_ireturn dX4_isLost_18 rfl (by first | rfl | decide) ⟨jr_i (by unfold mk_lost; first | (rw [if_pos (by omega)] <;> omega) | (rw [if_neg (by omega)] <;> omega)), rfl⟩
  · refine ji_iconst dX4_isLost_13 ?_
    refine ji_goto (tgt := 18) dX4_isLost_14 rfl ?_
    exact ji_ireturn dX4_isLost_18 rfl (by first | rfl | decide) ⟨jr_i (by unfold mk_lost; first | (rw [if_pos (by omega)] <;> omega) | (rw [if_neg (by omega)] <;> omega)), rfl⟩

def mk_ls (a : Int) (F T : Nat → Int) : Nat → Int
  | 0 => 0
  | i + 1 => mk_ls a F T i + mk_lost a F T i
def mk_tc (a : Int) (F T : Nat → Int) (s e k : Int) : Int := if mk_get a F k < e ∧ s < mk_get a T k ∧ mk_lost a F T k = 0 then 1 else 0
def mk_bt (a : Int) (F T : Nat → Int) (s e : Int) : Nat → Int
  | 0 => 0
  | i + 1 => mk_bt a F T s e i + mk_tc a F T s e i

set_option maxHeartbeats 4000000 in
set_option maxRecDepth 100000 in
theorem k_Marks_lost_loop  (ha : 0 ≤ a ∧ a ≤ 12) (hF : ∀ i, -1000000 ≤ F i ∧ F i ≤ 1000000) (hT : ∀ i, -1000000 ≤ T i ∧ T i ≤ 1000000) : ∀ (g : Nat) (i c : Int), 0 ≤ i ∧ i + g = a → c = mk_ls a F T i.toNat →
    JW G (d + 3) mX4_lostAnnotations 4 [some (.ref b), some (.int (jI c)), some (.int (jI i))] [] (n, mk_h b f r j a J F T C) 0 0 (fun r9 h9 => r9 = .inl (some (.int (jI (mk_ls a F T a.toNat)))) ∧ h9 = (n, mk_h b f r j a J F T C)) := by
  intro g
  induction g with
  | zero =>
    intro i c hi hc

    refine ji_iload_n dX4_lostAnnotations_4 rfl ?_
    refine ji_aload_n dX4_lostAnnotations_5 rfl trivial ?_
    refine ji_get (ci := 4) (k := 3) rfl dX4_lostAnnotations_6 lX4_31 (by decide) (mk_0) rfl ?_
    refine ji_icmp_ge (tgt := 34) dX4_lostAnnotations_9 rfl (by omega) (by omega) (fun c9 => ?_) (fun c9 => absurd c9 (by omega))
    refine ji_iload_n dX4_lostAnnotations_34 rfl ?_
    exact ji_ireturn dX4_lostAnnotations_35 rfl (rfl) ⟨jr_i (by rw [hc, show i = a by omega]), rfl⟩
  | succ g ih =>
    intro i c hi hc
    have q1 := mk_lost_b a F T i
    have e1 : (i + 1).toNat = i.toNat + 1 := by omega
    have e2 : ((i.toNat : Nat) : Int) = i := by omega

    refine ji_iload_n dX4_lostAnnotations_4 rfl ?_
    refine ji_aload_n dX4_lostAnnotations_5 rfl trivial ?_
    refine ji_get (ci := 4) (k := 3) rfl dX4_lostAnnotations_6 lX4_31 (by decide) (mk_0) rfl ?_
    refine ji_icmp_ge (tgt := 34) dX4_lostAnnotations_9 rfl (by omega) (by omega) (fun c9 => absurd c9 (by omega)) (fun c9 => ?_)
    refine ji_iload_n dX4_lostAnnotations_12 rfl ?_
    refine ji_aload_n dX4_lostAnnotations_13 rfl trivial ?_
    refine ji_iload_n dX4_lostAnnotations_14 rfl ?_
    refine ji_cV dX4_lostAnnotations_15 (k_Marks_isLost (by omega) (by omega) hF hT) rfl (mk_0) rfl rfl wX4_isLost vX4_isLost lX4_51 rfl (Nat.le_of_ble_eq_true rfl) rfl ?_
    refine ji_if_eq (tgt := 25) dX4_lostAnnotations_18 rfl (by omega) (fun c18 => ?_) (fun c18 => ?_)
    · refine ji_iconst dX4_lostAnnotations_25 ?_
      refine ji_iadd dX4_lostAnnotations_26 ?_
      refine ji_istore_n dX4_lostAnnotations_27 (by decide) rfl ?_
      refine ji_iinc dX4_lostAnnotations_28 (by decide) rfl rfl ?_
      refine ji_goto (tgt := 4) dX4_lostAnnotations_31 rfl ?_
      exact ih _ _ (by omega) (by rw [e1, mk_ls, ← hc, e2]; omega)
    · refine ji_iconst dX4_lostAnnotations_21 ?_
      refine ji_goto (tgt := 26) dX4_lostAnnotations_22 rfl ?_
      refine ji_iadd dX4_lostAnnotations_26 ?_
      refine ji_istore_n dX4_lostAnnotations_27 (by decide) rfl ?_
      refine ji_iinc dX4_lostAnnotations_28 (by decide) rfl rfl ?_
      refine ji_goto (tgt := 4) dX4_lostAnnotations_31 rfl ?_
      exact ih _ _ (by omega) (by rw [e1, mk_ls, ← hc, e2]; omega)

set_option maxHeartbeats 4000000 in
set_option maxRecDepth 100000 in
theorem k_Marks_lostAnnotations  (ha : 0 ≤ a ∧ a ≤ 12) (hF : ∀ i, -1000000 ≤ F i ∧ F i ≤ 1000000) (hT : ∀ i, -1000000 ≤ T i ∧ T i ≤ 1000000) : JR G (d + 3) mX4_lostAnnotations [.ref b] (n, mk_h b f r j a J F T C) 0 0 (some (.int (jI (mk_ls a F T a.toNat)))) (n, mk_h b f r j a J F T C) := by
  refine ji_ent (by decide) rfl (Nat.le_of_ble_eq_true rfl) rfl ?_
  refine ji_iconst dX4_lostAnnotations_0 ?_
  refine ji_istore_n dX4_lostAnnotations_1 (by decide) rfl ?_
  refine ji_iconst dX4_lostAnnotations_2 ?_
  refine ji_istore_n dX4_lostAnnotations_3 (by decide) rfl ?_
  exact k_Marks_lost_loop ha hF hT a.toNat 0 0 (by omega) rfl

set_option maxHeartbeats 4000000 in
set_option maxRecDepth 100000 in
theorem k_Marks_between_loop  (ha : 0 ≤ a ∧ a ≤ 12) (hF : ∀ i, -1000000 ≤ F i ∧ F i ≤ 1000000) (hT : ∀ i, -1000000 ≤ T i ∧ T i ≤ 1000000) {s e : Int} (hs : -1000000 ≤ s ∧ s ≤ 1000000) (he : -1000000 ≤ e ∧ e ≤ 1000000) : ∀ (g : Nat) (i c : Int) (o5 : Option Value), 0 ≤ i ∧ i + g = a → c = mk_bt a F T s e i.toNat →
    JW G (d + 3) mX4_annotationsBetween 5 [some (.ref b), some (.int (jI s)), some (.int (jI e)), some (.int (jI c)), some (.int (jI i)), o5] [] (n, mk_h b f r j a J F T C) 0 0 (fun r9 h9 => r9 = .inl (some (.int (jI (mk_bt a F T s e a.toNat)))) ∧ h9 = (n, mk_h b f r j a J F T C)) := by
  intro g
  induction g with
  | zero =>
    intro i c o5 hi hc

    refine ji_iload dX4_annotationsBetween_5 rfl ?_
    refine ji_aload_n dX4_annotationsBetween_7 rfl trivial ?_
    refine ji_get (ci := 4) (k := 3) rfl dX4_annotationsBetween_8 lX4_31 (by decide) (mk_0) rfl ?_
    refine ji_icmp_ge (tgt := 69) dX4_annotationsBetween_11 rfl (by omega) (by omega) (fun c11 => ?_) (fun c11 => absurd c11 (by omega))
    refine ji_iload_n dX4_annotationsBetween_69 rfl ?_
    exact ji_ireturn dX4_annotationsBetween_70 rfl (rfl) ⟨jr_i (by rw [hc, show i = a by omega]), rfl⟩
  | succ g ih =>
    intro i c o5 hi hc
    have q1 := mk_lost_b a F T i
    have q2 := mk_get_b (a := a) hF i
    have q3 := mk_get_b (a := a) hT i
    have e1 : (i + 1).toNat = i.toNat + 1 := by omega
    have e2 : ((i.toNat : Nat) : Int) = i := by omega

    refine ji_iload dX4_annotationsBetween_5 rfl ?_
    refine ji_aload_n dX4_annotationsBetween_7 rfl trivial ?_
    refine ji_get (ci := 4) (k := 3) rfl dX4_annotationsBetween_8 lX4_31 (by decide) (mk_0) rfl ?_
    refine ji_icmp_ge (tgt := 69) dX4_annotationsBetween_11 rfl (by omega) (by omega) (fun c11 => absurd c11 (by omega)) (fun c11 => ?_)
    refine ji_aload_n dX4_annotationsBetween_14 rfl trivial ?_
    refine ji_iload dX4_annotationsBetween_15 rfl ?_
    refine ji_cV dX4_annotationsBetween_17 (k_Marks_fromOf (by omega) (by omega)) rfl (mk_0) rfl rfl wX4_fromOf vX4_fromOf lX4_44 rfl (Nat.le_of_ble_eq_true rfl) rfl ?_
    refine ji_iload_n dX4_annotationsBetween_20 rfl ?_
    refine ji_icmp_ge (tgt := 38) dX4_annotationsBetween_21 rfl (by omega) (by omega) (fun c21 => ?_) (fun c21 => ?_)
    · refine ji_iconst dX4_annotationsBetween_38 ?_
      refine ji_istore dX4_annotationsBetween_39 (by decide) rfl ?_
      refine ji_iload_n dX4_annotationsBetween_41 rfl ?_
      refine ji_iload dX4_annotationsBetween_42 rfl ?_
      refine ji_if_eq (tgt := 60) dX4_annotationsBetween_44 rfl (by omega) (fun c44 => ?_) (fun c44 => ?_)
      · refine ji_iconst dX4_annotationsBetween_60 ?_
        refine ji_iadd dX4_annotationsBetween_61 ?_
        refine ji_istore_n dX4_annotationsBetween_62 (by decide) rfl ?_
        refine ji_iinc dX4_annotationsBetween_63 (by decide) rfl rfl ?_
        refine ji_goto (tgt := 5) dX4_annotationsBetween_66 rfl ?_
        first | (exfalso; omega) | exact ih _ _ _ (by omega) (by rw [e1, mk_bt, ← hc, e2]; unfold mk_tc; first | (rw [if_pos (by omega)]; done) | (rw [if_neg (by omega)]; done))
      · refine ji_aload_n dX4_annotationsBetween_47 rfl trivial ?_
        refine ji_iload dX4_annotationsBetween_48 rfl ?_
        refine ji_cV dX4_annotationsBetween_50 (k_Marks_isLost (by omega) (by omega) hF hT) rfl (mk_0) rfl rfl wX4_isLost vX4_isLost lX4_51 rfl (Nat.le_of_ble_eq_true rfl) rfl ?_
        refine ji_if_ne (tgt := 60) dX4_annotationsBetween_53 rfl (by omega) (fun c53 => ?_) (fun c53 => ?_)
        · refine ji_iconst dX4_annotationsBetween_60 ?_
          refine ji_iadd dX4_annotationsBetween_61 ?_
          refine ji_istore_n dX4_annotationsBetween_62 (by decide) rfl ?_
          refine ji_iinc dX4_annotationsBetween_63 (by decide) rfl rfl ?_
          refine ji_goto (tgt := 5) dX4_annotationsBetween_66 rfl ?_
          first | (exfalso; omega) | exact ih _ _ _ (by omega) (by rw [e1, mk_bt, ← hc, e2]; unfold mk_tc; first | (rw [if_pos (by omega)]; done) | (rw [if_neg (by omega)]; done))
        · refine ji_iconst dX4_annotationsBetween_56 ?_
          refine ji_goto (tgt := 61) dX4_annotationsBetween_57 rfl ?_
          refine ji_iadd dX4_annotationsBetween_61 ?_
          refine ji_istore_n dX4_annotationsBetween_62 (by decide) rfl ?_
          refine ji_iinc dX4_annotationsBetween_63 (by decide) rfl rfl ?_
          refine ji_goto (tgt := 5) dX4_annotationsBetween_66 rfl ?_
          first | (exfalso; omega) | exact ih _ _ _ (by omega) (by rw [e1, mk_bt, ← hc, e2]; unfold mk_tc; first | (rw [if_pos (by omega)]; done) | (rw [if_neg (by omega)]; done))
    · refine ji_aload_n dX4_annotationsBetween_24 rfl trivial ?_
      refine ji_iload dX4_annotationsBetween_25 rfl ?_
      refine ji_cV dX4_annotationsBetween_27 (k_Marks_toOf (by omega) (by omega)) rfl (mk_0) rfl rfl wX4_toOf vX4_toOf lX4_48 rfl (Nat.le_of_ble_eq_true rfl) rfl ?_
      refine ji_iload_n dX4_annotationsBetween_30 rfl ?_
      refine ji_icmp_le (tgt := 38) dX4_annotationsBetween_31 rfl (by omega) (by omega) (fun c31 => ?_) (fun c31 => ?_)
      · refine ji_iconst dX4_annotationsBetween_38 ?_
        refine ji_istore dX4_annotationsBetween_39 (by decide) rfl ?_
        refine ji_iload_n dX4_annotationsBetween_41 rfl ?_
        refine ji_iload dX4_annotationsBetween_42 rfl ?_
        refine ji_if_eq (tgt := 60) dX4_annotationsBetween_44 rfl (by omega) (fun c44 => ?_) (fun c44 => ?_)
        · refine ji_iconst dX4_annotationsBetween_60 ?_
          refine ji_iadd dX4_annotationsBetween_61 ?_
          refine ji_istore_n dX4_annotationsBetween_62 (by decide) rfl ?_
          refine ji_iinc dX4_annotationsBetween_63 (by decide) rfl rfl ?_
          refine ji_goto (tgt := 5) dX4_annotationsBetween_66 rfl ?_
          first | (exfalso; omega) | exact ih _ _ _ (by omega) (by rw [e1, mk_bt, ← hc, e2]; unfold mk_tc; first | (rw [if_pos (by omega)]; done) | (rw [if_neg (by omega)]; done))
        · refine ji_aload_n dX4_annotationsBetween_47 rfl trivial ?_
          refine ji_iload dX4_annotationsBetween_48 rfl ?_
          refine ji_cV dX4_annotationsBetween_50 (k_Marks_isLost (by omega) (by omega) hF hT) rfl (mk_0) rfl rfl wX4_isLost vX4_isLost lX4_51 rfl (Nat.le_of_ble_eq_true rfl) rfl ?_
          refine ji_if_ne (tgt := 60) dX4_annotationsBetween_53 rfl (by omega) (fun c53 => ?_) (fun c53 => ?_)
          · refine ji_iconst dX4_annotationsBetween_60 ?_
            refine ji_iadd dX4_annotationsBetween_61 ?_
            refine ji_istore_n dX4_annotationsBetween_62 (by decide) rfl ?_
            refine ji_iinc dX4_annotationsBetween_63 (by decide) rfl rfl ?_
            refine ji_goto (tgt := 5) dX4_annotationsBetween_66 rfl ?_
            first | (exfalso; omega) | exact ih _ _ _ (by omega) (by rw [e1, mk_bt, ← hc, e2]; unfold mk_tc; first | (rw [if_pos (by omega)]; done) | (rw [if_neg (by omega)]; done))
          · refine ji_iconst dX4_annotationsBetween_56 ?_
            refine ji_goto (tgt := 61) dX4_annotationsBetween_57 rfl ?_
            refine ji_iadd dX4_annotationsBetween_61 ?_
            refine ji_istore_n dX4_annotationsBetween_62 (by decide) rfl ?_
            refine ji_iinc dX4_annotationsBetween_63 (by decide) rfl rfl ?_
            refine ji_goto (tgt := 5) dX4_annotationsBetween_66 rfl ?_
            first | (exfalso; omega) | exact ih _ _ _ (by omega) (by rw [e1, mk_bt, ← hc, e2]; unfold mk_tc; first | (rw [if_pos (by omega)]; done) | (rw [if_neg (by omega)]; done))
      · refine ji_iconst dX4_annotationsBetween_34 ?_
        refine ji_goto (tgt := 39) dX4_annotationsBetween_35 rfl ?_
        refine ji_istore dX4_annotationsBetween_39 (by decide) rfl ?_
        refine ji_iload_n dX4_annotationsBetween_41 rfl ?_
        refine ji_iload dX4_annotationsBetween_42 rfl ?_
        refine ji_if_eq (tgt := 60) dX4_annotationsBetween_44 rfl (by omega) (fun c44 => ?_) (fun c44 => ?_)
        · refine ji_iconst dX4_annotationsBetween_60 ?_
          refine ji_iadd dX4_annotationsBetween_61 ?_
          refine ji_istore_n dX4_annotationsBetween_62 (by decide) rfl ?_
          refine ji_iinc dX4_annotationsBetween_63 (by decide) rfl rfl ?_
          refine ji_goto (tgt := 5) dX4_annotationsBetween_66 rfl ?_
          first | (exfalso; omega) | exact ih _ _ _ (by omega) (by rw [e1, mk_bt, ← hc, e2]; unfold mk_tc; first | (rw [if_pos (by omega)]; done) | (rw [if_neg (by omega)]; done))
        · refine ji_aload_n dX4_annotationsBetween_47 rfl trivial ?_
          refine ji_iload dX4_annotationsBetween_48 rfl ?_
          refine ji_cV dX4_annotationsBetween_50 (k_Marks_isLost (by omega) (by omega) hF hT) rfl (mk_0) rfl rfl wX4_isLost vX4_isLost lX4_51 rfl (Nat.le_of_ble_eq_true rfl) rfl ?_
          refine ji_if_ne (tgt := 60) dX4_annotationsBetween_53 rfl (by omega) (fun c53 => ?_) (fun c53 => ?_)
          · refine ji_iconst dX4_annotationsBetween_60 ?_
            refine ji_iadd dX4_annotationsBetween_61 ?_
            refine ji_istore_n dX4_annotationsBetween_62 (by decide) rfl ?_
            refine ji_iinc dX4_annotationsBetween_63 (by decide) rfl rfl ?_
            refine ji_goto (tgt := 5) dX4_annotationsBetween_66 rfl ?_
            first | (exfalso; omega) | exact ih _ _ _ (by omega) (by rw [e1, mk_bt, ← hc, e2]; unfold mk_tc; first | (rw [if_pos (by omega)]; done) | (rw [if_neg (by omega)]; done))
          · refine ji_iconst dX4_annotationsBetween_56 ?_
            refine ji_goto (tgt := 61) dX4_annotationsBetween_57 rfl ?_
            refine ji_iadd dX4_annotationsBetween_61 ?_
            refine ji_istore_n dX4_annotationsBetween_62 (by decide) rfl ?_
            refine ji_iinc dX4_annotationsBetween_63 (by decide) rfl rfl ?_
            refine ji_goto (tgt := 5) dX4_annotationsBetween_66 rfl ?_
            first | (exfalso; omega) | exact ih _ _ _ (by omega) (by rw [e1, mk_bt, ← hc, e2]; unfold mk_tc; first | (rw [if_pos (by omega)]; done) | (rw [if_neg (by omega)]; done))

set_option maxHeartbeats 4000000 in
set_option maxRecDepth 100000 in
theorem k_Marks_annotationsBetween  (ha : 0 ≤ a ∧ a ≤ 12) (hF : ∀ i, -1000000 ≤ F i ∧ F i ≤ 1000000) (hT : ∀ i, -1000000 ≤ T i ∧ T i ≤ 1000000) {s e : Int} (hs : -1000000 ≤ s ∧ s ≤ 1000000) (he : -1000000 ≤ e ∧ e ≤ 1000000) : JR G (d + 3) mX4_annotationsBetween [.ref b, .int (jI (s)), .int (jI (e))] (n, mk_h b f r j a J F T C) 0 0 (some (.int (jI (mk_bt a F T s e a.toNat)))) (n, mk_h b f r j a J F T C) := by
  refine ji_ent (by decide) rfl (Nat.le_of_ble_eq_true rfl) rfl ?_
  refine ji_iconst dX4_annotationsBetween_0 ?_
  refine ji_istore_n dX4_annotationsBetween_1 (by decide) rfl ?_
  refine ji_iconst dX4_annotationsBetween_2 ?_
  refine ji_istore dX4_annotationsBetween_3 (by decide) rfl ?_
  exact k_Marks_between_loop ha hF hT hs he a.toNat 0 0 _ (by omega) rfl

end MMarks
