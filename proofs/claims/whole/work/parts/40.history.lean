/-! ===== History: the object at 17, its two rows ===== -/
def hi_h (n : Nat) (f : Nat → ji_C) (e : Int) (bf mf : Nat → Option Nat) : ji_H := (n, va_up (va_up (va_up f 17 (.inl (1, [.ref 18, .ref 19, .int (jI e)]))) 18 (.inr (.object RX0, 4, .inr (.inr bf)))) 19 (.inr (.object RX4, 4, .inr (.inr mf))))
section MHist
variable {G : ji_G} {d n : Nat} {f : Nat → ji_C} {e : Int} {bf mf : Nat → Option Nat}
theorem hi_0 : (hi_h n f e bf mf).2 17 = .inl (1, [.ref 18, .ref 19, .int (jI e)]) := by
  unfold hi_h; dsimp only
  rw [va_up_ne _ _ (show (17 : Nat) ≠ 19 by decide), va_up_ne _ _ (show (17 : Nat) ≠ 18 by decide), va_up_self]
theorem hi_1 : (hi_h n f e bf mf).2 18 = .inr (.object RX0, 4, .inr (.inr bf)) := by
  unfold hi_h; dsimp only
  rw [va_up_ne _ _ (show (18 : Nat) ≠ 19 by decide), va_up_self]
theorem hi_2 : (hi_h n f e bf mf).2 19 = .inr (.object RX4, 4, .inr (.inr mf)) := by
  unfold hi_h; dsimp only
  rw [va_up_self]
theorem hi_o {x : Nat} (hx : x < 17 ∨ 19 < x) : (hi_h n f e bf mf).2 x = f x := by
  unfold hi_h; dsimp only
  rw [va_up_ne _ _ (show x ≠ 19 by omega), va_up_ne _ _ (show x ≠ 18 by omega), va_up_ne _ _ (show x ≠ 17 by omega)]
theorem hi_p {v : Int} : ((hi_h n f e bf mf).1, va_up (hi_h n f e bf mf).2 17 (.inl (1, ([.ref 18, .ref 19, .int (jI e)] : List Value).set 2 (.int (jI v))))) = hi_h n f v bf mf := by
  refine Prod.ext rfl ?_
  show va_up (va_up (va_up (va_up f 17 _) 18 _) 19 _) 17 _ = va_up (va_up (va_up f 17 _) 18 _) 19 _
  rw [va_up_comm _ (show (19 : Nat) ≠ 17 by decide), va_up_comm _ (show (18 : Nat) ≠ 17 by decide), va_up_idem]; rfl
theorem hi_sb {v : Nat → Option Nat} : ((hi_h n f e bf mf).1, va_up (hi_h n f e bf mf).2 18 (.inr (.object RX0, 4, .inr (.inr v)))) = hi_h n f e v mf := by
  refine Prod.ext rfl ?_
  show va_up (va_up (va_up (va_up f 17 _) 18 _) 19 _) 18 _ = va_up (va_up (va_up f 17 _) 18 _) 19 _
  rw [va_up_comm _ (show (19 : Nat) ≠ 18 by decide), va_up_idem]
theorem hi_sm {v : Nat → Option Nat} : ((hi_h n f e bf mf).1, va_up (hi_h n f e bf mf).2 19 (.inr (.object RX4, 4, .inr (.inr v)))) = hi_h n f e bf v := by
  refine Prod.ext rfl ?_
  show va_up (va_up (va_up (va_up f 17 _) 18 _) 19 _) 19 _ = va_up (va_up (va_up f 17 _) 18 _) 19 _
  rw [va_up_idem]
theorem ji_aastoreB {M : ji_M} {pc : Nat} {L : List (Option Value)} {st : List Value} {bc bs : Nat} {Q : ji_R → ji_H → Prop} {a : Nat} {fs : List Value} {i : Int} (hd : decode M.2.1 pc = .ok (.aastore, 1)) (hi : 0 ≤ i ∧ i < 4) (ho : f a = .inl (0, fs)) (ha : a < 17 ∨ 19 < a)
    (kk : JW G d M (pc + 1) L st (hi_h n f e (va_up bf i.toNat (some a)) mf) bc bs Q) : JW G d M pc L (.ref a :: .int (jI i) :: .ref 18 :: st) (hi_h n f e bf mf) bc bs Q :=
  ji_aastore (C := RX0) (T := TX0) (N := 3) hd hi_1 (fun cy => rfl) (by omega) rfl ((hi_o ha).trans ho) (by rw [hi_sb]; exact kk)
theorem ji_aastoreM {M : ji_M} {pc : Nat} {L : List (Option Value)} {st : List Value} {bc bs : Nat} {Q : ji_R → ji_H → Prop} {a : Nat} {fs : List Value} {i : Int} (hd : decode M.2.1 pc = .ok (.aastore, 1)) (hi : 0 ≤ i ∧ i < 4) (ho : f a = .inl (4, fs)) (ha : a < 17 ∨ 19 < a)
    (kk : JW G d M (pc + 1) L st (hi_h n f e bf (va_up mf i.toNat (some a))) bc bs Q) : JW G d M pc L (.ref a :: .int (jI i) :: .ref 19 :: st) (hi_h n f e bf mf) bc bs Q :=
  ji_aastore (C := RX4) (T := TX4) (N := 7) hd hi_2 (fun cy => rfl) (by omega) rfl ((hi_o ha).trans ho) (by rw [hi_sm]; exact kk)

set_option maxHeartbeats 4000000 in
set_option maxRecDepth 100000 in
theorem k_History_edits  : JR G d mX1_edits [.ref 17] (hi_h n f e bf mf) 0 0 (some (.int (jI e))) (hi_h n f e bf mf) := by
  refine ji_ent (by decide) rfl (Nat.le_of_ble_eq_true rfl) rfl ?_
  refine ji_aload_n dX1_edits_0 rfl trivial ?_
  refine ji_get (ci := 1) (k := 2) rfl dX1_edits_1 lX1_24 (by decide) (hi_0) rfl ?_
  exact ji_ireturn dX1_edits_4 rfl (rfl) ⟨rfl, rfl⟩

set_option maxHeartbeats 4000000 in
set_option maxRecDepth 100000 in
theorem k_History_forget  : JR G d mX1_forget [.ref 17] (hi_h n f e bf mf) 0 0 none (hi_h n f 0 bf mf) := by
  refine ji_ent (by decide) rfl (Nat.le_of_ble_eq_true rfl) rfl ?_
  refine ji_aload_n dX1_forget_0 rfl trivial ?_
  refine ji_iconst dX1_forget_1 ?_
  refine ji_putE (ci := 1) (k := 2) rfl dX1_forget_2 lX1_24 (by decide) (hi_0) (by simp) (ji_fitI _) rfl (hi_p) ?_
  exact ji_return dX1_forget_5 rfl ⟨rfl, rfl⟩

set_option maxHeartbeats 4000000 in
set_option maxRecDepth 100000 in
theorem k_History_latestBook {b : Nat} (he : 0 < e ∧ e ≤ 4) (hb : bf (e - 1).toNat = some b) : JR G d mX1_latestBook [.ref 17] (hi_h n f e bf mf) 0 0 (some (.ref b)) (hi_h n f e bf mf) := by
  refine ji_ent (by decide) rfl (Nat.le_of_ble_eq_true rfl) rfl ?_
  refine ji_aload_n dX1_latestBook_0 rfl trivial ?_
  refine ji_get (ci := 1) (k := 2) rfl dX1_latestBook_1 lX1_24 (by decide) (hi_0) rfl ?_
  refine ji_if_le (tgt := 29) dX1_latestBook_4 rfl (by omega) (fun c4 => absurd c4 (by omega)) (fun c4 => ?_)
  refine ji_aload_n dX1_latestBook_7 rfl trivial ?_
  refine ji_get (ci := 1) (k := 2) rfl dX1_latestBook_8 lX1_24 (by decide) (hi_0) rfl ?_
  refine ji_iconst dX1_latestBook_11 ?_
  refine ji_icmp_gt (tgt := 29) dX1_latestBook_12 rfl (by omega) (by omega) (fun c12 => absurd c12 (by omega)) (fun c12 => ?_)
  refine ji_aload_n dX1_latestBook_15 rfl trivial ?_
  refine ji_get (ci := 1) (k := 0) rfl dX1_latestBook_16 lX1_11 (by decide) (hi_0) rfl ?_
  refine ji_aload_n dX1_latestBook_19 rfl trivial ?_
  refine ji_get (ci := 1) (k := 2) rfl dX1_latestBook_20 lX1_24 (by decide) (hi_0) rfl ?_
  refine ji_iconst dX1_latestBook_23 ?_
  refine ji_isub dX1_latestBook_24 ?_
  refine ji_aaloadS dX1_latestBook_25 (hi_1) (fun cy => rfl) (by omega) (hb) ?_
  refine ji_goto (tgt := 30) dX1_latestBook_26 rfl ?_
  exact ji_areturn dX1_latestBook_30 rfl (Or.inl ⟨_, rfl⟩) trivial ⟨rfl, rfl⟩

set_option maxHeartbeats 4000000 in
set_option maxRecDepth 100000 in
theorem k_History_latestBookN (he : e = 0) : JR G d mX1_latestBook [.ref 17] (hi_h n f e bf mf) 0 0 (some .null) (hi_h n f e bf mf) := by
  refine ji_ent (by decide) rfl (Nat.le_of_ble_eq_true rfl) rfl ?_
  refine ji_aload_n dX1_latestBook_0 rfl trivial ?_
  refine ji_get (ci := 1) (k := 2) rfl dX1_latestBook_1 lX1_24 (by decide) (hi_0) rfl ?_
  refine ji_if_le (tgt := 29) dX1_latestBook_4 rfl (by omega) (fun c4 => ?_) (fun c4 => absurd c4 (by omega))
  refine ji_null dX1_latestBook_29 ?_
  exact ji_areturn dX1_latestBook_30 rfl (Or.inl ⟨_, rfl⟩) trivial ⟨rfl, rfl⟩

set_option maxHeartbeats 4000000 in
set_option maxRecDepth 100000 in
theorem k_History_forgetOldest {b1 b2 b3 m0 m1 m2 m3 : Nat} {x1 x2 x3 y0 y1 y2 y3 : List Value} (hb : bf 1 = some b1 ∧ bf 2 = some b2 ∧ bf 3 = some b3) (hm : mf 0 = some m0 ∧ mf 1 = some m1 ∧ mf 2 = some m2 ∧ mf 3 = some m3) (fb : f b1 = .inl (0, x1) ∧ f b2 = .inl (0, x2) ∧ f b3 = .inl (0, x3)) (fm : f m0 = .inl (4, y0) ∧ f m1 = .inl (4, y1) ∧ f m2 = .inl (4, y2) ∧ f m3 = .inl (4, y3)) (ob : (b1 < 17 ∨ 19 < b1) ∧ (b2 < 17 ∨ 19 < b2) ∧ (b3 < 17 ∨ 19 < b3)) (om : (m0 < 17 ∨ 19 < m0) ∧ (m1 < 17 ∨ 19 < m1) ∧ (m2 < 17 ∨ 19 < m2) ∧ (m3 < 17 ∨ 19 < m3)) : JR G d mX1_forgetOldest [.ref 17] (hi_h n f e bf mf) 0 0 none (hi_h n f 3 (va_up (va_up (va_up bf 0 (some b1)) 1 (some b2)) 2 (some b3)) (va_up (va_up (va_up (va_up mf 0 (some m1)) 1 (some m2)) 2 (some m3)) 3 (some m0))) := by
  refine ji_ent (by decide) rfl (Nat.le_of_ble_eq_true rfl) rfl ?_
  refine ji_aload_n dX1_forgetOldest_0 rfl trivial ?_
  refine ji_get (ci := 1) (k := 1) rfl dX1_forgetOldest_1 lX1_19 (by decide) (hi_0) rfl ?_
  refine ji_iconst dX1_forgetOldest_4 ?_
  refine ji_aaloadS dX1_forgetOldest_5 (hi_2) (fun cy => rfl) (by omega) (hm.1) ?_
  refine ji_astore_n dX1_forgetOldest_6 (by decide) trivial rfl ?_
  refine ji_iconst dX1_forgetOldest_7 ?_
  refine ji_istore_n dX1_forgetOldest_8 (by decide) rfl ?_
  refine ji_iload_n dX1_forgetOldest_9 rfl ?_
  refine ji_iconst dX1_forgetOldest_10 ?_
  refine ji_icmp_ge (tgt := 48) dX1_forgetOldest_11 rfl (by omega) (by omega) (fun c11 => absurd c11 (by omega)) (fun c11 => ?_)
  refine ji_aload_n dX1_forgetOldest_14 rfl trivial ?_
  refine ji_get (ci := 1) (k := 0) rfl dX1_forgetOldest_15 lX1_11 (by decide) (hi_0) rfl ?_
  refine ji_iload_n dX1_forgetOldest_18 rfl ?_
  refine ji_iconst dX1_forgetOldest_19 ?_
  refine ji_isub dX1_forgetOldest_20 ?_
  refine ji_aload_n dX1_forgetOldest_21 rfl trivial ?_
  refine ji_get (ci := 1) (k := 0) rfl dX1_forgetOldest_22 lX1_11 (by decide) (hi_0) rfl ?_
  refine ji_iload_n dX1_forgetOldest_25 rfl ?_
  refine ji_aaloadS dX1_forgetOldest_26 (hi_1) (fun cy => rfl) (by omega) ((by first | exact hb.1 | exact (va_up_ne _ _ (by decide)).trans (hb.1) | exact (va_up_ne _ _ (by decide)).trans ((va_up_ne _ _ (by decide)).trans (hb.1)))) ?_
  refine ji_aastoreB dX1_forgetOldest_27 (by omega) fb.1 ob.1 ?_
  refine ji_aload_n dX1_forgetOldest_28 rfl trivial ?_
  refine ji_get (ci := 1) (k := 1) rfl dX1_forgetOldest_29 lX1_19 (by decide) (hi_0) rfl ?_
  refine ji_iload_n dX1_forgetOldest_32 rfl ?_
  refine ji_iconst dX1_forgetOldest_33 ?_
  refine ji_isub dX1_forgetOldest_34 ?_
  refine ji_aload_n dX1_forgetOldest_35 rfl trivial ?_
  refine ji_get (ci := 1) (k := 1) rfl dX1_forgetOldest_36 lX1_19 (by decide) (hi_0) rfl ?_
  refine ji_iload_n dX1_forgetOldest_39 rfl ?_
  refine ji_aaloadS dX1_forgetOldest_40 (hi_2) (fun cy => rfl) (by omega) ((by first | exact hm.2.1 | exact (va_up_ne _ _ (by decide)).trans (hm.2.1) | exact (va_up_ne _ _ (by decide)).trans ((va_up_ne _ _ (by decide)).trans (hm.2.1)))) ?_
  refine ji_aastoreM dX1_forgetOldest_41 (by omega) fm.2.1 om.2.1 ?_
  refine ji_iinc dX1_forgetOldest_42 (by decide) rfl rfl ?_
  refine ji_goto (tgt := 9) dX1_forgetOldest_45 rfl ?_
  refine ji_iload_n dX1_forgetOldest_9 rfl ?_
  refine ji_iconst dX1_forgetOldest_10 ?_
  refine ji_icmp_ge (tgt := 48) dX1_forgetOldest_11 rfl (by omega) (by omega) (fun c11 => absurd c11 (by omega)) (fun c11 => ?_)
  refine ji_aload_n dX1_forgetOldest_14 rfl trivial ?_
  refine ji_get (ci := 1) (k := 0) rfl dX1_forgetOldest_15 lX1_11 (by decide) (hi_0) rfl ?_
  refine ji_iload_n dX1_forgetOldest_18 rfl ?_
  refine ji_iconst dX1_forgetOldest_19 ?_
  refine ji_isub dX1_forgetOldest_20 ?_
  refine ji_aload_n dX1_forgetOldest_21 rfl trivial ?_
  refine ji_get (ci := 1) (k := 0) rfl dX1_forgetOldest_22 lX1_11 (by decide) (hi_0) rfl ?_
  refine ji_iload_n dX1_forgetOldest_25 rfl ?_
  refine ji_aaloadS dX1_forgetOldest_26 (hi_1) (fun cy => rfl) (by omega) ((by first | exact hb.2.1 | exact (va_up_ne _ _ (by decide)).trans (hb.2.1) | exact (va_up_ne _ _ (by decide)).trans ((va_up_ne _ _ (by decide)).trans (hb.2.1)))) ?_
  refine ji_aastoreB dX1_forgetOldest_27 (by omega) fb.2.1 ob.2.1 ?_
  refine ji_aload_n dX1_forgetOldest_28 rfl trivial ?_
  refine ji_get (ci := 1) (k := 1) rfl dX1_forgetOldest_29 lX1_19 (by decide) (hi_0) rfl ?_
  refine ji_iload_n dX1_forgetOldest_32 rfl ?_
  refine ji_iconst dX1_forgetOldest_33 ?_
  refine ji_isub dX1_forgetOldest_34 ?_
  refine ji_aload_n dX1_forgetOldest_35 rfl trivial ?_
  refine ji_get (ci := 1) (k := 1) rfl dX1_forgetOldest_36 lX1_19 (by decide) (hi_0) rfl ?_
  refine ji_iload_n dX1_forgetOldest_39 rfl ?_
  refine ji_aaloadS dX1_forgetOldest_40 (hi_2) (fun cy => rfl) (by omega) ((by first | exact hm.2.2.1 | exact (va_up_ne _ _ (by decide)).trans (hm.2.2.1) | exact (va_up_ne _ _ (by decide)).trans ((va_up_ne _ _ (by decide)).trans (hm.2.2.1)))) ?_
  refine ji_aastoreM dX1_forgetOldest_41 (by omega) fm.2.2.1 om.2.2.1 ?_
  refine ji_iinc dX1_forgetOldest_42 (by decide) rfl rfl ?_
  refine ji_goto (tgt := 9) dX1_forgetOldest_45 rfl ?_
  refine ji_iload_n dX1_forgetOldest_9 rfl ?_
  refine ji_iconst dX1_forgetOldest_10 ?_
  refine ji_icmp_ge (tgt := 48) dX1_forgetOldest_11 rfl (by omega) (by omega) (fun c11 => absurd c11 (by omega)) (fun c11 => ?_)
  refine ji_aload_n dX1_forgetOldest_14 rfl trivial ?_
  refine ji_get (ci := 1) (k := 0) rfl dX1_forgetOldest_15 lX1_11 (by decide) (hi_0) rfl ?_
  refine ji_iload_n dX1_forgetOldest_18 rfl ?_
  refine ji_iconst dX1_forgetOldest_19 ?_
  refine ji_isub dX1_forgetOldest_20 ?_
  refine ji_aload_n dX1_forgetOldest_21 rfl trivial ?_
  refine ji_get (ci := 1) (k := 0) rfl dX1_forgetOldest_22 lX1_11 (by decide) (hi_0) rfl ?_
  refine ji_iload_n dX1_forgetOldest_25 rfl ?_
  refine ji_aaloadS dX1_forgetOldest_26 (hi_1) (fun cy => rfl) (by omega) ((by first | exact hb.2.2 | exact (va_up_ne _ _ (by decide)).trans (hb.2.2) | exact (va_up_ne _ _ (by decide)).trans ((va_up_ne _ _ (by decide)).trans (hb.2.2)))) ?_
  refine ji_aastoreB dX1_forgetOldest_27 (by omega) fb.2.2 ob.2.2 ?_
  refine ji_aload_n dX1_forgetOldest_28 rfl trivial ?_
  refine ji_get (ci := 1) (k := 1) rfl dX1_forgetOldest_29 lX1_19 (by decide) (hi_0) rfl ?_
  refine ji_iload_n dX1_forgetOldest_32 rfl ?_
  refine ji_iconst dX1_forgetOldest_33 ?_
  refine ji_isub dX1_forgetOldest_34 ?_
  refine ji_aload_n dX1_forgetOldest_35 rfl trivial ?_
  refine ji_get (ci := 1) (k := 1) rfl dX1_forgetOldest_36 lX1_19 (by decide) (hi_0) rfl ?_
  refine ji_iload_n dX1_forgetOldest_39 rfl ?_
  refine ji_aaloadS dX1_forgetOldest_40 (hi_2) (fun cy => rfl) (by omega) ((by first | exact hm.2.2.2 | exact (va_up_ne _ _ (by decide)).trans (hm.2.2.2) | exact (va_up_ne _ _ (by decide)).trans ((va_up_ne _ _ (by decide)).trans (hm.2.2.2)))) ?_
  refine ji_aastoreM dX1_forgetOldest_41 (by omega) fm.2.2.2 om.2.2.2 ?_
  refine ji_iinc dX1_forgetOldest_42 (by decide) rfl rfl ?_
  refine ji_goto (tgt := 9) dX1_forgetOldest_45 rfl ?_
  refine ji_iload_n dX1_forgetOldest_9 rfl ?_
  refine ji_iconst dX1_forgetOldest_10 ?_
  refine ji_icmp_ge (tgt := 48) dX1_forgetOldest_11 rfl (by omega) (by omega) (fun c11 => ?_) (fun c11 => absurd c11 (by omega))
  refine ji_aload_n dX1_forgetOldest_48 rfl trivial ?_
  refine ji_get (ci := 1) (k := 1) rfl dX1_forgetOldest_49 lX1_19 (by decide) (hi_0) rfl ?_
  refine ji_iconst dX1_forgetOldest_52 ?_
  refine ji_aload_n dX1_forgetOldest_53 rfl trivial ?_
  refine ji_aastoreM dX1_forgetOldest_54 (by omega) fm.1 om.1 ?_
  refine ji_aload_n dX1_forgetOldest_55 rfl trivial ?_
  refine ji_iconst dX1_forgetOldest_56 ?_
  refine ji_putE (ci := 1) (k := 2) rfl dX1_forgetOldest_57 lX1_24 (by decide) (hi_0) (by simp) (ji_fitI _) rfl (hi_p) ?_
  exact ji_return dX1_forgetOldest_60 rfl ⟨rfl, rfl⟩

end MHist
