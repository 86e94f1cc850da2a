/-! ===== Input: the object at q, its signs, its syntax ===== -/
def in_f (q : Nat) (f : Nat → ji_C) (len : Int) (g : Nat → Int) : Nat → ji_C := va_up (va_up f q (.inl (2, [.ref (q + 1), .ref (q + 2), .int (jI len)]))) (q + 1) (.inr (.char, 100, .inl g))
def in_h (q n : Nat) (f : Nat → ji_C) (len : Int) (g : Nat → Int) (S : sy_T) : ji_H := sy_h n (q + 2) (in_f q f len g) S
def in_ok (len : Int) (g : Nat → Int) : Prop := (0 ≤ len ∧ len ≤ 100) ∧ ∀ k, 0 ≤ g k ∧ g k < 128
def in_sign (len : Int) (g : Nat → Int) (k : Int) : Int := if 0 ≤ k ∧ k < len then g k.toNat else 32
theorem in_sign_b {len : Int} {g : Nat → Int} (h : in_ok len g) (k : Int) : 0 ≤ in_sign len g k ∧ in_sign len g k < 128 := by
  unfold in_sign; split
  · exact h.2 _
  · omega
theorem ji_narC {x : Int} (hx : 0 ≤ x ∧ x < 128) : narrow .char (.int (jI x)) = .int (jI x) := congrArg Value.int (jI_char (by omega))
section MInput
variable {G : ji_G} {d q n : Nat} {f : Nat → ji_C} {len : Int} {g : Nat → Int} {S : sy_T}
theorem in_0 : (in_h q n f len g S).2 q = .inl (2, [.ref (q + 1), .ref (q + 2), .int (jI len)]) := (va_up_ne _ _ (by omega)).trans ((va_up_ne _ _ (by omega)).trans (va_up_self _ _ _))
theorem in_1 : (in_h q n f len g S).2 (q + 1) = .inr (.char, 100, .inl g) := (va_up_ne _ _ (by omega)).trans (va_up_self _ _ _)
theorem in_2 : (in_h q n f len g S).2 (q + 2) = .inl (5, [.int (jI S.1), .int (jI S.2.1), .int (jI S.2.2.1), .int (jI S.2.2.2.1), .int (jI S.2.2.2.2.1), .int (jI S.2.2.2.2.2.1), .int (jI S.2.2.2.2.2.2)]) := va_up_self _ _ _
theorem in_o {x : Nat} (hx : x < q ∨ q + 2 < x) : (in_h q n f len g S).2 x = f x := (va_up_ne _ _ (by omega)).trans ((va_up_ne _ _ (by omega)).trans (va_up_ne _ _ (by omega)))
theorem in_p {v : Int} : ((in_h q n f len g S).1, va_up (in_h q n f len g S).2 q (.inl (2, ([.ref (q + 1), .ref (q + 2), .int (jI len)] : List Value).set 2 (.int (jI v))))) = in_h q n f v g S := by
  refine Prod.ext rfl ?_
  show va_up (va_up (va_up (va_up f q _) (q + 1) _) (q + 2) _) q _ = va_up (va_up (va_up f q _) (q + 1) _) (q + 2) _
  rw [va_up_comm _ (show q + 2 ≠ q by omega), va_up_comm _ (show q + 1 ≠ q by omega), va_up_idem]; rfl
theorem in_s {v : Nat → Int} : ((in_h q n f len g S).1, va_up (in_h q n f len g S).2 (q + 1) (.inr (.char, 100, .inl v))) = in_h q n f len v S := by
  refine Prod.ext rfl ?_
  show va_up (va_up (va_up (va_up f q _) (q + 1) _) (q + 2) _) (q + 1) _ = va_up (va_up (va_up f q _) (q + 1) _) (q + 2) _
  rw [va_up_comm _ (show q + 2 ≠ q + 1 by omega), va_up_idem]

set_option maxHeartbeats 4000000 in
set_option maxRecDepth 100000 in
theorem k_Input_length   : JR G d mX2_length [.ref q] (in_h q n f len g S) 0 0 (some (.int (jI (len)))) (in_h q n f len g S) := by
  refine ji_ent (by decide) rfl (Nat.le_of_ble_eq_true rfl) rfl ?_
  refine ji_aload_n dX2_length_0 rfl trivial ?_
  refine ji_get (ci := 2) (k := 2) rfl dX2_length_1 lX2_22 (by decide) (in_0) rfl ?_
  exact ji_ireturn dX2_length_4 rfl (rfl) ⟨jr_i (by omega), rfl⟩

def in_full (len : Int) : Int := if len < 100 then 0 else 1
set_option maxHeartbeats 4000000 in
set_option maxRecDepth 100000 in
theorem k_Input_isFull  (hk : in_ok len g) : JR G d mX2_isFull [.ref q] (in_h q n f len g S) 0 0 (some (.int (jI (in_full len)))) (in_h q n f len g S) := by
  have b1 := hk.1
  refine ji_ent (by decide) rfl (Nat.le_of_ble_eq_true rfl) rfl ?_
  refine ji_aload_n dX2_isFull_0 rfl trivial ?_
  refine ji_get (ci := 2) (k := 2) rfl dX2_isFull_1 lX2_22 (by decide) (in_0) rfl ?_
  refine ji_aload_n dX2_isFull_4 rfl trivial ?_
  refine ji_get (ci := 2) (k := 0) rfl dX2_isFull_5 lX2_9 (by decide) (in_0) rfl ?_
  refine ji_alen dX2_isFull_8 (in_1) (fun cy => rfl) ?_
  refine ji_icmp_lt (tgt := 16) dX2_isFull_9 rfl (by omega) (by omega) (fun c9 => ?_) (fun c9 => ?_)
  · refine ji_iconst dX2_isFull_16 ?_
    exact ji_ireturn dX2_isFull_17 rfl (by first | rfl | decide) ⟨jr_i (by unfold in_full; first | (rw [if_pos (by omega)] <;> omega) | (rw [if_neg (by omega)] <;> omega)), rfl⟩
  · refine ji_iconst dX2_isFull_12 ?_
    refine ji_goto (tgt := 17) dX2_isFull_13 rfl ?_
    exact ji_ireturn dX2_isFull_17 rfl (by first | rfl | decide) ⟨jr_i (by unfold in_full; first | (rw [if_pos (by omega)] <;> omega) | (rw [if_neg (by omega)] <;> omega)), rfl⟩

set_option maxHeartbeats 4000000 in
set_option maxRecDepth 100000 in
theorem k_Input_put  {c : Int} (hc : 0 ≤ c ∧ c < 65536) (hl : 0 ≤ len ∧ len < 100) : JR G d mX2_put [.ref q, .int (jI (c))] (in_h q n f len g S) 0 0 none (in_h q n f (len + 1) (va_up g len.toNat c) S) := by
  refine ji_ent (by decide) rfl (Nat.le_of_ble_eq_true rfl) rfl ?_
  refine ji_aload_n dX2_put_0 rfl trivial ?_
  refine ji_get (ci := 2) (k := 2) rfl dX2_put_1 lX2_22 (by decide) (in_0) rfl ?_
  refine ji_aload_n dX2_put_4 rfl trivial ?_
  refine ji_get (ci := 2) (k := 0) rfl dX2_put_5 lX2_9 (by decide) (in_0) rfl ?_
  refine ji_alen dX2_put_8 (in_1) (fun cy => rfl) ?_
  refine ji_icmp_ge (tgt := 32) dX2_put_9 rfl (by omega) (by omega) (fun c9 => absurd c9 (by omega)) (fun c9 => ?_)
  refine ji_aload_n dX2_put_12 rfl trivial ?_
  refine ji_get (ci := 2) (k := 0) rfl dX2_put_13 lX2_9 (by decide) (in_0) rfl ?_
  refine ji_aload_n dX2_put_16 rfl trivial ?_
  refine ji_get (ci := 2) (k := 2) rfl dX2_put_17 lX2_22 (by decide) (in_0) rfl ?_
  refine ji_iload_n dX2_put_20 rfl ?_
  refine ji_castoreE dX2_put_21 (in_1) (by omega) (by omega) (in_s) ?_
  refine ji_aload_n dX2_put_22 rfl trivial ?_
  refine ji_dup dX2_put_23 rfl ?_
  refine ji_get (ci := 2) (k := 2) rfl dX2_put_24 lX2_22 (by decide) (in_0) rfl ?_
  refine ji_iconst dX2_put_27 ?_
  refine ji_iadd dX2_put_28 ?_
  refine ji_putE (ci := 2) (k := 2) rfl dX2_put_29 lX2_22 (by decide) (in_0) (by simp) (ji_fitI _) rfl (in_p) ?_
  exact ji_return dX2_put_32 rfl ⟨rfl, rfl⟩

set_option maxHeartbeats 4000000 in
set_option maxRecDepth 100000 in
theorem k_Input_empty   : JR G d mX2_empty [.ref q] (in_h q n f len g S) 0 0 none (in_h q n f 0 g S) := by
  refine ji_ent (by decide) rfl (Nat.le_of_ble_eq_true rfl) rfl ?_
  refine ji_aload_n dX2_empty_0 rfl trivial ?_
  refine ji_iconst dX2_empty_1 ?_
  refine ji_putE (ci := 2) (k := 2) rfl dX2_empty_2 lX2_22 (by decide) (in_0) (by simp) (ji_fitI _) rfl (in_p) ?_
  exact ji_return dX2_empty_5 rfl ⟨rfl, rfl⟩

set_option maxHeartbeats 4000000 in
set_option maxRecDepth 100000 in
theorem k_Input_signAt  {k : Int} (hb : -100000 ≤ k ∧ k ≤ 100000) (hk : in_ok len g) : JR G d mX2_signAt [.ref q, .int (jI (k))] (in_h q n f len g S) 0 0 (some (.int (jI (in_sign len g k)))) (in_h q n f len g S) := by
  have b1 := hk.1
  have b2 := hk.2 k.toNat
  refine ji_ent (by decide) rfl (Nat.le_of_ble_eq_true rfl) rfl ?_
  refine ji_iload_n dX2_signAt_0 rfl ?_
  refine ji_if_lt (tgt := 21) dX2_signAt_1 rfl (by omega) (fun c1 => ?_) (fun c1 => ?_)
  · refine ji_bipush dX2_signAt_21 rfl ?_
    exact ji_ireturn dX2_signAt_23 rfl (by first | rfl | decide | exact ji_narC b2) ⟨jr_i (by unfold in_sign; first | (rw [if_pos (by omega)] <;> omega) | (rw [if_neg (by omega)] <;> omega)), rfl⟩
  · refine ji_iload_n dX2_signAt_4 rfl ?_
    refine ji_aload_n dX2_signAt_5 rfl trivial ?_
    refine ji_get (ci := 2) (k := 2) rfl dX2_signAt_6 lX2_22 (by decide) (in_0) rfl ?_
    refine ji_icmp_ge (tgt := 21) dX2_signAt_9 rfl (by omega) (by omega) (fun c9 => ?_) (fun c9 => ?_)
    · refine ji_bipush dX2_signAt_21 rfl ?_
      exact ji_ireturn dX2_signAt_23 rfl (by first | rfl | decide | exact ji_narC b2) ⟨jr_i (by unfold in_sign; first | (rw [if_pos (by omega)] <;> omega) | (rw [if_neg (by omega)] <;> omega)), rfl⟩
    · refine ji_aload_n dX2_signAt_12 rfl trivial ?_
      refine ji_get (ci := 2) (k := 0) rfl dX2_signAt_13 lX2_9 (by decide) (in_0) rfl ?_
      refine ji_iload_n dX2_signAt_16 rfl ?_
      refine ji_caload dX2_signAt_17 (in_1) (by omega) ?_
      refine ji_goto (tgt := 23) dX2_signAt_18 rfl ?_
      exact ji_ireturn dX2_signAt_23 rfl (by first | rfl | decide | exact ji_narC b2) ⟨jr_i (by unfold in_sign; first | (rw [if_pos (by omega)] <;> omega) | (rw [if_neg (by omega)] <;> omega)), rfl⟩

def in_tm (g : Nat → Int) (c : Int) : Nat → Int
  | 0 => 0
  | i + 1 => in_tm g c i + (if g i = c then 1 else 0)
theorem in_tm_b (g : Nat → Int) (c : Int) : ∀ i : Nat, 0 ≤ in_tm g c i ∧ in_tm g c i ≤ i
  | 0 => by simp [in_tm]
  | i + 1 => by have := in_tm_b g c i; unfold in_tm; split <;> omega

set_option maxHeartbeats 4000000 in
set_option maxRecDepth 100000 in
theorem k_Input_timesOf_loop  {c : Int} (hc : 0 ≤ c ∧ c < 65536) (hk : in_ok len g) : ∀ (u : Nat) (i t : Int), 0 ≤ i ∧ i + u = len → t = in_tm g c i.toNat →
    JW G (d + 1) mX2_timesOf 4 [some (.ref q), some (.int (jI c)), some (.int (jI t)), some (.int (jI i))] [] (in_h q n f len g S) 0 0 (fun r9 h9 => r9 = .inl (some (.int (jI (in_tm g c len.toNat)))) ∧ h9 = (in_h q n f len g S)) := by
  intro u
  induction u with
  | zero =>
    intro i t hi ht
    have b1 := hk.1

    refine ji_iload_n dX2_timesOf_4 rfl ?_
    refine ji_aload_n dX2_timesOf_5 rfl trivial ?_
    refine ji_get (ci := 2) (k := 2) rfl dX2_timesOf_6 lX2_22 (by decide) (in_0) rfl ?_
    refine ji_icmp_ge (tgt := 35) dX2_timesOf_9 rfl (by omega) (by omega) (fun c9 => ?_) (fun c9 => absurd c9 (by omega))
    refine ji_iload_n dX2_timesOf_35 rfl ?_
    exact ji_ireturn dX2_timesOf_36 rfl (rfl) ⟨jr_i (by rw [ht, show i = len by omega]), rfl⟩
  | succ u ih =>
    intro i t hi ht
    have b1 := hk.1
    have b2 := in_sign_b hk i
    have e1 : (i + 1).toNat = i.toNat + 1 := by omega
    have e2 : in_sign len g i = g i.toNat := if_pos (by omega)

    refine ji_iload_n dX2_timesOf_4 rfl ?_
    refine ji_aload_n dX2_timesOf_5 rfl trivial ?_
    refine ji_get (ci := 2) (k := 2) rfl dX2_timesOf_6 lX2_22 (by decide) (in_0) rfl ?_
    refine ji_icmp_ge (tgt := 35) dX2_timesOf_9 rfl (by omega) (by omega) (fun c9 => absurd c9 (by omega)) (fun c9 => ?_)
    refine ji_iload_n dX2_timesOf_12 rfl ?_
    refine ji_aload_n dX2_timesOf_13 rfl trivial ?_
    refine ji_iload_n dX2_timesOf_14 rfl ?_
    refine ji_cV dX2_timesOf_15 (k_Input_signAt (by omega) hk) rfl (in_0) rfl rfl wX2_signAt vX2_signAt lX2_30 rfl (Nat.le_of_ble_eq_true rfl) rfl ?_
    refine ji_iload_n dX2_timesOf_18 rfl ?_
    refine ji_icmp_ne (tgt := 26) dX2_timesOf_19 rfl (by omega) (by omega) (fun c19 => ?_) (fun c19 => ?_)
    · refine ji_iconst dX2_timesOf_26 ?_
      refine ji_iadd dX2_timesOf_27 ?_
      refine ji_istore_n dX2_timesOf_28 (by decide) rfl ?_
      refine ji_iinc dX2_timesOf_29 (by decide) rfl rfl ?_
      refine ji_goto (tgt := 4) dX2_timesOf_32 rfl ?_
      exact ih _ _ (by omega) (by rw [e1, in_tm, ← ht]; first | (rw [if_pos (by omega)]; done) | (rw [if_neg (by omega)]; done))
    · refine ji_iconst dX2_timesOf_22 ?_
      refine ji_goto (tgt := 27) dX2_timesOf_23 rfl ?_
      refine ji_iadd dX2_timesOf_27 ?_
      refine ji_istore_n dX2_timesOf_28 (by decide) rfl ?_
      refine ji_iinc dX2_timesOf_29 (by decide) rfl rfl ?_
      refine ji_goto (tgt := 4) dX2_timesOf_32 rfl ?_
      exact ih _ _ (by omega) (by rw [e1, in_tm, ← ht]; first | (rw [if_pos (by omega)]; done) | (rw [if_neg (by omega)]; done))

set_option maxHeartbeats 4000000 in
set_option maxRecDepth 100000 in
theorem k_Input_timesOf  {c : Int} (hc : 0 ≤ c ∧ c < 65536) (hk : in_ok len g) : JR G (d + 1) mX2_timesOf [.ref q, .int (jI (c))] (in_h q n f len g S) 0 0 (some (.int (jI (in_tm g c len.toNat)))) (in_h q n f len g S) := by
  have b1 := hk.1
  refine ji_ent (by decide) rfl (Nat.le_of_ble_eq_true rfl) rfl ?_
  refine ji_iconst dX2_timesOf_0 ?_
  refine ji_istore_n dX2_timesOf_1 (by decide) rfl ?_
  refine ji_iconst dX2_timesOf_2 ?_
  refine ji_istore_n dX2_timesOf_3 (by decide) rfl ?_
  exact k_Input_timesOf_loop hc hk len.toNat 0 0 (by omega) rfl

set_option maxHeartbeats 4000000 in
set_option maxRecDepth 100000 in
theorem k_Input_wordsOfList  (hk : in_ok len g) : JR G (d + 2) mX2_wordsOfList [.ref q] (in_h q n f len g S) 0 0 (some (.int (jI (in_tm g 32 len.toNat + 1)))) (in_h q n f len g S) := by
  refine ji_ent (by decide) rfl (Nat.le_of_ble_eq_true rfl) rfl ?_
  refine ji_aload_n dX2_wordsOfList_0 rfl trivial ?_
  refine ji_bipush dX2_wordsOfList_1 rfl ?_
  refine ji_cV dX2_wordsOfList_3 (k_Input_timesOf (by omega) hk) rfl (in_0) rfl rfl wX2_timesOf vX2_timesOf lX2_46 rfl (Nat.le_of_ble_eq_true rfl) rfl ?_
  refine ji_iconst dX2_wordsOfList_6 ?_
  refine ji_iadd dX2_wordsOfList_7 ?_
  exact ji_ireturn dX2_wordsOfList_8 rfl (rfl) ⟨rfl, rfl⟩

/-- the reading of the buffer from i on: where it ends, and the syntax then -/
def in_ff (len : Int) (g : Nat → Int) : Nat → Int → sy_T → Int × sy_T
  | 0, _, S => (len, S)
  | u + 1, i, S => if (sy_takes S (g i.toNat)).1 = 0 then (i, (sy_takes S (g i.toNat)).2) else in_ff len g u (i + 1) (sy_takes S (g i.toNat)).2
def in_FF (len : Int) (g : Nat → Int) (v : Int) : Int × sy_T := in_ff len g len.toNat 0 (v, v, 0 + 1, 0 + 1, 0, 0, 0)
def sy_ok (S : sy_T) (i : Int) : Prop := (S.1 = 0 ∨ S.1 = 1) ∧ (S.2.1 = 0 ∨ S.2.1 = 1) ∧ (0 ≤ S.2.2.1 ∧ S.2.2.1 ≤ i + 1) ∧ (0 ≤ S.2.2.2.1 ∧ S.2.2.2.1 ≤ i + 1) ∧ (0 ≤ S.2.2.2.2.1 ∧ S.2.2.2.2.1 ≤ i) ∧ (S.2.2.2.2.2.1 = 0 ∨ S.2.2.2.2.2.1 = 1) ∧ (S.2.2.2.2.2.2 = 0 ∨ S.2.2.2.2.2.2 = 1)
theorem sy_takes_ok {S : sy_T} {i c : Int} (hi : 0 ≤ i) (h : sy_ok S i) : sy_ok (sy_takes S c).2 (i + 1) ∧ ((sy_takes S c).1 = 0 ∨ (sy_takes S c).1 = 1) := by
  obtain ⟨bk, km, pg, wd, sg, dm, hr⟩ := S
  obtain ⟨h1, h2, h3, h4, h5, h6, h7⟩ := h
  dsimp only at h1 h2 h3 h4 h5 h6 h7
  have q1 := sy_digit_b c
  unfold sy_takes sy_ok
  dsimp only
  repeat' split
  all_goals dsimp only
  all_goals omega

set_option maxHeartbeats 4000000 in
set_option maxRecDepth 100000 in
theorem k_Input_firstFault_loop  {v : Int} {R : Int × sy_T} (hk : in_ok len g) : ∀ (u : Nat) (i : Int) (T0 : sy_T), 0 ≤ i ∧ i + u = len → sy_ok T0 i → R = in_ff len g u i T0 →
    JW G (d + 3) mX2_firstFault 10 [some (.ref q), some (.int (jI v)), some (.int (jI i))] [] (in_h q n f len g T0) 0 0 (fun r9 h9 => r9 = .inl (some (.int (jI R.1))) ∧ h9 = in_h q n f len g R.2) := by
  intro u
  induction u with
  | zero =>
    intro i T0 hi hT hR
    have b1 := hk.1

    refine ji_iload_n dX2_firstFault_10 rfl ?_
    refine ji_aload_n dX2_firstFault_11 rfl trivial ?_
    refine ji_get (ci := 2) (k := 2) rfl dX2_firstFault_12 lX2_22 (by decide) (in_0) rfl ?_
    refine ji_icmp_ge (tgt := 41) dX2_firstFault_15 rfl (by omega) (by omega) (fun c15 => ?_) (fun c15 => absurd c15 (by omega))
    refine ji_aload_n dX2_firstFault_41 rfl trivial ?_
    refine ji_get (ci := 2) (k := 2) rfl dX2_firstFault_42 lX2_22 (by decide) (in_0) rfl ?_
    exact ji_ireturn dX2_firstFault_45 rfl (rfl) ⟨by rw [hR]; rfl, by rw [hR]; rfl⟩
  | succ u ih =>
    intro i T0 hi hT hR
    have b1 := hk.1
    have b2 := in_sign_b hk i
    have e2 : in_sign len g i = g i.toNat := if_pos (by omega)
    have hT2 := sy_takes_ok (c := in_sign len g i) hi.1 hT
    obtain ⟨t1, t2, t3, t4, t5, t6, t7⟩ := id hT

    refine ji_iload_n dX2_firstFault_10 rfl ?_
    refine ji_aload_n dX2_firstFault_11 rfl trivial ?_
    refine ji_get (ci := 2) (k := 2) rfl dX2_firstFault_12 lX2_22 (by decide) (in_0) rfl ?_
    refine ji_icmp_ge (tgt := 41) dX2_firstFault_15 rfl (by omega) (by omega) (fun c15 => absurd c15 (by omega)) (fun c15 => ?_)
    refine ji_aload_n dX2_firstFault_18 rfl trivial ?_
    refine ji_get (ci := 2) (k := 1) rfl dX2_firstFault_19 lX2_18 (by decide) (in_0) rfl ?_
    refine ji_aload_n dX2_firstFault_22 rfl trivial ?_
    refine ji_iload_n dX2_firstFault_23 rfl ?_
    refine ji_cV dX2_firstFault_24 (k_Input_signAt (by omega) hk) rfl (in_0) rfl rfl wX2_signAt vX2_signAt lX2_30 rfl (Nat.le_of_ble_eq_true rfl) rfl ?_
    refine ji_cV dX2_firstFault_27 (M2 := mX5_takes) (k_Syntax_takes (n := n) (y := q + 2) (f := in_f q f len g) (bk := T0.1) (km := T0.2.1) (pg := T0.2.2.1) (wd := T0.2.2.2.1) (sg := T0.2.2.2.2.1) (dm := T0.2.2.2.2.2.1) (hr := T0.2.2.2.2.2.2) (c := in_sign len g i) (by omega) (by omega) (by omega) (by omega) hT.1 hT.2.1 hT.2.2.2.2.2.1 hT.2.2.2.2.2.2) rfl (in_2) rfl rfl wX5_takes vX5_takes lX2_34 rfl (Nat.le_of_ble_eq_true rfl) rfl ?_
    refine ji_if_ne (tgt := 35) dX2_firstFault_30 rfl (by have := hT2.2; show -2147483648 ≤ (sy_takes T0 (in_sign len g i)).1 ∧ (sy_takes T0 (in_sign len g i)).1 < 2147483648; omega) (fun c30 => ?_) (fun c30 => ?_)
    · refine ji_iinc dX2_firstFault_35 (by decide) rfl rfl ?_
      refine ji_goto (tgt := 10) dX2_firstFault_38 rfl ?_
      exact ih _ _ (by omega) hT2.1 (by rw [hR, in_ff, ← e2, if_neg c30])
    · refine ji_iload_n dX2_firstFault_33 rfl ?_
      exact ji_ireturn dX2_firstFault_34 rfl (rfl) (by rw [hR, in_ff, ← e2, if_pos c30]; exact ⟨rfl, rfl⟩)

set_option maxHeartbeats 4000000 in
set_option maxRecDepth 100000 in
theorem k_Input_firstFault {v : Int} (hv : v = 0 ∨ v = 1) (hk : in_ok len g) : JR G (d + 3) mX2_firstFault [.ref q, .int (jI v)] (in_h q n f len g S) 0 0 (some (.int (jI (in_FF len g v).1))) (in_h q n f len g (in_FF len g v).2) := by
  have b1 := hk.1
  refine ji_ent (by decide) rfl (Nat.le_of_ble_eq_true rfl) rfl ?_
  refine ji_aload_n dX2_firstFault_0 rfl trivial ?_
  refine ji_get (ci := 2) (k := 1) rfl dX2_firstFault_1 lX2_18 (by decide) (in_0) rfl ?_
  refine ji_iload_n dX2_firstFault_4 rfl ?_
  refine ji_cVv dX2_firstFault_5 (M2 := mX5_begin) (k_Syntax_begin (n := n) (y := q + 2) (f := in_f q f len g) (bk := S.1) (km := S.2.1) (pg := S.2.2.1) (wd := S.2.2.2.1) (sg := S.2.2.2.2.1) (dm := S.2.2.2.2.2.1) (hr := S.2.2.2.2.2.2) hv) rfl (in_2) rfl rfl wX5_begin vX5_begin lX2_26 rfl (Nat.le_of_ble_eq_true rfl) rfl ?_
  refine ji_iconst dX2_firstFault_8 ?_
  refine ji_istore_n dX2_firstFault_9 (by decide) rfl ?_
  exact ji_eqv (k_Input_firstFault_loop hk len.toNat 0 (v, v, 0 + 1, 0 + 1, 0, 0, 0) (by omega) ⟨hv, hv, by dsimp only; omega, by dsimp only; omega, by dsimp only; omega, Or.inl rfl, Or.inl rfl⟩ rfl) rfl rfl rfl

theorem in_ff_ok (len : Int) (g : Nat → Int) : ∀ (u : Nat) (i : Int) (S : sy_T), 0 ≤ i → sy_ok S i → sy_ok (in_ff len g u i S).2 (i + u) ∧ (0 ≤ len → 0 ≤ (in_ff len g u i S).1)
  | 0, i, S, hi, h => ⟨by simpa [in_ff] using h, fun hl => hl⟩
  | u + 1, i, S, hi, h => by
    have h2 := sy_takes_ok (c := g i.toNat) hi h
    unfold in_ff
    split
    · refine ⟨?_, fun _ => hi⟩
      obtain ⟨t1, t2, t3, t4, t5, t6, t7⟩ := h2.1
      refine ⟨t1, t2, ?_, ?_, ?_, t6, t7⟩ <;> dsimp only <;> omega
    · have h3 := in_ff_ok len g u (i + 1) _ (by omega) h2.1
      rw [show i + ((u + 1 : Nat) : Int) = i + 1 + u by omega]
      exact h3
theorem in_ff_le (len : Int) (g : Nat → Int) : ∀ (u : Nat) (i : Int) (S : sy_T), i + u = len → (in_ff len g u i S).1 ≤ len
  | 0, i, S, hi => by simp [in_ff]
  | u + 1, i, S, hi => by
    unfold in_ff
    split
    · show i ≤ len; omega
    · exact in_ff_le len g u (i + 1) _ (by omega)
theorem in_FF_ok {len : Int} (g : Nat → Int) {v : Int} (hv : v = 0 ∨ v = 1) (hl : 0 ≤ len) : sy_ok (in_FF len g v).2 len ∧ 0 ≤ (in_FF len g v).1 ∧ (in_FF len g v).1 ≤ len := by
  have h1 := in_ff_ok len g len.toNat 0 (v, v, 0 + 1, 0 + 1, 0, 0, 0) (by omega) ⟨hv, hv, by dsimp only; omega, by dsimp only; omega, by dsimp only; omega, Or.inl rfl, Or.inl rfl⟩
  rw [show (0 : Int) + len.toNat = len by omega] at h1
  exact ⟨h1.1, h1.2 hl, in_ff_le len g len.toNat 0 _ (by omega)⟩
def in_whole (len : Int) (g : Nat → Int) (v : Int) : Int := if (in_FF len g v).1 = len ∧ sy_end (in_FF len g v).2.2.2.2.2.1 (in_FF len g v).2.2.2.2.2.2.1 = 1 then 1 else 0
theorem sy_end_b (x y : Int) : 0 ≤ sy_end x y ∧ sy_end x y ≤ 1 := by unfold sy_end; split <;> omega

set_option maxHeartbeats 4000000 in
set_option maxRecDepth 100000 in
theorem k_Input_isWhole {v : Int} (hv : v = 0 ∨ v = 1) (hk : in_ok len g) : JR G (d + 4) mX2_isWhole [.ref q, .int (jI v)] (in_h q n f len g S) 0 0 (some (.int (jI (in_whole len g v)))) (in_h q n f len g (in_FF len g v).2) := by
  have b1 := hk.1
  have hT0 := in_FF_ok g hv b1.1
  have hT := hT0.1
  obtain ⟨t1, t2, t3, t4, t5, t6, t7⟩ := id hT
  have b3 := sy_end_b (in_FF len g v).2.2.2.2.2.1 (in_FF len g v).2.2.2.2.2.2.1
  refine ji_ent (by decide) rfl (Nat.le_of_ble_eq_true rfl) rfl ?_
  refine ji_aload_n dX2_isWhole_0 rfl trivial ?_
  refine ji_iload_n dX2_isWhole_1 rfl ?_
  refine ji_cV dX2_isWhole_2 (k_Input_firstFault hv hk) rfl (in_0) rfl rfl wX2_firstFault vX2_firstFault lX2_38 rfl (Nat.le_of_ble_eq_true rfl) rfl ?_
  refine ji_aload_n dX2_isWhole_5 rfl trivial ?_
  refine ji_get (ci := 2) (k := 2) rfl dX2_isWhole_6 lX2_22 (by decide) (in_0) rfl ?_
  refine ji_icmp_ne (tgt := 26) dX2_isWhole_9 rfl (by omega) (by omega) (fun c9 => ?_) (fun c9 => ?_)
  · refine ji_iconst dX2_isWhole_26 ?_
    exact ji_ireturn dX2_isWhole_27 rfl (by first | rfl | decide) ⟨jr_i (by unfold in_whole; first | (rw [if_pos (by omega)]; done) | (rw [if_neg (by omega)]; done)), rfl⟩
  · refine ji_aload_n dX2_isWhole_12 rfl trivial ?_
    refine ji_get (ci := 2) (k := 1) rfl dX2_isWhole_13 lX2_18 (by decide) (in_0) rfl ?_
    refine ji_cV dX2_isWhole_16 (M2 := mX5_mayEnd) (k_Syntax_mayEnd (n := n) (y := q + 2) (f := in_f q f len g) (bk := (in_FF len g v).2.1) (km := (in_FF len g v).2.2.1) (pg := (in_FF len g v).2.2.2.1) (wd := (in_FF len g v).2.2.2.2.1) (sg := (in_FF len g v).2.2.2.2.2.1) (dm := (in_FF len g v).2.2.2.2.2.2.1) (hr := (in_FF len g v).2.2.2.2.2.2.2) (by omega) hT.2.2.2.2.2.1) rfl (in_2) rfl rfl wX5_mayEnd vX5_mayEnd lX2_42 rfl (Nat.le_of_ble_eq_true rfl) rfl ?_
    refine ji_if_eq (tgt := 26) dX2_isWhole_19 rfl (by omega) (fun c19 => ?_) (fun c19 => ?_)
    · refine ji_iconst dX2_isWhole_26 ?_
      exact ji_ireturn dX2_isWhole_27 rfl (by first | rfl | decide) ⟨jr_i (by unfold in_whole; first | (rw [if_pos (by omega)]; done) | (rw [if_neg (by omega)]; done)), rfl⟩
    · refine ji_iconst dX2_isWhole_22 ?_
      refine ji_goto (tgt := 27) dX2_isWhole_23 rfl ?_
      exact ji_ireturn dX2_isWhole_27 rfl (by first | rfl | decide) ⟨jr_i (by unfold in_whole; first | (rw [if_pos (by omega)]; done) | (rw [if_neg (by omega)]; done)), rfl⟩

end MInput
