/-- is a word the first one of the buffer -/
def in_eq (len : Int) (g : Nat → Int) (m : Nat) (tx : Nat → Int) (st size : Int) : Nat → Int → Int
  | 0, _ => if in_sign len g size = 32 then 1 else 0
  | u + 1, i => if wd_sign m tx (st + i) = in_sign len g i then in_eq len g m tx st size u (i + 1) else 0
def in_begins (len : Int) (g : Nat → Int) (m n : Nat) (tx s : Nat → Int) (k : Int) : Int :=
  if len < wd_end m n s k - wd_start m n s k then 0 else in_eq len g m tx (wd_start m n s k) (wd_end m n s k - wd_start m n s k) (wd_end m n s k - wd_start m n s k).toNat 0
section MInput2
variable {G : ji_G} {d q n : Nat} {f : Nat → ji_C} {len : Int} {g : Nat → Int} {S : sy_T}

set_option maxHeartbeats 4000000 in
set_option maxRecDepth 100000 in
theorem k_Input_beginsWith_loop  {w m n2 : Nat} {tx s : Nat → Int} (hat : wd_at (in_h q n f len g S) w m n2 tx s) (hko : wd_ok m n2 tx s) (hk : in_ok len g) {k st size R : Int} (bs : 0 ≤ st ∧ st ≤ 10001) (bz : -10002 ≤ size ∧ size ≤ len) : ∀ (u : Nat) (i : Int), 0 ≤ i → i + u = max size 0 → R = in_eq len g m tx st size u i →
    JW G (d + 1) mX2_beginsWith 29 [some (.ref q), some (.ref w), some (.int (jI k)), some (.int (jI st)), some (.int (jI size)), some (.int (jI i))] [] (in_h q n f len g S) 0 0 (fun r9 h9 => r9 = .inl (some (.int (jI R))) ∧ h9 = (in_h q n f len g S)) := by
  obtain ⟨t9, q9, hw, -⟩ := id hat
  have b1 := hk.1
  intro u
  induction u with
  | zero =>
    intro i h0 hi hR
    have b2 := in_sign_b hk size

    refine ji_iload dX2_beginsWith_29 rfl ?_
    refine ji_iload dX2_beginsWith_31 rfl ?_
    refine ji_icmp_ge (tgt := 61) dX2_beginsWith_33 rfl (by omega) (by omega) (fun c33 => ?_) (fun c33 => absurd c33 (by omega))
    refine ji_aload_n dX2_beginsWith_61 rfl trivial ?_
    refine ji_iload dX2_beginsWith_62 rfl ?_
    refine ji_cV dX2_beginsWith_64 (k_Input_signAt (by omega) hk) rfl (in_0) rfl rfl wX2_signAt vX2_signAt lX2_30 rfl (Nat.le_of_ble_eq_true rfl) rfl ?_
    refine ji_bipush dX2_beginsWith_67 rfl ?_
    refine ji_icmp_ne (tgt := 76) dX2_beginsWith_69 rfl (by omega) (by omega) (fun c69 => ?_) (fun c69 => ?_)
    · refine ji_iconst dX2_beginsWith_76 ?_
      exact ji_ireturn dX2_beginsWith_77 rfl (by first | rfl | decide) ⟨jr_i (by rw [hR, in_eq]; first | (rw [if_pos (by omega)]; done) | (rw [if_neg (by omega)]; done)), rfl⟩
    · refine ji_iconst dX2_beginsWith_72 ?_
      refine ji_goto (tgt := 77) dX2_beginsWith_73 rfl ?_
      exact ji_ireturn dX2_beginsWith_77 rfl (by first | rfl | decide) ⟨jr_i (by rw [hR, in_eq]; first | (rw [if_pos (by omega)]; done) | (rw [if_neg (by omega)]; done)), rfl⟩
  | succ u ih =>
    intro i h0 hi hR
    have b2 := in_sign_b hk i
    have b3 := wd_sign_b hko (st + i)

    refine ji_iload dX2_beginsWith_29 rfl ?_
    refine ji_iload dX2_beginsWith_31 rfl ?_
    refine ji_icmp_ge (tgt := 61) dX2_beginsWith_33 rfl (by omega) (by omega) (fun c33 => absurd c33 (by omega)) (fun c33 => ?_)
    refine ji_aload_n dX2_beginsWith_36 rfl trivial ?_
    refine ji_iload_n dX2_beginsWith_37 rfl ?_
    refine ji_iload dX2_beginsWith_38 rfl ?_
    refine ji_iadd dX2_beginsWith_40 ?_
    refine ji_cV dX2_beginsWith_41 (k_Words_signAt hat hko (by omega)) rfl (hw) rfl rfl wX6_signAt vX6_signAt lX2_59 rfl (Nat.le_of_ble_eq_true rfl) rfl ?_
    refine ji_aload_n dX2_beginsWith_44 rfl trivial ?_
    refine ji_iload dX2_beginsWith_45 rfl ?_
    refine ji_cV dX2_beginsWith_47 (k_Input_signAt (by omega) hk) rfl (in_0) rfl rfl wX2_signAt vX2_signAt lX2_30 rfl (Nat.le_of_ble_eq_true rfl) rfl ?_
    refine ji_icmp_eq (tgt := 55) dX2_beginsWith_50 rfl (by omega) (by omega) (fun c50 => ?_) (fun c50 => ?_)
    · refine ji_iinc dX2_beginsWith_55 (by decide) rfl rfl ?_
      refine ji_goto (tgt := 29) dX2_beginsWith_58 rfl ?_
      exact ih _ (by omega) (by omega) (by rw [hR, in_eq, if_pos (by omega)])
    · refine ji_iconst dX2_beginsWith_53 ?_
      exact ji_ireturn dX2_beginsWith_54 rfl (by first | rfl | decide) ⟨jr_i (by rw [hR, in_eq, if_neg (by omega)]), rfl⟩

set_option maxHeartbeats 4000000 in
set_option maxRecDepth 100000 in
theorem k_Input_beginsWith  {w m n2 : Nat} {tx s : Nat → Int} (hat : wd_at (in_h q n f len g S) w m n2 tx s) (hko : wd_ok m n2 tx s) (hk : in_ok len g) {k : Int} (hb : -10000 ≤ k ∧ k ≤ 100000) : JR G (d + 1) mX2_beginsWith [.ref q, .ref w, .int (jI (k))] (in_h q n f len g S) 0 0 (some (.int (jI (in_begins len g m n2 tx s k)))) (in_h q n f len g S) := by
  obtain ⟨t9, q9, hw, -⟩ := id hat
  have b1 := hk.1
  have b2 := wd_start_b hko k
  have b3 := wd_end_b hko k
  refine ji_ent (by decide) rfl (Nat.le_of_ble_eq_true rfl) rfl ?_
  refine ji_aload_n dX2_beginsWith_0 rfl trivial ?_
  refine ji_iload_n dX2_beginsWith_1 rfl ?_
  refine ji_cV dX2_beginsWith_2 (k_Words_startOf hat hko (by omega)) rfl (hw) rfl rfl wX6_startOf vX6_startOf lX2_50 rfl (Nat.le_of_ble_eq_true rfl) rfl ?_
  refine ji_istore_n dX2_beginsWith_5 (by decide) rfl ?_
  refine ji_aload_n dX2_beginsWith_6 rfl trivial ?_
  refine ji_iload_n dX2_beginsWith_7 rfl ?_
  refine ji_cV dX2_beginsWith_8 (k_Words_endOf hat hko (by omega)) rfl (hw) rfl rfl wX6_endOf vX6_endOf lX2_56 rfl (Nat.le_of_ble_eq_true rfl) rfl ?_
  refine ji_iload_n dX2_beginsWith_11 rfl ?_
  refine ji_isub dX2_beginsWith_12 ?_
  refine ji_istore dX2_beginsWith_13 (by decide) rfl ?_
  refine ji_iload dX2_beginsWith_15 rfl ?_
  refine ji_aload_n dX2_beginsWith_17 rfl trivial ?_
  refine ji_get (ci := 2) (k := 2) rfl dX2_beginsWith_18 lX2_22 (by decide) (in_0) rfl ?_
  refine ji_icmp_le (tgt := 26) dX2_beginsWith_21 rfl (by omega) (by omega) (fun c21 => ?_) (fun c21 => ?_)
  · refine ji_iconst dX2_beginsWith_26 ?_
    refine ji_istore dX2_beginsWith_27 (by decide) rfl ?_
    exact k_Input_beginsWith_loop hat hko hk (by omega) (by omega) (wd_end m n2 s k - wd_start m n2 s k).toNat 0 (by omega) (by omega) (by unfold in_begins; rw [if_neg (by omega)])
  · refine ji_iconst dX2_beginsWith_24 ?_
    exact ji_ireturn dX2_beginsWith_25 rfl (by first | rfl | decide) ⟨jr_i (by unfold in_begins; rw [if_pos (by omega)]), rfl⟩

theorem in_keep {k : Nat} {c : ji_C} : ji_ext (in_h q n f len g S) ((in_h q n f len g S).1 + 1, va_up (in_h q n f len g S).2 (in_h q n f len g S).1 c) 1 := ⟨rfl, fun a ha => va_up_ne _ _ (by omega)⟩
/-- the buffer's heap with one row of characters more -/
def in_h1 (q n : Nat) (f : Nat → ji_C) (len : Int) (g : Nat → Int) (S : sy_T) (z : Nat) (X : Nat → Int) : ji_H := in_h q (n + 1) (va_up f n (.inr (.char, z, .inl X))) len g S
theorem in_h1_e {z : Nat} {X : Nat → Int} (hq : q + 2 < n) : ((in_h q n f len g S).1 + 1, va_up (in_h q n f len g S).2 (in_h q n f len g S).1 (.inr (.char, z, .inl X))) = in_h1 q n f len g S z X := by
  refine Prod.ext rfl ?_
  show va_up (va_up (va_up (va_up f q _) (q + 1) _) (q + 2) _) n _ = va_up (va_up (va_up (va_up f n _) q _) (q + 1) _) (q + 2) _
  rw [va_up_comm _ (show q + 2 ≠ n by omega), va_up_comm _ (show q + 1 ≠ n by omega), va_up_comm _ (show q ≠ n by omega)]
theorem in_h1_n {z : Nat} {X : Nat → Int} (hq : q + 2 < n) : (in_h1 q n f len g S z X).2 n = .inr (.char, z, .inl X) := (in_o (by omega)).trans (va_up_self _ _ _)
theorem in_h1_s {z : Nat} {X X' : Nat → Int} (hq : q + 2 < n) : ((in_h1 q n f len g S z X).1, va_up (in_h1 q n f len g S z X).2 n (.inr (.char, z, .inl X'))) = in_h1 q n f len g S z X' := by
  refine Prod.ext rfl ?_
  show va_up (va_up (va_up (va_up (va_up f n _) q _) (q + 1) _) (q + 2) _) n _ = va_up (va_up (va_up (va_up f n _) q _) (q + 1) _) (q + 2) _
  rw [va_up_comm _ (show q + 2 ≠ n by omega), va_up_comm _ (show q + 1 ≠ n by omega), va_up_comm _ (show q ≠ n by omega), va_up_idem]

set_option maxHeartbeats 4000000 in
set_option maxRecDepth 100000 in
theorem k_Input_padded_loop  {x1 x2 : Int} (hk : in_ok len g) (h1 : 0 ≤ x1 ∧ x1 ≤ 10) (h2 : 0 ≤ x2 ∧ x2 ≤ 10) (hq : q + 2 < n) {bc bs : Nat} : ∀ (u : Nat) (i : Int), 0 ≤ i → i + u = x1 + len + x2 →
    JW G (d + 1) mX2_padded 14 [some (.ref q), some (.int (jI x1)), some (.int (jI x2)), some (.ref n), some (.int (jI i))] [] (in_h1 q n f len g S (x1 + len + x2).toNat (ji_fill (fun k => in_sign len g (k - x1)) i)) bc bs (fun r9 h9 => r9 = .inl (some (.ref n)) ∧ h9 = (in_h1 q n f len g S (x1 + len + x2).toNat (ji_fill (fun k => in_sign len g (k - x1)) (x1 + len + x2)))) := by
  have b1 := hk.1
  intro u
  induction u with
  | zero =>
    intro i h0 hi
    have ei : i = x1 + len + x2 := by omega
    subst ei

    refine ji_iload dX2_padded_14 rfl ?_
    refine ji_aload_n dX2_padded_16 rfl trivial ?_
    refine ji_alen dX2_padded_17 (in_h1_n hq) (fun cy => rfl) ?_
    refine ji_icmp_ge (tgt := 39) dX2_padded_18 rfl (by omega) (by omega) (fun c18 => ?_) (fun c18 => absurd c18 (by omega))
    refine ji_aload_n dX2_padded_39 rfl trivial ?_
    exact ji_areturn dX2_padded_40 rfl (Or.inr ⟨_, rfl⟩) trivial ⟨rfl, rfl⟩
  | succ u ih =>
    intro i h0 hi
    have b2 := in_sign_b hk (i - x1)

    refine ji_iload dX2_padded_14 rfl ?_
    refine ji_aload_n dX2_padded_16 rfl trivial ?_
    refine ji_alen dX2_padded_17 (in_h1_n hq) (fun cy => rfl) ?_
    refine ji_icmp_ge (tgt := 39) dX2_padded_18 rfl (by omega) (by omega) (fun c18 => absurd c18 (by omega)) (fun c18 => ?_)
    refine ji_aload_n dX2_padded_21 rfl trivial ?_
    refine ji_iload dX2_padded_22 rfl ?_
    refine ji_aload_n dX2_padded_24 rfl trivial ?_
    refine ji_iload dX2_padded_25 rfl ?_
    refine ji_iload_n dX2_padded_27 rfl ?_
    refine ji_isub dX2_padded_28 ?_
    refine ji_cV dX2_padded_29 (k_Input_signAt (by omega) hk) rfl (in_0) rfl rfl wX2_signAt vX2_signAt lX2_30 rfl (Nat.le_of_ble_eq_true rfl) rfl ?_
    refine ji_castoreE dX2_padded_32 (in_h1_n hq) (by omega) (by omega) (in_h1_s hq) ?_
    refine ji_iinc dX2_padded_33 (by decide) rfl rfl ?_
    refine ji_goto (tgt := 14) dX2_padded_36 rfl ?_
    exact ji_eqv (ih (i + 1) (by omega) (by omega)) rfl rfl (by rw [ji_fill_s h0 (by rw [show ((i.toNat : Nat) : Int) = i by omega])])

set_option maxHeartbeats 4000000 in
set_option maxRecDepth 100000 in
theorem k_Input_padded {x1 x2 : Int} (hk : in_ok len g) (h1 : 0 ≤ x1 ∧ x1 ≤ 10) (h2 : 0 ≤ x2 ∧ x2 ≤ 10) (hq : q + 2 < n) : JM G (d + 1) mX2_padded [.ref q, .int (jI x1), .int (jI x2)] (in_h q n f len g S) 1 (x1 + len + x2).toNat (fun r9 h9 => r9 = .inl (some (.ref n)) ∧ h9 = (in_h1 q n f len g S (x1 + len + x2).toNat (ji_fill (fun k => in_sign len g (k - x1)) (x1 + len + x2)))) := by
  have b1 := hk.1
  refine ji_ent (by decide) rfl (Nat.le_of_ble_eq_true rfl) rfl ?_
  refine ji_iload_n dX2_padded_0 rfl ?_
  refine ji_aload_n dX2_padded_1 rfl trivial ?_
  refine ji_get (ci := 2) (k := 2) rfl dX2_padded_2 lX2_22 (by decide) (in_0) rfl ?_
  refine ji_iadd dX2_padded_5 ?_
  refine ji_iload_n dX2_padded_6 rfl ?_
  refine ji_iadd dX2_padded_7 ?_
  refine ji_newC dX2_padded_8 (by omega) (by omega) (by omega) ?_
  refine ji_astore_n dX2_padded_10 (by decide) trivial rfl ?_
  refine ji_iconst dX2_padded_11 ?_
  refine ji_istore dX2_padded_12 (by decide) rfl ?_
  exact ji_eqv (k_Input_padded_loop hk h1 h2 hq (x1 + len + x2).toNat 0 (by omega) (by omega)) rfl rfl ((in_h1_e hq).trans (by rw [ji_fill_0]))

end MInput2
