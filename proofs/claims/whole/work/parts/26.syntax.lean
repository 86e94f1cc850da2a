/-! ===== Syntax: one object ===== -/
theorem sy_p {n y : Nat} {f : Nat → ji_C} {c c' : ji_C} : ((n, va_up f y c).1, va_up (n, va_up f y c).2 y c') = (n, va_up f y c') := by rw [va_up_idem]
def sy_digit (c : Int) : Int := if 48 ≤ c ∧ c ≤ 57 then 1 else 0
def sy_sign (c : Int) : Int := if (97 ≤ c ∧ c ≤ 122) ∨ (65 ≤ c ∧ c ≤ 90) ∨ (48 ≤ c ∧ c ≤ 57) ∨ c = 46 ∨ c = 44 ∨ c = 39 then 1 else 0
abbrev sy_T : Type := Int × Int × Int × Int × Int × Int × Int
def sy_h (n y : Nat) (f : Nat → ji_C) (S : sy_T) : ji_H := (n, va_up f y (.inl (5, [.int (jI S.1), .int (jI S.2.1), .int (jI S.2.2.1), .int (jI S.2.2.2.1), .int (jI S.2.2.2.2.1), .int (jI S.2.2.2.2.2.1), .int (jI S.2.2.2.2.2.2)])))
/-- book, kind may come, paragraphs, words, signs, a digit must come, has a reference: what a character does to it -/
def sy_takes (S : sy_T) (c : Int) : Int × sy_T := match S with
  | (bk, km, pg, wd, sg, dm, hr) =>
    if ¬ dm = 0 then (sy_digit c, (bk, 0, pg, wd, sg, 0, 1))
    else if ¬ sy_sign c = 0 then (if hr = 0 ∧ sg + 1 ≤ 12 then 1 else 0, (bk, 0, pg, wd, sg + 1, dm, hr))
    else if c = 94 then (if 0 < sg ∧ hr = 0 then 1 else 0, (bk, 0, pg, wd, sg, 1, hr))
    else if c = 32 then (if 0 < sg ∧ wd < 12 + 12 * bk then 1 else 0, (bk, 0, pg, wd + 1, 0, 0, 0))
    else if c = 124 then (if ¬ bk = 0 ∧ 0 < sg ∧ pg < 10 then 1 else 0, (bk, bk, pg + 1, 0 + 1, 0, 0, 0))
    else if c = 35 ∨ c = 62 then (km, (bk, 0, pg, wd, sg, dm, hr))
    else (0, (bk, 0, pg, wd, sg, dm, hr))
section MSyntax
variable {G : ji_G} {d n y : Nat} {f : Nat → ji_C} {bk km pg wd sg dm hr : Int}
theorem sy_digit_b (c : Int) : 0 ≤ sy_digit c ∧ sy_digit c ≤ 1 := by unfold sy_digit; split <;> omega
theorem sy_sign_b (c : Int) : 0 ≤ sy_sign c ∧ sy_sign c ≤ 1 := by unfold sy_sign; split <;> omega

set_option maxHeartbeats 4000000 in
set_option maxRecDepth 100000 in
theorem k_Syntax_init   : JR G (d + 1) mX5_init [.ref y] (n, va_up f y (.inl (5, [.int (jI bk), .int (jI km), .int (jI pg), .int (jI wd), .int (jI sg), .int (jI dm), .int (jI hr)]))) 0 0 none (n, va_up f y (.inl (5, [.int (jI bk), .int (jI km), .int (jI pg), .int (jI wd), .int (jI sg), .int (jI dm), .int (jI hr)]))) := by
  refine ji_ent (by decide) rfl (Nat.le_of_ble_eq_true rfl) rfl ?_
  refine ji_aload_n dX5_init_0 rfl trivial ?_
  refine ji_objInit dX5_init_1 lX5_3 ji_wobj.1 ji_wobj.2 (Nat.le_of_ble_eq_true rfl) ?_
  exact ji_return dX5_init_4 rfl ⟨rfl, rfl⟩

set_option maxHeartbeats 4000000 in
set_option maxRecDepth 100000 in
theorem k_Syntax_isDigit {h : ji_H} {c : Int} (hc : 0 ≤ c ∧ c < 65536) : JR G d mX5_isDigit [.int (jI c)] h 0 0 (some (.int (jI (sy_digit c)))) h := by
  refine ji_ent (by decide) rfl (Nat.le_of_ble_eq_true rfl) rfl ?_
  refine ji_iload_n dX5_isDigit_0 rfl ?_
  refine ji_bipush dX5_isDigit_1 rfl ?_
  refine ji_icmp_lt (tgt := 16) dX5_isDigit_3 rfl (by omega) (by omega) (fun c3 => ?_) (fun c3 => ?_)
  · refine ji_iconst dX5_isDigit_16 ?_
    exact ji_ireturn dX5_isDigit_17 rfl (by first | rfl | decide) ⟨jr_i (by unfold sy_digit; first | (rw [if_pos (by omega)] <;> omega) | (rw [if_neg (by omega)] <;> omega)), rfl⟩
  · refine ji_iload_n dX5_isDigit_6 rfl ?_
    refine ji_bipush dX5_isDigit_7 rfl ?_
    refine ji_icmp_gt (tgt := 16) dX5_isDigit_9 rfl (by omega) (by omega) (fun c9 => ?_) (fun c9 => ?_)
    · refine ji_iconst dX5_isDigit_16 ?_
      exact ji_ireturn dX5_isDigit_17 rfl (by first | rfl | decide) ⟨jr_i (by unfold sy_digit; first | (rw [if_pos (by omega)] <;> omega) | (rw [if_neg (by omega)] <;> omega)), rfl⟩
    · refine ji_iconst dX5_isDigit_12 ?_
      refine ji_goto (tgt := 17) dX5_isDigit_13 rfl ?_
      exact ji_ireturn dX5_isDigit_17 rfl (by first | rfl | decide) ⟨jr_i (by unfold sy_digit; first | (rw [if_pos (by omega)] <;> omega) | (rw [if_neg (by omega)] <;> omega)), rfl⟩

set_option maxHeartbeats 4000000 in
set_option maxRecDepth 100000 in
theorem k_Syntax_isSignOfWord {h : ji_H} {c : Int} (hc : 0 ≤ c ∧ c < 65536) : JR G (d + 1) mX5_isSignOfWord [.int (jI c)] h 0 0 (some (.int (jI (sy_sign c)))) h := by
  have q1 : sy_digit c = 0 → ¬ (48 ≤ c ∧ c ≤ 57) := fun z q => by unfold sy_digit at z; rw [if_pos q] at z; omega
  have q2 : ¬ sy_digit c = 0 → (48 ≤ c ∧ c ≤ 57) := fun z => by unfold sy_digit at z; split at z <;> omega
  have q3 := sy_digit_b c
  refine ji_ent (by decide) rfl (Nat.le_of_ble_eq_true rfl) rfl ?_
  refine ji_iload_n dX5_isSignOfWord_0 rfl ?_
  refine ji_bipush dX5_isSignOfWord_1 rfl ?_
  refine ji_icmp_lt (tgt := 12) dX5_isSignOfWord_3 rfl (by omega) (by omega) (fun c3 => ?_) (fun c3 => ?_)
  · refine ji_iload_n dX5_isSignOfWord_12 rfl ?_
    refine ji_bipush dX5_isSignOfWord_13 rfl ?_
    refine ji_icmp_lt (tgt := 24) dX5_isSignOfWord_15 rfl (by omega) (by omega) (fun c15 => ?_) (fun c15 => ?_)
    · refine ji_iload_n dX5_isSignOfWord_24 rfl ?_
      refine ji_cS dX5_isSignOfWord_25 (k_Syntax_isDigit hc) rfl wX5_isDigit sX5_isDigit lX5_40 rfl (Nat.le_of_ble_eq_true rfl) rfl ?_
      refine ji_if_ne (tgt := 49) dX5_isSignOfWord_28 rfl (by omega) (fun c28 => ?_) (fun c28 => ?_)
      · refine ji_iconst dX5_isSignOfWord_49 ?_
        refine ji_goto (tgt := 54) dX5_isSignOfWord_50 rfl ?_
        exact ji_ireturn dX5_isSignOfWord_54 rfl (by first | rfl | decide) ⟨jr_i (by unfold sy_sign; first | (rw [if_pos (by omega)]; done) | (rw [if_neg (by omega)]; done)), rfl⟩
      · refine ji_iload_n dX5_isSignOfWord_31 rfl ?_
        refine ji_bipush dX5_isSignOfWord_32 rfl ?_
        refine ji_icmp_eq (tgt := 49) dX5_isSignOfWord_34 rfl (by omega) (by omega) (fun c34 => ?_) (fun c34 => ?_)
        · refine ji_iconst dX5_isSignOfWord_49 ?_
          refine ji_goto (tgt := 54) dX5_isSignOfWord_50 rfl ?_
          exact ji_ireturn dX5_isSignOfWord_54 rfl (by first | rfl | decide) ⟨jr_i (by unfold sy_sign; first | (rw [if_pos (by omega)]; done) | (rw [if_neg (by omega)]; done)), rfl⟩
        · refine ji_iload_n dX5_isSignOfWord_37 rfl ?_
          refine ji_bipush dX5_isSignOfWord_38 rfl ?_
          refine ji_icmp_eq (tgt := 49) dX5_isSignOfWord_40 rfl (by omega) (by omega) (fun c40 => ?_) (fun c40 => ?_)
          · refine ji_iconst dX5_isSignOfWord_49 ?_
            refine ji_goto (tgt := 54) dX5_isSignOfWord_50 rfl ?_
            exact ji_ireturn dX5_isSignOfWord_54 rfl (by first | rfl | decide) ⟨jr_i (by unfold sy_sign; first | (rw [if_pos (by omega)]; done) | (rw [if_neg (by omega)]; done)), rfl⟩
          · refine ji_iload_n dX5_isSignOfWord_43 rfl ?_
            refine ji_bipush dX5_isSignOfWord_44 rfl ?_
            refine ji_icmp_ne (tgt := 53) dX5_isSignOfWord_46 rfl (by omega) (by omega) (fun c46 => ?_) (fun c46 => ?_)
            · refine ji_iconst dX5_isSignOfWord_53 ?_
              exact ji_ireturn dX5_isSignOfWord_54 rfl (by first | rfl | decide) ⟨jr_i (by unfold sy_sign; first | (rw [if_pos (by omega)]; done) | (rw [if_neg (by omega)]; done)), rfl⟩
            · refine ji_iconst dX5_isSignOfWord_49 ?_
              refine ji_goto (tgt := 54) dX5_isSignOfWord_50 rfl ?_
              exact ji_ireturn dX5_isSignOfWord_54 rfl (by first | rfl | decide) ⟨jr_i (by unfold sy_sign; first | (rw [if_pos (by omega)]; done) | (rw [if_neg (by omega)]; done)), rfl⟩
    · refine ji_iload_n dX5_isSignOfWord_18 rfl ?_
      refine ji_bipush dX5_isSignOfWord_19 rfl ?_
      refine ji_icmp_le (tgt := 49) dX5_isSignOfWord_21 rfl (by omega) (by omega) (fun c21 => ?_) (fun c21 => ?_)
      · refine ji_iconst dX5_isSignOfWord_49 ?_
        refine ji_goto (tgt := 54) dX5_isSignOfWord_50 rfl ?_
        exact ji_ireturn dX5_isSignOfWord_54 rfl (by first | rfl | decide) ⟨jr_i (by unfold sy_sign; first | (rw [if_pos (by omega)]; done) | (rw [if_neg (by omega)]; done)), rfl⟩
      · refine ji_iload_n dX5_isSignOfWord_24 rfl ?_
        refine ji_cS dX5_isSignOfWord_25 (k_Syntax_isDigit hc) rfl wX5_isDigit sX5_isDigit lX5_40 rfl (Nat.le_of_ble_eq_true rfl) rfl ?_
        refine ji_if_ne (tgt := 49) dX5_isSignOfWord_28 rfl (by omega) (fun c28 => ?_) (fun c28 => ?_)
        · refine ji_iconst dX5_isSignOfWord_49 ?_
          refine ji_goto (tgt := 54) dX5_isSignOfWord_50 rfl ?_
          exact ji_ireturn dX5_isSignOfWord_54 rfl (by first | rfl | decide) ⟨jr_i (by unfold sy_sign; first | (rw [if_pos (by omega)]; done) | (rw [if_neg (by omega)]; done)), rfl⟩
        · refine ji_iload_n dX5_isSignOfWord_31 rfl ?_
          refine ji_bipush dX5_isSignOfWord_32 rfl ?_
          refine ji_icmp_eq (tgt := 49) dX5_isSignOfWord_34 rfl (by omega) (by omega) (fun c34 => ?_) (fun c34 => ?_)
          · refine ji_iconst dX5_isSignOfWord_49 ?_
            refine ji_goto (tgt := 54) dX5_isSignOfWord_50 rfl ?_
            exact ji_ireturn dX5_isSignOfWord_54 rfl (by first | rfl | decide) ⟨jr_i (by unfold sy_sign; first | (rw [if_pos (by omega)]; done) | (rw [if_neg (by omega)]; done)), rfl⟩
          · refine ji_iload_n dX5_isSignOfWord_37 rfl ?_
            refine ji_bipush dX5_isSignOfWord_38 rfl ?_
            refine ji_icmp_eq (tgt := 49) dX5_isSignOfWord_40 rfl (by omega) (by omega) (fun c40 => ?_) (fun c40 => ?_)
            · refine ji_iconst dX5_isSignOfWord_49 ?_
              refine ji_goto (tgt := 54) dX5_isSignOfWord_50 rfl ?_
              exact ji_ireturn dX5_isSignOfWord_54 rfl (by first | rfl | decide) ⟨jr_i (by unfold sy_sign; first | (rw [if_pos (by omega)]; done) | (rw [if_neg (by omega)]; done)), rfl⟩
            · refine ji_iload_n dX5_isSignOfWord_43 rfl ?_
              refine ji_bipush dX5_isSignOfWord_44 rfl ?_
              refine ji_icmp_ne (tgt := 53) dX5_isSignOfWord_46 rfl (by omega) (by omega) (fun c46 => ?_) (fun c46 => ?_)
              · refine ji_iconst dX5_isSignOfWord_53 ?_
                exact ji_ireturn dX5_isSignOfWord_54 rfl (by first | rfl | decide) ⟨jr_i (by unfold sy_sign; first | (rw [if_pos (by omega)]; done) | (rw [if_neg (by omega)]; done)), rfl⟩
              · refine ji_iconst dX5_isSignOfWord_49 ?_
                refine ji_goto (tgt := 54) dX5_isSignOfWord_50 rfl ?_
                exact ji_ireturn dX5_isSignOfWord_54 rfl (by first | rfl | decide) ⟨jr_i (by unfold sy_sign; first | (rw [if_pos (by omega)]; done) | (rw [if_neg (by omega)]; done)), rfl⟩
  · refine ji_iload_n dX5_isSignOfWord_6 rfl ?_
    refine ji_bipush dX5_isSignOfWord_7 rfl ?_
    refine ji_icmp_le (tgt := 49) dX5_isSignOfWord_9 rfl (by omega) (by omega) (fun c9 => ?_) (fun c9 => ?_)
    · refine ji_iconst dX5_isSignOfWord_49 ?_
      refine ji_goto (tgt := 54) dX5_isSignOfWord_50 rfl ?_
      exact ji_ireturn dX5_isSignOfWord_54 rfl (by first | rfl | decide) ⟨jr_i (by unfold sy_sign; first | (rw [if_pos (by omega)]; done) | (rw [if_neg (by omega)]; done)), rfl⟩
    · refine ji_iload_n dX5_isSignOfWord_12 rfl ?_
      refine ji_bipush dX5_isSignOfWord_13 rfl ?_
      refine ji_icmp_lt (tgt := 24) dX5_isSignOfWord_15 rfl (by omega) (by omega) (fun c15 => ?_) (fun c15 => ?_)
      · refine ji_iload_n dX5_isSignOfWord_24 rfl ?_
        refine ji_cS dX5_isSignOfWord_25 (k_Syntax_isDigit hc) rfl wX5_isDigit sX5_isDigit lX5_40 rfl (Nat.le_of_ble_eq_true rfl) rfl ?_
        refine ji_if_ne (tgt := 49) dX5_isSignOfWord_28 rfl (by omega) (fun c28 => ?_) (fun c28 => ?_)
        · refine ji_iconst dX5_isSignOfWord_49 ?_
          refine ji_goto (tgt := 54) dX5_isSignOfWord_50 rfl ?_
          exact ji_ireturn dX5_isSignOfWord_54 rfl (by first | rfl | decide) ⟨jr_i (by unfold sy_sign; first | (rw [if_pos (by omega)]; done) | (rw [if_neg (by omega)]; done)), rfl⟩
        · refine ji_iload_n dX5_isSignOfWord_31 rfl ?_
          refine ji_bipush dX5_isSignOfWord_32 rfl ?_
          refine ji_icmp_eq (tgt := 49) dX5_isSignOfWord_34 rfl (by omega) (by omega) (fun c34 => ?_) (fun c34 => ?_)
          · refine ji_iconst dX5_isSignOfWord_49 ?_
            refine ji_goto (tgt := 54) dX5_isSignOfWord_50 rfl ?_
            exact ji_ireturn dX5_isSignOfWord_54 rfl (by first | rfl | decide) ⟨jr_i (by unfold sy_sign; first | (rw [if_pos (by omega)]; done) | (rw [if_neg (by omega)]; done)), rfl⟩
          · refine ji_iload_n dX5_isSignOfWord_37 rfl ?_
            refine ji_bipush dX5_isSignOfWord_38 rfl ?_
            refine ji_icmp_eq (tgt := 49) dX5_isSignOfWord_40 rfl (by omega) (by omega) (fun c40 => ?_) (fun c40 => ?_)
            · refine ji_iconst dX5_isSignOfWord_49 ?_
              refine ji_goto (tgt := 54) dX5_isSignOfWord_50 rfl ?_
              exact ji_ireturn dX5_isSignOfWord_54 rfl (by first | rfl | decide) ⟨jr_i (by unfold sy_sign; first | (rw [if_pos (by omega)]; done) | (rw [if_neg (by omega)]; done)), rfl⟩
            · refine ji_iload_n dX5_isSignOfWord_43 rfl ?_
              refine ji_bipush dX5_isSignOfWord_44 rfl ?_
              refine ji_icmp_ne (tgt := 53) dX5_isSignOfWord_46 rfl (by omega) (by omega) (fun c46 => ?_) (fun c46 => ?_)
              · refine ji_iconst dX5_isSignOfWord_53 ?_
                exact ji_ireturn dX5_isSignOfWord_54 rfl (by first | rfl | decide) ⟨jr_i (by unfold sy_sign; first | (rw [if_pos (by omega)]; done) | (rw [if_neg (by omega)]; done)), rfl⟩
              · refine ji_iconst dX5_isSignOfWord_49 ?_
                refine ji_goto (tgt := 54) dX5_isSignOfWord_50 rfl ?_
                exact ji_ireturn dX5_isSignOfWord_54 rfl (by first | rfl | decide) ⟨jr_i (by unfold sy_sign; first | (rw [if_pos (by omega)]; done) | (rw [if_neg (by omega)]; done)), rfl⟩
      · refine ji_iload_n dX5_isSignOfWord_18 rfl ?_
        refine ji_bipush dX5_isSignOfWord_19 rfl ?_
        refine ji_icmp_le (tgt := 49) dX5_isSignOfWord_21 rfl (by omega) (by omega) (fun c21 => ?_) (fun c21 => ?_)
        · refine ji_iconst dX5_isSignOfWord_49 ?_
          refine ji_goto (tgt := 54) dX5_isSignOfWord_50 rfl ?_
          exact ji_ireturn dX5_isSignOfWord_54 rfl (by first | rfl | decide) ⟨jr_i (by unfold sy_sign; first | (rw [if_pos (by omega)]; done) | (rw [if_neg (by omega)]; done)), rfl⟩
        · refine ji_iload_n dX5_isSignOfWord_24 rfl ?_
          refine ji_cS dX5_isSignOfWord_25 (k_Syntax_isDigit hc) rfl wX5_isDigit sX5_isDigit lX5_40 rfl (Nat.le_of_ble_eq_true rfl) rfl ?_
          refine ji_if_ne (tgt := 49) dX5_isSignOfWord_28 rfl (by omega) (fun c28 => ?_) (fun c28 => ?_)
          · refine ji_iconst dX5_isSignOfWord_49 ?_
            refine ji_goto (tgt := 54) dX5_isSignOfWord_50 rfl ?_
            exact ji_ireturn dX5_isSignOfWord_54 rfl (by first | rfl | decide) ⟨jr_i (by unfold sy_sign; first | (rw [if_pos (by omega)]; done) | (rw [if_neg (by omega)]; done)), rfl⟩
          · refine ji_iload_n dX5_isSignOfWord_31 rfl ?_
            refine ji_bipush dX5_isSignOfWord_32 rfl ?_
            refine ji_icmp_eq (tgt := 49) dX5_isSignOfWord_34 rfl (by omega) (by omega) (fun c34 => ?_) (fun c34 => ?_)
            · refine ji_iconst dX5_isSignOfWord_49 ?_
              refine ji_goto (tgt := 54) dX5_isSignOfWord_50 rfl ?_
              exact ji_ireturn dX5_isSignOfWord_54 rfl (by first | rfl | decide) ⟨jr_i (by unfold sy_sign; first | (rw [if_pos (by omega)]; done) | (rw [if_neg (by omega)]; done)), rfl⟩
            · refine ji_iload_n dX5_isSignOfWord_37 rfl ?_
              refine ji_bipush dX5_isSignOfWord_38 rfl ?_
              refine ji_icmp_eq (tgt := 49) dX5_isSignOfWord_40 rfl (by omega) (by omega) (fun c40 => ?_) (fun c40 => ?_)
              · refine ji_iconst dX5_isSignOfWord_49 ?_
                refine ji_goto (tgt := 54) dX5_isSignOfWord_50 rfl ?_
                exact ji_ireturn dX5_isSignOfWord_54 rfl (by first | rfl | decide) ⟨jr_i (by unfold sy_sign; first | (rw [if_pos (by omega)]; done) | (rw [if_neg (by omega)]; done)), rfl⟩
              · refine ji_iload_n dX5_isSignOfWord_43 rfl ?_
                refine ji_bipush dX5_isSignOfWord_44 rfl ?_
                refine ji_icmp_ne (tgt := 53) dX5_isSignOfWord_46 rfl (by omega) (by omega) (fun c46 => ?_) (fun c46 => ?_)
                · refine ji_iconst dX5_isSignOfWord_53 ?_
                  exact ji_ireturn dX5_isSignOfWord_54 rfl (by first | rfl | decide) ⟨jr_i (by unfold sy_sign; first | (rw [if_pos (by omega)]; done) | (rw [if_neg (by omega)]; done)), rfl⟩
                · refine ji_iconst dX5_isSignOfWord_49 ?_
                  refine ji_goto (tgt := 54) dX5_isSignOfWord_50 rfl ?_
                  exact ji_ireturn dX5_isSignOfWord_54 rfl (by first | rfl | decide) ⟨jr_i (by unfold sy_sign; first | (rw [if_pos (by omega)]; done) | (rw [if_neg (by omega)]; done)), rfl⟩

set_option maxHeartbeats 4000000 in
set_option maxRecDepth 100000 in
theorem k_Syntax_beginWord   : JR G d mX5_beginWord [.ref y] (n, va_up f y (.inl (5, [.int (jI bk), .int (jI km), .int (jI pg), .int (jI wd), .int (jI sg), .int (jI dm), .int (jI hr)]))) 0 0 none (n, va_up f y (.inl (5, [.int (jI (bk)), .int (jI (km)), .int (jI (pg)), .int (jI (wd + 1)), .int (jI (0)), .int (jI (0)), .int (jI (0))]))) := by
  refine ji_ent (by decide) rfl (Nat.le_of_ble_eq_true rfl) rfl ?_
  refine ji_aload_n dX5_beginWord_0 rfl trivial ?_
  refine ji_dup dX5_beginWord_1 rfl ?_
  refine ji_get (ci := 5) (k := 3) rfl dX5_beginWord_2 lX5_25 (by decide) (va_up_self _ _ _) rfl ?_
  refine ji_iconst dX5_beginWord_5 ?_
  refine ji_iadd dX5_beginWord_6 ?_
  refine ji_putE (ci := 5) (k := 3) rfl dX5_beginWord_7 lX5_25 (by decide) (va_up_self _ _ _) (by simp) (ji_fitI _) rfl (sy_p) ?_
  refine ji_aload_n dX5_beginWord_10 rfl trivial ?_
  refine ji_iconst dX5_beginWord_11 ?_
  refine ji_putE (ci := 5) (k := 4) rfl dX5_beginWord_12 lX5_31 (by decide) (va_up_self _ _ _) (by simp) (ji_fitI _) rfl (sy_p) ?_
  refine ji_aload_n dX5_beginWord_15 rfl trivial ?_
  refine ji_iconst dX5_beginWord_16 ?_
  refine ji_putE (ci := 5) (k := 5) rfl dX5_beginWord_17 lX5_34 (by decide) (va_up_self _ _ _) (by simp) (ji_fitZ (by first | omega | decide)) rfl (sy_p) ?_
  refine ji_aload_n dX5_beginWord_20 rfl trivial ?_
  refine ji_iconst dX5_beginWord_21 ?_
  refine ji_putE (ci := 5) (k := 6) rfl dX5_beginWord_22 lX5_37 (by decide) (va_up_self _ _ _) (by simp) (ji_fitZ (by first | omega | decide)) rfl (sy_p) ?_
  exact ji_return dX5_beginWord_25 rfl ⟨rfl, rfl⟩

set_option maxHeartbeats 4000000 in
set_option maxRecDepth 100000 in
theorem k_Syntax_beginParagraph  (z_bk : bk = 0 ∨ bk = 1) : JR G (d + 1) mX5_beginParagraph [.ref y] (n, va_up f y (.inl (5, [.int (jI bk), .int (jI km), .int (jI pg), .int (jI wd), .int (jI sg), .int (jI dm), .int (jI hr)]))) 0 0 none (n, va_up f y (.inl (5, [.int (jI (bk)), .int (jI (bk)), .int (jI (pg + 1)), .int (jI (0 + 1)), .int (jI (0)), .int (jI (0)), .int (jI (0))]))) := by
  refine ji_ent (by decide) rfl (Nat.le_of_ble_eq_true rfl) rfl ?_
  refine ji_aload_n dX5_beginParagraph_0 rfl trivial ?_
  refine ji_dup dX5_beginParagraph_1 rfl ?_
  refine ji_get (ci := 5) (k := 2) rfl dX5_beginParagraph_2 lX5_15 (by decide) (va_up_self _ _ _) rfl ?_
  refine ji_iconst dX5_beginParagraph_5 ?_
  refine ji_iadd dX5_beginParagraph_6 ?_
  refine ji_putE (ci := 5) (k := 2) rfl dX5_beginParagraph_7 lX5_15 (by decide) (va_up_self _ _ _) (by simp) (ji_fitI _) rfl (sy_p) ?_
  refine ji_aload_n dX5_beginParagraph_10 rfl trivial ?_
  refine ji_aload_n dX5_beginParagraph_11 rfl trivial ?_
  refine ji_get (ci := 5) (k := 0) rfl dX5_beginParagraph_12 lX5_9 (by decide) (va_up_self _ _ _) rfl ?_
  refine ji_putE (ci := 5) (k := 1) rfl dX5_beginParagraph_15 lX5_22 (by decide) (va_up_self _ _ _) (by simp) (ji_fitZ (by first | omega | decide)) rfl (sy_p) ?_
  refine ji_aload_n dX5_beginParagraph_18 rfl trivial ?_
  refine ji_iconst dX5_beginParagraph_19 ?_
  refine ji_putE (ci := 5) (k := 3) rfl dX5_beginParagraph_20 lX5_25 (by decide) (va_up_self _ _ _) (by simp) (ji_fitI _) rfl (sy_p) ?_
  refine ji_aload_n dX5_beginParagraph_23 rfl trivial ?_
  refine ji_cVv dX5_beginParagraph_24 (k_Syntax_beginWord) rfl (va_up_self _ _ _) rfl rfl wX5_beginWord vX5_beginWord lX5_28 rfl (Nat.le_of_ble_eq_true rfl) rfl ?_
  exact ji_return dX5_beginParagraph_27 rfl ⟨rfl, rfl⟩

set_option maxHeartbeats 4000000 in
set_option maxRecDepth 100000 in
theorem k_Syntax_begin  {v : Int} (z_v : v = 0 ∨ v = 1) : JR G (d + 2) mX5_begin [.ref y, .int (jI (v))] (n, va_up f y (.inl (5, [.int (jI bk), .int (jI km), .int (jI pg), .int (jI wd), .int (jI sg), .int (jI dm), .int (jI hr)]))) 0 0 none (n, va_up f y (.inl (5, [.int (jI (v)), .int (jI (v)), .int (jI (0 + 1)), .int (jI (0 + 1)), .int (jI (0)), .int (jI (0)), .int (jI (0))]))) := by
  refine ji_ent (by decide) rfl (Nat.le_of_ble_eq_true rfl) rfl ?_
  refine ji_aload_n dX5_begin_0 rfl trivial ?_
  refine ji_iload_n dX5_begin_1 rfl ?_
  refine ji_putE (ci := 5) (k := 0) rfl dX5_begin_2 lX5_9 (by decide) (va_up_self _ _ _) (by simp) (ji_fitZ (by first | omega | decide)) rfl (sy_p) ?_
  refine ji_aload_n dX5_begin_5 rfl trivial ?_
  refine ji_iconst dX5_begin_6 ?_
  refine ji_putE (ci := 5) (k := 2) rfl dX5_begin_7 lX5_15 (by decide) (va_up_self _ _ _) (by simp) (ji_fitI _) rfl (sy_p) ?_
  refine ji_aload_n dX5_begin_10 rfl trivial ?_
  refine ji_cVv dX5_begin_11 (k_Syntax_beginParagraph z_v) rfl (va_up_self _ _ _) rfl rfl wX5_beginParagraph vX5_beginParagraph lX5_19 rfl (Nat.le_of_ble_eq_true rfl) rfl ?_
  exact ji_return dX5_begin_14 rfl ⟨rfl, rfl⟩

def sy_end (sg dm : Int) : Int := if 0 < sg ∧ dm = 0 then 1 else 0
set_option maxHeartbeats 4000000 in
set_option maxRecDepth 100000 in
theorem k_Syntax_mayEnd  (hs : 0 ≤ sg ∧ sg ≤ 1000) (z_dm : dm = 0 ∨ dm = 1) : JR G d mX5_mayEnd [.ref y] (n, va_up f y (.inl (5, [.int (jI bk), .int (jI km), .int (jI pg), .int (jI wd), .int (jI sg), .int (jI dm), .int (jI hr)]))) 0 0 (some (.int (jI (sy_end sg dm)))) (n, va_up f y (.inl (5, [.int (jI bk), .int (jI km), .int (jI pg), .int (jI wd), .int (jI sg), .int (jI dm), .int (jI hr)]))) := by
  refine ji_ent (by decide) rfl (Nat.le_of_ble_eq_true rfl) rfl ?_
  refine ji_aload_n dX5_mayEnd_0 rfl trivial ?_
  refine ji_get (ci := 5) (k := 4) rfl dX5_mayEnd_1 lX5_31 (by decide) (va_up_self _ _ _) rfl ?_
  refine ji_if_le (tgt := 18) dX5_mayEnd_4 rfl (by omega) (fun c4 => ?_) (fun c4 => ?_)
  · refine ji_iconst dX5_mayEnd_18 ?_
    exact ji_ireturn dX5_mayEnd_19 rfl (by first | rfl | decide) ⟨jr_i (by unfold sy_end; first | (rw [if_pos (by omega)] <;> omega) | (rw [if_neg (by omega)] <;> omega)), rfl⟩
  · refine ji_aload_n dX5_mayEnd_7 rfl trivial ?_
    refine ji_get (ci := 5) (k := 5) rfl dX5_mayEnd_8 lX5_34 (by decide) (va_up_self _ _ _) rfl ?_
    refine ji_if_ne (tgt := 18) dX5_mayEnd_11 rfl (by omega) (fun c11 => ?_) (fun c11 => ?_)
    · refine ji_iconst dX5_mayEnd_18 ?_
      exact ji_ireturn dX5_mayEnd_19 rfl (by first | rfl | decide) ⟨jr_i (by unfold sy_end; first | (rw [if_pos (by omega)] <;> omega) | (rw [if_neg (by omega)] <;> omega)), rfl⟩
    · refine ji_iconst dX5_mayEnd_14 ?_
      refine ji_goto (tgt := 19) dX5_mayEnd_15 rfl ?_
      exact ji_ireturn dX5_mayEnd_19 rfl (by first | rfl | decide) ⟨jr_i (by unfold sy_end; first | (rw [if_pos (by omega)] <;> omega) | (rw [if_neg (by omega)] <;> omega)), rfl⟩

theorem sy_t1 {c : Int} (h : ¬ dm = 0) : sy_takes (bk, km, pg, wd, sg, dm, hr) c = (sy_digit c, (bk, 0, pg, wd, sg, 0, 1)) := if_pos h
theorem sy_t2 {c : Int} (h : dm = 0) (h2 : ¬ sy_sign c = 0) : sy_takes (bk, km, pg, wd, sg, dm, hr) c = (if hr = 0 ∧ sg + 1 ≤ 12 then 1 else 0, (bk, 0, pg, wd, sg + 1, dm, hr)) := (if_neg (fun q => q h)).trans (if_pos h2)
theorem sy_t3 {c : Int} (h : dm = 0) (h2 : sy_sign c = 0) (hc : c = 94) : sy_takes (bk, km, pg, wd, sg, dm, hr) c = (if 0 < sg ∧ hr = 0 then 1 else 0, (bk, 0, pg, wd, sg, 1, hr)) := (if_neg (fun q => q h)).trans ((if_neg (fun q => q h2)).trans (if_pos hc))
theorem sy_t4 {c : Int} (h : dm = 0) (h2 : sy_sign c = 0) (hc : c = 32) : sy_takes (bk, km, pg, wd, sg, dm, hr) c = (if 0 < sg ∧ wd < 12 + 12 * bk then 1 else 0, (bk, 0, pg, wd + 1, 0, 0, 0)) := (if_neg (fun q => q h)).trans ((if_neg (fun q => q h2)).trans ((if_neg (by omega)).trans (if_pos hc)))
theorem sy_t5 {c : Int} (h : dm = 0) (h2 : sy_sign c = 0) (hc : c = 124) : sy_takes (bk, km, pg, wd, sg, dm, hr) c = (if ¬ bk = 0 ∧ 0 < sg ∧ pg < 10 then 1 else 0, (bk, bk, pg + 1, 0 + 1, 0, 0, 0)) := (if_neg (fun q => q h)).trans ((if_neg (fun q => q h2)).trans ((if_neg (by omega)).trans ((if_neg (by omega)).trans (if_pos hc))))
theorem sy_t6 {c : Int} (h : dm = 0) (h2 : sy_sign c = 0) (hc : c = 35 ∨ c = 62) : sy_takes (bk, km, pg, wd, sg, dm, hr) c = (km, (bk, 0, pg, wd, sg, dm, hr)) := (if_neg (fun q => q h)).trans ((if_neg (fun q => q h2)).trans ((if_neg (by omega)).trans ((if_neg (by omega)).trans ((if_neg (by omega)).trans (if_pos hc)))))
theorem sy_t7 {c : Int} (h : dm = 0) (h2 : sy_sign c = 0) (hc : ¬ c = 94 ∧ ¬ c = 32 ∧ ¬ c = 124 ∧ ¬ c = 35 ∧ ¬ c = 62) : sy_takes (bk, km, pg, wd, sg, dm, hr) c = (0, (bk, 0, pg, wd, sg, dm, hr)) := (if_neg (fun q => q h)).trans ((if_neg (fun q => q h2)).trans ((if_neg (by omega)).trans ((if_neg (by omega)).trans ((if_neg (by omega)).trans (if_neg (by omega))))))

set_option maxHeartbeats 4000000 in
set_option maxRecDepth 100000 in
theorem k_Syntax_takes {c : Int} (hc : 0 ≤ c ∧ c < 65536) (hs : 0 ≤ sg ∧ sg ≤ 1000) (hw : 0 ≤ wd ∧ wd ≤ 1000) (hp : 0 ≤ pg ∧ pg ≤ 1000) (z_bk : bk = 0 ∨ bk = 1) (z_km : km = 0 ∨ km = 1) (z_dm : dm = 0 ∨ dm = 1) (z_hr : hr = 0 ∨ hr = 1) : JR G (d + 2) mX5_takes [.ref y, .int (jI c)] (sy_h n y f (bk, km, pg, wd, sg, dm, hr)) 0 0 (some (.int (jI (sy_takes (bk, km, pg, wd, sg, dm, hr) c).1))) (sy_h n y f (sy_takes (bk, km, pg, wd, sg, dm, hr) c).2) := by
  have q1 := sy_digit_b c
  have q2 := sy_sign_b c
  show JR G (d + 2) mX5_takes [.ref y, .int (jI c)] (n, va_up f y (.inl (5, [.int (jI bk), .int (jI km), .int (jI pg), .int (jI wd), .int (jI sg), .int (jI dm), .int (jI hr)]))) 0 0 _ _
  refine ji_ent (by decide) rfl (Nat.le_of_ble_eq_true rfl) rfl ?_
  refine ji_aload_n dX5_takes_0 rfl trivial ?_
  refine ji_get (ci := 5) (k := 1) rfl dX5_takes_1 lX5_22 (by decide) (va_up_self _ _ _) rfl ?_
  refine ji_istore_n dX5_takes_4 (by decide) rfl ?_
  refine ji_aload_n dX5_takes_5 rfl trivial ?_
  refine ji_iconst dX5_takes_6 ?_
  refine ji_putE (ci := 5) (k := 1) rfl dX5_takes_7 lX5_22 (by decide) (va_up_self _ _ _) (by simp) (ji_fitZ (by first | omega | decide)) rfl (sy_p) ?_
  refine ji_aload_n dX5_takes_10 rfl trivial ?_
  refine ji_get (ci := 5) (k := 5) rfl dX5_takes_11 lX5_34 (by decide) (va_up_self _ _ _) rfl ?_
  refine ji_if_eq (tgt := 32) dX5_takes_14 rfl (by omega) (fun c14 => ?_) (fun c14 => ?_)
  · refine ji_iload_n dX5_takes_32 rfl ?_
    refine ji_cS dX5_takes_33 (k_Syntax_isSignOfWord hc) rfl wX5_isSignOfWord sX5_isSignOfWord lX5_44 rfl (Nat.le_of_ble_eq_true rfl) rfl ?_
    refine ji_if_eq (tgt := 71) dX5_takes_36 rfl (by omega) (fun c36 => ?_) (fun c36 => ?_)
    · refine ji_iload_n dX5_takes_71 rfl ?_
      by_cases e94 : c = 94
      · refine ji_lsw (tgt := 124) dX5_takes_72 (by decide) (by omega) (by rw [e94]) rfl ?_
        refine ji_aload_n dX5_takes_124 rfl trivial ?_
        refine ji_iconst dX5_takes_125 ?_
        refine ji_putE (ci := 5) (k := 5) rfl dX5_takes_126 lX5_34 (by decide) (va_up_self _ _ _) (by simp) (ji_fitZ (by first | omega | decide)) rfl (sy_p) ?_
        refine ji_aload_n dX5_takes_129 rfl trivial ?_
        refine ji_get (ci := 5) (k := 4) rfl dX5_takes_130 lX5_31 (by decide) (va_up_self _ _ _) rfl ?_
        refine ji_if_le (tgt := 147) dX5_takes_133 rfl (by omega) (fun c133 => ?_) (fun c133 => ?_)
        · refine ji_iconst dX5_takes_147 ?_
          exact ji_ireturn dX5_takes_148 rfl (by first | rfl | decide | (rcases z_km with e | e <;> rw [e] <;> decide) | (rcases (show sy_digit c = 0 ∨ sy_digit c = 1 by omega) with e | e <;> rw [e] <;> decide)) (by rw [sy_t3 (by omega) (by omega) (by omega)]; exact ⟨jr_i (by first | (rw [if_pos (by omega)]; done) | (rw [if_neg (by omega)]; done)), rfl⟩)
        · refine ji_aload_n dX5_takes_136 rfl trivial ?_
          refine ji_get (ci := 5) (k := 6) rfl dX5_takes_137 lX5_37 (by decide) (va_up_self _ _ _) rfl ?_
          refine ji_if_ne (tgt := 147) dX5_takes_140 rfl (by omega) (fun c140 => ?_) (fun c140 => ?_)
          · refine ji_iconst dX5_takes_147 ?_
            exact ji_ireturn dX5_takes_148 rfl (by first | rfl | decide | (rcases z_km with e | e <;> rw [e] <;> decide) | (rcases (show sy_digit c = 0 ∨ sy_digit c = 1 by omega) with e | e <;> rw [e] <;> decide)) (by rw [sy_t3 (by omega) (by omega) (by omega)]; exact ⟨jr_i (by first | (rw [if_pos (by omega)]; done) | (rw [if_neg (by omega)]; done)), rfl⟩)
          · refine ji_iconst dX5_takes_143 ?_
            refine ji_goto (tgt := 148) dX5_takes_144 rfl ?_
            exact ji_ireturn dX5_takes_148 rfl (by first | rfl | decide | (rcases z_km with e | e <;> rw [e] <;> decide) | (rcases (show sy_digit c = 0 ∨ sy_digit c = 1 by omega) with e | e <;> rw [e] <;> decide)) (by rw [sy_t3 (by omega) (by omega) (by omega)]; exact ⟨jr_i (by first | (rw [if_pos (by omega)]; done) | (rw [if_neg (by omega)]; done)), rfl⟩)
      by_cases e32 : c = 32
      · refine ji_lsw (tgt := 149) dX5_takes_72 (by decide) (by omega) (by rw [e32]) rfl ?_
        refine ji_aload_n dX5_takes_149 rfl trivial ?_
        refine ji_get (ci := 5) (k := 4) rfl dX5_takes_150 lX5_31 (by decide) (va_up_self _ _ _) rfl ?_
        refine ji_if_le (tgt := 181) dX5_takes_153 rfl (by omega) (fun c153 => ?_) (fun c153 => ?_)
        · refine ji_iconst dX5_takes_181 ?_
          refine ji_istore_n dX5_takes_182 (by decide) rfl ?_
          refine ji_aload_n dX5_takes_183 rfl trivial ?_
          refine ji_cVv dX5_takes_184 (k_Syntax_beginWord) rfl (va_up_self _ _ _) rfl rfl wX5_beginWord vX5_beginWord lX5_28 rfl (Nat.le_of_ble_eq_true rfl) rfl ?_
          refine ji_iload_n dX5_takes_187 rfl ?_
          exact ji_ireturn dX5_takes_188 rfl (by first | rfl | decide | (rcases z_km with e | e <;> rw [e] <;> decide) | (rcases (show sy_digit c = 0 ∨ sy_digit c = 1 by omega) with e | e <;> rw [e] <;> decide)) (by rw [sy_t4 (by omega) (by omega) (by omega)]; exact ⟨jr_i (by first | (rw [if_pos (by omega)]; done) | (rw [if_neg (by omega)]; done)), rfl⟩)
        · refine ji_aload_n dX5_takes_156 rfl trivial ?_
          refine ji_get (ci := 5) (k := 3) rfl dX5_takes_157 lX5_25 (by decide) (va_up_self _ _ _) rfl ?_
          refine ji_aload_n dX5_takes_160 rfl trivial ?_
          refine ji_get (ci := 5) (k := 0) rfl dX5_takes_161 lX5_9 (by decide) (va_up_self _ _ _) rfl ?_
          refine ji_if_eq (tgt := 172) dX5_takes_164 rfl (by omega) (fun c164 => ?_) (fun c164 => ?_)
          · refine ji_bipush dX5_takes_172 rfl ?_
            refine ji_icmp_ge (tgt := 181) dX5_takes_174 rfl (by omega) (by omega) (fun c174 => ?_) (fun c174 => ?_)
            · refine ji_iconst dX5_takes_181 ?_
              refine ji_istore_n dX5_takes_182 (by decide) rfl ?_
              refine ji_aload_n dX5_takes_183 rfl trivial ?_
              refine ji_cVv dX5_takes_184 (k_Syntax_beginWord) rfl (va_up_self _ _ _) rfl rfl wX5_beginWord vX5_beginWord lX5_28 rfl (Nat.le_of_ble_eq_true rfl) rfl ?_
              refine ji_iload_n dX5_takes_187 rfl ?_
              exact ji_ireturn dX5_takes_188 rfl (by first | rfl | decide | (rcases z_km with e | e <;> rw [e] <;> decide) | (rcases (show sy_digit c = 0 ∨ sy_digit c = 1 by omega) with e | e <;> rw [e] <;> decide)) (by rw [sy_t4 (by omega) (by omega) (by omega)]; exact ⟨jr_i (by first | (rw [if_pos (by omega)]; done) | (rw [if_neg (by omega)]; done)), rfl⟩)
            · refine ji_iconst dX5_takes_177 ?_
              refine ji_goto (tgt := 182) dX5_takes_178 rfl ?_
              refine ji_istore_n dX5_takes_182 (by decide) rfl ?_
              refine ji_aload_n dX5_takes_183 rfl trivial ?_
              refine ji_cVv dX5_takes_184 (k_Syntax_beginWord) rfl (va_up_self _ _ _) rfl rfl wX5_beginWord vX5_beginWord lX5_28 rfl (Nat.le_of_ble_eq_true rfl) rfl ?_
              refine ji_iload_n dX5_takes_187 rfl ?_
              exact ji_ireturn dX5_takes_188 rfl (by first | rfl | decide | (rcases z_km with e | e <;> rw [e] <;> decide) | (rcases (show sy_digit c = 0 ∨ sy_digit c = 1 by omega) with e | e <;> rw [e] <;> decide)) (by rw [sy_t4 (by omega) (by omega) (by omega)]; exact ⟨jr_i (by first | (rw [if_pos (by omega)]; done) | (rw [if_neg (by omega)]; done)), rfl⟩)
          · refine ji_bipush dX5_takes_167 rfl ?_
            refine ji_goto (tgt := 174) dX5_takes_169 rfl ?_
            refine ji_icmp_ge (tgt := 181) dX5_takes_174 rfl (by omega) (by omega) (fun c174 => ?_) (fun c174 => ?_)
            · refine ji_iconst dX5_takes_181 ?_
              refine ji_istore_n dX5_takes_182 (by decide) rfl ?_
              refine ji_aload_n dX5_takes_183 rfl trivial ?_
              refine ji_cVv dX5_takes_184 (k_Syntax_beginWord) rfl (va_up_self _ _ _) rfl rfl wX5_beginWord vX5_beginWord lX5_28 rfl (Nat.le_of_ble_eq_true rfl) rfl ?_
              refine ji_iload_n dX5_takes_187 rfl ?_
              exact ji_ireturn dX5_takes_188 rfl (by first | rfl | decide | (rcases z_km with e | e <;> rw [e] <;> decide) | (rcases (show sy_digit c = 0 ∨ sy_digit c = 1 by omega) with e | e <;> rw [e] <;> decide)) (by rw [sy_t4 (by omega) (by omega) (by omega)]; exact ⟨jr_i (by first | (rw [if_pos (by omega)]; done) | (rw [if_neg (by omega)]; done)), rfl⟩)
            · refine ji_iconst dX5_takes_177 ?_
              refine ji_goto (tgt := 182) dX5_takes_178 rfl ?_
              refine ji_istore_n dX5_takes_182 (by decide) rfl ?_
              refine ji_aload_n dX5_takes_183 rfl trivial ?_
              refine ji_cVv dX5_takes_184 (k_Syntax_beginWord) rfl (va_up_self _ _ _) rfl rfl wX5_beginWord vX5_beginWord lX5_28 rfl (Nat.le_of_ble_eq_true rfl) rfl ?_
              refine ji_iload_n dX5_takes_187 rfl ?_
              exact ji_ireturn dX5_takes_188 rfl (by first | rfl | decide | (rcases z_km with e | e <;> rw [e] <;> decide) | (rcases (show sy_digit c = 0 ∨ sy_digit c = 1 by omega) with e | e <;> rw [e] <;> decide)) (by rw [sy_t4 (by omega) (by omega) (by omega)]; exact ⟨jr_i (by first | (rw [if_pos (by omega)]; done) | (rw [if_neg (by omega)]; done)), rfl⟩)
      by_cases e124 : c = 124
      · refine ji_lsw (tgt := 189) dX5_takes_72 (by decide) (by omega) (by rw [e124]) rfl ?_
        refine ji_aload_n dX5_takes_189 rfl trivial ?_
        refine ji_get (ci := 5) (k := 0) rfl dX5_takes_190 lX5_9 (by decide) (va_up_self _ _ _) rfl ?_
        refine ji_if_eq (tgt := 216) dX5_takes_193 rfl (by omega) (fun c193 => ?_) (fun c193 => ?_)
        · refine ji_iconst dX5_takes_216 ?_
          refine ji_istore dX5_takes_217 (by decide) rfl ?_
          refine ji_aload_n dX5_takes_219 rfl trivial ?_
          refine ji_cVv dX5_takes_220 (k_Syntax_beginParagraph z_bk) rfl (va_up_self _ _ _) rfl rfl wX5_beginParagraph vX5_beginParagraph lX5_19 rfl (Nat.le_of_ble_eq_true rfl) rfl ?_
          refine ji_iload dX5_takes_223 rfl ?_
          exact ji_ireturn dX5_takes_225 rfl (by first | rfl | decide | (rcases z_km with e | e <;> rw [e] <;> decide) | (rcases (show sy_digit c = 0 ∨ sy_digit c = 1 by omega) with e | e <;> rw [e] <;> decide)) (by rw [sy_t5 (by omega) (by omega) (by omega)]; exact ⟨jr_i (by first | (rw [if_pos (by omega)]; done) | (rw [if_neg (by omega)]; done)), rfl⟩)
        · refine ji_aload_n dX5_takes_196 rfl trivial ?_
          refine ji_get (ci := 5) (k := 4) rfl dX5_takes_197 lX5_31 (by decide) (va_up_self _ _ _) rfl ?_
          refine ji_if_le (tgt := 216) dX5_takes_200 rfl (by omega) (fun c200 => ?_) (fun c200 => ?_)
          · refine ji_iconst dX5_takes_216 ?_
            refine ji_istore dX5_takes_217 (by decide) rfl ?_
            refine ji_aload_n dX5_takes_219 rfl trivial ?_
            refine ji_cVv dX5_takes_220 (k_Syntax_beginParagraph z_bk) rfl (va_up_self _ _ _) rfl rfl wX5_beginParagraph vX5_beginParagraph lX5_19 rfl (Nat.le_of_ble_eq_true rfl) rfl ?_
            refine ji_iload dX5_takes_223 rfl ?_
            exact ji_ireturn dX5_takes_225 rfl (by first | rfl | decide | (rcases z_km with e | e <;> rw [e] <;> decide) | (rcases (show sy_digit c = 0 ∨ sy_digit c = 1 by omega) with e | e <;> rw [e] <;> decide)) (by rw [sy_t5 (by omega) (by omega) (by omega)]; exact ⟨jr_i (by first | (rw [if_pos (by omega)]; done) | (rw [if_neg (by omega)]; done)), rfl⟩)
          · refine ji_aload_n dX5_takes_203 rfl trivial ?_
            refine ji_get (ci := 5) (k := 2) rfl dX5_takes_204 lX5_15 (by decide) (va_up_self _ _ _) rfl ?_
            refine ji_bipush dX5_takes_207 rfl ?_
            refine ji_icmp_ge (tgt := 216) dX5_takes_209 rfl (by omega) (by omega) (fun c209 => ?_) (fun c209 => ?_)
            · refine ji_iconst dX5_takes_216 ?_
              refine ji_istore dX5_takes_217 (by decide) rfl ?_
              refine ji_aload_n dX5_takes_219 rfl trivial ?_
              refine ji_cVv dX5_takes_220 (k_Syntax_beginParagraph z_bk) rfl (va_up_self _ _ _) rfl rfl wX5_beginParagraph vX5_beginParagraph lX5_19 rfl (Nat.le_of_ble_eq_true rfl) rfl ?_
              refine ji_iload dX5_takes_223 rfl ?_
              exact ji_ireturn dX5_takes_225 rfl (by first | rfl | decide | (rcases z_km with e | e <;> rw [e] <;> decide) | (rcases (show sy_digit c = 0 ∨ sy_digit c = 1 by omega) with e | e <;> rw [e] <;> decide)) (by rw [sy_t5 (by omega) (by omega) (by omega)]; exact ⟨jr_i (by first | (rw [if_pos (by omega)]; done) | (rw [if_neg (by omega)]; done)), rfl⟩)
            · refine ji_iconst dX5_takes_212 ?_
              refine ji_goto (tgt := 217) dX5_takes_213 rfl ?_
              refine ji_istore dX5_takes_217 (by decide) rfl ?_
              refine ji_aload_n dX5_takes_219 rfl trivial ?_
              refine ji_cVv dX5_takes_220 (k_Syntax_beginParagraph z_bk) rfl (va_up_self _ _ _) rfl rfl wX5_beginParagraph vX5_beginParagraph lX5_19 rfl (Nat.le_of_ble_eq_true rfl) rfl ?_
              refine ji_iload dX5_takes_223 rfl ?_
              exact ji_ireturn dX5_takes_225 rfl (by first | rfl | decide | (rcases z_km with e | e <;> rw [e] <;> decide) | (rcases (show sy_digit c = 0 ∨ sy_digit c = 1 by omega) with e | e <;> rw [e] <;> decide)) (by rw [sy_t5 (by omega) (by omega) (by omega)]; exact ⟨jr_i (by first | (rw [if_pos (by omega)]; done) | (rw [if_neg (by omega)]; done)), rfl⟩)
      by_cases e35 : c = 35
      · refine ji_lsw (tgt := 226) dX5_takes_72 (by decide) (by omega) (by rw [e35]) rfl ?_
        refine ji_iload_n dX5_takes_226 rfl ?_
        exact ji_ireturn dX5_takes_227 rfl (by first | rfl | decide | (rcases z_km with e | e <;> rw [e] <;> decide) | (rcases (show sy_digit c = 0 ∨ sy_digit c = 1 by omega) with e | e <;> rw [e] <;> decide)) (by rw [sy_t6 (by omega) (by omega) (by omega)]; exact ⟨rfl, rfl⟩)
      by_cases e62 : c = 62
      · refine ji_lsw (tgt := 226) dX5_takes_72 (by decide) (by omega) (by rw [e62]) rfl ?_
        refine ji_iload_n dX5_takes_226 rfl ?_
        exact ji_ireturn dX5_takes_227 rfl (by first | rfl | decide | (rcases z_km with e | e <;> rw [e] <;> decide) | (rcases (show sy_digit c = 0 ∨ sy_digit c = 1 by omega) with e | e <;> rw [e] <;> decide)) (by rw [sy_t6 (by omega) (by omega) (by omega)]; exact ⟨rfl, rfl⟩)
      refine ji_lsw (tgt := 228) dX5_takes_72 (by decide) (by omega) (show Op.lookupswitch.offset [(32, 77), (35, 154), (62, 154), (94, 52), (124, 117)] 156 c = 156 by rw [Op.lookupswitch.offset_cons, if_neg (by omega), Op.lookupswitch.offset_cons, if_neg (by omega), Op.lookupswitch.offset_cons, if_neg (by omega), Op.lookupswitch.offset_cons, if_neg (by omega), Op.lookupswitch.offset_cons, if_neg (by omega)]; rfl) rfl ?_
      refine ji_iconst dX5_takes_228 ?_
      exact ji_ireturn dX5_takes_229 rfl (by first | rfl | decide | (rcases z_km with e | e <;> rw [e] <;> decide) | (rcases (show sy_digit c = 0 ∨ sy_digit c = 1 by omega) with e | e <;> rw [e] <;> decide)) (by rw [sy_t7 (by omega) (by omega) (by omega)]; exact ⟨rfl, rfl⟩)
    · refine ji_aload_n dX5_takes_39 rfl trivial ?_
      refine ji_dup dX5_takes_40 rfl ?_
      refine ji_get (ci := 5) (k := 4) rfl dX5_takes_41 lX5_31 (by decide) (va_up_self _ _ _) rfl ?_
      refine ji_iconst dX5_takes_44 ?_
      refine ji_iadd dX5_takes_45 ?_
      refine ji_putE (ci := 5) (k := 4) rfl dX5_takes_46 lX5_31 (by decide) (va_up_self _ _ _) (by simp) (ji_fitI _) rfl (sy_p) ?_
      refine ji_aload_n dX5_takes_49 rfl trivial ?_
      refine ji_get (ci := 5) (k := 6) rfl dX5_takes_50 lX5_37 (by decide) (va_up_self _ _ _) rfl ?_
      refine ji_if_ne (tgt := 69) dX5_takes_53 rfl (by omega) (fun c53 => ?_) (fun c53 => ?_)
      · refine ji_iconst dX5_takes_69 ?_
        exact ji_ireturn dX5_takes_70 rfl (by first | rfl | decide | (rcases z_km with e | e <;> rw [e] <;> decide) | (rcases (show sy_digit c = 0 ∨ sy_digit c = 1 by omega) with e | e <;> rw [e] <;> decide)) (by rw [sy_t2 (by omega) (by omega)]; exact ⟨jr_i (by first | (rw [if_pos (by omega)]; done) | (rw [if_neg (by omega)]; done)), rfl⟩)
      · refine ji_aload_n dX5_takes_56 rfl trivial ?_
        refine ji_get (ci := 5) (k := 4) rfl dX5_takes_57 lX5_31 (by decide) (va_up_self _ _ _) rfl ?_
        refine ji_bipush dX5_takes_60 rfl ?_
        refine ji_icmp_gt (tgt := 69) dX5_takes_62 rfl (by omega) (by omega) (fun c62 => ?_) (fun c62 => ?_)
        · refine ji_iconst dX5_takes_69 ?_
          exact ji_ireturn dX5_takes_70 rfl (by first | rfl | decide | (rcases z_km with e | e <;> rw [e] <;> decide) | (rcases (show sy_digit c = 0 ∨ sy_digit c = 1 by omega) with e | e <;> rw [e] <;> decide)) (by rw [sy_t2 (by omega) (by omega)]; exact ⟨jr_i (by first | (rw [if_pos (by omega)]; done) | (rw [if_neg (by omega)]; done)), rfl⟩)
        · refine ji_iconst dX5_takes_65 ?_
          refine ji_goto (tgt := 70) dX5_takes_66 rfl ?_
          exact ji_ireturn dX5_takes_70 rfl (by first | rfl | decide | (rcases z_km with e | e <;> rw [e] <;> decide) | (rcases (show sy_digit c = 0 ∨ sy_digit c = 1 by omega) with e | e <;> rw [e] <;> decide)) (by rw [sy_t2 (by omega) (by omega)]; exact ⟨jr_i (by first | (rw [if_pos (by omega)]; done) | (rw [if_neg (by omega)]; done)), rfl⟩)
  · refine ji_aload_n dX5_takes_17 rfl trivial ?_
    refine ji_iconst dX5_takes_18 ?_
    refine ji_putE (ci := 5) (k := 5) rfl dX5_takes_19 lX5_34 (by decide) (va_up_self _ _ _) (by simp) (ji_fitZ (by first | omega | decide)) rfl (sy_p) ?_
    refine ji_aload_n dX5_takes_22 rfl trivial ?_
    refine ji_iconst dX5_takes_23 ?_
    refine ji_putE (ci := 5) (k := 6) rfl dX5_takes_24 lX5_37 (by decide) (va_up_self _ _ _) (by simp) (ji_fitZ (by first | omega | decide)) rfl (sy_p) ?_
    refine ji_iload_n dX5_takes_27 rfl ?_
    refine ji_cS dX5_takes_28 (k_Syntax_isDigit hc) rfl wX5_isDigit sX5_isDigit lX5_40 rfl (Nat.le_of_ble_eq_true rfl) rfl ?_
    exact ji_ireturn dX5_takes_31 rfl (by first | rfl | decide | (rcases z_km with e | e <;> rw [e] <;> decide) | (rcases (show sy_digit c = 0 ∨ sy_digit c = 1 by omega) with e | e <;> rw [e] <;> decide)) (by rw [sy_t1 (by omega)]; exact ⟨rfl, rfl⟩)

end MSyntax
