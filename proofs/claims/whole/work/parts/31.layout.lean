/-! ===== Layout: the object at b, its nine rows behind it ===== -/
def ly_ty (k : Nat) : FieldType := if k = 6 then .boolean else .int
def ly_n (k : Nat) : Nat := if k = 1 then 10 else if k = 2 ∨ k = 9 then 241 else 240
def ly_f (b : Nat) (f : Nat → ji_C) (bk : Nat) (w h ln pg : Int) (A : Nat → Nat → Int) : Nat → ji_C := fun x =>
  if x = b then .inl (3, [.ref 4, .ref 5, .ref bk, .int (jI w), .int (jI h), .ref (b + 1), .int (jI ln), .ref (b + 2), .ref (b + 3), .ref (b + 4), .ref (b + 5), .ref (b + 6), .ref (b + 7), .ref (b + 8), .int (jI pg), .ref (b + 9)]) else if b + 1 ≤ x ∧ x ≤ b + 9 then .inr (ly_ty (x - b), ly_n (x - b), .inl (A (x - b))) else f x
def ly_cx (n : Nat) (f : Nat → ji_C) (b bk : Nat) (B : bk_T) (sty : Nat → Int) : Prop := (12 ≤ b ∧ b + 9 < 72) ∧ f 5 = .inr (.int, 5, .inl sty) ∧ bk_at (n, f) bk B ∧ bk_ok B ∧ ∀ k, 0 ≤ sty k ∧ sty k ≤ 4
section MLayout
variable {G : ji_G} {d n b bk : Nat} {f : Nat → ji_C} {w h ln pg : Int} {A : Nat → Nat → Int} {B : bk_T} {sty : Nat → Int}
theorem ly_0 : ly_f b f bk w h ln pg A b = .inl (3, [.ref 4, .ref 5, .ref bk, .int (jI w), .int (jI h), .ref (b + 1), .int (jI ln), .ref (b + 2), .ref (b + 3), .ref (b + 4), .ref (b + 5), .ref (b + 6), .ref (b + 7), .ref (b + 8), .int (jI pg), .ref (b + 9)]) := if_pos rfl
theorem ly_o {x : Nat} (hx : x < b ∨ b + 9 < x) : ly_f b f bk w h ln pg A x = f x := (if_neg (by omega)).trans (if_neg (by omega))
theorem ly_a (k : Nat) (hk : 1 ≤ k ∧ k ≤ 9) : ly_f b f bk w h ln pg A (b + k) = .inr (ly_ty k, ly_n k, .inl (A k)) := by
  unfold ly_f; rw [if_neg (by omega), if_pos (by omega), show b + k - b = k by omega]
theorem ly_keep (hb : 12 ≤ b ∧ b + 9 < 72) : ji_keep (n, f) (n, ly_f b f bk w h ln pg A) := ⟨Nat.le_refl _, fun a hd _ => ly_o (by unfold ji_dy at hd; omega)⟩
theorem ly_s (k : Nat) (hk : 1 ≤ k ∧ k ≤ 9) {v : Nat → Int} : va_up (ly_f b f bk w h ln pg A) (b + k) (.inr (ly_ty k, ly_n k, .inl v)) = ly_f b f bk w h ln pg (va_up A k v) := by
  funext x
  by_cases hx : x = b + k
  · subst hx; rw [va_up_self, ly_a k hk, va_up_self]
  · rw [va_up_ne _ _ hx]; unfold ly_f
    by_cases h0 : x = b
    · rw [if_pos h0, if_pos h0]
    · rw [if_neg h0, if_neg h0]
      by_cases h1 : b + 1 ≤ x ∧ x ≤ b + 9
      · rw [if_pos h1, if_pos h1, va_up_ne _ _ (show x - b ≠ k by omega)]
      · rw [if_neg h1, if_neg h1]
theorem ly_p {c : ji_C} {bk' : Nat} {w' h' ln' pg' : Int} (hc : c = .inl (3, [.ref 4, .ref 5, .ref bk', .int (jI w'), .int (jI h'), .ref (b + 1), .int (jI ln'), .ref (b + 2), .ref (b + 3), .ref (b + 4), .ref (b + 5), .ref (b + 6), .ref (b + 7), .ref (b + 8), .int (jI pg'), .ref (b + 9)])) : va_up (ly_f b f bk w h ln pg A) b c = ly_f b f bk' w' h' ln' pg' A := by
  funext x
  by_cases hx : x = b
  · subst hx; rw [va_up_self, ly_0]; exact hc
  · rw [va_up_ne _ _ hx]; unfold ly_f; rw [if_neg hx, if_neg hx]
theorem ly_a1 : ly_f b f bk w h ln pg A (b + 1) = .inr (.int, 10, .inl (A 1)) := ly_a 1 (by omega)
theorem ly_s1 {v : Nat → Int} : ((n, ly_f b f bk w h ln pg A).1, va_up (n, ly_f b f bk w h ln pg A).2 (b + 1) (.inr (.int, 10, .inl v))) = (n, ly_f b f bk w h ln pg (va_up A 1 v)) := Prod.ext rfl (ly_s 1 (by omega))
theorem ly_a2 : ly_f b f bk w h ln pg A (b + 2) = .inr (.int, 241, .inl (A 2)) := ly_a 2 (by omega)
theorem ly_s2 {v : Nat → Int} : ((n, ly_f b f bk w h ln pg A).1, va_up (n, ly_f b f bk w h ln pg A).2 (b + 2) (.inr (.int, 241, .inl v))) = (n, ly_f b f bk w h ln pg (va_up A 2 v)) := Prod.ext rfl (ly_s 2 (by omega))
theorem ly_a3 : ly_f b f bk w h ln pg A (b + 3) = .inr (.int, 240, .inl (A 3)) := ly_a 3 (by omega)
theorem ly_s3 {v : Nat → Int} : ((n, ly_f b f bk w h ln pg A).1, va_up (n, ly_f b f bk w h ln pg A).2 (b + 3) (.inr (.int, 240, .inl v))) = (n, ly_f b f bk w h ln pg (va_up A 3 v)) := Prod.ext rfl (ly_s 3 (by omega))
theorem ly_a4 : ly_f b f bk w h ln pg A (b + 4) = .inr (.int, 240, .inl (A 4)) := ly_a 4 (by omega)
theorem ly_s4 {v : Nat → Int} : ((n, ly_f b f bk w h ln pg A).1, va_up (n, ly_f b f bk w h ln pg A).2 (b + 4) (.inr (.int, 240, .inl v))) = (n, ly_f b f bk w h ln pg (va_up A 4 v)) := Prod.ext rfl (ly_s 4 (by omega))
theorem ly_a5 : ly_f b f bk w h ln pg A (b + 5) = .inr (.int, 240, .inl (A 5)) := ly_a 5 (by omega)
theorem ly_s5 {v : Nat → Int} : ((n, ly_f b f bk w h ln pg A).1, va_up (n, ly_f b f bk w h ln pg A).2 (b + 5) (.inr (.int, 240, .inl v))) = (n, ly_f b f bk w h ln pg (va_up A 5 v)) := Prod.ext rfl (ly_s 5 (by omega))
theorem ly_a6 : ly_f b f bk w h ln pg A (b + 6) = .inr (.boolean, 240, .inl (A 6)) := ly_a 6 (by omega)
theorem ly_s6 {v : Nat → Int} : ((n, ly_f b f bk w h ln pg A).1, va_up (n, ly_f b f bk w h ln pg A).2 (b + 6) (.inr (.boolean, 240, .inl v))) = (n, ly_f b f bk w h ln pg (va_up A 6 v)) := Prod.ext rfl (ly_s 6 (by omega))
theorem ly_a7 : ly_f b f bk w h ln pg A (b + 7) = .inr (.int, 240, .inl (A 7)) := ly_a 7 (by omega)
theorem ly_s7 {v : Nat → Int} : ((n, ly_f b f bk w h ln pg A).1, va_up (n, ly_f b f bk w h ln pg A).2 (b + 7) (.inr (.int, 240, .inl v))) = (n, ly_f b f bk w h ln pg (va_up A 7 v)) := Prod.ext rfl (ly_s 7 (by omega))
theorem ly_a8 : ly_f b f bk w h ln pg A (b + 8) = .inr (.int, 240, .inl (A 8)) := ly_a 8 (by omega)
theorem ly_s8 {v : Nat → Int} : ((n, ly_f b f bk w h ln pg A).1, va_up (n, ly_f b f bk w h ln pg A).2 (b + 8) (.inr (.int, 240, .inl v))) = (n, ly_f b f bk w h ln pg (va_up A 8 v)) := Prod.ext rfl (ly_s 8 (by omega))
theorem ly_a9 : ly_f b f bk w h ln pg A (b + 9) = .inr (.int, 241, .inl (A 9)) := ly_a 9 (by omega)
theorem ly_s9 {v : Nat → Int} : ((n, ly_f b f bk w h ln pg A).1, va_up (n, ly_f b f bk w h ln pg A).2 (b + 9) (.inr (.int, 241, .inl v))) = (n, ly_f b f bk w h ln pg (va_up A 9 v)) := Prod.ext rfl (ly_s 9 (by omega))
theorem ly_pb {v : Nat} : ((n, ly_f b f bk w h ln pg A).1, va_up (n, ly_f b f bk w h ln pg A).2 b (.inl (3, ([.ref 4, .ref 5, .ref bk, .int (jI w), .int (jI h), .ref (b + 1), .int (jI ln), .ref (b + 2), .ref (b + 3), .ref (b + 4), .ref (b + 5), .ref (b + 6), .ref (b + 7), .ref (b + 8), .int (jI pg), .ref (b + 9)] : List Value).set 2 (.ref v)))) = (n, ly_f b f v w h ln pg A) := Prod.ext rfl (ly_p rfl)
theorem ly_pw {v : Int} : ((n, ly_f b f bk w h ln pg A).1, va_up (n, ly_f b f bk w h ln pg A).2 b (.inl (3, ([.ref 4, .ref 5, .ref bk, .int (jI w), .int (jI h), .ref (b + 1), .int (jI ln), .ref (b + 2), .ref (b + 3), .ref (b + 4), .ref (b + 5), .ref (b + 6), .ref (b + 7), .ref (b + 8), .int (jI pg), .ref (b + 9)] : List Value).set 3 (.int (jI v))))) = (n, ly_f b f bk v h ln pg A) := Prod.ext rfl (ly_p rfl)
theorem ly_ph {v : Int} : ((n, ly_f b f bk w h ln pg A).1, va_up (n, ly_f b f bk w h ln pg A).2 b (.inl (3, ([.ref 4, .ref 5, .ref bk, .int (jI w), .int (jI h), .ref (b + 1), .int (jI ln), .ref (b + 2), .ref (b + 3), .ref (b + 4), .ref (b + 5), .ref (b + 6), .ref (b + 7), .ref (b + 8), .int (jI pg), .ref (b + 9)] : List Value).set 4 (.int (jI v))))) = (n, ly_f b f bk w v ln pg A) := Prod.ext rfl (ly_p rfl)
theorem ly_pl {v : Int} : ((n, ly_f b f bk w h ln pg A).1, va_up (n, ly_f b f bk w h ln pg A).2 b (.inl (3, ([.ref 4, .ref 5, .ref bk, .int (jI w), .int (jI h), .ref (b + 1), .int (jI ln), .ref (b + 2), .ref (b + 3), .ref (b + 4), .ref (b + 5), .ref (b + 6), .ref (b + 7), .ref (b + 8), .int (jI pg), .ref (b + 9)] : List Value).set 6 (.int (jI v))))) = (n, ly_f b f bk w h v pg A) := Prod.ext rfl (ly_p rfl)
theorem ly_pp {v : Int} : ((n, ly_f b f bk w h ln pg A).1, va_up (n, ly_f b f bk w h ln pg A).2 b (.inl (3, ([.ref 4, .ref 5, .ref bk, .int (jI w), .int (jI h), .ref (b + 1), .int (jI ln), .ref (b + 2), .ref (b + 3), .ref (b + 4), .ref (b + 5), .ref (b + 6), .ref (b + 7), .ref (b + 8), .int (jI pg), .ref (b + 9)] : List Value).set 14 (.int (jI v))))) = (n, ly_f b f bk w h ln v A) := Prod.ext rfl (ly_p rfl)
def ly_g (ln : Int) (A : Nat → Int) (df l : Int) : Int := if 0 ≤ l ∧ l < ln then A l.toNat else df
theorem ly_g_b {ln : Int} {A : Nat → Int} (hA : ∀ j, -100000 ≤ A j ∧ A j ≤ 100000) {df : Int} (hd : -100000 ≤ df ∧ df ≤ 100000) (l : Int) : -100000 ≤ ly_g ln A df l ∧ ly_g ln A df l ≤ 100000 := by unfold ly_g; split; exact hA _; exact hd
def ly_st (sty : Nat → Int) (k : Int) : Int := if 0 ≤ k ∧ k < 5 then sty k.toNat else 0
theorem ly_st_b {sty : Nat → Int} (hs : ∀ k, 0 ≤ sty k ∧ sty k ≤ 4) (k : Int) : 0 ≤ ly_st sty k ∧ ly_st sty k ≤ 4 := by unfold ly_st; split; exact hs _; omega
def ly_li (B : bk_T) (sty : Nat → Int) (p : Int) : Int := if bk_kind B p = 2 then ly_st sty 1 else 0
def ly_fi (B : bk_T) (sty : Nat → Int) (p : Int) : Int := if bk_kind B p = 0 then ly_st sty 0 else ly_li B sty p
def ly_gap (B : bk_T) (sty : Nat → Int) (p : Int) : Int := ly_st sty 2 + (if bk_kind B p = 1 then 1 else 0)
theorem bk_kind_b {B : bk_T} (hk : bk_ok B) (p : Int) : 0 ≤ bk_kind B p ∧ bk_kind B p ≤ 2 := by unfold bk_kind; split; exact hk.2.2.1 _; omega

set_option maxHeartbeats 4000000 in
set_option maxRecDepth 100000 in
theorem k_Layout_styleOf (hcx : ly_cx n f b bk B sty) (hA : ∀ k j, -100000 ≤ A k j ∧ A k j ≤ 100000) (hl : 0 ≤ ln ∧ ln ≤ 240) {k : Int} (hb9 : -100000 ≤ k ∧ k ≤ 100000) : JR G d mX3_styleOf [.ref b, .int (jI (k))] (n, ly_f b f bk w h ln pg A) 0 0 (some (.int (jI (ly_st sty k)))) (n, ly_f b f bk w h ln pg A) := by
  obtain ⟨hbb, hsty, hbk0, hko, hst⟩ := id hcx
  have hbk : bk_at (n, ly_f b f bk w h ln pg A) bk B := hbk0.kept (ly_keep hbb)
  obtain ⟨ww, hwd, hwr⟩ := k_Book_words (G := G) hbk hko
  obtain ⟨t9, q9, hw, -⟩ := id hwd
  obtain ⟨xx1, xx2, xx3, hb, -⟩ := id hbk
  obtain ⟨hwo, k1, k2, k3⟩ := id hko
  obtain ⟨o1, o2, o3, o4⟩ := id hwo
  refine ji_ent (by decide) rfl (Nat.le_of_ble_eq_true rfl) rfl ?_
  refine ji_iload_n dX3_styleOf_0 rfl ?_
  refine ji_if_lt (tgt := 22) dX3_styleOf_1 rfl (by omega) (fun c1 => ?_) (fun c1 => ?_)
  · refine ji_iconst dX3_styleOf_22 ?_
    exact ji_ireturn dX3_styleOf_23 rfl (rfl) ⟨jr_i (by unfold ly_st; first | (rw [if_pos (by omega)] <;> omega) | (rw [if_neg (by omega)] <;> omega)), rfl⟩
  · refine ji_iload_n dX3_styleOf_4 rfl ?_
    refine ji_aload_n dX3_styleOf_5 rfl trivial ?_
    refine ji_get (ci := 3) (k := 1) rfl dX3_styleOf_6 lX3_48 (by decide) (ly_0) rfl ?_
    refine ji_alen dX3_styleOf_9 ((ly_o (by omega)).trans hsty) (fun cy => rfl) ?_
    refine ji_icmp_ge (tgt := 22) dX3_styleOf_10 rfl (by omega) (by omega) (fun c10 => ?_) (fun c10 => ?_)
    · refine ji_iconst dX3_styleOf_22 ?_
      exact ji_ireturn dX3_styleOf_23 rfl (rfl) ⟨jr_i (by unfold ly_st; first | (rw [if_pos (by omega)] <;> omega) | (rw [if_neg (by omega)] <;> omega)), rfl⟩
    · refine ji_aload_n dX3_styleOf_13 rfl trivial ?_
      refine ji_get (ci := 3) (k := 1) rfl dX3_styleOf_14 lX3_48 (by decide) (ly_0) rfl ?_
      refine ji_iload_n dX3_styleOf_17 rfl ?_
      refine ji_iaload dX3_styleOf_18 ((ly_o (by omega)).trans hsty) (by omega) ?_
      refine ji_goto (tgt := 23) dX3_styleOf_19 rfl ?_
      exact ji_ireturn dX3_styleOf_23 rfl (rfl) ⟨jr_i (by unfold ly_st; first | (rw [if_pos (by omega)] <;> omega) | (rw [if_neg (by omega)] <;> omega)), rfl⟩

set_option maxHeartbeats 4000000 in
set_option maxRecDepth 100000 in
theorem k_Layout_laterIndentOf (hcx : ly_cx n f b bk B sty) (hA : ∀ k j, -100000 ≤ A k j ∧ A k j ≤ 100000) (hl : 0 ≤ ln ∧ ln ≤ 240) {p : Int} (hb9 : -10000 ≤ p ∧ p ≤ 100000) : JR G (d + 1) mX3_laterIndentOf [.ref b, .int (jI (p))] (n, ly_f b f bk w h ln pg A) 0 0 (some (.int (jI (ly_li B sty p)))) (n, ly_f b f bk w h ln pg A) := by
  obtain ⟨hbb, hsty, hbk0, hko, hst⟩ := id hcx
  have hbk : bk_at (n, ly_f b f bk w h ln pg A) bk B := hbk0.kept (ly_keep hbb)
  obtain ⟨ww, hwd, hwr⟩ := k_Book_words (G := G) hbk hko
  obtain ⟨t9, q9, hw, -⟩ := id hwd
  obtain ⟨xx1, xx2, xx3, hb, -⟩ := id hbk
  obtain ⟨hwo, k1, k2, k3⟩ := id hko
  obtain ⟨o1, o2, o3, o4⟩ := id hwo
  have q1 := bk_kind_b hko p
  refine ji_ent (by decide) rfl (Nat.le_of_ble_eq_true rfl) rfl ?_
  refine ji_aload_n dX3_laterIndentOf_0 rfl trivial ?_
  refine ji_get (ci := 3) (k := 2) rfl dX3_laterIndentOf_1 lX3_40 (by decide) (ly_0) rfl ?_
  refine ji_iload_n dX3_laterIndentOf_4 rfl ?_
  refine ji_cV dX3_laterIndentOf_5 (k_Book_kindOf hbk hko (by omega)) rfl (hb) rfl rfl wX0_kindOf vX0_kindOf lX3_129 rfl (Nat.le_of_ble_eq_true rfl) rfl ?_
  refine ji_iconst dX3_laterIndentOf_8 ?_
  refine ji_icmp_ne (tgt := 20) dX3_laterIndentOf_9 rfl (by omega) (by omega) (fun c9 => ?_) (fun c9 => ?_)
  · refine ji_iconst dX3_laterIndentOf_20 ?_
    exact ji_ireturn dX3_laterIndentOf_21 rfl (rfl) ⟨jr_i (by unfold ly_li; first | (rw [if_pos (by omega)] <;> omega) | (rw [if_neg (by omega)] <;> omega)), rfl⟩
  · refine ji_aload_n dX3_laterIndentOf_12 rfl trivial ?_
    refine ji_iconst dX3_laterIndentOf_13 ?_
    refine ji_cV dX3_laterIndentOf_14 (k_Layout_styleOf hcx hA hl (by omega)) rfl (ly_0) rfl rfl wX3_styleOf vX3_styleOf lX3_126 rfl (Nat.le_of_ble_eq_true rfl) rfl ?_
    refine ji_goto (tgt := 21) dX3_laterIndentOf_17 rfl ?_
    exact ji_ireturn dX3_laterIndentOf_21 rfl (rfl) ⟨jr_i (by unfold ly_li; first | (rw [if_pos (by omega)] <;> omega) | (rw [if_neg (by omega)] <;> omega)), rfl⟩

set_option maxHeartbeats 4000000 in
set_option maxRecDepth 100000 in
theorem k_Layout_firstIndentOf (hcx : ly_cx n f b bk B sty) (hA : ∀ k j, -100000 ≤ A k j ∧ A k j ≤ 100000) (hl : 0 ≤ ln ∧ ln ≤ 240) {p : Int} (hb9 : -10000 ≤ p ∧ p ≤ 100000) : JR G (d + 2) mX3_firstIndentOf [.ref b, .int (jI (p))] (n, ly_f b f bk w h ln pg A) 0 0 (some (.int (jI (ly_fi B sty p)))) (n, ly_f b f bk w h ln pg A) := by
  obtain ⟨hbb, hsty, hbk0, hko, hst⟩ := id hcx
  have hbk : bk_at (n, ly_f b f bk w h ln pg A) bk B := hbk0.kept (ly_keep hbb)
  obtain ⟨ww, hwd, hwr⟩ := k_Book_words (G := G) hbk hko
  obtain ⟨t9, q9, hw, -⟩ := id hwd
  obtain ⟨xx1, xx2, xx3, hb, -⟩ := id hbk
  obtain ⟨hwo, k1, k2, k3⟩ := id hko
  obtain ⟨o1, o2, o3, o4⟩ := id hwo
  have q1 := bk_kind_b hko p
  refine ji_ent (by decide) rfl (Nat.le_of_ble_eq_true rfl) rfl ?_
  refine ji_aload_n dX3_firstIndentOf_0 rfl trivial ?_
  refine ji_get (ci := 3) (k := 2) rfl dX3_firstIndentOf_1 lX3_40 (by decide) (ly_0) rfl ?_
  refine ji_iload_n dX3_firstIndentOf_4 rfl ?_
  refine ji_cV dX3_firstIndentOf_5 (k_Book_kindOf hbk hko (by omega)) rfl (hb) rfl rfl wX0_kindOf vX0_kindOf lX3_129 rfl (Nat.le_of_ble_eq_true rfl) rfl ?_
  refine ji_if_ne (tgt := 19) dX3_firstIndentOf_8 rfl (by omega) (fun c8 => ?_) (fun c8 => ?_)
  · refine ji_aload_n dX3_firstIndentOf_19 rfl trivial ?_
    refine ji_iload_n dX3_firstIndentOf_20 rfl ?_
    refine ji_cV dX3_firstIndentOf_21 (k_Layout_laterIndentOf hcx hA hl (by omega)) rfl (ly_0) rfl rfl wX3_laterIndentOf vX3_laterIndentOf lX3_107 rfl (Nat.le_of_ble_eq_true rfl) rfl ?_
    exact ji_ireturn dX3_firstIndentOf_24 rfl (rfl) ⟨jr_i (by unfold ly_fi; first | (rw [if_pos (by omega)] <;> omega) | (rw [if_neg (by omega)] <;> omega)), rfl⟩
  · refine ji_aload_n dX3_firstIndentOf_11 rfl trivial ?_
    refine ji_iconst dX3_firstIndentOf_12 ?_
    refine ji_cV dX3_firstIndentOf_13 (k_Layout_styleOf hcx hA hl (by omega)) rfl (ly_0) rfl rfl wX3_styleOf vX3_styleOf lX3_126 rfl (Nat.le_of_ble_eq_true rfl) rfl ?_
    refine ji_goto (tgt := 24) dX3_firstIndentOf_16 rfl ?_
    exact ji_ireturn dX3_firstIndentOf_24 rfl (rfl) ⟨jr_i (by unfold ly_fi; first | (rw [if_pos (by omega)] <;> omega) | (rw [if_neg (by omega)] <;> omega)), rfl⟩

set_option maxHeartbeats 4000000 in
set_option maxRecDepth 100000 in
theorem k_Layout_gapOf (hcx : ly_cx n f b bk B sty) (hA : ∀ k j, -100000 ≤ A k j ∧ A k j ≤ 100000) (hl : 0 ≤ ln ∧ ln ≤ 240) {p : Int} (hb9 : -10000 ≤ p ∧ p ≤ 100000) : JR G (d + 1) mX3_gapOf [.ref b, .int (jI (p))] (n, ly_f b f bk w h ln pg A) 0 0 (some (.int (jI (ly_gap B sty p)))) (n, ly_f b f bk w h ln pg A) := by
  obtain ⟨hbb, hsty, hbk0, hko, hst⟩ := id hcx
  have hbk : bk_at (n, ly_f b f bk w h ln pg A) bk B := hbk0.kept (ly_keep hbb)
  obtain ⟨ww, hwd, hwr⟩ := k_Book_words (G := G) hbk hko
  obtain ⟨t9, q9, hw, -⟩ := id hwd
  obtain ⟨xx1, xx2, xx3, hb, -⟩ := id hbk
  obtain ⟨hwo, k1, k2, k3⟩ := id hko
  obtain ⟨o1, o2, o3, o4⟩ := id hwo
  have q1 := bk_kind_b hko p
  refine ji_ent (by decide) rfl (Nat.le_of_ble_eq_true rfl) rfl ?_
  refine ji_aload_n dX3_gapOf_0 rfl trivial ?_
  refine ji_iconst dX3_gapOf_1 ?_
  refine ji_cV dX3_gapOf_2 (k_Layout_styleOf hcx hA hl (by omega)) rfl (ly_0) rfl rfl wX3_styleOf vX3_styleOf lX3_126 rfl (Nat.le_of_ble_eq_true rfl) rfl ?_
  refine ji_aload_n dX3_gapOf_5 rfl trivial ?_
  refine ji_get (ci := 3) (k := 2) rfl dX3_gapOf_6 lX3_40 (by decide) (ly_0) rfl ?_
  refine ji_iload_n dX3_gapOf_9 rfl ?_
  refine ji_cV dX3_gapOf_10 (k_Book_kindOf hbk hko (by omega)) rfl (hb) rfl rfl wX0_kindOf vX0_kindOf lX3_129 rfl (Nat.le_of_ble_eq_true rfl) rfl ?_
  refine ji_iconst dX3_gapOf_13 ?_
  refine ji_icmp_ne (tgt := 21) dX3_gapOf_14 rfl (by omega) (by omega) (fun c14 => ?_) (fun c14 => ?_)
  · refine ji_iconst dX3_gapOf_21 ?_
    refine ji_iadd dX3_gapOf_22 ?_
    exact ji_ireturn dX3_gapOf_23 rfl (rfl) ⟨jr_i (by unfold ly_gap; first | (rw [if_pos (by omega)]; done) | (rw [if_neg (by omega)]; done)), rfl⟩
  · refine ji_iconst dX3_gapOf_17 ?_
    refine ji_goto (tgt := 22) dX3_gapOf_18 rfl ?_
    refine ji_iadd dX3_gapOf_22 ?_
    exact ji_ireturn dX3_gapOf_23 rfl (rfl) ⟨jr_i (by unfold ly_gap; first | (rw [if_pos (by omega)]; done) | (rw [if_neg (by omega)]; done)), rfl⟩

set_option maxHeartbeats 4000000 in
set_option maxRecDepth 100000 in
theorem k_Layout_lines (hcx : ly_cx n f b bk B sty) (hA : ∀ k j, -100000 ≤ A k j ∧ A k j ≤ 100000) (hl : 0 ≤ ln ∧ ln ≤ 240)  : JR G d mX3_lines [.ref b] (n, ly_f b f bk w h ln pg A) 0 0 (some (.int (jI (ln)))) (n, ly_f b f bk w h ln pg A) := by
  obtain ⟨hbb, hsty, hbk0, hko, hst⟩ := id hcx
  have hbk : bk_at (n, ly_f b f bk w h ln pg A) bk B := hbk0.kept (ly_keep hbb)
  obtain ⟨ww, hwd, hwr⟩ := k_Book_words (G := G) hbk hko
  obtain ⟨t9, q9, hw, -⟩ := id hwd
  obtain ⟨xx1, xx2, xx3, hb, -⟩ := id hbk
  obtain ⟨hwo, k1, k2, k3⟩ := id hko
  obtain ⟨o1, o2, o3, o4⟩ := id hwo
  refine ji_ent (by decide) rfl (Nat.le_of_ble_eq_true rfl) rfl ?_
  refine ji_aload_n dX3_lines_0 rfl trivial ?_
  refine ji_get (ci := 3) (k := 6) rfl dX3_lines_1 lX3_86 (by decide) (ly_0) rfl ?_
  exact ji_ireturn dX3_lines_4 rfl (rfl) ⟨jr_i (by omega), rfl⟩

set_option maxHeartbeats 4000000 in
set_option maxRecDepth 100000 in
theorem k_Layout_pages (hcx : ly_cx n f b bk B sty) (hA : ∀ k j, -100000 ≤ A k j ∧ A k j ≤ 100000) (hl : 0 ≤ ln ∧ ln ≤ 240)  : JR G d mX3_pages [.ref b] (n, ly_f b f bk w h ln pg A) 0 0 (some (.int (jI (pg)))) (n, ly_f b f bk w h ln pg A) := by
  obtain ⟨hbb, hsty, hbk0, hko, hst⟩ := id hcx
  have hbk : bk_at (n, ly_f b f bk w h ln pg A) bk B := hbk0.kept (ly_keep hbb)
  obtain ⟨ww, hwd, hwr⟩ := k_Book_words (G := G) hbk hko
  obtain ⟨t9, q9, hw, -⟩ := id hwd
  obtain ⟨xx1, xx2, xx3, hb, -⟩ := id hbk
  obtain ⟨hwo, k1, k2, k3⟩ := id hko
  obtain ⟨o1, o2, o3, o4⟩ := id hwo
  refine ji_ent (by decide) rfl (Nat.le_of_ble_eq_true rfl) rfl ?_
  refine ji_aload_n dX3_pages_0 rfl trivial ?_
  refine ji_get (ci := 3) (k := 14) rfl dX3_pages_1 lX3_135 (by decide) (ly_0) rfl ?_
  exact ji_ireturn dX3_pages_4 rfl (rfl) ⟨jr_i (by omega), rfl⟩

set_option maxHeartbeats 4000000 in
set_option maxRecDepth 100000 in
theorem k_Layout_firstWordOfLine (hcx : ly_cx n f b bk B sty) (hA : ∀ k j, -100000 ≤ A k j ∧ A k j ≤ 100000) (hl : 0 ≤ ln ∧ ln ≤ 240) {l : Int} (hb9 : -100000 ≤ l ∧ l ≤ 100000) : JR G (d + 1) mX3_firstWordOfLine [.ref b, .int (jI (l))] (n, ly_f b f bk w h ln pg A) 0 0 (some (.int (jI (ly_g ln (A 2) (bk_n B) l)))) (n, ly_f b f bk w h ln pg A) := by
  obtain ⟨hbb, hsty, hbk0, hko, hst⟩ := id hcx
  have hbk : bk_at (n, ly_f b f bk w h ln pg A) bk B := hbk0.kept (ly_keep hbb)
  obtain ⟨ww, hwd, hwr⟩ := k_Book_words (G := G) hbk hko
  obtain ⟨t9, q9, hw, -⟩ := id hwd
  obtain ⟨xx1, xx2, xx3, hb, -⟩ := id hbk
  obtain ⟨hwo, k1, k2, k3⟩ := id hko
  obtain ⟨o1, o2, o3, o4⟩ := id hwo
  refine ji_ent (by decide) rfl (Nat.le_of_ble_eq_true rfl) rfl ?_
  refine ji_iload_n dX3_firstWordOfLine_0 rfl ?_
  refine ji_if_lt (tgt := 21) dX3_firstWordOfLine_1 rfl (by omega) (fun c1 => ?_) (fun c1 => ?_)
  · refine ji_aload_n dX3_firstWordOfLine_21 rfl trivial ?_
    refine ji_get (ci := 3) (k := 2) rfl dX3_firstWordOfLine_22 lX3_40 (by decide) (ly_0) rfl ?_
    refine ji_cV dX3_firstWordOfLine_25 (hwr) rfl (hb) rfl rfl wX0_words vX0_words lX3_80 rfl (Nat.le_of_ble_eq_true rfl) rfl ?_
    refine ji_cV dX3_firstWordOfLine_28 (k_Words_size hwd hwo) rfl (hw) rfl rfl wX6_size vX6_size lX3_110 rfl (Nat.le_of_ble_eq_true rfl) rfl ?_
    exact ji_ireturn dX3_firstWordOfLine_31 rfl (rfl) ⟨jr_i (by unfold ly_g; first | (rw [if_pos (by omega)] <;> omega) | (rw [if_neg (by omega)] <;> omega)), rfl⟩
  · refine ji_iload_n dX3_firstWordOfLine_4 rfl ?_
    refine ji_aload_n dX3_firstWordOfLine_5 rfl trivial ?_
    refine ji_get (ci := 3) (k := 6) rfl dX3_firstWordOfLine_6 lX3_86 (by decide) (ly_0) rfl ?_
    refine ji_icmp_ge (tgt := 21) dX3_firstWordOfLine_9 rfl (by omega) (by omega) (fun c9 => ?_) (fun c9 => ?_)
    · refine ji_aload_n dX3_firstWordOfLine_21 rfl trivial ?_
      refine ji_get (ci := 3) (k := 2) rfl dX3_firstWordOfLine_22 lX3_40 (by decide) (ly_0) rfl ?_
      refine ji_cV dX3_firstWordOfLine_25 (hwr) rfl (hb) rfl rfl wX0_words vX0_words lX3_80 rfl (Nat.le_of_ble_eq_true rfl) rfl ?_
      refine ji_cV dX3_firstWordOfLine_28 (k_Words_size hwd hwo) rfl (hw) rfl rfl wX6_size vX6_size lX3_110 rfl (Nat.le_of_ble_eq_true rfl) rfl ?_
      exact ji_ireturn dX3_firstWordOfLine_31 rfl (rfl) ⟨jr_i (by unfold ly_g; first | (rw [if_pos (by omega)] <;> omega) | (rw [if_neg (by omega)] <;> omega)), rfl⟩
    · refine ji_aload_n dX3_firstWordOfLine_12 rfl trivial ?_
      refine ji_get (ci := 3) (k := 7) rfl dX3_firstWordOfLine_13 lX3_15 (by decide) (ly_0) rfl ?_
      refine ji_iload_n dX3_firstWordOfLine_16 rfl ?_
      refine ji_iaload dX3_firstWordOfLine_17 (ly_a2) (by omega) ?_
      refine ji_goto (tgt := 31) dX3_firstWordOfLine_18 rfl ?_
      exact ji_ireturn dX3_firstWordOfLine_31 rfl (rfl) ⟨jr_i (by unfold ly_g; first | (rw [if_pos (by omega)] <;> omega) | (rw [if_neg (by omega)] <;> omega)), rfl⟩

set_option maxHeartbeats 4000000 in
set_option maxRecDepth 100000 in
theorem k_Layout_paragraphOfLine (hcx : ly_cx n f b bk B sty) (hA : ∀ k j, -100000 ≤ A k j ∧ A k j ≤ 100000) (hl : 0 ≤ ln ∧ ln ≤ 240) {l : Int} (hb9 : -100000 ≤ l ∧ l ≤ 100000) : JR G d mX3_paragraphOfLine [.ref b, .int (jI (l))] (n, ly_f b f bk w h ln pg A) 0 0 (some (.int (jI (ly_g ln (A 3) (-1) l)))) (n, ly_f b f bk w h ln pg A) := by
  obtain ⟨hbb, hsty, hbk0, hko, hst⟩ := id hcx
  have hbk : bk_at (n, ly_f b f bk w h ln pg A) bk B := hbk0.kept (ly_keep hbb)
  obtain ⟨ww, hwd, hwr⟩ := k_Book_words (G := G) hbk hko
  obtain ⟨t9, q9, hw, -⟩ := id hwd
  obtain ⟨xx1, xx2, xx3, hb, -⟩ := id hbk
  obtain ⟨hwo, k1, k2, k3⟩ := id hko
  obtain ⟨o1, o2, o3, o4⟩ := id hwo
  refine ji_ent (by decide) rfl (Nat.le_of_ble_eq_true rfl) rfl ?_
  refine ji_iload_n dX3_paragraphOfLine_0 rfl ?_
  refine ji_if_lt (tgt := 21) dX3_paragraphOfLine_1 rfl (by omega) (fun c1 => ?_) (fun c1 => ?_)
  · refine ji_iconst dX3_paragraphOfLine_21 ?_
    exact ji_ireturn dX3_paragraphOfLine_22 rfl (rfl) ⟨jr_i (by unfold ly_g; first | (rw [if_pos (by omega)] <;> omega) | (rw [if_neg (by omega)] <;> omega)), rfl⟩
  · refine ji_iload_n dX3_paragraphOfLine_4 rfl ?_
    refine ji_aload_n dX3_paragraphOfLine_5 rfl trivial ?_
    refine ji_get (ci := 3) (k := 6) rfl dX3_paragraphOfLine_6 lX3_86 (by decide) (ly_0) rfl ?_
    refine ji_icmp_ge (tgt := 21) dX3_paragraphOfLine_9 rfl (by omega) (by omega) (fun c9 => ?_) (fun c9 => ?_)
    · refine ji_iconst dX3_paragraphOfLine_21 ?_
      exact ji_ireturn dX3_paragraphOfLine_22 rfl (rfl) ⟨jr_i (by unfold ly_g; first | (rw [if_pos (by omega)] <;> omega) | (rw [if_neg (by omega)] <;> omega)), rfl⟩
    · refine ji_aload_n dX3_paragraphOfLine_12 rfl trivial ?_
      refine ji_get (ci := 3) (k := 8) rfl dX3_paragraphOfLine_13 lX3_18 (by decide) (ly_0) rfl ?_
      refine ji_iload_n dX3_paragraphOfLine_16 rfl ?_
      refine ji_iaload dX3_paragraphOfLine_17 (ly_a3) (by omega) ?_
      refine ji_goto (tgt := 22) dX3_paragraphOfLine_18 rfl ?_
      exact ji_ireturn dX3_paragraphOfLine_22 rfl (rfl) ⟨jr_i (by unfold ly_g; first | (rw [if_pos (by omega)] <;> omega) | (rw [if_neg (by omega)] <;> omega)), rfl⟩

set_option maxHeartbeats 4000000 in
set_option maxRecDepth 100000 in
theorem k_Layout_indentOfLine (hcx : ly_cx n f b bk B sty) (hA : ∀ k j, -100000 ≤ A k j ∧ A k j ≤ 100000) (hl : 0 ≤ ln ∧ ln ≤ 240) {l : Int} (hb9 : -100000 ≤ l ∧ l ≤ 100000) : JR G d mX3_indentOfLine [.ref b, .int (jI (l))] (n, ly_f b f bk w h ln pg A) 0 0 (some (.int (jI (ly_g ln (A 4) 0 l)))) (n, ly_f b f bk w h ln pg A) := by
  obtain ⟨hbb, hsty, hbk0, hko, hst⟩ := id hcx
  have hbk : bk_at (n, ly_f b f bk w h ln pg A) bk B := hbk0.kept (ly_keep hbb)
  obtain ⟨ww, hwd, hwr⟩ := k_Book_words (G := G) hbk hko
  obtain ⟨t9, q9, hw, -⟩ := id hwd
  obtain ⟨xx1, xx2, xx3, hb, -⟩ := id hbk
  obtain ⟨hwo, k1, k2, k3⟩ := id hko
  obtain ⟨o1, o2, o3, o4⟩ := id hwo
  refine ji_ent (by decide) rfl (Nat.le_of_ble_eq_true rfl) rfl ?_
  refine ji_iload_n dX3_indentOfLine_0 rfl ?_
  refine ji_if_lt (tgt := 21) dX3_indentOfLine_1 rfl (by omega) (fun c1 => ?_) (fun c1 => ?_)
  · refine ji_iconst dX3_indentOfLine_21 ?_
    exact ji_ireturn dX3_indentOfLine_22 rfl (rfl) ⟨jr_i (by unfold ly_g; first | (rw [if_pos (by omega)] <;> omega) | (rw [if_neg (by omega)] <;> omega)), rfl⟩
  · refine ji_iload_n dX3_indentOfLine_4 rfl ?_
    refine ji_aload_n dX3_indentOfLine_5 rfl trivial ?_
    refine ji_get (ci := 3) (k := 6) rfl dX3_indentOfLine_6 lX3_86 (by decide) (ly_0) rfl ?_
    refine ji_icmp_ge (tgt := 21) dX3_indentOfLine_9 rfl (by omega) (by omega) (fun c9 => ?_) (fun c9 => ?_)
    · refine ji_iconst dX3_indentOfLine_21 ?_
      exact ji_ireturn dX3_indentOfLine_22 rfl (rfl) ⟨jr_i (by unfold ly_g; first | (rw [if_pos (by omega)] <;> omega) | (rw [if_neg (by omega)] <;> omega)), rfl⟩
    · refine ji_aload_n dX3_indentOfLine_12 rfl trivial ?_
      refine ji_get (ci := 3) (k := 9) rfl dX3_indentOfLine_13 lX3_21 (by decide) (ly_0) rfl ?_
      refine ji_iload_n dX3_indentOfLine_16 rfl ?_
      refine ji_iaload dX3_indentOfLine_17 (ly_a4) (by omega) ?_
      refine ji_goto (tgt := 22) dX3_indentOfLine_18 rfl ?_
      exact ji_ireturn dX3_indentOfLine_22 rfl (rfl) ⟨jr_i (by unfold ly_g; first | (rw [if_pos (by omega)] <;> omega) | (rw [if_neg (by omega)] <;> omega)), rfl⟩

set_option maxHeartbeats 4000000 in
set_option maxRecDepth 100000 in
theorem k_Layout_gapBefore (hcx : ly_cx n f b bk B sty) (hA : ∀ k j, -100000 ≤ A k j ∧ A k j ≤ 100000) (hl : 0 ≤ ln ∧ ln ≤ 240) {l : Int} (hb9 : -100000 ≤ l ∧ l ≤ 100000) : JR G d mX3_gapBefore [.ref b, .int (jI (l))] (n, ly_f b f bk w h ln pg A) 0 0 (some (.int (jI (ly_g ln (A 5) 0 l)))) (n, ly_f b f bk w h ln pg A) := by
  obtain ⟨hbb, hsty, hbk0, hko, hst⟩ := id hcx
  have hbk : bk_at (n, ly_f b f bk w h ln pg A) bk B := hbk0.kept (ly_keep hbb)
  obtain ⟨ww, hwd, hwr⟩ := k_Book_words (G := G) hbk hko
  obtain ⟨t9, q9, hw, -⟩ := id hwd
  obtain ⟨xx1, xx2, xx3, hb, -⟩ := id hbk
  obtain ⟨hwo, k1, k2, k3⟩ := id hko
  obtain ⟨o1, o2, o3, o4⟩ := id hwo
  refine ji_ent (by decide) rfl (Nat.le_of_ble_eq_true rfl) rfl ?_
  refine ji_iload_n dX3_gapBefore_0 rfl ?_
  refine ji_if_lt (tgt := 21) dX3_gapBefore_1 rfl (by omega) (fun c1 => ?_) (fun c1 => ?_)
  · refine ji_iconst dX3_gapBefore_21 ?_
    exact ji_ireturn dX3_gapBefore_22 rfl (rfl) ⟨jr_i (by unfold ly_g; first | (rw [if_pos (by omega)] <;> omega) | (rw [if_neg (by omega)] <;> omega)), rfl⟩
  · refine ji_iload_n dX3_gapBefore_4 rfl ?_
    refine ji_aload_n dX3_gapBefore_5 rfl trivial ?_
    refine ji_get (ci := 3) (k := 6) rfl dX3_gapBefore_6 lX3_86 (by decide) (ly_0) rfl ?_
    refine ji_icmp_ge (tgt := 21) dX3_gapBefore_9 rfl (by omega) (by omega) (fun c9 => ?_) (fun c9 => ?_)
    · refine ji_iconst dX3_gapBefore_21 ?_
      exact ji_ireturn dX3_gapBefore_22 rfl (rfl) ⟨jr_i (by unfold ly_g; first | (rw [if_pos (by omega)] <;> omega) | (rw [if_neg (by omega)] <;> omega)), rfl⟩
    · refine ji_aload_n dX3_gapBefore_12 rfl trivial ?_
      refine ji_get (ci := 3) (k := 10) rfl dX3_gapBefore_13 lX3_24 (by decide) (ly_0) rfl ?_
      refine ji_iload_n dX3_gapBefore_16 rfl ?_
      refine ji_iaload dX3_gapBefore_17 (ly_a5) (by omega) ?_
      refine ji_goto (tgt := 22) dX3_gapBefore_18 rfl ?_
      exact ji_ireturn dX3_gapBefore_22 rfl (rfl) ⟨jr_i (by unfold ly_g; first | (rw [if_pos (by omega)] <;> omega) | (rw [if_neg (by omega)] <;> omega)), rfl⟩

set_option maxHeartbeats 4000000 in
set_option maxRecDepth 100000 in
theorem k_Layout_notesOfLine (hcx : ly_cx n f b bk B sty) (hA : ∀ k j, -100000 ≤ A k j ∧ A k j ≤ 100000) (hl : 0 ≤ ln ∧ ln ≤ 240) {l : Int} (hb9 : -100000 ≤ l ∧ l ≤ 100000) : JR G d mX3_notesOfLine [.ref b, .int (jI (l))] (n, ly_f b f bk w h ln pg A) 0 0 (some (.int (jI (ly_g ln (A 7) 0 l)))) (n, ly_f b f bk w h ln pg A) := by
  obtain ⟨hbb, hsty, hbk0, hko, hst⟩ := id hcx
  have hbk : bk_at (n, ly_f b f bk w h ln pg A) bk B := hbk0.kept (ly_keep hbb)
  obtain ⟨ww, hwd, hwr⟩ := k_Book_words (G := G) hbk hko
  obtain ⟨t9, q9, hw, -⟩ := id hwd
  obtain ⟨xx1, xx2, xx3, hb, -⟩ := id hbk
  obtain ⟨hwo, k1, k2, k3⟩ := id hko
  obtain ⟨o1, o2, o3, o4⟩ := id hwo
  refine ji_ent (by decide) rfl (Nat.le_of_ble_eq_true rfl) rfl ?_
  refine ji_iload_n dX3_notesOfLine_0 rfl ?_
  refine ji_if_lt (tgt := 21) dX3_notesOfLine_1 rfl (by omega) (fun c1 => ?_) (fun c1 => ?_)
  · refine ji_iconst dX3_notesOfLine_21 ?_
    exact ji_ireturn dX3_notesOfLine_22 rfl (rfl) ⟨jr_i (by unfold ly_g; first | (rw [if_pos (by omega)] <;> omega) | (rw [if_neg (by omega)] <;> omega)), rfl⟩
  · refine ji_iload_n dX3_notesOfLine_4 rfl ?_
    refine ji_aload_n dX3_notesOfLine_5 rfl trivial ?_
    refine ji_get (ci := 3) (k := 6) rfl dX3_notesOfLine_6 lX3_86 (by decide) (ly_0) rfl ?_
    refine ji_icmp_ge (tgt := 21) dX3_notesOfLine_9 rfl (by omega) (by omega) (fun c9 => ?_) (fun c9 => ?_)
    · refine ji_iconst dX3_notesOfLine_21 ?_
      exact ji_ireturn dX3_notesOfLine_22 rfl (rfl) ⟨jr_i (by unfold ly_g; first | (rw [if_pos (by omega)] <;> omega) | (rw [if_neg (by omega)] <;> omega)), rfl⟩
    · refine ji_aload_n dX3_notesOfLine_12 rfl trivial ?_
      refine ji_get (ci := 3) (k := 12) rfl dX3_notesOfLine_13 lX3_31 (by decide) (ly_0) rfl ?_
      refine ji_iload_n dX3_notesOfLine_16 rfl ?_
      refine ji_iaload dX3_notesOfLine_17 (ly_a7) (by omega) ?_
      refine ji_goto (tgt := 22) dX3_notesOfLine_18 rfl ?_
      exact ji_ireturn dX3_notesOfLine_22 rfl (rfl) ⟨jr_i (by unfold ly_g; first | (rw [if_pos (by omega)] <;> omega) | (rw [if_neg (by omega)] <;> omega)), rfl⟩

set_option maxHeartbeats 4000000 in
set_option maxRecDepth 100000 in
theorem k_Layout_pageOfLine (hcx : ly_cx n f b bk B sty) (hA : ∀ k j, -100000 ≤ A k j ∧ A k j ≤ 100000) (hl : 0 ≤ ln ∧ ln ≤ 240) {l : Int} (hb9 : -100000 ≤ l ∧ l ≤ 100000) : JR G d mX3_pageOfLine [.ref b, .int (jI (l))] (n, ly_f b f bk w h ln pg A) 0 0 (some (.int (jI (ly_g ln (A 8) (-1) l)))) (n, ly_f b f bk w h ln pg A) := by
  obtain ⟨hbb, hsty, hbk0, hko, hst⟩ := id hcx
  have hbk : bk_at (n, ly_f b f bk w h ln pg A) bk B := hbk0.kept (ly_keep hbb)
  obtain ⟨ww, hwd, hwr⟩ := k_Book_words (G := G) hbk hko
  obtain ⟨t9, q9, hw, -⟩ := id hwd
  obtain ⟨xx1, xx2, xx3, hb, -⟩ := id hbk
  obtain ⟨hwo, k1, k2, k3⟩ := id hko
  obtain ⟨o1, o2, o3, o4⟩ := id hwo
  refine ji_ent (by decide) rfl (Nat.le_of_ble_eq_true rfl) rfl ?_
  refine ji_iload_n dX3_pageOfLine_0 rfl ?_
  refine ji_if_lt (tgt := 21) dX3_pageOfLine_1 rfl (by omega) (fun c1 => ?_) (fun c1 => ?_)
  · refine ji_iconst dX3_pageOfLine_21 ?_
    exact ji_ireturn dX3_pageOfLine_22 rfl (rfl) ⟨jr_i (by unfold ly_g; first | (rw [if_pos (by omega)] <;> omega) | (rw [if_neg (by omega)] <;> omega)), rfl⟩
  · refine ji_iload_n dX3_pageOfLine_4 rfl ?_
    refine ji_aload_n dX3_pageOfLine_5 rfl trivial ?_
    refine ji_get (ci := 3) (k := 6) rfl dX3_pageOfLine_6 lX3_86 (by decide) (ly_0) rfl ?_
    refine ji_icmp_ge (tgt := 21) dX3_pageOfLine_9 rfl (by omega) (by omega) (fun c9 => ?_) (fun c9 => ?_)
    · refine ji_iconst dX3_pageOfLine_21 ?_
      exact ji_ireturn dX3_pageOfLine_22 rfl (rfl) ⟨jr_i (by unfold ly_g; first | (rw [if_pos (by omega)] <;> omega) | (rw [if_neg (by omega)] <;> omega)), rfl⟩
    · refine ji_aload_n dX3_pageOfLine_12 rfl trivial ?_
      refine ji_get (ci := 3) (k := 13) rfl dX3_pageOfLine_13 lX3_34 (by decide) (ly_0) rfl ?_
      refine ji_iload_n dX3_pageOfLine_16 rfl ?_
      refine ji_iaload dX3_pageOfLine_17 (ly_a8) (by omega) ?_
      refine ji_goto (tgt := 22) dX3_pageOfLine_18 rfl ?_
      exact ji_ireturn dX3_pageOfLine_22 rfl (rfl) ⟨jr_i (by unfold ly_g; first | (rw [if_pos (by omega)] <;> omega) | (rw [if_neg (by omega)] <;> omega)), rfl⟩

set_option maxHeartbeats 4000000 in
set_option maxRecDepth 100000 in
theorem k_Layout_firstLineOfPage (hcx : ly_cx n f b bk B sty) (hA : ∀ k j, -100000 ≤ A k j ∧ A k j ≤ 100000) (hl : 0 ≤ ln ∧ ln ≤ 240) {p : Int} (hb9 : -100000 ≤ p ∧ p ≤ 100000) (hp : 0 ≤ pg ∧ pg ≤ 240) : JR G d mX3_firstLineOfPage [.ref b, .int (jI (p))] (n, ly_f b f bk w h ln pg A) 0 0 (some (.int (jI (ly_g pg (A 9) ln p)))) (n, ly_f b f bk w h ln pg A) := by
  obtain ⟨hbb, hsty, hbk0, hko, hst⟩ := id hcx
  have hbk : bk_at (n, ly_f b f bk w h ln pg A) bk B := hbk0.kept (ly_keep hbb)
  obtain ⟨ww, hwd, hwr⟩ := k_Book_words (G := G) hbk hko
  obtain ⟨t9, q9, hw, -⟩ := id hwd
  obtain ⟨xx1, xx2, xx3, hb, -⟩ := id hbk
  obtain ⟨hwo, k1, k2, k3⟩ := id hko
  obtain ⟨o1, o2, o3, o4⟩ := id hwo
  refine ji_ent (by decide) rfl (Nat.le_of_ble_eq_true rfl) rfl ?_
  refine ji_iload_n dX3_firstLineOfPage_0 rfl ?_
  refine ji_if_lt (tgt := 21) dX3_firstLineOfPage_1 rfl (by omega) (fun c1 => ?_) (fun c1 => ?_)
  · refine ji_aload_n dX3_firstLineOfPage_21 rfl trivial ?_
    refine ji_get (ci := 3) (k := 6) rfl dX3_firstLineOfPage_22 lX3_86 (by decide) (ly_0) rfl ?_
    exact ji_ireturn dX3_firstLineOfPage_25 rfl (rfl) ⟨jr_i (by unfold ly_g; first | (rw [if_pos (by omega)] <;> omega) | (rw [if_neg (by omega)] <;> omega)), rfl⟩
  · refine ji_iload_n dX3_firstLineOfPage_4 rfl ?_
    refine ji_aload_n dX3_firstLineOfPage_5 rfl trivial ?_
    refine ji_get (ci := 3) (k := 14) rfl dX3_firstLineOfPage_6 lX3_135 (by decide) (ly_0) rfl ?_
    refine ji_icmp_ge (tgt := 21) dX3_firstLineOfPage_9 rfl (by omega) (by omega) (fun c9 => ?_) (fun c9 => ?_)
    · refine ji_aload_n dX3_firstLineOfPage_21 rfl trivial ?_
      refine ji_get (ci := 3) (k := 6) rfl dX3_firstLineOfPage_22 lX3_86 (by decide) (ly_0) rfl ?_
      exact ji_ireturn dX3_firstLineOfPage_25 rfl (rfl) ⟨jr_i (by unfold ly_g; first | (rw [if_pos (by omega)] <;> omega) | (rw [if_neg (by omega)] <;> omega)), rfl⟩
    · refine ji_aload_n dX3_firstLineOfPage_12 rfl trivial ?_
      refine ji_get (ci := 3) (k := 15) rfl dX3_firstLineOfPage_13 lX3_37 (by decide) (ly_0) rfl ?_
      refine ji_iload_n dX3_firstLineOfPage_16 rfl ?_
      refine ji_iaload dX3_firstLineOfPage_17 (ly_a9) (by omega) ?_
      refine ji_goto (tgt := 25) dX3_firstLineOfPage_18 rfl ?_
      exact ji_ireturn dX3_firstLineOfPage_25 rfl (rfl) ⟨jr_i (by unfold ly_g; first | (rw [if_pos (by omega)] <;> omega) | (rw [if_neg (by omega)] <;> omega)), rfl⟩

def ly_mb (ln : Int) (A : Nat → Int) (l : Int) : Int := if 0 ≤ l ∧ l < ln ∧ ¬ A l.toNat = 0 then 1 else 0
def ly_bp (ln : Int) (A : Nat → Int) (l : Int) : Int := if ly_g ln A (-1) l = ly_g ln A (-1) (l - 1) then 0 else 1
theorem ly_bp_b (ln : Int) (A : Nat → Int) (l : Int) : 0 ≤ ly_bp ln A l ∧ ly_bp ln A l ≤ 1 := by unfold ly_bp; split <;> omega
theorem ly_mb_b (ln : Int) (A : Nat → Int) (l : Int) : 0 ≤ ly_mb ln A l ∧ ly_mb ln A l ≤ 1 := by unfold ly_mb; split <;> omega
def ly_ab (B : bk_T) (ln : Int) (A : Nat → Int) (l : Int) : Int := if bk_kind B (ly_g ln A (-1) (l - 1)) = 1 then 0 else if ly_bp ln A l = 1 ∨ (ly_bp ln A (l - 1) = 0 ∧ ly_bp ln A (l + 1) = 0) then 1 else 0

set_option maxHeartbeats 4000000 in
set_option maxRecDepth 100000 in
theorem k_Layout_mayBreakBefore (hcx : ly_cx n f b bk B sty) (hA : ∀ k j, -100000 ≤ A k j ∧ A k j ≤ 100000) (hl : 0 ≤ ln ∧ ln ≤ 240) {l : Int} (hb9 : -100000 ≤ l ∧ l ≤ 100000) : JR G d mX3_mayBreakBefore [.ref b, .int (jI (l))] (n, ly_f b f bk w h ln pg A) 0 0 (some (.int (jI (ly_mb ln (A 6) l)))) (n, ly_f b f bk w h ln pg A) := by
  obtain ⟨hbb, hsty, hbk0, hko, hst⟩ := id hcx
  have hbk : bk_at (n, ly_f b f bk w h ln pg A) bk B := hbk0.kept (ly_keep hbb)
  obtain ⟨ww, hwd, hwr⟩ := k_Book_words (G := G) hbk hko
  obtain ⟨t9, q9, hw, -⟩ := id hwd
  obtain ⟨xx1, xx2, xx3, hb, -⟩ := id hbk
  obtain ⟨hwo, k1, k2, k3⟩ := id hko
  obtain ⟨o1, o2, o3, o4⟩ := id hwo
  have q1 := hA 6 l.toNat
  refine ji_ent (by decide) rfl (Nat.le_of_ble_eq_true rfl) rfl ?_
  refine ji_iload_n dX3_mayBreakBefore_0 rfl ?_
  refine ji_if_lt (tgt := 25) dX3_mayBreakBefore_1 rfl (by omega) (fun c1 => ?_) (fun c1 => ?_)
  · refine ji_iconst dX3_mayBreakBefore_25 ?_
    exact ji_ireturn dX3_mayBreakBefore_26 rfl (by first | rfl | decide) ⟨jr_i (by unfold ly_mb; first | (rw [if_pos (by omega)] <;> omega) | (rw [if_neg (by omega)] <;> omega)), rfl⟩
  · refine ji_iload_n dX3_mayBreakBefore_4 rfl ?_
    refine ji_aload_n dX3_mayBreakBefore_5 rfl trivial ?_
    refine ji_get (ci := 3) (k := 6) rfl dX3_mayBreakBefore_6 lX3_86 (by decide) (ly_0) rfl ?_
    refine ji_icmp_ge (tgt := 25) dX3_mayBreakBefore_9 rfl (by omega) (by omega) (fun c9 => ?_) (fun c9 => ?_)
    · refine ji_iconst dX3_mayBreakBefore_25 ?_
      exact ji_ireturn dX3_mayBreakBefore_26 rfl (by first | rfl | decide) ⟨jr_i (by unfold ly_mb; first | (rw [if_pos (by omega)] <;> omega) | (rw [if_neg (by omega)] <;> omega)), rfl⟩
    · refine ji_aload_n dX3_mayBreakBefore_12 rfl trivial ?_
      refine ji_get (ci := 3) (k := 11) rfl dX3_mayBreakBefore_13 lX3_27 (by decide) (ly_0) rfl ?_
      refine ji_iload_n dX3_mayBreakBefore_16 rfl ?_
      refine ji_baload dX3_mayBreakBefore_17 (ly_a6) (by omega) ?_
      refine ji_if_eq (tgt := 25) dX3_mayBreakBefore_18 rfl (by omega) (fun c18 => ?_) (fun c18 => ?_)
      · refine ji_iconst dX3_mayBreakBefore_25 ?_
        exact ji_ireturn dX3_mayBreakBefore_26 rfl (by first | rfl | decide) ⟨jr_i (by unfold ly_mb; first | (rw [if_pos (by omega)] <;> omega) | (rw [if_neg (by omega)] <;> omega)), rfl⟩
      · refine ji_iconst dX3_mayBreakBefore_21 ?_
        refine ji_goto (tgt := 26) dX3_mayBreakBefore_22 rfl ?_
        exact ji_ireturn dX3_mayBreakBefore_26 rfl (by first | rfl | decide) ⟨jr_i (by unfold ly_mb; first | (rw [if_pos (by omega)] <;> omega) | (rw [if_neg (by omega)] <;> omega)), rfl⟩

set_option maxHeartbeats 4000000 in
set_option maxRecDepth 100000 in
theorem k_Layout_beginsParagraph (hcx : ly_cx n f b bk B sty) (hA : ∀ k j, -100000 ≤ A k j ∧ A k j ≤ 100000) (hl : 0 ≤ ln ∧ ln ≤ 240) {l : Int} (hb9 : -10000 ≤ l ∧ l ≤ 10000) : JR G (d + 1) mX3_beginsParagraph [.ref b, .int (jI (l))] (n, ly_f b f bk w h ln pg A) 0 0 (some (.int (jI (ly_bp ln (A 3) l)))) (n, ly_f b f bk w h ln pg A) := by
  obtain ⟨hbb, hsty, hbk0, hko, hst⟩ := id hcx
  have hbk : bk_at (n, ly_f b f bk w h ln pg A) bk B := hbk0.kept (ly_keep hbb)
  obtain ⟨ww, hwd, hwr⟩ := k_Book_words (G := G) hbk hko
  obtain ⟨t9, q9, hw, -⟩ := id hwd
  obtain ⟨xx1, xx2, xx3, hb, -⟩ := id hbk
  obtain ⟨hwo, k1, k2, k3⟩ := id hko
  obtain ⟨o1, o2, o3, o4⟩ := id hwo
  have g_224 := ly_g_b (ln := ln) (hA 3) (df := -1) (by omega) (l)
  have g_95 := ly_g_b (ln := ln) (hA 3) (df := -1) (by omega) (l - 1)
  refine ji_ent (by decide) rfl (Nat.le_of_ble_eq_true rfl) rfl ?_
  refine ji_aload_n dX3_beginsParagraph_0 rfl trivial ?_
  refine ji_iload_n dX3_beginsParagraph_1 rfl ?_
  refine ji_cV dX3_beginsParagraph_2 (k_Layout_paragraphOfLine hcx hA hl (by omega)) rfl (ly_0) rfl rfl wX3_paragraphOfLine vX3_paragraphOfLine lX3_132 rfl (Nat.le_of_ble_eq_true rfl) rfl ?_
  refine ji_aload_n dX3_beginsParagraph_5 rfl trivial ?_
  refine ji_iload_n dX3_beginsParagraph_6 rfl ?_
  refine ji_iconst dX3_beginsParagraph_7 ?_
  refine ji_isub dX3_beginsParagraph_8 ?_
  refine ji_cV dX3_beginsParagraph_9 (k_Layout_paragraphOfLine hcx hA hl (by omega)) rfl (ly_0) rfl rfl wX3_paragraphOfLine vX3_paragraphOfLine lX3_132 rfl (Nat.le_of_ble_eq_true rfl) rfl ?_
  refine ji_icmp_eq (tgt := 19) dX3_beginsParagraph_12 rfl (by omega) (by omega) (fun c12 => ?_) (fun c12 => ?_)
  · refine ji_iconst dX3_beginsParagraph_19 ?_
    exact ji_ireturn dX3_beginsParagraph_20 rfl (by first | rfl | decide) ⟨jr_i (by unfold ly_bp; first | (rw [if_pos (by omega)] <;> omega) | (rw [if_neg (by omega)] <;> omega)), rfl⟩
  · refine ji_iconst dX3_beginsParagraph_15 ?_
    refine ji_goto (tgt := 20) dX3_beginsParagraph_16 rfl ?_
    exact ji_ireturn dX3_beginsParagraph_20 rfl (by first | rfl | decide) ⟨jr_i (by unfold ly_bp; first | (rw [if_pos (by omega)] <;> omega) | (rw [if_neg (by omega)] <;> omega)), rfl⟩

set_option maxHeartbeats 4000000 in
set_option maxRecDepth 100000 in
theorem k_Layout_isAllowedBreak (hcx : ly_cx n f b bk B sty) (hA : ∀ k j, -100000 ≤ A k j ∧ A k j ≤ 100000) (hl : 0 ≤ ln ∧ ln ≤ 240) {l : Int} (hb9 : -1000 ≤ l ∧ l ≤ 1000) (h3 : ∀ j, 0 ≤ A 3 j ∧ A 3 j ≤ 10) : JR G (d + 2) mX3_isAllowedBreak [.ref b, .int (jI (l))] (n, ly_f b f bk w h ln pg A) 0 0 (some (.int (jI (ly_ab B ln (A 3) l)))) (n, ly_f b f bk w h ln pg A) := by
  obtain ⟨hbb, hsty, hbk0, hko, hst⟩ := id hcx
  have hbk : bk_at (n, ly_f b f bk w h ln pg A) bk B := hbk0.kept (ly_keep hbb)
  obtain ⟨ww, hwd, hwr⟩ := k_Book_words (G := G) hbk hko
  obtain ⟨t9, q9, hw, -⟩ := id hwd
  obtain ⟨xx1, xx2, xx3, hb, -⟩ := id hbk
  obtain ⟨hwo, k1, k2, k3⟩ := id hko
  obtain ⟨o1, o2, o3, o4⟩ := id hwo
  have g1 : -1 ≤ ly_g ln (A 3) (-1) (l - 1) ∧ ly_g ln (A 3) (-1) (l - 1) ≤ 10 := by unfold ly_g; split; have := h3 (l - 1).toNat; omega; omega
  have q1 := bk_kind_b hko (ly_g ln (A 3) (-1) (l - 1))
  have q2 := ly_bp_b ln (A 3) l
  have q3 := ly_bp_b ln (A 3) (l - 1)
  have q4 := ly_bp_b ln (A 3) (l + 1)
  refine ji_ent (by decide) rfl (Nat.le_of_ble_eq_true rfl) rfl ?_
  refine ji_aload_n dX3_isAllowedBreak_0 rfl trivial ?_
  refine ji_get (ci := 3) (k := 2) rfl dX3_isAllowedBreak_1 lX3_40 (by decide) (ly_0) rfl ?_
  refine ji_aload_n dX3_isAllowedBreak_4 rfl trivial ?_
  refine ji_iload_n dX3_isAllowedBreak_5 rfl ?_
  refine ji_iconst dX3_isAllowedBreak_6 ?_
  refine ji_isub dX3_isAllowedBreak_7 ?_
  refine ji_cV dX3_isAllowedBreak_8 (k_Layout_paragraphOfLine hcx hA hl (by omega)) rfl (ly_0) rfl rfl wX3_paragraphOfLine vX3_paragraphOfLine lX3_132 rfl (Nat.le_of_ble_eq_true rfl) rfl ?_
  refine ji_cV dX3_isAllowedBreak_11 (k_Book_kindOf hbk hko (by omega)) rfl (hb) rfl rfl wX0_kindOf vX0_kindOf lX3_129 rfl (Nat.le_of_ble_eq_true rfl) rfl ?_
  refine ji_iconst dX3_isAllowedBreak_14 ?_
  refine ji_icmp_ne (tgt := 20) dX3_isAllowedBreak_15 rfl (by omega) (by omega) (fun c15 => ?_) (fun c15 => ?_)
  · refine ji_aload_n dX3_isAllowedBreak_20 rfl trivial ?_
    refine ji_iload_n dX3_isAllowedBreak_21 rfl ?_
    refine ji_cV dX3_isAllowedBreak_22 (k_Layout_beginsParagraph hcx hA hl (by omega)) rfl (ly_0) rfl rfl wX3_beginsParagraph vX3_beginsParagraph lX3_116 rfl (Nat.le_of_ble_eq_true rfl) rfl ?_
    refine ji_if_ne (tgt := 48) dX3_isAllowedBreak_25 rfl (by omega) (fun c25 => ?_) (fun c25 => ?_)
    · refine ji_iconst dX3_isAllowedBreak_48 ?_
      refine ji_goto (tgt := 53) dX3_isAllowedBreak_49 rfl ?_
      exact ji_ireturn dX3_isAllowedBreak_53 rfl (by first | rfl | decide) ⟨jr_i (by unfold ly_ab; first | (rw [if_pos (by omega)]; done) | (rw [if_neg (by omega), if_pos (by omega)]; done) | (rw [if_neg (by omega), if_neg (by omega)]; done)), rfl⟩
    · refine ji_aload_n dX3_isAllowedBreak_28 rfl trivial ?_
      refine ji_iload_n dX3_isAllowedBreak_29 rfl ?_
      refine ji_iconst dX3_isAllowedBreak_30 ?_
      refine ji_isub dX3_isAllowedBreak_31 ?_
      refine ji_cV dX3_isAllowedBreak_32 (k_Layout_beginsParagraph hcx hA hl (by omega)) rfl (ly_0) rfl rfl wX3_beginsParagraph vX3_beginsParagraph lX3_116 rfl (Nat.le_of_ble_eq_true rfl) rfl ?_
      refine ji_if_ne (tgt := 52) dX3_isAllowedBreak_35 rfl (by omega) (fun c35 => ?_) (fun c35 => ?_)
      · refine ji_iconst dX3_isAllowedBreak_52 ?_
        exact ji_ireturn dX3_isAllowedBreak_53 rfl (by first | rfl | decide) ⟨jr_i (by unfold ly_ab; first | (rw [if_pos (by omega)]; done) | (rw [if_neg (by omega), if_pos (by omega)]; done) | (rw [if_neg (by omega), if_neg (by omega)]; done)), rfl⟩
      · refine ji_aload_n dX3_isAllowedBreak_38 rfl trivial ?_
        refine ji_iload_n dX3_isAllowedBreak_39 rfl ?_
        refine ji_iconst dX3_isAllowedBreak_40 ?_
        refine ji_iadd dX3_isAllowedBreak_41 ?_
        refine ji_cV dX3_isAllowedBreak_42 (k_Layout_beginsParagraph hcx hA hl (by omega)) rfl (ly_0) rfl rfl wX3_beginsParagraph vX3_beginsParagraph lX3_116 rfl (Nat.le_of_ble_eq_true rfl) rfl ?_
        refine ji_if_ne (tgt := 52) dX3_isAllowedBreak_45 rfl (by omega) (fun c45 => ?_) (fun c45 => ?_)
        · refine ji_iconst dX3_isAllowedBreak_52 ?_
          exact ji_ireturn dX3_isAllowedBreak_53 rfl (by first | rfl | decide) ⟨jr_i (by unfold ly_ab; first | (rw [if_pos (by omega)]; done) | (rw [if_neg (by omega), if_pos (by omega)]; done) | (rw [if_neg (by omega), if_neg (by omega)]; done)), rfl⟩
        · refine ji_iconst dX3_isAllowedBreak_48 ?_
          refine ji_goto (tgt := 53) dX3_isAllowedBreak_49 rfl ?_
          exact ji_ireturn dX3_isAllowedBreak_53 rfl (by first | rfl | decide) ⟨jr_i (by unfold ly_ab; first | (rw [if_pos (by omega)]; done) | (rw [if_neg (by omega), if_pos (by omega)]; done) | (rw [if_neg (by omega), if_neg (by omega)]; done)), rfl⟩
  · refine ji_iconst dX3_isAllowedBreak_18 ?_
    exact ji_ireturn dX3_isAllowedBreak_19 rfl (by first | rfl | decide) ⟨jr_i (by unfold ly_ab; first | (rw [if_pos (by omega)]; done) | (rw [if_neg (by omega), if_pos (by omega)]; done) | (rw [if_neg (by omega), if_neg (by omega)]; done)), rfl⟩

def ly_lp (ln : Int) (A : Nat → Int) (p : Int) : Nat → Int
  | 0 => 0
  | i + 1 => ly_lp ln A p i + (if ly_g ln A (-1) i = p then 1 else 0)
def ly_kb (ln : Int) (A : Nat → Int) (e : Int) : Nat → Int → Int
  | 0, _ => e
  | u + 1, l => if ly_mb ln A l = 0 then ly_kb ln A e u (l - 1) else l
def ly_rb (ln : Int) (A : Nat → Int) : Nat → Int → Int → Int
  | 0, _, r => r
  | u + 1, l, r => ly_rb ln A u (l + 1) (r + ly_g ln A 0 l)
/-- rows that some lines take -/
def ly_RB (ln : Int) (A : Nat → Int) (x y : Int) : Int := ly_rb ln A (y - (x + 1)).toNat (x + 1) (y - x)
def ly_pa (B : bk_T) (ln : Int) (A : Nat → Nat → Int) (place : Int) : Nat → Int
  | 0 => 0
  | u + 1 => if place < bk_ws B (ly_g ln (A 2) (bk_n B) ((u + 1 : Nat) : Int)) then ly_pa B ln A place u else ((u + 1 : Nat) : Int)
/-- the line and the page with a place -/
def ly_LA (B : bk_T) (ln : Int) (A : Nat → Nat → Int) (place : Int) : Int := ly_pa B ln A place (ln - 1).toNat
def ly_PA (B : bk_T) (ln : Int) (A : Nat → Nat → Int) (place : Int) : Int := ly_g ln (A 8) (-1) (ly_LA B ln A place)

set_option maxHeartbeats 4000000 in
set_option maxRecDepth 100000 in
theorem k_Layout_linesOfParagraph_loop (hcx : ly_cx n f b bk B sty) (hA : ∀ k j, -100000 ≤ A k j ∧ A k j ≤ 100000) (hl : 0 ≤ ln ∧ ln ≤ 240) {p : Int} (hp9 : -100000 ≤ p ∧ p ≤ 100000) : ∀ (u : Nat) (i c : Int), 0 ≤ i ∧ i + u = ln → c = ly_lp ln (A 3) p i.toNat →
    JW G (d + 1) mX3_linesOfParagraph 4 [some (.ref b), some (.int (jI p)), some (.int (jI c)), some (.int (jI i))] [] (n, ly_f b f bk w h ln pg A) 0 0 (fun r9 h9 => r9 = .inl (some (.int (jI (ly_lp ln (A 3) p ln.toNat)))) ∧ h9 = (n, ly_f b f bk w h ln pg A)) := by
  obtain ⟨hbb, hsty, hbk0, hko, hst⟩ := id hcx
  have hbk : bk_at (n, ly_f b f bk w h ln pg A) bk B := hbk0.kept (ly_keep hbb)
  obtain ⟨ww, hwd, hwr⟩ := k_Book_words (G := G) hbk hko
  obtain ⟨t9, q9, hw, -⟩ := id hwd
  obtain ⟨xx1, xx2, xx3, hb, -⟩ := id hbk
  obtain ⟨hwo, k1, k2, k3⟩ := id hko
  obtain ⟨o1, o2, o3, o4⟩ := id hwo
  intro u
  induction u with
  | zero =>
    intro i c hi hc

    refine ji_iload_n dX3_linesOfParagraph_4 rfl ?_
    refine ji_aload_n dX3_linesOfParagraph_5 rfl trivial ?_
    refine ji_get (ci := 3) (k := 6) rfl dX3_linesOfParagraph_6 lX3_86 (by decide) (ly_0) rfl ?_
    refine ji_icmp_ge (tgt := 35) dX3_linesOfParagraph_9 rfl (by omega) (by omega) (fun c9 => ?_) (fun c9 => absurd c9 (by omega))
    refine ji_iload_n dX3_linesOfParagraph_35 rfl ?_
    exact ji_ireturn dX3_linesOfParagraph_36 rfl (rfl) ⟨jr_i (by rw [hc, show i = ln by omega]), rfl⟩
  | succ u ih =>
    intro i c hi hc
    have g1 := ly_g_b (ln := ln) (hA 3) (df := -1) (by omega) i
    have e1 : (i + 1).toNat = i.toNat + 1 := by omega
    have e2 : ((i.toNat : Nat) : Int) = i := by omega

    refine ji_iload_n dX3_linesOfParagraph_4 rfl ?_
    refine ji_aload_n dX3_linesOfParagraph_5 rfl trivial ?_
    refine ji_get (ci := 3) (k := 6) rfl dX3_linesOfParagraph_6 lX3_86 (by decide) (ly_0) rfl ?_
    refine ji_icmp_ge (tgt := 35) dX3_linesOfParagraph_9 rfl (by omega) (by omega) (fun c9 => absurd c9 (by omega)) (fun c9 => ?_)
    refine ji_iload_n dX3_linesOfParagraph_12 rfl ?_
    refine ji_aload_n dX3_linesOfParagraph_13 rfl trivial ?_
    refine ji_iload_n dX3_linesOfParagraph_14 rfl ?_
    refine ji_cV dX3_linesOfParagraph_15 (k_Layout_paragraphOfLine hcx hA hl (by omega)) rfl (ly_0) rfl rfl wX3_paragraphOfLine vX3_paragraphOfLine lX3_132 rfl (Nat.le_of_ble_eq_true rfl) rfl ?_
    refine ji_iload_n dX3_linesOfParagraph_18 rfl ?_
    refine ji_icmp_ne (tgt := 26) dX3_linesOfParagraph_19 rfl (by omega) (by omega) (fun c19 => ?_) (fun c19 => ?_)
    · refine ji_iconst dX3_linesOfParagraph_26 ?_
      refine ji_iadd dX3_linesOfParagraph_27 ?_
      refine ji_istore_n dX3_linesOfParagraph_28 (by decide) rfl ?_
      refine ji_iinc dX3_linesOfParagraph_29 (by decide) rfl rfl ?_
      refine ji_goto (tgt := 4) dX3_linesOfParagraph_32 rfl ?_
      exact ih _ _ (by omega) (by rw [e1, ly_lp, ← hc, e2]; first | (rw [if_pos (by omega)]; done) | (rw [if_neg (by omega)]; done))
    · refine ji_iconst dX3_linesOfParagraph_22 ?_
      refine ji_goto (tgt := 27) dX3_linesOfParagraph_23 rfl ?_
      refine ji_iadd dX3_linesOfParagraph_27 ?_
      refine ji_istore_n dX3_linesOfParagraph_28 (by decide) rfl ?_
      refine ji_iinc dX3_linesOfParagraph_29 (by decide) rfl rfl ?_
      refine ji_goto (tgt := 4) dX3_linesOfParagraph_32 rfl ?_
      exact ih _ _ (by omega) (by rw [e1, ly_lp, ← hc, e2]; first | (rw [if_pos (by omega)]; done) | (rw [if_neg (by omega)]; done))

set_option maxHeartbeats 4000000 in
set_option maxRecDepth 100000 in
theorem k_Layout_linesOfParagraph (hcx : ly_cx n f b bk B sty) (hA : ∀ k j, -100000 ≤ A k j ∧ A k j ≤ 100000) (hl : 0 ≤ ln ∧ ln ≤ 240) {p : Int} (hp9 : -100000 ≤ p ∧ p ≤ 100000) : JR G (d + 1) mX3_linesOfParagraph [.ref b, .int (jI (p))] (n, ly_f b f bk w h ln pg A) 0 0 (some (.int (jI (ly_lp ln (A 3) p ln.toNat)))) (n, ly_f b f bk w h ln pg A) := by
  obtain ⟨hbb, hsty, hbk0, hko, hst⟩ := id hcx
  have hbk : bk_at (n, ly_f b f bk w h ln pg A) bk B := hbk0.kept (ly_keep hbb)
  obtain ⟨ww, hwd, hwr⟩ := k_Book_words (G := G) hbk hko
  obtain ⟨t9, q9, hw, -⟩ := id hwd
  obtain ⟨xx1, xx2, xx3, hb, -⟩ := id hbk
  obtain ⟨hwo, k1, k2, k3⟩ := id hko
  obtain ⟨o1, o2, o3, o4⟩ := id hwo
  refine ji_ent (by decide) rfl (Nat.le_of_ble_eq_true rfl) rfl ?_
  refine ji_iconst dX3_linesOfParagraph_0 ?_
  refine ji_istore_n dX3_linesOfParagraph_1 (by decide) rfl ?_
  refine ji_iconst dX3_linesOfParagraph_2 ?_
  refine ji_istore_n dX3_linesOfParagraph_3 (by decide) rfl ?_
  exact k_Layout_linesOfParagraph_loop hcx hA hl hp9 ln.toNat 0 0 (by omega) rfl

set_option maxHeartbeats 4000000 in
set_option maxRecDepth 100000 in
theorem k_Layout_columnsOfLine (hcx : ly_cx n f b bk B sty) (hA : ∀ k j, -100000 ≤ A k j ∧ A k j ≤ 100000) (hl : 0 ≤ ln ∧ ln ≤ 240) {l : Int} (hb9 : -1000 ≤ l ∧ l ≤ 1000) : JR G (d + 2) mX3_columnsOfLine [.ref b, .int (jI (l))] (n, ly_f b f bk w h ln pg A) 0 0 (some (.int (jI (ly_g ln (A 4) 0 l + wd_end (bk_m B) (bk_n B) (bk_s B) (ly_g ln (A 2) (bk_n B) (l + 1) - 1) - bk_ws B (ly_g ln (A 2) (bk_n B) l))))) (n, ly_f b f bk w h ln pg A) := by
  obtain ⟨hbb, hsty, hbk0, hko, hst⟩ := id hcx
  have hbk : bk_at (n, ly_f b f bk w h ln pg A) bk B := hbk0.kept (ly_keep hbb)
  obtain ⟨ww, hwd, hwr⟩ := k_Book_words (G := G) hbk hko
  obtain ⟨t9, q9, hw, -⟩ := id hwd
  obtain ⟨xx1, xx2, xx3, hb, -⟩ := id hbk
  obtain ⟨hwo, k1, k2, k3⟩ := id hko
  obtain ⟨o1, o2, o3, o4⟩ := id hwo
  have g1 := ly_g_b (ln := ln) (hA 2) (df := bk_n B) (by omega) (l + 1)
  have g2 := ly_g_b (ln := ln) (hA 2) (df := bk_n B) (by omega) l
  refine ji_ent (by decide) rfl (Nat.le_of_ble_eq_true rfl) rfl ?_
  refine ji_aload_n dX3_columnsOfLine_0 rfl trivial ?_
  refine ji_get (ci := 3) (k := 2) rfl dX3_columnsOfLine_1 lX3_40 (by decide) (ly_0) rfl ?_
  refine ji_cV dX3_columnsOfLine_4 (hwr) rfl (hb) rfl rfl wX0_words vX0_words lX3_80 rfl (Nat.le_of_ble_eq_true rfl) rfl ?_
  refine ji_astore_n dX3_columnsOfLine_7 (by decide) trivial rfl ?_
  refine ji_aload_n dX3_columnsOfLine_8 rfl trivial ?_
  refine ji_iload_n dX3_columnsOfLine_9 rfl ?_
  refine ji_cV dX3_columnsOfLine_10 (k_Layout_firstWordOfLine hcx hA hl (by omega)) rfl (ly_0) rfl rfl wX3_firstWordOfLine vX3_firstWordOfLine lX3_141 rfl (Nat.le_of_ble_eq_true rfl) rfl ?_
  refine ji_istore_n dX3_columnsOfLine_13 (by decide) rfl ?_
  refine ji_aload_n dX3_columnsOfLine_14 rfl trivial ?_
  refine ji_iload_n dX3_columnsOfLine_15 rfl ?_
  refine ji_iconst dX3_columnsOfLine_16 ?_
  refine ji_iadd dX3_columnsOfLine_17 ?_
  refine ji_cV dX3_columnsOfLine_18 (k_Layout_firstWordOfLine hcx hA hl (by omega)) rfl (ly_0) rfl rfl wX3_firstWordOfLine vX3_firstWordOfLine lX3_141 rfl (Nat.le_of_ble_eq_true rfl) rfl ?_
  refine ji_iconst dX3_columnsOfLine_21 ?_
  refine ji_isub dX3_columnsOfLine_22 ?_
  refine ji_istore dX3_columnsOfLine_23 (by decide) rfl ?_
  refine ji_aload_n dX3_columnsOfLine_25 rfl trivial ?_
  refine ji_iload_n dX3_columnsOfLine_26 rfl ?_
  refine ji_cV dX3_columnsOfLine_27 (k_Layout_indentOfLine hcx hA hl (by omega)) rfl (ly_0) rfl rfl wX3_indentOfLine vX3_indentOfLine lX3_144 rfl (Nat.le_of_ble_eq_true rfl) rfl ?_
  refine ji_aload_n dX3_columnsOfLine_30 rfl trivial ?_
  refine ji_iload dX3_columnsOfLine_31 rfl ?_
  refine ji_cV dX3_columnsOfLine_33 (k_Words_endOf hwd hwo (by omega)) rfl (hw) rfl rfl wX6_endOf vX6_endOf lX3_147 rfl (Nat.le_of_ble_eq_true rfl) rfl ?_
  refine ji_iadd dX3_columnsOfLine_36 ?_
  refine ji_aload_n dX3_columnsOfLine_37 rfl trivial ?_
  refine ji_iload_n dX3_columnsOfLine_38 rfl ?_
  refine ji_cV dX3_columnsOfLine_39 (k_Words_startOf hwd hwo (by omega)) rfl (hw) rfl rfl wX6_startOf vX6_startOf lX3_150 rfl (Nat.le_of_ble_eq_true rfl) rfl ?_
  refine ji_isub dX3_columnsOfLine_42 ?_
  exact ji_ireturn dX3_columnsOfLine_43 rfl (rfl) ⟨rfl, rfl⟩

set_option maxHeartbeats 4000000 in
set_option maxRecDepth 100000 in
theorem k_Layout_keptBreak_loop (hcx : ly_cx n f b bk B sty) (hA : ∀ k j, -100000 ≤ A k j ∧ A k j ≤ 100000) (hl : 0 ≤ ln ∧ ln ≤ 240) {x1 e R : Int} (h1 : -1000 ≤ x1 ∧ x1 ≤ 1000) (h2 : -1000 ≤ e ∧ e ≤ 1000) : ∀ (u : Nat) (l : Int), l = x1 + u → l ≤ 1000 → R = ly_kb ln (A 6) e u l →
    JW G (d + 1) mX3_keptBreak 2 [some (.ref b), some (.int (jI x1)), some (.int (jI e)), some (.int (jI l))] [] (n, ly_f b f bk w h ln pg A) 0 0 (fun r9 h9 => r9 = .inl (some (.int (jI R))) ∧ h9 = (n, ly_f b f bk w h ln pg A)) := by
  obtain ⟨hbb, hsty, hbk0, hko, hst⟩ := id hcx
  have hbk : bk_at (n, ly_f b f bk w h ln pg A) bk B := hbk0.kept (ly_keep hbb)
  obtain ⟨ww, hwd, hwr⟩ := k_Book_words (G := G) hbk hko
  obtain ⟨t9, q9, hw, -⟩ := id hwd
  obtain ⟨xx1, xx2, xx3, hb, -⟩ := id hbk
  obtain ⟨hwo, k1, k2, k3⟩ := id hko
  obtain ⟨o1, o2, o3, o4⟩ := id hwo
  intro u
  induction u with
  | zero =>
    intro l hl2 hl3 hR

    refine ji_iload_n dX3_keptBreak_2 rfl ?_
    refine ji_iload_n dX3_keptBreak_3 rfl ?_
    refine ji_icmp_le (tgt := 23) dX3_keptBreak_4 rfl (by omega) (by omega) (fun c4 => ?_) (fun c4 => absurd c4 (by omega))
    refine ji_iload_n dX3_keptBreak_23 rfl ?_
    exact ji_ireturn dX3_keptBreak_24 rfl (rfl) ⟨jr_i (by rw [hR]; rfl), rfl⟩
  | succ u ih =>
    intro l hl2 hl3 hR
    have g1 := ly_mb_b ln (A 6) l

    refine ji_iload_n dX3_keptBreak_2 rfl ?_
    refine ji_iload_n dX3_keptBreak_3 rfl ?_
    refine ji_icmp_le (tgt := 23) dX3_keptBreak_4 rfl (by omega) (by omega) (fun c4 => absurd c4 (by omega)) (fun c4 => ?_)
    refine ji_aload_n dX3_keptBreak_7 rfl trivial ?_
    refine ji_iload_n dX3_keptBreak_8 rfl ?_
    refine ji_cV dX3_keptBreak_9 (k_Layout_mayBreakBefore hcx hA hl (by omega)) rfl (ly_0) rfl rfl wX3_mayBreakBefore vX3_mayBreakBefore lX3_165 rfl (Nat.le_of_ble_eq_true rfl) rfl ?_
    refine ji_if_eq (tgt := 17) dX3_keptBreak_12 rfl (by omega) (fun c12 => ?_) (fun c12 => ?_)
    · refine ji_iinc dX3_keptBreak_17 (by decide) rfl rfl ?_
      refine ji_goto (tgt := 2) dX3_keptBreak_20 rfl ?_
      exact ih _ (by omega) (by omega) (by rw [hR, ly_kb, if_pos (by omega)]; rfl)
    · refine ji_iload_n dX3_keptBreak_15 rfl ?_
      exact ji_ireturn dX3_keptBreak_16 rfl (rfl) ⟨jr_i (by rw [hR, ly_kb, if_neg (by omega)]), rfl⟩

set_option maxHeartbeats 4000000 in
set_option maxRecDepth 100000 in
theorem k_Layout_keptBreak (hcx : ly_cx n f b bk B sty) (hA : ∀ k j, -100000 ≤ A k j ∧ A k j ≤ 100000) (hl : 0 ≤ ln ∧ ln ≤ 240) {x1 e : Int} (h1 : -1000 ≤ x1 ∧ x1 ≤ e) (h2 : -1000 ≤ e ∧ e ≤ 1000) : JR G (d + 1) mX3_keptBreak [.ref b, .int (jI (x1)), .int (jI (e))] (n, ly_f b f bk w h ln pg A) 0 0 (some (.int (jI (ly_kb ln (A 6) e (e - x1).toNat e)))) (n, ly_f b f bk w h ln pg A) := by
  obtain ⟨hbb, hsty, hbk0, hko, hst⟩ := id hcx
  have hbk : bk_at (n, ly_f b f bk w h ln pg A) bk B := hbk0.kept (ly_keep hbb)
  obtain ⟨ww, hwd, hwr⟩ := k_Book_words (G := G) hbk hko
  obtain ⟨t9, q9, hw, -⟩ := id hwd
  obtain ⟨xx1, xx2, xx3, hb, -⟩ := id hbk
  obtain ⟨hwo, k1, k2, k3⟩ := id hko
  obtain ⟨o1, o2, o3, o4⟩ := id hwo
  refine ji_ent (by decide) rfl (Nat.le_of_ble_eq_true rfl) rfl ?_
  refine ji_iload_n dX3_keptBreak_0 rfl ?_
  refine ji_istore_n dX3_keptBreak_1 (by decide) rfl ?_
  exact k_Layout_keptBreak_loop hcx hA hl (by omega) h2 (e - x1).toNat e (by omega) (by omega) rfl

set_option maxHeartbeats 4000000 in
set_option maxRecDepth 100000 in
theorem k_Layout_rowsBetween_loop (hcx : ly_cx n f b bk B sty) (hA : ∀ k j, -100000 ≤ A k j ∧ A k j ≤ 100000) (hl : 0 ≤ ln ∧ ln ≤ 240) {x1 y1 R : Int} (h1 : -1000 ≤ x1 ∧ x1 ≤ 1000) (h2 : -1000 ≤ y1 ∧ y1 ≤ 1000) : ∀ (u : Nat) (l r : Int), x1 + 1 ≤ l → l + u = max y1 (x1 + 1) → R = ly_rb ln (A 5) u l r →
    JW G (d + 1) mX3_rowsBetween 9 [some (.ref b), some (.int (jI x1)), some (.int (jI y1)), some (.int (jI r)), some (.int (jI l))] [] (n, ly_f b f bk w h ln pg A) 0 0 (fun r9 h9 => r9 = .inl (some (.int (jI R))) ∧ h9 = (n, ly_f b f bk w h ln pg A)) := by
  obtain ⟨hbb, hsty, hbk0, hko, hst⟩ := id hcx
  have hbk : bk_at (n, ly_f b f bk w h ln pg A) bk B := hbk0.kept (ly_keep hbb)
  obtain ⟨ww, hwd, hwr⟩ := k_Book_words (G := G) hbk hko
  obtain ⟨t9, q9, hw, -⟩ := id hwd
  obtain ⟨xx1, xx2, xx3, hb, -⟩ := id hbk
  obtain ⟨hwo, k1, k2, k3⟩ := id hko
  obtain ⟨o1, o2, o3, o4⟩ := id hwo
  intro u
  induction u with
  | zero =>
    intro l r h3 h4 hR

    refine ji_iload dX3_rowsBetween_9 rfl ?_
    refine ji_iload_n dX3_rowsBetween_11 rfl ?_
    refine ji_icmp_ge (tgt := 30) dX3_rowsBetween_12 rfl (by omega) (by omega) (fun c12 => ?_) (fun c12 => absurd c12 (by omega))
    refine ji_iload_n dX3_rowsBetween_30 rfl ?_
    exact ji_ireturn dX3_rowsBetween_31 rfl (rfl) ⟨jr_i (by rw [hR]; rfl), rfl⟩
  | succ u ih =>
    intro l r h3 h4 hR

    refine ji_iload dX3_rowsBetween_9 rfl ?_
    refine ji_iload_n dX3_rowsBetween_11 rfl ?_
    refine ji_icmp_ge (tgt := 30) dX3_rowsBetween_12 rfl (by omega) (by omega) (fun c12 => absurd c12 (by omega)) (fun c12 => ?_)
    refine ji_iload_n dX3_rowsBetween_15 rfl ?_
    refine ji_aload_n dX3_rowsBetween_16 rfl trivial ?_
    refine ji_iload dX3_rowsBetween_17 rfl ?_
    refine ji_cV dX3_rowsBetween_19 (k_Layout_gapBefore hcx hA hl (by omega)) rfl (ly_0) rfl rfl wX3_gapBefore vX3_gapBefore lX3_156 rfl (Nat.le_of_ble_eq_true rfl) rfl ?_
    refine ji_iadd dX3_rowsBetween_22 ?_
    refine ji_istore_n dX3_rowsBetween_23 (by decide) rfl ?_
    refine ji_iinc dX3_rowsBetween_24 (by decide) rfl rfl ?_
    refine ji_goto (tgt := 9) dX3_rowsBetween_27 rfl ?_
    exact ih _ _ (by omega) (by omega) (by rw [hR, ly_rb])

set_option maxHeartbeats 4000000 in
set_option maxRecDepth 100000 in
theorem k_Layout_rowsBetween (hcx : ly_cx n f b bk B sty) (hA : ∀ k j, -100000 ≤ A k j ∧ A k j ≤ 100000) (hl : 0 ≤ ln ∧ ln ≤ 240) {x1 y1 : Int} (h1 : -1000 ≤ x1 ∧ x1 ≤ 1000) (h2 : -1000 ≤ y1 ∧ y1 ≤ 1000) : JR G (d + 1) mX3_rowsBetween [.ref b, .int (jI (x1)), .int (jI (y1))] (n, ly_f b f bk w h ln pg A) 0 0 (some (.int (jI (ly_RB ln (A 5) x1 y1)))) (n, ly_f b f bk w h ln pg A) := by
  obtain ⟨hbb, hsty, hbk0, hko, hst⟩ := id hcx
  have hbk : bk_at (n, ly_f b f bk w h ln pg A) bk B := hbk0.kept (ly_keep hbb)
  obtain ⟨ww, hwd, hwr⟩ := k_Book_words (G := G) hbk hko
  obtain ⟨t9, q9, hw, -⟩ := id hwd
  obtain ⟨xx1, xx2, xx3, hb, -⟩ := id hbk
  obtain ⟨hwo, k1, k2, k3⟩ := id hko
  obtain ⟨o1, o2, o3, o4⟩ := id hwo
  refine ji_ent (by decide) rfl (Nat.le_of_ble_eq_true rfl) rfl ?_
  refine ji_iload_n dX3_rowsBetween_0 rfl ?_
  refine ji_iload_n dX3_rowsBetween_1 rfl ?_
  refine ji_isub dX3_rowsBetween_2 ?_
  refine ji_istore_n dX3_rowsBetween_3 (by decide) rfl ?_
  refine ji_iload_n dX3_rowsBetween_4 rfl ?_
  refine ji_iconst dX3_rowsBetween_5 ?_
  refine ji_iadd dX3_rowsBetween_6 ?_
  refine ji_istore dX3_rowsBetween_7 (by decide) rfl ?_
  exact k_Layout_rowsBetween_loop hcx hA hl h1 h2 (y1 - (x1 + 1)).toNat (x1 + 1) _ (by omega) (by omega) rfl

set_option maxHeartbeats 4000000 in
set_option maxRecDepth 100000 in
theorem k_Layout_rowOfLine (hcx : ly_cx n f b bk B sty) (hA : ∀ k j, -100000 ≤ A k j ∧ A k j ≤ 100000) (hl : 0 ≤ ln ∧ ln ≤ 240) {l : Int} (hb9 : -500 ≤ l ∧ l ≤ 500) (hp : 0 ≤ pg ∧ pg ≤ 240) (h89 : ∀ j, (-1 ≤ A 8 j ∧ A 8 j ≤ 240) ∧ 0 ≤ A 9 j ∧ A 9 j ≤ 240) : JR G (d + 2) mX3_rowOfLine [.ref b, .int (jI (l))] (n, ly_f b f bk w h ln pg A) 0 0 (some (.int (jI (ly_RB ln (A 5) (ly_g pg (A 9) ln (ly_g ln (A 8) (-1) l)) (l + 1) - 1)))) (n, ly_f b f bk w h ln pg A) := by
  obtain ⟨hbb, hsty, hbk0, hko, hst⟩ := id hcx
  have hbk : bk_at (n, ly_f b f bk w h ln pg A) bk B := hbk0.kept (ly_keep hbb)
  obtain ⟨ww, hwd, hwr⟩ := k_Book_words (G := G) hbk hko
  obtain ⟨t9, q9, hw, -⟩ := id hwd
  obtain ⟨xx1, xx2, xx3, hb, -⟩ := id hbk
  obtain ⟨hwo, k1, k2, k3⟩ := id hko
  obtain ⟨o1, o2, o3, o4⟩ := id hwo
  have g9 : ∀ x : Int, 0 ≤ ly_g pg (A 9) ln x ∧ ly_g pg (A 9) ln x ≤ 240 := fun x => by unfold ly_g; split; have := h89 x.toNat; omega; omega
  have g8 : ∀ x : Int, -1 ≤ ly_g ln (A 8) (-1) x ∧ ly_g ln (A 8) (-1) x ≤ 240 := fun x => by unfold ly_g; split; have := h89 x.toNat; omega; omega
  have g1 := g8 l
  have g2 := g9 (ly_g ln (A 8) (-1) l)
  refine ji_ent (by decide) rfl (Nat.le_of_ble_eq_true rfl) rfl ?_
  refine ji_aload_n dX3_rowOfLine_0 rfl trivial ?_
  refine ji_aload_n dX3_rowOfLine_1 rfl trivial ?_
  refine ji_aload_n dX3_rowOfLine_2 rfl trivial ?_
  refine ji_iload_n dX3_rowOfLine_3 rfl ?_
  refine ji_cV dX3_rowOfLine_4 (k_Layout_pageOfLine hcx hA hl (by omega)) rfl (ly_0) rfl rfl wX3_pageOfLine vX3_pageOfLine lX3_173 rfl (Nat.le_of_ble_eq_true rfl) rfl ?_
  refine ji_cV dX3_rowOfLine_7 (k_Layout_firstLineOfPage hcx hA hl (by omega) hp) rfl (ly_0) rfl rfl wX3_firstLineOfPage vX3_firstLineOfPage lX3_176 rfl (Nat.le_of_ble_eq_true rfl) rfl ?_
  refine ji_iload_n dX3_rowOfLine_10 rfl ?_
  refine ji_iconst dX3_rowOfLine_11 ?_
  refine ji_iadd dX3_rowOfLine_12 ?_
  refine ji_cV dX3_rowOfLine_13 (k_Layout_rowsBetween hcx hA hl (by omega) (by omega)) rfl (ly_0) rfl rfl wX3_rowsBetween vX3_rowsBetween lX3_179 rfl (Nat.le_of_ble_eq_true rfl) rfl ?_
  refine ji_iconst dX3_rowOfLine_16 ?_
  refine ji_isub dX3_rowOfLine_17 ?_
  exact ji_ireturn dX3_rowOfLine_18 rfl (rfl) ⟨rfl, rfl⟩

set_option maxHeartbeats 4000000 in
set_option maxRecDepth 100000 in
theorem k_Layout_rowsOfPage (hcx : ly_cx n f b bk B sty) (hA : ∀ k j, -100000 ≤ A k j ∧ A k j ≤ 100000) (hl : 0 ≤ ln ∧ ln ≤ 240) {p : Int} (hb9 : -500 ≤ p ∧ p ≤ 500) (hp : 0 ≤ pg ∧ pg ≤ 240) (h89 : ∀ j, (-1 ≤ A 8 j ∧ A 8 j ≤ 240) ∧ 0 ≤ A 9 j ∧ A 9 j ≤ 240) : JR G (d + 2) mX3_rowsOfPage [.ref b, .int (jI (p))] (n, ly_f b f bk w h ln pg A) 0 0 (some (.int (jI (ly_RB ln (A 5) (ly_g pg (A 9) ln p) (ly_g pg (A 9) ln (p + 1)))))) (n, ly_f b f bk w h ln pg A) := by
  obtain ⟨hbb, hsty, hbk0, hko, hst⟩ := id hcx
  have hbk : bk_at (n, ly_f b f bk w h ln pg A) bk B := hbk0.kept (ly_keep hbb)
  obtain ⟨ww, hwd, hwr⟩ := k_Book_words (G := G) hbk hko
  obtain ⟨t9, q9, hw, -⟩ := id hwd
  obtain ⟨xx1, xx2, xx3, hb, -⟩ := id hbk
  obtain ⟨hwo, k1, k2, k3⟩ := id hko
  obtain ⟨o1, o2, o3, o4⟩ := id hwo
  have g9 : ∀ x : Int, 0 ≤ ly_g pg (A 9) ln x ∧ ly_g pg (A 9) ln x ≤ 240 := fun x => by unfold ly_g; split; have := h89 x.toNat; omega; omega
  have g8 : ∀ x : Int, -1 ≤ ly_g ln (A 8) (-1) x ∧ ly_g ln (A 8) (-1) x ≤ 240 := fun x => by unfold ly_g; split; have := h89 x.toNat; omega; omega
  have g1 := g9 p
  have g2 := g9 (p + 1)
  refine ji_ent (by decide) rfl (Nat.le_of_ble_eq_true rfl) rfl ?_
  refine ji_aload_n dX3_rowsOfPage_0 rfl trivial ?_
  refine ji_aload_n dX3_rowsOfPage_1 rfl trivial ?_
  refine ji_iload_n dX3_rowsOfPage_2 rfl ?_
  refine ji_cV dX3_rowsOfPage_3 (k_Layout_firstLineOfPage hcx hA hl (by omega) hp) rfl (ly_0) rfl rfl wX3_firstLineOfPage vX3_firstLineOfPage lX3_176 rfl (Nat.le_of_ble_eq_true rfl) rfl ?_
  refine ji_aload_n dX3_rowsOfPage_6 rfl trivial ?_
  refine ji_iload_n dX3_rowsOfPage_7 rfl ?_
  refine ji_iconst dX3_rowsOfPage_8 ?_
  refine ji_iadd dX3_rowsOfPage_9 ?_
  refine ji_cV dX3_rowsOfPage_10 (k_Layout_firstLineOfPage hcx hA hl (by omega) hp) rfl (ly_0) rfl rfl wX3_firstLineOfPage vX3_firstLineOfPage lX3_176 rfl (Nat.le_of_ble_eq_true rfl) rfl ?_
  refine ji_cV dX3_rowsOfPage_13 (k_Layout_rowsBetween hcx hA hl (by omega) (by omega)) rfl (ly_0) rfl rfl wX3_rowsBetween vX3_rowsBetween lX3_179 rfl (Nat.le_of_ble_eq_true rfl) rfl ?_
  exact ji_ireturn dX3_rowsOfPage_16 rfl (rfl) ⟨rfl, rfl⟩

set_option maxHeartbeats 4000000 in
set_option maxRecDepth 100000 in
theorem k_Layout_placeOfPage (hcx : ly_cx n f b bk B sty) (hA : ∀ k j, -100000 ≤ A k j ∧ A k j ≤ 100000) (hl : 0 ≤ ln ∧ ln ≤ 240) {p : Int} (hb9 : -500 ≤ p ∧ p ≤ 500) (hp : 0 ≤ pg ∧ pg ≤ 240) (h89 : ∀ j, (-1 ≤ A 8 j ∧ A 8 j ≤ 240) ∧ 0 ≤ A 9 j ∧ A 9 j ≤ 240) : JR G (d + 2) mX3_placeOfPage [.ref b, .int (jI (p))] (n, ly_f b f bk w h ln pg A) 0 0 (some (.int (jI (bk_ws B (ly_g ln (A 2) (bk_n B) (ly_g pg (A 9) ln p)))))) (n, ly_f b f bk w h ln pg A) := by
  obtain ⟨hbb, hsty, hbk0, hko, hst⟩ := id hcx
  have hbk : bk_at (n, ly_f b f bk w h ln pg A) bk B := hbk0.kept (ly_keep hbb)
  obtain ⟨ww, hwd, hwr⟩ := k_Book_words (G := G) hbk hko
  obtain ⟨t9, q9, hw, -⟩ := id hwd
  obtain ⟨xx1, xx2, xx3, hb, -⟩ := id hbk
  obtain ⟨hwo, k1, k2, k3⟩ := id hko
  obtain ⟨o1, o2, o3, o4⟩ := id hwo
  have g9 : ∀ x : Int, 0 ≤ ly_g pg (A 9) ln x ∧ ly_g pg (A 9) ln x ≤ 240 := fun x => by unfold ly_g; split; have := h89 x.toNat; omega; omega
  have g8 : ∀ x : Int, -1 ≤ ly_g ln (A 8) (-1) x ∧ ly_g ln (A 8) (-1) x ≤ 240 := fun x => by unfold ly_g; split; have := h89 x.toNat; omega; omega
  have g1 := g9 p
  have g2 := ly_g_b (ln := ln) (hA 2) (df := bk_n B) (by omega) (ly_g pg (A 9) ln p)
  refine ji_ent (by decide) rfl (Nat.le_of_ble_eq_true rfl) rfl ?_
  refine ji_aload_n dX3_placeOfPage_0 rfl trivial ?_
  refine ji_get (ci := 3) (k := 2) rfl dX3_placeOfPage_1 lX3_40 (by decide) (ly_0) rfl ?_
  refine ji_cV dX3_placeOfPage_4 (hwr) rfl (hb) rfl rfl wX0_words vX0_words lX3_80 rfl (Nat.le_of_ble_eq_true rfl) rfl ?_
  refine ji_aload_n dX3_placeOfPage_7 rfl trivial ?_
  refine ji_aload_n dX3_placeOfPage_8 rfl trivial ?_
  refine ji_iload_n dX3_placeOfPage_9 rfl ?_
  refine ji_cV dX3_placeOfPage_10 (k_Layout_firstLineOfPage hcx hA hl (by omega) hp) rfl (ly_0) rfl rfl wX3_firstLineOfPage vX3_firstLineOfPage lX3_176 rfl (Nat.le_of_ble_eq_true rfl) rfl ?_
  refine ji_cV dX3_placeOfPage_13 (k_Layout_firstWordOfLine hcx hA hl (by omega)) rfl (ly_0) rfl rfl wX3_firstWordOfLine vX3_firstWordOfLine lX3_141 rfl (Nat.le_of_ble_eq_true rfl) rfl ?_
  refine ji_cV dX3_placeOfPage_16 (k_Words_startOf hwd hwo (by omega)) rfl (hw) rfl rfl wX6_startOf vX6_startOf lX3_150 rfl (Nat.le_of_ble_eq_true rfl) rfl ?_
  exact ji_ireturn dX3_placeOfPage_19 rfl (rfl) ⟨rfl, rfl⟩

theorem ly_pa_b (B : bk_T) (ln : Int) (A : Nat → Nat → Int) (place : Int) : ∀ u : Nat, 0 ≤ ly_pa B ln A place u ∧ ly_pa B ln A place u ≤ u
  | 0 => by simp [ly_pa]
  | u + 1 => by have := ly_pa_b B ln A place u; unfold ly_pa; split <;> omega
set_option maxHeartbeats 4000000 in
set_option maxRecDepth 100000 in
theorem k_Layout_pageAt_loop (hcx : ly_cx n f b bk B sty) (hA : ∀ k j, -100000 ≤ A k j ∧ A k j ≤ 100000) (hl : 0 ≤ ln ∧ ln ≤ 240) {place R : Int} (hp9 : -1000000 ≤ place ∧ place ≤ 1000000) : ∀ (u : Nat) (l : Int), l = u → l ≤ 240 → R = ly_g ln (A 8) (-1) (ly_pa B ln A place u) →
    JW G (d + 2) mX3_pageAt 7 [some (.ref b), some (.int (jI place)), some (.int (jI l))] [] (n, ly_f b f bk w h ln pg A) 0 0 (fun r9 h9 => r9 = .inl (some (.int (jI R))) ∧ h9 = (n, ly_f b f bk w h ln pg A)) := by
  obtain ⟨hbb, hsty, hbk0, hko, hst⟩ := id hcx
  have hbk : bk_at (n, ly_f b f bk w h ln pg A) bk B := hbk0.kept (ly_keep hbb)
  obtain ⟨ww, hwd, hwr⟩ := k_Book_words (G := G) hbk hko
  obtain ⟨t9, q9, hw, -⟩ := id hwd
  obtain ⟨xx1, xx2, xx3, hb, -⟩ := id hbk
  obtain ⟨hwo, k1, k2, k3⟩ := id hko
  obtain ⟨o1, o2, o3, o4⟩ := id hwo
  intro u
  induction u with
  | zero =>
    intro l h1 h2 hR

    refine ji_iload_n dX3_pageAt_7 rfl ?_
    refine ji_if_le (tgt := 36) dX3_pageAt_8 rfl (by omega) (fun c8 => ?_) (fun c8 => absurd c8 (by omega))
    refine ji_aload_n dX3_pageAt_36 rfl trivial ?_
    refine ji_iload_n dX3_pageAt_37 rfl ?_
    refine ji_cV dX3_pageAt_38 (k_Layout_pageOfLine hcx hA hl (by omega)) rfl (ly_0) rfl rfl wX3_pageOfLine vX3_pageOfLine lX3_173 rfl (Nat.le_of_ble_eq_true rfl) rfl ?_
    exact ji_ireturn dX3_pageAt_41 rfl (rfl) ⟨jr_i (by rw [hR, ly_pa, show l = 0 by omega]), rfl⟩
  | succ u ih =>
    intro l h1 h2 hR
    have g1 := ly_g_b (ln := ln) (hA 2) (df := bk_n B) (by omega) l
    have g2 := bk_ws_b hko (ly_g ln (A 2) (bk_n B) l)
    have g4 : wd_start (bk_m B) (bk_n B) (bk_s B) (ly_g ln (A 2) (bk_n B) l) = bk_ws B (ly_g ln (A 2) (bk_n B) l) := rfl
    have g3 : ((u + 1 : Nat) : Int) = l := by omega
    rw [ly_pa, g3] at hR

    refine ji_iload_n dX3_pageAt_7 rfl ?_
    refine ji_if_le (tgt := 36) dX3_pageAt_8 rfl (by omega) (fun c8 => absurd c8 (by omega)) (fun c8 => ?_)
    refine ji_aload_n dX3_pageAt_11 rfl trivial ?_
    refine ji_get (ci := 3) (k := 2) rfl dX3_pageAt_12 lX3_40 (by decide) (ly_0) rfl ?_
    refine ji_cV dX3_pageAt_15 (hwr) rfl (hb) rfl rfl wX0_words vX0_words lX3_80 rfl (Nat.le_of_ble_eq_true rfl) rfl ?_
    refine ji_aload_n dX3_pageAt_18 rfl trivial ?_
    refine ji_iload_n dX3_pageAt_19 rfl ?_
    refine ji_cV dX3_pageAt_20 (k_Layout_firstWordOfLine hcx hA hl (by omega)) rfl (ly_0) rfl rfl wX3_firstWordOfLine vX3_firstWordOfLine lX3_141 rfl (Nat.le_of_ble_eq_true rfl) rfl ?_
    refine ji_cV dX3_pageAt_23 (k_Words_startOf hwd hwo (by omega)) rfl (hw) rfl rfl wX6_startOf vX6_startOf lX3_150 rfl (Nat.le_of_ble_eq_true rfl) rfl ?_
    refine ji_iload_n dX3_pageAt_26 rfl ?_
    refine ji_icmp_le (tgt := 36) dX3_pageAt_27 rfl (by omega) (by omega) (fun c27 => ?_) (fun c27 => ?_)
    · refine ji_aload_n dX3_pageAt_36 rfl trivial ?_
      refine ji_iload_n dX3_pageAt_37 rfl ?_
      refine ji_cV dX3_pageAt_38 (k_Layout_pageOfLine hcx hA hl (by omega)) rfl (ly_0) rfl rfl wX3_pageOfLine vX3_pageOfLine lX3_173 rfl (Nat.le_of_ble_eq_true rfl) rfl ?_
      exact ji_ireturn dX3_pageAt_41 rfl (rfl) ⟨jr_i (by rw [hR, if_neg (by omega)]), rfl⟩
    · refine ji_iinc dX3_pageAt_30 (by decide) rfl rfl ?_
      refine ji_goto (tgt := 7) dX3_pageAt_33 rfl ?_
      exact ih _ (by omega) (by omega) (by rw [hR, if_pos (by omega)])

set_option maxHeartbeats 4000000 in
set_option maxRecDepth 100000 in
theorem k_Layout_pageAt (hcx : ly_cx n f b bk B sty) (hA : ∀ k j, -100000 ≤ A k j ∧ A k j ≤ 100000) (hl : 0 ≤ ln ∧ ln ≤ 240) {place : Int} (hp9 : -1000000 ≤ place ∧ place ≤ 1000000) (hl1 : 1 ≤ ln) : JR G (d + 2) mX3_pageAt [.ref b, .int (jI (place))] (n, ly_f b f bk w h ln pg A) 0 0 (some (.int (jI (ly_PA B ln A place)))) (n, ly_f b f bk w h ln pg A) := by
  obtain ⟨hbb, hsty, hbk0, hko, hst⟩ := id hcx
  have hbk : bk_at (n, ly_f b f bk w h ln pg A) bk B := hbk0.kept (ly_keep hbb)
  obtain ⟨ww, hwd, hwr⟩ := k_Book_words (G := G) hbk hko
  obtain ⟨t9, q9, hw, -⟩ := id hwd
  obtain ⟨xx1, xx2, xx3, hb, -⟩ := id hbk
  obtain ⟨hwo, k1, k2, k3⟩ := id hko
  obtain ⟨o1, o2, o3, o4⟩ := id hwo
  refine ji_ent (by decide) rfl (Nat.le_of_ble_eq_true rfl) rfl ?_
  refine ji_aload_n dX3_pageAt_0 rfl trivial ?_
  refine ji_get (ci := 3) (k := 6) rfl dX3_pageAt_1 lX3_86 (by decide) (ly_0) rfl ?_
  refine ji_iconst dX3_pageAt_4 ?_
  refine ji_isub dX3_pageAt_5 ?_
  refine ji_istore_n dX3_pageAt_6 (by decide) rfl ?_
  exact k_Layout_pageAt_loop hcx hA hl hp9 (ln - 1).toNat _ (by omega) (by omega) rfl

end MLayout
