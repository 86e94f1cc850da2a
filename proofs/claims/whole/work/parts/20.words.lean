/-! ===== Words ===== -/
def wd_at (h : ji_H) (w m n : Nat) (tx s : Nat → Int) : Prop := ∃ t q : Nat, h.2 w = .inl (6, [.ref t, .ref q]) ∧ h.2 t = .inr (.char, m, .inl tx) ∧ h.2 q = .inr (.int, n + 1, .inl s)
def wd_ok (m n : Nat) (tx s : Nat → Int) : Prop := m ≤ 10000 ∧ n ≤ 10000 ∧ (∀ j, 0 ≤ s j ∧ s j ≤ 10001) ∧ ∀ j, 0 ≤ tx j ∧ tx j < 128
def wd_start (m n : Nat) (s : Nat → Int) (k : Int) : Int := if 0 ≤ k ∧ k ≤ n then s k.toNat else m + 1
def wd_end (m n : Nat) (s : Nat → Int) (k : Int) : Int := if 0 ≤ k + 1 ∧ k + 1 ≤ n then s (k + 1).toNat - 1 else m
def wd_sign (m : Nat) (tx : Nat → Int) (k : Int) : Int := if 0 ≤ k ∧ k < m then tx k.toNat else 32
def wd_ref (m n : Nat) (tx s : Nat → Int) (k : Int) : Int := if wd_sign m tx (wd_end m n s k - 2) = 94 then wd_sign m tx (wd_end m n s k - 1) - 48 else -1
def wd_le (m n : Nat) (s : Nat → Int) (st room stop : Int) : Nat → Int → Int
  | 0, k => k
  | f + 1, k => if k < stop ∧ wd_end m n s k - st ≤ room then wd_le m n s st room stop f (k + 1) else k
/-- the first word that doesn't go on a line -/
def wd_LE (m n : Nat) (s : Nat → Int) (first stop room : Int) : Int := wd_le m n s (wd_start m n s first) room stop (stop - first).toNat (first + 1)
theorem wd_start_b {m n : Nat} {tx s : Nat → Int} (hk : wd_ok m n tx s) (k : Int) : 0 ≤ wd_start m n s k ∧ wd_start m n s k ≤ 10001 := by
  obtain ⟨h1, h2, h3, h4⟩ := hk
  unfold wd_start
  split
  · exact h3 _
  · omega
theorem wd_end_b {m n : Nat} {tx s : Nat → Int} (hk : wd_ok m n tx s) (k : Int) : -1 ≤ wd_end m n s k ∧ wd_end m n s k ≤ 10000 := by
  obtain ⟨h1, h2, h3, h4⟩ := hk
  unfold wd_end
  split
  · have := h3 (k + 1).toNat; omega
  · omega
theorem wd_sign_b {m n : Nat} {tx s : Nat → Int} (hk : wd_ok m n tx s) (k : Int) : 0 ≤ wd_sign m tx k ∧ wd_sign m tx k < 128 := by
  obtain ⟨h1, h2, h3, h4⟩ := hk
  unfold wd_sign
  split
  · exact h4 _
  · omega
section MWords
variable {G : ji_G} {d : Nat} {h : ji_H} {w m n : Nat} {tx s : Nat → Int}

set_option maxHeartbeats 4000000 in
set_option maxRecDepth 100000 in
theorem k_Words_size (hat : wd_at h w m n tx s) (hk : wd_ok m n tx s)  : JR G d mX6_size [.ref w] h 0 0 (some (.int (jI ((n : Int))))) h := by
  obtain ⟨t, q, hw, ht, hq⟩ := hat
  obtain ⟨k1, k2, k3, k4⟩ := id hk
  refine ji_ent (by decide) rfl (Nat.le_of_ble_eq_true rfl) rfl ?_
  refine ji_aload_n dX6_size_0 rfl trivial ?_
  refine ji_get (ci := 6) (k := 1) rfl dX6_size_1 lX6_15 (by decide) (hw) rfl ?_
  refine ji_alen dX6_size_4 (hq) (fun cy => rfl) ?_
  refine ji_iconst dX6_size_5 ?_
  refine ji_isub dX6_size_6 ?_
  exact ji_ireturn dX6_size_7 rfl (rfl) ⟨jr_i (by omega), rfl⟩

set_option maxHeartbeats 4000000 in
set_option maxRecDepth 100000 in
theorem k_Words_length (hat : wd_at h w m n tx s) (hk : wd_ok m n tx s)  : JR G d mX6_length [.ref w] h 0 0 (some (.int (jI ((m : Int))))) h := by
  obtain ⟨t, q, hw, ht, hq⟩ := hat
  obtain ⟨k1, k2, k3, k4⟩ := id hk
  refine ji_ent (by decide) rfl (Nat.le_of_ble_eq_true rfl) rfl ?_
  refine ji_aload_n dX6_length_0 rfl trivial ?_
  refine ji_get (ci := 6) (k := 0) rfl dX6_length_1 lX6_9 (by decide) (hw) rfl ?_
  refine ji_alen dX6_length_4 (ht) (fun cy => rfl) ?_
  exact ji_ireturn dX6_length_5 rfl (rfl) ⟨jr_i (by omega), rfl⟩

set_option maxHeartbeats 4000000 in
set_option maxRecDepth 100000 in
theorem k_Words_startOf (hat : wd_at h w m n tx s) (hk : wd_ok m n tx s) {k : Int} (hb : -1000000 ≤ k ∧ k ≤ 1000000) : JR G d mX6_startOf [.ref w, .int (jI k)] h 0 0 (some (.int (jI (wd_start m n s k)))) h := by
  obtain ⟨t, q, hw, ht, hq⟩ := hat
  obtain ⟨k1, k2, k3, k4⟩ := id hk
  refine ji_ent (by decide) rfl (Nat.le_of_ble_eq_true rfl) rfl ?_
  refine ji_iload_n dX6_startOf_0 rfl ?_
  refine ji_if_lt (tgt := 22) dX6_startOf_1 rfl (by omega) (fun c1 => ?_) (fun c1 => ?_)
  · refine ji_aload_n dX6_startOf_22 rfl trivial ?_
    refine ji_get (ci := 6) (k := 0) rfl dX6_startOf_23 lX6_9 (by decide) (hw) rfl ?_
    refine ji_alen dX6_startOf_26 (ht) (fun cy => rfl) ?_
    refine ji_iconst dX6_startOf_27 ?_
    refine ji_iadd dX6_startOf_28 ?_
    exact ji_ireturn dX6_startOf_29 rfl (rfl) ⟨jr_i (by unfold wd_start; first | (rw [if_pos (by omega)] <;> omega) | (rw [if_neg (by omega)] <;> omega)), rfl⟩
  · refine ji_iload_n dX6_startOf_4 rfl ?_
    refine ji_aload_n dX6_startOf_5 rfl trivial ?_
    refine ji_get (ci := 6) (k := 1) rfl dX6_startOf_6 lX6_15 (by decide) (hw) rfl ?_
    refine ji_alen dX6_startOf_9 (hq) (fun cy => rfl) ?_
    refine ji_icmp_ge (tgt := 22) dX6_startOf_10 rfl (by omega) (by omega) (fun c10 => ?_) (fun c10 => ?_)
    · refine ji_aload_n dX6_startOf_22 rfl trivial ?_
      refine ji_get (ci := 6) (k := 0) rfl dX6_startOf_23 lX6_9 (by decide) (hw) rfl ?_
      refine ji_alen dX6_startOf_26 (ht) (fun cy => rfl) ?_
      refine ji_iconst dX6_startOf_27 ?_
      refine ji_iadd dX6_startOf_28 ?_
      exact ji_ireturn dX6_startOf_29 rfl (rfl) ⟨jr_i (by unfold wd_start; first | (rw [if_pos (by omega)] <;> omega) | (rw [if_neg (by omega)] <;> omega)), rfl⟩
    · refine ji_aload_n dX6_startOf_13 rfl trivial ?_
      refine ji_get (ci := 6) (k := 1) rfl dX6_startOf_14 lX6_15 (by decide) (hw) rfl ?_
      refine ji_iload_n dX6_startOf_17 rfl ?_
      refine ji_iaload dX6_startOf_18 (hq) (by omega) ?_
      refine ji_goto (tgt := 29) dX6_startOf_19 rfl ?_
      exact ji_ireturn dX6_startOf_29 rfl (rfl) ⟨jr_i (by unfold wd_start; first | (rw [if_pos (by omega)] <;> omega) | (rw [if_neg (by omega)] <;> omega)), rfl⟩

set_option maxHeartbeats 4000000 in
set_option maxRecDepth 100000 in
theorem k_Words_endOf (hat : wd_at h w m n tx s) (hk : wd_ok m n tx s) {k : Int} (hb : -1000000 ≤ k ∧ k ≤ 1000000) : JR G d mX6_endOf [.ref w, .int (jI k)] h 0 0 (some (.int (jI (wd_end m n s k)))) h := by
  obtain ⟨t, q, hw, ht, hq⟩ := hat
  obtain ⟨k1, k2, k3, k4⟩ := id hk
  refine ji_ent (by decide) rfl (Nat.le_of_ble_eq_true rfl) rfl ?_
  refine ji_iload_n dX6_endOf_0 rfl ?_
  refine ji_iconst dX6_endOf_1 ?_
  refine ji_iadd dX6_endOf_2 ?_
  refine ji_istore_n dX6_endOf_3 (by decide) rfl ?_
  refine ji_iload_n dX6_endOf_4 rfl ?_
  refine ji_if_lt (tgt := 28) dX6_endOf_5 rfl (by omega) (fun c5 => ?_) (fun c5 => ?_)
  · refine ji_aload_n dX6_endOf_28 rfl trivial ?_
    refine ji_get (ci := 6) (k := 0) rfl dX6_endOf_29 lX6_9 (by decide) (hw) rfl ?_
    refine ji_alen dX6_endOf_32 (ht) (fun cy => rfl) ?_
    exact ji_ireturn dX6_endOf_33 rfl (rfl) ⟨jr_i (by unfold wd_end; first | (rw [if_pos (by omega)] <;> omega) | (rw [if_neg (by omega)] <;> omega)), rfl⟩
  · refine ji_iload_n dX6_endOf_8 rfl ?_
    refine ji_aload_n dX6_endOf_9 rfl trivial ?_
    refine ji_get (ci := 6) (k := 1) rfl dX6_endOf_10 lX6_15 (by decide) (hw) rfl ?_
    refine ji_alen dX6_endOf_13 (hq) (fun cy => rfl) ?_
    refine ji_icmp_ge (tgt := 28) dX6_endOf_14 rfl (by omega) (by omega) (fun c14 => ?_) (fun c14 => ?_)
    · refine ji_aload_n dX6_endOf_28 rfl trivial ?_
      refine ji_get (ci := 6) (k := 0) rfl dX6_endOf_29 lX6_9 (by decide) (hw) rfl ?_
      refine ji_alen dX6_endOf_32 (ht) (fun cy => rfl) ?_
      exact ji_ireturn dX6_endOf_33 rfl (rfl) ⟨jr_i (by unfold wd_end; first | (rw [if_pos (by omega)] <;> omega) | (rw [if_neg (by omega)] <;> omega)), rfl⟩
    · refine ji_aload_n dX6_endOf_17 rfl trivial ?_
      refine ji_get (ci := 6) (k := 1) rfl dX6_endOf_18 lX6_15 (by decide) (hw) rfl ?_
      refine ji_iload_n dX6_endOf_21 rfl ?_
      refine ji_iaload dX6_endOf_22 (hq) (by omega) ?_
      refine ji_iconst dX6_endOf_23 ?_
      refine ji_isub dX6_endOf_24 ?_
      refine ji_goto (tgt := 33) dX6_endOf_25 rfl ?_
      exact ji_ireturn dX6_endOf_33 rfl (rfl) ⟨jr_i (by unfold wd_end; first | (rw [if_pos (by omega)] <;> omega) | (rw [if_neg (by omega)] <;> omega)), rfl⟩

set_option maxHeartbeats 4000000 in
set_option maxRecDepth 100000 in
theorem k_Words_signAt (hat : wd_at h w m n tx s) (hk : wd_ok m n tx s) {k : Int} (hb : -1000000 ≤ k ∧ k ≤ 1000000) : JR G d mX6_signAt [.ref w, .int (jI k)] h 0 0 (some (.int (jI (wd_sign m tx k)))) h := by
  obtain ⟨t, q, hw, ht, hq⟩ := hat
  obtain ⟨k1, k2, k3, k4⟩ := id hk
  refine ji_ent (by decide) rfl (Nat.le_of_ble_eq_true rfl) rfl ?_
  refine ji_iload_n dX6_signAt_0 rfl ?_
  refine ji_if_lt (tgt := 22) dX6_signAt_1 rfl (by omega) (fun c1 => ?_) (fun c1 => ?_)
  · refine ji_bipush dX6_signAt_22 rfl ?_
    exact ji_ireturn dX6_signAt_24 rfl (rfl) ⟨jr_i (by unfold wd_sign; first | (rw [if_pos (by omega)] <;> omega) | (rw [if_neg (by omega)] <;> omega)), rfl⟩
  · refine ji_iload_n dX6_signAt_4 rfl ?_
    refine ji_aload_n dX6_signAt_5 rfl trivial ?_
    refine ji_get (ci := 6) (k := 0) rfl dX6_signAt_6 lX6_9 (by decide) (hw) rfl ?_
    refine ji_alen dX6_signAt_9 (ht) (fun cy => rfl) ?_
    refine ji_icmp_ge (tgt := 22) dX6_signAt_10 rfl (by omega) (by omega) (fun c10 => ?_) (fun c10 => ?_)
    · refine ji_bipush dX6_signAt_22 rfl ?_
      exact ji_ireturn dX6_signAt_24 rfl (rfl) ⟨jr_i (by unfold wd_sign; first | (rw [if_pos (by omega)] <;> omega) | (rw [if_neg (by omega)] <;> omega)), rfl⟩
    · refine ji_aload_n dX6_signAt_13 rfl trivial ?_
      refine ji_get (ci := 6) (k := 0) rfl dX6_signAt_14 lX6_9 (by decide) (hw) rfl ?_
      refine ji_iload_n dX6_signAt_17 rfl ?_
      refine ji_caload dX6_signAt_18 (ht) (by omega) ?_
      refine ji_goto (tgt := 24) dX6_signAt_19 rfl ?_
      exact ji_ireturn dX6_signAt_24 rfl (rfl) ⟨jr_i (by unfold wd_sign; first | (rw [if_pos (by omega)] <;> omega) | (rw [if_neg (by omega)] <;> omega)), rfl⟩

set_option maxHeartbeats 4000000 in
set_option maxRecDepth 100000 in
theorem k_Words_referenceOf (hat : wd_at h w m n tx s) (hk : wd_ok m n tx s) {k : Int} (hb : -1000000 ≤ k ∧ k ≤ 1000000) : JR G (d + 1) mX6_referenceOf [.ref w, .int (jI k)] h 0 0 (some (.int (jI (wd_ref m n tx s k)))) h := by
  have hat0 := hat
  obtain ⟨t, q, hw, ht, hq⟩ := hat
  obtain ⟨k1, k2, k3, k4⟩ := id hk
  have b1 := wd_end_b hk k
  have b2 := wd_sign_b hk (wd_end m n s k - 2)
  have b3 := wd_sign_b hk (wd_end m n s k - 1)
  refine ji_ent (by decide) rfl (Nat.le_of_ble_eq_true rfl) rfl ?_
  refine ji_aload_n dX6_referenceOf_0 rfl trivial ?_
  refine ji_iload_n dX6_referenceOf_1 rfl ?_
  refine ji_cV dX6_referenceOf_2 (k_Words_endOf hat0 hk (by omega)) rfl (hw) rfl rfl wX6_endOf vX6_endOf lX6_19 rfl (Nat.le_of_ble_eq_true rfl) rfl ?_
  refine ji_istore_n dX6_referenceOf_5 (by decide) rfl ?_
  refine ji_aload_n dX6_referenceOf_6 rfl trivial ?_
  refine ji_iload_n dX6_referenceOf_7 rfl ?_
  refine ji_iconst dX6_referenceOf_8 ?_
  refine ji_isub dX6_referenceOf_9 ?_
  refine ji_cV dX6_referenceOf_10 (k_Words_signAt hat0 hk (by omega)) rfl (hw) rfl rfl wX6_signAt vX6_signAt lX6_23 rfl (Nat.le_of_ble_eq_true rfl) rfl ?_
  refine ji_bipush dX6_referenceOf_13 rfl ?_
  refine ji_icmp_ne (tgt := 31) dX6_referenceOf_15 rfl (by omega) (by omega) (fun c15 => ?_) (fun c15 => ?_)
  · refine ji_iconst dX6_referenceOf_31 ?_
    exact ji_ireturn dX6_referenceOf_32 rfl (rfl) ⟨jr_i (by unfold wd_ref; first | (rw [if_pos (by omega)] <;> omega) | (rw [if_neg (by omega)] <;> omega)), rfl⟩
  · refine ji_aload_n dX6_referenceOf_18 rfl trivial ?_
    refine ji_iload_n dX6_referenceOf_19 rfl ?_
    refine ji_iconst dX6_referenceOf_20 ?_
    refine ji_isub dX6_referenceOf_21 ?_
    refine ji_cV dX6_referenceOf_22 (k_Words_signAt hat0 hk (by omega)) rfl (hw) rfl rfl wX6_signAt vX6_signAt lX6_23 rfl (Nat.le_of_ble_eq_true rfl) rfl ?_
    refine ji_bipush dX6_referenceOf_25 rfl ?_
    refine ji_isub dX6_referenceOf_27 ?_
    refine ji_goto (tgt := 32) dX6_referenceOf_28 rfl ?_
    exact ji_ireturn dX6_referenceOf_32 rfl (rfl) ⟨jr_i (by unfold wd_ref; first | (rw [if_pos (by omega)] <;> omega) | (rw [if_neg (by omega)] <;> omega)), rfl⟩

-- lineEnd
set_option maxHeartbeats 4000000 in
set_option maxRecDepth 100000 in
theorem k_Words_lineEnd_loop (hat : wd_at h w m n tx s) (hk : wd_ok m n tx s) {first stop room st R : Int} (b1 : -1000000 ≤ stop ∧ stop ≤ 1000000) (b2 : -1000000 ≤ room ∧ room ≤ 1000000) (b3 : 0 ≤ st ∧ st ≤ 10001) : ∀ (f : Nat) (k : Int), -1000000 ≤ k ∧ k ≤ 2000000 → stop - k ≤ f → R = wd_le m n s st room stop f k →
    JW G (d + 1) mX6_lineEnd 12 [some (.ref w), some (.int (jI first)), some (.int (jI stop)), some (.int (jI room)), some (.int (jI st)), some (.int (jI k))] [] h 0 0 (fun r h' => r = .inl (some (.int (jI R))) ∧ h' = h) := by
  have hat0 := hat
  obtain ⟨t, q, hw, ht, hq⟩ := hat
  obtain ⟨k1, k2, k3, k4⟩ := id hk
  intro f
  induction f with
  | zero =>
    intro k hk1 hk2 hR

    refine ji_iload dX6_lineEnd_12 rfl ?_
    refine ji_iload_n dX6_lineEnd_14 rfl ?_
    refine ji_icmp_ge (tgt := 37) dX6_lineEnd_15 rfl (by omega) (by omega) (fun c15 => ?_) (fun c15 => absurd c15 (by omega))
    refine ji_iload dX6_lineEnd_37 rfl ?_
    exact ji_ireturn dX6_lineEnd_39 rfl (rfl) ⟨jr_i (by rw [hR]; rfl), rfl⟩
  | succ f ih =>
    intro k hk1 hk2 hR
    have b4 := wd_end_b hk k

    refine ji_iload dX6_lineEnd_12 rfl ?_
    refine ji_iload_n dX6_lineEnd_14 rfl ?_
    refine ji_icmp_ge (tgt := 37) dX6_lineEnd_15 rfl (by omega) (by omega) (fun c15 => ?_) (fun c15 => ?_)
    · refine ji_iload dX6_lineEnd_37 rfl ?_
      exact ji_ireturn dX6_lineEnd_39 rfl (rfl) ⟨jr_i (by rw [hR, wd_le, if_neg (by omega)]), rfl⟩
    · refine ji_aload_n dX6_lineEnd_18 rfl trivial ?_
      refine ji_iload dX6_lineEnd_19 rfl ?_
      refine ji_cV dX6_lineEnd_21 (k_Words_endOf hat0 hk (by omega)) rfl (hw) rfl rfl wX6_endOf vX6_endOf lX6_19 rfl (Nat.le_of_ble_eq_true rfl) rfl ?_
      refine ji_iload dX6_lineEnd_24 rfl ?_
      refine ji_isub dX6_lineEnd_26 ?_
      refine ji_iload_n dX6_lineEnd_27 rfl ?_
      refine ji_icmp_gt (tgt := 37) dX6_lineEnd_28 rfl (by omega) (by omega) (fun c28 => ?_) (fun c28 => ?_)
      · refine ji_iload dX6_lineEnd_37 rfl ?_
        exact ji_ireturn dX6_lineEnd_39 rfl (rfl) ⟨jr_i (by rw [hR, wd_le, if_neg (by omega)]), rfl⟩
      · refine ji_iinc dX6_lineEnd_31 (by decide) rfl rfl ?_
        refine ji_goto (tgt := 12) dX6_lineEnd_34 rfl ?_
        exact ih (k + 1) (by omega) (by omega) (by rw [hR, wd_le, if_pos ⟨by omega, by omega⟩])

set_option maxHeartbeats 4000000 in
set_option maxRecDepth 100000 in
theorem k_Words_lineEnd (hat : wd_at h w m n tx s) (hk : wd_ok m n tx s) {first stop room : Int} (b0 : -100000 ≤ first ∧ first ≤ 100000) (b1 : -100000 ≤ stop ∧ stop ≤ 100000) (b2 : -1000000 ≤ room ∧ room ≤ 1000000) : JR G (d + 1) mX6_lineEnd [.ref w, .int (jI first), .int (jI stop), .int (jI room)] h 0 0 (some (.int (jI (wd_LE m n s first stop room)))) h := by
  have hat0 := hat
  obtain ⟨t, q, hw, ht, hq⟩ := hat
  obtain ⟨k1, k2, k3, k4⟩ := id hk
  refine ji_ent (by decide) rfl (Nat.le_of_ble_eq_true rfl) rfl ?_
  refine ji_aload_n dX6_lineEnd_0 rfl trivial ?_
  refine ji_iload_n dX6_lineEnd_1 rfl ?_
  refine ji_cV dX6_lineEnd_2 (k_Words_startOf hat0 hk (by omega)) rfl (hw) rfl rfl wX6_startOf vX6_startOf lX6_26 rfl (Nat.le_of_ble_eq_true rfl) rfl ?_
  refine ji_istore dX6_lineEnd_5 (by decide) rfl ?_
  refine ji_iload_n dX6_lineEnd_7 rfl ?_
  refine ji_iconst dX6_lineEnd_8 ?_
  refine ji_iadd dX6_lineEnd_9 ?_
  refine ji_istore dX6_lineEnd_10 (by decide) rfl ?_
  exact k_Words_lineEnd_loop hat0 hk (by omega) (by omega) (by have := wd_start_b hk first; omega) (stop - first).toNat (first + 1) (by omega) (by omega) rfl

theorem wd_le_b (m n : Nat) (s : Nat → Int) (st room stop : Int) : ∀ (f : Nat) (k : Int), k ≤ wd_le m n s st room stop f k ∧ (wd_le m n s st room stop f k ≤ max k stop)
  | 0, k => by unfold wd_le; omega
  | f + 1, k => by
    unfold wd_le
    split
    · have := wd_le_b m n s st room stop f (k + 1); omega
    · omega
theorem wd_LE_b (m n : Nat) (s : Nat → Int) (first stop room : Int) : first + 1 ≤ wd_LE m n s first stop room ∧ wd_LE m n s first stop room ≤ max (first + 1) stop := wd_le_b m n s _ room stop _ (first + 1)
def wd_fol (m n : Nat) (s : Nat → Int) (room : Int) : Nat → Int → Int
  | 0, first => first
  | f + 1, first => if first < n then wd_fol m n s room f (wd_LE m n s first n room) else first
def wd_lw (m n : Nat) (s : Nat → Int) (room : Int) : Nat → Int → Int → Int
  | 0, _, lines => lines
  | f + 1, first, lines => if first < n ∧ lines < n then wd_lw m n s room f (wd_LE m n s first n room) (lines + 1) else lines
def wd_sol (m n : Nat) (tx s : Nat → Int) (first stop indent column : Int) : Int := if indent ≤ column ∧ wd_start m n s first + column - indent < wd_end m n s (stop - 1) then wd_sign m tx (wd_start m n s first + column - indent) else 32

set_option maxHeartbeats 4000000 in
set_option maxRecDepth 100000 in
theorem k_Words_firstOfLine_loop (hat : wd_at h w m n tx s) (hk : wd_ok m n tx s) {line room R : Int} (b1 : 0 ≤ line ∧ line ≤ 100000) (b2 : -1000000 ≤ room ∧ room ≤ 1000000) : ∀ (f : Nat) (first passed : Int), 0 ≤ first ∧ first ≤ 20000 → 0 ≤ passed → passed + f = line → R = wd_fol m n s room f first →
    JW G (d + 2) mX6_firstOfLine 5 [some (.ref w), some (.int (jI line)), some (.int (jI room)), some (.int (jI first)), some (.int (jI passed))] [] h 0 0 (fun r h' => r = .inl (some (.int (jI R))) ∧ h' = h) := by
  have hat0 := hat
  obtain ⟨t, q, hw, ht, hq⟩ := hat
  obtain ⟨k1, k2, k3, k4⟩ := id hk
  intro f
  induction f with
  | zero =>
    intro first passed h1 h2 h3 hR

    refine ji_iload dX6_firstOfLine_5 rfl ?_
    refine ji_iload_n dX6_firstOfLine_7 rfl ?_
    refine ji_icmp_ge (tgt := 36) dX6_firstOfLine_8 rfl (by omega) (by omega) (fun c8 => ?_) (fun c8 => absurd c8 (by omega))
    refine ji_iload_n dX6_firstOfLine_36 rfl ?_
    exact ji_ireturn dX6_firstOfLine_37 rfl (rfl) ⟨jr_i (by rw [hR]; rfl), rfl⟩
  | succ f ih =>
    intro first passed h1 h2 h3 hR
    have b5 := wd_LE_b m n s first n room

    refine ji_iload dX6_firstOfLine_5 rfl ?_
    refine ji_iload_n dX6_firstOfLine_7 rfl ?_
    refine ji_icmp_ge (tgt := 36) dX6_firstOfLine_8 rfl (by omega) (by omega) (fun c8 => absurd c8 (by omega)) (fun c8 => ?_)
    refine ji_iload_n dX6_firstOfLine_11 rfl ?_
    refine ji_aload_n dX6_firstOfLine_12 rfl trivial ?_
    refine ji_cV dX6_firstOfLine_13 (k_Words_size hat0 hk) rfl (hw) rfl rfl wX6_size vX6_size lX6_29 rfl (Nat.le_of_ble_eq_true rfl) rfl ?_
    refine ji_icmp_ge (tgt := 36) dX6_firstOfLine_16 rfl (by omega) (by omega) (fun c16 => ?_) (fun c16 => ?_)
    · refine ji_iload_n dX6_firstOfLine_36 rfl ?_
      exact ji_ireturn dX6_firstOfLine_37 rfl (rfl) ⟨jr_i (by rw [hR, wd_fol, if_neg (by omega)]), rfl⟩
    · refine ji_aload_n dX6_firstOfLine_19 rfl trivial ?_
      refine ji_iload_n dX6_firstOfLine_20 rfl ?_
      refine ji_aload_n dX6_firstOfLine_21 rfl trivial ?_
      refine ji_cV dX6_firstOfLine_22 (k_Words_size hat0 hk) rfl (hw) rfl rfl wX6_size vX6_size lX6_29 rfl (Nat.le_of_ble_eq_true rfl) rfl ?_
      refine ji_iload_n dX6_firstOfLine_25 rfl ?_
      refine ji_cV dX6_firstOfLine_26 (k_Words_lineEnd hat0 hk (by omega) (by omega) (by omega)) rfl (hw) rfl rfl wX6_lineEnd vX6_lineEnd lX6_33 rfl (Nat.le_of_ble_eq_true rfl) rfl ?_
      refine ji_istore_n dX6_firstOfLine_29 (by decide) rfl ?_
      refine ji_iinc dX6_firstOfLine_30 (by decide) rfl rfl ?_
      refine ji_goto (tgt := 5) dX6_firstOfLine_33 rfl ?_
      exact ih _ _ (by omega) (by omega) (by omega) (by rw [hR, wd_fol, if_pos (by omega)])

set_option maxHeartbeats 4000000 in
set_option maxRecDepth 100000 in
theorem k_Words_firstOfLine (hat : wd_at h w m n tx s) (hk : wd_ok m n tx s) {line room : Int} (b1 : 0 ≤ line ∧ line ≤ 100000) (b2 : -1000000 ≤ room ∧ room ≤ 1000000) : JR G (d + 2) mX6_firstOfLine [.ref w, .int (jI (line)), .int (jI (room))] h 0 0 (some (.int (jI (wd_fol m n s room line.toNat 0)))) h := by
  have hat0 := hat
  obtain ⟨t, q, hw, ht, hq⟩ := hat
  obtain ⟨k1, k2, k3, k4⟩ := id hk
  refine ji_ent (by decide) rfl (Nat.le_of_ble_eq_true rfl) rfl ?_
  refine ji_iconst dX6_firstOfLine_0 ?_
  refine ji_istore_n dX6_firstOfLine_1 (by decide) rfl ?_
  refine ji_iconst dX6_firstOfLine_2 ?_
  refine ji_istore dX6_firstOfLine_3 (by decide) rfl ?_
  exact k_Words_firstOfLine_loop hat0 hk b1 b2 line.toNat 0 0 (by omega) (by omega) (by omega) rfl

set_option maxHeartbeats 4000000 in
set_option maxRecDepth 100000 in
theorem k_Words_linesWithin_loop (hat : wd_at h w m n tx s) (hk : wd_ok m n tx s) {room R : Int} (b2 : -1000000 ≤ room ∧ room ≤ 1000000) : ∀ (f : Nat) (first lines : Int), 0 ≤ first ∧ first ≤ 20000 → 0 ≤ lines → (n : Int) ≤ lines + f → lines ≤ n → R = wd_lw m n s room f first lines →
    JW G (d + 2) mX6_linesWithin 4 [some (.ref w), some (.int (jI room)), some (.int (jI lines)), some (.int (jI first))] [] h 0 0 (fun r h' => r = .inl (some (.int (jI R))) ∧ h' = h) := by
  have hat0 := hat
  obtain ⟨t, q, hw, ht, hq⟩ := hat
  obtain ⟨k1, k2, k3, k4⟩ := id hk
  intro f
  induction f with
  | zero =>
    intro first lines h1 h2 h3 h4 hR

    refine ji_iload_n dX6_linesWithin_4 rfl ?_
    refine ji_aload_n dX6_linesWithin_5 rfl trivial ?_
    refine ji_cV dX6_linesWithin_6 (k_Words_size hat0 hk) rfl (hw) rfl rfl wX6_size vX6_size lX6_29 rfl (Nat.le_of_ble_eq_true rfl) rfl ?_
    refine ji_icmp_ge (tgt := 37) dX6_linesWithin_9 rfl (by omega) (by omega) (fun c9 => ?_) (fun c9 => ?_)
    · refine ji_iload_n dX6_linesWithin_37 rfl ?_
      exact ji_ireturn dX6_linesWithin_38 rfl (rfl) ⟨jr_i (by rw [hR]; rfl), rfl⟩
    · refine ji_iload_n dX6_linesWithin_12 rfl ?_
      refine ji_aload_n dX6_linesWithin_13 rfl trivial ?_
      refine ji_cV dX6_linesWithin_14 (k_Words_size hat0 hk) rfl (hw) rfl rfl wX6_size vX6_size lX6_29 rfl (Nat.le_of_ble_eq_true rfl) rfl ?_
      refine ji_icmp_ge (tgt := 37) dX6_linesWithin_17 rfl (by omega) (by omega) (fun c17 => ?_) (fun c17 => absurd c17 (by omega))
      refine ji_iload_n dX6_linesWithin_37 rfl ?_
      exact ji_ireturn dX6_linesWithin_38 rfl (rfl) ⟨jr_i (by rw [hR]; rfl), rfl⟩
  | succ f ih =>
    intro first lines h1 h2 h3 h4 hR
    have b5 := wd_LE_b m n s first n room

    refine ji_iload_n dX6_linesWithin_4 rfl ?_
    refine ji_aload_n dX6_linesWithin_5 rfl trivial ?_
    refine ji_cV dX6_linesWithin_6 (k_Words_size hat0 hk) rfl (hw) rfl rfl wX6_size vX6_size lX6_29 rfl (Nat.le_of_ble_eq_true rfl) rfl ?_
    refine ji_icmp_ge (tgt := 37) dX6_linesWithin_9 rfl (by omega) (by omega) (fun c9 => ?_) (fun c9 => ?_)
    · refine ji_iload_n dX6_linesWithin_37 rfl ?_
      exact ji_ireturn dX6_linesWithin_38 rfl (rfl) ⟨jr_i (by rw [hR, wd_lw, if_neg (by omega)]), rfl⟩
    · refine ji_iload_n dX6_linesWithin_12 rfl ?_
      refine ji_aload_n dX6_linesWithin_13 rfl trivial ?_
      refine ji_cV dX6_linesWithin_14 (k_Words_size hat0 hk) rfl (hw) rfl rfl wX6_size vX6_size lX6_29 rfl (Nat.le_of_ble_eq_true rfl) rfl ?_
      refine ji_icmp_ge (tgt := 37) dX6_linesWithin_17 rfl (by omega) (by omega) (fun c17 => ?_) (fun c17 => ?_)
      · refine ji_iload_n dX6_linesWithin_37 rfl ?_
        exact ji_ireturn dX6_linesWithin_38 rfl (rfl) ⟨jr_i (by rw [hR, wd_lw, if_neg (by omega)]), rfl⟩
      · refine ji_aload_n dX6_linesWithin_20 rfl trivial ?_
        refine ji_iload_n dX6_linesWithin_21 rfl ?_
        refine ji_aload_n dX6_linesWithin_22 rfl trivial ?_
        refine ji_cV dX6_linesWithin_23 (k_Words_size hat0 hk) rfl (hw) rfl rfl wX6_size vX6_size lX6_29 rfl (Nat.le_of_ble_eq_true rfl) rfl ?_
        refine ji_iload_n dX6_linesWithin_26 rfl ?_
        refine ji_cV dX6_linesWithin_27 (k_Words_lineEnd hat0 hk (by omega) (by omega) (by omega)) rfl (hw) rfl rfl wX6_lineEnd vX6_lineEnd lX6_33 rfl (Nat.le_of_ble_eq_true rfl) rfl ?_
        refine ji_istore_n dX6_linesWithin_30 (by decide) rfl ?_
        refine ji_iinc dX6_linesWithin_31 (by decide) rfl rfl ?_
        refine ji_goto (tgt := 4) dX6_linesWithin_34 rfl ?_
        exact ih _ _ (by omega) (by omega) (by omega) (by omega) (by rw [hR, wd_lw, if_pos (by omega)])

set_option maxHeartbeats 4000000 in
set_option maxRecDepth 100000 in
theorem k_Words_linesWithin (hat : wd_at h w m n tx s) (hk : wd_ok m n tx s) {room : Int} (b2 : -1000000 ≤ room ∧ room ≤ 1000000) : JR G (d + 2) mX6_linesWithin [.ref w, .int (jI (room))] h 0 0 (some (.int (jI (wd_lw m n s room n 0 0)))) h := by
  have hat0 := hat
  obtain ⟨t, q, hw, ht, hq⟩ := hat
  obtain ⟨k1, k2, k3, k4⟩ := id hk
  refine ji_ent (by decide) rfl (Nat.le_of_ble_eq_true rfl) rfl ?_
  refine ji_iconst dX6_linesWithin_0 ?_
  refine ji_istore_n dX6_linesWithin_1 (by decide) rfl ?_
  refine ji_iconst dX6_linesWithin_2 ?_
  refine ji_istore_n dX6_linesWithin_3 (by decide) rfl ?_
  exact k_Words_linesWithin_loop hat0 hk b2 n 0 0 (by omega) (by omega) (by omega) (by omega) rfl

set_option maxHeartbeats 4000000 in
set_option maxRecDepth 100000 in
theorem k_Words_signOfLine (hat : wd_at h w m n tx s) (hk : wd_ok m n tx s) {first stop indent column : Int} (b1 : -100000 ≤ first ∧ first ≤ 100000) (b2 : -100000 ≤ stop ∧ stop ≤ 100000) (b3 : -100000 ≤ indent ∧ indent ≤ 100000) (b4 : -100000 ≤ column ∧ column ≤ 100000) : JR G (d + 1) mX6_signOfLine [.ref w, .int (jI (first)), .int (jI (stop)), .int (jI (indent)), .int (jI (column))] h 0 0 (some (.int (jI (wd_sol m n tx s first stop indent column)))) h := by
  have hat0 := hat
  obtain ⟨t, q, hw, ht, hq⟩ := hat
  obtain ⟨k1, k2, k3, k4⟩ := id hk
  have q1 := wd_start_b hk first
  have q2 := wd_end_b hk (stop - 1)
  refine ji_ent (by decide) rfl (Nat.le_of_ble_eq_true rfl) rfl ?_
  refine ji_aload_n dX6_signOfLine_0 rfl trivial ?_
  refine ji_iload_n dX6_signOfLine_1 rfl ?_
  refine ji_cV dX6_signOfLine_2 (k_Words_startOf hat0 hk (by omega)) rfl (hw) rfl rfl wX6_startOf vX6_startOf lX6_26 rfl (Nat.le_of_ble_eq_true rfl) rfl ?_
  refine ji_iload dX6_signOfLine_5 rfl ?_
  refine ji_iadd dX6_signOfLine_7 ?_
  refine ji_iload_n dX6_signOfLine_8 rfl ?_
  refine ji_isub dX6_signOfLine_9 ?_
  refine ji_istore dX6_signOfLine_10 (by decide) rfl ?_
  refine ji_iload dX6_signOfLine_12 rfl ?_
  refine ji_iload_n dX6_signOfLine_14 rfl ?_
  refine ji_icmp_lt (tgt := 39) dX6_signOfLine_15 rfl (by omega) (by omega) (fun c15 => ?_) (fun c15 => ?_)
  · refine ji_bipush dX6_signOfLine_39 rfl ?_
    exact ji_ireturn dX6_signOfLine_41 rfl (rfl) ⟨jr_i (by unfold wd_sol; first | (rw [if_pos (by omega)] <;> omega) | (rw [if_neg (by omega)] <;> omega)), rfl⟩
  · refine ji_iload dX6_signOfLine_18 rfl ?_
    refine ji_aload_n dX6_signOfLine_20 rfl trivial ?_
    refine ji_iload_n dX6_signOfLine_21 rfl ?_
    refine ji_iconst dX6_signOfLine_22 ?_
    refine ji_isub dX6_signOfLine_23 ?_
    refine ji_cV dX6_signOfLine_24 (k_Words_endOf hat0 hk (by omega)) rfl (hw) rfl rfl wX6_endOf vX6_endOf lX6_19 rfl (Nat.le_of_ble_eq_true rfl) rfl ?_
    refine ji_icmp_ge (tgt := 39) dX6_signOfLine_27 rfl (by omega) (by omega) (fun c27 => ?_) (fun c27 => ?_)
    · refine ji_bipush dX6_signOfLine_39 rfl ?_
      exact ji_ireturn dX6_signOfLine_41 rfl (rfl) ⟨jr_i (by unfold wd_sol; first | (rw [if_pos (by omega)] <;> omega) | (rw [if_neg (by omega)] <;> omega)), rfl⟩
    · refine ji_aload_n dX6_signOfLine_30 rfl trivial ?_
      refine ji_iload dX6_signOfLine_31 rfl ?_
      refine ji_cV dX6_signOfLine_33 (k_Words_signAt hat0 hk (by omega)) rfl (hw) rfl rfl wX6_signAt vX6_signAt lX6_23 rfl (Nat.le_of_ble_eq_true rfl) rfl ?_
      refine ji_goto (tgt := 41) dX6_signOfLine_36 rfl ?_
      exact ji_ireturn dX6_signOfLine_41 rfl (rfl) ⟨jr_i (by unfold wd_sol; first | (rw [if_pos (by omega)] <;> omega) | (rw [if_neg (by omega)] <;> omega)), rfl⟩

end MWords
