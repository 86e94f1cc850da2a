/-! ===== Words ===== -/
theorem ji_ao {G : ji_G} {C : String} (hC : C ∈ [RX6, RX0, RX4]) (U : State) (hW : G.1.WarmedH U.vm) (hG : ji_OK G) : va_AO C U := va_AO.moved hW.alike (hG.2.2.2.2.2.2.2.2.2.2.2.2.2.2 C hC)
/-- places whose cells never change once they are made -/
def ji_dy (a : Nat) : Prop := (6 ≤ a ∧ a ≤ 11) ∨ 72 ≤ a
def wd_at (h : ji_H) (w m n : Nat) (tx s : Nat → Int) : Prop := ∃ t q : Nat, h.2 w = .inl (6, [.ref t, .ref q]) ∧ h.2 t = .inr (.char, m, .inl tx) ∧ h.2 q = .inr (.int, n + 1, .inl s) ∧ (ji_dy w ∧ ji_dy t ∧ ji_dy q) ∧ w < h.1 ∧ t < h.1 ∧ q < h.1
/-- what was made stays -/
def ji_keep (h h' : ji_H) : Prop := h.1 ≤ h'.1 ∧ ∀ a, ji_dy a → a < h.1 → h'.2 a = h.2 a
theorem ji_keep.refl (h : ji_H) : ji_keep h h := ⟨Nat.le_refl _, fun _ _ _ => rfl⟩
theorem ji_keep.trans {h1 h2 h3 : ji_H} (a : ji_keep h1 h2) (b : ji_keep h2 h3) : ji_keep h1 h3 := ⟨Nat.le_trans a.1 b.1, fun q hq hl => (b.2 q hq (Nat.lt_of_lt_of_le hl a.1)).trans (a.2 q hq hl)⟩
theorem wd_at.kept {h h' : ji_H} {w m n : Nat} {tx s : Nat → Int} (hw : wd_at h w m n tx s) (hk : ji_keep h h') : wd_at h' w m n tx s := by
  obtain ⟨t, q, h1, h2, h3, ⟨d1, d2, d3⟩, l1, l2, l3⟩ := hw
  have := hk.1
  exact ⟨t, q, by rw [hk.2 _ d1 l1]; exact h1, by rw [hk.2 _ d2 l2]; exact h2, by rw [hk.2 _ d3 l3]; exact h3, ⟨d1, d2, d3⟩, by omega, by omega, by omega⟩
def wd_ok (m n : Nat) (tx s : Nat → Int) : Prop := m ≤ 10000 ∧ n ≤ 10000 ∧ (∀ j, 0 ≤ s j ∧ s j ≤ 10001) ∧ ∀ j, 0 ≤ tx j ∧ tx j < 128
def wd_start (m n : Nat) (s : Nat → Int) (k : Int) : Int := if 0 ≤ k ∧ k ≤ n then s k.toNat else m + 1
def wd_end (m n : Nat) (s : Nat → Int) (k : Int) : Int := if 0 ≤ k + 1 ∧ k + 1 ≤ n then s (k + 1).toNat - 1 else m
def wd_sign (m : Nat) (tx : Nat → Int) (k : Int) : Int := if 0 ≤ k ∧ k < m then tx k.toNat else 32
def wd_ref (m n : Nat) (tx s : Nat → Int) (k : Int) : Int := if wd_sign m tx (wd_end m n s k - 2) = 94 then wd_sign m tx (wd_end m n s k - 1) - 48 else -1
def wd_le (m n : Nat) (s : Nat → Int) (st room stop : Int) : Nat → Int → Int
  | 0, k => k
  | f + 1, k => if k < stop ∧ wd_end m n s k - st ≤ room then wd_le m n s st room stop f (k + 1) else k
/-- the first word that doesn't go on a line -/
def wd_LE (m n : Nat) (s : Nat → Int) (first stop room : Int) : Int := wd_le m n s (wd_start m n s first) room stop (stop - first).toNat (first + 1)
theorem wd_start_b {m n : Nat} {tx s : Nat → Int} (hk : wd_ok m n tx s) (k : Int) : 0 ≤ wd_start m n s k ∧ wd_start m n s k ≤ 10001 := by
  obtain ⟨h1, h2, h3, h4⟩ := hk
  unfold wd_start
  split
  · exact h3 _
  · omega
theorem wd_end_b {m n : Nat} {tx s : Nat → Int} (hk : wd_ok m n tx s) (k : Int) : -1 ≤ wd_end m n s k ∧ wd_end m n s k ≤ 10000 := by
  obtain ⟨h1, h2, h3, h4⟩ := hk
  unfold wd_end
  split
  · have := h3 (k + 1).toNat; omega
  · omega
theorem wd_sign_b {m n : Nat} {tx s : Nat → Int} (hk : wd_ok m n tx s) (k : Int) : 0 ≤ wd_sign m tx k ∧ wd_sign m tx k < 128 := by
  obtain ⟨h1, h2, h3, h4⟩ := hk
  unfold wd_sign
  split
  · exact h4 _
  · omega
section MWords
variable {G : ji_G} {d : Nat} {h : ji_H} {w m n : Nat} {tx s : Nat → Int}

set_option maxHeartbeats 4000000 in
set_option maxRecDepth 100000 in
theorem k_Words_size (hat : wd_at h w m n tx s) (hk : wd_ok m n tx s)  : JR G d mX6_size [.ref w] h 0 0 (some (.int (jI ((n : Int))))) h := by
  obtain ⟨t, q, hw, ht, hq, hdy, hlt⟩ := hat
  obtain ⟨k1, k2, k3, k4⟩ := id hk
  refine ji_ent (by decide) rfl (Nat.le_of_ble_eq_true rfl) rfl ?_
  refine ji_aload_n dX6_size_0 rfl trivial ?_
  refine ji_get (ci := 6) (k := 1) rfl dX6_size_1 lX6_15 (by decide) (hw) rfl ?_
  refine ji_alen dX6_size_4 (hq) (fun cy => rfl) ?_
  refine ji_iconst dX6_size_5 ?_
  refine ji_isub dX6_size_6 ?_
  exact ji_ireturn dX6_size_7 rfl (rfl) ⟨jr_i (by omega), rfl⟩

set_option maxHeartbeats 4000000 in
set_option maxRecDepth 100000 in
theorem k_Words_length (hat : wd_at h w m n tx s) (hk : wd_ok m n tx s)  : JR G d mX6_length [.ref w] h 0 0 (some (.int (jI ((m : Int))))) h := by
  obtain ⟨t, q, hw, ht, hq, hdy, hlt⟩ := hat
  obtain ⟨k1, k2, k3, k4⟩ := id hk
  refine ji_ent (by decide) rfl (Nat.le_of_ble_eq_true rfl) rfl ?_
  refine ji_aload_n dX6_length_0 rfl trivial ?_
  refine ji_get (ci := 6) (k := 0) rfl dX6_length_1 lX6_9 (by decide) (hw) rfl ?_
  refine ji_alen dX6_length_4 (ht) (fun cy => rfl) ?_
  exact ji_ireturn dX6_length_5 rfl (rfl) ⟨jr_i (by omega), rfl⟩

set_option maxHeartbeats 4000000 in
set_option maxRecDepth 100000 in
theorem k_Words_startOf (hat : wd_at h w m n tx s) (hk : wd_ok m n tx s) {k : Int} (hb : -1000000 ≤ k ∧ k ≤ 1000000) : JR G d mX6_startOf [.ref w, .int (jI k)] h 0 0 (some (.int (jI (wd_start m n s k)))) h := by
  obtain ⟨t, q, hw, ht, hq, hdy, hlt⟩ := hat
  obtain ⟨k1, k2, k3, k4⟩ := id hk
  refine ji_ent (by decide) rfl (Nat.le_of_ble_eq_true rfl) rfl ?_
  refine ji_iload_n dX6_startOf_0 rfl ?_
  refine ji_if_lt (tgt := 22) dX6_startOf_1 rfl (by omega) (fun c1 => ?_) (fun c1 => ?_)
  · refine ji_aload_n dX6_startOf_22 rfl trivial ?_
    refine ji_get (ci := 6) (k := 0) rfl dX6_startOf_23 lX6_9 (by decide) (hw) rfl ?_
    refine ji_alen dX6_startOf_26 (ht) (fun cy => rfl) ?_
    refine ji_iconst dX6_startOf_27 ?_
    refine ji_iadd dX6_startOf_28 ?_
    exact ji_ireturn dX6_startOf_29 rfl (rfl) ⟨jr_i (by unfold wd_start; first | (rw [if_pos (by omega)] <;> omega) | (rw [if_neg (by omega)] <;> omega)), rfl⟩
  · refine ji_iload_n dX6_startOf_4 rfl ?_
    refine ji_aload_n dX6_startOf_5 rfl trivial ?_
    refine ji_get (ci := 6) (k := 1) rfl dX6_startOf_6 lX6_15 (by decide) (hw) rfl ?_
    refine ji_alen dX6_startOf_9 (hq) (fun cy => rfl) ?_
    refine ji_icmp_ge (tgt := 22) dX6_startOf_10 rfl (by omega) (by omega) (fun c10 => ?_) (fun c10 => ?_)
    · refine ji_aload_n dX6_startOf_22 rfl trivial ?_
      refine ji_get (ci := 6) (k := 0) rfl dX6_startOf_23 lX6_9 (by decide) (hw) rfl ?_
      refine ji_alen dX6_startOf_26 (ht) (fun cy => rfl) ?_
      refine ji_iconst dX6_startOf_27 ?_
      refine ji_iadd dX6_startOf_28 ?_
      exact ji_ireturn dX6_startOf_29 rfl (rfl) ⟨jr_i (by unfold wd_start; first | (rw [if_pos (by omega)] <;> omega) | (rw [if_neg (by omega)] <;> omega)), rfl⟩
    · refine ji_aload_n dX6_startOf_13 rfl trivial ?_
      refine ji_get (ci := 6) (k := 1) rfl dX6_startOf_14 lX6_15 (by decide) (hw) rfl ?_
      refine ji_iload_n dX6_startOf_17 rfl ?_
      refine ji_iaload dX6_startOf_18 (hq) (by omega) ?_
      refine ji_goto (tgt := 29) dX6_startOf_19 rfl ?_
      exact ji_ireturn dX6_startOf_29 rfl (rfl) ⟨jr_i (by unfold wd_start; first | (rw [if_pos (by omega)] <;> omega) | (rw [if_neg (by omega)] <;> omega)), rfl⟩

set_option maxHeartbeats 4000000 in
set_option maxRecDepth 100000 in
theorem k_Words_endOf (hat : wd_at h w m n tx s) (hk : wd_ok m n tx s) {k : Int} (hb : -1000000 ≤ k ∧ k ≤ 1000000) : JR G d mX6_endOf [.ref w, .int (jI k)] h 0 0 (some (.int (jI (wd_end m n s k)))) h := by
  obtain ⟨t, q, hw, ht, hq, hdy, hlt⟩ := hat
  obtain ⟨k1, k2, k3, k4⟩ := id hk
  refine ji_ent (by decide) rfl (Nat.le_of_ble_eq_true rfl) rfl ?_
  refine ji_iload_n dX6_endOf_0 rfl ?_
  refine ji_iconst dX6_endOf_1 ?_
  refine ji_iadd dX6_endOf_2 ?_
  refine ji_istore_n dX6_endOf_3 (by decide) rfl ?_
  refine ji_iload_n dX6_endOf_4 rfl ?_
  refine ji_if_lt (tgt := 28) dX6_endOf_5 rfl (by omega) (fun c5 => ?_) (fun c5 => ?_)
  · refine ji_aload_n dX6_endOf_28 rfl trivial ?_
    refine ji_get (ci := 6) (k := 0) rfl dX6_endOf_29 lX6_9 (by decide) (hw) rfl ?_
    refine ji_alen dX6_endOf_32 (ht) (fun cy => rfl) ?_
    exact ji_ireturn dX6_endOf_33 rfl (rfl) ⟨jr_i (by unfold wd_end; first | (rw [if_pos (by omega)] <;> omega) | (rw [if_neg (by omega)] <;> omega)), rfl⟩
  · refine ji_iload_n dX6_endOf_8 rfl ?_
    refine ji_aload_n dX6_endOf_9 rfl trivial ?_
    refine ji_get (ci := 6) (k := 1) rfl dX6_endOf_10 lX6_15 (by decide) (hw) rfl ?_
    refine ji_alen dX6_endOf_13 (hq) (fun cy => rfl) ?_
    refine ji_icmp_ge (tgt := 28) dX6_endOf_14 rfl (by omega) (by omega) (fun c14 => ?_) (fun c14 => ?_)
    · refine ji_aload_n dX6_endOf_28 rfl trivial ?_
      refine ji_get (ci := 6) (k := 0) rfl dX6_endOf_29 lX6_9 (by decide) (hw) rfl ?_
      refine ji_alen dX6_endOf_32 (ht) (fun cy => rfl) ?_
      exact ji_ireturn dX6_endOf_33 rfl (rfl) ⟨jr_i (by unfold wd_end; first | (rw [if_pos (by omega)] <;> omega) | (rw [if_neg (by omega)] <;> omega)), rfl⟩
    · refine ji_aload_n dX6_endOf_17 rfl trivial ?_
      refine ji_get (ci := 6) (k := 1) rfl dX6_endOf_18 lX6_15 (by decide) (hw) rfl ?_
      refine ji_iload_n dX6_endOf_21 rfl ?_
      refine ji_iaload dX6_endOf_22 (hq) (by omega) ?_
      refine ji_iconst dX6_endOf_23 ?_
      refine ji_isub dX6_endOf_24 ?_
      refine ji_goto (tgt := 33) dX6_endOf_25 rfl ?_
      exact ji_ireturn dX6_endOf_33 rfl (rfl) ⟨jr_i (by unfold wd_end; first | (rw [if_pos (by omega)] <;> omega) | (rw [if_neg (by omega)] <;> omega)), rfl⟩

set_option maxHeartbeats 4000000 in
set_option maxRecDepth 100000 in
theorem k_Words_signAt (hat : wd_at h w m n tx s) (hk : wd_ok m n tx s) {k : Int} (hb : -1000000 ≤ k ∧ k ≤ 1000000) : JR G d mX6_signAt [.ref w, .int (jI k)] h 0 0 (some (.int (jI (wd_sign m tx k)))) h := by
  obtain ⟨t, q, hw, ht, hq, hdy, hlt⟩ := hat
  obtain ⟨k1, k2, k3, k4⟩ := id hk
  refine ji_ent (by decide) rfl (Nat.le_of_ble_eq_true rfl) rfl ?_
  refine ji_iload_n dX6_signAt_0 rfl ?_
  refine ji_if_lt (tgt := 22) dX6_signAt_1 rfl (by omega) (fun c1 => ?_) (fun c1 => ?_)
  · refine ji_bipush dX6_signAt_22 rfl ?_
    exact ji_ireturn dX6_signAt_24 rfl (rfl) ⟨jr_i (by unfold wd_sign; first | (rw [if_pos (by omega)] <;> omega) | (rw [if_neg (by omega)] <;> omega)), rfl⟩
  · refine ji_iload_n dX6_signAt_4 rfl ?_
    refine ji_aload_n dX6_signAt_5 rfl trivial ?_
    refine ji_get (ci := 6) (k := 0) rfl dX6_signAt_6 lX6_9 (by decide) (hw) rfl ?_
    refine ji_alen dX6_signAt_9 (ht) (fun cy => rfl) ?_
    refine ji_icmp_ge (tgt := 22) dX6_signAt_10 rfl (by omega) (by omega) (fun c10 => ?_) (fun c10 => ?_)
    · refine ji_bipush dX6_signAt_22 rfl ?_
      exact ji_ireturn dX6_signAt_24 rfl (rfl) ⟨jr_i (by unfold wd_sign; first | (rw [if_pos (by omega)] <;> omega) | (rw [if_neg (by omega)] <;> omega)), rfl⟩
    · refine ji_aload_n dX6_signAt_13 rfl trivial ?_
      refine ji_get (ci := 6) (k := 0) rfl dX6_signAt_14 lX6_9 (by decide) (hw) rfl ?_
      refine ji_iload_n dX6_signAt_17 rfl ?_
      refine ji_caload dX6_signAt_18 (ht) (by omega) ?_
      refine ji_goto (tgt := 24) dX6_signAt_19 rfl ?_
      exact ji_ireturn dX6_signAt_24 rfl (rfl) ⟨jr_i (by unfold wd_sign; first | (rw [if_pos (by omega)] <;> omega) | (rw [if_neg (by omega)] <;> omega)), rfl⟩

set_option maxHeartbeats 4000000 in
set_option maxRecDepth 100000 in
theorem k_Words_referenceOf (hat : wd_at h w m n tx s) (hk : wd_ok m n tx s) {k : Int} (hb : -1000000 ≤ k ∧ k ≤ 1000000) : JR G (d + 1) mX6_referenceOf [.ref w, .int (jI k)] h 0 0 (some (.int (jI (wd_ref m n tx s k)))) h := by
  have hat0 := hat
  obtain ⟨t, q, hw, ht, hq, hdy, hlt⟩ := hat
  obtain ⟨k1, k2, k3, k4⟩ := id hk
  have b1 := wd_end_b hk k
  have b2 := wd_sign_b hk (wd_end m n s k - 2)
  have b3 := wd_sign_b hk (wd_end m n s k - 1)
  refine ji_ent (by decide) rfl (Nat.le_of_ble_eq_true rfl) rfl ?_
  refine ji_aload_n dX6_referenceOf_0 rfl trivial ?_
  refine ji_iload_n dX6_referenceOf_1 rfl ?_
  refine ji_cV dX6_referenceOf_2 (k_Words_endOf hat0 hk (by omega)) rfl (hw) rfl rfl wX6_endOf vX6_endOf lX6_19 rfl (Nat.le_of_ble_eq_true rfl) rfl ?_
  refine ji_istore_n dX6_referenceOf_5 (by decide) rfl ?_
  refine ji_aload_n dX6_referenceOf_6 rfl trivial ?_
  refine ji_iload_n dX6_referenceOf_7 rfl ?_
  refine ji_iconst dX6_referenceOf_8 ?_
  refine ji_isub dX6_referenceOf_9 ?_
  refine ji_cV dX6_referenceOf_10 (k_Words_signAt hat0 hk (by omega)) rfl (hw) rfl rfl wX6_signAt vX6_signAt lX6_23 rfl (Nat.le_of_ble_eq_true rfl) rfl ?_
  refine ji_bipush dX6_referenceOf_13 rfl ?_
  refine ji_icmp_ne (tgt := 31) dX6_referenceOf_15 rfl (by omega) (by omega) (fun c15 => ?_) (fun c15 => ?_)
  · refine ji_iconst dX6_referenceOf_31 ?_
    exact ji_ireturn dX6_referenceOf_32 rfl (rfl) ⟨jr_i (by unfold wd_ref; first | (rw [if_pos (by omega)] <;> omega) | (rw [if_neg (by omega)] <;> omega)), rfl⟩
  · refine ji_aload_n dX6_referenceOf_18 rfl trivial ?_
    refine ji_iload_n dX6_referenceOf_19 rfl ?_
    refine ji_iconst dX6_referenceOf_20 ?_
    refine ji_isub dX6_referenceOf_21 ?_
    refine ji_cV dX6_referenceOf_22 (k_Words_signAt hat0 hk (by omega)) rfl (hw) rfl rfl wX6_signAt vX6_signAt lX6_23 rfl (Nat.le_of_ble_eq_true rfl) rfl ?_
    refine ji_bipush dX6_referenceOf_25 rfl ?_
    refine ji_isub dX6_referenceOf_27 ?_
    refine ji_goto (tgt := 32) dX6_referenceOf_28 rfl ?_
    exact ji_ireturn dX6_referenceOf_32 rfl (rfl) ⟨jr_i (by unfold wd_ref; first | (rw [if_pos (by omega)] <;> omega) | (rw [if_neg (by omega)] <;> omega)), rfl⟩

-- lineEnd
set_option maxHeartbeats 4000000 in
set_option maxRecDepth 100000 in
theorem k_Words_lineEnd_loop (hat : wd_at h w m n tx s) (hk : wd_ok m n tx s) {first stop room st R : Int} (b1 : -1000000 ≤ stop ∧ stop ≤ 1000000) (b2 : -1000000 ≤ room ∧ room ≤ 1000000) (b3 : 0 ≤ st ∧ st ≤ 10001) : ∀ (f : Nat) (k : Int), -1000000 ≤ k ∧ k ≤ 2000000 → stop - k ≤ f → R = wd_le m n s st room stop f k →
    JW G (d + 1) mX6_lineEnd 12 [some (.ref w), some (.int (jI first)), some (.int (jI stop)), some (.int (jI room)), some (.int (jI st)), some (.int (jI k))] [] h 0 0 (fun r h' => r = .inl (some (.int (jI R))) ∧ h' = h) := by
  have hat0 := hat
  obtain ⟨t, q, hw, ht, hq, hdy, hlt⟩ := hat
  obtain ⟨k1, k2, k3, k4⟩ := id hk
  intro f
  induction f with
  | zero =>
    intro k hk1 hk2 hR

    refine ji_iload dX6_lineEnd_12 rfl ?_
    refine ji_iload_n dX6_lineEnd_14 rfl ?_
    refine ji_icmp_ge (tgt := 37) dX6_lineEnd_15 rfl (by omega) (by omega) (fun c15 => ?_) (fun c15 => absurd c15 (by omega))
    refine ji_iload dX6_lineEnd_37 rfl ?_
    exact ji_ireturn dX6_lineEnd_39 rfl (rfl) ⟨jr_i (by rw [hR]; rfl), rfl⟩
  | succ f ih =>
    intro k hk1 hk2 hR
    have b4 := wd_end_b hk k

    refine ji_iload dX6_lineEnd_12 rfl ?_
    refine ji_iload_n dX6_lineEnd_14 rfl ?_
    refine ji_icmp_ge (tgt := 37) dX6_lineEnd_15 rfl (by omega) (by omega) (fun c15 => ?_) (fun c15 => ?_)
    · refine ji_iload dX6_lineEnd_37 rfl ?_
      exact ji_ireturn dX6_lineEnd_39 rfl (rfl) ⟨jr_i (by rw [hR, wd_le, if_neg (by omega)]), rfl⟩
    · refine ji_aload_n dX6_lineEnd_18 rfl trivial ?_
      refine ji_iload dX6_lineEnd_19 rfl ?_
      refine ji_cV dX6_lineEnd_21 (k_Words_endOf hat0 hk (by omega)) rfl (hw) rfl rfl wX6_endOf vX6_endOf lX6_19 rfl (Nat.le_of_ble_eq_true rfl) rfl ?_
      refine ji_iload dX6_lineEnd_24 rfl ?_
      refine ji_isub dX6_lineEnd_26 ?_
      refine ji_iload_n dX6_lineEnd_27 rfl ?_
      refine ji_icmp_gt (tgt := 37) dX6_lineEnd_28 rfl (by omega) (by omega) (fun c28 => ?_) (fun c28 => ?_)
      · refine ji_iload dX6_lineEnd_37 rfl ?_
        exact ji_ireturn dX6_lineEnd_39 rfl (rfl) ⟨jr_i (by rw [hR, wd_le, if_neg (by omega)]), rfl⟩
      · refine ji_iinc dX6_lineEnd_31 (by decide) rfl rfl ?_
        refine ji_goto (tgt := 12) dX6_lineEnd_34 rfl ?_
        exact ih (k + 1) (by omega) (by omega) (by rw [hR, wd_le, if_pos ⟨by omega, by omega⟩])

set_option maxHeartbeats 4000000 in
set_option maxRecDepth 100000 in
theorem k_Words_lineEnd (hat : wd_at h w m n tx s) (hk : wd_ok m n tx s) {first stop room : Int} (b0 : -100000 ≤ first ∧ first ≤ 100000) (b1 : -100000 ≤ stop ∧ stop ≤ 100000) (b2 : -1000000 ≤ room ∧ room ≤ 1000000) : JR G (d + 1) mX6_lineEnd [.ref w, .int (jI first), .int (jI stop), .int (jI room)] h 0 0 (some (.int (jI (wd_LE m n s first stop room)))) h := by
  have hat0 := hat
  obtain ⟨t, q, hw, ht, hq, hdy, hlt⟩ := hat
  obtain ⟨k1, k2, k3, k4⟩ := id hk
  refine ji_ent (by decide) rfl (Nat.le_of_ble_eq_true rfl) rfl ?_
  refine ji_aload_n dX6_lineEnd_0 rfl trivial ?_
  refine ji_iload_n dX6_lineEnd_1 rfl ?_
  refine ji_cV dX6_lineEnd_2 (k_Words_startOf hat0 hk (by omega)) rfl (hw) rfl rfl wX6_startOf vX6_startOf lX6_26 rfl (Nat.le_of_ble_eq_true rfl) rfl ?_
  refine ji_istore dX6_lineEnd_5 (by decide) rfl ?_
  refine ji_iload_n dX6_lineEnd_7 rfl ?_
  refine ji_iconst dX6_lineEnd_8 ?_
  refine ji_iadd dX6_lineEnd_9 ?_
  refine ji_istore dX6_lineEnd_10 (by decide) rfl ?_
  exact k_Words_lineEnd_loop hat0 hk (by omega) (by omega) (by have := wd_start_b hk first; omega) (stop - first).toNat (first + 1) (by omega) (by omega) rfl

theorem wd_le_b (m n : Nat) (s : Nat → Int) (st room stop : Int) : ∀ (f : Nat) (k : Int), k ≤ wd_le m n s st room stop f k ∧ (wd_le m n s st room stop f k ≤ max k stop)
  | 0, k => by unfold wd_le; omega
  | f + 1, k => by
    unfold wd_le
    split
    · have := wd_le_b m n s st room stop f (k + 1); omega
    · omega
theorem wd_LE_b (m n : Nat) (s : Nat → Int) (first stop room : Int) : first + 1 ≤ wd_LE m n s first stop room ∧ wd_LE m n s first stop room ≤ max (first + 1) stop := wd_le_b m n s _ room stop _ (first + 1)
def wd_fol (m n : Nat) (s : Nat → Int) (room : Int) : Nat → Int → Int
  | 0, first => first
  | f + 1, first => if first < n then wd_fol m n s room f (wd_LE m n s first n room) else first
def wd_lw (m n : Nat) (s : Nat → Int) (room : Int) : Nat → Int → Int → Int
  | 0, _, lines => lines
  | f + 1, first, lines => if first < n ∧ lines < n then wd_lw m n s room f (wd_LE m n s first n room) (lines + 1) else lines
def wd_sol (m n : Nat) (tx s : Nat → Int) (first stop indent column : Int) : Int := if indent ≤ column ∧ wd_start m n s first + column - indent < wd_end m n s (stop - 1) then wd_sign m tx (wd_start m n s first + column - indent) else 32

set_option maxHeartbeats 4000000 in
set_option maxRecDepth 100000 in
theorem k_Words_firstOfLine_loop (hat : wd_at h w m n tx s) (hk : wd_ok m n tx s) {line room R : Int} (b1 : 0 ≤ line ∧ line ≤ 100000) (b2 : -1000000 ≤ room ∧ room ≤ 1000000) : ∀ (f : Nat) (first passed : Int), 0 ≤ first ∧ first ≤ 20000 → 0 ≤ passed → passed + f = line → R = wd_fol m n s room f first →
    JW G (d + 2) mX6_firstOfLine 5 [some (.ref w), some (.int (jI line)), some (.int (jI room)), some (.int (jI first)), some (.int (jI passed))] [] h 0 0 (fun r h' => r = .inl (some (.int (jI R))) ∧ h' = h) := by
  have hat0 := hat
  obtain ⟨t, q, hw, ht, hq, hdy, hlt⟩ := hat
  obtain ⟨k1, k2, k3, k4⟩ := id hk
  intro f
  induction f with
  | zero =>
    intro first passed h1 h2 h3 hR

    refine ji_iload dX6_firstOfLine_5 rfl ?_
    refine ji_iload_n dX6_firstOfLine_7 rfl ?_
    refine ji_icmp_ge (tgt := 36) dX6_firstOfLine_8 rfl (by omega) (by omega) (fun c8 => ?_) (fun c8 => absurd c8 (by omega))
    refine ji_iload_n dX6_firstOfLine_36 rfl ?_
    exact ji_ireturn dX6_firstOfLine_37 rfl (rfl) ⟨jr_i (by rw [hR]; rfl), rfl⟩
  | succ f ih =>
    intro first passed h1 h2 h3 hR
    have b5 := wd_LE_b m n s first n room

    refine ji_iload dX6_firstOfLine_5 rfl ?_
    refine ji_iload_n dX6_firstOfLine_7 rfl ?_
    refine ji_icmp_ge (tgt := 36) dX6_firstOfLine_8 rfl (by omega) (by omega) (fun c8 => absurd c8 (by omega)) (fun c8 => ?_)
    refine ji_iload_n dX6_firstOfLine_11 rfl ?_
    refine ji_aload_n dX6_firstOfLine_12 rfl trivial ?_
    refine ji_cV dX6_firstOfLine_13 (k_Words_size hat0 hk) rfl (hw) rfl rfl wX6_size vX6_size lX6_29 rfl (Nat.le_of_ble_eq_true rfl) rfl ?_
    refine ji_icmp_ge (tgt := 36) dX6_firstOfLine_16 rfl (by omega) (by omega) (fun c16 => ?_) (fun c16 => ?_)
    · refine ji_iload_n dX6_firstOfLine_36 rfl ?_
      exact ji_ireturn dX6_firstOfLine_37 rfl (rfl) ⟨jr_i (by rw [hR, wd_fol, if_neg (by omega)]), rfl⟩
    · refine ji_aload_n dX6_firstOfLine_19 rfl trivial ?_
      refine ji_iload_n dX6_firstOfLine_20 rfl ?_
      refine ji_aload_n dX6_firstOfLine_21 rfl trivial ?_
      refine ji_cV dX6_firstOfLine_22 (k_Words_size hat0 hk) rfl (hw) rfl rfl wX6_size vX6_size lX6_29 rfl (Nat.le_of_ble_eq_true rfl) rfl ?_
      refine ji_iload_n dX6_firstOfLine_25 rfl ?_
      refine ji_cV dX6_firstOfLine_26 (k_Words_lineEnd hat0 hk (by omega) (by omega) (by omega)) rfl (hw) rfl rfl wX6_lineEnd vX6_lineEnd lX6_33 rfl (Nat.le_of_ble_eq_true rfl) rfl ?_
      refine ji_istore_n dX6_firstOfLine_29 (by decide) rfl ?_
      refine ji_iinc dX6_firstOfLine_30 (by decide) rfl rfl ?_
      refine ji_goto (tgt := 5) dX6_firstOfLine_33 rfl ?_
      exact ih _ _ (by omega) (by omega) (by omega) (by rw [hR, wd_fol, if_pos (by omega)])

set_option maxHeartbeats 4000000 in
set_option maxRecDepth 100000 in
theorem k_Words_firstOfLine (hat : wd_at h w m n tx s) (hk : wd_ok m n tx s) {line room : Int} (b1 : 0 ≤ line ∧ line ≤ 100000) (b2 : -1000000 ≤ room ∧ room ≤ 1000000) : JR G (d + 2) mX6_firstOfLine [.ref w, .int (jI (line)), .int (jI (room))] h 0 0 (some (.int (jI (wd_fol m n s room line.toNat 0)))) h := by
  have hat0 := hat
  obtain ⟨t, q, hw, ht, hq, hdy, hlt⟩ := hat
  obtain ⟨k1, k2, k3, k4⟩ := id hk
  refine ji_ent (by decide) rfl (Nat.le_of_ble_eq_true rfl) rfl ?_
  refine ji_iconst dX6_firstOfLine_0 ?_
  refine ji_istore_n dX6_firstOfLine_1 (by decide) rfl ?_
  refine ji_iconst dX6_firstOfLine_2 ?_
  refine ji_istore dX6_firstOfLine_3 (by decide) rfl ?_
  exact k_Words_firstOfLine_loop hat0 hk b1 b2 line.toNat 0 0 (by omega) (by omega) (by omega) rfl

set_option maxHeartbeats 4000000 in
set_option maxRecDepth 100000 in
theorem k_Words_linesWithin_loop (hat : wd_at h w m n tx s) (hk : wd_ok m n tx s) {room R : Int} (b2 : -1000000 ≤ room ∧ room ≤ 1000000) : ∀ (f : Nat) (first lines : Int), 0 ≤ first ∧ first ≤ 20000 → 0 ≤ lines → (n : Int) ≤ lines + f → lines ≤ n → R = wd_lw m n s room f first lines →
    JW G (d + 2) mX6_linesWithin 4 [some (.ref w), some (.int (jI room)), some (.int (jI lines)), some (.int (jI first))] [] h 0 0 (fun r h' => r = .inl (some (.int (jI R))) ∧ h' = h) := by
  have hat0 := hat
  obtain ⟨t, q, hw, ht, hq, hdy, hlt⟩ := hat
  obtain ⟨k1, k2, k3, k4⟩ := id hk
  intro f
  induction f with
  | zero =>
    intro first lines h1 h2 h3 h4 hR

    refine ji_iload_n dX6_linesWithin_4 rfl ?_
    refine ji_aload_n dX6_linesWithin_5 rfl trivial ?_
    refine ji_cV dX6_linesWithin_6 (k_Words_size hat0 hk) rfl (hw) rfl rfl wX6_size vX6_size lX6_29 rfl (Nat.le_of_ble_eq_true rfl) rfl ?_
    refine ji_icmp_ge (tgt := 37) dX6_linesWithin_9 rfl (by omega) (by omega) (fun c9 => ?_) (fun c9 => ?_)
    · refine ji_iload_n dX6_linesWithin_37 rfl ?_
      exact ji_ireturn dX6_linesWithin_38 rfl (rfl) ⟨jr_i (by rw [hR]; rfl), rfl⟩
    · refine ji_iload_n dX6_linesWithin_12 rfl ?_
      refine ji_aload_n dX6_linesWithin_13 rfl trivial ?_
      refine ji_cV dX6_linesWithin_14 (k_Words_size hat0 hk) rfl (hw) rfl rfl wX6_size vX6_size lX6_29 rfl (Nat.le_of_ble_eq_true rfl) rfl ?_
      refine ji_icmp_ge (tgt := 37) dX6_linesWithin_17 rfl (by omega) (by omega) (fun c17 => ?_) (fun c17 => absurd c17 (by omega))
      refine ji_iload_n dX6_linesWithin_37 rfl ?_
      exact ji_ireturn dX6_linesWithin_38 rfl (rfl) ⟨jr_i (by rw [hR]; rfl), rfl⟩
  | succ f ih =>
    intro first lines h1 h2 h3 h4 hR
    have b5 := wd_LE_b m n s first n room

    refine ji_iload_n dX6_linesWithin_4 rfl ?_
    refine ji_aload_n dX6_linesWithin_5 rfl trivial ?_
    refine ji_cV dX6_linesWithin_6 (k_Words_size hat0 hk) rfl (hw) rfl rfl wX6_size vX6_size lX6_29 rfl (Nat.le_of_ble_eq_true rfl) rfl ?_
    refine ji_icmp_ge (tgt := 37) dX6_linesWithin_9 rfl (by omega) (by omega) (fun c9 => ?_) (fun c9 => ?_)
    · refine ji_iload_n dX6_linesWithin_37 rfl ?_
      exact ji_ireturn dX6_linesWithin_38 rfl (rfl) ⟨jr_i (by rw [hR, wd_lw, if_neg (by omega)]), rfl⟩
    · refine ji_iload_n dX6_linesWithin_12 rfl ?_
      refine ji_aload_n dX6_linesWithin_13 rfl trivial ?_
      refine ji_cV dX6_linesWithin_14 (k_Words_size hat0 hk) rfl (hw) rfl rfl wX6_size vX6_size lX6_29 rfl (Nat.le_of_ble_eq_true rfl) rfl ?_
      refine ji_icmp_ge (tgt := 37) dX6_linesWithin_17 rfl (by omega) (by omega) (fun c17 => ?_) (fun c17 => ?_)
      · refine ji_iload_n dX6_linesWithin_37 rfl ?_
        exact ji_ireturn dX6_linesWithin_38 rfl (rfl) ⟨jr_i (by rw [hR, wd_lw, if_neg (by omega)]), rfl⟩
      · refine ji_aload_n dX6_linesWithin_20 rfl trivial ?_
        refine ji_iload_n dX6_linesWithin_21 rfl ?_
        refine ji_aload_n dX6_linesWithin_22 rfl trivial ?_
        refine ji_cV dX6_linesWithin_23 (k_Words_size hat0 hk) rfl (hw) rfl rfl wX6_size vX6_size lX6_29 rfl (Nat.le_of_ble_eq_true rfl) rfl ?_
        refine ji_iload_n dX6_linesWithin_26 rfl ?_
        refine ji_cV dX6_linesWithin_27 (k_Words_lineEnd hat0 hk (by omega) (by omega) (by omega)) rfl (hw) rfl rfl wX6_lineEnd vX6_lineEnd lX6_33 rfl (Nat.le_of_ble_eq_true rfl) rfl ?_
        refine ji_istore_n dX6_linesWithin_30 (by decide) rfl ?_
        refine ji_iinc dX6_linesWithin_31 (by decide) rfl rfl ?_
        refine ji_goto (tgt := 4) dX6_linesWithin_34 rfl ?_
        exact ih _ _ (by omega) (by omega) (by omega) (by omega) (by rw [hR, wd_lw, if_pos (by omega)])

set_option maxHeartbeats 4000000 in
set_option maxRecDepth 100000 in
theorem k_Words_linesWithin (hat : wd_at h w m n tx s) (hk : wd_ok m n tx s) {room : Int} (b2 : -1000000 ≤ room ∧ room ≤ 1000000) : JR G (d + 2) mX6_linesWithin [.ref w, .int (jI (room))] h 0 0 (some (.int (jI (wd_lw m n s room n 0 0)))) h := by
  have hat0 := hat
  obtain ⟨t, q, hw, ht, hq, hdy, hlt⟩ := hat
  obtain ⟨k1, k2, k3, k4⟩ := id hk
  refine ji_ent (by decide) rfl (Nat.le_of_ble_eq_true rfl) rfl ?_
  refine ji_iconst dX6_linesWithin_0 ?_
  refine ji_istore_n dX6_linesWithin_1 (by decide) rfl ?_
  refine ji_iconst dX6_linesWithin_2 ?_
  refine ji_istore_n dX6_linesWithin_3 (by decide) rfl ?_
  exact k_Words_linesWithin_loop hat0 hk b2 n 0 0 (by omega) (by omega) (by omega) (by omega) rfl

set_option maxHeartbeats 4000000 in
set_option maxRecDepth 100000 in
theorem k_Words_signOfLine (hat : wd_at h w m n tx s) (hk : wd_ok m n tx s) {first stop indent column : Int} (b1 : -100000 ≤ first ∧ first ≤ 100000) (b2 : -100000 ≤ stop ∧ stop ≤ 100000) (b3 : -100000 ≤ indent ∧ indent ≤ 100000) (b4 : -100000 ≤ column ∧ column ≤ 100000) : JR G (d + 1) mX6_signOfLine [.ref w, .int (jI (first)), .int (jI (stop)), .int (jI (indent)), .int (jI (column))] h 0 0 (some (.int (jI (wd_sol m n tx s first stop indent column)))) h := by
  have hat0 := hat
  obtain ⟨t, q, hw, ht, hq, hdy, hlt⟩ := hat
  obtain ⟨k1, k2, k3, k4⟩ := id hk
  have q1 := wd_start_b hk first
  have q2 := wd_end_b hk (stop - 1)
  refine ji_ent (by decide) rfl (Nat.le_of_ble_eq_true rfl) rfl ?_
  refine ji_aload_n dX6_signOfLine_0 rfl trivial ?_
  refine ji_iload_n dX6_signOfLine_1 rfl ?_
  refine ji_cV dX6_signOfLine_2 (k_Words_startOf hat0 hk (by omega)) rfl (hw) rfl rfl wX6_startOf vX6_startOf lX6_26 rfl (Nat.le_of_ble_eq_true rfl) rfl ?_
  refine ji_iload dX6_signOfLine_5 rfl ?_
  refine ji_iadd dX6_signOfLine_7 ?_
  refine ji_iload_n dX6_signOfLine_8 rfl ?_
  refine ji_isub dX6_signOfLine_9 ?_
  refine ji_istore dX6_signOfLine_10 (by decide) rfl ?_
  refine ji_iload dX6_signOfLine_12 rfl ?_
  refine ji_iload_n dX6_signOfLine_14 rfl ?_
  refine ji_icmp_lt (tgt := 39) dX6_signOfLine_15 rfl (by omega) (by omega) (fun c15 => ?_) (fun c15 => ?_)
  · refine ji_bipush dX6_signOfLine_39 rfl ?_
    exact ji_ireturn dX6_signOfLine_41 rfl (rfl) ⟨jr_i (by unfold wd_sol; first | (rw [if_pos (by omega)] <;> omega) | (rw [if_neg (by omega)] <;> omega)), rfl⟩
  · refine ji_iload dX6_signOfLine_18 rfl ?_
    refine ji_aload_n dX6_signOfLine_20 rfl trivial ?_
    refine ji_iload_n dX6_signOfLine_21 rfl ?_
    refine ji_iconst dX6_signOfLine_22 ?_
    refine ji_isub dX6_signOfLine_23 ?_
    refine ji_cV dX6_signOfLine_24 (k_Words_endOf hat0 hk (by omega)) rfl (hw) rfl rfl wX6_endOf vX6_endOf lX6_19 rfl (Nat.le_of_ble_eq_true rfl) rfl ?_
    refine ji_icmp_ge (tgt := 39) dX6_signOfLine_27 rfl (by omega) (by omega) (fun c27 => ?_) (fun c27 => ?_)
    · refine ji_bipush dX6_signOfLine_39 rfl ?_
      exact ji_ireturn dX6_signOfLine_41 rfl (rfl) ⟨jr_i (by unfold wd_sol; first | (rw [if_pos (by omega)] <;> omega) | (rw [if_neg (by omega)] <;> omega)), rfl⟩
    · refine ji_aload_n dX6_signOfLine_30 rfl trivial ?_
      refine ji_iload dX6_signOfLine_31 rfl ?_
      refine ji_cV dX6_signOfLine_33 (k_Words_signAt hat0 hk (by omega)) rfl (hw) rfl rfl wX6_signAt vX6_signAt lX6_23 rfl (Nat.le_of_ble_eq_true rfl) rfl ?_
      refine ji_goto (tgt := 41) dX6_signOfLine_36 rfl ?_
      exact ji_ireturn dX6_signOfLine_41 rfl (rfl) ⟨jr_i (by unfold wd_sol; first | (rw [if_pos (by omega)] <;> omega) | (rw [if_neg (by omega)] <;> omega)), rfl⟩

def wd_cnt (tx : Nat → Int) : Nat → Nat
  | 0 => 0
  | j + 1 => wd_cnt tx j + (if tx j = 32 then 1 else 0)
def wd_S (tx : Nat → Int) : Nat → Nat → Int
  | 0 => fun _ => 0
  | j + 1 => if tx j = 32 then va_up (wd_S tx j) (wd_cnt tx (j + 1)) (j + 1) else wd_S tx j
def wd_starts (m : Nat) (tx : Nat → Int) : Nat → Int := va_up (wd_S tx m) (wd_cnt tx m + 1) (m + 1)
theorem wd_cnt_le (tx : Nat → Int) : ∀ {i j : Nat}, i ≤ j → wd_cnt tx i ≤ wd_cnt tx j
  | i, 0, h => by rw [show i = 0 by omega]; exact Nat.le_refl _
  | i, j + 1, h => by
    by_cases e : i = j + 1
    · rw [e]; exact Nat.le_refl _
    · have := wd_cnt_le tx (i := i) (j := j) (by omega)
      show wd_cnt tx i ≤ wd_cnt tx j + _
      omega
theorem wd_cnt_b (tx : Nat → Int) : ∀ j : Nat, wd_cnt tx j ≤ j
  | 0 => Nat.le_refl _
  | j + 1 => by have := wd_cnt_b tx j; unfold wd_cnt; split <;> omega
theorem wd_cnt_lt {tx : Nat → Int} {i m : Nat} (h : i < m) (ht : tx i = 32) : wd_cnt tx i < wd_cnt tx m := by
  have h1 := wd_cnt_le tx (i := i + 1) (j := m) h
  have h2 : wd_cnt tx (i + 1) = wd_cnt tx i + 1 := by rw [wd_cnt, if_pos ht]
  omega
theorem va_up_idem {α : Type} (f : Nat → α) (a : Nat) (x y : α) : va_up (va_up f a x) a y = va_up f a y := by
  funext b; unfold va_up; split <;> rfl
theorem va_up_comm {α : Type} (f : Nat → α) {a b : Nat} (hne : a ≠ b) (x y : α) : va_up (va_up f a x) b y = va_up (va_up f b y) a x := by
  funext c; unfold va_up
  by_cases h1 : c = b
  · rw [if_pos h1]; rw [if_neg (by omega), if_pos h1]
  · rw [if_neg h1]; by_cases h2 : c = a
    · rw [if_pos h2, if_pos h2]
    · rw [if_neg h2, if_neg h2, if_neg h1]
def wd_hp (h : ji_H) (w t B : Nat) (S : Nat → Int) : ji_H := (h.1 + 1, va_up (va_up h.2 w (.inl (6, [.ref t, .ref h.1]))) h.1 (.inr (.int, B, .inl S)))
theorem wd_hp_w {h : ji_H} {w t B : Nat} {S : Nat → Int} (hw : w < h.1) : (wd_hp h w t B S).2 w = .inl (6, [.ref t, .ref h.1]) := by
  show va_up _ _ _ _ = _
  rw [va_up_ne _ _ (by omega), va_up_self]
theorem wd_hp_t {h : ji_H} {w t B : Nat} {S : Nat → Int} {c : ji_C} (hw : t < h.1) (hne : t ≠ w) (hc : h.2 t = c) : (wd_hp h w t B S).2 t = c := by
  show va_up _ _ _ _ = _
  rw [va_up_ne _ _ (by omega), va_up_ne _ _ hne]; exact hc
theorem wd_hp_q {h : ji_H} {w t B : Nat} {S : Nat → Int} : (wd_hp h w t B S).2 h.1 = .inr (.int, B, .inl S) := va_up_self _ _ _
theorem wd_hp_s {h : ji_H} {w t B : Nat} {S S' : Nat → Int} : ((wd_hp h w t B S).1, va_up (wd_hp h w t B S).2 h.1 (.inr (.int, B, .inl S'))) = wd_hp h w t B S' := by
  unfold wd_hp; rw [va_up_idem]

set_option maxHeartbeats 4000000 in
set_option maxRecDepth 100000 in
theorem k_Words_init_l1 {t : Nat} {v0 v1 : Value} (hw : h.2 w = .inl (6, [v0, v1])) (ht : h.2 t = .inr (.char, m, .inl tx)) (hwl : w < h.1) (htl : t < h.1) (hm : m ≤ 10000) (htx : ∀ j, 0 ≤ tx j ∧ tx j < 128) {bc bs : Nat} {Q : ji_R → ji_H → Prop} (K : JW G (d + 1) mX6_init 54 [some (.ref w), some (.ref t), some (.int (jI (wd_cnt tx m : Nat))), none, none, none, none] [] (h.1, va_up h.2 w (.inl (6, [.ref t, v1]))) bc bs Q) : ∀ (f : Nat) (i c : Int) (o6 : Option Value), 0 ≤ i ∧ i + f = m → c = wd_cnt tx i.toNat →
    JW G (d + 1) mX6_init 20 [some (.ref w), some (.ref t), some (.int (jI c)), some (.ref t), some (.int (jI m)), some (.int (jI i)), o6] [] (h.1, va_up h.2 w (.inl (6, [.ref t, v1]))) bc bs Q := by
  have hne : t ≠ w := fun e => by rw [e, hw] at ht; cases ht
  have hcb := wd_cnt_b tx m
  have ht1 : (h.1, va_up h.2 w (.inl (6, [.ref t, v1]) : ji_C)).2 t = .inr (.char, m, .inl tx) := (va_up_ne _ _ hne).trans ht
  intro f
  induction f with
  | zero =>
    intro i c o6 hi hc

    refine ji_iload dX6_init_20 rfl ?_
    refine ji_iload dX6_init_22 rfl ?_
    refine ji_icmp_ge (tgt := 54) dX6_init_24 rfl (by omega) (by omega) (fun c24 => ?_) (fun c24 => absurd c24 (by omega))
    have e : c = (wd_cnt tx m : Nat) := by rw [hc, show i.toNat = m by omega]
    subst e
    exact ji_weakM [true, true, true, false, false, false, false] rfl K
  | succ f ih =>
    intro i c o6 hi hc
    have hb := htx i.toNat
    have hc2 := wd_cnt_b tx i.toNat
    have e1 : (i + 1).toNat = i.toNat + 1 := by omega

    refine ji_iload dX6_init_20 rfl ?_
    refine ji_iload dX6_init_22 rfl ?_
    refine ji_icmp_ge (tgt := 54) dX6_init_24 rfl (by omega) (by omega) (fun c24 => absurd c24 (by omega)) (fun c24 => ?_)
    refine ji_aload_n dX6_init_27 rfl trivial ?_
    refine ji_iload dX6_init_28 rfl ?_
    refine ji_caload dX6_init_30 (ht1) (by omega) ?_
    refine ji_istore dX6_init_31 (by decide) rfl ?_
    refine ji_iload_n dX6_init_33 rfl ?_
    refine ji_iload dX6_init_34 rfl ?_
    refine ji_bipush dX6_init_36 rfl ?_
    refine ji_icmp_ne (tgt := 45) dX6_init_38 rfl (by omega) (by omega) (fun c38 => ?_) (fun c38 => ?_)
    · refine ji_iconst dX6_init_45 ?_
      refine ji_iadd dX6_init_46 ?_
      refine ji_istore_n dX6_init_47 (by decide) rfl ?_
      refine ji_iinc dX6_init_48 (by decide) rfl rfl ?_
      refine ji_goto (tgt := 20) dX6_init_51 rfl ?_
      exact ih _ _ _ (by omega) (by rw [e1, wd_cnt]; first | (rw [if_pos (by omega)] <;> omega) | (rw [if_neg (by omega)] <;> omega))
    · refine ji_iconst dX6_init_41 ?_
      refine ji_goto (tgt := 46) dX6_init_42 rfl ?_
      refine ji_iadd dX6_init_46 ?_
      refine ji_istore_n dX6_init_47 (by decide) rfl ?_
      refine ji_iinc dX6_init_48 (by decide) rfl rfl ?_
      refine ji_goto (tgt := 20) dX6_init_51 rfl ?_
      exact ih _ _ _ (by omega) (by rw [e1, wd_cnt]; first | (rw [if_pos (by omega)] <;> omega) | (rw [if_neg (by omega)] <;> omega))

set_option maxHeartbeats 4000000 in
set_option maxRecDepth 100000 in
theorem k_Words_init_l2 {t : Nat} {v0 v1 : Value} (hw : h.2 w = .inl (6, [v0, v1])) (ht : h.2 t = .inr (.char, m, .inl tx)) (hwl : w < h.1) (htl : t < h.1) (hm : m ≤ 10000) (htx : ∀ j, 0 ≤ tx j ∧ tx j < 128) {bc bs : Nat} : ∀ (f : Nat) (i c : Int) (o5 o6 : Option Value), 0 ≤ i ∧ i + f = m → c = wd_cnt tx i.toNat →
    JW G (d + 1) mX6_init 68 [some (.ref w), some (.ref t), some (.int (jI (wd_cnt tx m : Nat))), some (.int (jI c)), some (.int (jI i)), o5, o6] [] (wd_hp h w t (wd_cnt tx m + 2) (wd_S tx i.toNat)) bc bs (fun r h' => r = .inl none ∧ h' = wd_hp h w t (wd_cnt tx m + 2) (wd_starts m tx)) := by
  have hne : t ≠ w := fun e => by rw [e, hw] at ht; cases ht
  have hcb := wd_cnt_b tx m
  intro f
  induction f with
  | zero =>
    intro i c o5 o6 hi hc

    refine ji_iload dX6_init_68 rfl ?_
    refine ji_aload_n dX6_init_70 rfl trivial ?_
    refine ji_alen dX6_init_71 (wd_hp_t htl hne ht) (fun cy => rfl) ?_
    refine ji_icmp_ge (tgt := 108) dX6_init_72 rfl (by omega) (by omega) (fun c72 => ?_) (fun c72 => absurd c72 (by omega))
    refine ji_aload_n dX6_init_108 rfl trivial ?_
    refine ji_get (ci := 6) (k := 1) rfl dX6_init_109 lX6_15 (by decide) (wd_hp_w hwl) rfl ?_
    refine ji_iload_n dX6_init_112 rfl ?_
    refine ji_iconst dX6_init_113 ?_
    refine ji_iadd dX6_init_114 ?_
    refine ji_aload_n dX6_init_115 rfl trivial ?_
    refine ji_alen dX6_init_116 (wd_hp_t htl hne ht) (fun cy => rfl) ?_
    refine ji_iconst dX6_init_117 ?_
    refine ji_iadd dX6_init_118 ?_
    refine ji_iastoreE dX6_init_119 (wd_hp_q) (by omega) (wd_hp_s) ?_
    exact ji_return dX6_init_120 rfl ⟨rfl, by rw [show i.toNat = m by omega]; unfold wd_starts; congr 2⟩
  | succ f ih =>
    intro i c o5 o6 hi hc
    have hb := htx i.toNat
    have hc2 := wd_cnt_b tx i.toNat
    have e1 : (i + 1).toNat = i.toNat + 1 := by omega
    have e2 : tx i.toNat = 32 → wd_cnt tx i.toNat < wd_cnt tx m := fun q => wd_cnt_lt (by omega) q

    refine ji_iload dX6_init_68 rfl ?_
    refine ji_aload_n dX6_init_70 rfl trivial ?_
    refine ji_alen dX6_init_71 (wd_hp_t htl hne ht) (fun cy => rfl) ?_
    refine ji_icmp_ge (tgt := 108) dX6_init_72 rfl (by omega) (by omega) (fun c72 => absurd c72 (by omega)) (fun c72 => ?_)
    refine ji_aload_n dX6_init_75 rfl trivial ?_
    refine ji_iload dX6_init_76 rfl ?_
    refine ji_caload dX6_init_78 (wd_hp_t htl hne ht) (by omega) ?_
    refine ji_bipush dX6_init_79 rfl ?_
    refine ji_icmp_ne (tgt := 102) dX6_init_81 rfl (by omega) (by omega) (fun c81 => ?_) (fun c81 => ?_)
    · refine ji_iinc dX6_init_102 (by decide) rfl rfl ?_
      refine ji_goto (tgt := 68) dX6_init_105 rfl ?_
      first
      | exact ji_eqv (ih (i + 1) c o5 o6 (by omega) (by rw [e1, wd_cnt, if_neg (by omega)]; omega)) rfl rfl (by rw [e1, wd_S, if_neg (by omega)])
      | exact ji_eqv (ih (i + 1) (c + 1) o5 o6 (by omega) (by rw [e1, wd_cnt, if_pos (by omega)]; omega)) rfl rfl (by rw [e1, wd_S, if_pos (by omega), wd_cnt, if_pos (by omega)]; congr 2 <;> omega)
      | (exfalso; have := e2 (by omega); omega)
    · refine ji_iload_n dX6_init_84 rfl ?_
      refine ji_iload_n dX6_init_85 rfl ?_
      refine ji_icmp_ge (tgt := 102) dX6_init_86 rfl (by omega) (by omega) (fun c86 => ?_) (fun c86 => ?_)
      · refine ji_iinc dX6_init_102 (by decide) rfl rfl ?_
        refine ji_goto (tgt := 68) dX6_init_105 rfl ?_
        first
        | exact ji_eqv (ih (i + 1) c o5 o6 (by omega) (by rw [e1, wd_cnt, if_neg (by omega)]; omega)) rfl rfl (by rw [e1, wd_S, if_neg (by omega)])
        | exact ji_eqv (ih (i + 1) (c + 1) o5 o6 (by omega) (by rw [e1, wd_cnt, if_pos (by omega)]; omega)) rfl rfl (by rw [e1, wd_S, if_pos (by omega), wd_cnt, if_pos (by omega)]; congr 2 <;> omega)
        | (exfalso; have := e2 (by omega); omega)
      · refine ji_iinc dX6_init_89 (by decide) rfl rfl ?_
        refine ji_aload_n dX6_init_92 rfl trivial ?_
        refine ji_get (ci := 6) (k := 1) rfl dX6_init_93 lX6_15 (by decide) (wd_hp_w hwl) rfl ?_
        refine ji_iload_n dX6_init_96 rfl ?_
        refine ji_iload dX6_init_97 rfl ?_
        refine ji_iconst dX6_init_99 ?_
        refine ji_iadd dX6_init_100 ?_
        refine ji_iastoreE dX6_init_101 (wd_hp_q) (by omega) (wd_hp_s) ?_
        refine ji_iinc dX6_init_102 (by decide) rfl rfl ?_
        refine ji_goto (tgt := 68) dX6_init_105 rfl ?_
        first
        | exact ji_eqv (ih (i + 1) c o5 o6 (by omega) (by rw [e1, wd_cnt, if_neg (by omega)]; omega)) rfl rfl (by rw [e1, wd_S, if_neg (by omega)])
        | exact ji_eqv (ih (i + 1) (c + 1) o5 o6 (by omega) (by rw [e1, wd_cnt, if_pos (by omega)]; omega)) rfl rfl (by rw [e1, wd_S, if_pos (by omega), wd_cnt, if_pos (by omega)]; congr 2 <;> omega)
        | (exfalso; have := e2 (by omega); omega)

set_option maxHeartbeats 4000000 in
set_option maxRecDepth 100000 in
theorem k_Words_init_k {t : Nat} {v0 v1 : Value} (hw : h.2 w = .inl (6, [v0, v1])) (ht : h.2 t = .inr (.char, m, .inl tx)) (hwl : w < h.1) (htl : t < h.1) (hm : m ≤ 10000) (htx : ∀ j, 0 ≤ tx j ∧ tx j < 128) {o3 o4 o5 o6 : Option Value} : JW G (d + 1) mX6_init 54 [some (.ref w), some (.ref t), some (.int (jI (wd_cnt tx m : Nat))), o3, o4, o5, o6] [] (h.1, va_up h.2 w (.inl (6, [.ref t, v1]))) 1 (wd_cnt tx m + 2) (fun r h' => r = .inl none ∧ h' = wd_hp h w t (wd_cnt tx m + 2) (wd_starts m tx)) := by
  have hne : t ≠ w := fun e => by rw [e, hw] at ht; cases ht
  have hcb := wd_cnt_b tx m
  refine ji_aload_n dX6_init_54 rfl trivial ?_
  refine ji_iload_n dX6_init_55 rfl ?_
  refine ji_iconst dX6_init_56 ?_
  refine ji_iadd dX6_init_57 ?_
  refine ji_newI dX6_init_58 (by omega) (by omega) (by omega) ?_
  refine ji_putF (ci := 6) (k := 1) rfl dX6_init_60 lX6_15 (by decide) ((va_up_ne _ _ (show w ≠ h.1 by omega)).trans (va_up_self _ _ _)) (by simp) (ji_fitA _ trivial) rfl rfl rfl ?_
  refine ji_iconst dX6_init_63 ?_
  refine ji_istore_n dX6_init_64 (by decide) rfl ?_
  refine ji_iconst dX6_init_65 ?_
  refine ji_istore dX6_init_66 (by decide) rfl ?_
  refine ji_eqv (h2 := wd_hp h w t (wd_cnt tx m + 2) (wd_S tx 0)) ?_ rfl rfl ?_
  · exact k_Words_init_l2 hw ht hwl htl hm htx m 0 0 _ _ (by omega) rfl
  · unfold wd_hp; refine Prod.ext rfl ?_; show va_up (va_up (va_up h.2 w _) h.1 _) w _ = _; rw [va_up_comm _ (show h.1 ≠ w by omega), va_up_idem]; rfl

set_option maxHeartbeats 4000000 in
set_option maxRecDepth 100000 in
theorem k_Words_init {t : Nat} {v0 v1 : Value} (hw : h.2 w = .inl (6, [v0, v1])) (ht : h.2 t = .inr (.char, m, .inl tx)) (hwl : w < h.1) (htl : t < h.1) (hm : m ≤ 10000) (htx : ∀ j, 0 ≤ tx j ∧ tx j < 128) : JM G (d + 1) mX6_init [.ref w, .ref t] h 1 (wd_cnt tx m + 2) (fun r h' => r = .inl none ∧ h' = wd_hp h w t (wd_cnt tx m + 2) (wd_starts m tx)) := by
  have hne : t ≠ w := fun e => by rw [e, hw] at ht; cases ht
  have hcb := wd_cnt_b tx m
  refine ji_ent (by decide) rfl (Nat.le_of_ble_eq_true rfl) rfl ?_
  refine ji_aload_n dX6_init_0 rfl trivial ?_
  refine ji_objInit dX6_init_1 lX6_3 ji_wobj.1 ji_wobj.2 (Nat.le_of_ble_eq_true rfl) ?_
  refine ji_aload_n dX6_init_4 rfl trivial ?_
  refine ji_aload_n dX6_init_5 rfl trivial ?_
  refine ji_putF (ci := 6) (k := 0) rfl dX6_init_6 lX6_9 (by decide) (hw) (by simp) (ji_fitA _ trivial) rfl rfl rfl ?_
  refine ji_iconst dX6_init_9 ?_
  refine ji_istore_n dX6_init_10 (by decide) rfl ?_
  refine ji_aload_n dX6_init_11 rfl trivial ?_
  refine ji_astore_n dX6_init_12 (by decide) trivial rfl ?_
  refine ji_aload_n dX6_init_13 rfl trivial ?_
  refine ji_alen dX6_init_14 ((va_up_ne _ _ hne).trans ht) (fun cy => rfl) ?_
  refine ji_istore dX6_init_15 (by decide) rfl ?_
  refine ji_iconst dX6_init_17 ?_
  refine ji_istore dX6_init_18 (by decide) rfl ?_
  exact k_Words_init_l1 hw ht hwl htl hm htx (k_Words_init_k hw ht hwl htl hm htx) m 0 0 _ (by omega) rfl

def wd_spl (m : Nat) (tx co : Nat → Int) (a b c : Nat) : Nat → Int := va_cpy tx (va_cpy co (va_cpy tx (fun _ => 0) 0 0 a) 0 a c) b (a + c) (m - b)
theorem wd_spl_at (m : Nat) (tx co : Nat → Int) {a b c : Nat} (h1 : a ≤ b) (h2 : b ≤ m) (k : Nat) : wd_spl m tx co a b c k = if k < a then tx k else if k < a + c then co (k - a) else if k < m - (b - a) + c then tx (k - c - a + b) else 0 := by
  unfold wd_spl va_cpy
  by_cases q1 : k < a
  · rw [if_neg (by omega), if_neg (by omega), if_pos (by omega), if_pos q1]; congr 1; omega
  · rw [if_neg q1]
    by_cases q2 : k < a + c
    · rw [if_neg (by omega), if_pos (by omega), if_pos q2]; congr 1; omega
    · rw [if_neg q2]
      by_cases q3 : k < m - (b - a) + c
      · rw [if_pos (by omega), if_pos q3]; congr 1; omega
      · rw [if_neg (by omega), if_neg (by omega), if_neg (by omega), if_neg q3]
theorem wd_spl_b {m : Nat} {tx co : Nat → Int} {a b c : Nat} (h1 : ∀ j, 0 ≤ tx j ∧ tx j < 128) (h2 : ∀ j, 0 ≤ co j ∧ co j < 128) (j : Nat) : 0 ≤ wd_spl m tx co a b c j ∧ wd_spl m tx co a b c j < 128 := by
  unfold wd_spl va_cpy
  split
  · exact h1 _
  · split
    · exact h2 _
    · split
      · exact h1 _
      · show (0 : Int) ≤ 0 ∧ (0 : Int) < 128; omega
theorem wd_char {x : Int} (h : 0 ≤ x ∧ x < 128) : fits .char (.int (jI x)) = true := by
  have a1 : (0 : Int32) ≤ jI x := by rw [show (0 : Int32) = jI 0 from rfl, jI_le (by omega) (by omega)]; omega
  have a2 : jI x ≤ (65535 : Int32) := by rw [show (65535 : Int32) = jI 65535 from rfl, jI_le (by omega) (by omega)]; omega
  simp only [fits, Bool.and_eq_true, decide_eq_true_eq]
  exact ⟨a1, a2⟩
theorem wd_S_b (tx : Nat → Int) : ∀ (j : Nat) (k : Nat), 0 ≤ wd_S tx j k ∧ wd_S tx j k ≤ j
  | 0, k => by simp [wd_S]
  | j + 1, k => by
    have := wd_S_b tx j k
    unfold wd_S
    split
    · unfold va_up; split <;> omega
    · omega
theorem wd_starts_b (m : Nat) (tx : Nat → Int) (k : Nat) : 0 ≤ wd_starts m tx k ∧ wd_starts m tx k ≤ m + 1 := by
  have := wd_S_b tx m k
  unfold wd_starts va_up
  split <;> omega

/-- k cells more, nothing else -/
def ji_ext (h h' : ji_H) (k : Nat) : Prop := h'.1 = h.1 + k ∧ ∀ a, a < h.1 → h'.2 a = h.2 a
theorem ji_ext.keep {h h' : ji_H} {k : Nat} (e : ji_ext h h' k) : ji_keep h h' := ⟨by rw [e.1]; omega, fun a _ ha => e.2 a ha⟩
theorem ji_ext.trans {h1 h2 h3 : ji_H} {a b : Nat} (e : ji_ext h1 h2 a) (g : ji_ext h2 h3 b) : ji_ext h1 h3 (a + b) := ⟨by rw [g.1, e.1]; omega, fun q hq => by rw [g.2 q (by rw [e.1]; omega), e.2 q hq]⟩

set_option maxHeartbeats 4000000 in
set_option maxRecDepth 100000 in
theorem k_Words_spliced (hat : wd_at h w m n tx s) (hk : wd_ok m n tx s) {u a b c : Nat} {co : Nat → Int} (hu : h.2 u = .inr (.char, c, .inl co)) (hul : u < h.1) (hco : ∀ j, 0 ≤ co j ∧ co j < 128) (h1 : a ≤ b) (h2 : b ≤ m) (h3 : m - (b - a) + c ≤ 10000) (h4 : 72 ≤ h.1)
    : JM G (d + 2) mX6_spliced [.ref w, .int (jI a), .int (jI b), .ref u] h 3 (m - (b - a) + c + 2 + (wd_cnt (wd_spl m tx co a b c) (m - (b - a) + c) + 2)) (fun r h' => r = .inl (some (.ref (h.1 + 1))) ∧ ji_ext h h' 3 ∧ wd_at h' (h.1 + 1) (m - (b - a) + c) (wd_cnt (wd_spl m tx co a b c) (m - (b - a) + c) + 1) (wd_spl m tx co a b c) (wd_starts (m - (b - a) + c) (wd_spl m tx co a b c))) := by
  have hat0 := hat
  obtain ⟨t, q, hw, ht, hq, hdy, hlt⟩ := hat
  obtain ⟨k1, k2, k3, k4⟩ := id hk
  have hcb := wd_cnt_b (wd_spl m tx co a b c) (m - (b - a) + c)
  have e1 : ((m : Int) - ((b : Int) - a) + c).toNat = m - (b - a) + c := by omega
  have e2 : (0 : Int).toNat = 0 := rfl
  refine ji_ent (by decide) rfl (Nat.le_of_ble_eq_true rfl) rfl ?_
  refine ji_iload_n dX6_spliced_0 rfl ?_
  refine ji_if_lt (tgt := 18) dX6_spliced_1 rfl (by omega) (fun c1 => absurd c1 (by omega)) (fun c1 => ?_)
  refine ji_iload_n dX6_spliced_4 rfl ?_
  refine ji_iload_n dX6_spliced_5 rfl ?_
  refine ji_icmp_lt (tgt := 18) dX6_spliced_6 rfl (by omega) (by omega) (fun c6 => absurd c6 (by omega)) (fun c6 => ?_)
  refine ji_iload_n dX6_spliced_9 rfl ?_
  refine ji_aload_n dX6_spliced_10 rfl trivial ?_
  refine ji_get (ci := 6) (k := 0) rfl dX6_spliced_11 lX6_9 (by decide) (hw) rfl ?_
  refine ji_alen dX6_spliced_14 (ht) (fun cy => rfl) ?_
  refine ji_icmp_le (tgt := 20) dX6_spliced_15 rfl (by omega) (by omega) (fun c15 => ?_) (fun c15 => absurd c15 (by omega))
  refine ji_aload_n dX6_spliced_20 rfl trivial ?_
  refine ji_get (ci := 6) (k := 0) rfl dX6_spliced_21 lX6_9 (by decide) (hw) rfl ?_
  refine ji_alen dX6_spliced_24 (ht) (fun cy => rfl) ?_
  refine ji_iload_n dX6_spliced_25 rfl ?_
  refine ji_iload_n dX6_spliced_26 rfl ?_
  refine ji_isub dX6_spliced_27 ?_
  refine ji_isub dX6_spliced_28 ?_
  refine ji_aload_n dX6_spliced_29 rfl trivial ?_
  refine ji_alen dX6_spliced_30 (hu) (fun cy => rfl) ?_
  refine ji_iadd dX6_spliced_31 ?_
  refine ji_newC dX6_spliced_32 (by omega) (by omega) (by omega) ?_
  refine ji_astore dX6_spliced_34 (by decide) trivial rfl ?_
  refine ji_aload_n dX6_spliced_36 rfl trivial ?_
  refine ji_get (ci := 6) (k := 0) rfl dX6_spliced_37 lX6_9 (by decide) ((va_up_ne _ _ (by omega)).trans (hw)) rfl ?_
  refine ji_iconst dX6_spliced_40 ?_
  refine ji_aload dX6_spliced_41 rfl trivial ?_
  refine ji_iconst dX6_spliced_43 ?_
  refine ji_iload_n dX6_spliced_44 rfl ?_
  refine ji_acopy dX6_spliced_45 lX6_37 ((va_up_ne _ _ (by omega)).trans (ht)) (va_up_self _ _ _) (fun cy => rfl) rfl (by omega) (by omega) (by omega) (by omega) (fun i hi => wd_char (k4 _)) (Nat.le_of_ble_eq_true rfl) ?_
  refine ji_aload_n dX6_spliced_48 rfl trivial ?_
  refine ji_iconst dX6_spliced_49 ?_
  refine ji_aload dX6_spliced_50 rfl trivial ?_
  refine ji_iload_n dX6_spliced_52 rfl ?_
  refine ji_aload_n dX6_spliced_53 rfl trivial ?_
  refine ji_alen dX6_spliced_54 ((va_up_ne _ _ (by omega)).trans ((va_up_ne _ _ (by omega)).trans (hu))) (fun cy => rfl) ?_
  refine ji_acopy dX6_spliced_55 lX6_37 ((va_up_ne _ _ (by omega)).trans ((va_up_ne _ _ (by omega)).trans (hu))) (va_up_self _ _ _) (fun cy => rfl) rfl (by omega) (by omega) (by omega) (by omega) (fun i hi => wd_char (hco _)) (Nat.le_of_ble_eq_true rfl) ?_
  refine ji_aload_n dX6_spliced_58 rfl trivial ?_
  refine ji_get (ci := 6) (k := 0) rfl dX6_spliced_59 lX6_9 (by decide) ((va_up_ne _ _ (by omega)).trans ((va_up_ne _ _ (by omega)).trans ((va_up_ne _ _ (by omega)).trans (hw)))) rfl ?_
  refine ji_iload_n dX6_spliced_62 rfl ?_
  refine ji_aload dX6_spliced_63 rfl trivial ?_
  refine ji_iload_n dX6_spliced_65 rfl ?_
  refine ji_aload_n dX6_spliced_66 rfl trivial ?_
  refine ji_alen dX6_spliced_67 ((va_up_ne _ _ (by omega)).trans ((va_up_ne _ _ (by omega)).trans ((va_up_ne _ _ (by omega)).trans (hu)))) (fun cy => rfl) ?_
  refine ji_iadd dX6_spliced_68 ?_
  refine ji_aload_n dX6_spliced_69 rfl trivial ?_
  refine ji_get (ci := 6) (k := 0) rfl dX6_spliced_70 lX6_9 (by decide) ((va_up_ne _ _ (by omega)).trans ((va_up_ne _ _ (by omega)).trans ((va_up_ne _ _ (by omega)).trans (hw)))) rfl ?_
  refine ji_alen dX6_spliced_73 ((va_up_ne _ _ (by omega)).trans ((va_up_ne _ _ (by omega)).trans ((va_up_ne _ _ (by omega)).trans (ht)))) (fun cy => rfl) ?_
  refine ji_iload_n dX6_spliced_74 rfl ?_
  refine ji_isub dX6_spliced_75 ?_
  refine ji_acopy dX6_spliced_76 lX6_37 ((va_up_ne _ _ (by omega)).trans ((va_up_ne _ _ (by omega)).trans ((va_up_ne _ _ (by omega)).trans (ht)))) (va_up_self _ _ _) (fun cy => rfl) rfl (by omega) (by omega) (by omega) (by omega) (fun i hi => wd_char (k4 _)) (Nat.le_of_ble_eq_true rfl) ?_
  refine ji_new (ci := 6) (fs := [.null, .null]) rfl dX6_spliced_79 lX6_10 (fun G ad => by simp [ji_vs, ji_v]) (by decide) (by omega) (by omega) ?_
  refine ji_dup dX6_spliced_82 rfl ?_
  refine ji_aload dX6_spliced_83 rfl trivial ?_
  refine ji_callI dX6_spliced_85 (k_Words_init (v0 := .null) (v1 := .null) (m := m - (b - a) + c) (tx := wd_spl m tx co a b c) (va_up_self _ _ _) ((va_up_ne _ _ (by show h.1 ≠ h.1 + 1; omega)).trans ?_) (by show h.1 + 1 < h.1 + 1 + 1; omega) (by show h.1 < h.1 + 1 + 1; omega) (by omega) (wd_spl_b k4 hco)) rfl wX6_init rfl rfl iX6_init lX6_43 rfl (Nat.le_of_ble_eq_true rfl) rfl (by omega) (by omega) (fun r h' q => ?_) (fun E h' q => by cases q.1)
  · refine (va_up_self _ _ _).trans ?_; rw [e1, e2]; unfold wd_spl; rw [show ((m : Int) - b).toNat = m - b by omega, show ((a : Int) + c).toNat = a + c by omega, Int.toNat_natCast, Int.toNat_natCast, Int.toNat_natCast]
  obtain ⟨hq1, rfl⟩ := q
  cases hq1
  exact ji_areturn dX6_spliced_88 rfl (Or.inl ⟨_, rfl⟩) trivial ⟨rfl, ⟨rfl, fun q hq => (va_up_ne _ _ (by first | omega | (show q ≠ h.1 + 1; omega) | (show q ≠ h.1 + 1 + 1; omega))).trans ((va_up_ne _ _ (by first | omega | (show q ≠ h.1 + 1; omega) | (show q ≠ h.1 + 1 + 1; omega))).trans ((va_up_ne _ _ (by first | omega | (show q ≠ h.1 + 1; omega) | (show q ≠ h.1 + 1 + 1; omega))).trans ((va_up_ne _ _ (by first | omega | (show q ≠ h.1 + 1; omega) | (show q ≠ h.1 + 1 + 1; omega))).trans ((va_up_ne _ _ (by first | omega | (show q ≠ h.1 + 1; omega) | (show q ≠ h.1 + 1 + 1; omega))).trans ((va_up_ne _ _ (by first | omega | (show q ≠ h.1 + 1; omega) | (show q ≠ h.1 + 1 + 1; omega))).trans ((va_up_ne _ _ (by first | omega | (show q ≠ h.1 + 1; omega) | (show q ≠ h.1 + 1 + 1; omega)))))))))⟩, h.1, h.1 + 1 + 1, wd_hp_w (by show h.1 + 1 < h.1 + 1 + 1; omega), wd_hp_t (by show h.1 < h.1 + 1 + 1; omega) (by omega) ((va_up_ne _ _ (by show h.1 ≠ h.1 + 1; omega)).trans (by refine (va_up_self _ _ _).trans ?_; rw [e1, e2]; unfold wd_spl; rw [show ((m : Int) - b).toNat = m - b by omega, show ((a : Int) + c).toNat = a + c by omega, Int.toNat_natCast, Int.toNat_natCast, Int.toNat_natCast])), wd_hp_q, ⟨Or.inr (by omega), Or.inr (by omega), Or.inr (by omega)⟩, (by show h.1 + 1 < h.1 + 1 + 1 + 1; omega), (by show h.1 < h.1 + 1 + 1 + 1; omega), (by show h.1 + 1 + 1 < h.1 + 1 + 1 + 1; omega)⟩

end MWords
