/-! ===== Book ===== -/
/-- a book: length of its text, number of words, of paragraphs; characters, starts of words, kinds, first words -/
abbrev bk_T : Type := Nat × Nat × Nat × (Nat → Int) × (Nat → Int) × (Nat → Int) × (Nat → Int)
def bk_m (B : bk_T) : Nat := B.1
def bk_n (B : bk_T) : Nat := B.2.1
def bk_P (B : bk_T) : Nat := B.2.2.1
def bk_tx (B : bk_T) : Nat → Int := B.2.2.2.1
def bk_s (B : bk_T) : Nat → Int := B.2.2.2.2.1
def bk_kd (B : bk_T) : Nat → Int := B.2.2.2.2.2.1
def bk_fr (B : bk_T) : Nat → Int := B.2.2.2.2.2.2
def bk_at (h : ji_H) (b : Nat) (B : bk_T) : Prop := ∃ w kq fq : Nat, h.2 b = .inl (0, [.ref w, .ref kq, .ref fq]) ∧ h.2 kq = .inr (.int, bk_P B, .inl (bk_kd B)) ∧ h.2 fq = .inr (.int, bk_P B + 1, .inl (bk_fr B)) ∧ wd_at h w (bk_m B) (bk_n B) (bk_tx B) (bk_s B) ∧ (ji_dy b ∧ ji_dy kq ∧ ji_dy fq) ∧ b < h.1 ∧ kq < h.1 ∧ fq < h.1
def bk_ok (B : bk_T) : Prop := wd_ok (bk_m B) (bk_n B) (bk_tx B) (bk_s B) ∧ (1 ≤ bk_P B ∧ bk_P B ≤ 10) ∧ (∀ j, 0 ≤ bk_kd B j ∧ bk_kd B j ≤ 2) ∧ ∀ j, 0 ≤ bk_fr B j ∧ bk_fr B j ≤ 10000
theorem bk_at.kept {h h' : ji_H} {b : Nat} {B : bk_T} (hb : bk_at h b B) (hk : ji_keep h h') : bk_at h' b B := by
  obtain ⟨w, kq, fq, h1, h2, h3, h4, ⟨d1, d2, d3⟩, l1, l2, l3⟩ := hb
  have := hk.1
  exact ⟨w, kq, fq, by rw [hk.2 _ d1 l1]; exact h1, by rw [hk.2 _ d2 l2]; exact h2, by rw [hk.2 _ d3 l3]; exact h3, h4.kept hk, ⟨d1, d2, d3⟩, by omega, by omega, by omega⟩
def bk_kind (B : bk_T) (p : Int) : Int := if 0 ≤ p ∧ p < bk_P B then bk_kd B p.toNat else 0
def bk_fw (B : bk_T) (p : Int) : Int := if 0 ≤ p ∧ p < bk_P B + 1 then bk_fr B p.toNat else 0
def bk_ws (B : bk_T) (k : Int) : Int := wd_start (bk_m B) (bk_n B) (bk_s B) k
def bk_start (B : bk_T) (p : Int) : Int := bk_ws B (bk_fw B p)
def bk_end (B : bk_T) (p : Int) : Int := bk_ws B (bk_fw B (p + 1)) - 1
def bk_pa (B : bk_T) (place : Int) : Nat → Int
  | 0 => 0
  | p + 1 => if place < bk_start B ((p + 1 : Nat) : Int) then bk_pa B place p else ((p + 1 : Nat) : Int)
def bk_PA (B : bk_T) (place : Int) : Int := bk_pa B place (bk_P B - 1)
def bk_pos (B : bk_T) (place : Int) : Int := 1000 * bk_PA B place + place - bk_start B (bk_PA B place)
theorem bk_fw_b {B : bk_T} (hk : bk_ok B) (p : Int) : 0 ≤ bk_fw B p ∧ bk_fw B p ≤ 10000 := by
  unfold bk_fw; split
  · exact hk.2.2.2 _
  · omega
theorem bk_ws_b {B : bk_T} (hk : bk_ok B) (p : Int) : 0 ≤ bk_ws B p ∧ bk_ws B p ≤ 10001 := wd_start_b hk.1 p
theorem bk_pa_b (B : bk_T) (place : Int) : ∀ p : Nat, 0 ≤ bk_pa B place p ∧ bk_pa B place p ≤ p
  | 0 => by simp [bk_pa]
  | p + 1 => by
    have := bk_pa_b B place p
    unfold bk_pa; split <;> omega
section MBook
variable {G : ji_G} {d : Nat} {h : ji_H} {b : Nat} {B : bk_T}

set_option maxHeartbeats 4000000 in
set_option maxRecDepth 100000 in
theorem k_Book_words (hat : bk_at h b B) (hk : bk_ok B) : ∃ w, wd_at h w (bk_m B) (bk_n B) (bk_tx B) (bk_s B) ∧ ∀ {d : Nat}, JR G d mX0_words [.ref b] h 0 0 (some (.ref w)) h := by
  have hat0 := hat
  obtain ⟨w, kq, fq, hb, hkd, hfr, hwd, hdy, hlt⟩ := hat
  have hwd0 := hwd
  obtain ⟨t9, q9, hw, -⟩ := hwd
  obtain ⟨hko, k1, k2, k3⟩ := id hk
  have hko0 := hko
  obtain ⟨o1, o2, o3, o4⟩ := hko
  refine ⟨w, hwd0, fun {d} => ?_⟩
  refine ji_ent (by decide) rfl (Nat.le_of_ble_eq_true rfl) rfl ?_
  refine ji_aload_n dX0_words_0 rfl trivial ?_
  refine ji_get (ci := 0) (k := 0) rfl dX0_words_1 lX0_9 (by decide) (hb) rfl ?_
  exact ji_areturn dX0_words_4 rfl (Or.inl ⟨_, rfl⟩) trivial ⟨rfl, rfl⟩

set_option maxHeartbeats 4000000 in
set_option maxRecDepth 100000 in
theorem k_Book_paragraphs (hat : bk_at h b B) (hk : bk_ok B)  : JR G d mX0_paragraphs [.ref b] h 0 0 (some (.int (jI ((bk_P B : Int))))) h := by
  have hat0 := hat
  obtain ⟨w, kq, fq, hb, hkd, hfr, hwd, hdy, hlt⟩ := hat
  have hwd0 := hwd
  obtain ⟨t9, q9, hw, -⟩ := hwd
  obtain ⟨hko, k1, k2, k3⟩ := id hk
  have hko0 := hko
  obtain ⟨o1, o2, o3, o4⟩ := hko
  refine ji_ent (by decide) rfl (Nat.le_of_ble_eq_true rfl) rfl ?_
  refine ji_aload_n dX0_paragraphs_0 rfl trivial ?_
  refine ji_get (ci := 0) (k := 1) rfl dX0_paragraphs_1 lX0_15 (by decide) (hb) rfl ?_
  refine ji_alen dX0_paragraphs_4 (hkd) (fun cy => rfl) ?_
  exact ji_ireturn dX0_paragraphs_5 rfl (rfl) ⟨jr_i (by omega), rfl⟩

set_option maxHeartbeats 4000000 in
set_option maxRecDepth 100000 in
theorem k_Book_kindOf (hat : bk_at h b B) (hk : bk_ok B) {p : Int} (hp : -100000 ≤ p ∧ p ≤ 100000) : JR G d mX0_kindOf [.ref b, .int (jI (p))] h 0 0 (some (.int (jI (bk_kind B p)))) h := by
  have hat0 := hat
  obtain ⟨w, kq, fq, hb, hkd, hfr, hwd, hdy, hlt⟩ := hat
  have hwd0 := hwd
  obtain ⟨t9, q9, hw, -⟩ := hwd
  obtain ⟨hko, k1, k2, k3⟩ := id hk
  have hko0 := hko
  obtain ⟨o1, o2, o3, o4⟩ := hko
  refine ji_ent (by decide) rfl (Nat.le_of_ble_eq_true rfl) rfl ?_
  refine ji_iload_n dX0_kindOf_0 rfl ?_
  refine ji_if_lt (tgt := 22) dX0_kindOf_1 rfl (by omega) (fun c1 => ?_) (fun c1 => ?_)
  · refine ji_iconst dX0_kindOf_22 ?_
    exact ji_ireturn dX0_kindOf_23 rfl (rfl) ⟨jr_i (by unfold bk_kind; first | (rw [if_pos (by omega)] <;> omega) | (rw [if_neg (by omega)] <;> omega)), rfl⟩
  · refine ji_iload_n dX0_kindOf_4 rfl ?_
    refine ji_aload_n dX0_kindOf_5 rfl trivial ?_
    refine ji_get (ci := 0) (k := 1) rfl dX0_kindOf_6 lX0_15 (by decide) (hb) rfl ?_
    refine ji_alen dX0_kindOf_9 (hkd) (fun cy => rfl) ?_
    refine ji_icmp_ge (tgt := 22) dX0_kindOf_10 rfl (by omega) (by omega) (fun c10 => ?_) (fun c10 => ?_)
    · refine ji_iconst dX0_kindOf_22 ?_
      exact ji_ireturn dX0_kindOf_23 rfl (rfl) ⟨jr_i (by unfold bk_kind; first | (rw [if_pos (by omega)] <;> omega) | (rw [if_neg (by omega)] <;> omega)), rfl⟩
    · refine ji_aload_n dX0_kindOf_13 rfl trivial ?_
      refine ji_get (ci := 0) (k := 1) rfl dX0_kindOf_14 lX0_15 (by decide) (hb) rfl ?_
      refine ji_iload_n dX0_kindOf_17 rfl ?_
      refine ji_iaload dX0_kindOf_18 (hkd) (by omega) ?_
      refine ji_goto (tgt := 23) dX0_kindOf_19 rfl ?_
      exact ji_ireturn dX0_kindOf_23 rfl (rfl) ⟨jr_i (by unfold bk_kind; first | (rw [if_pos (by omega)] <;> omega) | (rw [if_neg (by omega)] <;> omega)), rfl⟩

set_option maxHeartbeats 4000000 in
set_option maxRecDepth 100000 in
theorem k_Book_firstWordOf (hat : bk_at h b B) (hk : bk_ok B) {p : Int} (hp : -100000 ≤ p ∧ p ≤ 100000) : JR G d mX0_firstWordOf [.ref b, .int (jI (p))] h 0 0 (some (.int (jI (bk_fw B p)))) h := by
  have hat0 := hat
  obtain ⟨w, kq, fq, hb, hkd, hfr, hwd, hdy, hlt⟩ := hat
  have hwd0 := hwd
  obtain ⟨t9, q9, hw, -⟩ := hwd
  obtain ⟨hko, k1, k2, k3⟩ := id hk
  have hko0 := hko
  obtain ⟨o1, o2, o3, o4⟩ := hko
  refine ji_ent (by decide) rfl (Nat.le_of_ble_eq_true rfl) rfl ?_
  refine ji_iload_n dX0_firstWordOf_0 rfl ?_
  refine ji_if_lt (tgt := 22) dX0_firstWordOf_1 rfl (by omega) (fun c1 => ?_) (fun c1 => ?_)
  · refine ji_iconst dX0_firstWordOf_22 ?_
    exact ji_ireturn dX0_firstWordOf_23 rfl (rfl) ⟨jr_i (by unfold bk_fw; first | (rw [if_pos (by omega)] <;> omega) | (rw [if_neg (by omega)] <;> omega)), rfl⟩
  · refine ji_iload_n dX0_firstWordOf_4 rfl ?_
    refine ji_aload_n dX0_firstWordOf_5 rfl trivial ?_
    refine ji_get (ci := 0) (k := 2) rfl dX0_firstWordOf_6 lX0_19 (by decide) (hb) rfl ?_
    refine ji_alen dX0_firstWordOf_9 (hfr) (fun cy => rfl) ?_
    refine ji_icmp_ge (tgt := 22) dX0_firstWordOf_10 rfl (by omega) (by omega) (fun c10 => ?_) (fun c10 => ?_)
    · refine ji_iconst dX0_firstWordOf_22 ?_
      exact ji_ireturn dX0_firstWordOf_23 rfl (rfl) ⟨jr_i (by unfold bk_fw; first | (rw [if_pos (by omega)] <;> omega) | (rw [if_neg (by omega)] <;> omega)), rfl⟩
    · refine ji_aload_n dX0_firstWordOf_13 rfl trivial ?_
      refine ji_get (ci := 0) (k := 2) rfl dX0_firstWordOf_14 lX0_19 (by decide) (hb) rfl ?_
      refine ji_iload_n dX0_firstWordOf_17 rfl ?_
      refine ji_iaload dX0_firstWordOf_18 (hfr) (by omega) ?_
      refine ji_goto (tgt := 23) dX0_firstWordOf_19 rfl ?_
      exact ji_ireturn dX0_firstWordOf_23 rfl (rfl) ⟨jr_i (by unfold bk_fw; first | (rw [if_pos (by omega)] <;> omega) | (rw [if_neg (by omega)] <;> omega)), rfl⟩

set_option maxHeartbeats 4000000 in
set_option maxRecDepth 100000 in
theorem k_Book_wordsOf (hat : bk_at h b B) (hk : bk_ok B) {p : Int} (hp : -10000 ≤ p ∧ p ≤ 10000) : JR G (d + 1) mX0_wordsOf [.ref b, .int (jI (p))] h 0 0 (some (.int (jI (bk_fw B (p + 1) - bk_fw B p)))) h := by
  have hat0 := hat
  obtain ⟨w, kq, fq, hb, hkd, hfr, hwd, hdy, hlt⟩ := hat
  have hwd0 := hwd
  obtain ⟨t9, q9, hw, -⟩ := hwd
  obtain ⟨hko, k1, k2, k3⟩ := id hk
  have hko0 := hko
  obtain ⟨o1, o2, o3, o4⟩ := hko
  have q1 := bk_fw_b hk p
  have q2 := bk_fw_b hk (p + 1)
  refine ji_ent (by decide) rfl (Nat.le_of_ble_eq_true rfl) rfl ?_
  refine ji_aload_n dX0_wordsOf_0 rfl trivial ?_
  refine ji_iload_n dX0_wordsOf_1 rfl ?_
  refine ji_iconst dX0_wordsOf_2 ?_
  refine ji_iadd dX0_wordsOf_3 ?_
  refine ji_cV dX0_wordsOf_4 (k_Book_firstWordOf hat0 hk (by omega)) rfl (hb) rfl rfl wX0_firstWordOf vX0_firstWordOf lX0_22 rfl (Nat.le_of_ble_eq_true rfl) rfl ?_
  refine ji_aload_n dX0_wordsOf_7 rfl trivial ?_
  refine ji_iload_n dX0_wordsOf_8 rfl ?_
  refine ji_cV dX0_wordsOf_9 (k_Book_firstWordOf hat0 hk (by omega)) rfl (hb) rfl rfl wX0_firstWordOf vX0_firstWordOf lX0_22 rfl (Nat.le_of_ble_eq_true rfl) rfl ?_
  refine ji_isub dX0_wordsOf_12 ?_
  exact ji_ireturn dX0_wordsOf_13 rfl (rfl) ⟨jr_i (by omega), rfl⟩

set_option maxHeartbeats 4000000 in
set_option maxRecDepth 100000 in
theorem k_Book_placeOfWord (hat : bk_at h b B) (hk : bk_ok B) {p : Int} (hp : -10000 ≤ p ∧ p ≤ 10000) {k : Int} (hk2 : -10000 ≤ k ∧ k ≤ 10000) : JR G (d + 1) mX0_placeOfWord [.ref b, .int (jI (p)), .int (jI (k))] h 0 0 (some (.int (jI (bk_ws B (bk_fw B p + k))))) h := by
  have hat0 := hat
  obtain ⟨w, kq, fq, hb, hkd, hfr, hwd, hdy, hlt⟩ := hat
  have hwd0 := hwd
  obtain ⟨t9, q9, hw, -⟩ := hwd
  obtain ⟨hko, k1, k2, k3⟩ := id hk
  have hko0 := hko
  obtain ⟨o1, o2, o3, o4⟩ := hko
  have q1 := bk_fw_b hk p
  have q2 := bk_fw_b hk (p + 1)
  refine ji_ent (by decide) rfl (Nat.le_of_ble_eq_true rfl) rfl ?_
  refine ji_aload_n dX0_placeOfWord_0 rfl trivial ?_
  refine ji_get (ci := 0) (k := 0) rfl dX0_placeOfWord_1 lX0_9 (by decide) (hb) rfl ?_
  refine ji_aload_n dX0_placeOfWord_4 rfl trivial ?_
  refine ji_iload_n dX0_placeOfWord_5 rfl ?_
  refine ji_cV dX0_placeOfWord_6 (k_Book_firstWordOf hat0 hk (by omega)) rfl (hb) rfl rfl wX0_firstWordOf vX0_firstWordOf lX0_22 rfl (Nat.le_of_ble_eq_true rfl) rfl ?_
  refine ji_iload_n dX0_placeOfWord_9 rfl ?_
  refine ji_iadd dX0_placeOfWord_10 ?_
  refine ji_cV dX0_placeOfWord_11 (k_Words_startOf hwd0 hko0 (by omega)) rfl (hw) rfl rfl wX6_startOf vX6_startOf lX0_26 rfl (Nat.le_of_ble_eq_true rfl) rfl ?_
  exact ji_ireturn dX0_placeOfWord_14 rfl (rfl) ⟨rfl, rfl⟩

set_option maxHeartbeats 4000000 in
set_option maxRecDepth 100000 in
theorem k_Book_startOf (hat : bk_at h b B) (hk : bk_ok B) {p : Int} (hp : -10000 ≤ p ∧ p ≤ 10000) : JR G (d + 1) mX0_startOf [.ref b, .int (jI (p))] h 0 0 (some (.int (jI (bk_start B p)))) h := by
  have hat0 := hat
  obtain ⟨w, kq, fq, hb, hkd, hfr, hwd, hdy, hlt⟩ := hat
  have hwd0 := hwd
  obtain ⟨t9, q9, hw, -⟩ := hwd
  obtain ⟨hko, k1, k2, k3⟩ := id hk
  have hko0 := hko
  obtain ⟨o1, o2, o3, o4⟩ := hko
  have q1 := bk_fw_b hk p
  have q2 := bk_fw_b hk (p + 1)
  refine ji_ent (by decide) rfl (Nat.le_of_ble_eq_true rfl) rfl ?_
  refine ji_aload_n dX0_startOf_0 rfl trivial ?_
  refine ji_get (ci := 0) (k := 0) rfl dX0_startOf_1 lX0_9 (by decide) (hb) rfl ?_
  refine ji_aload_n dX0_startOf_4 rfl trivial ?_
  refine ji_iload_n dX0_startOf_5 rfl ?_
  refine ji_cV dX0_startOf_6 (k_Book_firstWordOf hat0 hk (by omega)) rfl (hb) rfl rfl wX0_firstWordOf vX0_firstWordOf lX0_22 rfl (Nat.le_of_ble_eq_true rfl) rfl ?_
  refine ji_cV dX0_startOf_9 (k_Words_startOf hwd0 hko0 (by omega)) rfl (hw) rfl rfl wX6_startOf vX6_startOf lX0_26 rfl (Nat.le_of_ble_eq_true rfl) rfl ?_
  exact ji_ireturn dX0_startOf_12 rfl (rfl) ⟨rfl, rfl⟩

set_option maxHeartbeats 4000000 in
set_option maxRecDepth 100000 in
theorem k_Book_endOf (hat : bk_at h b B) (hk : bk_ok B) {p : Int} (hp : -10000 ≤ p ∧ p ≤ 10000) : JR G (d + 1) mX0_endOf [.ref b, .int (jI (p))] h 0 0 (some (.int (jI (bk_end B p)))) h := by
  have hat0 := hat
  obtain ⟨w, kq, fq, hb, hkd, hfr, hwd, hdy, hlt⟩ := hat
  have hwd0 := hwd
  obtain ⟨t9, q9, hw, -⟩ := hwd
  obtain ⟨hko, k1, k2, k3⟩ := id hk
  have hko0 := hko
  obtain ⟨o1, o2, o3, o4⟩ := hko
  have q1 := bk_fw_b hk p
  have q2 := bk_fw_b hk (p + 1)
  refine ji_ent (by decide) rfl (Nat.le_of_ble_eq_true rfl) rfl ?_
  refine ji_aload_n dX0_endOf_0 rfl trivial ?_
  refine ji_get (ci := 0) (k := 0) rfl dX0_endOf_1 lX0_9 (by decide) (hb) rfl ?_
  refine ji_aload_n dX0_endOf_4 rfl trivial ?_
  refine ji_iload_n dX0_endOf_5 rfl ?_
  refine ji_iconst dX0_endOf_6 ?_
  refine ji_iadd dX0_endOf_7 ?_
  refine ji_cV dX0_endOf_8 (k_Book_firstWordOf hat0 hk (by omega)) rfl (hb) rfl rfl wX0_firstWordOf vX0_firstWordOf lX0_22 rfl (Nat.le_of_ble_eq_true rfl) rfl ?_
  refine ji_cV dX0_endOf_11 (k_Words_startOf hwd0 hko0 (by omega)) rfl (hw) rfl rfl wX6_startOf vX6_startOf lX0_26 rfl (Nat.le_of_ble_eq_true rfl) rfl ?_
  refine ji_iconst dX0_endOf_14 ?_
  refine ji_isub dX0_endOf_15 ?_
  exact ji_ireturn dX0_endOf_16 rfl (rfl) ⟨rfl, rfl⟩

set_option maxHeartbeats 4000000 in
set_option maxRecDepth 100000 in
theorem k_Book_lengthOf (hat : bk_at h b B) (hk : bk_ok B) {p : Int} (hp : -1000 ≤ p ∧ p ≤ 1000) : JR G (d + 2) mX0_lengthOf [.ref b, .int (jI (p))] h 0 0 (some (.int (jI (bk_end B p - bk_start B p)))) h := by
  have hat0 := hat
  obtain ⟨w, kq, fq, hb, hkd, hfr, hwd, hdy, hlt⟩ := hat
  have hwd0 := hwd
  obtain ⟨t9, q9, hw, -⟩ := hwd
  obtain ⟨hko, k1, k2, k3⟩ := id hk
  have hko0 := hko
  obtain ⟨o1, o2, o3, o4⟩ := hko
  refine ji_ent (by decide) rfl (Nat.le_of_ble_eq_true rfl) rfl ?_
  refine ji_aload_n dX0_lengthOf_0 rfl trivial ?_
  refine ji_iload_n dX0_lengthOf_1 rfl ?_
  refine ji_cV dX0_lengthOf_2 (k_Book_endOf hat0 hk (by omega)) rfl (hb) rfl rfl wX0_endOf vX0_endOf lX0_31 rfl (Nat.le_of_ble_eq_true rfl) rfl ?_
  refine ji_aload_n dX0_lengthOf_5 rfl trivial ?_
  refine ji_iload_n dX0_lengthOf_6 rfl ?_
  refine ji_cV dX0_lengthOf_7 (k_Book_startOf hat0 hk (by omega)) rfl (hb) rfl rfl wX0_startOf vX0_startOf lX0_34 rfl (Nat.le_of_ble_eq_true rfl) rfl ?_
  refine ji_isub dX0_lengthOf_10 ?_
  exact ji_ireturn dX0_lengthOf_11 rfl (rfl) ⟨rfl, rfl⟩

set_option maxHeartbeats 4000000 in
set_option maxRecDepth 100000 in
theorem k_Book_characters (hat : bk_at h b B) (hk : bk_ok B)  : JR G (d + 1) mX0_characters [.ref b] h 0 0 (some (.int (jI ((bk_m B : Int) - (bk_P B - 1))))) h := by
  have hat0 := hat
  obtain ⟨w, kq, fq, hb, hkd, hfr, hwd, hdy, hlt⟩ := hat
  have hwd0 := hwd
  obtain ⟨t9, q9, hw, -⟩ := hwd
  obtain ⟨hko, k1, k2, k3⟩ := id hk
  have hko0 := hko
  obtain ⟨o1, o2, o3, o4⟩ := hko
  refine ji_ent (by decide) rfl (Nat.le_of_ble_eq_true rfl) rfl ?_
  refine ji_aload_n dX0_characters_0 rfl trivial ?_
  refine ji_get (ci := 0) (k := 0) rfl dX0_characters_1 lX0_9 (by decide) (hb) rfl ?_
  refine ji_cV dX0_characters_4 (k_Words_length hwd0 hko0) rfl (hw) rfl rfl wX6_length vX6_length lX0_35 rfl (Nat.le_of_ble_eq_true rfl) rfl ?_
  refine ji_aload_n dX0_characters_7 rfl trivial ?_
  refine ji_cV dX0_characters_8 (k_Book_paragraphs hat0 hk) rfl (hb) rfl rfl wX0_paragraphs vX0_paragraphs lX0_39 rfl (Nat.le_of_ble_eq_true rfl) rfl ?_
  refine ji_iconst dX0_characters_11 ?_
  refine ji_isub dX0_characters_12 ?_
  refine ji_isub dX0_characters_13 ?_
  exact ji_ireturn dX0_characters_14 rfl (rfl) ⟨rfl, rfl⟩

set_option maxHeartbeats 4000000 in
set_option maxRecDepth 100000 in
theorem k_Book_paragraphAt_loop (hat : bk_at h b B) (hk : bk_ok B) {place R : Int} (b1 : -1000000 ≤ place ∧ place ≤ 1000000) : ∀ (f : Nat) (p : Int), p = f → p ≤ 100 → R = bk_pa B place f →
    JW G (d + 2) mX0_paragraphAt 7 [some (.ref b), some (.int (jI place)), some (.int (jI p))] [] h 0 0 (fun r h' => r = .inl (some (.int (jI R))) ∧ h' = h) := by
  have hat0 := hat
  obtain ⟨w, kq, fq, hb, hkd, hfr, hwd, hdy, hlt⟩ := hat
  have hwd0 := hwd
  obtain ⟨t9, q9, hw, -⟩ := hwd
  obtain ⟨hko, k1, k2, k3⟩ := id hk
  have hko0 := hko
  obtain ⟨o1, o2, o3, o4⟩ := hko
  intro f
  induction f with
  | zero =>
    intro p hp hp2 hR

    refine ji_iload_n dX0_paragraphAt_7 rfl ?_
    refine ji_if_le (tgt := 26) dX0_paragraphAt_8 rfl (by omega) (fun c8 => ?_) (fun c8 => absurd c8 (by omega))
    refine ji_iload_n dX0_paragraphAt_26 rfl ?_
    exact ji_ireturn dX0_paragraphAt_27 rfl (rfl) ⟨jr_i (by rw [hR]; unfold bk_pa; omega), rfl⟩
  | succ f ih =>
    intro p hp hp2 hR
    have q1 := bk_ws_b hk (bk_fw B p)
    have q2 : bk_start B p = bk_ws B (bk_fw B p) := rfl
    have q3 : ((f + 1 : Nat) : Int) = p := by omega
    rw [bk_pa, q3] at hR

    refine ji_iload_n dX0_paragraphAt_7 rfl ?_
    refine ji_if_le (tgt := 26) dX0_paragraphAt_8 rfl (by omega) (fun c8 => absurd c8 (by omega)) (fun c8 => ?_)
    refine ji_aload_n dX0_paragraphAt_11 rfl trivial ?_
    refine ji_iload_n dX0_paragraphAt_12 rfl ?_
    refine ji_cV dX0_paragraphAt_13 (k_Book_startOf hat0 hk (by omega)) rfl (hb) rfl rfl wX0_startOf vX0_startOf lX0_34 rfl (Nat.le_of_ble_eq_true rfl) rfl ?_
    refine ji_iload_n dX0_paragraphAt_16 rfl ?_
    refine ji_icmp_le (tgt := 26) dX0_paragraphAt_17 rfl (by omega) (by omega) (fun c17 => ?_) (fun c17 => ?_)
    · refine ji_iload_n dX0_paragraphAt_26 rfl ?_
      exact ji_ireturn dX0_paragraphAt_27 rfl (rfl) ⟨jr_i (by rw [hR, if_neg (by omega)]), rfl⟩
    · refine ji_iinc dX0_paragraphAt_20 (by decide) rfl rfl ?_
      refine ji_goto (tgt := 7) dX0_paragraphAt_23 rfl ?_
      exact ih _ (by omega) (by omega) (by rw [hR, if_pos (by omega)])

set_option maxHeartbeats 4000000 in
set_option maxRecDepth 100000 in
theorem k_Book_paragraphAt (hat : bk_at h b B) (hk : bk_ok B) {place : Int} (hp : -1000000 ≤ place ∧ place ≤ 1000000) : JR G (d + 2) mX0_paragraphAt [.ref b, .int (jI (place))] h 0 0 (some (.int (jI (bk_PA B place)))) h := by
  have hat0 := hat
  obtain ⟨w, kq, fq, hb, hkd, hfr, hwd, hdy, hlt⟩ := hat
  have hwd0 := hwd
  obtain ⟨t9, q9, hw, -⟩ := hwd
  obtain ⟨hko, k1, k2, k3⟩ := id hk
  have hko0 := hko
  obtain ⟨o1, o2, o3, o4⟩ := hko
  refine ji_ent (by decide) rfl (Nat.le_of_ble_eq_true rfl) rfl ?_
  refine ji_aload_n dX0_paragraphAt_0 rfl trivial ?_
  refine ji_cV dX0_paragraphAt_1 (k_Book_paragraphs hat0 hk) rfl (hb) rfl rfl wX0_paragraphs vX0_paragraphs lX0_39 rfl (Nat.le_of_ble_eq_true rfl) rfl ?_
  refine ji_iconst dX0_paragraphAt_4 ?_
  refine ji_isub dX0_paragraphAt_5 ?_
  refine ji_istore_n dX0_paragraphAt_6 (by decide) rfl ?_
  exact k_Book_paragraphAt_loop hat0 hk hp (bk_P B - 1) _ (by omega) (by omega) rfl

set_option maxHeartbeats 4000000 in
set_option maxRecDepth 100000 in
theorem k_Book_charactersBefore (hat : bk_at h b B) (hk : bk_ok B) {place : Int} (hp : -1000000 ≤ place ∧ place ≤ 1000000) : JR G (d + 3) mX0_charactersBefore [.ref b, .int (jI (place))] h 0 0 (some (.int (jI (place - bk_PA B place)))) h := by
  have hat0 := hat
  obtain ⟨w, kq, fq, hb, hkd, hfr, hwd, hdy, hlt⟩ := hat
  have hwd0 := hwd
  obtain ⟨t9, q9, hw, -⟩ := hwd
  obtain ⟨hko, k1, k2, k3⟩ := id hk
  have hko0 := hko
  obtain ⟨o1, o2, o3, o4⟩ := hko
  refine ji_ent (by decide) rfl (Nat.le_of_ble_eq_true rfl) rfl ?_
  refine ji_iload_n dX0_charactersBefore_0 rfl ?_
  refine ji_aload_n dX0_charactersBefore_1 rfl trivial ?_
  refine ji_iload_n dX0_charactersBefore_2 rfl ?_
  refine ji_cV dX0_charactersBefore_3 (k_Book_paragraphAt hat0 hk (by omega)) rfl (hb) rfl rfl wX0_paragraphAt vX0_paragraphAt lX0_42 rfl (Nat.le_of_ble_eq_true rfl) rfl ?_
  refine ji_isub dX0_charactersBefore_6 ?_
  exact ji_ireturn dX0_charactersBefore_7 rfl (rfl) ⟨rfl, rfl⟩

set_option maxHeartbeats 4000000 in
set_option maxRecDepth 100000 in
theorem k_Book_positionOf (hat : bk_at h b B) (hk : bk_ok B) {place : Int} (hp : -1000000 ≤ place ∧ place ≤ 1000000) : JR G (d + 3) mX0_positionOf [.ref b, .int (jI (place))] h 0 0 (some (.int (jI (bk_pos B place)))) h := by
  have hat0 := hat
  obtain ⟨w, kq, fq, hb, hkd, hfr, hwd, hdy, hlt⟩ := hat
  have hwd0 := hwd
  obtain ⟨t9, q9, hw, -⟩ := hwd
  obtain ⟨hko, k1, k2, k3⟩ := id hk
  have hko0 := hko
  obtain ⟨o1, o2, o3, o4⟩ := hko
  have q1 := bk_pa_b B place (bk_P B - 1)
  have q2 : bk_PA B place = bk_pa B place (bk_P B - 1) := rfl
  refine ji_ent (by decide) rfl (Nat.le_of_ble_eq_true rfl) rfl ?_
  refine ji_aload_n dX0_positionOf_0 rfl trivial ?_
  refine ji_iload_n dX0_positionOf_1 rfl ?_
  refine ji_cV dX0_positionOf_2 (k_Book_paragraphAt hat0 hk (by omega)) rfl (hb) rfl rfl wX0_paragraphAt vX0_paragraphAt lX0_42 rfl (Nat.le_of_ble_eq_true rfl) rfl ?_
  refine ji_istore_n dX0_positionOf_5 (by decide) rfl ?_
  refine ji_sipush dX0_positionOf_6 rfl ?_
  refine ji_iload_n dX0_positionOf_9 rfl ?_
  refine ji_imul dX0_positionOf_10 ?_
  refine ji_iload_n dX0_positionOf_11 rfl ?_
  refine ji_iadd dX0_positionOf_12 ?_
  refine ji_aload_n dX0_positionOf_13 rfl trivial ?_
  refine ji_iload_n dX0_positionOf_14 rfl ?_
  refine ji_cV dX0_positionOf_15 (k_Book_startOf hat0 hk (by omega)) rfl (hb) rfl rfl wX0_startOf vX0_startOf lX0_34 rfl (Nat.le_of_ble_eq_true rfl) rfl ?_
  refine ji_isub dX0_positionOf_18 ?_
  exact ji_ireturn dX0_positionOf_19 rfl (rfl) ⟨rfl, rfl⟩

end MBook
