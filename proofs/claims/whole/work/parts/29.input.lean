/-- 'new Words(row)' behind a heap h0 -/
def wd_nh (h0 : ji_H) (t m : Nat) (tx : Nat → Int) : ji_H := wd_hp (h0.1 + 1, va_up h0.2 h0.1 (.inl (6, [.null, .null]))) h0.1 t (wd_cnt tx m + 2) (wd_starts m tx)
theorem wd_nx (h0 : ji_H) (t m : Nat) (tx : Nat → Int) : ji_ext h0 (wd_nh h0 t m tx) 2 := ⟨rfl, fun a ha => (va_up_ne _ _ (by show a ≠ h0.1 + 1; omega)).trans ((va_up_ne _ _ (by omega)).trans (va_up_ne _ _ (by omega)))⟩
theorem wd_na {h0 : ji_H} {t m : Nat} {tx : Nat → Int} (ht : h0.2 t = .inr (.char, m, .inl tx)) (hl : t < h0.1) (hd : ji_dy t) (hd1 : ji_dy h0.1) (hd2 : ji_dy (h0.1 + 1)) : wd_at (wd_nh h0 t m tx) h0.1 m (wd_cnt tx m + 1) tx (wd_starts m tx) :=
  ⟨t, h0.1 + 1, wd_hp_w (by show h0.1 < h0.1 + 1; omega), wd_hp_t (by show t < h0.1 + 1; omega) (by omega) ((va_up_ne _ _ (by omega)).trans ht), wd_hp_q, ⟨hd1, hd, hd2⟩, (by show h0.1 < h0.1 + 1 + 1; omega), (by show t < h0.1 + 1 + 1; omega), (by show h0.1 + 1 < h0.1 + 1 + 1; omega)⟩
section MInput3
variable {G : ji_G} {d q n : Nat} {f : Nat → ji_C} {len : Int} {g : Nat → Int} {S : sy_T}
theorem in_h1_x {z : Nat} {X : Nat → Int} (hq : q + 2 < n) : ji_ext (in_h q n f len g S) (in_h1 q n f len g S z X) 1 := by
  rw [← in_h1_e hq]; exact ⟨rfl, fun a ha => va_up_ne _ _ (by omega)⟩
def in_nt (len : Int) (g : Nat → Int) (k : Int) : Nat → Int := va_up (ji_fill (fun k => in_sign len g (k - 2)) (2 + len + 0)) 0 (48 + k)
theorem in_nt_b {len : Int} {g : Nat → Int} (hk : in_ok len g) {k : Int} (h : 0 ≤ k ∧ k ≤ 9) (j : Nat) : 0 ≤ in_nt len g k j ∧ in_nt len g k j < 128 := by
  unfold in_nt va_up
  split
  · omega
  · unfold ji_fill
    split
    · exact in_sign_b hk _
    · omega

set_option maxHeartbeats 4000000 in
set_option maxRecDepth 100000 in
theorem k_Input_toNote {k : Int} (hn : 0 ≤ k ∧ k ≤ 9) (hk : in_ok len g) (hq : q + 2 < n) (h72 : 72 ≤ n) : JM G (d + 2) mX2_toNote [.ref q, .int (jI k)] (in_h q n f len g S) 3 ((2 + len + 0).toNat + 2 + (wd_cnt (in_nt len g k) (2 + len + 0).toNat + 2)) (fun r9 h9 => ∃ w9, r9 = .inl (some (.ref w9)) ∧ ji_ext (in_h q n f len g S) h9 3 ∧ wd_at h9 w9 (2 + len + 0).toNat (wd_cnt (in_nt len g k) (2 + len + 0).toNat + 1) (in_nt len g k) (wd_starts (2 + len + 0).toNat (in_nt len g k))) := by
  have b1 := hk.1
  have hcb := wd_cnt_b (in_nt len g k) (2 + len + 0).toNat
  refine ji_ent (by decide) rfl (Nat.le_of_ble_eq_true rfl) rfl ?_
  refine ji_aload_n dX2_toNote_0 rfl trivial ?_
  refine ji_iconst dX2_toNote_1 ?_
  refine ji_iconst dX2_toNote_2 ?_
  refine ji_callV dX2_toNote_3 (M2 := mX2_padded) (k_Input_padded (x1 := 2) (x2 := 0) hk (by omega) (by omega) hq) rfl (in_0) rfl rfl wX2_padded vX2_padded lX2_61 rfl (Nat.le_of_ble_eq_true rfl) rfl (by omega) (by omega) (fun r h1 q => ?_) (fun E h' q => by cases q.1)
  obtain ⟨hr1, rfl⟩ := q
  cases hr1
  refine ji_astore_n dX2_toNote_6 (by decide) trivial rfl ?_
  refine ji_aload_n dX2_toNote_7 rfl trivial ?_
  refine ji_iconst dX2_toNote_8 ?_
  refine ji_bipush dX2_toNote_9 rfl ?_
  refine ji_iload_n dX2_toNote_11 rfl ?_
  refine ji_iadd dX2_toNote_12 ?_
  refine ji_i2c dX2_toNote_13 (by omega) ?_
  refine ji_castoreE dX2_toNote_14 (in_h1_n hq) (by omega) (by omega) (in_h1_s hq) ?_
  refine ji_new (ci := 6) (fs := [.null, .null]) rfl dX2_toNote_15 lX2_51 (fun G ad => by simp [ji_vs, ji_v]) (by decide) (by omega) (by omega) ?_
  refine ji_dup dX2_toNote_18 rfl ?_
  refine ji_aload_n dX2_toNote_19 rfl trivial ?_
  refine ji_callI dX2_toNote_20 (M2 := mX6_init) (k_Words_init (v0 := .null) (v1 := .null) (m := (2 + len + 0).toNat) (tx := in_nt len g k) (va_up_self _ _ _) ((va_up_ne _ _ (by show n ≠ n + 1; omega)).trans (in_h1_n hq)) (by show n + 1 < n + 1 + 1; omega) (by show n < n + 1 + 1; omega) (by omega) (in_nt_b hk hn)) rfl wX6_init rfl rfl iX6_init lX2_65 rfl (Nat.le_of_ble_eq_true rfl) rfl (by omega) (by omega) (fun r h' q => ?_) (fun E h' q => by cases q.1)
  obtain ⟨hr2, rfl⟩ := q
  cases hr2
  exact ji_areturn dX2_toNote_23 rfl (Or.inl ⟨_, rfl⟩) trivial ⟨n + 1, rfl, (in_h1_x hq).trans (wd_nx (in_h1 q n f len g S (2 + len + 0).toNat (in_nt len g k)) n (2 + len + 0).toNat (in_nt len g k)), wd_na (h0 := in_h1 q n f len g S (2 + len + 0).toNat (in_nt len g k)) (in_h1_n hq) (by show n < n + 1; omega) (Or.inr h72) (Or.inr (by show 72 ≤ n + 1; omega)) (Or.inr (by show 72 ≤ n + 1 + 1; omega))⟩

/-- how the buffer becomes a book: kinds, first words, text, as far as i -/
def tb_z (g : Nat → Int) (i : Nat) : Int := i - in_tm g 35 i - in_tm g 62 i
def tb_w (g : Nat → Int) (i : Nat) : Int := in_tm g 32 i + in_tm g 124 i
def tb_K (g : Nat → Int) : Nat → Nat → Int
  | 0 => fun _ => 0
  | i + 1 => if g i = 35 ∨ g i = 62 then va_up (tb_K g i) (in_tm g 124 i).toNat (if g i = 35 then 1 else 2) else tb_K g i
def tb_X (g : Nat → Int) : Nat → Nat → Int
  | 0 => fun _ => 0
  | i + 1 => if g i = 35 ∨ g i = 62 then tb_X g i else va_up (tb_X g i) (tb_z g i).toNat (if g i = 124 then 32 else g i)
def tb_F (g : Nat → Int) : Nat → Nat → Int
  | 0 => fun _ => 0
  | i + 1 => if g i = 124 then va_up (tb_F g i) (in_tm g 124 i + 1).toNat (tb_w g (i + 1)) else tb_F g i
def nw3 (h : ji_H) (n1 n2 n3 : Nat) (K F X : Nat → Int) : ji_H := (h.1 + 1 + 1 + 1, va_up (va_up (va_up h.2 h.1 (.inr (.int, n1, .inl K))) (h.1 + 1) (.inr (.int, n2, .inl F))) (h.1 + 1 + 1) (.inr (.char, n3, .inl X)))
theorem nw3_x {h : ji_H} {n1 n2 n3 : Nat} {K F X : Nat → Int} : ji_ext h (nw3 h n1 n2 n3 K F X) 3 := ⟨rfl, fun a ha => (va_up_ne _ _ (by omega)).trans ((va_up_ne _ _ (by omega)).trans (va_up_ne _ _ (by omega)))⟩
theorem nw3_k {h : ji_H} {n1 n2 n3 : Nat} {K F X : Nat → Int} : (nw3 h n1 n2 n3 K F X).2 h.1 = .inr (.int, n1, .inl K) := (va_up_ne _ _ (by omega)).trans ((va_up_ne _ _ (by omega)).trans (va_up_self _ _ _))
theorem nw3_f {h : ji_H} {n1 n2 n3 : Nat} {K F X : Nat → Int} : (nw3 h n1 n2 n3 K F X).2 (h.1 + 1) = .inr (.int, n2, .inl F) := (va_up_ne _ _ (by omega)).trans (va_up_self _ _ _)
theorem nw3_t {h : ji_H} {n1 n2 n3 : Nat} {K F X : Nat → Int} : (nw3 h n1 n2 n3 K F X).2 (h.1 + 1 + 1) = .inr (.char, n3, .inl X) := va_up_self _ _ _
theorem nw3_sk {h : ji_H} {n1 n2 n3 : Nat} {K F X K' : Nat → Int} : ((nw3 h n1 n2 n3 K F X).1, va_up (nw3 h n1 n2 n3 K F X).2 h.1 (.inr (.int, n1, .inl K'))) = nw3 h n1 n2 n3 K' F X := by
  unfold nw3; rw [va_up_comm _ (show h.1 + 1 + 1 ≠ h.1 by omega), va_up_comm _ (show h.1 + 1 ≠ h.1 by omega), va_up_idem]
theorem nw3_sf {h : ji_H} {n1 n2 n3 : Nat} {K F X F' : Nat → Int} : ((nw3 h n1 n2 n3 K F X).1, va_up (nw3 h n1 n2 n3 K F X).2 (h.1 + 1) (.inr (.int, n2, .inl F'))) = nw3 h n1 n2 n3 K F' X := by
  unfold nw3; rw [va_up_comm _ (show h.1 + 1 + 1 ≠ h.1 + 1 by omega), va_up_idem]
theorem nw3_st {h : ji_H} {n1 n2 n3 : Nat} {K F X X' : Nat → Int} : ((nw3 h n1 n2 n3 K F X).1, va_up (nw3 h n1 n2 n3 K F X).2 (h.1 + 1 + 1) (.inr (.char, n3, .inl X'))) = nw3 h n1 n2 n3 K F X' := by unfold nw3; rw [va_up_idem]
theorem in_tm_le (g : Nat → Int) (c : Int) : ∀ {i j : Nat}, i ≤ j → in_tm g c i ≤ in_tm g c j
  | i, 0, h => by rw [show i = 0 by omega]; omega
  | i, j + 1, h => by
    by_cases e : i = j + 1
    · rw [e]; omega
    · have := in_tm_le g c (i := i) (j := j) (by omega)
      have h2 : in_tm g c (j + 1) = in_tm g c j + (if g j = c then 1 else 0) := rfl
      split at h2 <;> omega
theorem in_tm_1 {g : Nat → Int} {c : Int} {i : Nat} (h : g i = c) : in_tm g c (i + 1) = in_tm g c i + 1 := by rw [in_tm, if_pos h]
theorem in_tm_0 {g : Nat → Int} {c : Int} {i : Nat} (h : ¬ g i = c) : in_tm g c (i + 1) = in_tm g c i := by rw [in_tm, if_neg h]; omega
/-- a row's own place is always left of the text's end -/
theorem tb_room (g : Nat → Int) : ∀ {i j : Nat}, i ≤ j → tb_z g i ≤ tb_z g j
  | i, 0, h => by rw [show i = 0 by omega]; omega
  | i, j + 1, h => by
    by_cases e : i = j + 1
    · rw [e]; omega
    · have h1 := tb_room g (i := i) (j := j) (by omega)
      have h2 : tb_z g (j + 1) = (j + 1 : Nat) - in_tm g 35 (j + 1) - in_tm g 62 (j + 1) := rfl
      have h3 : tb_z g j = j - in_tm g 35 j - in_tm g 62 j := rfl
      have h4 : in_tm g 35 (j + 1) = in_tm g 35 j + (if g j = 35 then 1 else 0) := rfl
      have h5 : in_tm g 62 (j + 1) = in_tm g 62 j + (if g j = 62 then 1 else 0) := rfl
      split at h4 <;> split at h5 <;> omega
theorem tb_X_b {g : Nat → Int} (hg : ∀ k, 0 ≤ g k ∧ g k < 128) : ∀ (i j : Nat), 0 ≤ tb_X g i j ∧ tb_X g i j < 128
  | 0, j => by show (0 : Int) ≤ 0 ∧ (0 : Int) < 128; omega
  | i + 1, j => by
    have h1 := tb_X_b hg i j
    have h2 := hg i
    unfold tb_X
    split
    · exact h1
    · unfold va_up; split
      · split <;> omega
      · exact h1

def tb_B (len : Int) (g : Nat → Int) : bk_T := ((tb_z g len.toNat).toNat, wd_cnt (tb_X g len.toNat) (tb_z g len.toNat).toNat + 1, (in_tm g 124 len.toNat + 1).toNat, tb_X g len.toNat, wd_starts (tb_z g len.toNat).toNat (tb_X g len.toNat), tb_K g len.toNat, va_up (tb_F g len.toNat) (in_tm g 124 len.toNat + 1).toNat (tb_w g len.toNat + 1))
theorem in_ext {h' : ji_H} {k : Nat} (hx : ji_ext (in_h q n f len g S) h' k) (hq : q + 2 < n) : h' = in_h q h'.1 h'.2 len g S := by
  refine Prod.ext rfl (funext fun x => ?_)
  by_cases h0 : x = q
  · subst h0; rw [in_0, hx.2 _ (by show x < n; omega), in_0]
  · by_cases h1 : x = q + 1
    · subst h1; rw [in_1, hx.2 _ (by show q + 1 < n; omega), in_1]
    · by_cases h2 : x = q + 2
      · subst h2; rw [in_2, hx.2 _ (by show q + 2 < n; omega), in_2]
      · rw [in_o (by omega)]
theorem k_Input_signAt_x {h' : ji_H} {k : Nat} (hx : ji_ext (in_h q n f len g S) h' k) (hq : q + 2 < n) {i : Int} (hb : -100000 ≤ i ∧ i ≤ 100000) (hk : in_ok len g) : JR G d mX2_signAt [.ref q, .int (jI i)] h' 0 0 (some (.int (jI (in_sign len g i)))) h' := by
  rw [in_ext hx hq]; exact k_Input_signAt hb hk
theorem k_Input_timesOf_x {h' : ji_H} {k : Nat} (hx : ji_ext (in_h q n f len g S) h' k) (hq : q + 2 < n) {c : Int} (hc : 0 ≤ c ∧ c < 65536) (hk : in_ok len g) : JR G (d + 1) mX2_timesOf [.ref q, .int (jI c)] h' 0 0 (some (.int (jI (in_tm g c len.toNat)))) h' := by
  rw [in_ext hx hq]; exact k_Input_timesOf hc hk

-- TOBOOK
end MInput3
