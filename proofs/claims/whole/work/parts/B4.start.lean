/-! ===== the law's start ===== -/
section ROW
variable {G : ji_G} {d : Nat} {M : ji_M} {pc : Nat} {L : List (Option Value)} {st : List Value} {h : ji_H} {bc bs : Nat} {Q : ji_R → ji_H → Prop}
theorem ji_rowX {q nn : Nat} {C : String} {g g' : Nat → Option Nat} (hq : h.2 q = .inr (.object C, nn, .inr (.inr g))) (hg : ∀ j, j < nn → g j = g' j) (k : JW G d M pc L st (h.1, va_up h.2 q (.inr (.object C, nn, .inr (.inr g')))) bc bs Q) : JW G d M pc L st h bc bs Q := by
  intro hG p e R s m args below meth c H locs cells slots ls st' ad ad0 ws C0 hfr hlo hcc hs hw hS h0 ha hst hls
  refine k hG p e R s m args below meth c H locs cells slots ls st' ad ad0 ws C0 hfr hlo hcc hs ?_ hS h0 ha hst hls
  obtain ⟨w1, w2, ⟨w3, w4, w5⟩, w6, w7⟩ := hw
  refine ⟨w1, w2, ⟨w3, w4, fun k a hka => ?_⟩, w6, w7⟩
  obtain ⟨e', he, hc⟩ := w5 k a hka
  refine ⟨e', he, ?_⟩
  show ji_c G ad (va_up h.2 q _ k) e'
  by_cases ck : k = q
  · rw [ck, va_up_self]
    rw [ck, hq] at hc
    obtain ⟨f', hf, hj⟩ := hc
    refine ⟨f', hf, fun j hjn => ?_⟩
    have := hj j hjn
    rw [hg j hjn] at this
    exact this
  · rw [va_up_ne _ _ ck]; exact hc
end ROW
def b0_x : Nat → Int := va_up (fun _ => 0) 0 97
def b0_z : Nat → Int := va_up (va_up (va_up (fun _ => 0) 0 1) 85 1) 95 97
def b0_k : Nat → Int := va_up (fun _ => 0) 0 0
def b0_r : Nat → Int := va_up (va_up (fun _ => 0) 0 0) 1 1
def b0_s : Nat → Int := va_up (va_up (va_up (va_up (va_up (fun _ => 0) 0 2) 1 4) 2 0) 3 0) 4 0
def b0_B : bk_T := (1, 1, 1, b0_x, wd_starts 1 b0_x, b0_k, b0_r)
def b0_0 : Nat → Int := fun _ => 0
def b0_M : mk_T := (0, 0, 0, b0_0, b0_0, b0_0, b0_0)
def b0_I : in_T := (0, b0_0, 0, 0, 0, 0, 0, 0, 0)
def b0_P : pg_T := (fun _ => none, b0_s, 30, 8, 6, 1)
def b0_H : hi_T := (0, fun _ => none, fun i => i, fun _ => b0_M)
def b0_Y : ly_T := (6, 0, 0, 0, 0, fun _ _ => 0)
theorem b0_b {F : Nat → Int} {k : Nat} {v l u : Int} (hF : ∀ j, l ≤ F j ∧ F j ≤ u) (hv : l ≤ v ∧ v ≤ u) (j : Nat) : l ≤ va_up F k v j ∧ va_up F k v j ≤ u := by
  by_cases c : j = k
  · rw [c, va_up_self]; exact hv
  · rw [va_up_ne _ _ c]; exact hF j
theorem b0_xb (j : Nat) : 0 ≤ b0_x j ∧ b0_x j < 128 := tx0_b j
theorem b0_zv (j : Nat) : b0_z j = if j = 95 then 97 else if j = 85 then 1 else if j = 0 then 1 else 0 := by
  unfold b0_z
  by_cases c : j = 95
  · rw [if_pos c, c, va_up_self]
  rw [if_neg c, va_up_ne _ _ c]
  by_cases c : j = 85
  · rw [if_pos c, c, va_up_self]
  rw [if_neg c, va_up_ne _ _ c]
  by_cases c : j = 0
  · rw [if_pos c, c, va_up_self]
  rw [if_neg c, va_up_ne _ _ c]
theorem b0_sv : b0_s = va_up (va_up (fun _ => 0) 0 2) 1 4 := by
  funext j
  unfold b0_s
  by_cases c : j = 4
  · rw [c]; rfl
  rw [va_up_ne _ _ c]
  by_cases c : j = 3
  · rw [c]; rfl
  rw [va_up_ne _ _ c]
  by_cases c : j = 2
  · rw [c]; rfl
  rw [va_up_ne _ _ c]
theorem b0_RB : RB b0_B b0_z := by
  refine ⟨⟨rfl, rfl⟩, ⟨Nat.le_refl _, fun j hj q => ?_⟩, ⟨⟨Nat.le_refl _, by show 1 ≤ 10; omega⟩, rfl⟩, fun p hp => ?_, fun p hp => ?_, rfl, fun p hp k hk => ?_, fun p hp => ?_, ⟨fun p hp => ?_, rfl⟩, fun j hj q => ?_, fun p hp => ?_, fun j hj => b0_xb j⟩
  · have hj' : j < 1 := hj
    have : j = 0 := by omega
    subst this
    exact absurd (show (97 : Int) = 32 from q) (by omega)
  · have hp' : p < 1 := hp
    have : p = 0 := by omega
    subst this
    exact ⟨rfl, by decide, by decide⟩
  · have hp' : p < 1 := hp
    have : p = 0 := by omega
    subst this
    exact ⟨by decide, by decide⟩
  · have hp' : p < 1 := hp
    have : p = 0 := by omega
    subst this
    have hk' : (k : Int) < 1 := hk
    have : k = 0 := by omega
    subst this
    rfl
  · have hp' : p + 1 < 1 := hp
    omega
  · have hp' : p < 1 := hp
    have : p = 0 := by omega
    subst this
    rfl
  · have hj' : j < 1 := hj
    have : j = 0 := by omega
    subst this
    exact absurd (show (97 : Int) = 94 from q) (by omega)
  · have hp' : p < 1 := hp
    have : p = 0 := by omega
    subst this
    decide
theorem b0_BX : BX b0_B := ⟨fun j hj => absurd (show j + 15 ≤ 1 from hj) (by omega), b0_b (fun _ => by omega) (by omega), b0_b (b0_b (fun _ => by omega) (by omega)) (by omega), b0_xb⟩
theorem b0_ZX : ZX b0_z := by
  refine ⟨fun j => ?_, fun j a b => ?_, fun j a b => ?_, fun j a => ?_⟩
  · rw [b0_zv]; split; omega; split; omega; split <;> omega
  · rw [b0_zv, if_neg (by omega), if_neg (by omega), if_neg (by omega)]; omega
  · rw [b0_zv, if_neg (by omega)]; split; omega; rw [if_neg (by omega)]; omega
  · rw [b0_zv]; split; omega; rw [if_neg (by omega), if_neg (by omega)]; omega
theorem b0_SV : SV b0_B b0_z b0_M := ⟨b0_RB, b0_BX, b0_ZX, mr_0 b0_RB (fun j a b => by rw [b0_zv, if_neg (by omega), if_neg (by omega), if_neg (by omega)]) _⟩
theorem b0_mo : mk_ok 4000 b0_M := ⟨by show (-4000 : Int) ≤ 0 ∧ (0 : Int) ≤ 4000; omega, by show (0 : Int) ≤ 0 ∧ (0 : Int) ≤ 5; omega, by show (0 : Int) ≤ 0 ∧ (0 : Int) ≤ 12; omega, fun _ => by show (-4000 : Int) ≤ 0 ∧ (0 : Int) ≤ 4000; omega, fun _ => by show (-4000 : Int) ≤ 0 ∧ (0 : Int) ≤ 4000; omega, fun _ => by show (-4000 : Int) ≤ 0 ∧ (0 : Int) ≤ 4000; omega⟩
theorem b0_iv : ly_iv (fun _ _ => 0) := ⟨fun _ _ => (by omega : (-100000 : Int) ≤ 0 ∧ (0 : Int) ≤ 100000), fun _ => (by omega : (0 : Int) ≤ 0 ∧ (0 : Int) ≤ 1000), fun _ => (by omega : (0 : Int) ≤ 0 ∧ (0 : Int) ≤ 10), fun _ => (by omega : (0 : Int) ≤ 0 ∧ (0 : Int) ≤ 10), fun _ => (by omega : (0 : Int) ≤ 0 ∧ (0 : Int) < 1024), fun _ => (by omega : ((-1 : Int) ≤ 0 ∧ (0 : Int) ≤ 240) ∧ (0 : Int) ≤ 0 ∧ (0 : Int) ≤ 240)⟩
theorem b0_LK {F : Nat → ji_C} (h6 : F 6 = .inl (0, [.ref 7, .ref 10, .ref 11])) (h7 : F 7 = .inl (6, [.ref 8, .ref 9])) (h8 : F 8 = .inr (.char, 1, .inl b0_x)) (h9 : F 9 = .inr (.int, 2, .inl (wd_starts 1 b0_x))) (h10 : F 10 = .inr (.int, 1, .inl b0_k)) (h11 : F 11 = .inr (.int, 2, .inl b0_r)) : LK 4000 72 F b0_I b0_P b0_M b0_H b0_Y b0_Y b0_B (fun _ => none) (fun _ => b0_B) b0_z b0_0 b0_0 b0_0 b0_0 := by
  have dy : ∀ x, 6 ≤ x → x ≤ 11 → ji_dy x := fun x a b => Or.inl ⟨a, b⟩
  refine ⟨⟨Nat.le_refl _, ⟨by show (0 : Int) ≤ 0 ∧ (0 : Int) ≤ 100; omega, fun _ => by show (0 : Int) ≤ 0 ∧ (0 : Int) < 128; omega⟩, ⟨fun k _ => Or.inl ⟨rfl, rfl⟩, fun k m nn tx s q => by cases q⟩, fun k => ?_, by show ((18 : Int) ≤ 30 ∧ (30 : Int) ≤ 60) ∧ (2 : Int) ≤ 8 ∧ (8 : Int) ≤ 20; omega, ⟨⟨7, 10, 11, h6, h10, h11, ⟨8, 9, h7, h8, h9, ⟨dy 7 (by omega) (by omega), dy 8 (by omega) (by omega), dy 9 (by omega) (by omega)⟩, by show 7 < 72; omega, by show 8 < 72; omega, by show 9 < 72; omega⟩, ⟨dy 6 (by omega) (by omega), dy 10 (by omega) (by omega), dy 11 (by omega) (by omega)⟩, by show 6 < 72; omega, by show 10 < 72; omega, by show 11 < 72; omega⟩, rb_ok b0_RB b0_BX⟩, Or.inr rfl, mo_w b0_mo (by omega), ⟨by show (0 : Int) ≤ 0 ∧ (0 : Int) ≤ 4; omega, fun i hi => hi, fun i j _ _ q => q, fun i hi => absurd (show (i : Int) < 0 from hi) (by omega)⟩, ⟨b0_iv, by show (0 : Int) ≤ 0 ∧ (0 : Int) ≤ 240; omega⟩, ⟨b0_iv, by show (0 : Int) ≤ 0 ∧ (0 : Int) ≤ 240; omega⟩, fun q => absurd (show (1 : Int) = 0 from q) (by omega)⟩, b0_SV, ⟨fun k _ => Or.inl ⟨rfl, rfl⟩, fun _ => by show (0 : Int) ≤ 0 ∧ (0 : Int) ≤ 100; omega, fun _ => by show (0 : Int) ≤ 0 ∧ (0 : Int) < 128; omega⟩, Or.inl rfl, fun k hk => absurd (show (k : Int) < 0 from hk) (by omega), fun _ => by show (0 : Int) ≤ 0 ∧ (0 : Int) < 128; omega, fun i hi => absurd (show (i : Int) < 0 from hi) (by omega), ⟨b0_mo, fun _ => b0_mo⟩, by omega, by omega⟩
  show 0 ≤ b0_s k ∧ b0_s k ≤ 4
  rw [b0_sv]; exact b0_b (b0_b (fun _ => by omega) (by omega)) (by omega) k

set_option maxRecDepth 100000 in
set_option maxHeartbeats 4000000 in
theorem l_start {G : ji_G} (hlen : G.2.2.2.2.2.2.1 ≤ 2560) {f : Nat → ji_C} {bc bs : Nat} (hbc : 4000 ≤ bc) (hbs : 4200000 ≤ bs) : JW G 13 mL_law 0 [some (.retAddr 1), none, none, none, none, none, none, none, none] [] (0, f) bc bs LQ1 := by
  refine ji_new (ci := 7) (fs := [.null, .null, .null, .int (jI 0), .int (jI 0), .null, .null, .null, .null, .null, .int (jI 0)]) rfl dL_law_0 lL_8 (fun G ad => by simp [ji_vs, ji_v]) (by decide) (by omega) (by omega) ?_
  refine ji_dup dL_law_3 rfl ?_
  refine ji_callI dL_law_4 (c_BookPager0 (d := 9) (va_up_self _ _ _)) rfl wX7_init rfl rfl iX7_init lL_106 rfl (Nat.le_of_ble_eq_true rfl) rfl (by omega) (by omega) (fun r h0 hq0 => ?_) (fun E h0 hq0 => by cases hq0.1)
  obtain ⟨er0, en0, fr0, c_0, c_1, c_2, c_3, c_4, c_5, c_6, c_7, c_8, c_9, c_10, c_11, c_12, c_13, c_14, c_15, c_16, c_17, c_18, c_19, c_20, c_21, c_22, c_23, c_24, c_25, c_26, c_27, c_28, c_29, c_30, c_31, c_32, c_33, c_34, c_35, c_36, c_37, c_38, c_39, c_40, c_41, c_42, c_43, c_44, c_45, c_46, c_47, c_48, c_49, c_50, c_51, c_52, c_53, c_54, c_55, c_56, c_57, c_58, c_59⟩ := hq0
  cases er0
  obtain ⟨n0, g0⟩ := h0
  cases (show n0 = 60 from en0)
  refine ji_astore_n dL_law_7 (by decide) trivial rfl ?_
  refine ji_new (ci := 8) (fs := [.int (jI 0), .null, .null, .int (jI 0), .null, .null, .int (jI 0), .int (jI 0), .null, .int (jI 0), .null, .int (jI 0), .int (jI 0), .int (jI 0), .int (jI 0), .int (jI 0), .int (jI 0), .null, .null, .null, .int (jI 0), .int (jI 0), .int (jI 0), .null, .long 0]) rfl dL_law_8 lL_107 (fun G ad => by simp [ji_vs, ji_v]) (by decide) (by omega) (by omega) ?_
  refine ji_dup dL_law_11 rfl ?_
  refine ji_callI dL_law_12 (c_Model60 (d := 11) (va_up_self _ _ _)) rfl wX8_init rfl rfl iX8_init lL_109 rfl (Nat.le_of_ble_eq_true rfl) rfl (by omega) (by omega) (fun r h1 hq1 => ?_) (fun E h1 hq1 => by cases hq1.1)
  obtain ⟨er1, en1, fr1, c_60, c_61, c_62, c_63, c_64, c_65, c_66, c_67, c_68, c_69, c_70⟩ := hq1
  cases er1
  obtain ⟨n1, g1⟩ := h1
  cases (show n1 = 71 from en1)
  refine ji_astore_n dL_law_15 (by decide) trivial rfl ?_
  refine ji_iconst dL_law_16 ?_
  refine ji_newJ dL_law_17 (by omega) (by omega) (by omega) ?_
  refine ji_astore_n dL_law_19 (by decide) trivial rfl ?_
  refine ji_iconst dL_law_20 ?_
  refine ji_istore dL_law_21 (by decide) rfl ?_
  have k_0 : g1 0 = .inl (7, [.ref 1, .ref 4, .ref 5, .int (jI 30), .int (jI 8), .ref 6, .ref 12, .ref 17, .ref 40, .ref 50, .int (jI 1)]) := (fr1 0 (by omega)).trans ((va_up_ne _ _ (by omega)).trans c_0)
  have k_1 : g1 1 = .inl (2, [.ref 2, .ref 3, .int (jI 0)]) := (fr1 1 (by omega)).trans ((va_up_ne _ _ (by omega)).trans c_1)
  have k_2 : g1 2 = .inr (.char, 100, .inl (fun _ => 0)) := (fr1 2 (by omega)).trans ((va_up_ne _ _ (by omega)).trans c_2)
  have k_3 : g1 3 = .inl (5, [.int (jI 0), .int (jI 0), .int (jI 0), .int (jI 0), .int (jI 0), .int (jI 0), .int (jI 0)]) := (fr1 3 (by omega)).trans ((va_up_ne _ _ (by omega)).trans c_3)
  have k_4 : g1 4 = .inr (.object RX6, 10, .inr (.inr (fun _ => none))) := (fr1 4 (by omega)).trans ((va_up_ne _ _ (by omega)).trans c_4)
  have k_5 : g1 5 = .inr (.int, 5, .inl (va_up (va_up (va_up (va_up (va_up (fun _ => 0) 0 2) 1 4) 2 0) 3 0) 4 0)) := (fr1 5 (by omega)).trans ((va_up_ne _ _ (by omega)).trans c_5)
  have k_6 : g1 6 = .inl (0, [.ref 7, .ref 10, .ref 11]) := (fr1 6 (by omega)).trans ((va_up_ne _ _ (by omega)).trans c_6)
  have k_7 : g1 7 = .inl (6, [.ref 8, .ref 9]) := (fr1 7 (by omega)).trans ((va_up_ne _ _ (by omega)).trans c_7)
  have k_8 : g1 8 = .inr (.char, 1, .inl (va_up (fun _ => 0) 0 97)) := (fr1 8 (by omega)).trans ((va_up_ne _ _ (by omega)).trans c_8)
  have k_9 : g1 9 = .inr (.int, 2, .inl (wd_starts 1 (va_up (fun _ => 0) 0 97))) := (fr1 9 (by omega)).trans ((va_up_ne _ _ (by omega)).trans c_9)
  have k_10 : g1 10 = .inr (.int, 1, .inl (va_up (fun _ => 0) 0 0)) := (fr1 10 (by omega)).trans ((va_up_ne _ _ (by omega)).trans c_10)
  have k_11 : g1 11 = .inr (.int, 2, .inl (va_up (va_up (fun _ => 0) 0 0) 1 1)) := (fr1 11 (by omega)).trans ((va_up_ne _ _ (by omega)).trans c_11)
  have k_12 : g1 12 = .inl (4, [.int (jI 0), .int (jI 0), .ref 13, .int (jI 0), .ref 14, .ref 15, .ref 16]) := (fr1 12 (by omega)).trans ((va_up_ne _ _ (by omega)).trans c_12)
  have k_13 : g1 13 = .inr (.int, 5, .inl (fun _ => 0)) := (fr1 13 (by omega)).trans ((va_up_ne _ _ (by omega)).trans c_13)
  have k_14 : g1 14 = .inr (.int, 12, .inl (fun _ => 0)) := (fr1 14 (by omega)).trans ((va_up_ne _ _ (by omega)).trans c_14)
  have k_15 : g1 15 = .inr (.int, 12, .inl (fun _ => 0)) := (fr1 15 (by omega)).trans ((va_up_ne _ _ (by omega)).trans c_15)
  have k_16 : g1 16 = .inr (.int, 12, .inl (fun _ => 0)) := (fr1 16 (by omega)).trans ((va_up_ne _ _ (by omega)).trans c_16)
  have k_17 : g1 17 = .inl (1, [.ref 18, .ref 19, .int (jI 0)]) := (fr1 17 (by omega)).trans ((va_up_ne _ _ (by omega)).trans c_17)
  have k_18 : g1 18 = .inr (.object RX0, 4, .inr (.inr (fun _ => none))) := (fr1 18 (by omega)).trans ((va_up_ne _ _ (by omega)).trans c_18)
  have k_19 : g1 19 = .inr (.object RX4, 4, .inr (.inr (va_up (va_up (va_up (va_up (fun _ => none) 0 (some 20)) 1 (some 25)) 2 (some 30)) 3 (some 35)))) := (fr1 19 (by omega)).trans ((va_up_ne _ _ (by omega)).trans c_19)
  have k_20 : g1 20 = .inl (4, [.int (jI 0), .int (jI 0), .ref 21, .int (jI 0), .ref 22, .ref 23, .ref 24]) := (fr1 20 (by omega)).trans ((va_up_ne _ _ (by omega)).trans c_20)
  have k_21 : g1 21 = .inr (.int, 5, .inl (fun _ => 0)) := (fr1 21 (by omega)).trans ((va_up_ne _ _ (by omega)).trans c_21)
  have k_22 : g1 22 = .inr (.int, 12, .inl (fun _ => 0)) := (fr1 22 (by omega)).trans ((va_up_ne _ _ (by omega)).trans c_22)
  have k_23 : g1 23 = .inr (.int, 12, .inl (fun _ => 0)) := (fr1 23 (by omega)).trans ((va_up_ne _ _ (by omega)).trans c_23)
  have k_24 : g1 24 = .inr (.int, 12, .inl (fun _ => 0)) := (fr1 24 (by omega)).trans ((va_up_ne _ _ (by omega)).trans c_24)
  have k_25 : g1 25 = .inl (4, [.int (jI 0), .int (jI 0), .ref 26, .int (jI 0), .ref 27, .ref 28, .ref 29]) := (fr1 25 (by omega)).trans ((va_up_ne _ _ (by omega)).trans c_25)
  have k_26 : g1 26 = .inr (.int, 5, .inl (fun _ => 0)) := (fr1 26 (by omega)).trans ((va_up_ne _ _ (by omega)).trans c_26)
  have k_27 : g1 27 = .inr (.int, 12, .inl (fun _ => 0)) := (fr1 27 (by omega)).trans ((va_up_ne _ _ (by omega)).trans c_27)
  have k_28 : g1 28 = .inr (.int, 12, .inl (fun _ => 0)) := (fr1 28 (by omega)).trans ((va_up_ne _ _ (by omega)).trans c_28)
  have k_29 : g1 29 = .inr (.int, 12, .inl (fun _ => 0)) := (fr1 29 (by omega)).trans ((va_up_ne _ _ (by omega)).trans c_29)
  have k_30 : g1 30 = .inl (4, [.int (jI 0), .int (jI 0), .ref 31, .int (jI 0), .ref 32, .ref 33, .ref 34]) := (fr1 30 (by omega)).trans ((va_up_ne _ _ (by omega)).trans c_30)
  have k_31 : g1 31 = .inr (.int, 5, .inl (fun _ => 0)) := (fr1 31 (by omega)).trans ((va_up_ne _ _ (by omega)).trans c_31)
  have k_32 : g1 32 = .inr (.int, 12, .inl (fun _ => 0)) := (fr1 32 (by omega)).trans ((va_up_ne _ _ (by omega)).trans c_32)
  have k_33 : g1 33 = .inr (.int, 12, .inl (fun _ => 0)) := (fr1 33 (by omega)).trans ((va_up_ne _ _ (by omega)).trans c_33)
  have k_34 : g1 34 = .inr (.int, 12, .inl (fun _ => 0)) := (fr1 34 (by omega)).trans ((va_up_ne _ _ (by omega)).trans c_34)
  have k_35 : g1 35 = .inl (4, [.int (jI 0), .int (jI 0), .ref 36, .int (jI 0), .ref 37, .ref 38, .ref 39]) := (fr1 35 (by omega)).trans ((va_up_ne _ _ (by omega)).trans c_35)
  have k_36 : g1 36 = .inr (.int, 5, .inl (fun _ => 0)) := (fr1 36 (by omega)).trans ((va_up_ne _ _ (by omega)).trans c_36)
  have k_37 : g1 37 = .inr (.int, 12, .inl (fun _ => 0)) := (fr1 37 (by omega)).trans ((va_up_ne _ _ (by omega)).trans c_37)
  have k_38 : g1 38 = .inr (.int, 12, .inl (fun _ => 0)) := (fr1 38 (by omega)).trans ((va_up_ne _ _ (by omega)).trans c_38)
  have k_39 : g1 39 = .inr (.int, 12, .inl (fun _ => 0)) := (fr1 39 (by omega)).trans ((va_up_ne _ _ (by omega)).trans c_39)
  have k_40 : g1 40 = .inl (3, [.ref 4, .ref 5, .ref 6, .int (jI 0), .int (jI 0), .ref 41, .int (jI 0), .ref 42, .ref 43, .ref 44, .ref 45, .ref 46, .ref 47, .ref 48, .int (jI 0), .ref 49]) := (fr1 40 (by omega)).trans ((va_up_ne _ _ (by omega)).trans c_40)
  have k_41 : g1 41 = .inr (.int, 10, .inl (fun _ => 0)) := (fr1 41 (by omega)).trans ((va_up_ne _ _ (by omega)).trans c_41)
  have k_42 : g1 42 = .inr (.int, 241, .inl (fun _ => 0)) := (fr1 42 (by omega)).trans ((va_up_ne _ _ (by omega)).trans c_42)
  have k_43 : g1 43 = .inr (.int, 240, .inl (fun _ => 0)) := (fr1 43 (by omega)).trans ((va_up_ne _ _ (by omega)).trans c_43)
  have k_44 : g1 44 = .inr (.int, 240, .inl (fun _ => 0)) := (fr1 44 (by omega)).trans ((va_up_ne _ _ (by omega)).trans c_44)
  have k_45 : g1 45 = .inr (.int, 240, .inl (fun _ => 0)) := (fr1 45 (by omega)).trans ((va_up_ne _ _ (by omega)).trans c_45)
  have k_46 : g1 46 = .inr (.boolean, 240, .inl (fun _ => 0)) := (fr1 46 (by omega)).trans ((va_up_ne _ _ (by omega)).trans c_46)
  have k_47 : g1 47 = .inr (.int, 240, .inl (fun _ => 0)) := (fr1 47 (by omega)).trans ((va_up_ne _ _ (by omega)).trans c_47)
  have k_48 : g1 48 = .inr (.int, 240, .inl (fun _ => 0)) := (fr1 48 (by omega)).trans ((va_up_ne _ _ (by omega)).trans c_48)
  have k_49 : g1 49 = .inr (.int, 241, .inl (fun _ => 0)) := (fr1 49 (by omega)).trans ((va_up_ne _ _ (by omega)).trans c_49)
  have k_50 : g1 50 = .inl (3, [.ref 4, .ref 5, .ref 6, .int (jI 0), .int (jI 0), .ref 51, .int (jI 0), .ref 52, .ref 53, .ref 54, .ref 55, .ref 56, .ref 57, .ref 58, .int (jI 0), .ref 59]) := (fr1 50 (by omega)).trans ((va_up_ne _ _ (by omega)).trans c_50)
  have k_51 : g1 51 = .inr (.int, 10, .inl (fun _ => 0)) := (fr1 51 (by omega)).trans ((va_up_ne _ _ (by omega)).trans c_51)
  have k_52 : g1 52 = .inr (.int, 241, .inl (fun _ => 0)) := (fr1 52 (by omega)).trans ((va_up_ne _ _ (by omega)).trans c_52)
  have k_53 : g1 53 = .inr (.int, 240, .inl (fun _ => 0)) := (fr1 53 (by omega)).trans ((va_up_ne _ _ (by omega)).trans c_53)
  have k_54 : g1 54 = .inr (.int, 240, .inl (fun _ => 0)) := (fr1 54 (by omega)).trans ((va_up_ne _ _ (by omega)).trans c_54)
  have k_55 : g1 55 = .inr (.int, 240, .inl (fun _ => 0)) := (fr1 55 (by omega)).trans ((va_up_ne _ _ (by omega)).trans c_55)
  have k_56 : g1 56 = .inr (.boolean, 240, .inl (fun _ => 0)) := (fr1 56 (by omega)).trans ((va_up_ne _ _ (by omega)).trans c_56)
  have k_57 : g1 57 = .inr (.int, 240, .inl (fun _ => 0)) := (fr1 57 (by omega)).trans ((va_up_ne _ _ (by omega)).trans c_57)
  have k_58 : g1 58 = .inr (.int, 240, .inl (fun _ => 0)) := (fr1 58 (by omega)).trans ((va_up_ne _ _ (by omega)).trans c_58)
  have k_59 : g1 59 = .inr (.int, 241, .inl (fun _ => 0)) := (fr1 59 (by omega)).trans ((va_up_ne _ _ (by omega)).trans c_59)
  refine ji_rowX (q := 19) (nn := 4) (C := RX4) (g' := fun i => some (20 + 5 * i)) k_19 (fun j hj => ?_) ?_
  · have : j = 0 ∨ j = 1 ∨ j = 2 ∨ j = 3 := by omega
    rcases this with rfl | rfl | rfl | rfl <;> rfl
  refine l_loop hlen 512 0 4000 72 _ 0 none none none none _ _ ?_ ⟨_, rfl⟩ (by omega) (by omega) (by omega) (by omega)
  refine ⟨va_up (va_up g1 71 (.inr (.long, 1, .inr (.inl fun _ => 0)))) 19 (.inr (.object RX4, 4, .inr (.inr fun i => some (20 + 5 * i)))), b0_I, b0_P, b0_M, b0_H, b0_Y, b0_Y, b0_B, fun _ => none, fun _ => b0_B, b0_z, b0_0, b0_0, b0_0, b0_0, 0, 0, 0, 0, 0, 0, b0_0, b0_0, b0_0, 0, 0, 0, b0_0, 0, ?_, b0_LK (F := va_up (va_up g1 71 (.inr (.long, 1, .inr (.inl fun _ => 0)))) 19 (.inr (.object RX4, 4, .inr (.inr fun i => some (20 + 5 * i))))) k_6 k_7 k_8 k_9 k_10 k_11⟩
  funext x
  have hx : x = 0 ∨ x = 1 ∨ x = 2 ∨ x = 3 ∨ x = 4 ∨ x = 5 ∨ x = 6 ∨ x = 7 ∨ x = 8 ∨ x = 9 ∨ x = 10 ∨ x = 11 ∨ x = 12 ∨ x = 13 ∨ x = 14 ∨ x = 15 ∨ x = 16 ∨ x = 17 ∨ x = 18 ∨ x = 19 ∨ x = 20 ∨ x = 21 ∨ x = 22 ∨ x = 23 ∨ x = 24 ∨ x = 25 ∨ x = 26 ∨ x = 27 ∨ x = 28 ∨ x = 29 ∨ x = 30 ∨ x = 31 ∨ x = 32 ∨ x = 33 ∨ x = 34 ∨ x = 35 ∨ x = 36 ∨ x = 37 ∨ x = 38 ∨ x = 39 ∨ x = 40 ∨ x = 41 ∨ x = 42 ∨ x = 43 ∨ x = 44 ∨ x = 45 ∨ x = 46 ∨ x = 47 ∨ x = 48 ∨ x = 49 ∨ x = 50 ∨ x = 51 ∨ x = 52 ∨ x = 53 ∨ x = 54 ∨ x = 55 ∨ x = 56 ∨ x = 57 ∨ x = 58 ∨ x = 59 ∨ x = 60 ∨ x = 61 ∨ x = 62 ∨ x = 63 ∨ x = 64 ∨ x = 65 ∨ x = 66 ∨ x = 67 ∨ x = 68 ∨ x = 69 ∨ x = 70 ∨ 71 ≤ x := by omega
  rcases hx with rfl | rfl | rfl | rfl | rfl | rfl | rfl | rfl | rfl | rfl | rfl | rfl | rfl | rfl | rfl | rfl | rfl | rfl | rfl | rfl | rfl | rfl | rfl | rfl | rfl | rfl | rfl | rfl | rfl | rfl | rfl | rfl | rfl | rfl | rfl | rfl | rfl | rfl | rfl | rfl | rfl | rfl | rfl | rfl | rfl | rfl | rfl | rfl | rfl | rfl | rfl | rfl | rfl | rfl | rfl | rfl | rfl | rfl | rfl | rfl | rfl | rfl | rfl | rfl | rfl | rfl | rfl | rfl | rfl | rfl | rfl | hx
  · exact k_0.trans rfl
  · exact k_1.trans rfl
  · exact k_2.trans rfl
  · exact k_3.trans rfl
  · exact k_4.trans rfl
  · exact k_5.trans rfl
  · rfl
  · rfl
  · rfl
  · rfl
  · rfl
  · rfl
  · exact k_12.trans rfl
  · exact k_13.trans rfl
  · exact k_14.trans rfl
  · exact k_15.trans rfl
  · exact k_16.trans rfl
  · exact k_17.trans rfl
  · exact k_18.trans rfl
  · rfl
  · exact k_20.trans rfl
  · exact k_21.trans rfl
  · exact k_22.trans rfl
  · exact k_23.trans rfl
  · exact k_24.trans rfl
  · exact k_25.trans rfl
  · exact k_26.trans rfl
  · exact k_27.trans rfl
  · exact k_28.trans rfl
  · exact k_29.trans rfl
  · exact k_30.trans rfl
  · exact k_31.trans rfl
  · exact k_32.trans rfl
  · exact k_33.trans rfl
  · exact k_34.trans rfl
  · exact k_35.trans rfl
  · exact k_36.trans rfl
  · exact k_37.trans rfl
  · exact k_38.trans rfl
  · exact k_39.trans rfl
  · exact k_40.trans rfl
  · exact k_41.trans rfl
  · exact k_42.trans rfl
  · exact k_43.trans rfl
  · exact k_44.trans rfl
  · exact k_45.trans rfl
  · exact k_46.trans rfl
  · exact k_47.trans rfl
  · exact k_48.trans rfl
  · exact k_49.trans rfl
  · exact k_50.trans rfl
  · exact k_51.trans rfl
  · exact k_52.trans rfl
  · exact k_53.trans rfl
  · exact k_54.trans rfl
  · exact k_55.trans rfl
  · exact k_56.trans rfl
  · exact k_57.trans rfl
  · exact k_58.trans rfl
  · exact k_59.trans rfl
  · exact c_60.trans rfl
  · exact c_61.trans rfl
  · exact c_62.trans rfl
  · exact c_63.trans rfl
  · exact c_64.trans rfl
  · refine c_65.trans ?_
    exact congrArg (fun q => (Sum.inr (.int, 5, .inl q) : ji_C)) b0_sv.symm
  · exact c_66.trans rfl
  · exact c_67.trans rfl
  · exact c_68.trans rfl
  · exact c_69.trans rfl
  · exact c_70.trans rfl
  · rw [cl_a60 (by omega), rf_o (by omega)]
    rfl
