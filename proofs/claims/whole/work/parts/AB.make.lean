/-! ===== the maker of the whole object ===== -/
section MAKE
variable {G : ji_G} {d : Nat}
set_option maxRecDepth 100000 in
theorem c_BookPager0 {f : Nat → ji_C} (hq : f 0 = .inl (7, [.null, .null, .null, .int (jI 0), .int (jI 0), .null, .null, .null, .null, .null, .int (jI 0)])) : JM G (d + 3) mX7_init [.ref 0] (1, f) 59 4283 (fun r h9 => r = .inl none ∧ h9.1 = 60 ∧ (∀ x, x < 0 → h9.2 x = f x) ∧ h9.2 0 = .inl (7, [.ref 1, .ref 4, .ref 5, .int (jI 30), .int (jI 8), .ref 6, .ref 12, .ref 17, .ref 40, .ref 50, .int (jI 1)]) ∧ h9.2 1 = .inl (2, [.ref 2, .ref 3, .int (jI 0)]) ∧ h9.2 2 = .inr (.char, 100, .inl (fun _ => 0)) ∧ h9.2 3 = .inl (5, [.int (jI 0), .int (jI 0), .int (jI 0), .int (jI 0), .int (jI 0), .int (jI 0), .int (jI 0)]) ∧ h9.2 4 = .inr (.object RX6, 10, .inr (.inr (fun _ => none))) ∧ h9.2 5 = .inr (.int, 5, .inl (va_up (va_up (va_up (va_up (va_up (fun _ => 0) 0 2) 1 4) 2 0) 3 0) 4 0)) ∧ h9.2 6 = .inl (0, [.ref 7, .ref 10, .ref 11]) ∧ h9.2 7 = .inl (6, [.ref 8, .ref 9]) ∧ h9.2 8 = .inr (.char, 1, .inl (va_up (fun _ => 0) 0 97)) ∧ h9.2 9 = .inr (.int, 2, .inl (wd_starts 1 (va_up (fun _ => 0) 0 97))) ∧ h9.2 10 = .inr (.int, 1, .inl (va_up (fun _ => 0) 0 0)) ∧ h9.2 11 = .inr (.int, 2, .inl (va_up (va_up (fun _ => 0) 0 0) 1 1)) ∧ h9.2 12 = .inl (4, [.int (jI 0), .int (jI 0), .ref 13, .int (jI 0), .ref 14, .ref 15, .ref 16]) ∧ h9.2 13 = .inr (.int, 5, .inl (fun _ => 0)) ∧ h9.2 14 = .inr (.int, 12, .inl (fun _ => 0)) ∧ h9.2 15 = .inr (.int, 12, .inl (fun _ => 0)) ∧ h9.2 16 = .inr (.int, 12, .inl (fun _ => 0)) ∧ h9.2 17 = .inl (1, [.ref 18, .ref 19, .int (jI 0)]) ∧ h9.2 18 = .inr (.object RX0, 4, .inr (.inr (fun _ => none))) ∧ h9.2 19 = .inr (.object RX4, 4, .inr (.inr (va_up (va_up (va_up (va_up (fun _ => none) 0 (some 20)) 1 (some 25)) 2 (some 30)) 3 (some 35)))) ∧ h9.2 20 = .inl (4, [.int (jI 0), .int (jI 0), .ref 21, .int (jI 0), .ref 22, .ref 23, .ref 24]) ∧ h9.2 21 = .inr (.int, 5, .inl (fun _ => 0)) ∧ h9.2 22 = .inr (.int, 12, .inl (fun _ => 0)) ∧ h9.2 23 = .inr (.int, 12, .inl (fun _ => 0)) ∧ h9.2 24 = .inr (.int, 12, .inl (fun _ => 0)) ∧ h9.2 25 = .inl (4, [.int (jI 0), .int (jI 0), .ref 26, .int (jI 0), .ref 27, .ref 28, .ref 29]) ∧ h9.2 26 = .inr (.int, 5, .inl (fun _ => 0)) ∧ h9.2 27 = .inr (.int, 12, .inl (fun _ => 0)) ∧ h9.2 28 = .inr (.int, 12, .inl (fun _ => 0)) ∧ h9.2 29 = .inr (.int, 12, .inl (fun _ => 0)) ∧ h9.2 30 = .inl (4, [.int (jI 0), .int (jI 0), .ref 31, .int (jI 0), .ref 32, .ref 33, .ref 34]) ∧ h9.2 31 = .inr (.int, 5, .inl (fun _ => 0)) ∧ h9.2 32 = .inr (.int, 12, .inl (fun _ => 0)) ∧ h9.2 33 = .inr (.int, 12, .inl (fun _ => 0)) ∧ h9.2 34 = .inr (.int, 12, .inl (fun _ => 0)) ∧ h9.2 35 = .inl (4, [.int (jI 0), .int (jI 0), .ref 36, .int (jI 0), .ref 37, .ref 38, .ref 39]) ∧ h9.2 36 = .inr (.int, 5, .inl (fun _ => 0)) ∧ h9.2 37 = .inr (.int, 12, .inl (fun _ => 0)) ∧ h9.2 38 = .inr (.int, 12, .inl (fun _ => 0)) ∧ h9.2 39 = .inr (.int, 12, .inl (fun _ => 0)) ∧ h9.2 40 = .inl (3, [.ref 4, .ref 5, .ref 6, .int (jI 0), .int (jI 0), .ref 41, .int (jI 0), .ref 42, .ref 43, .ref 44, .ref 45, .ref 46, .ref 47, .ref 48, .int (jI 0), .ref 49]) ∧ h9.2 41 = .inr (.int, 10, .inl (fun _ => 0)) ∧ h9.2 42 = .inr (.int, 241, .inl (fun _ => 0)) ∧ h9.2 43 = .inr (.int, 240, .inl (fun _ => 0)) ∧ h9.2 44 = .inr (.int, 240, .inl (fun _ => 0)) ∧ h9.2 45 = .inr (.int, 240, .inl (fun _ => 0)) ∧ h9.2 46 = .inr (.boolean, 240, .inl (fun _ => 0)) ∧ h9.2 47 = .inr (.int, 240, .inl (fun _ => 0)) ∧ h9.2 48 = .inr (.int, 240, .inl (fun _ => 0)) ∧ h9.2 49 = .inr (.int, 241, .inl (fun _ => 0)) ∧ h9.2 50 = .inl (3, [.ref 4, .ref 5, .ref 6, .int (jI 0), .int (jI 0), .ref 51, .int (jI 0), .ref 52, .ref 53, .ref 54, .ref 55, .ref 56, .ref 57, .ref 58, .int (jI 0), .ref 59]) ∧ h9.2 51 = .inr (.int, 10, .inl (fun _ => 0)) ∧ h9.2 52 = .inr (.int, 241, .inl (fun _ => 0)) ∧ h9.2 53 = .inr (.int, 240, .inl (fun _ => 0)) ∧ h9.2 54 = .inr (.int, 240, .inl (fun _ => 0)) ∧ h9.2 55 = .inr (.int, 240, .inl (fun _ => 0)) ∧ h9.2 56 = .inr (.boolean, 240, .inl (fun _ => 0)) ∧ h9.2 57 = .inr (.int, 240, .inl (fun _ => 0)) ∧ h9.2 58 = .inr (.int, 240, .inl (fun _ => 0)) ∧ h9.2 59 = .inr (.int, 241, .inl (fun _ => 0))) := by
  refine ji_ent (by decide) rfl (Nat.le_of_ble_eq_true rfl) rfl ?_
  have hcnt : wd_cnt (va_up (fun _ => (0 : Int)) 0 97) 1 = 0 := tx0_c
  refine ji_aload_n dX7_init_0 rfl trivial ?_
  refine ji_objInit dX7_init_1 lX7_3 ji_wobj.1 ji_wobj.2 (Nat.le_of_ble_eq_true rfl) ?_
  refine ji_aload_n dX7_init_4 rfl trivial ?_
  refine ji_new (ci := 2) (fs := [.null, .null, .int (jI 0)]) rfl dX7_init_5 lX7_9 (fun G ad => by simp [ji_vs, ji_v]) (by decide) (by omega) (by omega) ?_
  refine ji_dup dX7_init_8 rfl ?_
  refine ji_callIN dX7_init_9 (c_Input1 (by exact rfl)) rfl wX2_init rfl rfl iX2_init (by decide) rfl (Nat.le_of_ble_eq_true rfl) rfl (by omega) (by omega) (fun r h0 hq0 => ?_) (fun E h0 hq0 => by cases hq0.1)
  obtain ⟨er0, en0, fr0, c0_1, c0_2, c0_3⟩ := hq0
  cases er0
  obtain ⟨n0, g0⟩ := h0
  cases (show n0 = 4 from en0)
  have d0_0 : g0 0 = .inl (7, [.null, .null, .null, .int (jI 0), .int (jI 0), .null, .null, .null, .null, .null, .int (jI 0)]) := (fr0 0 (by omega)).trans (hq)
  refine ji_putF (ci := 7) (k := 0) rfl dX7_init_12 lX7_12 (by decide) (d0_0) (by simp) (ji_fitO _ trivial) rfl rfl rfl ?_
  refine ji_aload_n dX7_init_15 rfl trivial ?_
  refine ji_bipush dX7_init_16 rfl ?_
  refine ji_newA dX7_init_18 lX7_16 (ji_ao (by decide)) (fun cy => rfl) (by omega) (by omega) (by omega) ?_
  refine ji_putF (ci := 7) (k := 1) rfl dX7_init_21 lX7_18 (by decide) (rfl) (by simp) (ji_fitA _ trivial) rfl rfl rfl ?_
  refine ji_aload_n dX7_init_24 rfl trivial ?_
  refine ji_iconst dX7_init_25 ?_
  refine ji_newI dX7_init_26 (by omega) (by omega) (by omega) ?_
  refine ji_dup dX7_init_28 rfl ?_
  refine ji_iconst dX7_init_29 ?_
  refine ji_iconst dX7_init_30 ?_
  refine ji_iastore dX7_init_31 (rfl) (by omega) ?_
  refine ji_dup dX7_init_32 rfl ?_
  refine ji_iconst dX7_init_33 ?_
  refine ji_iconst dX7_init_34 ?_
  refine ji_iastore dX7_init_35 (rfl) (by omega) ?_
  refine ji_dup dX7_init_36 rfl ?_
  refine ji_iconst dX7_init_37 ?_
  refine ji_iconst dX7_init_38 ?_
  refine ji_iastore dX7_init_39 (rfl) (by omega) ?_
  refine ji_dup dX7_init_40 rfl ?_
  refine ji_iconst dX7_init_41 ?_
  refine ji_iconst dX7_init_42 ?_
  refine ji_iastore dX7_init_43 (rfl) (by omega) ?_
  refine ji_dup dX7_init_44 rfl ?_
  refine ji_iconst dX7_init_45 ?_
  refine ji_iconst dX7_init_46 ?_
  refine ji_iastore dX7_init_47 (rfl) (by omega) ?_
  refine ji_putF (ci := 7) (k := 2) rfl dX7_init_48 lX7_22 (by decide) (rfl) (by simp) (ji_fitA _ trivial) rfl rfl rfl ?_
  refine ji_aload_n dX7_init_51 rfl trivial ?_
  refine ji_bipush dX7_init_52 rfl ?_
  refine ji_put (ci := 7) (k := 3) rfl dX7_init_54 lX7_26 (by decide) (rfl) (by simp) (ji_fitI _) rfl ?_
  refine ji_aload_n dX7_init_57 rfl trivial ?_
  refine ji_bipush dX7_init_58 rfl ?_
  refine ji_put (ci := 7) (k := 4) rfl dX7_init_60 lX7_30 (by decide) (rfl) (by simp) (ji_fitI _) rfl ?_
  refine ji_aload_n dX7_init_63 rfl trivial ?_
  refine ji_new (ci := 0) (fs := [.null, .null, .null]) rfl dX7_init_64 lX7_33 (fun G ad => by simp [ji_vs, ji_v]) (by decide) (by omega) (by omega) ?_
  refine ji_dup dX7_init_67 rfl ?_
  refine ji_new (ci := 6) (fs := [.null, .null]) rfl dX7_init_68 lX7_16 (fun G ad => by simp [ji_vs, ji_v]) (by decide) (by omega) (by omega) ?_
  refine ji_dup dX7_init_71 rfl ?_
  refine ji_iconst dX7_init_72 ?_
  refine ji_newC dX7_init_73 (by omega) (by omega) (by omega) ?_
  refine ji_dup dX7_init_75 rfl ?_
  refine ji_iconst dX7_init_76 ?_
  refine ji_bipush dX7_init_77 rfl ?_
  refine ji_castore dX7_init_79 (rfl) (by omega) (by omega) ?_
  refine ji_callI dX7_init_80 (k_Words_init (v0 := .null) (v1 := .null) (m := 1) (tx := va_up (fun _ => 0) 0 97) (by exact rfl) (by exact rfl) (by show 7 < 9; omega) (by show 8 < 9; omega) (by omega) tx0_b) rfl wX6_init rfl rfl iX6_init lX7_35 rfl (Nat.le_of_ble_eq_true rfl) rfl (by omega) (by rw [tx0_c]; omega) (fun r h1 hq1 => ?_) (fun E h1 hq1 => by cases hq1.1)
  obtain ⟨er1, eh1⟩ := hq1
  cases er1
  have en1 : h1.1 = 10 := by rw [eh1] <;> rfl
  have d1_0 : h1.2 0 = .inl (7, [.ref 1, .ref 4, .ref 5, .int (jI 30), .int (jI 8), .null, .null, .null, .null, .null, .int (jI 0)]) := by rw [eh1]; exact rfl
  have d1_1 : h1.2 1 = .inl (2, [.ref 2, .ref 3, .int (jI 0)]) := by rw [eh1]; exact c0_1
  have d1_2 : h1.2 2 = .inr (.char, 100, .inl (fun _ => 0)) := by rw [eh1]; exact c0_2
  have d1_3 : h1.2 3 = .inl (5, [.int (jI 0), .int (jI 0), .int (jI 0), .int (jI 0), .int (jI 0), .int (jI 0), .int (jI 0)]) := by rw [eh1]; exact c0_3
  have d1_4 : h1.2 4 = .inr (.object RX6, 10, .inr (.inr (fun _ => none))) := by rw [eh1]; exact rfl
  have d1_5 : h1.2 5 = .inr (.int, 5, .inl (va_up (va_up (va_up (va_up (va_up (fun _ => 0) 0 2) 1 4) 2 0) 3 0) 4 0)) := by rw [eh1]; exact rfl
  have d1_6 : h1.2 6 = .inl (0, [.null, .null, .null]) := by rw [eh1]; exact rfl
  have d1_7 : h1.2 7 = .inl (6, [.ref 8, .ref 9]) := by rw [eh1]; exact rfl
  have d1_8 : h1.2 8 = .inr (.char, 1, .inl (va_up (fun _ => 0) 0 97)) := by rw [eh1]; exact rfl
  have d1_9 : h1.2 9 = .inr (.int, 2, .inl (wd_starts 1 (va_up (fun _ => 0) 0 97))) := by rw [eh1]; exact rfl
  clear eh1
  obtain ⟨n1, g1⟩ := h1
  cases (show n1 = 10 from en1)
  refine ji_iconst dX7_init_83 ?_
  refine ji_newI dX7_init_84 (by omega) (by omega) (by omega) ?_
  refine ji_dup dX7_init_86 rfl ?_
  refine ji_iconst dX7_init_87 ?_
  refine ji_iconst dX7_init_88 ?_
  refine ji_iastore dX7_init_89 (rfl) (by omega) ?_
  refine ji_iconst dX7_init_90 ?_
  refine ji_newI dX7_init_91 (by omega) (by omega) (by omega) ?_
  refine ji_dup dX7_init_93 rfl ?_
  refine ji_iconst dX7_init_94 ?_
  refine ji_iconst dX7_init_95 ?_
  refine ji_iastore dX7_init_96 (rfl) (by omega) ?_
  refine ji_dup dX7_init_97 rfl ?_
  refine ji_iconst dX7_init_98 ?_
  refine ji_iconst dX7_init_99 ?_
  refine ji_iastore dX7_init_100 (rfl) (by omega) ?_
  refine ji_callI dX7_init_101 (k_Book_init (v0 := .null) (v1 := .null) (v2 := .null) (by exact d1_6)) rfl wX0_init rfl rfl iX0_init lX7_38 rfl (Nat.le_of_ble_eq_true rfl) rfl (by omega) (by omega) (fun r h2 hq2 => ?_) (fun E h2 hq2 => by cases hq2.1)
  obtain ⟨er2, eh2⟩ := hq2
  cases er2
  have en2 : h2.1 = 12 := by rw [eh2] <;> rfl
  have d2_0 : h2.2 0 = .inl (7, [.ref 1, .ref 4, .ref 5, .int (jI 30), .int (jI 8), .null, .null, .null, .null, .null, .int (jI 0)]) := by rw [eh2]; exact d1_0
  have d2_1 : h2.2 1 = .inl (2, [.ref 2, .ref 3, .int (jI 0)]) := by rw [eh2]; exact d1_1
  have d2_2 : h2.2 2 = .inr (.char, 100, .inl (fun _ => 0)) := by rw [eh2]; exact d1_2
  have d2_3 : h2.2 3 = .inl (5, [.int (jI 0), .int (jI 0), .int (jI 0), .int (jI 0), .int (jI 0), .int (jI 0), .int (jI 0)]) := by rw [eh2]; exact d1_3
  have d2_4 : h2.2 4 = .inr (.object RX6, 10, .inr (.inr (fun _ => none))) := by rw [eh2]; exact d1_4
  have d2_5 : h2.2 5 = .inr (.int, 5, .inl (va_up (va_up (va_up (va_up (va_up (fun _ => 0) 0 2) 1 4) 2 0) 3 0) 4 0)) := by rw [eh2]; exact d1_5
  have d2_6 : h2.2 6 = .inl (0, [.ref 7, .ref 10, .ref 11]) := by rw [eh2]; exact rfl
  have d2_7 : h2.2 7 = .inl (6, [.ref 8, .ref 9]) := by rw [eh2]; exact d1_7
  have d2_8 : h2.2 8 = .inr (.char, 1, .inl (va_up (fun _ => 0) 0 97)) := by rw [eh2]; exact d1_8
  have d2_9 : h2.2 9 = .inr (.int, 2, .inl (wd_starts 1 (va_up (fun _ => 0) 0 97))) := by rw [eh2]; exact d1_9
  have d2_10 : h2.2 10 = .inr (.int, 1, .inl (va_up (fun _ => 0) 0 0)) := by rw [eh2]; exact rfl
  have d2_11 : h2.2 11 = .inr (.int, 2, .inl (va_up (va_up (fun _ => 0) 0 0) 1 1)) := by rw [eh2]; exact rfl
  clear eh2
  obtain ⟨n2, g2⟩ := h2
  cases (show n2 = 12 from en2)
  refine ji_put (ci := 7) (k := 5) rfl dX7_init_104 lX7_41 (by decide) (d2_0) (by simp) (ji_fitO _ trivial) rfl ?_
  refine ji_aload_n dX7_init_107 rfl trivial ?_
  refine ji_new (ci := 4) (fs := [.int (jI 0), .int (jI 0), .null, .int (jI 0), .null, .null, .null]) rfl dX7_init_108 lX7_45 (fun G ad => by simp [ji_vs, ji_v]) (by decide) (by omega) (by omega) ?_
  refine ji_dup dX7_init_111 rfl ?_
  refine ji_callIN dX7_init_112 (c_Marks12 (by exact rfl)) rfl wX4_init rfl rfl iX4_init (by decide) rfl (Nat.le_of_ble_eq_true rfl) rfl (by omega) (by omega) (fun r h3 hq3 => ?_) (fun E h3 hq3 => by cases hq3.1)
  obtain ⟨er3, en3, fr3, c3_12, c3_13, c3_14, c3_15, c3_16⟩ := hq3
  cases er3
  obtain ⟨n3, g3⟩ := h3
  cases (show n3 = 17 from en3)
  have d3_0 : g3 0 = .inl (7, [.ref 1, .ref 4, .ref 5, .int (jI 30), .int (jI 8), .ref 6, .null, .null, .null, .null, .int (jI 0)]) := (fr3 0 (by omega)).trans (rfl)
  have d3_1 : g3 1 = .inl (2, [.ref 2, .ref 3, .int (jI 0)]) := (fr3 1 (by omega)).trans (d2_1)
  have d3_2 : g3 2 = .inr (.char, 100, .inl (fun _ => 0)) := (fr3 2 (by omega)).trans (d2_2)
  have d3_3 : g3 3 = .inl (5, [.int (jI 0), .int (jI 0), .int (jI 0), .int (jI 0), .int (jI 0), .int (jI 0), .int (jI 0)]) := (fr3 3 (by omega)).trans (d2_3)
  have d3_4 : g3 4 = .inr (.object RX6, 10, .inr (.inr (fun _ => none))) := (fr3 4 (by omega)).trans (d2_4)
  have d3_5 : g3 5 = .inr (.int, 5, .inl (va_up (va_up (va_up (va_up (va_up (fun _ => 0) 0 2) 1 4) 2 0) 3 0) 4 0)) := (fr3 5 (by omega)).trans (d2_5)
  have d3_6 : g3 6 = .inl (0, [.ref 7, .ref 10, .ref 11]) := (fr3 6 (by omega)).trans (d2_6)
  have d3_7 : g3 7 = .inl (6, [.ref 8, .ref 9]) := (fr3 7 (by omega)).trans (d2_7)
  have d3_8 : g3 8 = .inr (.char, 1, .inl (va_up (fun _ => 0) 0 97)) := (fr3 8 (by omega)).trans (d2_8)
  have d3_9 : g3 9 = .inr (.int, 2, .inl (wd_starts 1 (va_up (fun _ => 0) 0 97))) := (fr3 9 (by omega)).trans (d2_9)
  have d3_10 : g3 10 = .inr (.int, 1, .inl (va_up (fun _ => 0) 0 0)) := (fr3 10 (by omega)).trans (d2_10)
  have d3_11 : g3 11 = .inr (.int, 2, .inl (va_up (va_up (fun _ => 0) 0 0) 1 1)) := (fr3 11 (by omega)).trans (d2_11)
  refine ji_putF (ci := 7) (k := 6) rfl dX7_init_115 lX7_48 (by decide) (d3_0) (by simp) (ji_fitO _ trivial) rfl rfl rfl ?_
  refine ji_aload_n dX7_init_118 rfl trivial ?_
  refine ji_new (ci := 1) (fs := [.null, .null, .int (jI 0)]) rfl dX7_init_119 lX7_52 (fun G ad => by simp [ji_vs, ji_v]) (by decide) (by omega) (by omega) ?_
  refine ji_dup dX7_init_122 rfl ?_
  refine ji_callI dX7_init_123 (c_History17 (by exact rfl)) rfl wX1_init rfl rfl iX1_init lX7_54 rfl (Nat.le_of_ble_eq_true rfl) rfl (by omega) (by omega) (fun r h4 hq4 => ?_) (fun E h4 hq4 => by cases hq4.1)
  obtain ⟨er4, en4, fr4, c4_17, c4_18, c4_19, c4_20, c4_21, c4_22, c4_23, c4_24, c4_25, c4_26, c4_27, c4_28, c4_29, c4_30, c4_31, c4_32, c4_33, c4_34, c4_35, c4_36, c4_37, c4_38, c4_39⟩ := hq4
  cases er4
  obtain ⟨n4, g4⟩ := h4
  cases (show n4 = 40 from en4)
  have d4_0 : g4 0 = .inl (7, [.ref 1, .ref 4, .ref 5, .int (jI 30), .int (jI 8), .ref 6, .ref 12, .null, .null, .null, .int (jI 0)]) := (fr4 0 (by omega)).trans (rfl)
  have d4_1 : g4 1 = .inl (2, [.ref 2, .ref 3, .int (jI 0)]) := (fr4 1 (by omega)).trans (d3_1)
  have d4_2 : g4 2 = .inr (.char, 100, .inl (fun _ => 0)) := (fr4 2 (by omega)).trans (d3_2)
  have d4_3 : g4 3 = .inl (5, [.int (jI 0), .int (jI 0), .int (jI 0), .int (jI 0), .int (jI 0), .int (jI 0), .int (jI 0)]) := (fr4 3 (by omega)).trans (d3_3)
  have d4_4 : g4 4 = .inr (.object RX6, 10, .inr (.inr (fun _ => none))) := (fr4 4 (by omega)).trans (d3_4)
  have d4_5 : g4 5 = .inr (.int, 5, .inl (va_up (va_up (va_up (va_up (va_up (fun _ => 0) 0 2) 1 4) 2 0) 3 0) 4 0)) := (fr4 5 (by omega)).trans (d3_5)
  have d4_6 : g4 6 = .inl (0, [.ref 7, .ref 10, .ref 11]) := (fr4 6 (by omega)).trans (d3_6)
  have d4_7 : g4 7 = .inl (6, [.ref 8, .ref 9]) := (fr4 7 (by omega)).trans (d3_7)
  have d4_8 : g4 8 = .inr (.char, 1, .inl (va_up (fun _ => 0) 0 97)) := (fr4 8 (by omega)).trans (d3_8)
  have d4_9 : g4 9 = .inr (.int, 2, .inl (wd_starts 1 (va_up (fun _ => 0) 0 97))) := (fr4 9 (by omega)).trans (d3_9)
  have d4_10 : g4 10 = .inr (.int, 1, .inl (va_up (fun _ => 0) 0 0)) := (fr4 10 (by omega)).trans (d3_10)
  have d4_11 : g4 11 = .inr (.int, 2, .inl (va_up (va_up (fun _ => 0) 0 0) 1 1)) := (fr4 11 (by omega)).trans (d3_11)
  have d4_12 : g4 12 = .inl (4, [.int (jI 0), .int (jI 0), .ref 13, .int (jI 0), .ref 14, .ref 15, .ref 16]) := (fr4 12 (by omega)).trans (c3_12)
  have d4_13 : g4 13 = .inr (.int, 5, .inl (fun _ => 0)) := (fr4 13 (by omega)).trans (c3_13)
  have d4_14 : g4 14 = .inr (.int, 12, .inl (fun _ => 0)) := (fr4 14 (by omega)).trans (c3_14)
  have d4_15 : g4 15 = .inr (.int, 12, .inl (fun _ => 0)) := (fr4 15 (by omega)).trans (c3_15)
  have d4_16 : g4 16 = .inr (.int, 12, .inl (fun _ => 0)) := (fr4 16 (by omega)).trans (c3_16)
  refine ji_putF (ci := 7) (k := 7) rfl dX7_init_126 lX7_55 (by decide) (d4_0) (by simp) (ji_fitO _ trivial) rfl rfl rfl ?_
  refine ji_aload_n dX7_init_129 rfl trivial ?_
  refine ji_new (ci := 3) (fs := [.null, .null, .null, .int (jI 0), .int (jI 0), .null, .int (jI 0), .null, .null, .null, .null, .null, .null, .null, .int (jI 0), .null]) rfl dX7_init_130 lX7_59 (fun G ad => by simp [ji_vs, ji_v]) (by decide) (by omega) (by omega) ?_
  refine ji_dup dX7_init_133 rfl ?_
  refine ji_aload_n dX7_init_134 rfl trivial ?_
  refine ji_get (ci := 7) (k := 5) rfl dX7_init_135 lX7_41 (by decide) (rfl) rfl ?_
  refine ji_aload_n dX7_init_138 rfl trivial ?_
  refine ji_get (ci := 7) (k := 1) rfl dX7_init_139 lX7_18 (by decide) (rfl) rfl ?_
  refine ji_aload_n dX7_init_142 rfl trivial ?_
  refine ji_get (ci := 7) (k := 2) rfl dX7_init_143 lX7_22 (by decide) (rfl) rfl ?_
  refine ji_callI dX7_init_146 (c_Layout40 (by exact rfl)) rfl wX3_init rfl rfl iX3_init lX7_61 rfl (Nat.le_of_ble_eq_true rfl) rfl (by omega) (by omega) (fun r h5 hq5 => ?_) (fun E h5 hq5 => by cases hq5.1)
  obtain ⟨er5, en5, fr5, c5_40, c5_41, c5_42, c5_43, c5_44, c5_45, c5_46, c5_47, c5_48, c5_49⟩ := hq5
  cases er5
  obtain ⟨n5, g5⟩ := h5
  cases (show n5 = 50 from en5)
  have d5_0 : g5 0 = .inl (7, [.ref 1, .ref 4, .ref 5, .int (jI 30), .int (jI 8), .ref 6, .ref 12, .ref 17, .null, .null, .int (jI 0)]) := (fr5 0 (by omega)).trans (rfl)
  have d5_1 : g5 1 = .inl (2, [.ref 2, .ref 3, .int (jI 0)]) := (fr5 1 (by omega)).trans (d4_1)
  have d5_2 : g5 2 = .inr (.char, 100, .inl (fun _ => 0)) := (fr5 2 (by omega)).trans (d4_2)
  have d5_3 : g5 3 = .inl (5, [.int (jI 0), .int (jI 0), .int (jI 0), .int (jI 0), .int (jI 0), .int (jI 0), .int (jI 0)]) := (fr5 3 (by omega)).trans (d4_3)
  have d5_4 : g5 4 = .inr (.object RX6, 10, .inr (.inr (fun _ => none))) := (fr5 4 (by omega)).trans (d4_4)
  have d5_5 : g5 5 = .inr (.int, 5, .inl (va_up (va_up (va_up (va_up (va_up (fun _ => 0) 0 2) 1 4) 2 0) 3 0) 4 0)) := (fr5 5 (by omega)).trans (d4_5)
  have d5_6 : g5 6 = .inl (0, [.ref 7, .ref 10, .ref 11]) := (fr5 6 (by omega)).trans (d4_6)
  have d5_7 : g5 7 = .inl (6, [.ref 8, .ref 9]) := (fr5 7 (by omega)).trans (d4_7)
  have d5_8 : g5 8 = .inr (.char, 1, .inl (va_up (fun _ => 0) 0 97)) := (fr5 8 (by omega)).trans (d4_8)
  have d5_9 : g5 9 = .inr (.int, 2, .inl (wd_starts 1 (va_up (fun _ => 0) 0 97))) := (fr5 9 (by omega)).trans (d4_9)
  have d5_10 : g5 10 = .inr (.int, 1, .inl (va_up (fun _ => 0) 0 0)) := (fr5 10 (by omega)).trans (d4_10)
  have d5_11 : g5 11 = .inr (.int, 2, .inl (va_up (va_up (fun _ => 0) 0 0) 1 1)) := (fr5 11 (by omega)).trans (d4_11)
  have d5_12 : g5 12 = .inl (4, [.int (jI 0), .int (jI 0), .ref 13, .int (jI 0), .ref 14, .ref 15, .ref 16]) := (fr5 12 (by omega)).trans (d4_12)
  have d5_13 : g5 13 = .inr (.int, 5, .inl (fun _ => 0)) := (fr5 13 (by omega)).trans (d4_13)
  have d5_14 : g5 14 = .inr (.int, 12, .inl (fun _ => 0)) := (fr5 14 (by omega)).trans (d4_14)
  have d5_15 : g5 15 = .inr (.int, 12, .inl (fun _ => 0)) := (fr5 15 (by omega)).trans (d4_15)
  have d5_16 : g5 16 = .inr (.int, 12, .inl (fun _ => 0)) := (fr5 16 (by omega)).trans (d4_16)
  have d5_17 : g5 17 = .inl (1, [.ref 18, .ref 19, .int (jI 0)]) := (fr5 17 (by omega)).trans (c4_17)
  have d5_18 : g5 18 = .inr (.object RX0, 4, .inr (.inr (fun _ => none))) := (fr5 18 (by omega)).trans (c4_18)
  have d5_19 : g5 19 = .inr (.object RX4, 4, .inr (.inr (va_up (va_up (va_up (va_up (fun _ => none) 0 (some 20)) 1 (some 25)) 2 (some 30)) 3 (some 35)))) := (fr5 19 (by omega)).trans (c4_19)
  have d5_20 : g5 20 = .inl (4, [.int (jI 0), .int (jI 0), .ref 21, .int (jI 0), .ref 22, .ref 23, .ref 24]) := (fr5 20 (by omega)).trans (c4_20)
  have d5_21 : g5 21 = .inr (.int, 5, .inl (fun _ => 0)) := (fr5 21 (by omega)).trans (c4_21)
  have d5_22 : g5 22 = .inr (.int, 12, .inl (fun _ => 0)) := (fr5 22 (by omega)).trans (c4_22)
  have d5_23 : g5 23 = .inr (.int, 12, .inl (fun _ => 0)) := (fr5 23 (by omega)).trans (c4_23)
  have d5_24 : g5 24 = .inr (.int, 12, .inl (fun _ => 0)) := (fr5 24 (by omega)).trans (c4_24)
  have d5_25 : g5 25 = .inl (4, [.int (jI 0), .int (jI 0), .ref 26, .int (jI 0), .ref 27, .ref 28, .ref 29]) := (fr5 25 (by omega)).trans (c4_25)
  have d5_26 : g5 26 = .inr (.int, 5, .inl (fun _ => 0)) := (fr5 26 (by omega)).trans (c4_26)
  have d5_27 : g5 27 = .inr (.int, 12, .inl (fun _ => 0)) := (fr5 27 (by omega)).trans (c4_27)
  have d5_28 : g5 28 = .inr (.int, 12, .inl (fun _ => 0)) := (fr5 28 (by omega)).trans (c4_28)
  have d5_29 : g5 29 = .inr (.int, 12, .inl (fun _ => 0)) := (fr5 29 (by omega)).trans (c4_29)
  have d5_30 : g5 30 = .inl (4, [.int (jI 0), .int (jI 0), .ref 31, .int (jI 0), .ref 32, .ref 33, .ref 34]) := (fr5 30 (by omega)).trans (c4_30)
  have d5_31 : g5 31 = .inr (.int, 5, .inl (fun _ => 0)) := (fr5 31 (by omega)).trans (c4_31)
  have d5_32 : g5 32 = .inr (.int, 12, .inl (fun _ => 0)) := (fr5 32 (by omega)).trans (c4_32)
  have d5_33 : g5 33 = .inr (.int, 12, .inl (fun _ => 0)) := (fr5 33 (by omega)).trans (c4_33)
  have d5_34 : g5 34 = .inr (.int, 12, .inl (fun _ => 0)) := (fr5 34 (by omega)).trans (c4_34)
  have d5_35 : g5 35 = .inl (4, [.int (jI 0), .int (jI 0), .ref 36, .int (jI 0), .ref 37, .ref 38, .ref 39]) := (fr5 35 (by omega)).trans (c4_35)
  have d5_36 : g5 36 = .inr (.int, 5, .inl (fun _ => 0)) := (fr5 36 (by omega)).trans (c4_36)
  have d5_37 : g5 37 = .inr (.int, 12, .inl (fun _ => 0)) := (fr5 37 (by omega)).trans (c4_37)
  have d5_38 : g5 38 = .inr (.int, 12, .inl (fun _ => 0)) := (fr5 38 (by omega)).trans (c4_38)
  have d5_39 : g5 39 = .inr (.int, 12, .inl (fun _ => 0)) := (fr5 39 (by omega)).trans (c4_39)
  refine ji_putF (ci := 7) (k := 8) rfl dX7_init_149 lX7_64 (by decide) (d5_0) (by simp) (ji_fitO _ trivial) rfl rfl rfl ?_
  refine ji_aload_n dX7_init_152 rfl trivial ?_
  refine ji_new (ci := 3) (fs := [.null, .null, .null, .int (jI 0), .int (jI 0), .null, .int (jI 0), .null, .null, .null, .null, .null, .null, .null, .int (jI 0), .null]) rfl dX7_init_153 lX7_59 (fun G ad => by simp [ji_vs, ji_v]) (by decide) (by omega) (by omega) ?_
  refine ji_dup dX7_init_156 rfl ?_
  refine ji_aload_n dX7_init_157 rfl trivial ?_
  refine ji_get (ci := 7) (k := 5) rfl dX7_init_158 lX7_41 (by decide) (rfl) rfl ?_
  refine ji_aload_n dX7_init_161 rfl trivial ?_
  refine ji_get (ci := 7) (k := 1) rfl dX7_init_162 lX7_18 (by decide) (rfl) rfl ?_
  refine ji_aload_n dX7_init_165 rfl trivial ?_
  refine ji_get (ci := 7) (k := 2) rfl dX7_init_166 lX7_22 (by decide) (rfl) rfl ?_
  refine ji_callI dX7_init_169 (c_Layout50 (by exact rfl)) rfl wX3_init rfl rfl iX3_init lX7_61 rfl (Nat.le_of_ble_eq_true rfl) rfl (by omega) (by omega) (fun r h6 hq6 => ?_) (fun E h6 hq6 => by cases hq6.1)
  obtain ⟨er6, en6, fr6, c6_50, c6_51, c6_52, c6_53, c6_54, c6_55, c6_56, c6_57, c6_58, c6_59⟩ := hq6
  cases er6
  obtain ⟨n6, g6⟩ := h6
  cases (show n6 = 60 from en6)
  have d6_0 : g6 0 = .inl (7, [.ref 1, .ref 4, .ref 5, .int (jI 30), .int (jI 8), .ref 6, .ref 12, .ref 17, .ref 40, .null, .int (jI 0)]) := (fr6 0 (by omega)).trans (rfl)
  have d6_1 : g6 1 = .inl (2, [.ref 2, .ref 3, .int (jI 0)]) := (fr6 1 (by omega)).trans (d5_1)
  have d6_2 : g6 2 = .inr (.char, 100, .inl (fun _ => 0)) := (fr6 2 (by omega)).trans (d5_2)
  have d6_3 : g6 3 = .inl (5, [.int (jI 0), .int (jI 0), .int (jI 0), .int (jI 0), .int (jI 0), .int (jI 0), .int (jI 0)]) := (fr6 3 (by omega)).trans (d5_3)
  have d6_4 : g6 4 = .inr (.object RX6, 10, .inr (.inr (fun _ => none))) := (fr6 4 (by omega)).trans (d5_4)
  have d6_5 : g6 5 = .inr (.int, 5, .inl (va_up (va_up (va_up (va_up (va_up (fun _ => 0) 0 2) 1 4) 2 0) 3 0) 4 0)) := (fr6 5 (by omega)).trans (d5_5)
  have d6_6 : g6 6 = .inl (0, [.ref 7, .ref 10, .ref 11]) := (fr6 6 (by omega)).trans (d5_6)
  have d6_7 : g6 7 = .inl (6, [.ref 8, .ref 9]) := (fr6 7 (by omega)).trans (d5_7)
  have d6_8 : g6 8 = .inr (.char, 1, .inl (va_up (fun _ => 0) 0 97)) := (fr6 8 (by omega)).trans (d5_8)
  have d6_9 : g6 9 = .inr (.int, 2, .inl (wd_starts 1 (va_up (fun _ => 0) 0 97))) := (fr6 9 (by omega)).trans (d5_9)
  have d6_10 : g6 10 = .inr (.int, 1, .inl (va_up (fun _ => 0) 0 0)) := (fr6 10 (by omega)).trans (d5_10)
  have d6_11 : g6 11 = .inr (.int, 2, .inl (va_up (va_up (fun _ => 0) 0 0) 1 1)) := (fr6 11 (by omega)).trans (d5_11)
  have d6_12 : g6 12 = .inl (4, [.int (jI 0), .int (jI 0), .ref 13, .int (jI 0), .ref 14, .ref 15, .ref 16]) := (fr6 12 (by omega)).trans (d5_12)
  have d6_13 : g6 13 = .inr (.int, 5, .inl (fun _ => 0)) := (fr6 13 (by omega)).trans (d5_13)
  have d6_14 : g6 14 = .inr (.int, 12, .inl (fun _ => 0)) := (fr6 14 (by omega)).trans (d5_14)
  have d6_15 : g6 15 = .inr (.int, 12, .inl (fun _ => 0)) := (fr6 15 (by omega)).trans (d5_15)
  have d6_16 : g6 16 = .inr (.int, 12, .inl (fun _ => 0)) := (fr6 16 (by omega)).trans (d5_16)
  have d6_17 : g6 17 = .inl (1, [.ref 18, .ref 19, .int (jI 0)]) := (fr6 17 (by omega)).trans (d5_17)
  have d6_18 : g6 18 = .inr (.object RX0, 4, .inr (.inr (fun _ => none))) := (fr6 18 (by omega)).trans (d5_18)
  have d6_19 : g6 19 = .inr (.object RX4, 4, .inr (.inr (va_up (va_up (va_up (va_up (fun _ => none) 0 (some 20)) 1 (some 25)) 2 (some 30)) 3 (some 35)))) := (fr6 19 (by omega)).trans (d5_19)
  have d6_20 : g6 20 = .inl (4, [.int (jI 0), .int (jI 0), .ref 21, .int (jI 0), .ref 22, .ref 23, .ref 24]) := (fr6 20 (by omega)).trans (d5_20)
  have d6_21 : g6 21 = .inr (.int, 5, .inl (fun _ => 0)) := (fr6 21 (by omega)).trans (d5_21)
  have d6_22 : g6 22 = .inr (.int, 12, .inl (fun _ => 0)) := (fr6 22 (by omega)).trans (d5_22)
  have d6_23 : g6 23 = .inr (.int, 12, .inl (fun _ => 0)) := (fr6 23 (by omega)).trans (d5_23)
  have d6_24 : g6 24 = .inr (.int, 12, .inl (fun _ => 0)) := (fr6 24 (by omega)).trans (d5_24)
  have d6_25 : g6 25 = .inl (4, [.int (jI 0), .int (jI 0), .ref 26, .int (jI 0), .ref 27, .ref 28, .ref 29]) := (fr6 25 (by omega)).trans (d5_25)
  have d6_26 : g6 26 = .inr (.int, 5, .inl (fun _ => 0)) := (fr6 26 (by omega)).trans (d5_26)
  have d6_27 : g6 27 = .inr (.int, 12, .inl (fun _ => 0)) := (fr6 27 (by omega)).trans (d5_27)
  have d6_28 : g6 28 = .inr (.int, 12, .inl (fun _ => 0)) := (fr6 28 (by omega)).trans (d5_28)
  have d6_29 : g6 29 = .inr (.int, 12, .inl (fun _ => 0)) := (fr6 29 (by omega)).trans (d5_29)
  have d6_30 : g6 30 = .inl (4, [.int (jI 0), .int (jI 0), .ref 31, .int (jI 0), .ref 32, .ref 33, .ref 34]) := (fr6 30 (by omega)).trans (d5_30)
  have d6_31 : g6 31 = .inr (.int, 5, .inl (fun _ => 0)) := (fr6 31 (by omega)).trans (d5_31)
  have d6_32 : g6 32 = .inr (.int, 12, .inl (fun _ => 0)) := (fr6 32 (by omega)).trans (d5_32)
  have d6_33 : g6 33 = .inr (.int, 12, .inl (fun _ => 0)) := (fr6 33 (by omega)).trans (d5_33)
  have d6_34 : g6 34 = .inr (.int, 12, .inl (fun _ => 0)) := (fr6 34 (by omega)).trans (d5_34)
  have d6_35 : g6 35 = .inl (4, [.int (jI 0), .int (jI 0), .ref 36, .int (jI 0), .ref 37, .ref 38, .ref 39]) := (fr6 35 (by omega)).trans (d5_35)
  have d6_36 : g6 36 = .inr (.int, 5, .inl (fun _ => 0)) := (fr6 36 (by omega)).trans (d5_36)
  have d6_37 : g6 37 = .inr (.int, 12, .inl (fun _ => 0)) := (fr6 37 (by omega)).trans (d5_37)
  have d6_38 : g6 38 = .inr (.int, 12, .inl (fun _ => 0)) := (fr6 38 (by omega)).trans (d5_38)
  have d6_39 : g6 39 = .inr (.int, 12, .inl (fun _ => 0)) := (fr6 39 (by omega)).trans (d5_39)
  have d6_40 : g6 40 = .inl (3, [.ref 4, .ref 5, .ref 6, .int (jI 0), .int (jI 0), .ref 41, .int (jI 0), .ref 42, .ref 43, .ref 44, .ref 45, .ref 46, .ref 47, .ref 48, .int (jI 0), .ref 49]) := (fr6 40 (by omega)).trans (c5_40)
  have d6_41 : g6 41 = .inr (.int, 10, .inl (fun _ => 0)) := (fr6 41 (by omega)).trans (c5_41)
  have d6_42 : g6 42 = .inr (.int, 241, .inl (fun _ => 0)) := (fr6 42 (by omega)).trans (c5_42)
  have d6_43 : g6 43 = .inr (.int, 240, .inl (fun _ => 0)) := (fr6 43 (by omega)).trans (c5_43)
  have d6_44 : g6 44 = .inr (.int, 240, .inl (fun _ => 0)) := (fr6 44 (by omega)).trans (c5_44)
  have d6_45 : g6 45 = .inr (.int, 240, .inl (fun _ => 0)) := (fr6 45 (by omega)).trans (c5_45)
  have d6_46 : g6 46 = .inr (.boolean, 240, .inl (fun _ => 0)) := (fr6 46 (by omega)).trans (c5_46)
  have d6_47 : g6 47 = .inr (.int, 240, .inl (fun _ => 0)) := (fr6 47 (by omega)).trans (c5_47)
  have d6_48 : g6 48 = .inr (.int, 240, .inl (fun _ => 0)) := (fr6 48 (by omega)).trans (c5_48)
  have d6_49 : g6 49 = .inr (.int, 241, .inl (fun _ => 0)) := (fr6 49 (by omega)).trans (c5_49)
  refine ji_putF (ci := 7) (k := 9) rfl dX7_init_172 lX7_68 (by decide) (d6_0) (by simp) (ji_fitO _ trivial) rfl rfl rfl ?_
  refine ji_aload_n dX7_init_175 rfl trivial ?_
  refine ji_iconst dX7_init_176 ?_
  refine ji_put (ci := 7) (k := 10) rfl dX7_init_177 lX7_71 (by decide) (rfl) (by simp) (ji_fitZ (by omega)) rfl ?_
  exact ji_return dX7_init_180 rfl ⟨rfl, rfl, fun x hx => absurd hx (Nat.not_lt_zero x),
    rfl, d6_1, d6_2, d6_3, d6_4, d6_5, d6_6, d6_7, d6_8, d6_9, d6_10, d6_11, d6_12, d6_13, d6_14, d6_15, d6_16, d6_17, d6_18, d6_19, d6_20, d6_21, d6_22, d6_23, d6_24, d6_25, d6_26, d6_27, d6_28, d6_29, d6_30, d6_31, d6_32, d6_33, d6_34, d6_35, d6_36, d6_37, d6_38, d6_39, d6_40, d6_41, d6_42, d6_43, d6_44, d6_45, d6_46, d6_47, d6_48, d6_49, c6_50, c6_51, c6_52, c6_53, c6_54, c6_55, c6_56, c6_57, c6_58, c6_59⟩

end MAKE
