/-! ===== the makers ===== -/
section MAKE
variable {G : ji_G} {d : Nat}
theorem tx0_b (j : Nat) : 0 ≤ va_up (fun _ => (0 : Int)) 0 97 j ∧ va_up (fun _ => (0 : Int)) 0 97 j < 128 := by
  by_cases c : j = 0
  · rw [c, va_up_self]; omega
  · rw [va_up_ne _ _ c]; omega
theorem tx0_c : wd_cnt (va_up (fun _ => (0 : Int)) 0 97) 1 = 0 := rfl

set_option maxRecDepth 100000 in
theorem c_Marks12 {f : Nat → ji_C} (hq : f 12 = .inl (4, [.int (jI 0), .int (jI 0), .null, .int (jI 0), .null, .null, .null])) : JM G (d + 1) mX4_init [.ref 12] (13, f) 4 41 (fun r h9 => r = .inl none ∧ h9.1 = 17 ∧ (∀ x, x < 12 → h9.2 x = f x) ∧ h9.2 12 = .inl (4, [.int (jI 0), .int (jI 0), .ref 13, .int (jI 0), .ref 14, .ref 15, .ref 16]) ∧ h9.2 13 = .inr (.int, 5, .inl (fun _ => 0)) ∧ h9.2 14 = .inr (.int, 12, .inl (fun _ => 0)) ∧ h9.2 15 = .inr (.int, 12, .inl (fun _ => 0)) ∧ h9.2 16 = .inr (.int, 12, .inl (fun _ => 0))) := by
  refine ji_ent (by decide) rfl (Nat.le_of_ble_eq_true rfl) rfl ?_
  refine ji_aload_n dX4_init_0 rfl trivial ?_
  refine ji_objInit dX4_init_1 lX4_3 ji_wobj.1 ji_wobj.2 (Nat.le_of_ble_eq_true rfl) ?_
  refine ji_aload_n dX4_init_4 rfl trivial ?_
  refine ji_iconst dX4_init_5 ?_
  refine ji_newI dX4_init_6 (by omega) (by omega) (by omega) ?_
  refine ji_putF (ci := 4) (k := 2) rfl dX4_init_8 lX4_9 (by decide) (hq) (by simp) (ji_fitA _ trivial) rfl rfl rfl ?_
  refine ji_aload_n dX4_init_11 rfl trivial ?_
  refine ji_bipush dX4_init_12 rfl ?_
  refine ji_newI dX4_init_14 (by omega) (by omega) (by omega) ?_
  refine ji_putF (ci := 4) (k := 4) rfl dX4_init_16 lX4_15 (by decide) (rfl) (by simp) (ji_fitA _ trivial) rfl rfl rfl ?_
  refine ji_aload_n dX4_init_19 rfl trivial ?_
  refine ji_bipush dX4_init_20 rfl ?_
  refine ji_newI dX4_init_22 (by omega) (by omega) (by omega) ?_
  refine ji_putF (ci := 4) (k := 5) rfl dX4_init_24 lX4_18 (by decide) (rfl) (by simp) (ji_fitA _ trivial) rfl rfl rfl ?_
  refine ji_aload_n dX4_init_27 rfl trivial ?_
  refine ji_bipush dX4_init_28 rfl ?_
  refine ji_newI dX4_init_30 (by omega) (by omega) (by omega) ?_
  refine ji_putF (ci := 4) (k := 6) rfl dX4_init_32 lX4_21 (by decide) (rfl) (by simp) (ji_fitA _ trivial) rfl rfl rfl ?_
  exact ji_return dX4_init_35 rfl ⟨rfl, rfl, fun x hx => by
      dsimp only
      (repeat rw [va_up_ne _ _ (by omega)]),
    rfl, rfl, rfl, rfl, rfl⟩

set_option maxRecDepth 100000 in
theorem c_Marks20 {f : Nat → ji_C} (hq : f 20 = .inl (4, [.int (jI 0), .int (jI 0), .null, .int (jI 0), .null, .null, .null])) : JM G (d + 1) mX4_init [.ref 20] (21, f) 4 41 (fun r h9 => r = .inl none ∧ h9.1 = 25 ∧ (∀ x, x < 20 → h9.2 x = f x) ∧ h9.2 20 = .inl (4, [.int (jI 0), .int (jI 0), .ref 21, .int (jI 0), .ref 22, .ref 23, .ref 24]) ∧ h9.2 21 = .inr (.int, 5, .inl (fun _ => 0)) ∧ h9.2 22 = .inr (.int, 12, .inl (fun _ => 0)) ∧ h9.2 23 = .inr (.int, 12, .inl (fun _ => 0)) ∧ h9.2 24 = .inr (.int, 12, .inl (fun _ => 0))) := by
  refine ji_ent (by decide) rfl (Nat.le_of_ble_eq_true rfl) rfl ?_
  refine ji_aload_n dX4_init_0 rfl trivial ?_
  refine ji_objInit dX4_init_1 lX4_3 ji_wobj.1 ji_wobj.2 (Nat.le_of_ble_eq_true rfl) ?_
  refine ji_aload_n dX4_init_4 rfl trivial ?_
  refine ji_iconst dX4_init_5 ?_
  refine ji_newI dX4_init_6 (by omega) (by omega) (by omega) ?_
  refine ji_putF (ci := 4) (k := 2) rfl dX4_init_8 lX4_9 (by decide) (hq) (by simp) (ji_fitA _ trivial) rfl rfl rfl ?_
  refine ji_aload_n dX4_init_11 rfl trivial ?_
  refine ji_bipush dX4_init_12 rfl ?_
  refine ji_newI dX4_init_14 (by omega) (by omega) (by omega) ?_
  refine ji_putF (ci := 4) (k := 4) rfl dX4_init_16 lX4_15 (by decide) (rfl) (by simp) (ji_fitA _ trivial) rfl rfl rfl ?_
  refine ji_aload_n dX4_init_19 rfl trivial ?_
  refine ji_bipush dX4_init_20 rfl ?_
  refine ji_newI dX4_init_22 (by omega) (by omega) (by omega) ?_
  refine ji_putF (ci := 4) (k := 5) rfl dX4_init_24 lX4_18 (by decide) (rfl) (by simp) (ji_fitA _ trivial) rfl rfl rfl ?_
  refine ji_aload_n dX4_init_27 rfl trivial ?_
  refine ji_bipush dX4_init_28 rfl ?_
  refine ji_newI dX4_init_30 (by omega) (by omega) (by omega) ?_
  refine ji_putF (ci := 4) (k := 6) rfl dX4_init_32 lX4_21 (by decide) (rfl) (by simp) (ji_fitA _ trivial) rfl rfl rfl ?_
  exact ji_return dX4_init_35 rfl ⟨rfl, rfl, fun x hx => by
      dsimp only
      (repeat rw [va_up_ne _ _ (by omega)]),
    rfl, rfl, rfl, rfl, rfl⟩

set_option maxRecDepth 100000 in
theorem c_Marks25 {f : Nat → ji_C} (hq : f 25 = .inl (4, [.int (jI 0), .int (jI 0), .null, .int (jI 0), .null, .null, .null])) : JM G (d + 1) mX4_init [.ref 25] (26, f) 4 41 (fun r h9 => r = .inl none ∧ h9.1 = 30 ∧ (∀ x, x < 25 → h9.2 x = f x) ∧ h9.2 25 = .inl (4, [.int (jI 0), .int (jI 0), .ref 26, .int (jI 0), .ref 27, .ref 28, .ref 29]) ∧ h9.2 26 = .inr (.int, 5, .inl (fun _ => 0)) ∧ h9.2 27 = .inr (.int, 12, .inl (fun _ => 0)) ∧ h9.2 28 = .inr (.int, 12, .inl (fun _ => 0)) ∧ h9.2 29 = .inr (.int, 12, .inl (fun _ => 0))) := by
  refine ji_ent (by decide) rfl (Nat.le_of_ble_eq_true rfl) rfl ?_
  refine ji_aload_n dX4_init_0 rfl trivial ?_
  refine ji_objInit dX4_init_1 lX4_3 ji_wobj.1 ji_wobj.2 (Nat.le_of_ble_eq_true rfl) ?_
  refine ji_aload_n dX4_init_4 rfl trivial ?_
  refine ji_iconst dX4_init_5 ?_
  refine ji_newI dX4_init_6 (by omega) (by omega) (by omega) ?_
  refine ji_putF (ci := 4) (k := 2) rfl dX4_init_8 lX4_9 (by decide) (hq) (by simp) (ji_fitA _ trivial) rfl rfl rfl ?_
  refine ji_aload_n dX4_init_11 rfl trivial ?_
  refine ji_bipush dX4_init_12 rfl ?_
  refine ji_newI dX4_init_14 (by omega) (by omega) (by omega) ?_
  refine ji_putF (ci := 4) (k := 4) rfl dX4_init_16 lX4_15 (by decide) (rfl) (by simp) (ji_fitA _ trivial) rfl rfl rfl ?_
  refine ji_aload_n dX4_init_19 rfl trivial ?_
  refine ji_bipush dX4_init_20 rfl ?_
  refine ji_newI dX4_init_22 (by omega) (by omega) (by omega) ?_
  refine ji_putF (ci := 4) (k := 5) rfl dX4_init_24 lX4_18 (by decide) (rfl) (by simp) (ji_fitA _ trivial) rfl rfl rfl ?_
  refine ji_aload_n dX4_init_27 rfl trivial ?_
  refine ji_bipush dX4_init_28 rfl ?_
  refine ji_newI dX4_init_30 (by omega) (by omega) (by omega) ?_
  refine ji_putF (ci := 4) (k := 6) rfl dX4_init_32 lX4_21 (by decide) (rfl) (by simp) (ji_fitA _ trivial) rfl rfl rfl ?_
  exact ji_return dX4_init_35 rfl ⟨rfl, rfl, fun x hx => by
      dsimp only
      (repeat rw [va_up_ne _ _ (by omega)]),
    rfl, rfl, rfl, rfl, rfl⟩

set_option maxRecDepth 100000 in
theorem c_Marks30 {f : Nat → ji_C} (hq : f 30 = .inl (4, [.int (jI 0), .int (jI 0), .null, .int (jI 0), .null, .null, .null])) : JM G (d + 1) mX4_init [.ref 30] (31, f) 4 41 (fun r h9 => r = .inl none ∧ h9.1 = 35 ∧ (∀ x, x < 30 → h9.2 x = f x) ∧ h9.2 30 = .inl (4, [.int (jI 0), .int (jI 0), .ref 31, .int (jI 0), .ref 32, .ref 33, .ref 34]) ∧ h9.2 31 = .inr (.int, 5, .inl (fun _ => 0)) ∧ h9.2 32 = .inr (.int, 12, .inl (fun _ => 0)) ∧ h9.2 33 = .inr (.int, 12, .inl (fun _ => 0)) ∧ h9.2 34 = .inr (.int, 12, .inl (fun _ => 0))) := by
  refine ji_ent (by decide) rfl (Nat.le_of_ble_eq_true rfl) rfl ?_
  refine ji_aload_n dX4_init_0 rfl trivial ?_
  refine ji_objInit dX4_init_1 lX4_3 ji_wobj.1 ji_wobj.2 (Nat.le_of_ble_eq_true rfl) ?_
  refine ji_aload_n dX4_init_4 rfl trivial ?_
  refine ji_iconst dX4_init_5 ?_
  refine ji_newI dX4_init_6 (by omega) (by omega) (by omega) ?_
  refine ji_putF (ci := 4) (k := 2) rfl dX4_init_8 lX4_9 (by decide) (hq) (by simp) (ji_fitA _ trivial) rfl rfl rfl ?_
  refine ji_aload_n dX4_init_11 rfl trivial ?_
  refine ji_bipush dX4_init_12 rfl ?_
  refine ji_newI dX4_init_14 (by omega) (by omega) (by omega) ?_
  refine ji_putF (ci := 4) (k := 4) rfl dX4_init_16 lX4_15 (by decide) (rfl) (by simp) (ji_fitA _ trivial) rfl rfl rfl ?_
  refine ji_aload_n dX4_init_19 rfl trivial ?_
  refine ji_bipush dX4_init_20 rfl ?_
  refine ji_newI dX4_init_22 (by omega) (by omega) (by omega) ?_
  refine ji_putF (ci := 4) (k := 5) rfl dX4_init_24 lX4_18 (by decide) (rfl) (by simp) (ji_fitA _ trivial) rfl rfl rfl ?_
  refine ji_aload_n dX4_init_27 rfl trivial ?_
  refine ji_bipush dX4_init_28 rfl ?_
  refine ji_newI dX4_init_30 (by omega) (by omega) (by omega) ?_
  refine ji_putF (ci := 4) (k := 6) rfl dX4_init_32 lX4_21 (by decide) (rfl) (by simp) (ji_fitA _ trivial) rfl rfl rfl ?_
  exact ji_return dX4_init_35 rfl ⟨rfl, rfl, fun x hx => by
      dsimp only
      (repeat rw [va_up_ne _ _ (by omega)]),
    rfl, rfl, rfl, rfl, rfl⟩

set_option maxRecDepth 100000 in
theorem c_Marks35 {f : Nat → ji_C} (hq : f 35 = .inl (4, [.int (jI 0), .int (jI 0), .null, .int (jI 0), .null, .null, .null])) : JM G (d + 1) mX4_init [.ref 35] (36, f) 4 41 (fun r h9 => r = .inl none ∧ h9.1 = 40 ∧ (∀ x, x < 35 → h9.2 x = f x) ∧ h9.2 35 = .inl (4, [.int (jI 0), .int (jI 0), .ref 36, .int (jI 0), .ref 37, .ref 38, .ref 39]) ∧ h9.2 36 = .inr (.int, 5, .inl (fun _ => 0)) ∧ h9.2 37 = .inr (.int, 12, .inl (fun _ => 0)) ∧ h9.2 38 = .inr (.int, 12, .inl (fun _ => 0)) ∧ h9.2 39 = .inr (.int, 12, .inl (fun _ => 0))) := by
  refine ji_ent (by decide) rfl (Nat.le_of_ble_eq_true rfl) rfl ?_
  refine ji_aload_n dX4_init_0 rfl trivial ?_
  refine ji_objInit dX4_init_1 lX4_3 ji_wobj.1 ji_wobj.2 (Nat.le_of_ble_eq_true rfl) ?_
  refine ji_aload_n dX4_init_4 rfl trivial ?_
  refine ji_iconst dX4_init_5 ?_
  refine ji_newI dX4_init_6 (by omega) (by omega) (by omega) ?_
  refine ji_putF (ci := 4) (k := 2) rfl dX4_init_8 lX4_9 (by decide) (hq) (by simp) (ji_fitA _ trivial) rfl rfl rfl ?_
  refine ji_aload_n dX4_init_11 rfl trivial ?_
  refine ji_bipush dX4_init_12 rfl ?_
  refine ji_newI dX4_init_14 (by omega) (by omega) (by omega) ?_
  refine ji_putF (ci := 4) (k := 4) rfl dX4_init_16 lX4_15 (by decide) (rfl) (by simp) (ji_fitA _ trivial) rfl rfl rfl ?_
  refine ji_aload_n dX4_init_19 rfl trivial ?_
  refine ji_bipush dX4_init_20 rfl ?_
  refine ji_newI dX4_init_22 (by omega) (by omega) (by omega) ?_
  refine ji_putF (ci := 4) (k := 5) rfl dX4_init_24 lX4_18 (by decide) (rfl) (by simp) (ji_fitA _ trivial) rfl rfl rfl ?_
  refine ji_aload_n dX4_init_27 rfl trivial ?_
  refine ji_bipush dX4_init_28 rfl ?_
  refine ji_newI dX4_init_30 (by omega) (by omega) (by omega) ?_
  refine ji_putF (ci := 4) (k := 6) rfl dX4_init_32 lX4_21 (by decide) (rfl) (by simp) (ji_fitA _ trivial) rfl rfl rfl ?_
  exact ji_return dX4_init_35 rfl ⟨rfl, rfl, fun x hx => by
      dsimp only
      (repeat rw [va_up_ne _ _ (by omega)]),
    rfl, rfl, rfl, rfl, rfl⟩

set_option maxRecDepth 100000 in
theorem c_Input1 {f : Nat → ji_C} (hq : f 1 = .inl (2, [.null, .null, .int (jI 0)])) : JM G (d + 2) mX2_init [.ref 1] (2, f) 2 107 (fun r h9 => r = .inl none ∧ h9.1 = 4 ∧ (∀ x, x < 1 → h9.2 x = f x) ∧ h9.2 1 = .inl (2, [.ref 2, .ref 3, .int (jI 0)]) ∧ h9.2 2 = .inr (.char, 100, .inl (fun _ => 0)) ∧ h9.2 3 = .inl (5, [.int (jI 0), .int (jI 0), .int (jI 0), .int (jI 0), .int (jI 0), .int (jI 0), .int (jI 0)])) := by
  refine ji_ent (by decide) rfl (Nat.le_of_ble_eq_true rfl) rfl ?_
  refine ji_aload_n dX2_init_0 rfl trivial ?_
  refine ji_objInit dX2_init_1 lX2_3 ji_wobj.1 ji_wobj.2 (Nat.le_of_ble_eq_true rfl) ?_
  refine ji_aload_n dX2_init_4 rfl trivial ?_
  refine ji_bipush dX2_init_5 rfl ?_
  refine ji_newC dX2_init_7 (by omega) (by omega) (by omega) ?_
  refine ji_putF (ci := 2) (k := 0) rfl dX2_init_9 lX2_9 (by decide) (hq) (by simp) (ji_fitA _ trivial) rfl rfl rfl ?_
  refine ji_aload_n dX2_init_12 rfl trivial ?_
  refine ji_new (ci := 5) (fs := [.int (jI 0), .int (jI 0), .int (jI 0), .int (jI 0), .int (jI 0), .int (jI 0), .int (jI 0)]) rfl dX2_init_13 lX2_15 (fun G ad => by simp [ji_vs, ji_v]) (by decide) (by omega) (by omega) ?_
  refine ji_dup dX2_init_16 rfl ?_
  refine ji_callIN dX2_init_17 (k_Syntax_init (n := 4) (y := 3) (bk := 0) (km := 0) (pg := 0) (wd := 0) (sg := 0) (dm := 0) (hr := 0)) rfl wX5_init rfl rfl iX5_init (by decide) rfl (Nat.le_of_ble_eq_true rfl) rfl (by omega) (by omega) (fun r h0 hq0 => ?_) (fun E h0 hq0 => by cases hq0.1)
  obtain ⟨er0, eh0⟩ := hq0
  cases er0
  subst eh0
  refine ji_putF (ci := 2) (k := 1) rfl dX2_init_20 lX2_18 (by decide) (rfl) (by simp) (ji_fitO _ trivial) rfl rfl rfl ?_
  exact ji_return dX2_init_23 rfl ⟨rfl, rfl, fun x hx => by
      dsimp only
      (repeat rw [va_up_ne _ _ (by omega)]),
    rfl, rfl, rfl⟩

set_option maxRecDepth 100000 in
theorem c_Layout40 {f : Nat → ji_C} (hq : f 40 = .inl (3, [.null, .null, .null, .int (jI 0), .int (jI 0), .null, .int (jI 0), .null, .null, .null, .null, .null, .null, .null, .int (jI 0), .null])) : JM G (d + 1) mX3_init [.ref 40, .ref 6, .ref 4, .ref 5] (41, f) 9 1932 (fun r h9 => r = .inl none ∧ h9.1 = 50 ∧ (∀ x, x < 40 → h9.2 x = f x) ∧ h9.2 40 = .inl (3, [.ref 4, .ref 5, .ref 6, .int (jI 0), .int (jI 0), .ref 41, .int (jI 0), .ref 42, .ref 43, .ref 44, .ref 45, .ref 46, .ref 47, .ref 48, .int (jI 0), .ref 49]) ∧ h9.2 41 = .inr (.int, 10, .inl (fun _ => 0)) ∧ h9.2 42 = .inr (.int, 241, .inl (fun _ => 0)) ∧ h9.2 43 = .inr (.int, 240, .inl (fun _ => 0)) ∧ h9.2 44 = .inr (.int, 240, .inl (fun _ => 0)) ∧ h9.2 45 = .inr (.int, 240, .inl (fun _ => 0)) ∧ h9.2 46 = .inr (.boolean, 240, .inl (fun _ => 0)) ∧ h9.2 47 = .inr (.int, 240, .inl (fun _ => 0)) ∧ h9.2 48 = .inr (.int, 240, .inl (fun _ => 0)) ∧ h9.2 49 = .inr (.int, 241, .inl (fun _ => 0))) := by
  refine ji_ent (by decide) rfl (Nat.le_of_ble_eq_true rfl) rfl ?_
  refine ji_aload_n dX3_init_0 rfl trivial ?_
  refine ji_objInit dX3_init_1 lX3_3 ji_wobj.1 ji_wobj.2 (Nat.le_of_ble_eq_true rfl) ?_
  refine ji_aload_n dX3_init_4 rfl trivial ?_
  refine ji_bipush dX3_init_5 rfl ?_
  refine ji_newI dX3_init_7 (by omega) (by omega) (by omega) ?_
  refine ji_putF (ci := 3) (k := 5) rfl dX3_init_9 lX3_9 (by decide) (hq) (by simp) (ji_fitA _ trivial) rfl rfl rfl ?_
  refine ji_aload_n dX3_init_12 rfl trivial ?_
  refine ji_sipush dX3_init_13 rfl ?_
  refine ji_newI dX3_init_16 (by omega) (by omega) (by omega) ?_
  refine ji_putF (ci := 3) (k := 7) rfl dX3_init_18 lX3_15 (by decide) (rfl) (by simp) (ji_fitA _ trivial) rfl rfl rfl ?_
  refine ji_aload_n dX3_init_21 rfl trivial ?_
  refine ji_sipush dX3_init_22 rfl ?_
  refine ji_newI dX3_init_25 (by omega) (by omega) (by omega) ?_
  refine ji_putF (ci := 3) (k := 8) rfl dX3_init_27 lX3_18 (by decide) (rfl) (by simp) (ji_fitA _ trivial) rfl rfl rfl ?_
  refine ji_aload_n dX3_init_30 rfl trivial ?_
  refine ji_sipush dX3_init_31 rfl ?_
  refine ji_newI dX3_init_34 (by omega) (by omega) (by omega) ?_
  refine ji_putF (ci := 3) (k := 9) rfl dX3_init_36 lX3_21 (by decide) (rfl) (by simp) (ji_fitA _ trivial) rfl rfl rfl ?_
  refine ji_aload_n dX3_init_39 rfl trivial ?_
  refine ji_sipush dX3_init_40 rfl ?_
  refine ji_newI dX3_init_43 (by omega) (by omega) (by omega) ?_
  refine ji_putF (ci := 3) (k := 10) rfl dX3_init_45 lX3_24 (by decide) (rfl) (by simp) (ji_fitA _ trivial) rfl rfl rfl ?_
  refine ji_aload_n dX3_init_48 rfl trivial ?_
  refine ji_sipush dX3_init_49 rfl ?_
  refine ji_newZ dX3_init_52 (by omega) (by omega) (by omega) ?_
  refine ji_putF (ci := 3) (k := 11) rfl dX3_init_54 lX3_27 (by decide) (rfl) (by simp) (ji_fitA _ trivial) rfl rfl rfl ?_
  refine ji_aload_n dX3_init_57 rfl trivial ?_
  refine ji_sipush dX3_init_58 rfl ?_
  refine ji_newI dX3_init_61 (by omega) (by omega) (by omega) ?_
  refine ji_putF (ci := 3) (k := 12) rfl dX3_init_63 lX3_31 (by decide) (rfl) (by simp) (ji_fitA _ trivial) rfl rfl rfl ?_
  refine ji_aload_n dX3_init_66 rfl trivial ?_
  refine ji_sipush dX3_init_67 rfl ?_
  refine ji_newI dX3_init_70 (by omega) (by omega) (by omega) ?_
  refine ji_putF (ci := 3) (k := 13) rfl dX3_init_72 lX3_34 (by decide) (rfl) (by simp) (ji_fitA _ trivial) rfl rfl rfl ?_
  refine ji_aload_n dX3_init_75 rfl trivial ?_
  refine ji_sipush dX3_init_76 rfl ?_
  refine ji_newI dX3_init_79 (by omega) (by omega) (by omega) ?_
  refine ji_putF (ci := 3) (k := 15) rfl dX3_init_81 lX3_37 (by decide) (rfl) (by simp) (ji_fitA _ trivial) rfl rfl rfl ?_
  refine ji_aload_n dX3_init_84 rfl trivial ?_
  refine ji_aload_n dX3_init_85 rfl trivial ?_
  refine ji_put (ci := 3) (k := 2) rfl dX3_init_86 lX3_40 (by decide) (rfl) (by simp) (ji_fitO _ trivial) rfl ?_
  refine ji_aload_n dX3_init_89 rfl trivial ?_
  refine ji_aload_n dX3_init_90 rfl trivial ?_
  refine ji_putF (ci := 3) (k := 0) rfl dX3_init_91 lX3_44 (by decide) (rfl) (by simp) (ji_fitA _ trivial) rfl rfl rfl ?_
  refine ji_aload_n dX3_init_94 rfl trivial ?_
  refine ji_aload_n dX3_init_95 rfl trivial ?_
  refine ji_putF (ci := 3) (k := 1) rfl dX3_init_96 lX3_48 (by decide) (rfl) (by simp) (ji_fitA _ trivial) rfl rfl rfl ?_
  exact ji_return dX3_init_99 rfl ⟨rfl, rfl, fun x hx => by
      dsimp only
      (repeat rw [va_up_ne _ _ (by omega)]),
    rfl, rfl, rfl, rfl, rfl, rfl, rfl, rfl, rfl, rfl⟩

set_option maxRecDepth 100000 in
theorem c_Layout50 {f : Nat → ji_C} (hq : f 50 = .inl (3, [.null, .null, .null, .int (jI 0), .int (jI 0), .null, .int (jI 0), .null, .null, .null, .null, .null, .null, .null, .int (jI 0), .null])) : JM G (d + 1) mX3_init [.ref 50, .ref 6, .ref 4, .ref 5] (51, f) 9 1932 (fun r h9 => r = .inl none ∧ h9.1 = 60 ∧ (∀ x, x < 50 → h9.2 x = f x) ∧ h9.2 50 = .inl (3, [.ref 4, .ref 5, .ref 6, .int (jI 0), .int (jI 0), .ref 51, .int (jI 0), .ref 52, .ref 53, .ref 54, .ref 55, .ref 56, .ref 57, .ref 58, .int (jI 0), .ref 59]) ∧ h9.2 51 = .inr (.int, 10, .inl (fun _ => 0)) ∧ h9.2 52 = .inr (.int, 241, .inl (fun _ => 0)) ∧ h9.2 53 = .inr (.int, 240, .inl (fun _ => 0)) ∧ h9.2 54 = .inr (.int, 240, .inl (fun _ => 0)) ∧ h9.2 55 = .inr (.int, 240, .inl (fun _ => 0)) ∧ h9.2 56 = .inr (.boolean, 240, .inl (fun _ => 0)) ∧ h9.2 57 = .inr (.int, 240, .inl (fun _ => 0)) ∧ h9.2 58 = .inr (.int, 240, .inl (fun _ => 0)) ∧ h9.2 59 = .inr (.int, 241, .inl (fun _ => 0))) := by
  refine ji_ent (by decide) rfl (Nat.le_of_ble_eq_true rfl) rfl ?_
  refine ji_aload_n dX3_init_0 rfl trivial ?_
  refine ji_objInit dX3_init_1 lX3_3 ji_wobj.1 ji_wobj.2 (Nat.le_of_ble_eq_true rfl) ?_
  refine ji_aload_n dX3_init_4 rfl trivial ?_
  refine ji_bipush dX3_init_5 rfl ?_
  refine ji_newI dX3_init_7 (by omega) (by omega) (by omega) ?_
  refine ji_putF (ci := 3) (k := 5) rfl dX3_init_9 lX3_9 (by decide) (hq) (by simp) (ji_fitA _ trivial) rfl rfl rfl ?_
  refine ji_aload_n dX3_init_12 rfl trivial ?_
  refine ji_sipush dX3_init_13 rfl ?_
  refine ji_newI dX3_init_16 (by omega) (by omega) (by omega) ?_
  refine ji_putF (ci := 3) (k := 7) rfl dX3_init_18 lX3_15 (by decide) (rfl) (by simp) (ji_fitA _ trivial) rfl rfl rfl ?_
  refine ji_aload_n dX3_init_21 rfl trivial ?_
  refine ji_sipush dX3_init_22 rfl ?_
  refine ji_newI dX3_init_25 (by omega) (by omega) (by omega) ?_
  refine ji_putF (ci := 3) (k := 8) rfl dX3_init_27 lX3_18 (by decide) (rfl) (by simp) (ji_fitA _ trivial) rfl rfl rfl ?_
  refine ji_aload_n dX3_init_30 rfl trivial ?_
  refine ji_sipush dX3_init_31 rfl ?_
  refine ji_newI dX3_init_34 (by omega) (by omega) (by omega) ?_
  refine ji_putF (ci := 3) (k := 9) rfl dX3_init_36 lX3_21 (by decide) (rfl) (by simp) (ji_fitA _ trivial) rfl rfl rfl ?_
  refine ji_aload_n dX3_init_39 rfl trivial ?_
  refine ji_sipush dX3_init_40 rfl ?_
  refine ji_newI dX3_init_43 (by omega) (by omega) (by omega) ?_
  refine ji_putF (ci := 3) (k := 10) rfl dX3_init_45 lX3_24 (by decide) (rfl) (by simp) (ji_fitA _ trivial) rfl rfl rfl ?_
  refine ji_aload_n dX3_init_48 rfl trivial ?_
  refine ji_sipush dX3_init_49 rfl ?_
  refine ji_newZ dX3_init_52 (by omega) (by omega) (by omega) ?_
  refine ji_putF (ci := 3) (k := 11) rfl dX3_init_54 lX3_27 (by decide) (rfl) (by simp) (ji_fitA _ trivial) rfl rfl rfl ?_
  refine ji_aload_n dX3_init_57 rfl trivial ?_
  refine ji_sipush dX3_init_58 rfl ?_
  refine ji_newI dX3_init_61 (by omega) (by omega) (by omega) ?_
  refine ji_putF (ci := 3) (k := 12) rfl dX3_init_63 lX3_31 (by decide) (rfl) (by simp) (ji_fitA _ trivial) rfl rfl rfl ?_
  refine ji_aload_n dX3_init_66 rfl trivial ?_
  refine ji_sipush dX3_init_67 rfl ?_
  refine ji_newI dX3_init_70 (by omega) (by omega) (by omega) ?_
  refine ji_putF (ci := 3) (k := 13) rfl dX3_init_72 lX3_34 (by decide) (rfl) (by simp) (ji_fitA _ trivial) rfl rfl rfl ?_
  refine ji_aload_n dX3_init_75 rfl trivial ?_
  refine ji_sipush dX3_init_76 rfl ?_
  refine ji_newI dX3_init_79 (by omega) (by omega) (by omega) ?_
  refine ji_putF (ci := 3) (k := 15) rfl dX3_init_81 lX3_37 (by decide) (rfl) (by simp) (ji_fitA _ trivial) rfl rfl rfl ?_
  refine ji_aload_n dX3_init_84 rfl trivial ?_
  refine ji_aload_n dX3_init_85 rfl trivial ?_
  refine ji_put (ci := 3) (k := 2) rfl dX3_init_86 lX3_40 (by decide) (rfl) (by simp) (ji_fitO _ trivial) rfl ?_
  refine ji_aload_n dX3_init_89 rfl trivial ?_
  refine ji_aload_n dX3_init_90 rfl trivial ?_
  refine ji_putF (ci := 3) (k := 0) rfl dX3_init_91 lX3_44 (by decide) (rfl) (by simp) (ji_fitA _ trivial) rfl rfl rfl ?_
  refine ji_aload_n dX3_init_94 rfl trivial ?_
  refine ji_aload_n dX3_init_95 rfl trivial ?_
  refine ji_putF (ci := 3) (k := 1) rfl dX3_init_96 lX3_48 (by decide) (rfl) (by simp) (ji_fitA _ trivial) rfl rfl rfl ?_
  exact ji_return dX3_init_99 rfl ⟨rfl, rfl, fun x hx => by
      dsimp only
      (repeat rw [va_up_ne _ _ (by omega)]),
    rfl, rfl, rfl, rfl, rfl, rfl, rfl, rfl, rfl, rfl⟩

set_option maxRecDepth 100000 in
theorem c_History17 {f : Nat → ji_C} (hq : f 17 = .inl (1, [.null, .null, .int (jI 0)])) : JM G (d + 2) mX1_init [.ref 17] (18, f) 22 200 (fun r h9 => r = .inl none ∧ h9.1 = 40 ∧ (∀ x, x < 17 → h9.2 x = f x) ∧ h9.2 17 = .inl (1, [.ref 18, .ref 19, .int (jI 0)]) ∧ h9.2 18 = .inr (.object RX0, 4, .inr (.inr (fun _ => none))) ∧ h9.2 19 = .inr (.object RX4, 4, .inr (.inr (va_up (va_up (va_up (va_up (fun _ => none) 0 (some 20)) 1 (some 25)) 2 (some 30)) 3 (some 35)))) ∧ h9.2 20 = .inl (4, [.int (jI 0), .int (jI 0), .ref 21, .int (jI 0), .ref 22, .ref 23, .ref 24]) ∧ h9.2 21 = .inr (.int, 5, .inl (fun _ => 0)) ∧ h9.2 22 = .inr (.int, 12, .inl (fun _ => 0)) ∧ h9.2 23 = .inr (.int, 12, .inl (fun _ => 0)) ∧ h9.2 24 = .inr (.int, 12, .inl (fun _ => 0)) ∧ h9.2 25 = .inl (4, [.int (jI 0), .int (jI 0), .ref 26, .int (jI 0), .ref 27, .ref 28, .ref 29]) ∧ h9.2 26 = .inr (.int, 5, .inl (fun _ => 0)) ∧ h9.2 27 = .inr (.int, 12, .inl (fun _ => 0)) ∧ h9.2 28 = .inr (.int, 12, .inl (fun _ => 0)) ∧ h9.2 29 = .inr (.int, 12, .inl (fun _ => 0)) ∧ h9.2 30 = .inl (4, [.int (jI 0), .int (jI 0), .ref 31, .int (jI 0), .ref 32, .ref 33, .ref 34]) ∧ h9.2 31 = .inr (.int, 5, .inl (fun _ => 0)) ∧ h9.2 32 = .inr (.int, 12, .inl (fun _ => 0)) ∧ h9.2 33 = .inr (.int, 12, .inl (fun _ => 0)) ∧ h9.2 34 = .inr (.int, 12, .inl (fun _ => 0)) ∧ h9.2 35 = .inl (4, [.int (jI 0), .int (jI 0), .ref 36, .int (jI 0), .ref 37, .ref 38, .ref 39]) ∧ h9.2 36 = .inr (.int, 5, .inl (fun _ => 0)) ∧ h9.2 37 = .inr (.int, 12, .inl (fun _ => 0)) ∧ h9.2 38 = .inr (.int, 12, .inl (fun _ => 0)) ∧ h9.2 39 = .inr (.int, 12, .inl (fun _ => 0))) := by
  refine ji_ent (by decide) rfl (Nat.le_of_ble_eq_true rfl) rfl ?_
  refine ji_aload_n dX1_init_0 rfl trivial ?_
  refine ji_objInit dX1_init_1 lX1_3 ji_wobj.1 ji_wobj.2 (Nat.le_of_ble_eq_true rfl) ?_
  refine ji_aload_n dX1_init_4 rfl trivial ?_
  refine ji_iconst dX1_init_5 ?_
  refine ji_newA dX1_init_6 lX1_9 (ji_ao (by decide)) (fun cy => rfl) (by omega) (by omega) (by omega) ?_
  refine ji_putF (ci := 1) (k := 0) rfl dX1_init_9 lX1_11 (by decide) (hq) (by simp) (ji_fitA _ trivial) rfl rfl rfl ?_
  refine ji_aload_n dX1_init_12 rfl trivial ?_
  refine ji_iconst dX1_init_13 ?_
  refine ji_newA dX1_init_14 lX1_17 (ji_ao (by decide)) (fun cy => rfl) (by omega) (by omega) (by omega) ?_
  refine ji_putF (ci := 1) (k := 1) rfl dX1_init_17 lX1_19 (by decide) (rfl) (by simp) (ji_fitA _ trivial) rfl rfl rfl ?_
  refine ji_iconst dX1_init_20 ?_
  refine ji_istore_n dX1_init_21 (by decide) rfl ?_
  refine ji_iload_n dX1_init_22 rfl ?_
  refine ji_iconst dX1_init_23 ?_
  refine ji_icmp_ge (tgt := 46) dX1_init_24 rfl (by omega) (by omega) (fun q => absurd q (by omega)) (fun _ => ?_)
  refine ji_aload_n dX1_init_27 rfl trivial ?_
  refine ji_get (ci := 1) (k := 1) rfl dX1_init_28 lX1_19 (by decide) (rfl) rfl ?_
  refine ji_iload_n dX1_init_31 rfl ?_
  refine ji_new (ci := 4) (fs := [.int (jI 0), .int (jI 0), .null, .int (jI 0), .null, .null, .null]) rfl dX1_init_32 lX1_17 (fun G ad => by simp [ji_vs, ji_v]) (by decide) (by omega) (by omega) ?_
  refine ji_dup dX1_init_35 rfl ?_
  refine ji_callIN dX1_init_36 (c_Marks20 (by exact rfl)) rfl wX4_init rfl rfl iX4_init (by decide) rfl (Nat.le_of_ble_eq_true rfl) rfl (by omega) (by omega) (fun r h0 hq0 => ?_) (fun E h0 hq0 => by cases hq0.1)
  obtain ⟨er0, en0, fr0, c0_20, c0_21, c0_22, c0_23, c0_24⟩ := hq0
  cases er0
  obtain ⟨n0, g0⟩ := h0
  cases (show n0 = 25 from en0)
  have d0_17 : g0 17 = .inl (1, [.ref 18, .ref 19, .int (jI 0)]) := (fr0 17 (by omega)).trans (rfl)
  have d0_18 : g0 18 = .inr (.object RX0, 4, .inr (.inr (fun _ => none))) := (fr0 18 (by omega)).trans (rfl)
  have d0_19 : g0 19 = .inr (.object RX4, 4, .inr (.inr (fun _ => none))) := (fr0 19 (by omega)).trans (rfl)
  refine ji_aastore (C := RX4) (T := TX4) (N := 7) dX1_init_39 (d0_19) (fun cy => rfl) (by omega) rfl (c0_20) ?_
  refine ji_iinc dX1_init_40 (by decide) rfl rfl ?_
  refine ji_goto (tgt := 22) dX1_init_43 rfl ?_
  refine ji_iload_n dX1_init_22 rfl ?_
  refine ji_iconst dX1_init_23 ?_
  refine ji_icmp_ge (tgt := 46) dX1_init_24 rfl (by omega) (by omega) (fun q => absurd q (by omega)) (fun _ => ?_)
  refine ji_aload_n dX1_init_27 rfl trivial ?_
  refine ji_get (ci := 1) (k := 1) rfl dX1_init_28 lX1_19 (by decide) (d0_17) rfl ?_
  refine ji_iload_n dX1_init_31 rfl ?_
  refine ji_new (ci := 4) (fs := [.int (jI 0), .int (jI 0), .null, .int (jI 0), .null, .null, .null]) rfl dX1_init_32 lX1_17 (fun G ad => by simp [ji_vs, ji_v]) (by decide) (by omega) (by omega) ?_
  refine ji_dup dX1_init_35 rfl ?_
  refine ji_callIN dX1_init_36 (c_Marks25 (by exact rfl)) rfl wX4_init rfl rfl iX4_init (by decide) rfl (Nat.le_of_ble_eq_true rfl) rfl (by omega) (by omega) (fun r h1 hq1 => ?_) (fun E h1 hq1 => by cases hq1.1)
  obtain ⟨er1, en1, fr1, c1_25, c1_26, c1_27, c1_28, c1_29⟩ := hq1
  cases er1
  obtain ⟨n1, g1⟩ := h1
  cases (show n1 = 30 from en1)
  have d1_17 : g1 17 = .inl (1, [.ref 18, .ref 19, .int (jI 0)]) := (fr1 17 (by omega)).trans (d0_17)
  have d1_18 : g1 18 = .inr (.object RX0, 4, .inr (.inr (fun _ => none))) := (fr1 18 (by omega)).trans (d0_18)
  have d1_19 : g1 19 = .inr (.object RX4, 4, .inr (.inr (va_up (fun _ => none) 0 (some 20)))) := (fr1 19 (by omega)).trans (rfl)
  have d1_20 : g1 20 = .inl (4, [.int (jI 0), .int (jI 0), .ref 21, .int (jI 0), .ref 22, .ref 23, .ref 24]) := (fr1 20 (by omega)).trans (c0_20)
  have d1_21 : g1 21 = .inr (.int, 5, .inl (fun _ => 0)) := (fr1 21 (by omega)).trans (c0_21)
  have d1_22 : g1 22 = .inr (.int, 12, .inl (fun _ => 0)) := (fr1 22 (by omega)).trans (c0_22)
  have d1_23 : g1 23 = .inr (.int, 12, .inl (fun _ => 0)) := (fr1 23 (by omega)).trans (c0_23)
  have d1_24 : g1 24 = .inr (.int, 12, .inl (fun _ => 0)) := (fr1 24 (by omega)).trans (c0_24)
  refine ji_aastore (C := RX4) (T := TX4) (N := 7) dX1_init_39 (d1_19) (fun cy => rfl) (by omega) rfl (c1_25) ?_
  refine ji_iinc dX1_init_40 (by decide) rfl rfl ?_
  refine ji_goto (tgt := 22) dX1_init_43 rfl ?_
  refine ji_iload_n dX1_init_22 rfl ?_
  refine ji_iconst dX1_init_23 ?_
  refine ji_icmp_ge (tgt := 46) dX1_init_24 rfl (by omega) (by omega) (fun q => absurd q (by omega)) (fun _ => ?_)
  refine ji_aload_n dX1_init_27 rfl trivial ?_
  refine ji_get (ci := 1) (k := 1) rfl dX1_init_28 lX1_19 (by decide) (d1_17) rfl ?_
  refine ji_iload_n dX1_init_31 rfl ?_
  refine ji_new (ci := 4) (fs := [.int (jI 0), .int (jI 0), .null, .int (jI 0), .null, .null, .null]) rfl dX1_init_32 lX1_17 (fun G ad => by simp [ji_vs, ji_v]) (by decide) (by omega) (by omega) ?_
  refine ji_dup dX1_init_35 rfl ?_
  refine ji_callIN dX1_init_36 (c_Marks30 (by exact rfl)) rfl wX4_init rfl rfl iX4_init (by decide) rfl (Nat.le_of_ble_eq_true rfl) rfl (by omega) (by omega) (fun r h2 hq2 => ?_) (fun E h2 hq2 => by cases hq2.1)
  obtain ⟨er2, en2, fr2, c2_30, c2_31, c2_32, c2_33, c2_34⟩ := hq2
  cases er2
  obtain ⟨n2, g2⟩ := h2
  cases (show n2 = 35 from en2)
  have d2_17 : g2 17 = .inl (1, [.ref 18, .ref 19, .int (jI 0)]) := (fr2 17 (by omega)).trans (d1_17)
  have d2_18 : g2 18 = .inr (.object RX0, 4, .inr (.inr (fun _ => none))) := (fr2 18 (by omega)).trans (d1_18)
  have d2_19 : g2 19 = .inr (.object RX4, 4, .inr (.inr (va_up (va_up (fun _ => none) 0 (some 20)) 1 (some 25)))) := (fr2 19 (by omega)).trans (rfl)
  have d2_20 : g2 20 = .inl (4, [.int (jI 0), .int (jI 0), .ref 21, .int (jI 0), .ref 22, .ref 23, .ref 24]) := (fr2 20 (by omega)).trans (d1_20)
  have d2_21 : g2 21 = .inr (.int, 5, .inl (fun _ => 0)) := (fr2 21 (by omega)).trans (d1_21)
  have d2_22 : g2 22 = .inr (.int, 12, .inl (fun _ => 0)) := (fr2 22 (by omega)).trans (d1_22)
  have d2_23 : g2 23 = .inr (.int, 12, .inl (fun _ => 0)) := (fr2 23 (by omega)).trans (d1_23)
  have d2_24 : g2 24 = .inr (.int, 12, .inl (fun _ => 0)) := (fr2 24 (by omega)).trans (d1_24)
  have d2_25 : g2 25 = .inl (4, [.int (jI 0), .int (jI 0), .ref 26, .int (jI 0), .ref 27, .ref 28, .ref 29]) := (fr2 25 (by omega)).trans (c1_25)
  have d2_26 : g2 26 = .inr (.int, 5, .inl (fun _ => 0)) := (fr2 26 (by omega)).trans (c1_26)
  have d2_27 : g2 27 = .inr (.int, 12, .inl (fun _ => 0)) := (fr2 27 (by omega)).trans (c1_27)
  have d2_28 : g2 28 = .inr (.int, 12, .inl (fun _ => 0)) := (fr2 28 (by omega)).trans (c1_28)
  have d2_29 : g2 29 = .inr (.int, 12, .inl (fun _ => 0)) := (fr2 29 (by omega)).trans (c1_29)
  refine ji_aastore (C := RX4) (T := TX4) (N := 7) dX1_init_39 (d2_19) (fun cy => rfl) (by omega) rfl (c2_30) ?_
  refine ji_iinc dX1_init_40 (by decide) rfl rfl ?_
  refine ji_goto (tgt := 22) dX1_init_43 rfl ?_
  refine ji_iload_n dX1_init_22 rfl ?_
  refine ji_iconst dX1_init_23 ?_
  refine ji_icmp_ge (tgt := 46) dX1_init_24 rfl (by omega) (by omega) (fun q => absurd q (by omega)) (fun _ => ?_)
  refine ji_aload_n dX1_init_27 rfl trivial ?_
  refine ji_get (ci := 1) (k := 1) rfl dX1_init_28 lX1_19 (by decide) (d2_17) rfl ?_
  refine ji_iload_n dX1_init_31 rfl ?_
  refine ji_new (ci := 4) (fs := [.int (jI 0), .int (jI 0), .null, .int (jI 0), .null, .null, .null]) rfl dX1_init_32 lX1_17 (fun G ad => by simp [ji_vs, ji_v]) (by decide) (by omega) (by omega) ?_
  refine ji_dup dX1_init_35 rfl ?_
  refine ji_callIN dX1_init_36 (c_Marks35 (by exact rfl)) rfl wX4_init rfl rfl iX4_init (by decide) rfl (Nat.le_of_ble_eq_true rfl) rfl (by omega) (by omega) (fun r h3 hq3 => ?_) (fun E h3 hq3 => by cases hq3.1)
  obtain ⟨er3, en3, fr3, c3_35, c3_36, c3_37, c3_38, c3_39⟩ := hq3
  cases er3
  obtain ⟨n3, g3⟩ := h3
  cases (show n3 = 40 from en3)
  have d3_17 : g3 17 = .inl (1, [.ref 18, .ref 19, .int (jI 0)]) := (fr3 17 (by omega)).trans (d2_17)
  have d3_18 : g3 18 = .inr (.object RX0, 4, .inr (.inr (fun _ => none))) := (fr3 18 (by omega)).trans (d2_18)
  have d3_19 : g3 19 = .inr (.object RX4, 4, .inr (.inr (va_up (va_up (va_up (fun _ => none) 0 (some 20)) 1 (some 25)) 2 (some 30)))) := (fr3 19 (by omega)).trans (rfl)
  have d3_20 : g3 20 = .inl (4, [.int (jI 0), .int (jI 0), .ref 21, .int (jI 0), .ref 22, .ref 23, .ref 24]) := (fr3 20 (by omega)).trans (d2_20)
  have d3_21 : g3 21 = .inr (.int, 5, .inl (fun _ => 0)) := (fr3 21 (by omega)).trans (d2_21)
  have d3_22 : g3 22 = .inr (.int, 12, .inl (fun _ => 0)) := (fr3 22 (by omega)).trans (d2_22)
  have d3_23 : g3 23 = .inr (.int, 12, .inl (fun _ => 0)) := (fr3 23 (by omega)).trans (d2_23)
  have d3_24 : g3 24 = .inr (.int, 12, .inl (fun _ => 0)) := (fr3 24 (by omega)).trans (d2_24)
  have d3_25 : g3 25 = .inl (4, [.int (jI 0), .int (jI 0), .ref 26, .int (jI 0), .ref 27, .ref 28, .ref 29]) := (fr3 25 (by omega)).trans (d2_25)
  have d3_26 : g3 26 = .inr (.int, 5, .inl (fun _ => 0)) := (fr3 26 (by omega)).trans (d2_26)
  have d3_27 : g3 27 = .inr (.int, 12, .inl (fun _ => 0)) := (fr3 27 (by omega)).trans (d2_27)
  have d3_28 : g3 28 = .inr (.int, 12, .inl (fun _ => 0)) := (fr3 28 (by omega)).trans (d2_28)
  have d3_29 : g3 29 = .inr (.int, 12, .inl (fun _ => 0)) := (fr3 29 (by omega)).trans (d2_29)
  have d3_30 : g3 30 = .inl (4, [.int (jI 0), .int (jI 0), .ref 31, .int (jI 0), .ref 32, .ref 33, .ref 34]) := (fr3 30 (by omega)).trans (c2_30)
  have d3_31 : g3 31 = .inr (.int, 5, .inl (fun _ => 0)) := (fr3 31 (by omega)).trans (c2_31)
  have d3_32 : g3 32 = .inr (.int, 12, .inl (fun _ => 0)) := (fr3 32 (by omega)).trans (c2_32)
  have d3_33 : g3 33 = .inr (.int, 12, .inl (fun _ => 0)) := (fr3 33 (by omega)).trans (c2_33)
  have d3_34 : g3 34 = .inr (.int, 12, .inl (fun _ => 0)) := (fr3 34 (by omega)).trans (c2_34)
  refine ji_aastore (C := RX4) (T := TX4) (N := 7) dX1_init_39 (d3_19) (fun cy => rfl) (by omega) rfl (c3_35) ?_
  refine ji_iinc dX1_init_40 (by decide) rfl rfl ?_
  refine ji_goto (tgt := 22) dX1_init_43 rfl ?_
  refine ji_iload_n dX1_init_22 rfl ?_
  refine ji_iconst dX1_init_23 ?_
  refine ji_icmp_ge (tgt := 46) dX1_init_24 rfl (by omega) (by omega) (fun _ => ?_) (fun q => absurd (by omega) q)
  exact ji_return dX1_init_46 rfl ⟨rfl, rfl, fun x hx => by
      dsimp only
      (repeat rw [va_up_ne _ _ (by omega)])
      refine (fr3 x (by omega)).trans ?_
      dsimp only
      (repeat rw [va_up_ne _ _ (by omega)])
      refine (fr2 x (by omega)).trans ?_
      dsimp only
      (repeat rw [va_up_ne _ _ (by omega)])
      refine (fr1 x (by omega)).trans ?_
      dsimp only
      (repeat rw [va_up_ne _ _ (by omega)])
      refine (fr0 x (by omega)).trans ?_
      dsimp only
      (repeat rw [va_up_ne _ _ (by omega)]),
    d3_17, d3_18, rfl, d3_20, d3_21, d3_22, d3_23, d3_24, d3_25, d3_26, d3_27, d3_28, d3_29, d3_30, d3_31, d3_32, d3_33, d3_34, c3_35, c3_36, c3_37, c3_38, c3_39⟩

set_option maxRecDepth 100000 in
theorem c_Model60 {f : Nat → ji_C} (hq : f 60 = .inl (8, [.int (jI 0), .null, .null, .int (jI 0), .null, .null, .int (jI 0), .int (jI 0), .null, .int (jI 0), .null, .int (jI 0), .int (jI 0), .int (jI 0), .int (jI 0), .int (jI 0), .int (jI 0), .null, .null, .null, .int (jI 0), .int (jI 0), .int (jI 0), .null, .long 0])) : JM G (d + 1) mX8_init [.ref 60] (61, f) 10 20551 (fun r h9 => r = .inl none ∧ h9.1 = 71 ∧ (∀ x, x < 60 → h9.2 x = f x) ∧ h9.2 60 = .inl (8, [.int (jI 0), .ref 61, .ref 62, .int (jI 0), .ref 63, .ref 64, .int (jI 30), .int (jI 8), .ref 65, .int (jI 0), .ref 66, .int (jI 0), .int (jI 0), .int (jI 0), .int (jI 0), .int (jI 0), .int (jI 0), .ref 67, .ref 68, .ref 69, .int (jI 0), .int (jI 0), .int (jI 0), .ref 70, .long 0]) ∧ h9.2 61 = .inr (.int, 3695, .inl (va_up (va_up (va_up (fun _ => 0) 0 1) 85 1) 95 97)) ∧ h9.2 62 = .inr (.int, 14780, .inl (fun _ => 0)) ∧ h9.2 63 = .inr (.int, 1000, .inl (fun _ => 0)) ∧ h9.2 64 = .inr (.int, 10, .inl (fun _ => 0)) ∧ h9.2 65 = .inr (.int, 5, .inl (va_up (va_up (fun _ => 0) 0 2) 1 4)) ∧ h9.2 66 = .inr (.int, 100, .inl (fun _ => 0)) ∧ h9.2 67 = .inr (.int, 240, .inl (fun _ => 0)) ∧ h9.2 68 = .inr (.int, 240, .inl (fun _ => 0)) ∧ h9.2 69 = .inr (.int, 240, .inl (fun _ => 0)) ∧ h9.2 70 = .inr (.int, 241, .inl (fun _ => 0))) := by
  refine ji_ent (by decide) rfl (Nat.le_of_ble_eq_true rfl) rfl ?_
  refine ji_aload_n dX8_init_0 rfl trivial ?_
  refine ji_objInit dX8_init_1 lX8_1 ji_wobj.1 ji_wobj.2 (Nat.le_of_ble_eq_true rfl) ?_
  refine ji_aload_n dX8_init_4 rfl trivial ?_
  refine ji_sipush dX8_init_5 rfl ?_
  refine ji_newI dX8_init_8 (by omega) (by omega) (by omega) ?_
  refine ji_putF (ci := 8) (k := 1) rfl dX8_init_10 lX8_7 (by decide) (hq) (by simp) (ji_fitA _ trivial) rfl rfl rfl ?_
  refine ji_aload_n dX8_init_13 rfl trivial ?_
  refine ji_sipush dX8_init_14 rfl ?_
  refine ji_newI dX8_init_17 (by omega) (by omega) (by omega) ?_
  refine ji_putF (ci := 8) (k := 2) rfl dX8_init_19 lX8_13 (by decide) (rfl) (by simp) (ji_fitA _ trivial) rfl rfl rfl ?_
  refine ji_aload_n dX8_init_22 rfl trivial ?_
  refine ji_sipush dX8_init_23 rfl ?_
  refine ji_newI dX8_init_26 (by omega) (by omega) (by omega) ?_
  refine ji_putF (ci := 8) (k := 4) rfl dX8_init_28 lX8_16 (by decide) (rfl) (by simp) (ji_fitA _ trivial) rfl rfl rfl ?_
  refine ji_aload_n dX8_init_31 rfl trivial ?_
  refine ji_bipush dX8_init_32 rfl ?_
  refine ji_newI dX8_init_34 (by omega) (by omega) (by omega) ?_
  refine ji_putF (ci := 8) (k := 5) rfl dX8_init_36 lX8_19 (by decide) (rfl) (by simp) (ji_fitA _ trivial) rfl rfl rfl ?_
  refine ji_aload_n dX8_init_39 rfl trivial ?_
  refine ji_bipush dX8_init_40 rfl ?_
  refine ji_put (ci := 8) (k := 6) rfl dX8_init_42 lX8_22 (by decide) (rfl) (by simp) (ji_fitI _) rfl ?_
  refine ji_aload_n dX8_init_45 rfl trivial ?_
  refine ji_bipush dX8_init_46 rfl ?_
  refine ji_put (ci := 8) (k := 7) rfl dX8_init_48 lX8_26 (by decide) (rfl) (by simp) (ji_fitI _) rfl ?_
  refine ji_aload_n dX8_init_51 rfl trivial ?_
  refine ji_iconst dX8_init_52 ?_
  refine ji_newI dX8_init_53 (by omega) (by omega) (by omega) ?_
  refine ji_putF (ci := 8) (k := 8) rfl dX8_init_55 lX8_29 (by decide) (rfl) (by simp) (ji_fitA _ trivial) rfl rfl rfl ?_
  refine ji_aload_n dX8_init_58 rfl trivial ?_
  refine ji_bipush dX8_init_59 rfl ?_
  refine ji_newI dX8_init_61 (by omega) (by omega) (by omega) ?_
  refine ji_putF (ci := 8) (k := 10) rfl dX8_init_63 lX8_32 (by decide) (rfl) (by simp) (ji_fitA _ trivial) rfl rfl rfl ?_
  refine ji_aload_n dX8_init_66 rfl trivial ?_
  refine ji_sipush dX8_init_67 rfl ?_
  refine ji_newI dX8_init_70 (by omega) (by omega) (by omega) ?_
  refine ji_putF (ci := 8) (k := 17) rfl dX8_init_72 lX8_35 (by decide) (rfl) (by simp) (ji_fitA _ trivial) rfl rfl rfl ?_
  refine ji_aload_n dX8_init_75 rfl trivial ?_
  refine ji_sipush dX8_init_76 rfl ?_
  refine ji_newI dX8_init_79 (by omega) (by omega) (by omega) ?_
  refine ji_putF (ci := 8) (k := 18) rfl dX8_init_81 lX8_38 (by decide) (rfl) (by simp) (ji_fitA _ trivial) rfl rfl rfl ?_
  refine ji_aload_n dX8_init_84 rfl trivial ?_
  refine ji_sipush dX8_init_85 rfl ?_
  refine ji_newI dX8_init_88 (by omega) (by omega) (by omega) ?_
  refine ji_putF (ci := 8) (k := 19) rfl dX8_init_90 lX8_41 (by decide) (rfl) (by simp) (ji_fitA _ trivial) rfl rfl rfl ?_
  refine ji_aload_n dX8_init_93 rfl trivial ?_
  refine ji_sipush dX8_init_94 rfl ?_
  refine ji_newI dX8_init_97 (by omega) (by omega) (by omega) ?_
  refine ji_putF (ci := 8) (k := 23) rfl dX8_init_99 lX8_44 (by decide) (rfl) (by simp) (ji_fitA _ trivial) rfl rfl rfl ?_
  refine ji_aload_n dX8_init_102 rfl trivial ?_
  refine ji_get (ci := 8) (k := 1) rfl dX8_init_103 lX8_7 (by decide) (rfl) rfl ?_
  refine ji_iconst dX8_init_106 ?_
  refine ji_iconst dX8_init_107 ?_
  refine ji_iastore dX8_init_108 (rfl) (by omega) ?_
  refine ji_aload_n dX8_init_109 rfl trivial ?_
  refine ji_get (ci := 8) (k := 1) rfl dX8_init_110 lX8_7 (by decide) (rfl) rfl ?_
  refine ji_bipush dX8_init_113 rfl ?_
  refine ji_iconst dX8_init_115 ?_
  refine ji_iastore dX8_init_116 (rfl) (by omega) ?_
  refine ji_aload_n dX8_init_117 rfl trivial ?_
  refine ji_get (ci := 8) (k := 1) rfl dX8_init_118 lX8_7 (by decide) (rfl) rfl ?_
  refine ji_bipush dX8_init_121 rfl ?_
  refine ji_bipush dX8_init_123 rfl ?_
  refine ji_iastore dX8_init_125 (rfl) (by omega) ?_
  refine ji_aload_n dX8_init_126 rfl trivial ?_
  refine ji_get (ci := 8) (k := 8) rfl dX8_init_127 lX8_29 (by decide) (rfl) rfl ?_
  refine ji_iconst dX8_init_130 ?_
  refine ji_iconst dX8_init_131 ?_
  refine ji_iastore dX8_init_132 (rfl) (by omega) ?_
  refine ji_aload_n dX8_init_133 rfl trivial ?_
  refine ji_get (ci := 8) (k := 8) rfl dX8_init_134 lX8_29 (by decide) (rfl) rfl ?_
  refine ji_iconst dX8_init_137 ?_
  refine ji_iconst dX8_init_138 ?_
  refine ji_iastore dX8_init_139 (rfl) (by omega) ?_
  exact ji_return dX8_init_140 rfl ⟨rfl, rfl, fun x hx => by
      dsimp only
      (repeat rw [va_up_ne _ _ (by omega)]),
    rfl, rfl, rfl, rfl, rfl, rfl, rfl, rfl, rfl, rfl, rfl⟩

end MAKE
