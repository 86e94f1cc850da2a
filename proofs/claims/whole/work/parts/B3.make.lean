/-! ===== the makers ===== -/
section MAKE
variable {G : ji_G} {d : Nat}
theorem tx0_b (j : Nat) : 0 ≤ va_up (fun _ => (0 : Int)) 0 97 j ∧ va_up (fun _ => (0 : Int)) 0 97 j < 128 := by
  by_cases c : j = 0
  · rw [c, va_up_self]; omega
  · rw [va_up_ne _ _ c]; omega
theorem tx0_c : wd_cnt (va_up (fun _ => (0 : Int)) 0 97) 1 = 0 := rfl

set_option maxRecDepth 100000 in
theorem c_Marks12 {f : Nat → ji_C} (hq : f 12 = .inl (4, [.int (jI 0), .int (jI 0), .null, .int (jI 0), .null, .null, .null])) : JM G (d + 1) mX4_init [.ref 12] (13, f) 4 41 (fun r h9 => r = .inl none ∧ h9.1 = 17 ∧ (∀ x, x < 12 → h9.2 x = f x) ∧ h9.2 12 = .inl (4, [.int (jI 0), .int (jI 0), .ref 13, .int (jI 0), .ref 14, .ref 15, .ref 16]) ∧ h9.2 13 = .inr (.int, 5, .inl (fun _ => 0)) ∧ h9.2 14 = .inr (.int, 12, .inl (fun _ => 0)) ∧ h9.2 15 = .inr (.int, 12, .inl (fun _ => 0)) ∧ h9.2 16 = .inr (.int, 12, .inl (fun _ => 0))) := by
  refine ji_ent (by decide) rfl (Nat.le_of_ble_eq_true rfl) rfl ?_
  refine ji_aload_n dX4_init_0 rfl trivial ?_
  refine ji_objInit dX4_init_1 lX4_3 ji_wobj.1 ji_wobj.2 (Nat.le_of_ble_eq_true rfl) ?_
  refine ji_aload_n dX4_init_4 rfl trivial ?_
  refine ji_iconst dX4_init_5 ?_
  refine ji_newI dX4_init_6 (by omega) (by omega) (by omega) ?_
  refine ji_putF (ci := 4) (k := 2) rfl dX4_init_8 lX4_9 (by decide) (hq) (by simp) (ji_fitA _ trivial) rfl rfl rfl ?_
  refine ji_aload_n dX4_init_11 rfl trivial ?_
  refine ji_bipush dX4_init_12 rfl ?_
  refine ji_newI dX4_init_14 (by omega) (by omega) (by omega) ?_
  refine ji_putF (ci := 4) (k := 4) rfl dX4_init_16 lX4_15 (by decide) (rfl) (by simp) (ji_fitA _ trivial) rfl rfl rfl ?_
  refine ji_aload_n dX4_init_19 rfl trivial ?_
  refine ji_bipush dX4_init_20 rfl ?_
  refine ji_newI dX4_init_22 (by omega) (by omega) (by omega) ?_
  refine ji_putF (ci := 4) (k := 5) rfl dX4_init_24 lX4_18 (by decide) (rfl) (by simp) (ji_fitA _ trivial) rfl rfl rfl ?_
  refine ji_aload_n dX4_init_27 rfl trivial ?_
  refine ji_bipush dX4_init_28 rfl ?_
  refine ji_newI dX4_init_30 (by omega) (by omega) (by omega) ?_
  refine ji_putF (ci := 4) (k := 6) rfl dX4_init_32 lX4_21 (by decide) (rfl) (by simp) (ji_fitA _ trivial) rfl rfl rfl ?_
  exact ji_return dX4_init_35 rfl ⟨rfl, rfl, fun x hx => by
      dsimp only
      (repeat rw [va_up_ne _ _ (by omega)]),
    rfl, rfl, rfl, rfl, rfl⟩

set_option maxRecDepth 100000 in
theorem c_Marks20 {f : Nat → ji_C} (hq : f 20 = .inl (4, [.int (jI 0), .int (jI 0), .null, .int (jI 0), .null, .null, .null])) : JM G (d + 1) mX4_init [.ref 20] (21, f) 4 41 (fun r h9 => r = .inl none ∧ h9.1 = 25 ∧ (∀ x, x < 20 → h9.2 x = f x) ∧ h9.2 20 = .inl (4, [.int (jI 0), .int (jI 0), .ref 21, .int (jI 0), .ref 22, .ref 23, .ref 24]) ∧ h9.2 21 = .inr (.int, 5, .inl (fun _ => 0)) ∧ h9.2 22 = .inr (.int, 12, .inl (fun _ => 0)) ∧ h9.2 23 = .inr (.int, 12, .inl (fun _ => 0)) ∧ h9.2 24 = .inr (.int, 12, .inl (fun _ => 0))) := by
  refine ji_ent (by decide) rfl (Nat.le_of_ble_eq_true rfl) rfl ?_
  refine ji_aload_n dX4_init_0 rfl trivial ?_
  refine ji_objInit dX4_init_1 lX4_3 ji_wobj.1 ji_wobj.2 (Nat.le_of_ble_eq_true rfl) ?_
  refine ji_aload_n dX4_init_4 rfl trivial ?_
  refine ji_iconst dX4_init_5 ?_
  refine ji_newI dX4_init_6 (by omega) (by omega) (by omega) ?_
  refine ji_putF (ci := 4) (k := 2) rfl dX4_init_8 lX4_9 (by decide) (hq) (by simp) (ji_fitA _ trivial) rfl rfl rfl ?_
  refine ji_aload_n dX4_init_11 rfl trivial ?_
  refine ji_bipush dX4_init_12 rfl ?_
  refine ji_newI dX4_init_14 (by omega) (by omega) (by omega) ?_
  refine ji_putF (ci := 4) (k := 4) rfl dX4_init_16 lX4_15 (by decide) (rfl) (by simp) (ji_fitA _ trivial) rfl rfl rfl ?_
  refine ji_aload_n dX4_init_19 rfl trivial ?_
  refine ji_bipush dX4_init_20 rfl ?_
  refine ji_newI dX4_init_22 (by omega) (by omega) (by omega) ?_
  refine ji_putF (ci := 4) (k := 5) rfl dX4_init_24 lX4_18 (by decide) (rfl) (by simp) (ji_fitA _ trivial) rfl rfl rfl ?_
  refine ji_aload_n dX4_init_27 rfl trivial ?_
  refine ji_bipush dX4_init_28 rfl ?_
  refine ji_newI dX4_init_30 (by omega) (by omega) (by omega) ?_
  refine ji_putF (ci := 4) (k := 6) rfl dX4_init_32 lX4_21 (by decide) (rfl) (by simp) (ji_fitA _ trivial) rfl rfl rfl ?_
  exact ji_return dX4_init_35 rfl ⟨rfl, rfl, fun x hx => by
      dsimp only
      (repeat rw [va_up_ne _ _ (by omega)]),
    rfl, rfl, rfl, rfl, rfl⟩

set_option maxRecDepth 100000 in
theorem c_Marks25 {f : Nat → ji_C} (hq : f 25 = .inl (4, [.int (jI 0), .int (jI 0), .null, .int (jI 0), .null, .null, .null])) : JM G (d + 1) mX4_init [.ref 25] (26, f) 4 41 (fun r h9 => r = .inl none ∧ h9.1 = 30 ∧ (∀ x, x < 25 → h9.2 x = f x) ∧ h9.2 25 = .inl (4, [.int (jI 0), .int (jI 0), .ref 26, .int (jI 0), .ref 27, .ref 28, .ref 29]) ∧ h9.2 26 = .inr (.int, 5, .inl (fun _ => 0)) ∧ h9.2 27 = .inr (.int, 12, .inl (fun _ => 0)) ∧ h9.2 28 = .inr (.int, 12, .inl (fun _ => 0)) ∧ h9.2 29 = .inr (.int, 12, .inl (fun _ => 0))) := by
  refine ji_ent (by decide) rfl (Nat.le_of_ble_eq_true rfl) rfl ?_
  refine ji_aload_n dX4_init_0 rfl trivial ?_
  refine ji_objInit dX4_init_1 lX4_3 ji_wobj.1 ji_wobj.2 (Nat.le_of_ble_eq_true rfl) ?_
  refine ji_aload_n dX4_init_4 rfl trivial ?_
  refine ji_iconst dX4_init_5 ?_
  refine ji_newI dX4_init_6 (by omega) (by omega) (by omega) ?_
  refine ji_putF (ci := 4) (k := 2) rfl dX4_init_8 lX4_9 (by decide) (hq) (by simp) (ji_fitA _ trivial) rfl rfl rfl ?_
  refine ji_aload_n dX4_init_11 rfl trivial ?_
  refine ji_bipush dX4_init_12 rfl ?_
  refine ji_newI dX4_init_14 (by omega) (by omega) (by omega) ?_
  refine ji_putF (ci := 4) (k := 4) rfl dX4_init_16 lX4_15 (by decide) (rfl) (by simp) (ji_fitA _ trivial) rfl rfl rfl ?_
  refine ji_aload_n dX4_init_19 rfl trivial ?_
  refine ji_bipush dX4_init_20 rfl ?_
  refine ji_newI dX4_init_22 (by omega) (by omega) (by omega) ?_
  refine ji_putF (ci := 4) (k := 5) rfl dX4_init_24 lX4_18 (by decide) (rfl) (by simp) (ji_fitA _ trivial) rfl rfl rfl ?_
  refine ji_aload_n dX4_init_27 rfl trivial ?_
  refine ji_bipush dX4_init_28 rfl ?_
  refine ji_newI dX4_init_30 (by omega) (by omega) (by omega) ?_
  refine ji_putF (ci := 4) (k := 6) rfl dX4_init_32 lX4_21 (by decide) (rfl) (by simp) (ji_fitA _ trivial) rfl rfl rfl ?_
  exact ji_return dX4_init_35 rfl ⟨rfl, rfl, fun x hx => by
      dsimp only
      (repeat rw [va_up_ne _ _ (by omega)]),
    rfl, rfl, rfl, rfl, rfl⟩

set_option maxRecDepth 100000 in
theorem c_Marks30 {f : Nat → ji_C} (hq : f 30 = .inl (4, [.int (jI 0), .int (jI 0), .null, .int (jI 0), .null, .null, .null])) : JM G (d + 1) mX4_init [.ref 30] (31, f) 4 41 (fun r h9 => r = .inl none ∧ h9.1 = 35 ∧ (∀ x, x < 30 → h9.2 x = f x) ∧ h9.2 30 = .inl (4, [.int (jI 0), .int (jI 0), .ref 31, .int (jI 0), .ref 32, .ref 33, .ref 34]) ∧ h9.2 31 = .inr (.int, 5, .inl (fun _ => 0)) ∧ h9.2 32 = .inr (.int, 12, .inl (fun _ => 0)) ∧ h9.2 33 = .inr (.int, 12, .inl (fun _ => 0)) ∧ h9.2 34 = .inr (.int, 12, .inl (fun _ => 0))) := by
  refine ji_ent (by decide) rfl (Nat.le_of_ble_eq_true rfl) rfl ?_
  refine ji_aload_n dX4_init_0 rfl trivial ?_
  refine ji_objInit dX4_init_1 lX4_3 ji_wobj.1 ji_wobj.2 (Nat.le_of_ble_eq_true rfl) ?_
  refine ji_aload_n dX4_init_4 rfl trivial ?_
  refine ji_iconst dX4_init_5 ?_
  refine ji_newI dX4_init_6 (by omega) (by omega) (by omega) ?_
  refine ji_putF (ci := 4) (k := 2) rfl dX4_init_8 lX4_9 (by decide) (hq) (by simp) (ji_fitA _ trivial) rfl rfl rfl ?_
  refine ji_aload_n dX4_init_11 rfl trivial ?_
  refine ji_bipush dX4_init_12 rfl ?_
  refine ji_newI dX4_init_14 (by omega) (by omega) (by omega) ?_
  refine ji_putF (ci := 4) (k := 4) rfl dX4_init_16 lX4_15 (by decide) (rfl) (by simp) (ji_fitA _ trivial) rfl rfl rfl ?_
  refine ji_aload_n dX4_init_19 rfl trivial ?_
  refine ji_bipush dX4_init_20 rfl ?_
  refine ji_newI dX4_init_22 (by omega) (by omega) (by omega) ?_
  refine ji_putF (ci := 4) (k := 5) rfl dX4_init_24 lX4_18 (by decide) (rfl) (by simp) (ji_fitA _ trivial) rfl rfl rfl ?_
  refine ji_aload_n dX4_init_27 rfl trivial ?_
  refine ji_bipush dX4_init_28 rfl ?_
  refine ji_newI dX4_init_30 (by omega) (by omega) (by omega) ?_
  refine ji_putF (ci := 4) (k := 6) rfl dX4_init_32 lX4_21 (by decide) (rfl) (by simp) (ji_fitA _ trivial) rfl rfl rfl ?_
  exact ji_return dX4_init_35 rfl ⟨rfl, rfl, fun x hx => by
      dsimp only
      (repeat rw [va_up_ne _ _ (by omega)]),
    rfl, rfl, rfl, rfl, rfl⟩

set_option maxRecDepth 100000 in
theorem c_Marks35 {f : Nat → ji_C} (hq : f 35 = .inl (4, [.int (jI 0), .int (jI 0), .null, .int (jI 0), .null, .null, .null])) : JM G (d + 1) mX4_init [.ref 35] (36, f) 4 41 (fun r h9 => r = .inl none ∧ h9.1 = 40 ∧ (∀ x, x < 35 → h9.2 x = f x) ∧ h9.2 35 = .inl (4, [.int (jI 0), .int (jI 0), .ref 36, .int (jI 0), .ref 37, .ref 38, .ref 39]) ∧ h9.2 36 = .inr (.int, 5, .inl (fun _ => 0)) ∧ h9.2 37 = .inr (.int, 12, .inl (fun _ => 0)) ∧ h9.2 38 = .inr (.int, 12, .inl (fun _ => 0)) ∧ h9.2 39 = .inr (.int, 12, .inl (fun _ => 0))) := by
  refine ji_ent (by decide) rfl (Nat.le_of_ble_eq_true rfl) rfl ?_
  refine ji_aload_n dX4_init_0 rfl trivial ?_
  refine ji_objInit dX4_init_1 lX4_3 ji_wobj.1 ji_wobj.2 (Nat.le_of_ble_eq_true rfl) ?_
  refine ji_aload_n dX4_init_4 rfl trivial ?_
  refine ji_iconst dX4_init_5 ?_
  refine ji_newI dX4_init_6 (by omega) (by omega) (by omega) ?_
  refine ji_putF (ci := 4) (k := 2) rfl dX4_init_8 lX4_9 (by decide) (hq) (by simp) (ji_fitA _ trivial) rfl rfl rfl ?_
  refine ji_aload_n dX4_init_11 rfl trivial ?_
  refine ji_bipush dX4_init_12 rfl ?_
  refine ji_newI dX4_init_14 (by omega) (by omega) (by omega) ?_
  refine ji_putF (ci := 4) (k := 4) rfl dX4_init_16 lX4_15 (by decide) (rfl) (by simp) (ji_fitA _ trivial) rfl rfl rfl ?_
  refine ji_aload_n dX4_init_19 rfl trivial ?_
  refine ji_bipush dX4_init_20 rfl ?_
  refine ji_newI dX4_init_22 (by omega) (by omega) (by omega) ?_
  refine ji_putF (ci := 4) (k := 5) rfl dX4_init_24 lX4_18 (by decide) (rfl) (by simp) (ji_fitA _ trivial) rfl rfl rfl ?_
  refine ji_aload_n dX4_init_27 rfl trivial ?_
  refine ji_bipush dX4_init_28 rfl ?_
  refine ji_newI dX4_init_30 (by omega) (by omega) (by omega) ?_
  refine ji_putF (ci := 4) (k := 6) rfl dX4_init_32 lX4_21 (by decide) (rfl) (by simp) (ji_fitA _ trivial) rfl rfl rfl ?_
  exact ji_return dX4_init_35 rfl ⟨rfl, rfl, fun x hx => by
      dsimp only
      (repeat rw [va_up_ne _ _ (by omega)]),
    rfl, rfl, rfl, rfl, rfl⟩

set_option maxRecDepth 100000 in
theorem c_Input1 {f : Nat → ji_C} (hq : f 1 = .inl (2, [.null, .null, .int (jI 0)])) : JM G (d + 2) mX2_init [.ref 1] (2, f) 2 107 (fun r h9 => r = .inl none ∧ h9.1 = 4 ∧ (∀ x, x < 1 → h9.2 x = f x) ∧ h9.2 1 = .inl (2, [.ref 2, .ref 3, .int (jI 0)]) ∧ h9.2 2 = .inr (.char, 100, .inl (fun _ => 0)) ∧ h9.2 3 = .inl (5, [.int (jI 0), .int (jI 0), .int (jI 0), .int (jI 0), .int (jI 0), .int (jI 0), .int (jI 0)])) := by
  refine ji_ent (by decide) rfl (Nat.le_of_ble_eq_true rfl) rfl ?_
  refine ji_aload_n dX2_init_0 rfl trivial ?_
  refine ji_objInit dX2_init_1 lX2_3 ji_wobj.1 ji_wobj.2 (Nat.le_of_ble_eq_true rfl) ?_
  refine ji_aload_n dX2_init_4 rfl trivial ?_
  refine ji_bipush dX2_init_5 rfl ?_
  refine ji_newC dX2_init_7 (by omega) (by omega) (by omega) ?_
  refine ji_putF (ci := 2) (k := 0) rfl dX2_init_9 lX2_9 (by decide) (hq) (by simp) (ji_fitA _ trivial) rfl rfl rfl ?_
  refine ji_aload_n dX2_init_12 rfl trivial ?_
  refine ji_new (ci := 5) (fs := [.int (jI 0), .int (jI 0), .int (jI 0), .int (jI 0), .int (jI 0), .int (jI 0), .int (jI 0)]) rfl dX2_init_13 lX2_15 (fun G ad => by simp [ji_vs, ji_v]) (by decide) (by omega) (by omega) ?_
  refine ji_dup dX2_init_16 rfl ?_
  refine ji_callIN dX2_init_17 (k_Syntax_init (n := 4) (y := 3) (bk := 0) (km := 0) (pg := 0) (wd := 0) (sg := 0) (dm := 0) (hr := 0)) rfl wX5_init rfl rfl iX5_init (by decide) rfl (Nat.le_of_ble_eq_true rfl) rfl (by omega) (by omega) (fun r h0 hq0 => ?_) (fun E h0 hq0 => by cases hq0.1)
  obtain ⟨er0, eh0⟩ := hq0
  cases er0
  subst eh0
  refine ji_putF (ci := 2) (k := 1) rfl dX2_init_20 lX2_18 (by decide) (rfl) (by simp) (ji_fitO _ trivial) rfl rfl rfl ?_
  exact ji_return dX2_init_23 rfl ⟨rfl, rfl, fun x hx => by
      dsimp only
      (repeat rw [va_up_ne _ _ (by omega)]),
    rfl, rfl, rfl⟩

set_option maxRecDepth 100000 in
theorem c_Layout40 {f : Nat → ji_C} (hq : f 40 = .inl (3, [.null, .null, .null, .int (jI 0), .int (jI 0), .null, .int (jI 0), .null, .null, .null, .null, .null, .null, .null, .int (jI 0), .null])) : JM G (d + 1) mX3_init [.ref 40, .ref 6, .ref 4, .ref 5] (41, f) 9 1932 (fun r h9 => r = .inl none ∧ h9.1 = 50 ∧ (∀ x, x < 40 → h9.2 x = f x) ∧ h9.2 40 = .inl (3, [.ref 4, .ref 5, .ref 6, .int (jI 0), .int (jI 0), .ref 41, .int (jI 0), .ref 42, .ref 43, .ref 44, .ref 45, .ref 46, .ref 47, .ref 48, .int (jI 0), .ref 49]) ∧ h9.2 41 = .inr (.int, 10, .inl (fun _ => 0)) ∧ h9.2 42 = .inr (.int, 241, .inl (fun _ => 0)) ∧ h9.2 43 = .inr (.int, 240, .inl (fun _ => 0)) ∧ h9.2 44 = .inr (.int, 240, .inl (fun _ => 0)) ∧ h9.2 45 = .inr (.int, 240, .inl (fun _ => 0)) ∧ h9.2 46 = .inr (.boolean, 240, .inl (fun _ => 0)) ∧ h9.2 47 = .inr (.int, 240, .inl (fun _ => 0)) ∧ h9.2 48 = .inr (.int, 240, .inl (fun _ => 0)) ∧ h9.2 49 = .inr (.int, 241, .inl (fun _ => 0))) := by
  refine ji_ent (by decide) rfl (Nat.le_of_ble_eq_true rfl) rfl ?_
  refine ji_aload_n dX3_init_0 rfl trivial ?_
  refine ji_objInit dX3_init_1 lX3_3 ji_wobj.1 ji_wobj.2 (Nat.le_of_ble_eq_true rfl) ?_
  refine ji_aload_n dX3_init_4 rfl trivial ?_
  refine ji_bipush dX3_init_5 rfl ?_
  refine ji_newI dX3_init_7 (by omega) (by omega) (by omega) ?_
  refine ji_putF (ci := 3) (k := 5) rfl dX3_init_9 lX3_9 (by decide) (hq) (by simp) (ji_fitA _ trivial) rfl rfl rfl ?_
  refine ji_aload_n dX3_init_12 rfl trivial ?_
  refine ji_sipush dX3_init_13 rfl ?_
  refine ji_newI dX3_init_16 (by omega) (by omega) (by omega) ?_
  refine ji_putF (ci := 3) (k := 7) rfl dX3_init_18 lX3_15 (by decide) (rfl) (by simp) (ji_fitA _ trivial) rfl rfl rfl ?_
  refine ji_aload_n dX3_init_21 rfl trivial ?_
  refine ji_sipush dX3_init_22 rfl ?_
  refine ji_newI dX3_init_25 (by omega) (by omega) (by omega) ?_
  refine ji_putF (ci := 3) (k := 8) rfl dX3_init_27 lX3_18 (by decide) (rfl) (by simp) (ji_fitA _ trivial) rfl rfl rfl ?_
  refine ji_aload_n dX3_init_30 rfl trivial ?_
  refine ji_sipush dX3_init_31 rfl ?_
  refine ji_newI dX3_init_34 (by omega) (by omega) (by omega) ?_
  refine ji_putF (ci := 3) (k := 9) rfl dX3_init_36 lX3_21 (by decide) (rfl) (by simp) (ji_fitA _ trivial) rfl rfl rfl ?_
  refine ji_aload_n dX3_init_39 rfl trivial ?_
  refine ji_sipush dX3_init_40 rfl ?_
  refine ji_newI dX3_init_43 (by omega) (by omega) (by omega) ?_
  refine ji_putF (ci := 3) (k := 10) rfl dX3_init_45 lX3_24 (by decide) (rfl) (by simp) (ji_fitA _ trivial) rfl rfl rfl ?_
  refine ji_aload_n dX3_init_48 rfl trivial ?_
  refine ji_sipush dX3_init_49 rfl ?_
  refine ji_newZ dX3_init_52 (by omega) (by omega) (by omega) ?_
  refine ji_putF (ci := 3) (k := 11) rfl dX3_init_54 lX3_27 (by decide) (rfl) (by simp) (ji_fitA _ trivial) rfl rfl rfl ?_
  refine ji_aload_n dX3_init_57 rfl trivial ?_
  refine ji_sipush dX3_init_58 rfl ?_
  refine ji_newI dX3_init_61 (by omega) (by omega) (by omega) ?_
  refine ji_putF (ci := 3) (k := 12) rfl dX3_init_63 lX3_31 (by decide) (rfl) (by simp) (ji_fitA _ trivial) rfl rfl rfl ?_
  refine ji_aload_n dX3_init_66 rfl trivial ?_
  refine ji_sipush dX3_init_67 rfl ?_
  refine ji_newI dX3_init_70 (by omega) (by omega) (by omega) ?_
  refine ji_putF (ci := 3) (k := 13) rfl dX3_init_72 lX3_34 (by decide) (rfl) (by simp) (ji_fitA _ trivial) rfl rfl rfl ?_
  refine ji_aload_n dX3_init_75 rfl trivial ?_
  refine ji_sipush dX3_init_76 rfl ?_
  refine ji_newI dX3_init_79 (by omega) (by omega) (by omega) ?_
  refine ji_putF (ci := 3) (k := 15) rfl dX3_init_81 lX3_37 (by decide) (rfl) (by simp) (ji_fitA _ trivial) rfl rfl rfl ?_
  refine ji_aload_n dX3_init_84 rfl trivial ?_
  refine ji_aload_n dX3_init_85 rfl trivial ?_
  refine ji_put (ci := 3) (k := 2) rfl dX3_init_86 lX3_40 (by decide) (rfl) (by simp) (ji_fitO _ trivial) rfl ?_
  refine ji_aload_n dX3_init_89 rfl trivial ?_
  refine ji_aload_n dX3_init_90 rfl trivial ?_
  refine ji_putF (ci := 3) (k := 0) rfl dX3_init_91 lX3_44 (by decide) (rfl) (by simp) (ji_fitA _ trivial) rfl rfl rfl ?_
  refine ji_aload_n dX3_init_94 rfl trivial ?_
  refine ji_aload_n dX3_init_95 rfl trivial ?_
  refine ji_putF (ci := 3) (k := 1) rfl dX3_init_96 lX3_48 (by decide) (rfl) (by simp) (ji_fitA _ trivial) rfl rfl rfl ?_
  exact ji_return dX3_init_99 rfl ⟨rfl, rfl, fun x hx => by
      dsimp only
      (repeat rw [va_up_ne _ _ (by omega)]),
    rfl, rfl, rfl, rfl, rfl, rfl, rfl, rfl, rfl, rfl⟩

set_option maxRecDepth 100000 in
theorem c_Layout50 {f : Nat → ji_C} (hq : f 50 = .inl (3, [.null, .null, .null, .int (jI 0), .int (jI 0), .null, .int (jI 0), .null, .null, .null, .null, .null, .null, .null, .int (jI 0), .null])) : JM G (d + 1) mX3_init [.ref 50, .ref 6, .ref 4, .ref 5] (51, f) 9 1932 (fun r h9 => r = .inl none ∧ h9.1 = 60 ∧ (∀ x, x < 50 → h9.2 x = f x) ∧ h9.2 50 = .inl (3, [.ref 4, .ref 5, .ref 6, .int (jI 0), .int (jI 0), .ref 51, .int (jI 0), .ref 52, .ref 53, .ref 54, .ref 55, .ref 56, .ref 57, .ref 58, .int (jI 0), .ref 59]) ∧ h9.2 51 = .inr (.int, 10, .inl (fun _ => 0)) ∧ h9.2 52 = .inr (.int, 241, .inl (fun _ => 0)) ∧ h9.2 53 = .inr (.int, 240, .inl (fun _ => 0)) ∧ h9.2 54 = .inr (.int, 240, .inl (fun _ => 0)) ∧ h9.2 55 = .inr (.int, 240, .inl (fun _ => 0)) ∧ h9.2 56 = .inr (.boolean, 240, .inl (fun _ => 0)) ∧ h9.2 57 = .inr (.int, 240, .inl (fun _ => 0)) ∧ h9.2 58 = .inr (.int, 240, .inl (fun _ => 0)) ∧ h9.2 59 = .inr (.int, 241, .inl (fun _ => 0))) := by
  refine ji_ent (by decide) rfl (Nat.le_of_ble_eq_true rfl) rfl ?_
  refine ji_aload_n dX3_init_0 rfl trivial ?_
  refine ji_objInit dX3_init_1 lX3_3 ji_wobj.1 ji_wobj.2 (Nat.le_of_ble_eq_true rfl) ?_
  refine ji_aload_n dX3_init_4 rfl trivial ?_
  refine ji_bipush dX3_init_5 rfl ?_
  refine ji_newI dX3_init_7 (by omega) (by omega) (by omega) ?_
  refine ji_putF (ci := 3) (k := 5) rfl dX3_init_9 lX3_9 (by decide) (hq) (by simp) (ji_fitA _ trivial) rfl rfl rfl ?_
  refine ji_aload_n dX3_init_12 rfl trivial ?_
  refine ji_sipush dX3_init_13 rfl ?_
  refine ji_newI dX3_init_16 (by omega) (by omega) (by omega) ?_
  refine ji_putF (ci := 3) (k := 7) rfl dX3_init_18 lX3_15 (by decide) (rfl) (by simp) (ji_fitA _ trivial) rfl rfl rfl ?_
  refine ji_aload_n dX3_init_21 rfl trivial ?_
  refine ji_sipush dX3_init_22 rfl ?_
  refine ji_newI dX3_init_25 (by omega) (by omega) (by omega) ?_
  refine ji_putF (ci := 3) (k := 8) rfl dX3_init_27 lX3_18 (by decide) (rfl) (by simp) (ji_fitA _ trivial) rfl rfl rfl ?_
  refine ji_aload_n dX3_init_30 rfl trivial ?_
  refine ji_sipush dX3_init_31 rfl ?_
  refine ji_newI dX3_init_34 (by omega) (by omega) (by omega) ?_
  refine ji_putF (ci := 3) (k := 9) rfl dX3_init_36 lX3_21 (by decide) (rfl) (by simp) (ji_fitA _ trivial) rfl rfl rfl ?_
  refine ji_aload_n dX3_init_39 rfl trivial ?_
  refine ji_sipush dX3_init_40 rfl ?_
  refine ji_newI dX3_init_43 (by omega) (by omega) (by omega) ?_
  refine ji_putF (ci := 3) (k := 10) rfl dX3_init_45 lX3_24 (by decide) (rfl) (by simp) (ji_fitA _ trivial) rfl rfl rfl ?_
  refine ji_aload_n dX3_init_48 rfl trivial ?_
  refine ji_sipush dX3_init_49 rfl ?_
  refine ji_newZ dX3_init_52 (by omega) (by omega) (by omega) ?_
  refine ji_putF (ci := 3) (k := 11) rfl dX3_init_54 lX3_27 (by decide) (rfl) (by simp) (ji_fitA _ trivial) rfl rfl rfl ?_
  refine ji_aload_n dX3_init_57 rfl trivial ?_
  refine ji_sipush dX3_init_58 rfl ?_
  refine ji_newI dX3_init_61 (by omega) (by omega) (by omega) ?_
  refine ji_putF (ci := 3) (k := 12) rfl dX3_init_63 lX3_31 (by decide) (rfl) (by simp) (ji_fitA _ trivial) rfl rfl rfl ?_
  refine ji_aload_n dX3_init_66 rfl trivial ?_
  refine ji_sipush dX3_init_67 rfl ?_
  refine ji_newI dX3_init_70 (by omega) (by omega) (by omega) ?_
  refine ji_putF (ci := 3) (k := 13) rfl dX3_init_72 lX3_34 (by decide) (rfl) (by simp) (ji_fitA _ trivial) rfl rfl rfl ?_
  refine ji_aload_n dX3_init_75 rfl trivial ?_
  refine ji_sipush dX3_init_76 rfl ?_
  refine ji_newI dX3_init_79 (by omega) (by omega) (by omega) ?_
  refine ji_putF (ci := 3) (k := 15) rfl dX3_init_81 lX3_37 (by decide) (rfl) (by simp) (ji_fitA _ trivial) rfl rfl rfl ?_
  refine ji_aload_n dX3_init_84 rfl trivial ?_
  refine ji_aload_n dX3_init_85 rfl trivial ?_
  refine ji_put (ci := 3) (k := 2) rfl dX3_init_86 lX3_40 (by decide) (rfl) (by simp) (ji_fitO _ trivial) rfl ?_
  refine ji_aload_n dX3_init_89 rfl trivial ?_
  refine ji_aload_n dX3_init_90 rfl trivial ?_
  refine ji_putF (ci := 3) (k := 0) rfl dX3_init_91 lX3_44 (by decide) (rfl) (by simp) (ji_fitA _ trivial) rfl rfl rfl ?_
  refine ji_aload_n dX3_init_94 rfl trivial ?_
  refine ji_aload_n dX3_init_95 rfl trivial ?_
  refine ji_putF (ci := 3) (k := 1) rfl dX3_init_96 lX3_48 (by decide) (rfl) (by simp) (ji_fitA _ trivial) rfl rfl rfl ?_
  exact ji_return dX3_init_99 rfl ⟨rfl, rfl, fun x hx => by
      dsimp only
      (repeat rw [va_up_ne _ _ (by omega)]),
    rfl, rfl, rfl, rfl, rfl, rfl, rfl, rfl, rfl, rfl⟩

set_option maxRecDepth 100000 in
theorem c_History17 {f : Nat → ji_C} (hq : f 17 = .inl (1, [.null, .null, .int (jI 0)])) : JM G (d + 2) mX1_init [.ref 17] (18, f) 22 200 (fun r h9 => r = .inl none ∧ h9.1 = 40 ∧ (∀ x, x < 17 → h9.2 x = f x) ∧ h9.2 17 = .inl (1, [.ref 18, .ref 19, .int (jI 0)]) ∧ h9.2 18 = .inr (.object RX0, 4, .inr (.inr (fun _ => none))) ∧ h9.2 19 = .inr (.object RX4, 4, .inr (.inr (va_up (va_up (va_up (va_up (fun _ => none) 0 (some 20)) 1 (some 25)) 2 (some 30)) 3 (some 35)))) ∧ h9.2 20 = .inl (4, [.int (jI 0), .int (jI 0), .ref 21, .int (jI 0), .ref 22, .ref 23, .ref 24]) ∧ h9.2 21 = .inr (.int, 5, .inl (fun _ => 0)) ∧ h9.2 22 = .inr (.int, 12, .inl (fun _ => 0)) ∧ h9.2 23 = .inr (.int, 12, .inl (fun _ => 0)) ∧ h9.2 24 = .inr (.int, 12, .inl (fun _ => 0)) ∧ h9.2 25 = .inl (4, [.int (jI 0), .int (jI 0), .ref 26, .int (jI 0), .ref 27, .ref 28, .ref 29]) ∧ h9.2 26 = .inr (.int, 5, .inl (fun _ => 0)) ∧ h9.2 27 = .inr (.int, 12, .inl (fun _ => 0)) ∧ h9.2 28 = .inr (.int, 12, .inl (fun _ => 0)) ∧ h9.2 29 = .inr (.int, 12, .inl (fun _ => 0)) ∧ h9.2 30 = .inl (4, [.int (jI 0), .int (jI 0), .ref 31, .int (jI 0), .ref 32, .ref 33, .ref 34]) ∧ h9.2 31 = .inr (.int, 5, .inl (fun _ => 0)) ∧ h9.2 32 = .inr (.int, 12, .inl (fun _ => 0)) ∧ h9.2 33 = .inr (.int, 12, .inl (fun _ => 0)) ∧ h9.2 34 = .inr (.int, 12, .inl (fun _ => 0)) ∧ h9.2 35 = .inl (4, [.int (jI 0), .int (jI 0), .ref 36, .int (jI 0), .ref 37, .ref 38, .ref 39]) ∧ h9.2 36 = .inr (.int, 5, .inl (fun _ => 0)) ∧ h9.2 37 = .inr (.int, 12, .inl (fun _ => 0)) ∧ h9.2 38 = .inr (.int, 12, .inl (fun _ => 0)) ∧ h9.2 39 = .inr (.int, 12, .inl (fun _ => 0))) := by
  refine ji_ent (by decide) rfl (Nat.le_of_ble_eq_true rfl) rfl ?_
  refine ji_aload_n dX1_init_0 rfl trivial ?_
  refine ji_objInit dX1_init_1 lX1_3 ji_wobj.1 ji_wobj.2 (Nat.le_of_ble_eq_true rfl) ?_
  refine ji_aload_n dX1_init_4 rfl trivial ?_
  refine ji_iconst dX1_init_5 ?_
  refine ji_newA dX1_init_6 lX1_9 (ji_ao (by decide)) (fun cy => rfl) (by omega) (by omega) (by omega) ?_
  refine ji_putF (ci := 1) (k := 0) rfl dX1_init_9 lX1_11 (by decide) (hq) (by simp) (ji_fitA _ trivial) rfl rfl rfl ?_
  refine ji_aload_n dX1_init_12 rfl trivial ?_
  refine ji_iconst dX1_init_13 ?_
  refine ji_newA dX1_init_14 lX1_17 (ji_ao (by decide)) (fun cy => rfl) (by omega) (by omega) (by omega) ?_
  refine ji_putF (ci := 1) (k := 1) rfl dX1_init_17 lX1_19 (by decide) (rfl) (by simp) (ji_fitA _ trivial) rfl rfl rfl ?_
  refine ji_iconst dX1_init_20 ?_
  refine ji_istore_n dX1_init_21 (by decide) rfl ?_
  refine ji_iload_n dX1_init_22 rfl ?_
  refine ji_iconst dX1_init_23 ?_
  refine ji_icmp_ge (tgt := 46) dX1_init_24 rfl (by omega) (by omega) (fun q => absurd q (by omega)) (fun _ => ?_)
  refine ji_aload_n dX1_init_27 rfl trivial ?_
  refine ji_get (ci := 1) (k := 1) rfl dX1_init_28 lX1_19 (by decide) (rfl) rfl ?_
  refine ji_iload_n dX1_init_31 rfl ?_
  refine ji_new (ci := 4) (fs := [.int (jI 0), .int (jI 0), .null, .int (jI 0), .null, .null, .null]) rfl dX1_init_32 lX1_17 (fun G ad => by simp [ji_vs, ji_v]) (by decide) (by omega) (by omega) ?_
  refine ji_dup dX1_init_35 rfl ?_
  refine ji_callIN dX1_init_36 (c_Marks20 (rfl)) rfl wX4_init rfl rfl iX4_init (by decide) rfl (Nat.le_of_ble_eq_true rfl) rfl (by omega) (by omega) (fun r h0 hq0 => ?_) (fun E h0 hq0 => by cases hq0.1)
  obtain ⟨er0, en0, fr0, c0_20, c0_21, c0_22, c0_23, c0_24⟩ := hq0
  cases er0
  obtain ⟨n0, g0⟩ := h0
  cases (show n0 = 25 from en0)
  refine ji_aastore (C := RX4) (T := TX4) (N := 7) dX1_init_39 ((fr0 19 (by omega)).trans (rfl)) (fun cy => rfl) (by omega) rfl (c0_20) ?_
  refine ji_iinc dX1_init_40 (by decide) rfl rfl ?_
  refine ji_goto (tgt := 22) dX1_init_43 rfl ?_
  refine ji_iload_n dX1_init_22 rfl ?_
  refine ji_iconst dX1_init_23 ?_
  refine ji_icmp_ge (tgt := 46) dX1_init_24 rfl (by omega) (by omega) (fun q => absurd q (by omega)) (fun _ => ?_)
  refine ji_aload_n dX1_init_27 rfl trivial ?_
  refine ji_get (ci := 1) (k := 1) rfl dX1_init_28 lX1_19 (by decide) ((fr0 17 (by omega)).trans (rfl)) rfl ?_
  refine ji_iload_n dX1_init_31 rfl ?_
  refine ji_new (ci := 4) (fs := [.int (jI 0), .int (jI 0), .null, .int (jI 0), .null, .null, .null]) rfl dX1_init_32 lX1_17 (fun G ad => by simp [ji_vs, ji_v]) (by decide) (by omega) (by omega) ?_
  refine ji_dup dX1_init_35 rfl ?_
  refine ji_callIN dX1_init_36 (c_Marks25 (rfl)) rfl wX4_init rfl rfl iX4_init (by decide) rfl (Nat.le_of_ble_eq_true rfl) rfl (by omega) (by omega) (fun r h1 hq1 => ?_) (fun E h1 hq1 => by cases hq1.1)
  obtain ⟨er1, en1, fr1, c1_25, c1_26, c1_27, c1_28, c1_29⟩ := hq1
  cases er1
  obtain ⟨n1, g1⟩ := h1
  cases (show n1 = 30 from en1)
  refine ji_aastore (C := RX4) (T := TX4) (N := 7) dX1_init_39 ((fr1 19 (by omega)).trans (rfl)) (fun cy => rfl) (by omega) rfl (c1_25) ?_
  refine ji_iinc dX1_init_40 (by decide) rfl rfl ?_
  refine ji_goto (tgt := 22) dX1_init_43 rfl ?_
  refine ji_iload_n dX1_init_22 rfl ?_
  refine ji_iconst dX1_init_23 ?_
  refine ji_icmp_ge (tgt := 46) dX1_init_24 rfl (by omega) (by omega) (fun q => absurd q (by omega)) (fun _ => ?_)
  refine ji_aload_n dX1_init_27 rfl trivial ?_
  refine ji_get (ci := 1) (k := 1) rfl dX1_init_28 lX1_19 (by decide) ((fr1 17 (by omega)).trans ((fr0 17 (by omega)).trans (rfl))) rfl ?_
  refine ji_iload_n dX1_init_31 rfl ?_
  refine ji_new (ci := 4) (fs := [.int (jI 0), .int (jI 0), .null, .int (jI 0), .null, .null, .null]) rfl dX1_init_32 lX1_17 (fun G ad => by simp [ji_vs, ji_v]) (by decide) (by omega) (by omega) ?_
  refine ji_dup dX1_init_35 rfl ?_
  refine ji_callIN dX1_init_36 (c_Marks30 (rfl)) rfl wX4_init rfl rfl iX4_init (by decide) rfl (Nat.le_of_ble_eq_true rfl) rfl (by omega) (by omega) (fun r h2 hq2 => ?_) (fun E h2 hq2 => by cases hq2.1)
  obtain ⟨er2, en2, fr2, c2_30, c2_31, c2_32, c2_33, c2_34⟩ := hq2
  cases er2
  obtain ⟨n2, g2⟩ := h2
  cases (show n2 = 35 from en2)
  refine ji_aastore (C := RX4) (T := TX4) (N := 7) dX1_init_39 ((fr2 19 (by omega)).trans (rfl)) (fun cy => rfl) (by omega) rfl (c2_30) ?_
  refine ji_iinc dX1_init_40 (by decide) rfl rfl ?_
  refine ji_goto (tgt := 22) dX1_init_43 rfl ?_
  refine ji_iload_n dX1_init_22 rfl ?_
  refine ji_iconst dX1_init_23 ?_
  refine ji_icmp_ge (tgt := 46) dX1_init_24 rfl (by omega) (by omega) (fun q => absurd q (by omega)) (fun _ => ?_)
  refine ji_aload_n dX1_init_27 rfl trivial ?_
  refine ji_get (ci := 1) (k := 1) rfl dX1_init_28 lX1_19 (by decide) ((fr2 17 (by omega)).trans ((fr1 17 (by omega)).trans ((fr0 17 (by omega)).trans (rfl)))) rfl ?_
  refine ji_iload_n dX1_init_31 rfl ?_
  refine ji_new (ci := 4) (fs := [.int (jI 0), .int (jI 0), .null, .int (jI 0), .null, .null, .null]) rfl dX1_init_32 lX1_17 (fun G ad => by simp [ji_vs, ji_v]) (by decide) (by omega) (by omega) ?_
  refine ji_dup dX1_init_35 rfl ?_
  refine ji_callIN dX1_init_36 (c_Marks35 (rfl)) rfl wX4_init rfl rfl iX4_init (by decide) rfl (Nat.le_of_ble_eq_true rfl) rfl (by omega) (by omega) (fun r h3 hq3 => ?_) (fun E h3 hq3 => by cases hq3.1)
  obtain ⟨er3, en3, fr3, c3_35, c3_36, c3_37, c3_38, c3_39⟩ := hq3
  cases er3
  obtain ⟨n3, g3⟩ := h3
  cases (show n3 = 40 from en3)
  refine ji_aastore (C := RX4) (T := TX4) (N := 7) dX1_init_39 ((fr3 19 (by omega)).trans (rfl)) (fun cy => rfl) (by omega) rfl (c3_35) ?_
  refine ji_iinc dX1_init_40 (by decide) rfl rfl ?_
  refine ji_goto (tgt := 22) dX1_init_43 rfl ?_
  refine ji_iload_n dX1_init_22 rfl ?_
  refine ji_iconst dX1_init_23 ?_
  refine ji_icmp_ge (tgt := 46) dX1_init_24 rfl (by omega) (by omega) (fun _ => ?_) (fun q => absurd (by omega) q)
  exact ji_return dX1_init_46 rfl ⟨rfl, rfl, fun x hx => by
      dsimp only
      (repeat rw [va_up_ne _ _ (by omega)])
      rw [fr3 x (by omega)]
      (repeat rw [va_up_ne _ _ (by omega)])
      rw [fr2 x (by omega)]
      (repeat rw [va_up_ne _ _ (by omega)])
      rw [fr1 x (by omega)]
      (repeat rw [va_up_ne _ _ (by omega)])
      rw [fr0 x (by omega)]
      (repeat rw [va_up_ne _ _ (by omega)]),
    (fr3 17 (by omega)).trans ((fr2 17 (by omega)).trans ((fr1 17 (by omega)).trans ((fr0 17 (by omega)).trans (rfl)))), (fr3 18 (by omega)).trans ((fr2 18 (by omega)).trans ((fr1 18 (by omega)).trans ((fr0 18 (by omega)).trans (rfl)))), rfl, (fr3 20 (by omega)).trans ((fr2 20 (by omega)).trans ((fr1 20 (by omega)).trans (c0_20))), (fr3 21 (by omega)).trans ((fr2 21 (by omega)).trans ((fr1 21 (by omega)).trans (c0_21))), (fr3 22 (by omega)).trans ((fr2 22 (by omega)).trans ((fr1 22 (by omega)).trans (c0_22))), (fr3 23 (by omega)).trans ((fr2 23 (by omega)).trans ((fr1 23 (by omega)).trans (c0_23))), (fr3 24 (by omega)).trans ((fr2 24 (by omega)).trans ((fr1 24 (by omega)).trans (c0_24))), (fr3 25 (by omega)).trans ((fr2 25 (by omega)).trans (c1_25)), (fr3 26 (by omega)).trans ((fr2 26 (by omega)).trans (c1_26)), (fr3 27 (by omega)).trans ((fr2 27 (by omega)).trans (c1_27)), (fr3 28 (by omega)).trans ((fr2 28 (by omega)).trans (c1_28)), (fr3 29 (by omega)).trans ((fr2 29 (by omega)).trans (c1_29)), (fr3 30 (by omega)).trans (c2_30), (fr3 31 (by omega)).trans (c2_31), (fr3 32 (by omega)).trans (c2_32), (fr3 33 (by omega)).trans (c2_33), (fr3 34 (by omega)).trans (c2_34), c3_35, c3_36, c3_37, c3_38, c3_39⟩

set_option maxRecDepth 100000 in
theorem c_BookPager0 {f : Nat → ji_C} (hq : f 0 = .inl (7, [.null, .null, .null, .int (jI 0), .int (jI 0), .null, .null, .null, .null, .null, .int (jI 0)])) : JM G (d + 3) mX7_init [.ref 0] (1, f) 59 4283 (fun r h9 => r = .inl none ∧ h9.1 = 60 ∧ (∀ x, x < 0 → h9.2 x = f x) ∧ h9.2 0 = .inl (7, [.ref 1, .ref 4, .ref 5, .int (jI 30), .int (jI 8), .ref 6, .ref 12, .ref 17, .ref 40, .ref 50, .int (jI 1)]) ∧ h9.2 1 = .inl (2, [.ref 2, .ref 3, .int (jI 0)]) ∧ h9.2 2 = .inr (.char, 100, .inl (fun _ => 0)) ∧ h9.2 3 = .inl (5, [.int (jI 0), .int (jI 0), .int (jI 0), .int (jI 0), .int (jI 0), .int (jI 0), .int (jI 0)]) ∧ h9.2 4 = .inr (.object RX6, 10, .inr (.inr (fun _ => none))) ∧ h9.2 5 = .inr (.int, 5, .inl (va_up (va_up (va_up (va_up (va_up (fun _ => 0) 0 2) 1 4) 2 0) 3 0) 4 0)) ∧ h9.2 6 = .inl (0, [.ref 7, .ref 10, .ref 11]) ∧ h9.2 7 = .inl (6, [.ref 8, .ref 9]) ∧ h9.2 8 = .inr (.char, 1, .inl (va_up (fun _ => 0) 0 97)) ∧ h9.2 9 = .inr (.int, 2, .inl (wd_starts 1 (va_up (fun _ => 0) 0 97))) ∧ h9.2 10 = .inr (.int, 1, .inl (va_up (fun _ => 0) 0 0)) ∧ h9.2 11 = .inr (.int, 2, .inl (va_up (va_up (fun _ => 0) 0 0) 1 1)) ∧ h9.2 12 = .inl (4, [.int (jI 0), .int (jI 0), .ref 13, .int (jI 0), .ref 14, .ref 15, .ref 16]) ∧ h9.2 13 = .inr (.int, 5, .inl (fun _ => 0)) ∧ h9.2 14 = .inr (.int, 12, .inl (fun _ => 0)) ∧ h9.2 15 = .inr (.int, 12, .inl (fun _ => 0)) ∧ h9.2 16 = .inr (.int, 12, .inl (fun _ => 0)) ∧ h9.2 17 = .inl (1, [.ref 18, .ref 19, .int (jI 0)]) ∧ h9.2 18 = .inr (.object RX0, 4, .inr (.inr (fun _ => none))) ∧ h9.2 19 = .inr (.object RX4, 4, .inr (.inr (va_up (va_up (va_up (va_up (fun _ => none) 0 (some 20)) 1 (some 25)) 2 (some 30)) 3 (some 35)))) ∧ h9.2 20 = .inl (4, [.int (jI 0), .int (jI 0), .ref 21, .int (jI 0), .ref 22, .ref 23, .ref 24]) ∧ h9.2 21 = .inr (.int, 5, .inl (fun _ => 0)) ∧ h9.2 22 = .inr (.int, 12, .inl (fun _ => 0)) ∧ h9.2 23 = .inr (.int, 12, .inl (fun _ => 0)) ∧ h9.2 24 = .inr (.int, 12, .inl (fun _ => 0)) ∧ h9.2 25 = .inl (4, [.int (jI 0), .int (jI 0), .ref 26, .int (jI 0), .ref 27, .ref 28, .ref 29]) ∧ h9.2 26 = .inr (.int, 5, .inl (fun _ => 0)) ∧ h9.2 27 = .inr (.int, 12, .inl (fun _ => 0)) ∧ h9.2 28 = .inr (.int, 12, .inl (fun _ => 0)) ∧ h9.2 29 = .inr (.int, 12, .inl (fun _ => 0)) ∧ h9.2 30 = .inl (4, [.int (jI 0), .int (jI 0), .ref 31, .int (jI 0), .ref 32, .ref 33, .ref 34]) ∧ h9.2 31 = .inr (.int, 5, .inl (fun _ => 0)) ∧ h9.2 32 = .inr (.int, 12, .inl (fun _ => 0)) ∧ h9.2 33 = .inr (.int, 12, .inl (fun _ => 0)) ∧ h9.2 34 = .inr (.int, 12, .inl (fun _ => 0)) ∧ h9.2 35 = .inl (4, [.int (jI 0), .int (jI 0), .ref 36, .int (jI 0), .ref 37, .ref 38, .ref 39]) ∧ h9.2 36 = .inr (.int, 5, .inl (fun _ => 0)) ∧ h9.2 37 = .inr (.int, 12, .inl (fun _ => 0)) ∧ h9.2 38 = .inr (.int, 12, .inl (fun _ => 0)) ∧ h9.2 39 = .inr (.int, 12, .inl (fun _ => 0)) ∧ h9.2 40 = .inl (3, [.ref 4, .ref 5, .ref 6, .int (jI 0), .int (jI 0), .ref 41, .int (jI 0), .ref 42, .ref 43, .ref 44, .ref 45, .ref 46, .ref 47, .ref 48, .int (jI 0), .ref 49]) ∧ h9.2 41 = .inr (.int, 10, .inl (fun _ => 0)) ∧ h9.2 42 = .inr (.int, 241, .inl (fun _ => 0)) ∧ h9.2 43 = .inr (.int, 240, .inl (fun _ => 0)) ∧ h9.2 44 = .inr (.int, 240, .inl (fun _ => 0)) ∧ h9.2 45 = .inr (.int, 240, .inl (fun _ => 0)) ∧ h9.2 46 = .inr (.boolean, 240, .inl (fun _ => 0)) ∧ h9.2 47 = .inr (.int, 240, .inl (fun _ => 0)) ∧ h9.2 48 = .inr (.int, 240, .inl (fun _ => 0)) ∧ h9.2 49 = .inr (.int, 241, .inl (fun _ => 0)) ∧ h9.2 50 = .inl (3, [.ref 4, .ref 5, .ref 6, .int (jI 0), .int (jI 0), .ref 51, .int (jI 0), .ref 52, .ref 53, .ref 54, .ref 55, .ref 56, .ref 57, .ref 58, .int (jI 0), .ref 59]) ∧ h9.2 51 = .inr (.int, 10, .inl (fun _ => 0)) ∧ h9.2 52 = .inr (.int, 241, .inl (fun _ => 0)) ∧ h9.2 53 = .inr (.int, 240, .inl (fun _ => 0)) ∧ h9.2 54 = .inr (.int, 240, .inl (fun _ => 0)) ∧ h9.2 55 = .inr (.int, 240, .inl (fun _ => 0)) ∧ h9.2 56 = .inr (.boolean, 240, .inl (fun _ => 0)) ∧ h9.2 57 = .inr (.int, 240, .inl (fun _ => 0)) ∧ h9.2 58 = .inr (.int, 240, .inl (fun _ => 0)) ∧ h9.2 59 = .inr (.int, 241, .inl (fun _ => 0))) := by
  refine ji_ent (by decide) rfl (Nat.le_of_ble_eq_true rfl) rfl ?_
  refine ji_aload_n dX7_init_0 rfl trivial ?_
  refine ji_objInit dX7_init_1 lX7_3 ji_wobj.1 ji_wobj.2 (Nat.le_of_ble_eq_true rfl) ?_
  refine ji_aload_n dX7_init_4 rfl trivial ?_
  refine ji_new (ci := 2) (fs := [.null, .null, .int (jI 0)]) rfl dX7_init_5 lX7_9 (fun G ad => by simp [ji_vs, ji_v]) (by decide) (by omega) (by omega) ?_
  refine ji_dup dX7_init_8 rfl ?_
  refine ji_callIN dX7_init_9 (c_Input1 (rfl)) rfl wX2_init rfl rfl iX2_init (by decide) rfl (Nat.le_of_ble_eq_true rfl) rfl (by omega) (by omega) (fun r h0 hq0 => ?_) (fun E h0 hq0 => by cases hq0.1)
  obtain ⟨er0, en0, fr0, c0_1, c0_2, c0_3⟩ := hq0
  cases er0
  obtain ⟨n0, g0⟩ := h0
  cases (show n0 = 4 from en0)
  refine ji_putF (ci := 7) (k := 0) rfl dX7_init_12 lX7_12 (by decide) ((fr0 0 (by omega)).trans (hq)) (by simp) (ji_fitO _ trivial) rfl rfl rfl ?_
  refine ji_aload_n dX7_init_15 rfl trivial ?_
  refine ji_bipush dX7_init_16 rfl ?_
  refine ji_newA dX7_init_18 lX7_16 (ji_ao (by decide)) (fun cy => rfl) (by omega) (by omega) (by omega) ?_
  refine ji_putF (ci := 7) (k := 1) rfl dX7_init_21 lX7_18 (by decide) (rfl) (by simp) (ji_fitA _ trivial) rfl rfl rfl ?_
  refine ji_aload_n dX7_init_24 rfl trivial ?_
  refine ji_iconst dX7_init_25 ?_
  refine ji_newI dX7_init_26 (by omega) (by omega) (by omega) ?_
  refine ji_dup dX7_init_28 rfl ?_
  refine ji_iconst dX7_init_29 ?_
  refine ji_iconst dX7_init_30 ?_
  refine ji_iastore dX7_init_31 (rfl) (by omega) ?_
  refine ji_dup dX7_init_32 rfl ?_
  refine ji_iconst dX7_init_33 ?_
  refine ji_iconst dX7_init_34 ?_
  refine ji_iastore dX7_init_35 (rfl) (by omega) ?_
  refine ji_dup dX7_init_36 rfl ?_
  refine ji_iconst dX7_init_37 ?_
  refine ji_iconst dX7_init_38 ?_
  refine ji_iastore dX7_init_39 (rfl) (by omega) ?_
  refine ji_dup dX7_init_40 rfl ?_
  refine ji_iconst dX7_init_41 ?_
  refine ji_iconst dX7_init_42 ?_
  refine ji_iastore dX7_init_43 (rfl) (by omega) ?_
  refine ji_dup dX7_init_44 rfl ?_
  refine ji_iconst dX7_init_45 ?_
  refine ji_iconst dX7_init_46 ?_
  refine ji_iastore dX7_init_47 (rfl) (by omega) ?_
  refine ji_putF (ci := 7) (k := 2) rfl dX7_init_48 lX7_22 (by decide) (rfl) (by simp) (ji_fitA _ trivial) rfl rfl rfl ?_
  refine ji_aload_n dX7_init_51 rfl trivial ?_
  refine ji_bipush dX7_init_52 rfl ?_
  refine ji_put (ci := 7) (k := 3) rfl dX7_init_54 lX7_26 (by decide) (rfl) (by simp) (ji_fitI _) rfl ?_
  refine ji_aload_n dX7_init_57 rfl trivial ?_
  refine ji_bipush dX7_init_58 rfl ?_
  refine ji_put (ci := 7) (k := 4) rfl dX7_init_60 lX7_30 (by decide) (rfl) (by simp) (ji_fitI _) rfl ?_
  refine ji_aload_n dX7_init_63 rfl trivial ?_
  refine ji_new (ci := 0) (fs := [.null, .null, .null]) rfl dX7_init_64 lX7_33 (fun G ad => by simp [ji_vs, ji_v]) (by decide) (by omega) (by omega) ?_
  refine ji_dup dX7_init_67 rfl ?_
  refine ji_new (ci := 6) (fs := [.null, .null]) rfl dX7_init_68 lX7_16 (fun G ad => by simp [ji_vs, ji_v]) (by decide) (by omega) (by omega) ?_
  refine ji_dup dX7_init_71 rfl ?_
  refine ji_iconst dX7_init_72 ?_
  refine ji_newC dX7_init_73 (by omega) (by omega) (by omega) ?_
  refine ji_dup dX7_init_75 rfl ?_
  refine ji_iconst dX7_init_76 ?_
  refine ji_bipush dX7_init_77 rfl ?_
  refine ji_castore dX7_init_79 (rfl) (by omega) (by omega) ?_
  refine ji_callI dX7_init_80 (k_Words_init (v0 := .null) (v1 := .null) (m := 1) (tx := va_up (fun _ => 0) 0 97) (rfl) (rfl) (by show 7 < 9; omega) (by show 8 < 9; omega) (by omega) tx0_b) rfl wX6_init rfl rfl iX6_init lX7_35 rfl (Nat.le_of_ble_eq_true rfl) rfl (by omega) (by rw [tx0_c]; omega) (fun r h1 hq1 => ?_) (fun E h1 hq1 => by cases hq1.1)
  obtain ⟨er1, eh1⟩ := hq1
  cases er1
  subst eh1
  refine ji_iconst dX7_init_83 ?_
  refine ji_newI dX7_init_84 (by omega) (by omega) (by omega) ?_
  refine ji_dup dX7_init_86 rfl ?_
  refine ji_iconst dX7_init_87 ?_
  refine ji_iconst dX7_init_88 ?_
  refine ji_iastore dX7_init_89 (rfl) (by omega) ?_
  refine ji_iconst dX7_init_90 ?_
  refine ji_newI dX7_init_91 (by omega) (by omega) (by omega) ?_
  refine ji_dup dX7_init_93 rfl ?_
  refine ji_iconst dX7_init_94 ?_
  refine ji_iconst dX7_init_95 ?_
  refine ji_iastore dX7_init_96 (rfl) (by omega) ?_
  refine ji_dup dX7_init_97 rfl ?_
  refine ji_iconst dX7_init_98 ?_
  refine ji_iconst dX7_init_99 ?_
  refine ji_iastore dX7_init_100 (rfl) (by omega) ?_
  refine ji_callI dX7_init_101 (k_Book_init (v0 := .null) (v1 := .null) (v2 := .null) (rfl)) rfl wX0_init rfl rfl iX0_init lX7_38 rfl (Nat.le_of_ble_eq_true rfl) rfl (by omega) (by omega) (fun r h2 hq2 => ?_) (fun E h2 hq2 => by cases hq2.1)
  obtain ⟨er2, eh2⟩ := hq2
  cases er2
  subst eh2
  refine ji_put (ci := 7) (k := 5) rfl dX7_init_104 lX7_41 (by decide) (rfl) (by simp) (ji_fitO _ trivial) rfl ?_
  refine ji_aload_n dX7_init_107 rfl trivial ?_
  refine ji_new (ci := 4) (fs := [.int (jI 0), .int (jI 0), .null, .int (jI 0), .null, .null, .null]) rfl dX7_init_108 lX7_45 (fun G ad => by simp [ji_vs, ji_v]) (by decide) (by omega) (by omega) ?_
  refine ji_dup dX7_init_111 rfl ?_
  refine ji_callIN dX7_init_112 (c_Marks12 (rfl)) rfl wX4_init rfl rfl iX4_init (by decide) rfl (Nat.le_of_ble_eq_true rfl) rfl (by omega) (by omega) (fun r h3 hq3 => ?_) (fun E h3 hq3 => by cases hq3.1)
  obtain ⟨er3, en3, fr3, c3_12, c3_13, c3_14, c3_15, c3_16⟩ := hq3
  cases er3
  obtain ⟨n3, g3⟩ := h3
  cases (show n3 = 17 from en3)
  refine ji_putF (ci := 7) (k := 6) rfl dX7_init_115 lX7_48 (by decide) ((fr3 0 (by omega)).trans (rfl)) (by simp) (ji_fitO _ trivial) rfl rfl rfl ?_
  refine ji_aload_n dX7_init_118 rfl trivial ?_
  refine ji_new (ci := 1) (fs := [.null, .null, .int (jI 0)]) rfl dX7_init_119 lX7_52 (fun G ad => by simp [ji_vs, ji_v]) (by decide) (by omega) (by omega) ?_
  refine ji_dup dX7_init_122 rfl ?_
  refine ji_callI dX7_init_123 (c_History17 (rfl)) rfl wX1_init rfl rfl iX1_init lX7_54 rfl (Nat.le_of_ble_eq_true rfl) rfl (by omega) (by omega) (fun r h4 hq4 => ?_) (fun E h4 hq4 => by cases hq4.1)
  obtain ⟨er4, en4, fr4, c4_17, c4_18, c4_19, c4_20, c4_21, c4_22, c4_23, c4_24, c4_25, c4_26, c4_27, c4_28, c4_29, c4_30, c4_31, c4_32, c4_33, c4_34, c4_35, c4_36, c4_37, c4_38, c4_39⟩ := hq4
  cases er4
  obtain ⟨n4, g4⟩ := h4
  cases (show n4 = 40 from en4)
  refine ji_putF (ci := 7) (k := 7) rfl dX7_init_126 lX7_55 (by decide) ((fr4 0 (by omega)).trans (rfl)) (by simp) (ji_fitO _ trivial) rfl rfl rfl ?_
  refine ji_aload_n dX7_init_129 rfl trivial ?_
  refine ji_new (ci := 3) (fs := [.null, .null, .null, .int (jI 0), .int (jI 0), .null, .int (jI 0), .null, .null, .null, .null, .null, .null, .null, .int (jI 0), .null]) rfl dX7_init_130 lX7_59 (fun G ad => by simp [ji_vs, ji_v]) (by decide) (by omega) (by omega) ?_
  refine ji_dup dX7_init_133 rfl ?_
  refine ji_aload_n dX7_init_134 rfl trivial ?_
  refine ji_get (ci := 7) (k := 5) rfl dX7_init_135 lX7_41 (by decide) (rfl) rfl ?_
  refine ji_aload_n dX7_init_138 rfl trivial ?_
  refine ji_get (ci := 7) (k := 1) rfl dX7_init_139 lX7_18 (by decide) (rfl) rfl ?_
  refine ji_aload_n dX7_init_142 rfl trivial ?_
  refine ji_get (ci := 7) (k := 2) rfl dX7_init_143 lX7_22 (by decide) (rfl) rfl ?_
  refine ji_callI dX7_init_146 (c_Layout40 (rfl)) rfl wX3_init rfl rfl iX3_init lX7_61 rfl (Nat.le_of_ble_eq_true rfl) rfl (by omega) (by omega) (fun r h5 hq5 => ?_) (fun E h5 hq5 => by cases hq5.1)
  obtain ⟨er5, en5, fr5, c5_40, c5_41, c5_42, c5_43, c5_44, c5_45, c5_46, c5_47, c5_48, c5_49⟩ := hq5
  cases er5
  obtain ⟨n5, g5⟩ := h5
  cases (show n5 = 50 from en5)
  refine ji_putF (ci := 7) (k := 8) rfl dX7_init_149 lX7_64 (by decide) ((fr5 0 (by omega)).trans (rfl)) (by simp) (ji_fitO _ trivial) rfl rfl rfl ?_
  refine ji_aload_n dX7_init_152 rfl trivial ?_
  refine ji_new (ci := 3) (fs := [.null, .null, .null, .int (jI 0), .int (jI 0), .null, .int (jI 0), .null, .null, .null, .null, .null, .null, .null, .int (jI 0), .null]) rfl dX7_init_153 lX7_59 (fun G ad => by simp [ji_vs, ji_v]) (by decide) (by omega) (by omega) ?_
  refine ji_dup dX7_init_156 rfl ?_
  refine ji_aload_n dX7_init_157 rfl trivial ?_
  refine ji_get (ci := 7) (k := 5) rfl dX7_init_158 lX7_41 (by decide) (rfl) rfl ?_
  refine ji_aload_n dX7_init_161 rfl trivial ?_
  refine ji_get (ci := 7) (k := 1) rfl dX7_init_162 lX7_18 (by decide) (rfl) rfl ?_
  refine ji_aload_n dX7_init_165 rfl trivial ?_
  refine ji_get (ci := 7) (k := 2) rfl dX7_init_166 lX7_22 (by decide) (rfl) rfl ?_
  refine ji_callI dX7_init_169 (c_Layout50 (rfl)) rfl wX3_init rfl rfl iX3_init lX7_61 rfl (Nat.le_of_ble_eq_true rfl) rfl (by omega) (by omega) (fun r h6 hq6 => ?_) (fun E h6 hq6 => by cases hq6.1)
  obtain ⟨er6, en6, fr6, c6_50, c6_51, c6_52, c6_53, c6_54, c6_55, c6_56, c6_57, c6_58, c6_59⟩ := hq6
  cases er6
  obtain ⟨n6, g6⟩ := h6
  cases (show n6 = 60 from en6)
  refine ji_putF (ci := 7) (k := 9) rfl dX7_init_172 lX7_68 (by decide) ((fr6 0 (by omega)).trans (rfl)) (by simp) (ji_fitO _ trivial) rfl rfl rfl ?_
  refine ji_aload_n dX7_init_175 rfl trivial ?_
  refine ji_iconst dX7_init_176 ?_
  refine ji_put (ci := 7) (k := 10) rfl dX7_init_177 lX7_71 (by decide) (rfl) (by simp) (ji_fitZ (by omega)) rfl ?_
  exact ji_return dX7_init_180 rfl ⟨rfl, rfl, fun x hx => by
      dsimp only
      (repeat rw [va_up_ne _ _ (by omega)])
      rw [fr6 x (by omega)]
      (repeat rw [va_up_ne _ _ (by omega)])
      rw [fr5 x (by omega)]
      (repeat rw [va_up_ne _ _ (by omega)])
      rw [fr4 x (by omega)]
      (repeat rw [va_up_ne _ _ (by omega)])
      rw [fr3 x (by omega)]
      (repeat rw [va_up_ne _ _ (by omega)])
      rw [fr0 x (by omega)]
      (repeat rw [va_up_ne _ _ (by omega)]),
    rfl, (fr6 1 (by omega)).trans ((fr5 1 (by omega)).trans ((fr4 1 (by omega)).trans ((fr3 1 (by omega)).trans (c0_1)))), (fr6 2 (by omega)).trans ((fr5 2 (by omega)).trans ((fr4 2 (by omega)).trans ((fr3 2 (by omega)).trans (c0_2)))), (fr6 3 (by omega)).trans ((fr5 3 (by omega)).trans ((fr4 3 (by omega)).trans ((fr3 3 (by omega)).trans (c0_3)))), (fr6 4 (by omega)).trans ((fr5 4 (by omega)).trans ((fr4 4 (by omega)).trans ((fr3 4 (by omega)).trans (rfl)))), (fr6 5 (by omega)).trans ((fr5 5 (by omega)).trans ((fr4 5 (by omega)).trans ((fr3 5 (by omega)).trans (rfl)))), (fr6 6 (by omega)).trans ((fr5 6 (by omega)).trans ((fr4 6 (by omega)).trans ((fr3 6 (by omega)).trans (rfl)))), (fr6 7 (by omega)).trans ((fr5 7 (by omega)).trans ((fr4 7 (by omega)).trans ((fr3 7 (by omega)).trans (rfl)))), (fr6 8 (by omega)).trans ((fr5 8 (by omega)).trans ((fr4 8 (by omega)).trans ((fr3 8 (by omega)).trans (rfl)))), (fr6 9 (by omega)).trans ((fr5 9 (by omega)).trans ((fr4 9 (by omega)).trans ((fr3 9 (by omega)).trans (rfl)))), (fr6 10 (by omega)).trans ((fr5 10 (by omega)).trans ((fr4 10 (by omega)).trans ((fr3 10 (by omega)).trans (rfl)))), (fr6 11 (by omega)).trans ((fr5 11 (by omega)).trans ((fr4 11 (by omega)).trans ((fr3 11 (by omega)).trans (rfl)))), (fr6 12 (by omega)).trans ((fr5 12 (by omega)).trans ((fr4 12 (by omega)).trans (c3_12))), (fr6 13 (by omega)).trans ((fr5 13 (by omega)).trans ((fr4 13 (by omega)).trans (c3_13))), (fr6 14 (by omega)).trans ((fr5 14 (by omega)).trans ((fr4 14 (by omega)).trans (c3_14))), (fr6 15 (by omega)).trans ((fr5 15 (by omega)).trans ((fr4 15 (by omega)).trans (c3_15))), (fr6 16 (by omega)).trans ((fr5 16 (by omega)).trans ((fr4 16 (by omega)).trans (c3_16))), (fr6 17 (by omega)).trans ((fr5 17 (by omega)).trans (c4_17)), (fr6 18 (by omega)).trans ((fr5 18 (by omega)).trans (c4_18)), (fr6 19 (by omega)).trans ((fr5 19 (by omega)).trans (c4_19)), (fr6 20 (by omega)).trans ((fr5 20 (by omega)).trans (c4_20)), (fr6 21 (by omega)).trans ((fr5 21 (by omega)).trans (c4_21)), (fr6 22 (by omega)).trans ((fr5 22 (by omega)).trans (c4_22)), (fr6 23 (by omega)).trans ((fr5 23 (by omega)).trans (c4_23)), (fr6 24 (by omega)).trans ((fr5 24 (by omega)).trans (c4_24)), (fr6 25 (by omega)).trans ((fr5 25 (by omega)).trans (c4_25)), (fr6 26 (by omega)).trans ((fr5 26 (by omega)).trans (c4_26)), (fr6 27 (by omega)).trans ((fr5 27 (by omega)).trans (c4_27)), (fr6 28 (by omega)).trans ((fr5 28 (by omega)).trans (c4_28)), (fr6 29 (by omega)).trans ((fr5 29 (by omega)).trans (c4_29)), (fr6 30 (by omega)).trans ((fr5 30 (by omega)).trans (c4_30)), (fr6 31 (by omega)).trans ((fr5 31 (by omega)).trans (c4_31)), (fr6 32 (by omega)).trans ((fr5 32 (by omega)).trans (c4_32)), (fr6 33 (by omega)).trans ((fr5 33 (by omega)).trans (c4_33)), (fr6 34 (by omega)).trans ((fr5 34 (by omega)).trans (c4_34)), (fr6 35 (by omega)).trans ((fr5 35 (by omega)).trans (c4_35)), (fr6 36 (by omega)).trans ((fr5 36 (by omega)).trans (c4_36)), (fr6 37 (by omega)).trans ((fr5 37 (by omega)).trans (c4_37)), (fr6 38 (by omega)).trans ((fr5 38 (by omega)).trans (c4_38)), (fr6 39 (by omega)).trans ((fr5 39 (by omega)).trans (c4_39)), (fr6 40 (by omega)).trans (c5_40), (fr6 41 (by omega)).trans (c5_41), (fr6 42 (by omega)).trans (c5_42), (fr6 43 (by omega)).trans (c5_43), (fr6 44 (by omega)).trans (c5_44), (fr6 45 (by omega)).trans (c5_45), (fr6 46 (by omega)).trans (c5_46), (fr6 47 (by omega)).trans (c5_47), (fr6 48 (by omega)).trans (c5_48), (fr6 49 (by omega)).trans (c5_49), c6_50, c6_51, c6_52, c6_53, c6_54, c6_55, c6_56, c6_57, c6_58, c6_59⟩

set_option maxRecDepth 100000 in
theorem c_Model60 {f : Nat → ji_C} (hq : f 60 = .inl (8, [.int (jI 0), .null, .null, .int (jI 0), .null, .null, .int (jI 0), .int (jI 0), .null, .int (jI 0), .null, .int (jI 0), .int (jI 0), .int (jI 0), .int (jI 0), .int (jI 0), .int (jI 0), .null, .null, .null, .int (jI 0), .int (jI 0), .int (jI 0), .null, .long 0])) : JM G (d + 1) mX8_init [.ref 60] (61, f) 10 20551 (fun r h9 => r = .inl none ∧ h9.1 = 71 ∧ (∀ x, x < 60 → h9.2 x = f x) ∧ h9.2 60 = .inl (8, [.int (jI 0), .ref 61, .ref 62, .int (jI 0), .ref 63, .ref 64, .int (jI 30), .int (jI 8), .ref 65, .int (jI 0), .ref 66, .int (jI 0), .int (jI 0), .int (jI 0), .int (jI 0), .int (jI 0), .int (jI 0), .ref 67, .ref 68, .ref 69, .int (jI 0), .int (jI 0), .int (jI 0), .ref 70, .long 0]) ∧ h9.2 61 = .inr (.int, 3695, .inl (va_up (va_up (va_up (fun _ => 0) 0 1) 85 1) 95 97)) ∧ h9.2 62 = .inr (.int, 14780, .inl (fun _ => 0)) ∧ h9.2 63 = .inr (.int, 1000, .inl (fun _ => 0)) ∧ h9.2 64 = .inr (.int, 10, .inl (fun _ => 0)) ∧ h9.2 65 = .inr (.int, 5, .inl (va_up (va_up (fun _ => 0) 0 2) 1 4)) ∧ h9.2 66 = .inr (.int, 100, .inl (fun _ => 0)) ∧ h9.2 67 = .inr (.int, 240, .inl (fun _ => 0)) ∧ h9.2 68 = .inr (.int, 240, .inl (fun _ => 0)) ∧ h9.2 69 = .inr (.int, 240, .inl (fun _ => 0)) ∧ h9.2 70 = .inr (.int, 241, .inl (fun _ => 0))) := by
  refine ji_ent (by decide) rfl (Nat.le_of_ble_eq_true rfl) rfl ?_
  refine ji_aload_n dX8_init_0 rfl trivial ?_
  refine ji_objInit dX8_init_1 lX8_1 ji_wobj.1 ji_wobj.2 (Nat.le_of_ble_eq_true rfl) ?_
  refine ji_aload_n dX8_init_4 rfl trivial ?_
  refine ji_sipush dX8_init_5 rfl ?_
  refine ji_newI dX8_init_8 (by omega) (by omega) (by omega) ?_
  refine ji_putF (ci := 8) (k := 1) rfl dX8_init_10 lX8_7 (by decide) (hq) (by simp) (ji_fitA _ trivial) rfl rfl rfl ?_
  refine ji_aload_n dX8_init_13 rfl trivial ?_
  refine ji_sipush dX8_init_14 rfl ?_
  refine ji_newI dX8_init_17 (by omega) (by omega) (by omega) ?_
  refine ji_putF (ci := 8) (k := 2) rfl dX8_init_19 lX8_13 (by decide) (rfl) (by simp) (ji_fitA _ trivial) rfl rfl rfl ?_
  refine ji_aload_n dX8_init_22 rfl trivial ?_
  refine ji_sipush dX8_init_23 rfl ?_
  refine ji_newI dX8_init_26 (by omega) (by omega) (by omega) ?_
  refine ji_putF (ci := 8) (k := 4) rfl dX8_init_28 lX8_16 (by decide) (rfl) (by simp) (ji_fitA _ trivial) rfl rfl rfl ?_
  refine ji_aload_n dX8_init_31 rfl trivial ?_
  refine ji_bipush dX8_init_32 rfl ?_
  refine ji_newI dX8_init_34 (by omega) (by omega) (by omega) ?_
  refine ji_putF (ci := 8) (k := 5) rfl dX8_init_36 lX8_19 (by decide) (rfl) (by simp) (ji_fitA _ trivial) rfl rfl rfl ?_
  refine ji_aload_n dX8_init_39 rfl trivial ?_
  refine ji_bipush dX8_init_40 rfl ?_
  refine ji_put (ci := 8) (k := 6) rfl dX8_init_42 lX8_22 (by decide) (rfl) (by simp) (ji_fitI _) rfl ?_
  refine ji_aload_n dX8_init_45 rfl trivial ?_
  refine ji_bipush dX8_init_46 rfl ?_
  refine ji_put (ci := 8) (k := 7) rfl dX8_init_48 lX8_26 (by decide) (rfl) (by simp) (ji_fitI _) rfl ?_
  refine ji_aload_n dX8_init_51 rfl trivial ?_
  refine ji_iconst dX8_init_52 ?_
  refine ji_newI dX8_init_53 (by omega) (by omega) (by omega) ?_
  refine ji_putF (ci := 8) (k := 8) rfl dX8_init_55 lX8_29 (by decide) (rfl) (by simp) (ji_fitA _ trivial) rfl rfl rfl ?_
  refine ji_aload_n dX8_init_58 rfl trivial ?_
  refine ji_bipush dX8_init_59 rfl ?_
  refine ji_newI dX8_init_61 (by omega) (by omega) (by omega) ?_
  refine ji_putF (ci := 8) (k := 10) rfl dX8_init_63 lX8_32 (by decide) (rfl) (by simp) (ji_fitA _ trivial) rfl rfl rfl ?_
  refine ji_aload_n dX8_init_66 rfl trivial ?_
  refine ji_sipush dX8_init_67 rfl ?_
  refine ji_newI dX8_init_70 (by omega) (by omega) (by omega) ?_
  refine ji_putF (ci := 8) (k := 17) rfl dX8_init_72 lX8_35 (by decide) (rfl) (by simp) (ji_fitA _ trivial) rfl rfl rfl ?_
  refine ji_aload_n dX8_init_75 rfl trivial ?_
  refine ji_sipush dX8_init_76 rfl ?_
  refine ji_newI dX8_init_79 (by omega) (by omega) (by omega) ?_
  refine ji_putF (ci := 8) (k := 18) rfl dX8_init_81 lX8_38 (by decide) (rfl) (by simp) (ji_fitA _ trivial) rfl rfl rfl ?_
  refine ji_aload_n dX8_init_84 rfl trivial ?_
  refine ji_sipush dX8_init_85 rfl ?_
  refine ji_newI dX8_init_88 (by omega) (by omega) (by omega) ?_
  refine ji_putF (ci := 8) (k := 19) rfl dX8_init_90 lX8_41 (by decide) (rfl) (by simp) (ji_fitA _ trivial) rfl rfl rfl ?_
  refine ji_aload_n dX8_init_93 rfl trivial ?_
  refine ji_sipush dX8_init_94 rfl ?_
  refine ji_newI dX8_init_97 (by omega) (by omega) (by omega) ?_
  refine ji_putF (ci := 8) (k := 23) rfl dX8_init_99 lX8_44 (by decide) (rfl) (by simp) (ji_fitA _ trivial) rfl rfl rfl ?_
  refine ji_aload_n dX8_init_102 rfl trivial ?_
  refine ji_get (ci := 8) (k := 1) rfl dX8_init_103 lX8_7 (by decide) (rfl) rfl ?_
  refine ji_iconst dX8_init_106 ?_
  refine ji_iconst dX8_init_107 ?_
  refine ji_iastore dX8_init_108 (rfl) (by omega) ?_
  refine ji_aload_n dX8_init_109 rfl trivial ?_
  refine ji_get (ci := 8) (k := 1) rfl dX8_init_110 lX8_7 (by decide) (rfl) rfl ?_
  refine ji_bipush dX8_init_113 rfl ?_
  refine ji_iconst dX8_init_115 ?_
  refine ji_iastore dX8_init_116 (rfl) (by omega) ?_
  refine ji_aload_n dX8_init_117 rfl trivial ?_
  refine ji_get (ci := 8) (k := 1) rfl dX8_init_118 lX8_7 (by decide) (rfl) rfl ?_
  refine ji_bipush dX8_init_121 rfl ?_
  refine ji_bipush dX8_init_123 rfl ?_
  refine ji_iastore dX8_init_125 (rfl) (by omega) ?_
  refine ji_aload_n dX8_init_126 rfl trivial ?_
  refine ji_get (ci := 8) (k := 8) rfl dX8_init_127 lX8_29 (by decide) (rfl) rfl ?_
  refine ji_iconst dX8_init_130 ?_
  refine ji_iconst dX8_init_131 ?_
  refine ji_iastore dX8_init_132 (rfl) (by omega) ?_
  refine ji_aload_n dX8_init_133 rfl trivial ?_
  refine ji_get (ci := 8) (k := 8) rfl dX8_init_134 lX8_29 (by decide) (rfl) rfl ?_
  refine ji_iconst dX8_init_137 ?_
  refine ji_iconst dX8_init_138 ?_
  refine ji_iastore dX8_init_139 (rfl) (by omega) ?_
  exact ji_return dX8_init_140 rfl ⟨rfl, rfl, fun x hx => by
      dsimp only
      (repeat rw [va_up_ne _ _ (by omega)]),
    rfl, rfl, rfl, rfl, rfl, rfl, rfl, rfl, rfl, rfl, rfl⟩

end MAKE
