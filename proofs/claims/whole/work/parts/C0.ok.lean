/-! ===== what holds at the law's start ===== -/
theorem g_str1 : ∀ q ∈ ji_str, Cond.stringRef RX7 q.1 q.2 ∈ lw_tbl := by decide +kernel
theorem g_str2 : ∀ q ∈ ji_str, Cond.exactly (.string RX7 q.1) "java/lang/String" ∈ flatC (Jvm.Cond.and given_1 narrow_1) := by decide +kernel
theorem g_cast : ∀ E ∈ ji_E, Cond.castable E E ∈ lw_tbl := by decide +kernel
theorem g_nc : ∀ E ∈ ji_E, ∀ F ∈ ji_E, E ≠ F → Cond.not (.castable E F) ∈ flatC (Jvm.Cond.and given_1 narrow_1) := by decide +kernel
theorem g_nest : ∀ w ∈ ji_nest, Cond.methodLinkNest w.1 w.2.1 w.2.2 "BookPager" ∈ lw_tbl := by decide +kernel
theorem g_ao : ∀ C ∈ [RX6, RX0, RX4], Cond.arrayOver (.object C) ∈ lw_tbl := by decide +kernel
theorem g_arr {args : Array Value} {s : State} {ty : FieldType} (h : (Cond.arrayClass ty).before args s = true) : ∃ c : ClassId, ArrOfT s c ty ∧ s.vm.findClass ("[" ++ ty.toString) = some c := by
  obtain ⟨c, k, comp, h1, h2, h3⟩ := Cond.arrayClass_spec h
  exact ⟨c, fun n z => ⟨fun k h => (by cases h), k, h2, comp, h3⟩, h1⟩
theorem g_arro {args : Array Value} {s : State} {C : String} (h : (Cond.arrayOver (.object C)).before args s = true) : ∃ c : ClassId, ArrOfT s c (.object C) ∧ va_RA s c (.object C) := by
  obtain ⟨comp, c, k, h1, h2, h3, h4, h5⟩ := Cond.arrayOver_spec h
  exact ⟨c, fun n z => ⟨fun k h => (by cases h), k, h3, comp, h4⟩, k, comp, h3, h4, h1, h5⟩
set_option maxHeartbeats 4000000 in
theorem g_ok {s : State} {l : Launch} {b L : Nat} {xs : Nat → Int32} (hflags : l.flags = flags0) (hts : ∀ w ∈ lw_tbl, w.before #[Value.ref b] s = true) (hX : va_X b L xs s s.heap) (hbl : b < s.heap.size) (hgv : (Jvm.Cond.and given_1 narrow_1).before #[Value.ref b] s = true) : ∃ (D : va_G) (cy : Nat → ClassId) (tS : Nat), ji_OK (s, l, D, cy, tS, b, L, xs) := by
  have hs := flat_of_before _ hgv
  have hA : ∀ a : Nat, a < s.heap.size → ¬ (fun q : Nat => s.heap.size ≤ q) a := fun a h => Nat.not_le.mpr h
  obtain ⟨c0, i0, k0⟩ := u_known (C := RX0) (T := TX0) (N := 3) (n := 3) hts (by decide +kernel) (hts (.instantiable RX0 3) (by decide +kernel))
  obtain ⟨c1, i1, k1⟩ := u_known (C := RX1) (T := TX1) (N := 3) (n := 3) hts (by decide +kernel) (hts (.instantiable RX1 3) (by decide +kernel))
  obtain ⟨c2, i2, k2⟩ := u_known (C := RX2) (T := TX2) (N := 3) (n := 3) hts (by decide +kernel) (hts (.instantiable RX2 3) (by decide +kernel))
  obtain ⟨c3, i3, k3⟩ := u_known (C := RX3) (T := TX3) (N := 16) (n := 16) hts (by decide +kernel) (hts (.instantiable RX3 16) (by decide +kernel))
  obtain ⟨c4, i4, k4⟩ := u_known (C := RX4) (T := TX4) (N := 7) (n := 7) hts (by decide +kernel) (hts (.instantiable RX4 7) (by decide +kernel))
  obtain ⟨c5, i5, k5⟩ := u_known (C := RX5) (T := TX5) (N := 7) (n := 7) hts (by decide +kernel) (hts (.instantiable RX5 7) (by decide +kernel))
  obtain ⟨c6, i6, k6⟩ := u_known (C := RX6) (T := TX6) (N := 2) (n := 2) hts (by decide +kernel) (hts (.instantiable RX6 2) (by decide +kernel))
  obtain ⟨c7, i7, k7⟩ := u_known (C := RX7) (T := TX7) (N := 11) (n := 11) hts (by decide +kernel) (hts (.instantiable RX7 11) (by decide +kernel))
  obtain ⟨c8, i8, k8⟩ := u_known (C := RX8) (T := TX8) (N := 25) (n := 25) hts (by decide +kernel) (hts (.instantiable RX8 25) (by decide +kernel))
  obtain ⟨a0, p0, q0⟩ := g_arr (hts (.arrayClass .int) (by decide +kernel))
  obtain ⟨a1, p1, q1⟩ := g_arr (hts (.arrayClass .char) (by decide +kernel))
  obtain ⟨a2, p2, q2⟩ := g_arr (hts (.arrayClass .boolean) (by decide +kernel))
  obtain ⟨a3, p3, q3⟩ := g_arr (hts (.arrayClass .long) (by decide +kernel))
  obtain ⟨a4, p4, q4⟩ := g_arro (hts _ (g_ao RX6 (by decide)))
  obtain ⟨a5, p5, q5⟩ := g_arro (hts _ (g_ao RX0 (by decide)))
  obtain ⟨a6, p6, q6⟩ := g_arro (hts _ (g_ao RX4 (by decide)))
  obtain ⟨tS, eS, hT⟩ := va_Tof (tm := .static "BookPager" "STYLE_LIMITS" "[I") (ty := .int) (N := 5) (f := fun j => .int (jI ([4, 4, 2, 1, 1].getD j 0))) (A := fun q : Nat => s.heap.size ≤ q) (by decide) (hs (.arrayOf (.static "BookPager" "STYLE_LIMITS" "[I") .int) (by decide +kernel)) (va_eqt (hs (.eq (.length (.static "BookPager" "STYLE_LIMITS" "[I")) (.int 5)) (by decide +kernel))) (fun j hj => by
    have : j = 0 ∨ j = 1 ∨ j = 2 ∨ j = 3 ∨ j = 4 := by omega
    rcases this with rfl | rfl | rfl | rfl | rfl
    · exact va_eqt (hs (.eq (.elem (.static "BookPager" "STYLE_LIMITS" "[I") (.int 0)) (.int 4)) (by decide +kernel))
    · exact va_eqt (hs (.eq (.elem (.static "BookPager" "STYLE_LIMITS" "[I") (.int 1)) (.int 4)) (by decide +kernel))
    · exact va_eqt (hs (.eq (.elem (.static "BookPager" "STYLE_LIMITS" "[I") (.int 2)) (.int 2)) (by decide +kernel))
    · exact va_eqt (hs (.eq (.elem (.static "BookPager" "STYLE_LIMITS" "[I") (.int 3)) (.int 1)) (by decide +kernel))
    · exact va_eqt (hs (.eq (.elem (.static "BookPager" "STYLE_LIMITS" "[I") (.int 4)) (.int 1)) (by decide +kernel))) hA
  refine ⟨(fun k => if k = 0 then c0 else if k = 1 then c1 else if k = 2 then c2 else if k = 3 then c3 else if k = 4 then c4 else if k = 5 then c5 else if k = 6 then c6 else if k = 7 then c7 else c8, fun k => if k = 0 then i0 else if k = 1 then i1 else if k = 2 then i2 else if k = 3 then i3 else if k = 4 then i4 else if k = 5 then i5 else if k = 6 then i6 else if k = 7 then i7 else i8), fun k => if k = 0 then a0 else if k = 1 then a1 else if k = 2 then a2 else if k = 3 then a3 else if k = 4 then a4 else if k = 5 then a5 else a6, tS, hts, ⟨fun c q hq => ?_, fun k q hq => ?_⟩, by show l.stackTraces = false; unfold Launch.stackTraces; rw [hflags]; decide +kernel, hX, hbl, vx_Zqof (hts (.laysStatic Bundle.tN "UNASSIGNED_STACK" Bundle.steD) (by decide +kernel)) (hts (.initialized Bundle.tN) (by decide +kernel)) (hs (.isRef (.static Bundle.tN "UNASSIGNED_STACK" Bundle.steD)) (by decide +kernel)) hA, vx_Zqof (hts (.laysStatic Bundle.tN "SUPPRESSED_SENTINEL" Bundle.listD) (by decide +kernel)) (hts (.initialized Bundle.tN) (by decide +kernel)) (hs (.isRef (.static Bundle.tN "SUPPRESSED_SENTINEL" Bundle.listD)) (by decide +kernel)) hA, va_Zof (hts (.laysStatic RX7 "STYLE_LIMITS" "[I") (by decide +kernel)) (hts (.initialized RX7) (by decide +kernel)) eS hA, hT, fun q hq => ?_, fun E hE => va_Nw.of rfl (hts _ (g_cast E hE)), fun E hE F hF hne => va_Nc.of (hs _ (g_nc E hE F hF hne)), fun w hw => va_Nw.of rfl (hts _ (g_nest w hw)), va_Nw.of rfl (hts (.castable "[I" "java/lang/Cloneable") (by decide +kernel)), fun C hC => va_AO.of (hts _ (g_ao C hC))⟩
  · match c, hq with
    | 0, hq => cases hq; exact k0
    | 1, hq => cases hq; exact k1
    | 2, hq => cases hq; exact k2
    | 3, hq => cases hq; exact k3
    | 4, hq => cases hq; exact k4
    | 5, hq => cases hq; exact k5
    | 6, hq => cases hq; exact k6
    | 7, hq => cases hq; exact k7
    | 8, hq => cases hq; exact k8
    | c + 9, hq => exact absurd hq (by simp [ji_cl])
  · match k, hq with
    | 0, hq => cases hq; exact ⟨p0, q0⟩
    | 1, hq => cases hq; exact ⟨p1, q1⟩
    | 2, hq => cases hq; exact ⟨p2, q2⟩
    | 3, hq => cases hq; exact ⟨p3, q3⟩
    | 4, hq => cases hq; exact ⟨p4, q4⟩
    | 5, hq => cases hq; exact ⟨p5, q5⟩
    | 6, hq => cases hq; exact ⟨p6, q6⟩
    | k + 7, hq => exact absurd hq (by simp [ji_tys])
  · have h1 := hts _ (g_str1 q hq)
    have h2 := hs _ (g_str2 q hq)
    obtain ⟨sa, hsa⟩ : ∃ sa, (Term.string RX7 q.1).eval #[Value.ref b] s none [] s = some (.ref sa) := by
      obtain ⟨sa, c, cell, k, e1, _⟩ := Cond.exactly_spec h2
      exact ⟨_, e1⟩
    exact ⟨sa, vk_R.of h1 hsa⟩
