theorem dbc_0 : decode cJ6_bitCount_0f7a4 0 = .ok (.iload_n 0, 1) := by decide +kernel
theorem dbc_1 : decode cJ6_bitCount_0f7a4 1 = .ok (.iload_n 0, 1) := by decide +kernel
theorem dbc_2 : decode cJ6_bitCount_0f7a4 2 = .ok (.iconst 1, 1) := by decide +kernel
theorem dbc_3 : decode cJ6_bitCount_0f7a4 3 = .ok (.iushr, 1) := by decide +kernel
theorem dbc_4 : decode cJ6_bitCount_0f7a4 4 = .ok (.ldc_w 265, 3) := by decide +kernel
theorem dbc_7 : decode cJ6_bitCount_0f7a4 7 = .ok (.iand, 1) := by decide +kernel
theorem dbc_8 : decode cJ6_bitCount_0f7a4 8 = .ok (.isub, 1) := by decide +kernel
theorem dbc_9 : decode cJ6_bitCount_0f7a4 9 = .ok (.istore_n 0, 1) := by decide +kernel
theorem dbc_10 : decode cJ6_bitCount_0f7a4 10 = .ok (.iload_n 0, 1) := by decide +kernel
theorem dbc_11 : decode cJ6_bitCount_0f7a4 11 = .ok (.ldc_w 266, 3) := by decide +kernel
theorem dbc_14 : decode cJ6_bitCount_0f7a4 14 = .ok (.iand, 1) := by decide +kernel
theorem dbc_15 : decode cJ6_bitCount_0f7a4 15 = .ok (.iload_n 0, 1) := by decide +kernel
theorem dbc_16 : decode cJ6_bitCount_0f7a4 16 = .ok (.iconst 2, 1) := by decide +kernel
theorem dbc_17 : decode cJ6_bitCount_0f7a4 17 = .ok (.iushr, 1) := by decide +kernel
theorem dbc_18 : decode cJ6_bitCount_0f7a4 18 = .ok (.ldc_w 266, 3) := by decide +kernel
theorem dbc_21 : decode cJ6_bitCount_0f7a4 21 = .ok (.iand, 1) := by decide +kernel
theorem dbc_22 : decode cJ6_bitCount_0f7a4 22 = .ok (.iadd, 1) := by decide +kernel
theorem dbc_23 : decode cJ6_bitCount_0f7a4 23 = .ok (.istore_n 0, 1) := by decide +kernel
theorem dbc_24 : decode cJ6_bitCount_0f7a4 24 = .ok (.iload_n 0, 1) := by decide +kernel
theorem dbc_25 : decode cJ6_bitCount_0f7a4 25 = .ok (.iload_n 0, 1) := by decide +kernel
theorem dbc_26 : decode cJ6_bitCount_0f7a4 26 = .ok (.iconst 4, 1) := by decide +kernel
theorem dbc_27 : decode cJ6_bitCount_0f7a4 27 = .ok (.iushr, 1) := by decide +kernel
theorem dbc_28 : decode cJ6_bitCount_0f7a4 28 = .ok (.iadd, 1) := by decide +kernel
theorem dbc_29 : decode cJ6_bitCount_0f7a4 29 = .ok (.ldc_w 267, 3) := by decide +kernel
theorem dbc_32 : decode cJ6_bitCount_0f7a4 32 = .ok (.iand, 1) := by decide +kernel
theorem dbc_33 : decode cJ6_bitCount_0f7a4 33 = .ok (.istore_n 0, 1) := by decide +kernel
theorem dbc_34 : decode cJ6_bitCount_0f7a4 34 = .ok (.iload_n 0, 1) := by decide +kernel
theorem dbc_35 : decode cJ6_bitCount_0f7a4 35 = .ok (.iload_n 0, 1) := by decide +kernel
theorem dbc_36 : decode cJ6_bitCount_0f7a4 36 = .ok (.bipush 8, 2) := by decide +kernel
theorem dbc_38 : decode cJ6_bitCount_0f7a4 38 = .ok (.iushr, 1) := by decide +kernel
theorem dbc_39 : decode cJ6_bitCount_0f7a4 39 = .ok (.iadd, 1) := by decide +kernel
theorem dbc_40 : decode cJ6_bitCount_0f7a4 40 = .ok (.istore_n 0, 1) := by decide +kernel
theorem dbc_41 : decode cJ6_bitCount_0f7a4 41 = .ok (.iload_n 0, 1) := by decide +kernel
theorem dbc_42 : decode cJ6_bitCount_0f7a4 42 = .ok (.iload_n 0, 1) := by decide +kernel
theorem dbc_43 : decode cJ6_bitCount_0f7a4 43 = .ok (.bipush 16, 2) := by decide +kernel
theorem dbc_45 : decode cJ6_bitCount_0f7a4 45 = .ok (.iushr, 1) := by decide +kernel
theorem dbc_46 : decode cJ6_bitCount_0f7a4 46 = .ok (.iadd, 1) := by decide +kernel
theorem dbc_47 : decode cJ6_bitCount_0f7a4 47 = .ok (.istore_n 0, 1) := by decide +kernel
theorem dbc_48 : decode cJ6_bitCount_0f7a4 48 = .ok (.iload_n 0, 1) := by decide +kernel
theorem dbc_49 : decode cJ6_bitCount_0f7a4 49 = .ok (.bipush 63, 2) := by decide +kernel
theorem dbc_51 : decode cJ6_bitCount_0f7a4 51 = .ok (.iand, 1) := by decide +kernel
theorem dbc_52 : decode cJ6_bitCount_0f7a4 52 = .ok (.ireturn, 1) := by decide +kernel
def mJ6_bc : ji_M := (yJ6_bitCount_0f7a4, cJ6_bitCount_0f7a4, 1, (some .int), [])
theorem wJ6_bc : ji_mw mJ6_bc 1 := ⟨⟨by decide +kernel, by decide +kernel⟩, ⟨by decide +kernel, by decide +kernel⟩, by decide, by decide, by decide +kernel, by decide, rfl⟩
theorem sJ6_bc : ji_in (.static mJ6_bc.1) := ⟨by decide +kernel, by decide +kernel⟩
theorem lX7_bc : ji_in (.methodLink RX7 435 mJ6_bc.1) := ⟨by decide +kernel, by decide +kernel⟩
theorem kJ6_265 : ji_in (.constant RJ6 265 1431655765) := ⟨by decide +kernel, by decide +kernel⟩
theorem kJ6_266 : ji_in (.constant RJ6 266 858993459) := ⟨by decide +kernel, by decide +kernel⟩
theorem kJ6_267 : ji_in (.constant RJ6 267 252645135) := ⟨by decide +kernel, by decide +kernel⟩
section JiBc
variable {G : ji_G} {d : Nat} {M : ji_M} {pc : Nat} {L : List (Option Value)} {st : List Value} {h : ji_H} {bc bs : Nat} {Q : ji_R → ji_H → Prop}
def bc_us (x y : Int32) : Int32 := (x.toUInt32 >>> (y.toUInt32 &&& Int32.toUInt32 31)).toInt32
theorem ji_iadd3 {x y : Int32} (hd : decode M.2.1 pc = .ok (.iadd, 1)) (k : JW G d M (pc + 1) L (.int (x + y) :: st) h bc bs Q) : JW G d M pc L (.int y :: .int x :: st) h bc bs Q :=
  ji_step (fun p e R s m args below meth c H locs cells slots ls st' ad X hx hb hst => by
    obtain ⟨_, _, rfl, rfl, _, r, rfl, rfl, hst⟩ := hst
    exact ⟨_, ⟨_, r, rfl, rfl, hst⟩, fun k => lv_iadd hx hb hd k⟩) k
theorem ji_isub3 {x y : Int32} (hd : decode M.2.1 pc = .ok (.isub, 1)) (k : JW G d M (pc + 1) L (.int (x - y) :: st) h bc bs Q) : JW G d M pc L (.int y :: .int x :: st) h bc bs Q :=
  ji_step (fun p e R s m args below meth c H locs cells slots ls st' ad X hx hb hst => by
    obtain ⟨_, _, rfl, rfl, _, r, rfl, rfl, hst⟩ := hst
    exact ⟨_, ⟨_, r, rfl, rfl, hst⟩, fun k => lv_isub hx hb hd k⟩) k
theorem ji_iushr3 {x y : Int32} (hd : decode M.2.1 pc = .ok (.iushr, 1)) (k : JW G d M (pc + 1) L (.int (bc_us x y) :: st) h bc bs Q) : JW G d M pc L (.int y :: .int x :: st) h bc bs Q :=
  ji_step (fun p e R s m args below meth c H locs cells slots ls st' ad X hx hb hst => by
    obtain ⟨_, _, rfl, rfl, _, r, rfl, rfl, hst⟩ := hst
    exact ⟨_, ⟨_, r, rfl, rfl, hst⟩, fun k => lv_iushr hx hb hd rfl k⟩) k
theorem ji_ldcw3 {idx : Nat} {v : Int32} (hd : decode M.2.1 pc = .ok (.ldc_w idx, 3)) (hl : ji_in (.constant M.1.cls idx v)) (kk : JW G d M (pc + 3) L (.int v :: st) h bc bs Q) : JW G d M pc L st h bc bs Q := by
  intro hG p e R s m args below meth c H locs cells slots ls st' ad ad0 ws C0 hfr hlo hcc hss hw hS h0 ha hst hls
  exact lv_ldcw C0.1 C0.2.1 C0.2.2.2.2.1 (ji_word hG C0.2.2.2.2.2.2.2.1 hl) hd (kk hG p e R s m args below meth c H locs cells slots ls _ ad ad0 ws C0 hfr hlo hcc hss hw hS h0 ha ⟨_, st', rfl, rfl, hst⟩ hls)
def bc_1 (a : Int32) : Int32 := a - (bc_us a 1 &&& 1431655765)
def bc_2 (a : Int32) : Int32 := (a &&& 858993459) + (bc_us a 2 &&& 858993459)
def bc_3 (a : Int32) : Int32 := (a + bc_us a 4) &&& 252645135
def bc_4 (a : Int32) : Int32 := a + bc_us a 8
def bc_5 (a : Int32) : Int32 := a + bc_us a 16
def bc_v (a : Int32) : Int32 := bc_5 (bc_4 (bc_3 (bc_2 (bc_1 a)))) &&& 63
def ly_bc (x : Int) : Int := ly_bit x 0 + ly_bit x 1 + ly_bit x 2 + ly_bit x 3 + ly_bit x 4 + ly_bit x 5 + ly_bit x 6 + ly_bit x 7 + ly_bit x 8 + ly_bit x 9
theorem bc_all : ∀ x : Fin 1024, bc_v (jI (x.val : Int)) = jI (ly_bc (x.val : Int)) := by decide +kernel
theorem bc_eq {x : Int} (hx : 0 ≤ x ∧ x < 1024) : bc_v (jI x) = jI (ly_bc x) := by
  have h := bc_all ⟨x.toNat, by omega⟩
  have e : ((x.toNat : Nat) : Int) = x := by omega
  simp only [e] at h
  exact h
set_option maxHeartbeats 4000000 in
set_option maxRecDepth 100000 in
theorem k_bitCount {x : Int} (hx : 0 ≤ x ∧ x < 1024) : JR G d mJ6_bc [.int (jI x)] h 0 0 (some (.int (jI (ly_bc x)))) h := by
  refine ji_ent (by decide) rfl (Nat.le_of_ble_eq_true rfl) rfl ?_
  refine ji_iload_n dbc_0 rfl ?_
  refine ji_iload_n dbc_1 rfl ?_
  refine ji_iconst dbc_2 ?_
  refine ji_iushr3 dbc_3 ?_
  refine ji_ldcw3 dbc_4 kJ6_265 ?_
  refine ji_iop dbc_7 (Or.inl ⟨rfl, rfl⟩) ?_
  refine ji_isub3 dbc_8 ?_
  refine ji_istore_n dbc_9 (by decide) rfl ?_
  refine ji_iload_n dbc_10 rfl ?_
  refine ji_ldcw3 dbc_11 kJ6_266 ?_
  refine ji_iop dbc_14 (Or.inl ⟨rfl, rfl⟩) ?_
  refine ji_iload_n dbc_15 rfl ?_
  refine ji_iconst dbc_16 ?_
  refine ji_iushr3 dbc_17 ?_
  refine ji_ldcw3 dbc_18 kJ6_266 ?_
  refine ji_iop dbc_21 (Or.inl ⟨rfl, rfl⟩) ?_
  refine ji_iadd3 dbc_22 ?_
  refine ji_istore_n dbc_23 (by decide) rfl ?_
  refine ji_iload_n dbc_24 rfl ?_
  refine ji_iload_n dbc_25 rfl ?_
  refine ji_iconst dbc_26 ?_
  refine ji_iushr3 dbc_27 ?_
  refine ji_iadd3 dbc_28 ?_
  refine ji_ldcw3 dbc_29 kJ6_267 ?_
  refine ji_iop dbc_32 (Or.inl ⟨rfl, rfl⟩) ?_
  refine ji_istore_n dbc_33 (by decide) rfl ?_
  refine ji_iload_n dbc_34 rfl ?_
  refine ji_iload_n dbc_35 rfl ?_
  refine ji_bipush dbc_36 rfl ?_
  refine ji_iushr3 dbc_38 ?_
  refine ji_iadd3 dbc_39 ?_
  refine ji_istore_n dbc_40 (by decide) rfl ?_
  refine ji_iload_n dbc_41 rfl ?_
  refine ji_iload_n dbc_42 rfl ?_
  refine ji_bipush dbc_43 rfl ?_
  refine ji_iushr3 dbc_45 ?_
  refine ji_iadd3 dbc_46 ?_
  refine ji_istore_n dbc_47 (by decide) rfl ?_
  refine ji_iload_n dbc_48 rfl ?_
  refine ji_bipush dbc_49 rfl ?_
  refine ji_iop dbc_51 (Or.inl ⟨rfl, rfl⟩) ?_
  refine ji_eqv (st2 := [.int (jI (ly_bc x))]) ?_ rfl (congrArg (fun z : Int32 => [Value.int z]) (bc_eq hx)) rfl
  exact ji_ireturn dbc_52 rfl rfl ⟨rfl, rfl⟩
end JiBc
