theorem ji_cpy (f g : Nat → Int) (sp dp n : Nat) : va_cpy (fun j => jI (f j)) (fun j => jI (g j)) sp dp n = fun j => jI (va_cpy f g sp dp n j) := by
  funext j
  unfold va_cpy
  by_cases hj : dp ≤ j ∧ j < dp + n
  · rw [if_pos hj, if_pos hj]
  · rw [if_neg hj, if_neg hj]
theorem ji_wcopy : ji_in (.native arraycopyName) ∧ ji_in (.static arraycopyName) ∧ ji_in (.initialized "java/lang/System") := ⟨⟨by decide +kernel, by decide +kernel⟩, ⟨by decide +kernel, by decide +kernel⟩, ⟨by decide +kernel, by decide +kernel⟩⟩
theorem ji_wmax : ji_in (.static Lib.Math.max.name) ∧ ji_in (.initialized "java/lang/Math") ∧ ji_in (.code Lib.Math.max.name Lib.Math.max.code 2 (some .int)) := ⟨⟨by decide +kernel, by decide +kernel⟩, ⟨by decide +kernel, by decide +kernel⟩, ⟨by decide +kernel, by decide +kernel⟩⟩
section JiCopy
variable {G : ji_G} {d : Nat} {M M2 : ji_M} {pc : Nat} {L : List (Option Value)} {st : List Value} {h : ji_H} {bc bs bc2 bs2 : Nat} {Q Q2 : ji_R → ji_H → Prop}
theorem ji_acopy {idx q0 q1 n0 n1 : Nat} {f g : Nat → Int} {ty : FieldType} {sp dp n : Int} (hd : decode M.2.1 pc = .ok (.invokestatic idx, 3)) (hl : ji_in (.methodLink M.1.cls idx arraycopyName)) (hq0 : h.2 q0 = .inr (ty, n0, .inl f)) (hq1 : h.2 q1 = .inr (ty, n1, .inl g)) (hty : ∀ cy : Nat → ClassId, (ji_tys cy)[ji_ti ty]? = some (cy (ji_ti ty), ty)) (hprim : refKind ty = false)
    (hs : 0 ≤ sp ∧ sp + n ≤ n0) (hp : 0 ≤ dp ∧ dp + n ≤ n1) (hn : 0 ≤ n) (hb : n0 < 2147483648 ∧ n1 < 2147483648) (hfit : ∀ i : Nat, (i : Int) < n → fits ty (.int (jI (f (sp.toNat + i)))) = true) (hcat : (st.map fun v => v.category).sum ≤ 8)
    (kk : JW G (d + 1) M (pc + 3) L st (h.1, va_up h.2 q1 (.inr (ty, n1, .inl (va_cpy f g sp.toNat dp.toNat n.toNat)))) bc bs Q) : JW G (d + 1) M pc L (.int (jI n) :: .int (jI dp) :: .ref q1 :: .int (jI sp) :: .ref q0 :: st) h bc bs Q := by
  intro hG p e R s m args below meth c H locs cells slots ls st' ad ad0 ws C0 hfr hlo hcc hss hw hS h0 ha hst hls
  obtain ⟨_, _, rfl, rfl, _, _, rfl, rfl, _, _, rfl, ⟨a1, ha1, rfl⟩, _, _, rfl, rfl, _, r, rfl, ⟨a0, ha0, rfl⟩, hst⟩ := hst
  obtain ⟨e0, he0, hce0⟩ := hw.at ha0
  rw [hq0] at hce0
  cases (show e0 = _ from hce0)
  obtain ⟨e1, he1, hce1⟩ := hw.at ha1
  rw [hq1] at hce1
  cases (show e1 = _ from hce1)
  have hW := C0.2.2.2.2.2.2.2.1
  have x1 : (jI sp).toNatClampNeg = sp.toNat := jI_clamp (by omega)
  have x2 : (jI dp).toNatClampNeg = dp.toNat := jI_clamp (by omega)
  have x3 : (jI n).toNatClampNeg = n.toNat := jI_clamp (by omega)
  have hz : ∀ {x : Int}, 0 ≤ x ∧ x < 2147483648 → ¬ jI x < 0 := fun hx => by rw [show (0 : Int32) = jI 0 from rfl, jI_lt (by omega) (by omega)]; omega
  refine va_copyi (own := M.1.cls) C0.1 C0.2.1 (by obtain ⟨lv, q1, -⟩ := hls; exact C0.2.2.1.trans q1.1.symm) C0.2.2.2.2.1 (ji_word hG hW hl) (ji_word hG hW ji_wcopy.1) (ji_word hG hW ji_wcopy.2.1) (ji_word hG hW ji_wcopy.2.2) (ji_K hG hW) hw.1 hw.2.1 hS q0 q1 _ _ he0 he1 (hty _) (hty _) hprim (hz (by omega)) (hz (by omega)) (hz (by omega)) (by rw [x1, x3]; omega) (by rw [x2, x3]; omega) (fun i hi => by rw [x3] at hi; rw [x1]; exact hfit i (by omega)) (by omega) ?_ hd (fun H1 locs1 hP1 hD1 hS1 => ?_)
  · rw [hst.cat]
    show _ + (nativeFrameWords "java/lang/System" "arraycopy" 5 + 11) ≤ R.locals
    have h9 : nativeFrameWords "java/lang/System" "arraycopy" 5 ≤ 11 := by decide
    omega
  · rw [x1, x2, x3, ji_cpy] at hP1 hD1
    exact kk hG p e R s m args below meth c H1 locs1 cells slots ls r ad ad0 _ C0 hfr hlo hcc hss (hw.next hS h0 hP1 hD1 hS1 (hw.2.2.1.set ha1 rfl)) hS1 h0 ha hst hls
theorem ji_cloneI {idx q n : Nat} {g : Nat → Int} (hd : decode M.2.1 pc = .ok (.invokevirtual idx, 3)) (hl : ji_in (.methodLink M.1.cls idx ⟨"[I", "clone", "()Ljava/lang/Object;"⟩)) (hw1 : ji_in (.sameMethod "[I" "java/lang/Object" "clone" "()Ljava/lang/Object;") ∧ ji_in (.native ⟨"java/lang/Object", "clone", "()Ljava/lang/Object;"⟩) ∧ ji_in (.instanceMethod ⟨"java/lang/Object", "clone", "()Ljava/lang/Object;"⟩) ∧ ji_in (.selects "[I" ⟨"[I", "clone", "()Ljava/lang/Object;"⟩ ⟨"java/lang/Object", "clone", "()Ljava/lang/Object;"⟩)) (hq : h.2 q = .inr (.int, n, .inl g)) (hbc : 1 ≤ bc) (hbs : n ≤ bs) (hcat : (st.map fun v => v.category).sum ≤ 8)
    (kk : JW G (d + 1) M (pc + 3) L (.ref h.1 :: st) (h.1 + 1, va_up h.2 h.1 (.inr (.int, n, .inl g))) (bc - 1) (bs - n) Q) : JW G (d + 1) M pc L (.ref q :: st) h bc bs Q := by
  intro hG p e R s m args below meth c H locs cells slots ls st' ad ad0 ws C0 hfr hlo hcc hss hw hS h0 ha hst hls
  obtain ⟨_, r, rfl, ⟨a, ha1, rfl⟩, hst⟩ := hst
  obtain ⟨e1, he1, hce⟩ := hw.at ha1
  rw [hq] at hce
  cases (show e1 = _ from hce)
  have hW := C0.2.2.2.2.2.2.2.1
  have hnm : s.vm.findClass "[I" = some (G.2.2.2.1 0) := va_nm_int ((ji_K hG hW).2 0 _ rfl).2
  refine va_clone (own := M.1.cls) (ad := "[I") (ty := .int) C0.1 C0.2.1 (by obtain ⟨lv, q1, -⟩ := hls; exact C0.2.2.1.trans q1.1.symm) C0.2.2.2.2.1 (ji_word hG hW hl) (ji_word hG hW hw1.1) (ji_word hG hW hw1.2.1) (ji_word hG hW hw1.2.2.1) (ji_word hG hW hw1.2.2.2) (va_Nw.warmC hW hG.2.2.2.2.2.2.2.2.2.2.2.2.2.1) (ji_K hG hW) hw.1 hw.2.1 hS (fun q hq => Nat.le_trans h0 hq) q 0 he1 rfl hnm (fun i v hv => ?_) (by omega) (by rw [hst.cat]; omega) (by omega) (by omega) hd (fun q2 H1 hK1 hP1 hD1 hS1 => ?_)
  · simp only [vp_cell, arrV, Array.getElem?_ofFn] at hv
    split at hv
    · cases hv; rfl
    · cases hv
  · obtain ⟨ex, rfl⟩ := ha
    have hlen := hw.2.2.1.1
    refine kk hG p e R s m args below meth c H1 locs (cells + 1) (slots + n) ls _ ((ad0 ++ ex) ++ [q2]) ad0 _ C0 hfr hlo (by omega) (by omega) (hw.next hS h0 hP1 hD1 hS1 (hw.2.2.1.push q2 rfl)) hS1 h0 ⟨ex ++ [q2], by rw [List.append_assoc]⟩ ⟨_, r, rfl, ⟨q2, ?_, rfl⟩, hst.mono [q2]⟩ (hls.mono [q2])
    rw [List.getElem?_append_right (by omega)]
    simp [hlen]
theorem ji_castI {idx q n : Nat} {g : Nat → Int} (hd : decode M.2.1 pc = .ok (.checkcast idx, 3)) (hl : ji_in (.classLink M.1.cls idx "[I")) (hq : h.2 q = .inr (.int, n, .inl g)) (kk : JW G d M (pc + 3) L (.ref q :: st) h bc bs Q) : JW G d M pc L (.ref q :: st) h bc bs Q := by
  intro hG p e R s m args below meth c H locs cells slots ls st' ad ad0 ws C0 hfr hlo hcc hss hw hS h0 ha hst hls
  obtain ⟨_, r, rfl, ⟨a, ha1, rfl⟩, hst⟩ := hst
  obtain ⟨e1, he1, hce⟩ := hw.at ha1
  rw [hq] at hce
  cases (show e1 = _ from hce)
  have hW := C0.2.2.2.2.2.2.2.1
  refine va_castA (own := M.1.cls) C0.1 C0.2.1 C0.2.2.2.2.1 (ji_word hG hW hl) hw.1 q he1 (va_nm_int ((ji_K hG hW).2 0 _ rfl).2) hd ?_
  exact kk hG p e R s m args below meth c H locs cells slots ls _ ad ad0 ws C0 hfr hlo hcc hss hw hS h0 ha ⟨_, r, rfl, ⟨a, ha1, rfl⟩, hst⟩ hls
theorem ji_mmax {idx : Nat} {x y : Int} (hd : decode M.2.1 pc = .ok (.invokestatic idx, 3)) (hl : ji_in (.methodLink M.1.cls idx Lib.Math.max.name)) (hx : -2147483648 ≤ x ∧ x < 2147483648) (hy : -2147483648 ≤ y ∧ y < 2147483648) (hcat : (st.map fun v => v.category).sum ≤ 8)
    (kk : JW G (d + 1) M (pc + 3) L (.int (jI (max x y)) :: st) h bc bs Q) : JW G (d + 1) M pc L (.int (jI y) :: .int (jI x) :: st) h bc bs Q := by
  intro hG p e R s m args below meth c H locs cells slots ls st' ad ad0 ws C0 hfr hlo hcc hss hw hS h0 ha hst hls
  obtain ⟨_, _, rfl, rfl, _, r, rfl, rfl, hst⟩ := hst
  have hW := C0.2.2.2.2.2.2.2.1
  refine va_mmax (own := M.1.cls) C0.1 C0.2.1 (by obtain ⟨lv, q1, -⟩ := hls; exact C0.2.2.1.trans q1.1.symm) C0.2.2.2.2.1 (ji_word hG hW hl) (ji_word hG hW ji_wmax.1) (ji_word hG hW ji_wmax.2.1) (ji_word hG hW ji_wmax.2.2) (by omega) (by rw [hst.cat]; omega) (by omega) (by omega) hd ?_
  have e1 : (if jI x < jI y then jI y else jI x) = jI (max x y) := by
    by_cases hxy : x < y
    · rw [if_pos ((jI_lt hx hy).mpr hxy), show max x y = y by omega]
    · rw [if_neg (fun q => hxy ((jI_lt hx hy).mp q)), show max x y = x by omega]
  rw [e1]
  exact kk hG p e R s m args below meth c H locs cells slots ls _ ad ad0 ws C0 hfr hlo hcc hss hw hS h0 ha ⟨_, r, rfl, rfl, hst⟩ hls
theorem ji_tsw {dflt lo hi : Int} {offs : Array Int} {len : Nat} {x off : Int} {tgt : Nat} (hd : decode M.2.1 pc = .ok (.tableswitch dflt lo hi offs, len)) (hx : -2147483648 ≤ x ∧ x < 2147483648) (hr : lo ≤ x ∧ x ≤ hi) (ho : offs[(x - lo).toNat]? = some off) (ht : (pc : Int) + off = (tgt : Int))
    (k : JW G d M tgt L st h bc bs Q) : JW G d M pc L (.int (jI x) :: st) h bc bs Q :=
  ji_step (fun p e R s m args below meth c H locs cells slots ls st' ad X hex hb hst => by
    obtain ⟨_, r, rfl, rfl, hst⟩ := hst
    exact ⟨r, hst, fun k => lv_tableIn hex hb hd (by rw [jI_toInt hx]; omega) (by rw [jI_toInt hx]; omega) (by rw [jI_toInt hx]; exact ho) ht k⟩) k
theorem ji_tswD {dflt lo hi : Int} {offs : Array Int} {len : Nat} {x : Int} {tgt : Nat} (hd : decode M.2.1 pc = .ok (.tableswitch dflt lo hi offs, len)) (hx : -2147483648 ≤ x ∧ x < 2147483648) (hr : x < lo ∨ hi < x) (ht : (pc : Int) + dflt = (tgt : Int))
    (k : JW G d M tgt L st h bc bs Q) : JW G d M pc L (.int (jI x) :: st) h bc bs Q :=
  ji_step (fun p e R s m args below meth c H locs cells slots ls st' ad X hex hb hst => by
    obtain ⟨_, r, rfl, rfl, hst⟩ := hst
    exact ⟨r, hst, fun k => lv_tableOut hex hb hd (by rw [jI_toInt hx]; exact hr) ht k⟩) k
theorem ji_lsw {dflt : Int} {ps : Array (Int × Int)} {len : Nat} {x off : Int} {tgt : Nat} (hd : decode M.2.1 pc = .ok (.lookupswitch dflt ps, len)) (hp : (ps.toList.zip (ps.toList.drop 1)).all (fun (a, next) => a.1 < next.1) = true) (hx : -2147483648 ≤ x ∧ x < 2147483648) (ho : Op.lookupswitch.offset ps.toList dflt x = off) (ht : (pc : Int) + off = (tgt : Int))
    (k : JW G d M tgt L st h bc bs Q) : JW G d M pc L (.int (jI x) :: st) h bc bs Q :=
  ji_step (fun p e R s m args below meth c H locs cells slots ls st' ad X hex hb hst => by
    obtain ⟨_, r, rfl, rfl, hst⟩ := hst
    exact ⟨r, hst, fun k => lv_lookup hex hb hd hp (by rw [jI_toInt hx]; exact ho) ht k⟩) k
theorem ji_ldc2 {idx : Nat} {v : Int64} (hd : decode M.2.1 pc = .ok (.ldc2_w idx, 3)) (hl : ji_in (.constantLong M.1.cls idx v)) (kk : JW G d M (pc + 3) L (.long v :: st) h bc bs Q) : JW G d M pc L st h bc bs Q := by
  intro hG p e R s m args below meth c H locs cells slots ls st' ad ad0 ws C0 hfr hlo hcc hss hw hS h0 ha hst hls
  exact lv_ldc2 C0.1 C0.2.1 C0.2.2.2.2.1 (ji_word hG C0.2.2.2.2.2.2.2.1 hl) hd (kk hG p e R s m args below meth c H locs cells slots ls _ ad ad0 ws C0 hfr hlo hcc hss hw hS h0 ha ⟨_, st', rfl, rfl, hst⟩ hls)
theorem ji_lcmp {x y : Int64} (hd : decode M.2.1 pc = .ok (.lcmp, 1)) (k : JW G d M (pc + 1) L (.int (lg_cmp x y) :: st) h bc bs Q) : JW G d M pc L (.long y :: .long x :: st) h bc bs Q :=
  ji_step (fun p e R s m args below meth c H locs cells slots ls st' ad X hx hb hst => by
    obtain ⟨_, _, rfl, rfl, _, r, rfl, rfl, hst⟩ := hst
    exact ⟨_, ⟨_, r, rfl, rfl, hst⟩, fun k => W.lcmp hx hb hd k⟩) k
theorem ji_dconst0 (hd : decode M.2.1 pc = .ok (.dconst 0, 1)) (k : JW G d M (pc + 1) L (.double FP.dconst0 :: st) h bc bs Q) : JW G d M pc L st h bc bs Q :=
  ji_step (fun p e R s m args below meth c H locs cells slots ls st' ad X hx hb hst => by exact ⟨_, ⟨_, st', rfl, rfl, hst⟩, fun k => lv_dconst0 hx hb hd k⟩) k
theorem ji_i2d {x : Int32} (hd : decode M.2.1 pc = .ok (.i2d, 1)) (k : JW G d M (pc + 1) L (.double (FP.i2d x) :: st) h bc bs Q) : JW G d M pc L (.int x :: st) h bc bs Q :=
  ji_step (fun p e R s m args below meth c H locs cells slots ls st' ad X hx hb hst => by
    obtain ⟨_, r, rfl, rfl, hst⟩ := hst
    exact ⟨_, ⟨_, r, rfl, rfl, hst⟩, fun k => lv_i2d hx hb hd k⟩) k
theorem ji_ddiv {x y : UInt64} (hd : decode M.2.1 pc = .ok (.ddiv, 1)) (hne : vf_n64 (FP.ddiv x y)) (k : JW G d M (pc + 1) L (.double (FP.ddiv x y) :: st) h bc bs Q) : JW G d M pc L (.double y :: .double x :: st) h bc bs Q :=
  ji_step (fun p e R s m args below meth c H locs cells slots ls st' ad X hx hb hst => by
    obtain ⟨_, _, rfl, rfl, _, r, rfl, rfl, hst⟩ := hst
    exact ⟨_, ⟨_, r, rfl, rfl, hst⟩, fun k => lv_ddiv hx hb hd hne k⟩) k
theorem ji_dcmp {x y : UInt64} {op : CmpOp} (hd : decode M.2.1 pc = .ok (.dcmp op, 1)) (k : JW G d M (pc + 1) L (.int (Op.cmpValue (FP.dcmp x y) op) :: st) h bc bs Q) : JW G d M pc L (.double y :: .double x :: st) h bc bs Q :=
  ji_step (fun p e R s m args below meth c H locs cells slots ls st' ad X hx hb hst => by
    obtain ⟨_, _, rfl, rfl, _, r, rfl, rfl, hst⟩ := hst
    exact ⟨_, ⟨_, r, rfl, rfl, hst⟩, fun k => lv_dcmp hx hb hd k⟩) k
theorem ji_i2c {x : Int} (hd : decode M.2.1 pc = .ok (.i2c, 1)) (hx : 0 ≤ x ∧ x < 65536) (k : JW G d M (pc + 1) L (.int (jI x) :: st) h bc bs Q) : JW G d M pc L (.int (jI x) :: st) h bc bs Q :=
  ji_step (fun p e R s m args below meth c H locs cells slots ls st' ad X hex hb hst => by
    obtain ⟨_, r, rfl, rfl, hst⟩ := hst
    refine ⟨_, ⟨_, r, rfl, rfl, hst⟩, fun k => lv_i2c hex hb hd ?_ k⟩
    obtain ⟨n, rfl⟩ := Int.eq_ofNat_of_zero_le hx.1
    have hn : n < 65536 := by omega
    show ((jI n).toUInt32 % 65536).toInt32 = jI n
    rw [← jI_nat]
    apply Int32.toBitVec_inj.mp
    apply BitVec.eq_of_toNat_eq
    simp
    omega) k
end JiCopy
/-! ===== contracts that tell one answer ===== -/
def JR (G : ji_G) (d : Nat) (M : ji_M) (as : List Value) (h : ji_H) (bc bs : Nat) (v : Option Value) (h2 : ji_H) : Prop := JM G d M as h bc bs (fun r h' => r = .inl v ∧ h' = h2)
