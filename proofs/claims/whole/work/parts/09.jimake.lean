section JiMake
variable {G : ji_G} {d : Nat} {M : ji_M} {pc : Nat} {L : List (Option Value)} {st : List Value} {h : ji_H} {bc bs : Nat} {Q : ji_R → ji_H → Prop}
theorem ji_aastore {q n a : Nat} {ci N : Nat} {C : String} {T : u_T} {fs : List Value} {f : Nat → Option Nat} {i : Int} (hd : decode M.2.1 pc = .ok (.aastore, 1)) (hq : h.2 q = .inr (.object C, n, .inr (.inr f))) (hty : ∀ cy : Nat → ClassId, (ji_tys cy)[ji_ti (.object C)]? = some (cy (ji_ti (.object C)), .object C)) (hi : 0 ≤ i ∧ i < n ∧ i < 2147483648) (hc : ji_cl[ci]? = some (C, T, N)) (ho : h.2 a = .inl (ci, fs))
    (kk : JW G d M (pc + 1) L st (h.1, va_up h.2 q (.inr (.object C, n, .inr (.inr (va_up f i.toNat (some a)))))) bc bs Q) : JW G d M pc L (.ref a :: .int (jI i) :: .ref q :: st) h bc bs Q := by
  intro hG p e R s m args below meth c H locs cells slots ls st' ad ad0 ws C0 hfr hlo hcc hs hw hS h0 ha hst hls
  obtain ⟨_, _, rfl, ⟨b, hb1, rfl⟩, _, _, rfl, rfl, _, r, rfl, ⟨a1, ha1, rfl⟩, hst⟩ := hst
  obtain ⟨e1, he1, hce⟩ := hw.at ha1
  rw [hq] at hce
  obtain ⟨f', rfl, hf⟩ := hce
  obtain ⟨e2, he2, hce2⟩ := hw.at hb1
  rw [ho] at hce2
  obtain ⟨fs', rfl, -⟩ := hce2
  have hW := C0.2.2.2.2.2.2.2.1
  refine va_astq C0.1 C0.2.1 (ji_K hG hW) hw.1 hw.2.1 hS q _ a ci he1 (hty _) he2 hc (jI_in hi) hd (fun H1 locs1 hP1 hD1 hS1 => ?_)
  have e9 : (jI i).toNatClampNeg = i.toNat := jI_clamp ⟨hi.1, hi.2.2⟩
  rw [e9] at hP1 hD1
  refine kk hG p e R s m args below meth c H1 locs1 cells slots ls r ad ad0 _ C0 hfr hlo hcc hs (hw.next hS h0 hP1 hD1 hS1 (hw.2.2.1.set ha1 ⟨_, rfl, fun j hj => ?_⟩)) hS1 h0 ha hst hls
  by_cases hj2 : j = i.toNat
  · subst hj2
    rw [va_up_self, va_up_self]
    exact ⟨b, hb1, rfl⟩
  · rw [va_up_ne _ _ hj2, va_up_ne _ _ hj2]
    exact hf j hj
theorem ji_aastoreN {q n : Nat} {C : String} {f : Nat → Option Nat} {i : Int} (hd : decode M.2.1 pc = .ok (.aastore, 1)) (hq : h.2 q = .inr (.object C, n, .inr (.inr f))) (hty : ∀ cy : Nat → ClassId, (ji_tys cy)[ji_ti (.object C)]? = some (cy (ji_ti (.object C)), .object C)) (hi : 0 ≤ i ∧ i < n ∧ i < 2147483648)
    (kk : JW G d M (pc + 1) L st (h.1, va_up h.2 q (.inr (.object C, n, .inr (.inr (va_up f i.toNat none))))) bc bs Q) : JW G d M pc L (.null :: .int (jI i) :: .ref q :: st) h bc bs Q := by
  intro hG p e R s m args below meth c H locs cells slots ls st' ad ad0 ws C0 hfr hlo hcc hs hw hS h0 ha hst hls
  obtain ⟨_, _, rfl, rfl, _, _, rfl, rfl, _, r, rfl, ⟨a1, ha1, rfl⟩, hst⟩ := hst
  obtain ⟨e1, he1, hce⟩ := hw.at ha1
  rw [hq] at hce
  obtain ⟨f', rfl, hf⟩ := hce
  have hW := C0.2.2.2.2.2.2.2.1
  refine va_astqN C0.1 C0.2.1 (ji_K hG hW) hw.1 hw.2.1 hS q _ he1 (hty _) (jI_in hi) hd (fun H1 locs1 hP1 hD1 hS1 => ?_)
  have e9 : (jI i).toNatClampNeg = i.toNat := jI_clamp ⟨hi.1, hi.2.2⟩
  rw [e9] at hP1 hD1
  refine kk hG p e R s m args below meth c H1 locs1 cells slots ls r ad ad0 _ C0 hfr hlo hcc hs (hw.next hS h0 hP1 hD1 hS1 (hw.2.2.1.set ha1 ⟨_, rfl, fun j hj => ?_⟩)) hS1 h0 ha hst hls
  by_cases hj2 : j = i.toNat
  · subst hj2
    rw [va_up_self, va_up_self]
  · rw [va_up_ne _ _ hj2, va_up_ne _ _ hj2]
    exact hf j hj
theorem ji_laload {q n : Nat} {g : Nat → Int64} {i : Int} (hd : decode M.2.1 pc = .ok (.laload, 1)) (hq : h.2 q = .inr (.long, n, .inr (.inl g))) (hi : 0 ≤ i ∧ i < n ∧ i < 2147483648)
    (kk : JW G d M (pc + 1) L (.long (g i.toNat) :: st) h bc bs Q) : JW G d M pc L (.int (jI i) :: .ref q :: st) h bc bs Q := by
  intro hG p e R s m args below meth c H locs cells slots ls st' ad ad0 ws C0 hfr hlo hcc hs hw hS h0 ha hst hls
  obtain ⟨_, _, rfl, rfl, _, r, rfl, ⟨a, ha1, rfl⟩, hst⟩ := hst
  obtain ⟨e1, he1, hce⟩ := hw.at ha1
  rw [hq] at hce
  cases (show e1 = _ from hce)
  have hW := C0.2.2.2.2.2.2.2.1
  refine va_lald C0.1 C0.2.1 (ji_K hG hW) hw.1 q (ji_ti .long) he1 rfl (jI_in hi) hd ?_
  have e9 : (jI i).toNatClampNeg = i.toNat := jI_clamp ⟨hi.1, hi.2.2⟩
  rw [e9]
  exact kk hG p e R s m args below meth c H locs cells slots ls _ ad ad0 ws C0 hfr hlo hcc hs hw hS h0 ha ⟨_, r, rfl, rfl, hst⟩ hls
theorem ji_lastore {q n : Nat} {g : Nat → Int64} {i : Int} {x : Int64} (hd : decode M.2.1 pc = .ok (.lastore, 1)) (hq : h.2 q = .inr (.long, n, .inr (.inl g))) (hi : 0 ≤ i ∧ i < n ∧ i < 2147483648)
    (kk : JW G d M (pc + 1) L st (h.1, va_up h.2 q (.inr (.long, n, .inr (.inl (vp_updL g i.toNat x))))) bc bs Q) : JW G d M pc L (.long x :: .int (jI i) :: .ref q :: st) h bc bs Q := by
  intro hG p e R s m args below meth c H locs cells slots ls st' ad ad0 ws C0 hfr hlo hcc hs hw hS h0 ha hst hls
  obtain ⟨_, _, rfl, rfl, _, _, rfl, rfl, _, r, rfl, ⟨a, ha1, rfl⟩, hst⟩ := hst
  obtain ⟨e1, he1, hce⟩ := hw.at ha1
  rw [hq] at hce
  cases (show e1 = _ from hce)
  have hW := C0.2.2.2.2.2.2.2.1
  refine va_last C0.1 C0.2.1 (ji_K hG hW) hw.1 hw.2.1 hS q (ji_ti .long) he1 rfl (jI_in hi) hd (fun H1 locs1 hP1 hD1 hS1 => ?_)
  have e9 : (jI i).toNatClampNeg = i.toNat := jI_clamp ⟨hi.1, hi.2.2⟩
  rw [e9] at hP1 hD1
  exact kk hG p e R s m args below meth c H1 locs1 cells slots ls r ad ad0 _ C0 hfr hlo hcc hs (hw.next hS h0 hP1 hD1 hS1 (hw.2.2.1.set ha1 rfl)) hS1 h0 ha hst hls
/-- the defaults of a class's fields -/
def ji_def : FieldType → Value
  | .long => .long 0
  | .object _ => .null
  | .array _ => .null
  | _ => .int (jI 0)
theorem ji_new {ci idx N : Nat} {C : String} {T : u_T} {fs : List Value} (hc : ji_cl[ci]? = some (C, T, N)) (hd : decode M.2.1 pc = .ok (.new idx, 3)) (hl : ji_in (.classLink M.1.cls idx C)) (hfs : ∀ G ad, ji_vs G ad fs fs) (hdf : ∀ j, j < N → defaultValue (ji_ty ci j) = vp_V fs j) (hbc : 1 ≤ bc) (hbs : N ≤ bs)
    (kk : JW G d M (pc + 3) L (.ref h.1 :: st) (h.1 + 1, va_up h.2 h.1 (.inl (ci, fs))) (bc - 1) (bs - N) Q) : JW G d M pc L st h bc bs Q := by
  intro hG p e R s m args below meth c H locs cells slots ls st' ad ad0 ws C0 hfr hlo hcc hs hw hS h0 ha hst hls
  have hW := C0.2.2.2.2.2.2.2.1
  refine va_new (own := M.1.cls) C0.1 C0.2.1 (ji_uws hG hW hc) (fun w hm => hm) (ji_ty ci) (ji_cls hc).2.1 C0.2.2.2.2.1 (ji_word hG hW hl) (ji_word hG hW (ji_cls hc).2.2.2.1) (ji_word hG hW (ji_cls hc).2.2.2.2) (ji_K hG hW) hw.1 hw.2.1 hS (fun q hq => Nat.le_trans h0 hq) hc hdf (by omega) (by omega) hd (fun q H1 hP1 hD1 hS1 => ?_)
  obtain ⟨ex, rfl⟩ := ha
  have hlen := hw.2.2.1.1
  refine kk hG p e R s m args below meth c H1 locs (cells + 1) (slots + N) ls _ ((ad0 ++ ex) ++ [q]) ad0 _ C0 hfr hlo (by omega) (by omega) (hw.next hS h0 hP1 hD1 hS1 (hw.2.2.1.push q ⟨_, rfl, hfs _ _⟩)) hS1 h0 ⟨ex ++ [q], by rw [List.append_assoc]⟩ ⟨_, st', rfl, ⟨q, ?_, rfl⟩, hst.mono [q]⟩ (hls.mono [q])
  rw [List.getElem?_append_right (by omega)]
  simp [hlen]
theorem ji_newarr {atype : ArrayType} {ty : FieldType} {n : Int} (hd : decode M.2.1 pc = .ok (.newarray atype, 2)) (hty : newarray.typeOf atype = ty) (hw0 : ji_in (.arrayClass ty)) (hk : (∀ cA : ClassId, vp_cell cA (n.toNat, .inl (fun _ => jI 0)) = arrV cA n.toNat (fun _ => defaultValue ty)) ∧ ∀ cy : Nat → ClassId, (ji_tys cy)[ji_ti ty]? = some (cy (ji_ti ty), ty)) (hr : ∀ (U : State) (a b : ClassId), va_RA U a ty → va_RA U b ty → a = b) (hn : 0 ≤ n ∧ n < 2147483648) (hb : n.toNat * componentBytes ty ≤ 536870912) (hbc : 1 ≤ bc) (hbs : n.toNat ≤ bs)
    (kk : JW G d M (pc + 2) L (.ref h.1 :: st) (h.1 + 1, va_up h.2 h.1 (.inr (ty, n.toNat, .inl (fun _ => 0)))) (bc - 1) (bs - n.toNat) Q) : JW G d M pc L (.int (jI n) :: st) h bc bs Q := by
  intro hG p e R s m args below meth c H locs cells slots ls st' ad ad0 ws C0 hfr hlo hcc hs hw hS h0 ha hst hls
  have hW := C0.2.2.2.2.2.2.2.1
  obtain ⟨_, r, rfl, rfl, hst⟩ := hst
  have e9 : (jI n).toNatClampNeg = n.toNat := jI_clamp hn
  refine va_newa C0.1 C0.2.1 (by rw [hty]; exact ji_word hG hW hw0) hty (ji_K hG hW) hw.1 hw.2.1 hS (fun q hq => Nat.le_trans h0 hq) (a0 := (n.toNat, .inl (fun _ => jI 0))) hk.1 (by rw [show (0 : Int32) = jI 0 from rfl, jI_lt (by omega) (by omega)]; omega) e9 hb (by omega) (by omega) hd (fun q cA H1 hK1 hP1 hD1 hS1 => ?_)
  have hcA : cA = G.2.2.2.1 (ji_ti ty) := by
    have h1 := (hK1.2 (ji_tys G.2.2.2.1).length (cA, ty) (by rw [List.getElem?_append_right (Nat.le_refl _)]; simp)).2
    have h2 := ((ji_K hG hW).2 _ _ (hk.2 G.2.2.2.1)).2
    exact hr s _ _ h1 h2
  subst hcA
  obtain ⟨ex, rfl⟩ := ha
  have hlen := hw.2.2.1.1
  refine kk hG p e R s m args below meth c H1 locs (cells + 1) (slots + n.toNat) ls _ ((ad0 ++ ex) ++ [q]) ad0 _ C0 hfr hlo (by omega) (by omega) (hw.next hS h0 hP1 hD1 hS1 (hw.2.2.1.push q rfl)) hS1 h0 ⟨ex ++ [q], by rw [List.append_assoc]⟩ ⟨_, r, rfl, ⟨q, ?_, rfl⟩, hst.mono [q]⟩ (hls.mono [q])
  rw [List.getElem?_append_right (by omega)]
  simp [hlen]
theorem ji_newI {n : Int} (hd : decode M.2.1 pc = .ok (.newarray .int, 2)) (hn : 0 ≤ n ∧ n < 100000) (hbc : 1 ≤ bc) (hbs : n.toNat ≤ bs)
    (kk : JW G d M (pc + 2) L (.ref h.1 :: st) (h.1 + 1, va_up h.2 h.1 (.inr (.int, n.toNat, .inl (fun _ => 0)))) (bc - 1) (bs - n.toNat) Q) : JW G d M pc L (.int (jI n) :: st) h bc bs Q :=
  ji_newarr hd rfl ⟨by decide +kernel, rfl⟩ ⟨fun cA => rfl, fun cy => rfl⟩ (fun U a b h1 h2 => Option.some.inj ((show U.vm.findClass _ = some a from h1).symm.trans h2)) (by omega) (by show n.toNat * 4 ≤ _; omega) hbc hbs kk
theorem ji_newC {n : Int} (hd : decode M.2.1 pc = .ok (.newarray .char, 2)) (hn : 0 ≤ n ∧ n < 100000) (hbc : 1 ≤ bc) (hbs : n.toNat ≤ bs)
    (kk : JW G d M (pc + 2) L (.ref h.1 :: st) (h.1 + 1, va_up h.2 h.1 (.inr (.char, n.toNat, .inl (fun _ => 0)))) (bc - 1) (bs - n.toNat) Q) : JW G d M pc L (.int (jI n) :: st) h bc bs Q :=
  ji_newarr hd rfl ⟨by decide +kernel, rfl⟩ ⟨fun cA => rfl, fun cy => rfl⟩ (fun U a b h1 h2 => Option.some.inj ((show U.vm.findClass _ = some a from h1).symm.trans h2)) (by omega) (by show n.toNat * 2 ≤ _; omega) hbc hbs kk
theorem ji_newZ {n : Int} (hd : decode M.2.1 pc = .ok (.newarray .boolean, 2)) (hn : 0 ≤ n ∧ n < 100000) (hbc : 1 ≤ bc) (hbs : n.toNat ≤ bs)
    (kk : JW G d M (pc + 2) L (.ref h.1 :: st) (h.1 + 1, va_up h.2 h.1 (.inr (.boolean, n.toNat, .inl (fun _ => 0)))) (bc - 1) (bs - n.toNat) Q) : JW G d M pc L (.int (jI n) :: st) h bc bs Q :=
  ji_newarr hd rfl ⟨by decide +kernel, rfl⟩ ⟨fun cA => rfl, fun cy => rfl⟩ (fun U a b h1 h2 => Option.some.inj ((show U.vm.findClass _ = some a from h1).symm.trans h2)) (by omega) (by show n.toNat * 1 ≤ _; omega) hbc hbs kk
end JiMake
