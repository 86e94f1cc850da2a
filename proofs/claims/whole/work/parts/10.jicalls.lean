section JiMore
variable {G : ji_G} {d : Nat} {M : ji_M} {pc : Nat} {L : List (Option Value)} {st : List Value} {h : ji_H} {bc bs : Nat} {Q : ji_R → ji_H → Prop}
theorem ji_newJ {n : Int} (hd : decode M.2.1 pc = .ok (.newarray .long, 2)) (hn : 0 ≤ n ∧ n < 100000) (hbc : 1 ≤ bc) (hbs : n.toNat ≤ bs)
    (kk : JW G d M (pc + 2) L (.ref h.1 :: st) (h.1 + 1, va_up h.2 h.1 (.inr (.long, n.toNat, .inr (.inl (fun _ => 0))))) (bc - 1) (bs - n.toNat) Q) : JW G d M pc L (.int (jI n) :: st) h bc bs Q := by
  intro hG p e R s m args below meth c H locs cells slots ls st' ad ad0 ws C0 hfr hlo hcc hs hw hS h0 ha hst hls
  have hW := C0.2.2.2.2.2.2.2.1
  obtain ⟨_, r, rfl, rfl, hst⟩ := hst
  have e9 : (jI n).toNatClampNeg = n.toNat := jI_clamp (by omega)
  refine va_newa C0.1 C0.2.1 (ty := .long) (ji_word hG hW ⟨by decide +kernel, rfl⟩) rfl (ji_K hG hW) hw.1 hw.2.1 hS (fun q hq => Nat.le_trans h0 hq) (a0 := (n.toNat, .inr (.inl (fun _ => 0)))) (fun cA => rfl) (by rw [show (0 : Int32) = jI 0 from rfl, jI_lt (by omega) (by omega)]; omega) e9 (by show n.toNat * 8 ≤ _; omega) (by omega) (by omega) hd (fun q cA H1 hK1 hP1 hD1 hS1 => ?_)
  have hcA : cA = G.2.2.2.1 (ji_ti .long) := by
    have h1 := (hK1.2 (ji_tys G.2.2.2.1).length (cA, .long) (by rw [List.getElem?_append_right (Nat.le_refl _)]; simp)).2
    have h2 := ((ji_K hG hW).2 3 _ rfl).2
    exact Option.some.inj ((show s.vm.findClass _ = some cA from h1).symm.trans h2)
  subst hcA
  obtain ⟨ex, rfl⟩ := ha
  have hlen := hw.2.2.1.1
  refine kk hG p e R s m args below meth c H1 locs (cells + 1) (slots + n.toNat) ls _ ((ad0 ++ ex) ++ [q]) ad0 _ C0 hfr hlo (by omega) (by omega) (hw.next hS h0 hP1 hD1 hS1 (hw.2.2.1.push q rfl)) hS1 h0 ⟨ex ++ [q], by rw [List.append_assoc]⟩ ⟨_, r, rfl, ⟨q, ?_, rfl⟩, hst.mono [q]⟩ (hls.mono [q])
  rw [List.getElem?_append_right (by omega)]
  simp [hlen]
theorem ji_newA {n : Int} {idx : Nat} {C : String} (hd : decode M.2.1 pc = .ok (.anewarray idx, 3)) (hl : ji_in (.classLink M.1.cls idx C)) (hov : ∀ U : State, G.1.WarmedH U.vm → ji_OK G → va_AO C U) (hty : ∀ cy : Nat → ClassId, (ji_tys cy)[ji_ti (.object C)]? = some (cy (ji_ti (.object C)), .object C)) (hn : 0 ≤ n ∧ n < 100000) (hbc : 1 ≤ bc) (hbs : n.toNat ≤ bs)
    (kk : JW G d M (pc + 3) L (.ref h.1 :: st) (h.1 + 1, va_up h.2 h.1 (.inr (.object C, n.toNat, .inr (.inr (fun _ => none))))) (bc - 1) (bs - n.toNat) Q) : JW G d M pc L (.int (jI n) :: st) h bc bs Q := by
  intro hG p e R s m args below meth c H locs cells slots ls st' ad ad0 ws C0 hfr hlo hcc hs hw hS h0 ha hst hls
  have hW := C0.2.2.2.2.2.2.2.1
  obtain ⟨_, r, rfl, rfl, hst⟩ := hst
  have e9 : (jI n).toNatClampNeg = n.toNat := jI_clamp (by omega)
  refine va_newq (own := M.1.cls) C0.1 C0.2.1 C0.2.2.2.2.1 (ji_word hG hW hl) (hov s hW hG) (ji_K hG hW) hw.1 hw.2.1 hS (fun q hq => Nat.le_trans h0 hq) (by rw [show (0 : Int32) = jI 0 from rfl, jI_lt (by omega) (by omega)]; omega) e9 (by omega) (by omega) (by omega) hd (fun q cA H1 hK1 hP1 hD1 hS1 => ?_)
  have hcA : cA = G.2.2.2.1 (ji_ti (.object C)) := by
    obtain ⟨_, _, _, _, _, h1⟩ := (hK1.2 (ji_tys G.2.2.2.1).length (cA, .object C) (by rw [List.getElem?_append_right (Nat.le_refl _)]; simp)).2
    obtain ⟨_, _, _, _, _, h2⟩ := ((ji_K hG hW).2 _ _ (hty G.2.2.2.1)).2
    exact Option.some.inj (h1.symm.trans h2)
  subst hcA
  obtain ⟨ex, rfl⟩ := ha
  have hlen := hw.2.2.1.1
  refine kk hG p e R s m args below meth c H1 locs (cells + 1) (slots + n.toNat) ls _ ((ad0 ++ ex) ++ [q]) ad0 _ C0 hfr hlo (by omega) (by omega) (hw.next hS h0 hP1 hD1 hS1 (hw.2.2.1.push q ⟨_, rfl, fun j hj => rfl⟩)) hS1 h0 ⟨ex ++ [q], by rw [List.append_assoc]⟩ ⟨_, r, rfl, ⟨q, ?_, rfl⟩, hst.mono [q]⟩ (hls.mono [q])
  rw [List.getElem?_append_right (by omega)]
  simp [hlen]
-- returns
theorem ji_ireturn {x : Int} {ty : FieldType} (hd : decode M.2.1 pc = .ok (.ireturn, 1)) (hr : M.2.2.2.1 = some ty) (hn : narrow ty (.int (jI x)) = .int (jI x)) (hq : Q (.inl (some (.int (jI x)))) h) : JW G d M pc L [.int (jI x)] h bc bs Q := by
  intro hG p e R s m args below meth c H locs cells slots ls st' ad ad0 ws C0 hfr hlo hcc hs hw hS h0 ha hst hls
  obtain ⟨_, _, rfl, rfl, hst⟩ := hst
  cases (show _ = [] from hst)
  refine W.widen (k := R.cells) (n := R.slots) (by omega) (by omega) (vx_ret ?_)
  exact W.zret C0.1 C0.2.1 (C0.2.2.2.1.trans hr) hn (fun t ht hW => ⟨some (.int (jI x)), _, h, ad, ws, rfl, ⟨_, rfl, rfl⟩, ha, by rw [ht]; exact hw, hq, by rw [ht]; exact hS.1⟩) (fun q hq => hS.2.2 q hq) hd C0.2.2.2.2.2.1
theorem ji_lreturn {x : Int64} (hd : decode M.2.1 pc = .ok (.lreturn, 1)) (hr : M.2.2.2.1 = some .long) (hq : Q (.inl (some (.long x))) h) : JW G d M pc L [.long x] h bc bs Q := by
  intro hG p e R s m args below meth c H locs cells slots ls st' ad ad0 ws C0 hfr hlo hcc hs hw hS h0 ha hst hls
  obtain ⟨_, _, rfl, rfl, hst⟩ := hst
  cases (show _ = [] from hst)
  refine W.widen (k := R.cells) (n := R.slots) (by omega) (by omega) (vx_ret ?_)
  exact W.lret C0.1 C0.2.1 (C0.2.2.2.1.trans hr) (fun t ht hW => ⟨some (.long x), _, h, ad, ws, rfl, ⟨_, rfl, rfl⟩, ha, by rw [ht]; exact hw, hq, by rw [ht]; exact hS.1⟩) (fun q hq => hS.2.2 q hq) hd C0.2.2.2.2.2.1
theorem ji_dreturn {x : UInt64} (hd : decode M.2.1 pc = .ok (.dreturn, 1)) (hr : M.2.2.2.1 = some .double) (hq : Q (.inl (some (.double x))) h) : JW G d M pc L [.double x] h bc bs Q := by
  intro hG p e R s m args below meth c H locs cells slots ls st' ad ad0 ws C0 hfr hlo hcc hs hw hS h0 ha hst hls
  obtain ⟨_, _, rfl, rfl, hst⟩ := hst
  cases (show _ = [] from hst)
  refine W.widen (k := R.cells) (n := R.slots) (by omega) (by omega) (vx_ret ?_)
  exact W.dret C0.1 C0.2.1 (C0.2.2.2.1.trans hr) (fun t ht hW => ⟨some (.double x), _, h, ad, ws, rfl, ⟨_, rfl, rfl⟩, ha, by rw [ht]; exact hw, hq, by rw [ht]; exact hS.1⟩) (fun q hq => hS.2.2 q hq) hd C0.2.2.2.2.2.1
theorem ji_return (hd : decode M.2.1 pc = .ok (.return_, 1)) (hr : M.2.2.2.1 = none) (hq : Q (.inl none) h) : JW G d M pc L [] h bc bs Q := by
  intro hG p e R s m args below meth c H locs cells slots ls st' ad ad0 ws C0 hfr hlo hcc hs hw hS h0 ha hst hls
  cases (show _ = [] from hst)
  refine W.widen (k := R.cells) (n := R.slots) (by omega) (by omega) (vx_ret ?_)
  exact W.vret C0.1 C0.2.1 (C0.2.2.2.1.trans hr) (fun t ht hW => ⟨none, _, h, ad, ws, rfl, rfl, ha, by rw [ht]; exact hw, hq, by rw [ht]; exact hS.1⟩) (fun q hq => hS.2.2 q hq) hd C0.2.2.2.2.2.1
theorem ji_areturn {v : Value} {ty : FieldType} (hd : decode M.2.1 pc = .ok (.areturn, 1)) (hr : M.2.2.2.1 = some ty) (hty : (∃ n, ty = .object n) ∨ ∃ t, ty = .array t) (hv : ji_isR v) (hq : Q (.inl (some v)) h) : JW G d M pc L [v] h bc bs Q := by
  intro hG p e R s m args below meth c H locs cells slots ls st' ad ad0 ws C0 hfr hlo hcc hs hw hS h0 ha hst hls
  obtain ⟨v', _, rfl, hvv, hst⟩ := hst
  cases (show _ = [] from hst)
  refine W.widen (k := R.cells) (n := R.slots) (by omega) (by omega) (vx_ret ?_)
  exact W.aret C0.1 C0.2.1 (C0.2.2.2.1.trans hr) hty (hvv.isR hv) (fun t ht hW => ⟨some v, _, h, ad, ws, rfl, ⟨_, rfl, hvv⟩, ha, by rw [ht]; exact hw, hq, by rw [ht]; exact hS.1⟩) (fun q hq => hS.2.2 q hq) hd C0.2.2.2.2.2.1
end JiMore
/-! ===== calls ===== -/
/-- the words of a method that is called -/
def ji_mw (M2 : ji_M) (n : Nat) : Prop := ji_in (ji_cw M2) ∧ ji_in (.initialized M2.1.cls) ∧ M2.1.cls ≠ "java/lang/invoke/MethodHandle" ∧ M2.1.cls ≠ "java/lang/invoke/VarHandle" ∧ (parseMethodDescriptor M2.1.desc).map (fun d => d.parameters.length) = some n ∧ M2.2.2.1 ≤ 11 ∧ M2.2.2.2.2 = []
def ji_mv (M2 : ji_M) : Prop := ji_in (.instanceMethod M2.1) ∧ ji_in (.selects M2.1.cls M2.1 M2.1)
theorem ji_blind {G : ji_G} {ad : List Nat} {h : ji_H} {as : List Value} : FrameBlind (ji_Pc G ad h as) := fun a U g mk hp => hp
theorem ji_callB {G : ji_G} (hG : ji_OK G) {M M2 : ji_M} {R : Room} {s : State} {args : Array Value} {idx n d bc bs : Nat} (hW : G.1.WarmedH s.vm) (hm : ji_mw M2 n) (hl : ji_in (.methodLink M.1.cls idx M2.1)) (hfr : d + 1 ≤ R.frames) (hlo : 30 * (d + 1) ≤ R.locals) :
    CallB R s args M.1.cls idx M2.1 M2.2.1 M2.2.2.1 M2.2.2.2.1 [ji_cw M2] ({ frames := d, cells := bc, slots := bs, locals := 30 * d }) bc bs n := by
  obtain ⟨h1, h2, h3, h4, h5, h6, h7⟩ := hm
  have hcw : ji_cw M2 = Cond.code M2.1 M2.2.1 M2.2.2.1 M2.2.2.2.1 := by unfold ji_cw; rw [h7]
  refine ⟨rfl, rfl, hfr, by show 8 + (M2.2.2.1 + 11) + 30 * d ≤ R.locals; omega, ?_, ?_, ?_, ji_word hG hW h2, ⟨h3, h4⟩, ?_, ji_word hG hW hl⟩
  · intro w hw a' U hU
    rw [List.mem_singleton] at hw
    subst hw
    exact ji_word hG (State.WarmedH.trans hW hU) h1
  · rw [hcw]; exact List.mem_singleton.mpr rfl
  · rw [← hcw]; exact ji_word hG hW h1
  · intro sig hsig
    rw [hsig] at h5
    exact (Option.some.inj h5).symm
section JiCall
variable {G : ji_G} {d : Nat} {M M2 : ji_M} {pc : Nat} {L : List (Option Value)} {st : List Value} {h : ji_H} {bc bs bc2 bs2 : Nat} {Q Q2 : ji_R → ji_H → Prop}
/-- from a run of a callee to what comes behind it -/
theorem ji_ofRun {p : Program} {e : Env} {R : Room} {s : State} {m : MethodId} {args : Array Value} {below : List Frame} {meth : Method} {c : Code} {H : Heap} {locs : List Loc} {cells slots : Nat} {ls : Array Slot} {st0 rest : List Value} {ad ad0 : List Nat} {ws : va_W} {xs : Array Value}
    (hG : ji_OK G) (C0 : ji_cx G M p s m meth c) (htab : M.2.2.2.2 = []) (hfr : d ≤ R.frames) (hlo : 30 * d ≤ R.locals) (hcc : cells + bc ≤ R.cells) (hs : slots + bs ≤ R.slots) (hw : ji_w G ad h ws H) (hS : va_S (ji_A G) s.heap H locs) (h0 : G.1.heap.size ≤ s.heap.size) (ha : ∃ ex, ad = ad0 ++ ex) (hst : ji_vs G ad st rest) (hls : ji_ls G ad L M.2.2.1 ls) (hbc : bc2 ≤ bc) (hbs : bs2 ≤ bs)
    (hr : vx_Run p G.2.1 e R s m args below meth c H locs cells slots bc2 bs2 (F0 m pc ls st0) rest (ji_Qc G ad Q2 xs) (ji_Xc G ad Q2) (ji_A G))
    (kk : ∀ r h', Q2 (.inl r) h' → JW G d M (pc + 3) L (r.toList ++ st) h' (bc - bc2) (bs - bs2) Q) (kx : ∀ E h', Q2 (.inr E) h' → Q (.inr E) h') :
    W p G.2.1 e R s m args below meth c H locs cells slots (vx_MQ below (ji_Qc G ad0 Q) (ji_Xc G ad0 Q) args s R.cells R.slots (ji_A G)) (F0 m pc ls st0) := by
  intro T hT X
  obtain ⟨ex0, hex0⟩ := ha
  rcases hr T hT X with ⟨v, st₀, t, T', L1, hst0, X', hL1, e1, e2, ⟨r, r', h', ad', ws', hor, hov, ⟨ex, hex⟩, hw', hq2, hsz⟩, go⟩ | ⟨q, st₀, t, T', L1, E, ce, hst0, X', hL1, e1, e2, ⟨h', ad', ws', ⟨ex, hex⟩, hw', hq2, hsz⟩, hce, hcv, hcl, go⟩
  · cases hor
    have hS' : va_S (ji_A G) s.heap t.heap (locs ++ L1) := by
      refine ⟨Nat.le_trans hS.1 (by rw [← hst0]; exact hsz), fun q hq hn => ?_, fun z hz => ?_⟩
      · have hq0 : q < G.1.heap.size := by unfold ji_A at hn; omega
        rw [hw'.2.2.2.2 q hq0, ← hw.2.2.2.2 q hq0]
        exact hS.2.1 q hq hn
      · rcases List.mem_append.mp hz with hz | hz
        · exact hS.2.2 z hz
        · exact hL1 z hz
    subst hex
    have hst2 : ji_vs G (ad ++ ex) (r.toList ++ st) (v.toList ++ rest) := by
      cases r with
      | none => cases (show v = none from hov); exact hst.mono ex
      | some x => obtain ⟨x', rfl, hx⟩ := hov; exact ⟨x', rest, rfl, hx, hst.mono ex⟩
    obtain ⟨tt, a1, b1⟩ := kk r h' hq2 hG p e R s m args below meth c t.heap (locs ++ L1) (cells + bc2) (slots + bs2) ls (v.toList ++ rest) (ad ++ ex) ad0 ws' C0 hfr hlo (by omega) (by omega) hw' hS' h0 ⟨ex0 ++ ex, by rw [hex0, List.append_assoc]⟩ hst2 (hls.mono ex) T' e1 X'
    exact ⟨tt, go tt a1, b1⟩
  · have hS' : ∀ z ∈ locs ++ L1, ji_A G z.base := by
      intro z hz
      rcases List.mem_append.mp hz with hz | hz
      · exact hS.2.2 z hz
      · exact hL1 z hz
    have hout : ∀ x ∈ c.exceptionTable.toList, covers x pc = false := by
      rw [C0.2.2.2.2.2.2.2.2, htab]
      intro x hx
      simp [tableOf] at hx
    have K := vx_out (p := p) (l := G.2.1) (e := e) (R := R) (s := s) (m := m) (args := args) (below := below) (meth := meth) (c := c) (H := t.heap) (locs := locs ++ L1) (cells := cells + bc2) (slots := slots + bs2) (free := ji_A G) (ls := ls) (rest := rest) (Qc := ji_Qc G ad0 Q) (XC := ji_Xc G ad0 Q) (pc := pc) (mc := R.cells) (ms := R.slots) hout C0.2.2.2.2.2.1 hce hcv hcl
      (fun t2 ht2 _ => ⟨h', ad', ws', ⟨ex0 ++ ex, by rw [hex, hex0, List.append_assoc]⟩, by rw [ht2]; exact hw', kx E h' hq2, by rw [ht2]; exact Nat.le_trans hS.1 (by rw [← hst0]; exact hsz)⟩) hS' (by omega) (by omega)
    obtain ⟨tt, a1, b1⟩ := K T' e1 X'
    exact ⟨tt, go.trans a1, b1⟩
/-- a call by the receiver -/
theorem ji_callV {idx q ci N n : Nat} {C : String} {T : u_T} {as fs : List Value} {st0 : List Value} (hd : decode M.2.1 pc = .ok (.invokevirtual idx, 3)) (hM : JM G d M2 (.ref q :: as) h bc2 bs2 Q2) (hs0 : st0 = as.reverse ++ .ref q :: st) (hq : h.2 q = .inl (ci, fs)) (hc : ji_cl[ci]? = some (C, T, N)) (hC : M2.1.cls = C) (hm : ji_mw M2 n) (hv : ji_mv M2) (hl : ji_in (.methodLink M.1.cls idx M2.1)) (hn : as.length = n) (hcat : (st.map fun v => v.category).sum ≤ 8) (htab : M.2.2.2.2 = []) (hbc : bc2 ≤ bc) (hbs : bs2 ≤ bs)
    (kk : ∀ r h', Q2 (.inl r) h' → JW G (d + 1) M (pc + 3) L (r.toList ++ st) h' (bc - bc2) (bs - bs2) Q) (kx : ∀ E h', Q2 (.inr E) h' → Q (.inr E) h') : JW G (d + 1) M pc L st0 h bc bs Q := by
  intro hG p e R s m args below meth c H locs cells slots ls st' ad ad0 ws C0 hfr hlo hcc hs hw hS h0 ha hst hls
  subst hs0
  obtain ⟨ar, rr, rfl, har, hrr⟩ := ji_vs.split hst
  obtain ⟨b', rest, rfl, ⟨a, ha1, rfl⟩, hrest⟩ := hrr
  have hW := C0.2.2.2.2.2.2.2.1
  have has := har.rev
  rw [List.reverse_reverse] at has
  obtain ⟨e1, he1, hce⟩ := hw.at ha1
  rw [hq] at hce
  obtain ⟨fs', rfl, hfs⟩ := hce
  obtain ⟨r9, hr9, cellB, hcell, hcls, hvm, -⟩ := hw.1 q _ he1
  cases hc.symm.trans hr9
  have hKn := (ji_K hG hW).1 ci _ hc
  refine ji_ofRun (Q2 := Q2) (xs := (Value.ref a :: ar.reverse).toArray) hG C0 htab hfr hlo hcc hs hw hS h0 ha hrest hls hbc hbs ?_ kk kx
  refine vx_runV (C := M2.1.cls) (n := n) (As := ar.reverse) (b := a) (nL := M.2.2.1) (own := M.1.cls) (cc := M.2.1) (Ts := []) ⟨C0.1, C0.2.1, C0.2.2.1, C0.2.2.2.2.1, fun w hw => absurd hw List.not_mem_nil⟩ (hM hG ad) ⟨ji_callB hG hW hm hl hfr hlo, ji_word hG hW hv.1, ji_word hG hW hv.2⟩ ⟨ji_blind, ⟨cellB, hcell, by rw [hvm]; rfl, ?_⟩, fun U hU hWU => ⟨State.WarmedH.trans hW hWU, _, ws, rfl, ⟨_, _, rfl, ⟨a, ha1, rfl⟩, has⟩, by rw [hU]; exact hw⟩⟩ rfl ?_ ?_ ?_ ?_ hd (by omega)
  · rw [hC, hcls]; exact hKn.2.1
  · rw [has.len]; exact hn
  · obtain ⟨lv, q1, -⟩ := hls; exact q1.1
  · show ar ++ _ = ar.reverse.reverse ++ _; rw [List.reverse_reverse]
  · show 2 * JFrame.monitorRoom (F0 m pc ls _) + _ ≤ 8
    rw [hrest.cat]
    exact lv_room hcat
theorem ji_callS {idx n : Nat} {as : List Value} {st0 : List Value} (hd : decode M.2.1 pc = .ok (.invokestatic idx, 3)) (hM : JM G d M2 as h bc2 bs2 Q2) (hs0 : st0 = as.reverse ++ st) (hm : ji_mw M2 n) (hv : ji_in (.static M2.1)) (hl : ji_in (.methodLink M.1.cls idx M2.1)) (hn : as.length = n) (hcat : (st.map fun v => v.category).sum ≤ 8) (htab : M.2.2.2.2 = []) (hbc : bc2 ≤ bc) (hbs : bs2 ≤ bs)
    (kk : ∀ r h', Q2 (.inl r) h' → JW G (d + 1) M (pc + 3) L (r.toList ++ st) h' (bc - bc2) (bs - bs2) Q) (kx : ∀ E h', Q2 (.inr E) h' → Q (.inr E) h') : JW G (d + 1) M pc L st0 h bc bs Q := by
  intro hG p e R s m args below meth c H locs cells slots ls st' ad ad0 ws C0 hfr hlo hcc hs hw hS h0 ha hst hls
  subst hs0
  obtain ⟨ar, rest, rfl, har, hrest⟩ := ji_vs.split hst
  have hW := C0.2.2.2.2.2.2.2.1
  have has := har.rev
  rw [List.reverse_reverse] at has
  refine ji_ofRun (Q2 := Q2) (xs := ar.reverse.toArray) hG C0 htab hfr hlo hcc hs hw hS h0 ha hrest hls hbc hbs ?_ kk kx
  refine vx_runS (n := n) (As := ar.reverse) (nL := M.2.2.1) (own := M.1.cls) (cc := M.2.1) (Ts := []) ⟨C0.1, C0.2.1, C0.2.2.1, C0.2.2.2.2.1, fun w hw => absurd hw List.not_mem_nil⟩ (hM hG ad) ⟨ji_callB hG hW hm hl hfr hlo, ji_word hG hW hv⟩ ⟨ji_blind, fun U hU hWU => ⟨State.WarmedH.trans hW hWU, _, ws, rfl, has, by rw [hU]; exact hw⟩⟩ rfl ?_ ?_ ?_ ?_ hd (by omega)
  · rw [has.len]; exact hn
  · obtain ⟨lv, q1, -⟩ := hls; exact q1.1
  · show ar ++ _ = ar.reverse.reverse ++ _; rw [List.reverse_reverse]
  · show 2 * JFrame.monitorRoom (F0 m pc ls _) + _ ≤ 8
    rw [hrest.cat]
    exact lv_room hcat
end JiCall
