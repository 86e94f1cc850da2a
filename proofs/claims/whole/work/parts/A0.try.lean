/-! ===== a call under handlers ===== -/
/-- an exception E that comes at pc is taken at hp -/
def ji_hd (M : ji_M) (pc : Nat) (E : String) (hp : Nat) : Prop := ∃ (pre : List ExceptionTableEntry) (x : ExceptionTableEntry) (suf : List ExceptionTableEntry), tableOf M.2.2.2.2 = pre ++ x :: suf
  ∧ (∀ z ∈ pre, covers z pc = false ∨ (z.catchType ≠ 0 ∧ ∃ F, F ∈ ji_E ∧ E ≠ F ∧ ji_in (.classLink M.1.cls z.catchType F))) ∧ covers x pc = true ∧ x.catchType ≠ 0 ∧ ji_in (.classLink M.1.cls x.catchType E) ∧ E ∈ ji_E ∧ x.handlerPc = hp
section JiTry
variable {G : ji_G} {d : Nat} {M M2 : ji_M} {pc : Nat} {L : List (Option Value)} {st : List Value} {h : ji_H} {bc bs bc2 bs2 : Nat} {Q Q2 : ji_R → ji_H → Prop}
theorem ji_ofRunT {p : Program} {e : Env} {R : Room} {s : State} {m : MethodId} {args : Array Value} {below : List Frame} {meth : Method} {c : Code} {H : Heap} {locs : List Loc} {cells slots : Nat} {ls : Array Slot} {st0 rest : List Value} {ad ad0 : List Nat} {ws : va_W} {xs : Array Value}
    (hG : ji_OK G) (C0 : ji_cx G M p s m meth c) (hfr : d ≤ R.frames) (hlo : 30 * d ≤ R.locals) (hcc : cells + bc ≤ R.cells) (hs : slots + bs ≤ R.slots) (hw : ji_w G ad h ws H) (hS : va_S (ji_A G) s.heap H locs) (h0 : G.1.heap.size ≤ s.heap.size) (ha : ∃ ex, ad = ad0 ++ ex) (hst : ji_vs G ad st rest) (hls : ji_ls G ad L M.2.2.1 ls) (hbc : bc2 ≤ bc) (hbs : bs2 ≤ bs)
    (hr : vx_Run p G.2.1 e R s m args below meth c H locs cells slots bc2 bs2 (F0 m pc ls st0) rest (ji_Qc G ad Q2 xs) (ji_Xc G ad Q2) (ji_A G))
    (kk : ∀ r h', Q2 (.inl r) h' → JW G d M (pc + 3) L (r.toList ++ st) h' (bc - bc2) (bs - bs2) Q) (kx : ∀ E h', Q2 (.inr E) h' → ∃ hp, ji_hd M pc E hp ∧ JW G d M hp L [.float 0] h' (bc - bc2) (bs - bs2) Q) :
    W p G.2.1 e R s m args below meth c H locs cells slots (vx_MQ below (ji_Qc G ad0 Q) (ji_Xc G ad0 Q) args s R.cells R.slots (ji_A G)) (F0 m pc ls st0) := by
  intro T hT X
  obtain ⟨ex0, hex0⟩ := ha
  have hW := C0.2.2.2.2.2.2.2.1
  rcases hr T hT X with ⟨v, st₀, t, T', L1, hst0, X', hL1, e1, e2, ⟨r, r', h', ad', ws', hor, hov, ⟨ex, hex⟩, hw', hq2, hsz⟩, go⟩ | ⟨q, st₀, t, T', L1, E, ce, hst0, X', hL1, e1, e2, ⟨h', ad', ws', ⟨ex, hex⟩, hw', hq2, hsz⟩, hce, hcv, hcl, go⟩
  · cases hor
    have hS' : va_S (ji_A G) s.heap t.heap (locs ++ L1) := by
      refine ⟨Nat.le_trans hS.1 (by rw [← hst0]; exact hsz), fun q hq hn => ?_, fun z hz => ?_⟩
      · have hq0 : q < G.1.heap.size := by unfold ji_A at hn; omega
        rw [hw'.2.2.2.2 q hq0, ← hw.2.2.2.2 q hq0]
        exact hS.2.1 q hq hn
      · rcases List.mem_append.mp hz with hz | hz
        · exact hS.2.2 z hz
        · exact hL1 z hz
    subst hex
    have hst2 : ji_vs G (ad ++ ex) (r.toList ++ st) (v.toList ++ rest) := by
      cases r with
      | none => cases (show v = none from hov); exact hst.mono ex
      | some x => obtain ⟨x', rfl, hx⟩ := hov; exact ⟨x', rest, rfl, hx, hst.mono ex⟩
    obtain ⟨tt, a1, b1⟩ := kk r h' hq2 hG p e R s m args below meth c t.heap (locs ++ L1) (cells + bc2) (slots + bs2) ls (v.toList ++ rest) (ad ++ ex) ad0 ws' C0 hfr hlo (by omega) (by omega) hw' hS' h0 ⟨ex0 ++ ex, by rw [hex0, List.append_assoc]⟩ hst2 (hls.mono ex) T' e1 X'
    exact ⟨tt, go tt a1, b1⟩
  · have hS' : va_S (ji_A G) s.heap t.heap (locs ++ L1) := by
      refine ⟨Nat.le_trans hS.1 (by rw [← hst0]; exact hsz), fun q hq hn => ?_, fun z hz => ?_⟩
      · have hq0 : q < G.1.heap.size := by unfold ji_A at hn; omega
        rw [hw'.2.2.2.2 q hq0, ← hw.2.2.2.2 q hq0]
        exact hS.2.1 q hq hn
      · rcases List.mem_append.mp hz with hz | hz
        · exact hS.2.2 z hz
        · exact hL1 z hz
    subst hex
    obtain ⟨hp, ⟨pre, x, suf, t1, t2, t3, t4, t5, t6, t7⟩, kj⟩ := kx E h' hq2
    have K := vx_catch (p := p) (l := G.2.1) (e := e) (R := R) (s := s) (m := m) (args := args) (below := below) (meth := meth) (c := c) (H := t.heap) (locs := locs ++ L1) (cells := cells + bc2) (slots := slots + bs2) (ls := ls) (rest := rest) (pc := pc) (own := M.1.cls) (name := E) (E := E) (ce := ce) (q := q) (Q := vx_MQ below (ji_Qc G ad0 Q) (ji_Xc G ad0 Q) args s R.cells R.slots (ji_A G)) C0.2.2.2.2.1 pre x suf (by rw [C0.2.2.2.2.2.2.2.2]; exact t1)
      (fun z hz => by
        rcases t2 z hz with a | ⟨a1, F, a2, a3, a4⟩
        · exact Or.inl a
        · exact Or.inr ⟨a1, F, ji_word hG hW a4, va_Nc.moved hW.alike (hG.2.2.2.2.2.2.2.2.2.2.2.1 E t6 F a2 a3)⟩)
      t3 t4 (ji_word hG hW t5) (va_Nw.use rfl (va_Nw.warmC hW (hG.2.2.2.2.2.2.2.2.2.2.1 E t6))) hce hcv hcl
      (by
        rw [t7]
        exact kj hG p e R s m args below meth c t.heap (locs ++ L1) (cells + bc2) (slots + bs2) ls [.ref q] (ad ++ ex) ad0 ws' C0 hfr hlo (by omega) (by omega) hw' hS' h0 ⟨ex0 ++ ex, by rw [hex0, List.append_assoc]⟩ ⟨_, _, rfl, ⟨q, rfl⟩, rfl⟩ (hls.mono ex))
    obtain ⟨tt, a1, b1⟩ := K T' e1 X'
    exact ⟨tt, go.trans a1, b1⟩
theorem ji_callVT {idx q ci N n : Nat} {C : String} {T : u_T} {as fs : List Value} {st0 : List Value} (hd : decode M.2.1 pc = .ok (.invokevirtual idx, 3)) (hM : JM G d M2 (.ref q :: as) h bc2 bs2 Q2) (hs0 : st0 = as.reverse ++ .ref q :: st) (hq : h.2 q = .inl (ci, fs)) (hc : ji_cl[ci]? = some (C, T, N)) (hC : M2.1.cls = C) (hm : ji_mw M2 n) (hv : ji_mv M2) (hl : ji_in (.methodLink M.1.cls idx M2.1)) (hn : as.length = n) (hcat : (st.map fun v => v.category).sum ≤ 8) (hbc : bc2 ≤ bc) (hbs : bs2 ≤ bs)
    (kk : ∀ r h', Q2 (.inl r) h' → JW G (d + 1) M (pc + 3) L (r.toList ++ st) h' (bc - bc2) (bs - bs2) Q) (kx : ∀ E h', Q2 (.inr E) h' → ∃ hp, ji_hd M pc E hp ∧ JW G (d + 1) M hp L [.float 0] h' (bc - bc2) (bs - bs2) Q) : JW G (d + 1) M pc L st0 h bc bs Q := by
  intro hG p e R s m args below meth c H locs cells slots ls st' ad ad0 ws C0 hfr hlo hcc hs hw hS h0 ha hst hls
  subst hs0
  obtain ⟨ar, rr, rfl, har, hrr⟩ := ji_vs.split hst
  obtain ⟨b', rest, rfl, ⟨a, ha1, rfl⟩, hrest⟩ := hrr
  have hW := C0.2.2.2.2.2.2.2.1
  have has := har.rev
  rw [List.reverse_reverse] at has
  obtain ⟨e1, he1, hce⟩ := hw.at ha1
  rw [hq] at hce
  obtain ⟨fs', rfl, hfs⟩ := hce
  obtain ⟨r9, hr9, cellB, hcell, hcls, hvm, -⟩ := hw.1 q _ he1
  cases hc.symm.trans hr9
  have hKn := (ji_K hG hW).1 ci _ hc
  refine ji_ofRunT (Q2 := Q2) (xs := (Value.ref a :: ar.reverse).toArray) hG C0 hfr hlo hcc hs hw hS h0 ha hrest hls hbc hbs ?_ kk kx
  refine vx_runV (C := M2.1.cls) (n := n) (As := ar.reverse) (b := a) (nL := M.2.2.1) (own := M.1.cls) (cc := M.2.1) (Ts := []) ⟨C0.1, C0.2.1, C0.2.2.1, C0.2.2.2.2.1, fun w hw => absurd hw List.not_mem_nil⟩ (hM hG ad) ⟨ji_callB hG hW hm hl hfr hlo, ji_word hG hW hv.1, ji_word hG hW hv.2⟩ ⟨ji_blind, ⟨cellB, hcell, by rw [hvm]; rfl, ?_⟩, fun U hU hWU => ⟨State.WarmedH.trans hW hWU, _, ws, rfl, ⟨_, _, rfl, ⟨a, ha1, rfl⟩, has⟩, by rw [hU]; exact hw⟩⟩ rfl ?_ ?_ ?_ ?_ hd (by omega)
  · rw [hC, hcls]; exact hKn.2.1
  · rw [has.len]; exact hn
  · obtain ⟨lv, q1, -⟩ := hls; exact q1.1
  · show ar ++ _ = ar.reverse.reverse ++ _; rw [List.reverse_reverse]
  · show 2 * JFrame.monitorRoom (F0 m pc ls _) + _ ≤ 8
    rw [hrest.cat]
    exact lv_room hcat
end JiTry
theorem lL_13c : ji_in (.classLink "BookPagerLaw" 13 "java/lang/IllegalArgumentException") := ⟨by decide +kernel, by decide +kernel⟩
theorem lL_15c : ji_in (.classLink "BookPagerLaw" 15 "java/lang/IllegalStateException") := ⟨by decide +kernel, by decide +kernel⟩
theorem lL_24c : ji_in (.classLink "BookPagerLaw" 24 "java/lang/IndexOutOfBoundsException") := ⟨by decide +kernel, by decide +kernel⟩
