def ji_dcl : List String := ["java/lang/RuntimeException", "java/lang/Exception", "java/lang/Throwable"]
def ji_bads (E : String) : List Cond := .castable E E :: ji_dcl.map (fun Y => Cond.declares ⟨Y, "<init>", "(Ljava/lang/String;)V"⟩)
theorem ji_dcl_in : ∀ Y ∈ ji_dcl, Cond.declares ⟨Y, "<init>", "(Ljava/lang/String;)V"⟩ ∈ lw_tbl := by decide +kernel
/-- what a throw needs of the tables -/
def ji_thr (ik ic : Nat) (E : String) : Prop := E ∈ ji_E ∧ Bundle.fit E = true ∧ ji_in (.classLink RX7 ik E) ∧ ji_in (.initialized E) ∧ (∀ w ∈ (vx_atS RX7 ic E ["java/lang/RuntimeException", "java/lang/Exception"]).filter goodWord, w ∈ lw_tbl) ∧ (∀ w ∈ (vx_atS RX7 ic E ["java/lang/RuntimeException", "java/lang/Exception"]).filter (fun w => !goodWord w), w ∈ ji_bads E) ∧ (∀ w ∈ Cond.classLink RX7 ik E :: Cond.initialized E :: vx_atS RX7 ic E ["java/lang/RuntimeException", "java/lang/Exception"], vx_ot w = true)
theorem ji_thrA : ji_thr 75 79 "java/lang/IllegalArgumentException" := ⟨by decide +kernel, by decide +kernel, ⟨by decide +kernel, by decide +kernel⟩, ⟨by decide +kernel, by decide +kernel⟩, by decide +kernel, by decide +kernel, by decide +kernel⟩
theorem ji_thrS : ji_thr 86 90 "java/lang/IllegalStateException" := ⟨by decide +kernel, by decide +kernel, ⟨by decide +kernel, by decide +kernel⟩, ⟨by decide +kernel, by decide +kernel⟩, by decide +kernel, by decide +kernel, by decide +kernel⟩
theorem ji_thrI : ji_thr 184 188 "java/lang/IndexOutOfBoundsException" := ⟨by decide +kernel, by decide +kernel, ⟨by decide +kernel, by decide +kernel⟩, ⟨by decide +kernel, by decide +kernel⟩, by decide +kernel, by decide +kernel, by decide +kernel⟩
theorem ji_thr_at {G : ji_G} {ik ic : Nat} {E : String} {s : State} {args : Array Value} (hG : ji_OK G) (hW : G.1.WarmedH s.vm) (ht : ji_thr ik ic E) : ∀ w ∈ vx_atS RX7 ic E ["java/lang/RuntimeException", "java/lang/Exception"], w.before args s = true := by
  obtain ⟨h1, -, -, -, h5, h6, -⟩ := ht
  refine vx_hat (B := ji_bads E) (fun w hw => ?_) h6 (fun w hw => ?_)
  · exact ji_word hG hW ⟨h5 w hw, (List.mem_filter.mp hw).2⟩
  · rcases List.mem_cons.mp hw with rfl | hw
    · exact va_Nw.use rfl (va_Nw.warmC hW (hG.2.2.2.2.2.2.2.2.2.2.1 E h1))
    · obtain ⟨Y, hY, rfl⟩ := List.mem_map.mp hw
      exact va_Nw.use rfl (va_Nw.warmD hW (va_Nw.of rfl (hG.1 _ (ji_dcl_in Y hY))))
section JiThrow
variable {G : ji_G} {d : Nat} {M M2 : ji_M} {pc : Nat} {L : List (Option Value)} {st : List Value} {h : ji_H} {bc bs bc2 bs2 : Nat} {Q Q2 : ji_R → ji_H → Prop}
theorem ji_Zq {n dd : String} {s : State} (hW : G.1.WarmedH s.vm) (h0 : G.1.heap.size ≤ s.heap.size) (hk : ∀ q, q < G.1.heap.size → s.heap[q]? = G.1.heap[q]?) (hz : vx_Zq Bundle.tN n dd (ji_A G) G.1 G.1.heap) : vx_Zq Bundle.tN n dd (ji_A G) s s.heap :=
  (vx_Zq.moved hW.alike hz).kept (fun a ha hn => hk a ha)
theorem ji_hk {ad : List Nat} {ws : va_W} {H : Heap} {s : State} {locs : List Loc} (hw : ji_w G ad h ws H) (hS : va_S (ji_A G) s.heap H locs) (h0 : G.1.heap.size ≤ s.heap.size) : ∀ q, q < G.1.heap.size → s.heap[q]? = G.1.heap[q]? := by
  intro q hq
  rw [← hS.2.1 q (by omega) (by unfold ji_A; omega)]
  exact hw.2.2.2.2 q hq
theorem ji_w.grow {ad : List Nat} {ws : va_W} {H H1 : Heap} (hw : ji_w G ad h ws H) (h1 : H.size ≤ H1.size) (h2 : ∀ q, q < H.size → H1[q]? = H[q]?) : ji_w G ad h ws H1 := by
  obtain ⟨q1, q2, q3, q4, q5⟩ := hw
  refine ⟨q1.kept (fun k q hk => h2 _ (q1 k q hk).lt), q2, q3, by omega, fun q hq => ?_⟩
  rw [h2 q (by omega)]
  exact q5 q hq
theorem ji_throw {ik ic is : Nat} {E text : String} (ht : ji_thr ik ic E) (hcl : M.1.cls = RX7) (hst0 : (is, text) ∈ ji_str) (htab : M.2.2.2.2 = [])
    (d0 : decode M.2.1 pc = .ok (.new ik, 3)) (d3 : decode M.2.1 (pc + 3) = .ok (.dup, 1)) (d4 : decode M.2.1 (pc + 4) = .ok (.ldc is, 2)) (d6 : decode M.2.1 (pc + 6) = .ok (.invokespecial ic, 3)) (d9 : decode M.2.1 (pc + 9) = .ok (.athrow, 1))
    (hbc : 1 ≤ bc) (hbs : 6 ≤ bs) (hcat : (st.map fun v => v.category).sum ≤ 8) (hq : Q (.inr E) h) : JW G (d + 6) M pc L st h bc bs Q := by
  intro hG p e R s m args below meth c H locs cells slots ls st' ad ad0 ws C0 hfr hlo hcc hs hw hS h0 ha hst hls
  have hW := C0.2.2.2.2.2.2.2.1
  obtain ⟨sa, hsa⟩ := hG.2.2.2.2.2.2.2.2.2.1 _ hst0
  have hkk := ji_hk hw hS h0
  have hown : s.vm.findClass RX7 = some m.cls := by rw [← hcl]; exact C0.2.2.2.2.1
  refine vx_throwS (own := RX7) (cls := E) (text := text) (names := ["java/lang/RuntimeException", "java/lang/Exception"]) (A := ji_A G) C0.1 C0.2.1 hG.2.2.1 hown ht.2.1 (by decide +kernel) (ji_word hG hW ht.2.2.1) (ji_word hG hW ht.2.2.2.1) (vk_R.warm hW hsa) (ji_thr_at hG hW ht) ht.2.2.2.2.2.2 (ji_Zq hW h0 hkk hG.2.2.2.2.2.1) (ji_Zq hW h0 hkk hG.2.2.2.2.2.2.1) hS (by obtain ⟨lv, q1, -⟩ := hls; exact q1.1.trans C0.2.2.1.symm) d0 d3 d4 d6 d9 ?_ (by show 2 + 3 < R.frames; omega) ?_ (by omega) (by omega) C0.2.2.2.2.2.1 (fun t hvm hsz hkp => ?_) (fun z hz => hS.2.2 z hz) (by omega) (by omega)
  · rw [C0.2.2.2.2.2.2.2.2, htab]
    intro x hx
    simp [tableOf] at hx
  · rw [hst.cat]
    show _ + (13 * (2 + 1) + 43) ≤ R.locals
    omega
  · exact ⟨h, ad, ws, ha, hw.grow hsz hkp, hq, Nat.le_trans hS.1 hsz⟩
theorem ji_throwW {ik ic is : Nat} {E text : String} (ht : ji_thr ik ic E) (hcl : M.1.cls = RX7) (hst0 : (is, text) ∈ ji_str) (htab : M.2.2.2.2 = [])
    (d0 : decode M.2.1 pc = .ok (.new ik, 3)) (d3 : decode M.2.1 (pc + 3) = .ok (.dup, 1)) (d4 : decode M.2.1 (pc + 4) = .ok (.ldc_w is, 3)) (d7 : decode M.2.1 (pc + 7) = .ok (.invokespecial ic, 3)) (d10 : decode M.2.1 (pc + 10) = .ok (.athrow, 1))
    (hbc : 1 ≤ bc) (hbs : 6 ≤ bs) (hcat : (st.map fun v => v.category).sum ≤ 8) (hq : Q (.inr E) h) : JW G (d + 6) M pc L st h bc bs Q := by
  intro hG p e R s m args below meth c H locs cells slots ls st' ad ad0 ws C0 hfr hlo hcc hs hw hS h0 ha hst hls
  have hW := C0.2.2.2.2.2.2.2.1
  obtain ⟨sa, hsa⟩ := hG.2.2.2.2.2.2.2.2.2.1 _ hst0
  have hkk := ji_hk hw hS h0
  have hown : s.vm.findClass RX7 = some m.cls := by rw [← hcl]; exact C0.2.2.2.2.1
  refine vx_throwSW (own := RX7) (cls := E) (text := text) (names := ["java/lang/RuntimeException", "java/lang/Exception"]) (A := ji_A G) C0.1 C0.2.1 hG.2.2.1 hown ht.2.1 (by decide +kernel) (ji_word hG hW ht.2.2.1) (ji_word hG hW ht.2.2.2.1) (vk_R.warm hW hsa) (ji_thr_at hG hW ht) ht.2.2.2.2.2.2 (ji_Zq hW h0 hkk hG.2.2.2.2.2.1) (ji_Zq hW h0 hkk hG.2.2.2.2.2.2.1) hS (by obtain ⟨lv, q1, -⟩ := hls; exact q1.1.trans C0.2.2.1.symm) d0 d3 d4 d7 d10 ?_ (by show 2 + 3 < R.frames; omega) ?_ (by omega) (by omega) C0.2.2.2.2.2.1 (fun t hvm hsz hkp => ?_) (fun z hz => hS.2.2 z hz) (by omega) (by omega)
  · rw [C0.2.2.2.2.2.2.2.2, htab]
    intro x hx
    simp [tableOf] at hx
  · rw [hst.cat]
    show _ + (13 * (2 + 1) + 43) ≤ R.locals
    omega
  · exact ⟨h, ad, ws, ha, hw.grow hsz hkp, hq, Nat.le_trans hS.1 hsz⟩
-- statics and the script
theorem ji_gets {idx : Nat} (hd : decode M.2.1 pc = .ok (.getstatic idx, 3)) (hcl : M.1.cls = RX7) (hl : ji_in (.fieldLink RX7 idx RX7 "STYLE_LIMITS" "[I")) (kk : JW G d M (pc + 3) L (.retAddr 0 :: st) h bc bs Q) : JW G d M pc L st h bc bs Q := by
  intro hG p e R s m args below meth c H locs cells slots ls st' ad ad0 ws C0 hfr hlo hcc hs hw hS h0 ha hst hls
  have hW := C0.2.2.2.2.2.2.2.1
  have hown : s.vm.findClass RX7 = some m.cls := by rw [← hcl]; exact C0.2.2.2.2.1
  refine va_gets (own := RX7) (ref := RX7) (C := RX7) C0.1 C0.2.1 ((va_Z.moved hW.alike hG.2.2.2.2.2.2.2.1).kept (fun a ha hn => ji_hk hw hS h0 a ha)) hS hown (ji_word hG hW hl) (fun x hx => hx) hd ?_
  exact kk hG p e R s m args below meth c H locs cells slots ls _ ad ad0 ws C0 hfr hlo hcc hs hw hS h0 ha ⟨_, st', rfl, rfl, hst⟩ hls
theorem ji_slen (hd : decode M.2.1 pc = .ok (.arraylength, 1)) (kk : JW G d M (pc + 1) L (.int (jI 5) :: st) h bc bs Q) : JW G d M pc L (.retAddr 0 :: st) h bc bs Q := by
  intro hG p e R s m args below meth c H locs cells slots ls st' ad ad0 ws C0 hfr hlo hcc hs hw hS h0 ha hst hls
  have hW := C0.2.2.2.2.2.2.2.1
  obtain ⟨_, r, rfl, rfl, hst⟩ := hst
  refine va_tlen C0.1 C0.2.1 ((va_T.moved hW.alike hG.2.2.2.2.2.2.2.2.1).kept (fun a ha hn => ji_hk hw hS h0 a ha)) hS (jI_nat 5) hd ?_
  exact kk hG p e R s m args below meth c H locs cells slots ls _ ad ad0 ws C0 hfr hlo hcc hs hw hS h0 ha ⟨_, r, rfl, rfl, hst⟩ hls
theorem ji_sld {i : Int} (hd : decode M.2.1 pc = .ok (.iaload, 1)) (hi : 0 ≤ i ∧ i < 5) (kk : JW G d M (pc + 1) L (.int (jI ([4, 4, 2, 1, 1].getD i.toNat 0)) :: st) h bc bs Q) : JW G d M pc L (.int (jI i) :: .retAddr 0 :: st) h bc bs Q := by
  intro hG p e R s m args below meth c H locs cells slots ls st' ad ad0 ws C0 hfr hlo hcc hs hw hS h0 ha hst hls
  have hW := C0.2.2.2.2.2.2.2.1
  obtain ⟨_, _, rfl, rfl, _, r, rfl, rfl, hst⟩ := hst
  refine va_ti C0.1 C0.2.1 ((va_T.moved hW.alike hG.2.2.2.2.2.2.2.2.1).kept (fun a ha hn => ji_hk hw hS h0 a ha)) hS (jI_in (by omega)) (by rw [jI_clamp (by omega)]) hd ?_
  exact kk hG p e R s m args below meth c H locs cells slots ls _ ad ad0 ws C0 hfr hlo hcc hs hw hS h0 ha ⟨_, r, rfl, rfl, hst⟩ hls
theorem ji_xlen (hd : decode M.2.1 pc = .ok (.arraylength, 1)) (kk : JW G d M (pc + 1) L (.int (jI G.2.2.2.2.2.2.1) :: st) h bc bs Q) : JW G d M pc L (.retAddr 1 :: st) h bc bs Q := by
  intro hG p e R s m args below meth c H locs cells slots ls st' ad ad0 ws C0 hfr hlo hcc hs hw hS h0 ha hst hls
  have hW := C0.2.2.2.2.2.2.2.1
  obtain ⟨_, r, rfl, rfl, hst⟩ := hst
  have hX := hG.2.2.2.1.moved hW.alike
  refine va_slen (H0 := s.heap) (A := ji_A G) C0.1 C0.2.1 (hX.kept (by rw [ji_hk hw hS h0 _ hG.2.2.2.2.1])) (Nat.lt_of_lt_of_le hG.2.2.2.2.1 h0) (by unfold ji_A; exact Nat.not_le.mpr hG.2.2.2.2.1) hS hd ?_
  rw [jI_nat]
  exact kk hG p e R s m args below meth c H locs cells slots ls _ ad ad0 ws C0 hfr hlo hcc hs hw hS h0 ha ⟨_, r, rfl, rfl, hst⟩ hls
theorem ji_xld {i : Int} (hd : decode M.2.1 pc = .ok (.iaload, 1)) (hi : 0 ≤ i ∧ i < G.2.2.2.2.2.2.1 ∧ i < 2147483648) (kk : JW G d M (pc + 1) L (.int (G.2.2.2.2.2.2.2 i.toNat) :: st) h bc bs Q) : JW G d M pc L (.int (jI i) :: .retAddr 1 :: st) h bc bs Q := by
  intro hG p e R s m args below meth c H locs cells slots ls st' ad ad0 ws C0 hfr hlo hcc hs hw hS h0 ha hst hls
  have hW := C0.2.2.2.2.2.2.2.1
  obtain ⟨_, _, rfl, rfl, _, r, rfl, rfl, hst⟩ := hst
  have hX := hG.2.2.2.1.moved hW.alike
  refine va_sld (H0 := s.heap) (A := ji_A G) C0.1 C0.2.1 (hX.kept (by rw [ji_hk hw hS h0 _ hG.2.2.2.2.1])) (Nat.lt_of_lt_of_le hG.2.2.2.2.1 h0) (by unfold ji_A; exact Nat.not_le.mpr hG.2.2.2.2.1) hS (jI_in hi) hd ?_
  have e9 : (jI i).toNatClampNeg = i.toNat := jI_clamp ⟨hi.1, hi.2.2⟩
  rw [e9]
  exact kk hG p e R s m args below meth c H locs cells slots ls _ ad ad0 ws C0 hfr hlo hcc hs hw hS h0 ha ⟨_, r, rfl, rfl, hst⟩ hls
end JiThrow
