/-! ===== the law's calls of its wrappers ===== -/
def ji_mwT (M2 : ji_M) (n : Nat) : Prop := ji_in (ji_cw M2) ∧ ji_in (.initialized M2.1.cls) ∧ M2.1.cls ≠ "java/lang/invoke/MethodHandle" ∧ M2.1.cls ≠ "java/lang/invoke/VarHandle" ∧ (parseMethodDescriptor M2.1.desc).map (fun d => d.parameters.length) = some n ∧ M2.2.2.1 ≤ 11 ∧ M2.2.2.2.2 ≠ []
theorem ji_cwT {M : ji_M} (htab : M.2.2.2.2 ≠ []) : ji_cw M = Cond.codeWith M.1 M.2.1 M.2.2.1 M.2.2.2.1 M.2.2.2.2 := by
  unfold ji_cw
  split
  · next q => exact absurd q htab
  · rfl
section JiST
variable {G : ji_G} {d : Nat} {M M2 : ji_M} {pc : Nat} {L : List (Option Value)} {st : List Value} {h : ji_H} {bc bs bc2 bs2 : Nat} {Q Q2 : ji_R → ji_H → Prop}
theorem ji_callST {idx n : Nat} {as : List Value} {st0 : List Value} (hd : decode M.2.1 pc = .ok (.invokestatic idx, 3)) (hM : JM G d M2 as h bc2 bs2 Q2) (hs0 : st0 = as.reverse ++ st) (hm : ji_mwT M2 n) (hv : ji_in (.static M2.1)) (hl : ji_in (.methodLink M.1.cls idx M2.1)) (hn : as.length = n) (hcat : (st.map fun v => v.category).sum ≤ 8) (htab : M.2.2.2.2 = []) (hbc : bc2 ≤ bc) (hbs : bs2 ≤ bs)
    (kk : ∀ r h', Q2 (.inl r) h' → JW G (d + 1) M (pc + 3) L (r.toList ++ st) h' (bc - bc2) (bs - bs2) Q) (kx : ∀ E h', Q2 (.inr E) h' → Q (.inr E) h') : JW G (d + 1) M pc L st0 h bc bs Q := by
  intro hG p e R s m args below meth c H locs cells slots ls st' ad ad0 ws C0 hfr hlo hcc hs hw hS h0 ha hst hls
  subst hs0
  obtain ⟨ar, rest, rfl, har, hrest⟩ := ji_vs.split hst
  have hW := C0.2.2.2.2.2.2.2.1
  have has := har.rev
  rw [List.reverse_reverse] at has
  obtain ⟨h1, h2, h3, h4, h5, h6, h7⟩ := hm
  have hcw := ji_cwT h7
  refine ji_ofRun (Q2 := Q2) (xs := ar.reverse.toArray) hG C0 htab hfr hlo hcc hs hw hS h0 ha hrest hls hbc hbs ?_ kk kx
  refine vx_runSX (n := n) (As := ar.reverse) (nL := M.2.2.1) (own := M.1.cls) (cc := M.2.1) (Ts := []) (hh := M2.2.2.2.2) (bytes := M2.2.1) (maxL := M2.2.2.1) (ret := M2.2.2.2.1) (index := idx) ⟨C0.1, C0.2.1, C0.2.2.1, C0.2.2.2.2.1, fun w hw => absurd hw List.not_mem_nil⟩ (hM hG ad) ⟨⟨rfl, rfl, hfr, by show 8 + (M2.2.2.1 + 11) + 30 * d ≤ R.locals; omega, ?_, ?_⟩, ?_, ji_word hG hW h2, ⟨h3, h4⟩, ?_, ji_word hG hW hl, ji_word hG hW hv⟩ ⟨ji_blind, fun U hU hWU => ⟨State.WarmedH.trans hW hWU, _, ws, rfl, has, by rw [hU]; exact hw⟩⟩ rfl ?_ ?_ ?_ ?_ hd (by omega)
  · intro w hw a' U hU
    rw [List.mem_singleton] at hw
    subst hw
    exact ji_word hG (State.WarmedH.trans hW hU) h1
  · rw [hcw]; exact List.mem_singleton.mpr rfl
  · rw [← hcw]; exact ji_word hG hW h1
  · intro sig hsig
    rw [hsig] at h5
    exact (Option.some.inj h5).symm
  · rw [has.len]; exact hn
  · obtain ⟨lv, q1, -⟩ := hls; exact q1.1
  · show ar ++ _ = ar.reverse.reverse ++ _; rw [List.reverse_reverse]
  · show 2 * JFrame.monitorRoom (F0 m pc ls _) + _ ≤ 8
    rw [hrest.cat]
    exact lv_room hcat
end JiST

theorem wL_append : ji_mwT mL_append 3 := ⟨⟨List.mem_of_getElem? (i := 788) (by decide +kernel), by decide +kernel⟩, ⟨List.mem_of_getElem? (i := 126) (by decide +kernel), by decide +kernel⟩, by decide, by decide, by decide +kernel, by decide, by decide⟩
theorem wL_load : ji_mwT mL_load 2 := ⟨⟨List.mem_of_getElem? (i := 889) (by decide +kernel), by decide +kernel⟩, ⟨List.mem_of_getElem? (i := 126) (by decide +kernel), by decide +kernel⟩, by decide, by decide, by decide +kernel, by decide, by decide⟩
theorem wL_setNote : ji_mwT mL_setNote 3 := ⟨⟨List.mem_of_getElem? (i := 926) (by decide +kernel), by decide +kernel⟩, ⟨List.mem_of_getElem? (i := 126) (by decide +kernel), by decide +kernel⟩, by decide, by decide, by decide +kernel, by decide, by decide⟩
theorem wL_removeNote : ji_mwT mL_removeNote 3 := ⟨⟨List.mem_of_getElem? (i := 966) (by decide +kernel), by decide +kernel⟩, ⟨List.mem_of_getElem? (i := 126) (by decide +kernel), by decide +kernel⟩, by decide, by decide, by decide +kernel, by decide, by decide⟩
theorem wL_setSize : ji_mwT mL_setSize 4 := ⟨⟨List.mem_of_getElem? (i := 974) (by decide +kernel), by decide +kernel⟩, ⟨List.mem_of_getElem? (i := 126) (by decide +kernel), by decide +kernel⟩, by decide, by decide, by decide +kernel, by decide, by decide⟩
theorem wL_setStyle : ji_mwT mL_setStyle 4 := ⟨⟨List.mem_of_getElem? (i := 986) (by decide +kernel), by decide +kernel⟩, ⟨List.mem_of_getElem? (i := 126) (by decide +kernel), by decide +kernel⟩, by decide, by decide, by decide +kernel, by decide, by decide⟩
theorem wL_page : ji_mwT mL_page 4 := ⟨⟨List.mem_of_getElem? (i := 997) (by decide +kernel), by decide +kernel⟩, ⟨List.mem_of_getElem? (i := 126) (by decide +kernel), by decide +kernel⟩, by decide, by decide, by decide +kernel, by decide, by decide⟩
theorem wL_line : ji_mwT mL_line 4 := ⟨⟨List.mem_of_getElem? (i := 1013) (by decide +kernel), by decide +kernel⟩, ⟨List.mem_of_getElem? (i := 126) (by decide +kernel), by decide +kernel⟩, by decide, by decide, by decide +kernel, by decide, by decide⟩
theorem wL_shown : ji_mwT mL_shown 5 := ⟨⟨List.mem_of_getElem? (i := 1025) (by decide +kernel), by decide +kernel⟩, ⟨List.mem_of_getElem? (i := 126) (by decide +kernel), by decide +kernel⟩, by decide, by decide, by decide +kernel, by decide, by decide⟩
theorem wL_noteOn : ji_mwT mL_noteOn 4 := ⟨⟨List.mem_of_getElem? (i := 1052) (by decide +kernel), by decide +kernel⟩, ⟨List.mem_of_getElem? (i := 126) (by decide +kernel), by decide +kernel⟩, by decide, by decide, by decide +kernel, by decide, by decide⟩
theorem wL_pageOf : ji_mwT mL_pageOf 4 := ⟨⟨List.mem_of_getElem? (i := 1064) (by decide +kernel), by decide +kernel⟩, ⟨List.mem_of_getElem? (i := 126) (by decide +kernel), by decide +kernel⟩, by decide, by decide, by decide +kernel, by decide, by decide⟩
theorem wL_floating : ji_mwT mL_floating 4 := ⟨⟨List.mem_of_getElem? (i := 1081) (by decide +kernel), by decide +kernel⟩, ⟨List.mem_of_getElem? (i := 126) (by decide +kernel), by decide +kernel⟩, by decide, by decide, by decide +kernel, by decide, by decide⟩
theorem wL_go : ji_mwT mL_go 4 := ⟨⟨List.mem_of_getElem? (i := 1093) (by decide +kernel), by decide +kernel⟩, ⟨List.mem_of_getElem? (i := 126) (by decide +kernel), by decide +kernel⟩, by decide, by decide, by decide +kernel, by decide, by decide⟩
theorem wL_back : ji_mwT mL_back 2 := ⟨⟨List.mem_of_getElem? (i := 1107) (by decide +kernel), by decide +kernel⟩, ⟨List.mem_of_getElem? (i := 126) (by decide +kernel), by decide +kernel⟩, by decide, by decide, by decide +kernel, by decide, by decide⟩
theorem wL_find : ji_mwT mL_find 3 := ⟨⟨List.mem_of_getElem? (i := 1119) (by decide +kernel), by decide +kernel⟩, ⟨List.mem_of_getElem? (i := 126) (by decide +kernel), by decide +kernel⟩, by decide, by decide, by decide +kernel, by decide, by decide⟩
theorem wL_count : ji_mwT mL_count 3 := ⟨⟨List.mem_of_getElem? (i := 1142) (by decide +kernel), by decide +kernel⟩, ⟨List.mem_of_getElem? (i := 126) (by decide +kernel), by decide +kernel⟩, by decide, by decide, by decide +kernel, by decide, by decide⟩
theorem wL_paragraph : ji_mwT mL_paragraph 4 := ⟨⟨List.mem_of_getElem? (i := 1149) (by decide +kernel), by decide +kernel⟩, ⟨List.mem_of_getElem? (i := 126) (by decide +kernel), by decide +kernel⟩, by decide, by decide, by decide +kernel, by decide, by decide⟩
theorem wL_letter : ji_mwT mL_letter 4 := ⟨⟨List.mem_of_getElem? (i := 1156) (by decide +kernel), by decide +kernel⟩, ⟨List.mem_of_getElem? (i := 126) (by decide +kernel), by decide +kernel⟩, by decide, by decide, by decide +kernel, by decide, by decide⟩
theorem wL_annotate : ji_mwT mL_annotate 6 := ⟨⟨List.mem_of_getElem? (i := 1163) (by decide +kernel), by decide +kernel⟩, ⟨List.mem_of_getElem? (i := 126) (by decide +kernel), by decide +kernel⟩, by decide, by decide, by decide +kernel, by decide, by decide⟩
theorem wL_annotation : ji_mwT mL_annotation 4 := ⟨⟨List.mem_of_getElem? (i := 1177) (by decide +kernel), by decide +kernel⟩, ⟨List.mem_of_getElem? (i := 126) (by decide +kernel), by decide +kernel⟩, by decide, by decide, by decide +kernel, by decide, by decide⟩
theorem wL_removeAnnotation : ji_mwT mL_removeAnnotation 3 := ⟨⟨List.mem_of_getElem? (i := 1189) (by decide +kernel), by decide +kernel⟩, ⟨List.mem_of_getElem? (i := 126) (by decide +kernel), by decide +kernel⟩, by decide, by decide, by decide +kernel, by decide, by decide⟩
theorem wL_insert : ji_mwT mL_insert 4 := ⟨⟨List.mem_of_getElem? (i := 1200) (by decide +kernel), by decide +kernel⟩, ⟨List.mem_of_getElem? (i := 126) (by decide +kernel), by decide +kernel⟩, by decide, by decide, by decide +kernel, by decide, by decide⟩
theorem wL_delete : ji_mwT mL_delete 5 := ⟨⟨List.mem_of_getElem? (i := 1262) (by decide +kernel), by decide +kernel⟩, ⟨List.mem_of_getElem? (i := 126) (by decide +kernel), by decide +kernel⟩, by decide, by decide, by decide +kernel, by decide, by decide⟩
theorem wL_split : ji_mwT mL_split 4 := ⟨⟨List.mem_of_getElem? (i := 1282) (by decide +kernel), by decide +kernel⟩, ⟨List.mem_of_getElem? (i := 126) (by decide +kernel), by decide +kernel⟩, by decide, by decide, by decide +kernel, by decide, by decide⟩
theorem wL_join : ji_mwT mL_join 3 := ⟨⟨List.mem_of_getElem? (i := 1300) (by decide +kernel), by decide +kernel⟩, ⟨List.mem_of_getElem? (i := 126) (by decide +kernel), by decide +kernel⟩, by decide, by decide, by decide +kernel, by decide, by decide⟩
theorem wL_undo : ji_mwT mL_undo 2 := ⟨⟨List.mem_of_getElem? (i := 1312) (by decide +kernel), by decide +kernel⟩, ⟨List.mem_of_getElem? (i := 126) (by decide +kernel), by decide +kernel⟩, by decide, by decide, by decide +kernel, by decide, by decide⟩
theorem wL_ifSize : ji_mwT mL_ifSize 5 := ⟨⟨List.mem_of_getElem? (i := 1328) (by decide +kernel), by decide +kernel⟩, ⟨List.mem_of_getElem? (i := 126) (by decide +kernel), by decide +kernel⟩, by decide, by decide, by decide +kernel, by decide, by decide⟩
theorem wL_fit : ji_mwT mL_fit 3 := ⟨⟨List.mem_of_getElem? (i := 1335) (by decide +kernel), by decide +kernel⟩, ⟨List.mem_of_getElem? (i := 126) (by decide +kernel), by decide +kernel⟩, by decide, by decide, by decide +kernel, by decide, by decide⟩
