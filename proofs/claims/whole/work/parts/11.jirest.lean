section JiRest
variable {G : ji_G} {d : Nat} {M M2 : ji_M} {pc : Nat} {L : List (Option Value)} {st : List Value} {h : ji_H} {bc bs bc2 bs2 : Nat} {Q Q2 : ji_R → ji_H → Prop}
/-- a constructor -/
theorem ji_callI {idx q n : Nat} {as : List Value} {st0 : List Value} (hd : decode M.2.1 pc = .ok (.invokespecial idx, 3)) (hM : JM G d M2 (.ref q :: as) h bc2 bs2 Q2) (hs0 : st0 = as.reverse ++ .ref q :: st) (hm : ji_mw M2 n) (hr : M2.2.2.2.1 = none) (hnm : M2.1.name = "<init>") (hv : ji_in (.instanceMethod M2.1)) (hl : ji_in (.methodLink M.1.cls idx M2.1)) (hn : as.length = n) (hcat : (st.map fun v => v.category).sum ≤ 8) (htab : M.2.2.2.2 = []) (hbc : bc2 ≤ bc) (hbs : bs2 ≤ bs)
    (kk : ∀ r h', Q2 (.inl r) h' → JW G (d + 1) M (pc + 3) L (r.toList ++ st) h' (bc - bc2) (bs - bs2) Q) (kx : ∀ E h', Q2 (.inr E) h' → Q (.inr E) h') : JW G (d + 1) M pc L st0 h bc bs Q := by
  intro hG p e R s m args below meth c H locs cells slots ls st' ad ad0 ws C0 hfr hlo hcc hs hw hS h0 ha hst hls
  subst hs0
  obtain ⟨ar, rr, rfl, har, hrr⟩ := ji_vs.split hst
  obtain ⟨b', rest, rfl, ⟨a, ha1, rfl⟩, hrest⟩ := hrr
  have hW := C0.2.2.2.2.2.2.2.1
  have has := har.rev
  rw [List.reverse_reverse] at has
  refine ji_ofRun (Q2 := Q2) (xs := (Value.ref a :: ar.reverse).toArray) hG C0 htab hfr hlo hcc hs hw hS h0 ha hrest hls hbc hbs ?_ kk kx
  have hcb := ji_callB (R := R) (args := args) (bc := bc2) (bs := bs2) (M := M) hG hW hm hl hfr hlo
  rw [hr] at hcb
  refine vx_runI (n := n) (As := ar.reverse) (b := a) (nL := M.2.2.1) (own := M.1.cls) (cc := M.2.1) (Ts := []) ⟨C0.1, C0.2.1, C0.2.2.1, C0.2.2.2.2.1, fun w hw => absurd hw List.not_mem_nil⟩ (hM hG ad) ⟨hcb, hnm, ji_word hG hW hv⟩ ⟨ji_blind, fun U hU hWU => ⟨State.WarmedH.trans hW hWU, _, ws, rfl, ⟨_, _, rfl, ⟨a, ha1, rfl⟩, has⟩, by rw [hU]; exact hw⟩⟩ rfl ?_ ?_ ?_ ?_ hd (by omega)
  · rw [has.len]; exact hn
  · obtain ⟨lv, q1, -⟩ := hls; exact q1.1
  · show ar ++ _ = ar.reverse.reverse ++ _; rw [List.reverse_reverse]
  · show 2 * JFrame.monitorRoom (F0 m pc ls _) + _ ≤ 8
    rw [hrest.cat]
    exact lv_room hcat
/-- a private constructor of a nest mate -/
theorem ji_callIN {idx q n : Nat} {as : List Value} {st0 : List Value} (hd : decode M.2.1 pc = .ok (.invokespecial idx, 3)) (hM : JM G d M2 (.ref q :: as) h bc2 bs2 Q2) (hs0 : st0 = as.reverse ++ .ref q :: st) (hm : ji_mw M2 n) (hr : M2.2.2.2.1 = none) (hnm : M2.1.name = "<init>") (hv : ji_in (.instanceMethod M2.1)) (hl : (M.1.cls, idx, M2.1) ∈ ji_nest) (hn : as.length = n) (hcat : (st.map fun v => v.category).sum ≤ 8) (htab : M.2.2.2.2 = []) (hbc : bc2 ≤ bc) (hbs : bs2 ≤ bs)
    (kk : ∀ r h', Q2 (.inl r) h' → JW G (d + 1) M (pc + 3) L (r.toList ++ st) h' (bc - bc2) (bs - bs2) Q) (kx : ∀ E h', Q2 (.inr E) h' → Q (.inr E) h') : JW G (d + 1) M pc L st0 h bc bs Q := by
  intro hG p e R s m args below meth c H locs cells slots ls st' ad ad0 ws C0 hfr hlo hcc hs hw hS h0 ha hst hls
  subst hs0
  obtain ⟨ar, rr, rfl, har, hrr⟩ := ji_vs.split hst
  obtain ⟨b', rest, rfl, ⟨a, ha1, rfl⟩, hrest⟩ := hrr
  have hW := C0.2.2.2.2.2.2.2.1
  have has := har.rev
  rw [List.reverse_reverse] at has
  refine ji_ofRun (Q2 := Q2) (xs := (Value.ref a :: ar.reverse).toArray) hG C0 htab hfr hlo hcc hs hw hS h0 ha hrest hls hbc hbs ?_ kk kx
  obtain ⟨h1, h2, h3, h4, h5, h6, h7⟩ := hm
  have hcw : ji_cw M2 = Cond.code M2.1 M2.2.1 M2.2.2.1 none := by unfold ji_cw; rw [h7, hr]
  have hnest : va_Nw (.methodLinkNest M.1.cls idx M2.1 "BookPager") s := va_Nw.warmM hW (hG.2.2.2.2.2.2.2.2.2.2.2.2.1 _ hl)
  refine vx_runIN (host := "BookPager") (n := n) (As := ar.reverse) (b := a) (nL := M.2.2.1) (own := M.1.cls) (cc := M.2.1) (Ts := []) (bytes := M2.2.1) (maxL := M2.2.2.1) ⟨C0.1, C0.2.1, C0.2.2.1, C0.2.2.2.2.1, fun w hw => absurd hw List.not_mem_nil⟩ (hM hG ad) ⟨⟨⟨rfl, rfl, hfr, ?_, ?_, ?_⟩, ?_, ji_word hG hW h2, ⟨h3, h4⟩, ?_, va_Nw.use rfl hnest⟩, hnm, ji_word hG hW hv⟩ ⟨ji_blind, fun U hU hWU => ⟨State.WarmedH.trans hW hWU, _, ws, rfl, ⟨_, _, rfl, ⟨a, ha1, rfl⟩, has⟩, by rw [hU]; exact hw⟩⟩ rfl ?_ ?_ ?_ ?_ hd (by omega)
  · show 8 + (M2.2.2.1 + 11) + 30 * d ≤ R.locals; omega
  · intro w hw a' U hU
    rw [List.mem_singleton] at hw
    subst hw
    exact ji_word hG (State.WarmedH.trans hW hU) h1
  · rw [hcw]; exact List.mem_singleton.mpr rfl
  · rw [← hcw]; exact ji_word hG hW h1
  · intro sig hsig
    rw [hsig] at h5
    exact (Option.some.inj h5).symm
  · rw [has.len]; exact hn
  · obtain ⟨lv, q1, -⟩ := hls; exact q1.1
  · show ar ++ _ = ar.reverse.reverse ++ _; rw [List.reverse_reverse]
  · show 2 * JFrame.monitorRoom (F0 m pc ls _) + _ ≤ 8
    rw [hrest.cat]
    exact lv_room hcat
theorem ji_objInit {idx q : Nat} (hd : decode M.2.1 pc = .ok (.invokespecial idx, 3)) (hl : ji_in (.methodLink M.1.cls idx Lib.objectInit)) (hw1 : ji_in (.instanceMethod Lib.objectInit)) (hw2 : ji_in (.code Lib.objectInit ⟨#[0xb1]⟩ 1 none)) (hcat : (st.map fun v => v.category).sum ≤ 8)
    (kk : JW G (d + 1) M (pc + 3) L st h bc bs Q) : JW G (d + 1) M pc L (.ref q :: st) h bc bs Q := by
  intro hG p e R s m args below meth c H locs cells slots ls st' ad ad0 ws C0 hfr hlo hcc hs hw hS h0 ha hst hls
  obtain ⟨_, r, rfl, ⟨a, ha1, rfl⟩, hst⟩ := hst
  have hW := C0.2.2.2.2.2.2.2.1
  refine W.objInit C0.1 C0.2.1 C0.2.2.2.2.1 (ji_word hG hW hl) (ji_word hG hW hw1) (ji_word hG hW hw2) rfl (by obtain ⟨lv, q1, -⟩ := hls; exact q1.1.trans C0.2.2.1.symm) rfl hd (by omega) ?_ ?_
  · have h9 : 2 * JFrame.monitorRoom (F0 m pc ls (Value.ref a :: r)) + (r.map fun v => v.category).sum ≤ 8 := by rw [hst.cat]; exact lv_room hcat
    omega
  · exact kk hG p e R s m args below meth c H locs cells slots ls r ad ad0 ws C0 hfr hlo hcc hs hw hS h0 ha hst hls
def ji_la : List Value → List (Option Value)
  | [] => []
  | v :: vs => if v.category = 2 then some v :: none :: ji_la vs else some v :: ji_la vs
theorem ji_la_at {ad : List Nat} : ∀ {vs vs' : List Value}, ji_vs G ad vs vs' → ∀ (i j : Nat) (v : Value), (ji_la vs)[i]? = some (some v) → ∃ v', (j + i, v') ∈ lv_args j vs' ∧ ji_v G ad v v'
  | [], _, _, i, j, v, hi => by simp [ji_la] at hi
  | w :: vs, _, ⟨w', r', h1, h2, h3⟩, i, j, v, hi => by
    subst h1
    by_cases hc : w.category = 2
    · have hc' : w'.category = 2 := h2.cat.trans hc
      simp only [ji_la, if_pos hc] at hi
      simp only [lv_args, if_pos hc']
      match i, hi with
      | 0, hi => simp at hi; subst hi; exact ⟨w', List.mem_cons_self, h2⟩
      | 1, hi => simp at hi
      | i + 2, hi =>
        simp only [List.getElem?_cons_succ] at hi
        obtain ⟨v', q1, q2⟩ := ji_la_at h3 i (j + 2) v hi
        exact ⟨v', List.mem_cons_of_mem _ (by rw [show j + (i + 2) = j + 2 + i by omega]; exact q1), q2⟩
    · have hc' : ¬ w'.category = 2 := by rw [h2.cat]; exact hc
      simp only [ji_la, if_neg hc] at hi
      simp only [lv_args, if_neg hc']
      match i, hi with
      | 0, hi => simp at hi; subst hi; exact ⟨w', List.mem_cons_self, h2⟩
      | i + 1, hi =>
        simp only [List.getElem?_cons_succ] at hi
        obtain ⟨v', q1, q2⟩ := ji_la_at h3 i (j + 1) v hi
        exact ⟨v', List.mem_cons_of_mem _ (by rw [show j + (i + 1) = j + 1 + i by omega]; exact q1), q2⟩
theorem ji_la_len {ad : List Nat} : ∀ {vs vs' : List Value}, ji_vs G ad vs vs' → (lg_sl vs').length = (ji_la vs).length
  | [], _, h => by cases (show _ = [] from h); rfl
  | w :: vs, _, ⟨w', r', h1, h2, h3⟩ => by
    subst h1
    have h4 := ji_la_len h3
    unfold lg_sl at h4 ⊢
    by_cases hc : w.category = 2
    · have hc' : w'.category = 2 := h2.cat.trans hc
      simp only [List.flatMap_cons, ji_la, if_pos hc, if_pos hc', List.length_append, List.length_cons, List.length_nil, h4]; omega
    · have hc' : ¬ w'.category = 2 := by rw [h2.cat]; exact hc
      simp only [List.flatMap_cons, ji_la, if_neg hc, if_neg hc', List.length_append, List.length_cons, List.length_nil, h4]; omega
/-- a contract out of a walk from the entry -/
theorem ji_entry {as : List Value} {L0 : List (Option Value)} (hy : plainName M.1.cls = true) (htab : M.2.2.2.2 = []) (hlen : (ji_la as).length ≤ M.2.2.1) (hL0 : ji_la as = L0) (k : JW G d M 0 L0 [] h bc bs Q) : JM G d M as h bc bs Q := by
  intro hG ad
  have hcw : ji_cw M = Cond.code M.1 M.2.1 M.2.2.1 M.2.2.2.1 := by unfold ji_cw; rw [htab]
  refine vx_ofW (cc := M.2.1) (maxL := M.2.2.1) (ret := M.2.2.2.1) (ws' := []) hy (by rw [hcw]) ?_
  intro p e s m args below meth c s₁ B hml hno hP
  obtain ⟨hW, as', ws, rfl, has, hw⟩ := hP
  have hl := lv_entry as' (n := M.2.2.1) (by rw [ji_la_len has]; exact hlen)
  rw [lg_entry_eq]
  generalize (lg_sl as' ++ List.replicate (M.2.2.1 - (lg_sl as').length) Slot.unset).toArray = ls at hl ⊢
  subst hL0
  refine k hG p e _ s m _ below meth c s.heap [] 0 0 ls [] ad ad ws ⟨B.exec, B.bytes, hml, B.returns, findClass_of_methodNamed B.named, B.notSynchronized, (name_of_methodNamed B.named B.method).1, hW, ?_⟩ (Nat.le_refl _) (Nat.le_refl _) (by show 0 + bc ≤ bc; omega) (by show 0 + bs ≤ bs; omega) hw va_S.rf hw.2.2.2.1 ⟨[], (List.append_nil ad).symm⟩ rfl ⟨_, hl, fun i v hi => ?_⟩
  · rw [htab]
    cases ht : c.exceptionTable.toList with
    | nil => rfl
    | cons x xs => exact absurd (hno x (by rw [ht]; exact List.mem_cons_self)) id
  · obtain ⟨v', q1, q2⟩ := ji_la_at has i 0 v hi
    rw [Nat.zero_add] at q1
    exact ⟨v', q1, q2⟩
end JiRest
