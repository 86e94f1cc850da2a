/-! ===== the heap ===== -/
def ji_ty : Nat → Nat → FieldType := fun ci => match ci with
  | 0 => tyX0
  | 1 => tyX1
  | 2 => tyX2
  | 3 => tyX3
  | 4 => tyX4
  | 5 => tyX5
  | 6 => tyX6
  | 7 => tyX7
  | _ => tyX8
def ji_clsOK (ci : Nat) (q : vw_C) : Prop := (∀ w ∈ u_ws q.1 q.2.1 q.2.2, w ∈ lw_tbl) ∧ (∀ k, k < q.2.2 → parseFieldDescriptor (q.2.1 k).2.2.1 = some (ji_ty ci k)) ∧ (∀ a, a < q.2.2 → ∀ b, b < q.2.2 → a ≠ b → (q.2.1 a).2.1 ≠ (q.2.1 b).2.1) ∧ ji_in (.instantiable q.1 q.2.2) ∧ ji_in (.initialized q.1)
theorem ji_cls0 : ji_clsOK 0 (RX0, TX0, 3) := ⟨by decide +kernel, tyX0_ok, nmX0, ⟨by decide +kernel, by decide +kernel⟩, ⟨by decide +kernel, by decide +kernel⟩⟩
theorem ji_cls1 : ji_clsOK 1 (RX1, TX1, 3) := ⟨by decide +kernel, tyX1_ok, nmX1, ⟨by decide +kernel, by decide +kernel⟩, ⟨by decide +kernel, by decide +kernel⟩⟩
theorem ji_cls2 : ji_clsOK 2 (RX2, TX2, 3) := ⟨by decide +kernel, tyX2_ok, nmX2, ⟨by decide +kernel, by decide +kernel⟩, ⟨by decide +kernel, by decide +kernel⟩⟩
theorem ji_cls3 : ji_clsOK 3 (RX3, TX3, 16) := ⟨by decide +kernel, tyX3_ok, nmX3, ⟨by decide +kernel, by decide +kernel⟩, ⟨by decide +kernel, by decide +kernel⟩⟩
theorem ji_cls4 : ji_clsOK 4 (RX4, TX4, 7) := ⟨by decide +kernel, tyX4_ok, nmX4, ⟨by decide +kernel, by decide +kernel⟩, ⟨by decide +kernel, by decide +kernel⟩⟩
theorem ji_cls5 : ji_clsOK 5 (RX5, TX5, 7) := ⟨by decide +kernel, tyX5_ok, nmX5, ⟨by decide +kernel, by decide +kernel⟩, ⟨by decide +kernel, by decide +kernel⟩⟩
theorem ji_cls6 : ji_clsOK 6 (RX6, TX6, 2) := ⟨by decide +kernel, tyX6_ok, nmX6, ⟨by decide +kernel, by decide +kernel⟩, ⟨by decide +kernel, by decide +kernel⟩⟩
theorem ji_cls7 : ji_clsOK 7 (RX7, TX7, 11) := ⟨by decide +kernel, tyX7_ok, nmX7, ⟨by decide +kernel, by decide +kernel⟩, ⟨by decide +kernel, by decide +kernel⟩⟩
theorem ji_cls8 : ji_clsOK 8 (RX8, TX8, 25) := ⟨by decide +kernel, tyX8_ok, nmX8, ⟨by decide +kernel, by decide +kernel⟩, ⟨by decide +kernel, by decide +kernel⟩⟩
theorem ji_cls {ci : Nat} {q : vw_C} (h : ji_cl[ci]? = some q) : ji_clsOK ci q := by
  match ci, h with
  | 0, h => cases h; exact ji_cls0
  | 1, h => cases h; exact ji_cls1
  | 2, h => cases h; exact ji_cls2
  | 3, h => cases h; exact ji_cls3
  | 4, h => cases h; exact ji_cls4
  | 5, h => cases h; exact ji_cls5
  | 6, h => cases h; exact ji_cls6
  | 7, h => cases h; exact ji_cls7
  | 8, h => cases h; exact ji_cls8
  | ci + 9, h => simp [ji_cl] at h
theorem ji_rel.set {G : ji_G} {ad : List Nat} {h : ji_H} {ws : va_W} (hr : ji_rel G ad h ws) {q a : Nat} (ha : ad[q]? = some a) {c : ji_C} {e : va_E} (hc : ji_c G ad c e) : ji_rel G ad (h.1, va_up h.2 q c) (ws.set q (a, e)) := by
  obtain ⟨h1, h2, h3⟩ := hr
  refine ⟨h1, by rw [List.length_set]; exact h2, fun k b hb => ?_⟩
  by_cases hk : k = q
  · subst hk
    cases ha.symm.trans hb
    refine ⟨e, ?_, by show ji_c G ad (va_up h.2 k c k) e; rw [va_up_self]; exact hc⟩
    rw [List.getElem?_set_self]
    rw [h2, ← h1]
    exact (List.getElem?_eq_some_iff.mp hb).1
  · obtain ⟨e2, q1, q2⟩ := h3 k b hb
    refine ⟨e2, ?_, by show ji_c G ad (va_up h.2 q c k) e2; rw [va_up_ne _ _ hk]; exact q2⟩
    rw [List.getElem?_set_ne (Ne.symm hk)]
    exact q1
theorem ji_rel.push {G : ji_G} {ad : List Nat} {h : ji_H} {ws : va_W} (hr : ji_rel G ad h ws) (a : Nat) {c : ji_C} {e : va_E} (hc : ji_c G (ad ++ [a]) c e) : ji_rel G (ad ++ [a]) (h.1 + 1, va_up h.2 h.1 c) (ws ++ [(a, e)]) := by
  obtain ⟨h1, h2, h3⟩ := hr
  refine ⟨by simp [h1], by simp [h2], fun k b hb => ?_⟩
  by_cases hk : k < ad.length
  · rw [List.getElem?_append_left hk] at hb
    obtain ⟨e2, q1, q2⟩ := h3 k b hb
    have hk1 : k ≠ h.1 := by omega
    refine ⟨e2, ?_, by show ji_c G _ (va_up h.2 h.1 c k) e2; rw [va_up_ne _ _ hk1]; exact q2.mono [a]⟩
    rw [List.getElem?_append_left (by omega)]
    exact q1
  · have hlt := (List.getElem?_eq_some_iff.mp hb).1
    simp at hlt
    have hk2 : k = h.1 := by omega
    subst hk2
    have hb' : a = b := by
      rw [List.getElem?_append_right (by omega)] at hb
      simpa [h1] using hb
    subst hb'
    refine ⟨e, ?_, by show ji_c G _ (va_up h.2 h.1 c h.1) e; rw [va_up_self]; exact hc⟩
    rw [List.getElem?_append_right (by omega)]
    simp [h2]
theorem ji_w.next {G : ji_G} {ad ad' : List Nat} {h h' : ji_H} {ws ws' : va_W} {H H1 : Heap} {s : State} {locs locs1 : List Loc} (hw : ji_w G ad h ws H) (hS : va_S (ji_A G) s.heap H locs) (h0 : G.1.heap.size ≤ s.heap.size) (hP : va_P G.2.2.1 ji_cl ws' H1) (hD : va_D (ji_A G) ws') (hS1 : va_S (ji_A G) s.heap H1 locs1) (hr : ji_rel G ad' h' ws') : ji_w G ad' h' ws' H1 := by
  refine ⟨hP, hD, hr, Nat.le_trans h0 hS1.1, fun q hq => ?_⟩
  have hn : ¬ ji_A G q := by unfold ji_A; omega
  rw [hS1.2.1 q (by omega) hn, ← hS.2.1 q (by omega) hn]
  exact hw.2.2.2.2 q hq
theorem ji_upd (g : Nat → Int) (i : Nat) (x : Int) : upd (fun j => jI (g j)) i (jI x) = fun j => jI (va_up g i x j) := by
  funext j
  unfold upd va_up
  by_cases hj : j = i
  · rw [if_pos hj, if_pos hj]
  · rw [if_neg hj, if_neg hj]
theorem ji_uws {G : ji_G} {s : State} {ci N : Nat} {C : String} {T : u_T} (hG : ji_OK G) (hW : G.1.WarmedH s.vm) (hc : ji_cl[ci]? = some (C, T, N)) {args : Array Value} : ∀ w ∈ u_ws C T N, w.before args s = true := by
  intro w hm
  refine word_at hW ?_ (hG.1 w ((ji_cls hc).1 w hm))
  obtain ⟨k9, -, rfl⟩ := List.mem_map.mp hm
  refine Or.inl ?_
  unfold u_lay
  split <;> rfl
theorem ji_tyAt {cy : Nat → ClassId} {ty : FieldType} {n : Nat} (h : ji_ti ty = n) (h2 : (ji_tys cy)[n]? = some (cy n, ty)) : (ji_tys cy)[ji_ti ty]? = some (cy (ji_ti ty), ty) := by rw [h]; exact h2
theorem jI_char {x : Int} (hx : 0 ≤ x ∧ x < 65536) : vp_nar .char (jI x) = jI x := by
  obtain ⟨n, rfl⟩ := Int.eq_ofNat_of_zero_le hx.1
  have hn : n < 65536 := by omega
  show (jI n).toUInt32.toUInt16.toUInt32.toInt32 = jI n
  rw [← jI_nat]
  apply Int32.toBitVec_inj.mp
  simp
  apply BitVec.eq_of_toNat_eq
  simp
  omega
section JiCells
variable {G : ji_G} {d : Nat} {M : ji_M} {pc : Nat} {L : List (Option Value)} {st : List Value} {h : ji_H} {bc bs : Nat} {Q : ji_R → ji_H → Prop}
theorem ji_get {ci k idx q N : Nat} {C : String} {T : u_T} {fs : List Value} {v : Value} (hc : ji_cl[ci]? = some (C, T, N)) (hd : decode M.2.1 pc = .ok (.getfield idx, 3)) (hl : ji_in (.fieldLink M.1.cls idx (T k).1 (T k).2.1 (T k).2.2.1)) (hk : k < N) (hq : h.2 q = .inl (ci, fs)) (hv : fs[k]? = some v)
    (kk : JW G d M (pc + 3) L (v :: st) h bc bs Q) : JW G d M pc L (.ref q :: st) h bc bs Q := by
  intro hG p e R s m args below meth c H locs cells slots ls st' ad ad0 ws C0 hfr hlo hcc hs hw hS h0 ha hst hls
  obtain ⟨_, r, rfl, ⟨a, ha1, rfl⟩, hst⟩ := hst
  obtain ⟨e1, he1, hce⟩ := hw.at ha1
  rw [hq] at hce
  obtain ⟨fs', rfl, hfs⟩ := hce
  obtain ⟨v', hv', hvv⟩ := hfs.at hv
  have hW := C0.2.2.2.2.2.2.2.1
  exact va_get (own := M.1.cls) (ref := (T k).1) C0.1 C0.2.1 (ji_uws hG hW hc) (fun w hm => hm) C0.2.2.2.2.1 (ji_K hG hW) hw.1 q he1 hc k hk (ji_word hG hW hl) (fun x hx => hx) hv' hd
    (kk hG p e R s m args below meth c H locs cells slots ls _ ad ad0 ws C0 hfr hlo hcc hs hw hS h0 ha ⟨v', r, rfl, hvv, hst⟩ hls)
/-- what a field of a type may hold -/
def ji_fit (ty : FieldType) (v : Value) : Prop := ∀ (G : ji_G) (ad : List Nat) (v' : Value), ji_v G ad v v' → narrow ty v' = v' ∧ fits ty v' = true
theorem ji_fitI (x : Int32) : ji_fit .int (.int x) := fun G ad v' h => by cases (show v' = _ from h); exact ⟨rfl, rfl⟩
theorem ji_fitJ (x : Int64) : ji_fit .long (.long x) := fun G ad v' h => by cases (show v' = _ from h); exact ⟨rfl, rfl⟩
theorem ji_fitZ {x : Int} (hx : x = 0 ∨ x = 1) : ji_fit .boolean (.int (jI x)) := fun G ad v' h => by
  cases (show v' = _ from h)
  rcases hx with rfl | rfl <;> exact ⟨by decide, by decide⟩
theorem ji_fitA {t : FieldType} (v : Value) (hv : ji_isR v) : ji_fit (.array t) v := fun G ad v' h => by
  rcases h.isR hv with rfl | ⟨a, rfl⟩ <;> exact ⟨rfl, rfl⟩
theorem ji_fitO {t : String} (v : Value) (hv : ji_isR v) : ji_fit (.object t) v := fun G ad v' h => by
  rcases h.isR hv with rfl | ⟨a, rfl⟩ <;> exact ⟨rfl, rfl⟩
theorem ji_put {ci k idx q N : Nat} {C : String} {T : u_T} {fs : List Value} {v : Value} (hc : ji_cl[ci]? = some (C, T, N)) (hd : decode M.2.1 pc = .ok (.putfield idx, 3)) (hl : ji_in (.fieldLink M.1.cls idx (T k).1 (T k).2.1 (T k).2.2.1)) (hk : k < N) (hq : h.2 q = .inl (ci, fs)) (hlen : k < fs.length) (hf : ji_fit (ji_ty ci k) v) (hfin : (T k).2.2.2 = false)
    (kk : JW G d M (pc + 3) L st (h.1, va_up h.2 q (.inl (ci, fs.set k v))) bc bs Q) : JW G d M pc L (v :: .ref q :: st) h bc bs Q := by
  intro hG p e R s m args below meth c H locs cells slots ls st' ad ad0 ws C0 hfr hlo hcc hs hw hS h0 ha hst hls
  obtain ⟨v', _, rfl, hvv, _, r, rfl, ⟨a, ha1, rfl⟩, hst⟩ := hst
  obtain ⟨e1, he1, hce⟩ := hw.at ha1
  rw [hq] at hce
  obtain ⟨fs', rfl, hfs⟩ := hce
  have hW := C0.2.2.2.2.2.2.2.1
  obtain ⟨f1, f2⟩ := hf G ad v' hvv
  refine va_put (own := M.1.cls) (ref := (T k).1) C0.1 C0.2.1 (ji_uws hG hW hc) (fun w hm => hm) (ji_ty ci) (ji_cls hc).2.1 (ji_cls hc).2.2.1 C0.2.2.2.2.1 (ji_K hG hW) hw.1 hw.2.1 hS q he1 hc k hk (ji_word hG hW hl) (fun x hx => hx) hfin ((ji_cls hc).2.1 k hk) f1 f2 (by rw [hfs.len]; exact hlen) hd (fun H1 locs1 hP1 hD1 hS1 => ?_)
  exact kk hG p e R s m args below meth c H1 locs1 cells slots ls r ad ad0 _ C0 hfr hlo hcc hs (hw.next hS h0 hP1 hD1 hS1 (hw.2.2.1.set ha1 ⟨_, rfl, hfs.set k hvv⟩)) hS1 h0 ha hst hls
theorem ji_putF {ci k idx q N : Nat} {C : String} {T : u_T} {fs : List Value} {v : Value} (hc : ji_cl[ci]? = some (C, T, N)) (hd : decode M.2.1 pc = .ok (.putfield idx, 3)) (hl : ji_in (.fieldLink M.1.cls idx (T k).1 (T k).2.1 (T k).2.2.1)) (hk : k < N) (hq : h.2 q = .inl (ci, fs)) (hlen : k < fs.length) (hf : ji_fit (ji_ty ci k) v) (hfin : (T k).2.2.2 = true) (hn : M.1.name = "<init>") (ho : (T k).1 = M.1.cls)
    (kk : JW G d M (pc + 3) L st (h.1, va_up h.2 q (.inl (ci, fs.set k v))) bc bs Q) : JW G d M pc L (v :: .ref q :: st) h bc bs Q := by
  intro hG p e R s m args below meth c H locs cells slots ls st' ad ad0 ws C0 hfr hlo hcc hs hw hS h0 ha hst hls
  obtain ⟨v', _, rfl, hvv, _, r, rfl, ⟨a, ha1, rfl⟩, hst⟩ := hst
  obtain ⟨e1, he1, hce⟩ := hw.at ha1
  rw [hq] at hce
  obtain ⟨fs', rfl, hfs⟩ := hce
  have hW := C0.2.2.2.2.2.2.2.1
  obtain ⟨f1, f2⟩ := hf G ad v' hvv
  refine va_putF (own := M.1.cls) (ref := (T k).1) C0.1 C0.2.1 (ji_uws hG hW hc) (fun w hm => hm) (ji_ty ci) (ji_cls hc).2.1 (ji_cls hc).2.2.1 C0.2.2.2.2.1 (ji_K hG hW) hw.1 hw.2.1 hS q he1 hc k hk (ji_word hG hW hl) (fun x hx => hx) hfin (C0.2.2.2.2.2.2.1.trans hn) ho ((ji_cls hc).2.1 k hk) f1 f2 (by rw [hfs.len]; exact hlen) hd (fun H1 locs1 hP1 hD1 hS1 => ?_)
  exact kk hG p e R s m args below meth c H1 locs1 cells slots ls r ad ad0 _ C0 hfr hlo hcc hs (hw.next hS h0 hP1 hD1 hS1 (hw.2.2.1.set ha1 ⟨_, rfl, hfs.set k hvv⟩)) hS1 h0 ha hst hls
theorem ji_iaload {q n : Nat} {g : Nat → Int} {i : Int} (hd : decode M.2.1 pc = .ok (.iaload, 1)) (hq : h.2 q = .inr (.int, n, .inl g)) (hi : 0 ≤ i ∧ i < n ∧ i < 2147483648)
    (kk : JW G d M (pc + 1) L (.int (jI (g i.toNat)) :: st) h bc bs Q) : JW G d M pc L (.int (jI i) :: .ref q :: st) h bc bs Q := by
  intro hG p e R s m args below meth c H locs cells slots ls st' ad ad0 ws C0 hfr hlo hcc hs hw hS h0 ha hst hls
  obtain ⟨_, _, rfl, rfl, _, r, rfl, ⟨a, ha1, rfl⟩, hst⟩ := hst
  obtain ⟨e1, he1, hce⟩ := hw.at ha1
  rw [hq] at hce
  cases (show e1 = _ from hce)
  have hW := C0.2.2.2.2.2.2.2.1
  refine va_iald C0.1 C0.2.1 (ji_K hG hW) hw.1 q (ji_ti .int) he1 rfl (jI_in hi) hd ?_
  have e9 : (jI i).toNatClampNeg = i.toNat := jI_clamp ⟨hi.1, hi.2.2⟩
  rw [e9]
  exact kk hG p e R s m args below meth c H locs cells slots ls _ ad ad0 ws C0 hfr hlo hcc hs hw hS h0 ha ⟨_, r, rfl, rfl, hst⟩ hls
theorem ji_caload {q n : Nat} {g : Nat → Int} {i : Int} (hd : decode M.2.1 pc = .ok (.caload, 1)) (hq : h.2 q = .inr (.char, n, .inl g)) (hi : 0 ≤ i ∧ i < n ∧ i < 2147483648)
    (kk : JW G d M (pc + 1) L (.int (jI (g i.toNat)) :: st) h bc bs Q) : JW G d M pc L (.int (jI i) :: .ref q :: st) h bc bs Q := by
  intro hG p e R s m args below meth c H locs cells slots ls st' ad ad0 ws C0 hfr hlo hcc hs hw hS h0 ha hst hls
  obtain ⟨_, _, rfl, rfl, _, r, rfl, ⟨a, ha1, rfl⟩, hst⟩ := hst
  obtain ⟨e1, he1, hce⟩ := hw.at ha1
  rw [hq] at hce
  cases (show e1 = _ from hce)
  have hW := C0.2.2.2.2.2.2.2.1
  refine va_cald C0.1 C0.2.1 (ji_K hG hW) hw.1 q (ji_ti .char) he1 rfl (jI_in hi) hd ?_
  have e9 : (jI i).toNatClampNeg = i.toNat := jI_clamp ⟨hi.1, hi.2.2⟩
  rw [e9]
  exact kk hG p e R s m args below meth c H locs cells slots ls _ ad ad0 ws C0 hfr hlo hcc hs hw hS h0 ha ⟨_, r, rfl, rfl, hst⟩ hls
theorem ji_baload {q n : Nat} {g : Nat → Int} {i : Int} (hd : decode M.2.1 pc = .ok (.baload, 1)) (hq : h.2 q = .inr (.boolean, n, .inl g)) (hi : 0 ≤ i ∧ i < n ∧ i < 2147483648)
    (kk : JW G d M (pc + 1) L (.int (jI (g i.toNat)) :: st) h bc bs Q) : JW G d M pc L (.int (jI i) :: .ref q :: st) h bc bs Q := by
  intro hG p e R s m args below meth c H locs cells slots ls st' ad ad0 ws C0 hfr hlo hcc hs hw hS h0 ha hst hls
  obtain ⟨_, _, rfl, rfl, _, r, rfl, ⟨a, ha1, rfl⟩, hst⟩ := hst
  obtain ⟨e1, he1, hce⟩ := hw.at ha1
  rw [hq] at hce
  cases (show e1 = _ from hce)
  have hW := C0.2.2.2.2.2.2.2.1
  refine va_zald C0.1 C0.2.1 (ji_K hG hW) hw.1 q (ji_ti .boolean) he1 rfl (jI_in hi) hd ?_
  have e9 : (jI i).toNatClampNeg = i.toNat := jI_clamp ⟨hi.1, hi.2.2⟩
  rw [e9]
  exact kk hG p e R s m args below meth c H locs cells slots ls _ ad ad0 ws C0 hfr hlo hcc hs hw hS h0 ha ⟨_, r, rfl, rfl, hst⟩ hls
theorem ji_iastore {q n : Nat} {g : Nat → Int} {i x : Int} (hd : decode M.2.1 pc = .ok (.iastore, 1)) (hq : h.2 q = .inr (.int, n, .inl g)) (hi : 0 ≤ i ∧ i < n ∧ i < 2147483648)
    (kk : JW G d M (pc + 1) L st (h.1, va_up h.2 q (.inr (.int, n, .inl (va_up g i.toNat x)))) bc bs Q) : JW G d M pc L (.int (jI x) :: .int (jI i) :: .ref q :: st) h bc bs Q := by
  intro hG p e R s m args below meth c H locs cells slots ls st' ad ad0 ws C0 hfr hlo hcc hs hw hS h0 ha hst hls
  obtain ⟨_, _, rfl, rfl, _, _, rfl, rfl, _, r, rfl, ⟨a, ha1, rfl⟩, hst⟩ := hst
  obtain ⟨e1, he1, hce⟩ := hw.at ha1
  rw [hq] at hce
  cases (show e1 = _ from hce)
  have hW := C0.2.2.2.2.2.2.2.1
  refine va_iast C0.1 C0.2.1 (ji_K hG hW) hw.1 hw.2.1 hS q (ji_ti .int) he1 rfl (jI_in hi) hd (fun H1 locs1 hP1 hD1 hS1 => ?_)
  have e9 : (jI i).toNatClampNeg = i.toNat := jI_clamp ⟨hi.1, hi.2.2⟩
  rw [e9, ji_upd] at hP1 hD1
  exact kk hG p e R s m args below meth c H1 locs1 cells slots ls r ad ad0 _ C0 hfr hlo hcc hs (hw.next hS h0 hP1 hD1 hS1 (hw.2.2.1.set ha1 rfl)) hS1 h0 ha hst hls
theorem ji_castore {q n : Nat} {g : Nat → Int} {i x : Int} (hd : decode M.2.1 pc = .ok (.castore, 1)) (hq : h.2 q = .inr (.char, n, .inl g)) (hi : 0 ≤ i ∧ i < n ∧ i < 2147483648) (hx : 0 ≤ x ∧ x < 65536)
    (kk : JW G d M (pc + 1) L st (h.1, va_up h.2 q (.inr (.char, n, .inl (va_up g i.toNat x)))) bc bs Q) : JW G d M pc L (.int (jI x) :: .int (jI i) :: .ref q :: st) h bc bs Q := by
  intro hG p e R s m args below meth c H locs cells slots ls st' ad ad0 ws C0 hfr hlo hcc hs hw hS h0 ha hst hls
  obtain ⟨_, _, rfl, rfl, _, _, rfl, rfl, _, r, rfl, ⟨a, ha1, rfl⟩, hst⟩ := hst
  obtain ⟨e1, he1, hce⟩ := hw.at ha1
  rw [hq] at hce
  cases (show e1 = _ from hce)
  have hW := C0.2.2.2.2.2.2.2.1
  refine va_cast C0.1 C0.2.1 (ji_K hG hW) hw.1 hw.2.1 hS q (ji_ti .char) he1 rfl (jI_in hi) hd (fun H1 locs1 hP1 hD1 hS1 => ?_)
  have e8 : vp_nar .char (jI x) = jI x := jI_char hx
  rw [e8] at hP1 hD1
  have e9 : (jI i).toNatClampNeg = i.toNat := jI_clamp ⟨hi.1, hi.2.2⟩
  rw [e9, ji_upd] at hP1 hD1
  exact kk hG p e R s m args below meth c H1 locs1 cells slots ls r ad ad0 _ C0 hfr hlo hcc hs (hw.next hS h0 hP1 hD1 hS1 (hw.2.2.1.set ha1 rfl)) hS1 h0 ha hst hls
theorem ji_bastore {q n : Nat} {g : Nat → Int} {i x : Int} (hd : decode M.2.1 pc = .ok (.bastore, 1)) (hq : h.2 q = .inr (.boolean, n, .inl g)) (hi : 0 ≤ i ∧ i < n ∧ i < 2147483648) (hx : x = 0 ∨ x = 1)
    (kk : JW G d M (pc + 1) L st (h.1, va_up h.2 q (.inr (.boolean, n, .inl (va_up g i.toNat x)))) bc bs Q) : JW G d M pc L (.int (jI x) :: .int (jI i) :: .ref q :: st) h bc bs Q := by
  intro hG p e R s m args below meth c H locs cells slots ls st' ad ad0 ws C0 hfr hlo hcc hs hw hS h0 ha hst hls
  obtain ⟨_, _, rfl, rfl, _, _, rfl, rfl, _, r, rfl, ⟨a, ha1, rfl⟩, hst⟩ := hst
  obtain ⟨e1, he1, hce⟩ := hw.at ha1
  rw [hq] at hce
  cases (show e1 = _ from hce)
  have hW := C0.2.2.2.2.2.2.2.1
  refine va_zast C0.1 C0.2.1 (ji_K hG hW) hw.1 hw.2.1 hS q (ji_ti .boolean) he1 rfl (jI_in hi) hd (fun H1 locs1 hP1 hD1 hS1 => ?_)
  have e8 : vp_nar .boolean (jI x) = jI x := by rcases hx with rfl | rfl <;> decide
  rw [e8] at hP1 hD1
  have e9 : (jI i).toNatClampNeg = i.toNat := jI_clamp ⟨hi.1, hi.2.2⟩
  rw [e9, ji_upd] at hP1 hD1
  exact kk hG p e R s m args below meth c H1 locs1 cells slots ls r ad ad0 _ C0 hfr hlo hcc hs (hw.next hS h0 hP1 hD1 hS1 (hw.2.2.1.set ha1 rfl)) hS1 h0 ha hst hls
theorem ji_alen {q n : Nat} {ty : FieldType} {x : (Nat → Int) ⊕ (Nat → Int64) ⊕ (Nat → Option Nat)} (hd : decode M.2.1 pc = .ok (.arraylength, 1)) (hq : h.2 q = .inr (ty, n, x)) (hty : ∀ cy : Nat → ClassId, (ji_tys cy)[ji_ti ty]? = some (cy (ji_ti ty), ty))
    (kk : JW G d M (pc + 1) L (.int (jI n) :: st) h bc bs Q) : JW G d M pc L (.ref q :: st) h bc bs Q := by
  intro hG p e R s m args below meth c H locs cells slots ls st' ad ad0 ws C0 hfr hlo hcc hs hw hS h0 ha hst hls
  obtain ⟨_, r, rfl, ⟨a, ha1, rfl⟩, hst⟩ := hst
  obtain ⟨e1, he1, hce⟩ := hw.at ha1
  rw [hq] at hce
  have hW := C0.2.2.2.2.2.2.2.1
  have K := kk hG p e R s m args below meth c H locs cells slots ls _ ad ad0 ws C0 hfr hlo hcc hs hw hS h0 ha ⟨_, r, rfl, rfl, hst⟩ hls
  match x, hce with
  | .inl g, hce => cases (show e1 = _ from hce); exact va_alen C0.1 C0.2.1 (ji_K hG hW) hw.1 q _ he1 (hty _) (jI_nat n) hd K
  | .inr (.inl g), hce => cases (show e1 = _ from hce); exact va_alen C0.1 C0.2.1 (ji_K hG hW) hw.1 q _ he1 (hty _) (jI_nat n) hd K
  | .inr (.inr f), hce => obtain ⟨f', rfl, -⟩ := hce; exact va_alen C0.1 C0.2.1 (ji_K hG hW) hw.1 q _ he1 (hty _) (jI_nat n) hd K
def ji_rf (r : Option Nat) : Value := match r with
  | none => .null
  | some a => .ref a
theorem ji_aaload {q n : Nat} {C : String} {f : Nat → Option Nat} {i : Int} (hd : decode M.2.1 pc = .ok (.aaload, 1)) (hq : h.2 q = .inr (.object C, n, .inr (.inr f))) (hty : ∀ cy : Nat → ClassId, (ji_tys cy)[ji_ti (.object C)]? = some (cy (ji_ti (.object C)), .object C)) (hi : 0 ≤ i ∧ i < n ∧ i < 2147483648)
    (kk : JW G d M (pc + 1) L (ji_rf (f i.toNat) :: st) h bc bs Q) : JW G d M pc L (.int (jI i) :: .ref q :: st) h bc bs Q := by
  intro hG p e R s m args below meth c H locs cells slots ls st' ad ad0 ws C0 hfr hlo hcc hs hw hS h0 ha hst hls
  obtain ⟨_, _, rfl, rfl, _, r, rfl, ⟨a, ha1, rfl⟩, hst⟩ := hst
  obtain ⟨e1, he1, hce⟩ := hw.at ha1
  rw [hq] at hce
  obtain ⟨f', rfl, hf⟩ := hce
  have hW := C0.2.2.2.2.2.2.2.1
  refine va_aldq C0.1 C0.2.1 (ji_K hG hW) hw.1 q _ he1 (hty _) (jI_in hi) hd ?_
  have e9 : (jI i).toNatClampNeg = i.toNat := jI_clamp ⟨hi.1, hi.2.2⟩
  rw [e9]
  have h3 := hf i.toNat (by omega)
  refine kk hG p e R s m args below meth c H locs cells slots ls _ ad ad0 ws C0 hfr hlo hcc hs hw hS h0 ha ⟨_, r, rfl, ?_, hst⟩ hls
  cases hfi : f i.toNat with
  | none => rw [hfi] at h3; rw [show f' i.toNat = none from h3]; rfl
  | some k => rw [hfi] at h3; obtain ⟨b, q1, q2⟩ := h3; rw [q2]; exact ⟨b, q1, rfl⟩
end JiCells
