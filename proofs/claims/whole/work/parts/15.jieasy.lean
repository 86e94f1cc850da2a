theorem jr_i {a b : Int} (h : a = b) : (Sum.inl (some (Value.int (jI a))) : ji_R) = .inl (some (.int (jI b))) := by rw [h]
/-- locals are forgotten by a mask -/
def ji_mask : List Bool → List (Option Value) → List (Option Value)
  | [], _ => []
  | _, [] => []
  | true :: ms, o :: L => o :: ji_mask ms L
  | false :: ms, _ :: L => none :: ji_mask ms L
theorem ji_mask_at : ∀ (ms : List Bool) (L : List (Option Value)) (i : Nat) (v : Value), (ji_mask ms L)[i]? = some (some v) → L[i]? = some (some v)
  | [], L, i, v, h => by simp [ji_mask] at h
  | b :: ms, [], i, v, h => by simp [ji_mask] at h
  | true :: ms, o :: L, 0, v, h => by simpa [ji_mask] using h
  | false :: ms, o :: L, 0, v, h => by simp [ji_mask] at h
  | true :: ms, o :: L, i + 1, v, h => by simp only [ji_mask, List.getElem?_cons_succ] at h ⊢; exact ji_mask_at ms L i v h
  | false :: ms, o :: L, i + 1, v, h => by simp only [ji_mask, List.getElem?_cons_succ] at h ⊢; exact ji_mask_at ms L i v h
section JiEasy
variable {G : ji_G} {d : Nat} {M M2 : ji_M} {pc : Nat} {L : List (Option Value)} {st : List Value} {h h2 : ji_H} {bc bs : Nat} {Q : ji_R → ji_H → Prop}
theorem ji_weakM (ms : List Bool) {L2 : List (Option Value)} (hL : L2 = ji_mask ms L) (k : JW G d M pc L2 st h bc bs Q) : JW G d M pc L st h bc bs Q :=
  ji_weak (fun i v hi => ji_mask_at ms L i v (by rw [← hL]; exact hi)) k
/-- another view of the stack, the locals or the heap -/
theorem ji_eqv {L2 : List (Option Value)} {st2 : List Value} (k : JW G d M pc L2 st2 h2 bc bs Q) (h1 : L = L2 := by rfl) (h3 : st = st2 := by rfl) (h4 : h = h2 := by rfl) : JW G d M pc L st h bc bs Q := by subst h1; subst h3; subst h4; exact k
theorem ji_cV {idx q ci N n : Nat} {C : String} {T : u_T} {as fs : List Value} {st0 : List Value} {v : Value} (hd : decode M.2.1 pc = .ok (.invokevirtual idx, 3)) (hM : JR G d M2 (.ref q :: as) h 0 0 (some v) h2) (hs0 : st0 = as.reverse ++ .ref q :: st) (hq : h.2 q = .inl (ci, fs)) (hc : ji_cl[ci]? = some (C, T, N)) (hC : M2.1.cls = C) (hm : ji_mw M2 n) (hv : ji_mv M2) (hl : ji_in (.methodLink M.1.cls idx M2.1)) (hn : as.length = n) (hcat : (st.map fun v => v.category).sum ≤ 8) (htab : M.2.2.2.2 = [])
    (kk : JW G (d + 1) M (pc + 3) L (v :: st) h2 bc bs Q) : JW G (d + 1) M pc L st0 h bc bs Q :=
  ji_callV hd hM hs0 hq hc hC hm hv hl hn hcat htab (Nat.zero_le _) (Nat.zero_le _) (fun r h' hq => by obtain ⟨h1, rfl⟩ := hq; cases h1; exact kk) (fun E h' hq => by obtain ⟨h1, _⟩ := hq; cases h1)
theorem ji_cVv {idx q ci N n : Nat} {C : String} {T : u_T} {as fs : List Value} {st0 : List Value} (hd : decode M.2.1 pc = .ok (.invokevirtual idx, 3)) (hM : JR G d M2 (.ref q :: as) h 0 0 none h2) (hs0 : st0 = as.reverse ++ .ref q :: st) (hq : h.2 q = .inl (ci, fs)) (hc : ji_cl[ci]? = some (C, T, N)) (hC : M2.1.cls = C) (hm : ji_mw M2 n) (hv : ji_mv M2) (hl : ji_in (.methodLink M.1.cls idx M2.1)) (hn : as.length = n) (hcat : (st.map fun v => v.category).sum ≤ 8) (htab : M.2.2.2.2 = [])
    (kk : JW G (d + 1) M (pc + 3) L st h2 bc bs Q) : JW G (d + 1) M pc L st0 h bc bs Q :=
  ji_callV hd hM hs0 hq hc hC hm hv hl hn hcat htab (Nat.zero_le _) (Nat.zero_le _) (fun r h' hq => by obtain ⟨h1, rfl⟩ := hq; cases h1; exact kk) (fun E h' hq => by obtain ⟨h1, _⟩ := hq; cases h1)
theorem ji_cS {idx n : Nat} {as : List Value} {st0 : List Value} {v : Value} (hd : decode M.2.1 pc = .ok (.invokestatic idx, 3)) (hM : JR G d M2 as h 0 0 (some v) h2) (hs0 : st0 = as.reverse ++ st) (hm : ji_mw M2 n) (hv : ji_in (.static M2.1)) (hl : ji_in (.methodLink M.1.cls idx M2.1)) (hn : as.length = n) (hcat : (st.map fun v => v.category).sum ≤ 8) (htab : M.2.2.2.2 = [])
    (kk : JW G (d + 1) M (pc + 3) L (v :: st) h2 bc bs Q) : JW G (d + 1) M pc L st0 h bc bs Q :=
  ji_callS hd hM hs0 hm hv hl hn hcat htab (Nat.zero_le _) (Nat.zero_le _) (fun r h' hq => by obtain ⟨h1, rfl⟩ := hq; cases h1; exact kk) (fun E h' hq => by obtain ⟨h1, _⟩ := hq; cases h1)
theorem ji_putE {ci k idx q N : Nat} {C : String} {T : u_T} {fs : List Value} {v : Value} (hc : ji_cl[ci]? = some (C, T, N)) (hd : decode M.2.1 pc = .ok (.putfield idx, 3)) (hl : ji_in (.fieldLink M.1.cls idx (T k).1 (T k).2.1 (T k).2.2.1)) (hk : k < N) (hq : h.2 q = .inl (ci, fs)) (hlen : k < fs.length) (hf : ji_fit (ji_ty ci k) v) (hfin : (T k).2.2.2 = false) (he : (h.1, va_up h.2 q (.inl (ci, fs.set k v))) = h2)
    (kk : JW G d M (pc + 3) L st h2 bc bs Q) : JW G d M pc L (v :: .ref q :: st) h bc bs Q := ji_put hc hd hl hk hq hlen hf hfin (he ▸ kk)
theorem ji_iastoreE {q n : Nat} {g : Nat → Int} {i x : Int} (hd : decode M.2.1 pc = .ok (.iastore, 1)) (hq : h.2 q = .inr (.int, n, .inl g)) (hi : 0 ≤ i ∧ i < n ∧ i < 2147483648) (he : (h.1, va_up h.2 q (.inr (.int, n, .inl (va_up g i.toNat x)))) = h2)
    (kk : JW G d M (pc + 1) L st h2 bc bs Q) : JW G d M pc L (.int (jI x) :: .int (jI i) :: .ref q :: st) h bc bs Q := ji_iastore hd hq hi (he ▸ kk)
theorem ji_castoreE {q n : Nat} {g : Nat → Int} {i x : Int} (hd : decode M.2.1 pc = .ok (.castore, 1)) (hq : h.2 q = .inr (.char, n, .inl g)) (hi : 0 ≤ i ∧ i < n ∧ i < 2147483648) (hx : 0 ≤ x ∧ x < 65536) (he : (h.1, va_up h.2 q (.inr (.char, n, .inl (va_up g i.toNat x)))) = h2)
    (kk : JW G d M (pc + 1) L st h2 bc bs Q) : JW G d M pc L (.int (jI x) :: .int (jI i) :: .ref q :: st) h bc bs Q := ji_castore hd hq hi hx (he ▸ kk)
theorem ji_bastoreE {q n : Nat} {g : Nat → Int} {i x : Int} (hd : decode M.2.1 pc = .ok (.bastore, 1)) (hq : h.2 q = .inr (.boolean, n, .inl g)) (hi : 0 ≤ i ∧ i < n ∧ i < 2147483648) (hx : x = 0 ∨ x = 1) (he : (h.1, va_up h.2 q (.inr (.boolean, n, .inl (va_up g i.toNat x)))) = h2)
    (kk : JW G d M (pc + 1) L st h2 bc bs Q) : JW G d M pc L (.int (jI x) :: .int (jI i) :: .ref q :: st) h bc bs Q := ji_bastore hd hq hi hx (he ▸ kk)
theorem JM.mono {as : List Value} {Q2 : ji_R → ji_H → Prop} (hM : JM G d M as h bc bs Q2) (hq : ∀ r h', Q2 r h' → Q r h') : JM G d M as h bc bs Q := by
  intro hG ad
  have h1 := hM hG ad
  intro p e ha hc hk s m args below hf happ hP hT
  obtain ⟨k, o, a1, a2, a3, a4⟩ := h1 p e ha hc hk s m args below hf happ hP hT
  refine ⟨k, o, a1, a2, a3, ?_⟩
  rcases a4 with ⟨⟨r, r', h', ad', ws', q1, q2, q3, q4, q5, q6⟩, q7⟩ | ⟨q, ho, E, ce, LL, ⟨h', ad', ws', q3, q4, q5, q6⟩, q7⟩
  · exact Or.inl ⟨⟨r, r', h', ad', ws', q1, q2, q3, q4, hq _ _ q5, q6⟩, q7⟩
  · exact Or.inr ⟨q, ho, E, ce, LL, ⟨h', ad', ws', q3, q4, hq _ _ q5, q6⟩, q7⟩
end JiEasy
def ji_pad (n : Nat) (as : List Value) : List (Option Value) := ji_la as ++ List.replicate (n - (ji_la as).length) none
/-- a contract out of a walk from the entry, all locals named -/
theorem ji_ent {G : ji_G} {d : Nat} {M : ji_M} {h : ji_H} {bc bs : Nat} {Q : ji_R → ji_H → Prop} {as : List Value} {L0 : List (Option Value)} (hy : plainName M.1.cls = true) (htab : M.2.2.2.2 = []) (hlen : (ji_la as).length ≤ M.2.2.1) (hL0 : ji_pad M.2.2.1 as = L0) (k : JW G d M 0 L0 [] h bc bs Q) : JM G d M as h bc bs Q := by
  refine ji_entry hy htab hlen rfl (ji_weak (fun i v hi => ?_) k)
  subst hL0
  unfold ji_pad at hi
  by_cases hl : i < (ji_la as).length
  · rw [List.getElem?_append_left hl] at hi; exact hi
  · rw [List.getElem?_append_right (by omega), List.getElem?_replicate] at hi
    split at hi <;> cases hi
