/-! ===== locals ===== -/
def ji_clr (o : Option Value) : Option Value := match o with
  | some w => if w.category = 2 then none else some w
  | none => none
def ji_s1 : List (Option Value) → Nat → Value → List (Option Value)
  | [], _, _ => []
  | _ :: L, 0, v => some v :: L
  | o :: L, 1, v => ji_clr o :: ji_s1 L 0 v
  | o :: L, i + 2, v => o :: ji_s1 L (i + 1) v
def ji_s2 : List (Option Value) → Nat → Value → List (Option Value)
  | [], _, _ => []
  | _ :: [], 0, v => [some v]
  | _ :: _ :: L, 0, v => some v :: none :: L
  | o :: L, 1, v => ji_clr o :: ji_s2 L 0 v
  | o :: L, i + 2, v => o :: ji_s2 L (i + 1) v
theorem ji_clr_some {o : Option Value} {w : Value} (h : ji_clr o = some w) : o = some w ∧ ¬ w.category = 2 := by
  cases o with
  | none => simp [ji_clr] at h
  | some u =>
    by_cases hc : u.category = 2
    · simp [ji_clr, hc] at h
    · simp [ji_clr, hc] at h; subst h; exact ⟨rfl, hc⟩
theorem ji_s1_at : ∀ (L : List (Option Value)) (i : Nat) (v : Value) (j : Nat) (w : Value), (ji_s1 L i v)[j]? = some (some w) → (j = i ∧ w = v) ∨ (j ≠ i ∧ L[j]? = some (some w) ∧ ¬ (j + 1 = i ∧ w.category = 2))
  | [], i, v, j, w, h => by simp [ji_s1] at h
  | o :: L, 0, v, 0, w, h => by simp [ji_s1] at h; exact Or.inl ⟨rfl, h.symm⟩
  | o :: L, 0, v, j + 1, w, h => by simp [ji_s1] at h; exact Or.inr ⟨by omega, by simpa using h, by omega⟩
  | o :: L, 1, v, 0, w, h => by
    simp [ji_s1] at h
    obtain ⟨h1, h2⟩ := ji_clr_some h
    exact Or.inr ⟨by omega, by simpa using h1, fun q => h2 q.2⟩
  | o :: L, 1, v, j + 1, w, h => by
    simp only [ji_s1, List.getElem?_cons_succ] at h
    rcases ji_s1_at L 0 v j w h with ⟨h1, h2⟩ | ⟨h1, h2, h3⟩
    · exact Or.inl ⟨by omega, h2⟩
    · exact Or.inr ⟨by omega, by simpa using h2, by omega⟩
  | o :: L, i + 2, v, 0, w, h => by simp [ji_s1] at h; exact Or.inr ⟨by omega, by simpa using h, by omega⟩
  | o :: L, i + 2, v, j + 1, w, h => by
    simp only [ji_s1, List.getElem?_cons_succ] at h
    rcases ji_s1_at L (i + 1) v j w h with ⟨h1, h2⟩ | ⟨h1, h2, h3⟩
    · exact Or.inl ⟨by omega, h2⟩
    · exact Or.inr ⟨by omega, by simpa using h2, fun q => h3 ⟨by omega, q.2⟩⟩
theorem ji_s2_at : ∀ (L : List (Option Value)) (i : Nat) (v : Value) (j : Nat) (w : Value), (ji_s2 L i v)[j]? = some (some w) → (j = i ∧ w = v) ∨ (j ≠ i ∧ j ≠ i + 1 ∧ L[j]? = some (some w) ∧ ¬ (j + 1 = i ∧ w.category = 2))
  | [], i, v, j, w, h => by simp [ji_s2] at h
  | [o], 0, v, 0, w, h => by simp [ji_s2] at h; exact Or.inl ⟨rfl, h.symm⟩
  | [o], 0, v, j + 1, w, h => by simp [ji_s2] at h
  | o :: o2 :: L, 0, v, 0, w, h => by simp [ji_s2] at h; exact Or.inl ⟨rfl, h.symm⟩
  | o :: o2 :: L, 0, v, 1, w, h => by simp [ji_s2] at h
  | o :: o2 :: L, 0, v, j + 2, w, h => by simp [ji_s2] at h; exact Or.inr ⟨by omega, by omega, by simpa using h, by omega⟩
  | o :: L, 1, v, 0, w, h => by
    have h : ji_clr o = some w := by cases L <;> simpa [ji_s2] using h
    obtain ⟨h1, h2⟩ := ji_clr_some h
    exact Or.inr ⟨by omega, by omega, by simpa using h1, fun q => h2 q.2⟩
  | o :: L, 1, v, j + 1, w, h => by
    have h : (ji_s2 L 0 v)[j]? = some (some w) := by cases L <;> simpa [ji_s2] using h
    rcases ji_s2_at L 0 v j w h with ⟨h1, h2⟩ | ⟨h1, h2, h3, h4⟩
    · exact Or.inl ⟨by omega, h2⟩
    · exact Or.inr ⟨by omega, by omega, by simpa using h3, by omega⟩
  | o :: L, i + 2, v, 0, w, h => by
    have h : o = some w := by cases L <;> simpa [ji_s2] using h
    exact Or.inr ⟨by omega, by omega, by simpa using h, by omega⟩
  | o :: L, i + 2, v, j + 1, w, h => by
    have h : (ji_s2 L (i + 1) v)[j]? = some (some w) := by cases L <;> simpa [ji_s2] using h
    rcases ji_s2_at L (i + 1) v j w h with ⟨h1, h2⟩ | ⟨h1, h2, h3, h4⟩
    · exact Or.inl ⟨by omega, h2⟩
    · exact Or.inr ⟨by omega, by omega, by simpa using h3, fun q => h4 ⟨by omega, q.2⟩⟩
theorem ji_ls.get {G : ji_G} {ad : List Nat} {L : List (Option Value)} {nL : Nat} {ls : Array Slot} (h : ji_ls G ad L nL ls) {i : Nat} {v : Value} (hi : L[i]? = some (some v)) : ∃ v', ls[i]? = some (.val v') ∧ ji_v G ad v v' := by
  obtain ⟨lv, h1, h2⟩ := h
  obtain ⟨v', q1, q2⟩ := h2 i v hi
  exact ⟨v', h1.2.2 (i, v') q1, q2⟩
theorem ji_ls.s1 {G : ji_G} {ad : List Nat} {L : List (Option Value)} {nL : Nat} {i : Nat} {v v' : Value} {lv : List (Nat × Value)} (h2 : ∀ (i : Nat) (v : Value), L[i]? = some (some v) → ∃ v', (i, v') ∈ lv ∧ ji_v G ad v v') (hv : ji_v G ad v v') {ls' : Array Slot} (h : lv_has ls' nL ((i, v') :: lv.filter (fun q => !(q.1 == i) && !(q.1 + 1 == i && q.2.category == 2)))) : ji_ls G ad (ji_s1 L i v) nL ls' := by
  refine ⟨_, h, fun j w hj => ?_⟩
  rcases ji_s1_at L i v j w hj with ⟨rfl, rfl⟩ | ⟨q1, q2, q3⟩
  · exact ⟨v', List.mem_cons_self, hv⟩
  · obtain ⟨w', r1, r2⟩ := h2 j w q2
    refine ⟨w', List.mem_cons_of_mem _ (List.mem_filter.mpr ⟨r1, ?_⟩), r2⟩
    have e := r2.cat
    simp only [Bool.and_eq_true, Bool.not_eq_true', beq_eq_false_iff_ne, ne_eq]
    refine ⟨q1, ?_⟩
    rw [Bool.and_eq_false_iff]
    by_cases hji : j + 1 = i
    · right; rw [beq_eq_false_iff_ne]; rw [e]; exact fun z => q3 ⟨hji, z⟩
    · left; rw [beq_eq_false_iff_ne]; exact hji
theorem ji_ls.s2 {G : ji_G} {ad : List Nat} {L : List (Option Value)} {nL : Nat} {i : Nat} {v v' : Value} {lv : List (Nat × Value)} (h2 : ∀ (i : Nat) (v : Value), L[i]? = some (some v) → ∃ v', (i, v') ∈ lv ∧ ji_v G ad v v') (hv : ji_v G ad v v') {ls' : Array Slot} (h : lv_has ls' nL ((i, v') :: lv.filter (fun q => !(q.1 == i) && (!(q.1 == i + 1) && !(q.1 + 1 == i && q.2.category == 2))))) : ji_ls G ad (ji_s2 L i v) nL ls' := by
  refine ⟨_, h, fun j w hj => ?_⟩
  rcases ji_s2_at L i v j w hj with ⟨rfl, rfl⟩ | ⟨q1, q0, q2, q3⟩
  · exact ⟨v', List.mem_cons_self, hv⟩
  · obtain ⟨w', r1, r2⟩ := h2 j w q2
    refine ⟨w', List.mem_cons_of_mem _ (List.mem_filter.mpr ⟨r1, ?_⟩), r2⟩
    have e := r2.cat
    simp only [Bool.and_eq_true, Bool.not_eq_true', beq_eq_false_iff_ne, ne_eq]
    refine ⟨q1, q0, ?_⟩
    rw [Bool.and_eq_false_iff]
    by_cases hji : j + 1 = i
    · right; rw [beq_eq_false_iff_ne]; rw [e]; exact fun z => q3 ⟨hji, z⟩
    · left; rw [beq_eq_false_iff_ne]; exact hji
section JiLoc
variable {G : ji_G} {d : Nat} {M : ji_M} {pc : Nat} {L : List (Option Value)} {st : List Value} {h : ji_H} {bc bs : Nat} {Q : ji_R → ji_H → Prop}
/-- less of the locals is known -/
theorem ji_weak {L2 : List (Option Value)} (hL : ∀ (i : Nat) (v : Value), L2[i]? = some (some v) → L[i]? = some (some v)) (k : JW G d M pc L2 st h bc bs Q) : JW G d M pc L st h bc bs Q := by
  intro hG p e R s m args below meth c H locs cells slots ls st' ad ad0 ws C hfr hlo hc hs hw hS h0 ha hst hls
  obtain ⟨lv, h1, h2⟩ := hls
  exact k hG p e R s m args below meth c H locs cells slots ls st' ad ad0 ws C hfr hlo hc hs hw hS h0 ha hst ⟨lv, h1, fun i v q => h2 i v (hL i v q)⟩
/-- the room may be counted lower -/
theorem ji_less {bc2 bs2 : Nat} (h1 : bc2 ≤ bc) (h2 : bs2 ≤ bs) (k : JW G d M pc L st h bc2 bs2 Q) : JW G d M pc L st h bc bs Q := by
  intro hG p e R s m args below meth c H locs cells slots ls st' ad ad0 ws C hfr hlo hc hs hw hS h0 ha hst hls
  exact k hG p e R s m args below meth c H locs cells slots ls st' ad ad0 ws C hfr hlo (by omega) (by omega) hw hS h0 ha hst hls
theorem ji_loadG {i n : Nat} {v : Value} (hl : L[i]? = some (some v)) (f : ∀ (p : Program) (e : Env) (R : Room) (s : State) (m : MethodId) (args : Array Value) (below : List Frame) (meth : Method) (c : Code) (H : Heap) (locs : List Loc) (cells slots : Nat) (ls : Array Slot) (st' : List Value) (ad : List Nat) (X : State → Prop) (v' : Value),
      p.tables.exec = Jvm.exec → c.code = M.2.1 → ls[i]? = some (.val v') → ji_v G ad v v' → W p G.2.1 e R s m args below meth c H locs cells slots X (F0 m (pc + n) ls (v' :: st')) → W p G.2.1 e R s m args below meth c H locs cells slots X (F0 m pc ls st'))
    (k : JW G d M (pc + n) L (v :: st) h bc bs Q) : JW G d M pc L st h bc bs Q := by
  intro hG p e R s m args below meth c H locs cells slots ls st' ad ad0 ws C hfr hlo hc hs hw hS h0 ha hst hls
  obtain ⟨v', q1, q2⟩ := hls.get hl
  exact f p e R s m args below meth c H locs cells slots ls st' ad _ v' C.1 C.2.1 q1 q2 (k hG p e R s m args below meth c H locs cells slots ls _ ad ad0 ws C hfr hlo hc hs hw hS h0 ha ⟨v', st', rfl, q2, hst⟩ hls)
theorem ji_iload {i : Nat} {x : Int32} (hd : decode M.2.1 pc = .ok (.iload i, 2)) (hl : L[i]? = some (some (.int x))) (k : JW G d M (pc + 2) L (.int x :: st) h bc bs Q) : JW G d M pc L st h bc bs Q :=
  ji_loadG hl (fun p e R s m args below meth c H locs cells slots ls st' ad X v' hx hb q1 q2 k => by cases (show v' = _ from q2); exact lv_iload hx hb hd q1 k) k
theorem ji_iload_n {i : Fin 4} {x : Int32} (hd : decode M.2.1 pc = .ok (.iload_n i, 1)) (hl : L[(i : Nat)]? = some (some (.int x))) (k : JW G d M (pc + 1) L (.int x :: st) h bc bs Q) : JW G d M pc L st h bc bs Q :=
  ji_loadG hl (fun p e R s m args below meth c H locs cells slots ls st' ad X v' hx hb q1 q2 k => by cases (show v' = _ from q2); exact lv_iload_n hx hb hd rfl q1 k) k
theorem ji_lload {i : Nat} {x : Int64} (hd : decode M.2.1 pc = .ok (.lload i, 2)) (hl : L[i]? = some (some (.long x))) (k : JW G d M (pc + 2) L (.long x :: st) h bc bs Q) : JW G d M pc L st h bc bs Q :=
  ji_loadG hl (fun p e R s m args below meth c H locs cells slots ls st' ad X v' hx hb q1 q2 k => by cases (show v' = _ from q2); exact lv_lload hx hb hd q1 k) k
theorem ji_lload_n {i : Fin 4} {x : Int64} (hd : decode M.2.1 pc = .ok (.lload_n i, 1)) (hl : L[(i : Nat)]? = some (some (.long x))) (k : JW G d M (pc + 1) L (.long x :: st) h bc bs Q) : JW G d M pc L st h bc bs Q :=
  ji_loadG hl (fun p e R s m args below meth c H locs cells slots ls st' ad X v' hx hb q1 q2 k => by cases (show v' = _ from q2); exact lv_lload_n hx hb hd rfl q1 k) k
theorem ji_dload {i : Nat} {x : UInt64} (hd : decode M.2.1 pc = .ok (.dload i, 2)) (hl : L[i]? = some (some (.double x))) (k : JW G d M (pc + 2) L (.double x :: st) h bc bs Q) : JW G d M pc L st h bc bs Q :=
  ji_loadG hl (fun p e R s m args below meth c H locs cells slots ls st' ad X v' hx hb q1 q2 k => by cases (show v' = _ from q2); exact lv_dload hx hb hd q1 k) k
/-- what a reference may be here -/
def ji_isR : Value → Prop
  | .ref _ => True
  | .null => True
  | .retAddr _ => True
  | .float _ => True
  | _ => False
theorem ji_v.isR {ad : List Nat} {v v' : Value} (h : ji_v G ad v v') (hv : ji_isR v) : v' = .null ∨ ∃ a, v' = .ref a := by
  cases v with
  | ref k => obtain ⟨a, -, rfl⟩ := h; exact Or.inr ⟨a, rfl⟩
  | null => exact Or.inl h
  | retAddr k => exact Or.inr ⟨_, h⟩
  | float k => exact Or.inr h
  | _ => exact absurd hv (by simp [ji_isR])
theorem ji_aload {i : Nat} {v : Value} (hd : decode M.2.1 pc = .ok (.aload i, 2)) (hl : L[i]? = some (some v)) (hv : ji_isR v) (k : JW G d M (pc + 2) L (v :: st) h bc bs Q) : JW G d M pc L st h bc bs Q :=
  ji_loadG hl (fun p e R s m args below meth c H locs cells slots ls st' ad X v' hx hb q1 q2 k => by
    rcases q2.isR hv with rfl | ⟨a, rfl⟩
    · exact lv_aloadN hx hb hd q1 k
    · exact lv_aload hx hb hd q1 k) k
theorem ji_aload_n {i : Fin 4} {v : Value} (hd : decode M.2.1 pc = .ok (.aload_n i, 1)) (hl : L[(i : Nat)]? = some (some v)) (hv : ji_isR v) (k : JW G d M (pc + 1) L (v :: st) h bc bs Q) : JW G d M pc L st h bc bs Q :=
  ji_loadG hl (fun p e R s m args below meth c H locs cells slots ls st' ad X v' hx hb q1 q2 k => by
    rcases q2.isR hv with rfl | ⟨a, rfl⟩
    · exact lv_aload_nN hx hb hd rfl q1 k
    · exact lv_aload_n hx hb hd rfl q1 k) k
theorem ji_store1G {i n : Nat} {v : Value} {L' : List (Option Value)} (hL : ji_s1 L i v = L') (f : ∀ (p : Program) (e : Env) (R : Room) (s : State) (m : MethodId) (args : Array Value) (below : List Frame) (meth : Method) (c : Code) (H : Heap) (locs : List Loc) (cells slots : Nat) (ls : Array Slot) (st' : List Value) (ad : List Nat) (X : State → Prop) (v' : Value) (lv : List (Nat × Value)),
      p.tables.exec = Jvm.exec → c.code = M.2.1 → ji_v G ad v v' → lv_has ls M.2.2.1 lv → (∀ ls' : Array Slot, lv_has ls' M.2.2.1 ((i, v') :: lv.filter (fun q => !(q.1 == i) && !(q.1 + 1 == i && q.2.category == 2))) → W p G.2.1 e R s m args below meth c H locs cells slots X (F0 m (pc + n) ls' st')) → W p G.2.1 e R s m args below meth c H locs cells slots X (F0 m pc ls (v' :: st')))
    (k : JW G d M (pc + n) L' st h bc bs Q) : JW G d M pc L (v :: st) h bc bs Q := by
  intro hG p e R s m args below meth c H locs cells slots ls st' ad ad0 ws C hfr hlo hc hs hw hS h0 ha hst hls
  obtain ⟨v', r, rfl, h1, hst⟩ := hst
  obtain ⟨lv, q1, q2⟩ := hls
  subst hL
  exact f p e R s m args below meth c H locs cells slots ls r ad _ v' lv C.1 C.2.1 h1 q1 (fun ls' hl' => k hG p e R s m args below meth c H locs cells slots ls' r ad ad0 ws C hfr hlo hc hs hw hS h0 ha hst (ji_ls.s1 q2 h1 hl'))
theorem ji_istore {i : Nat} {x : Int32} {L' : List (Option Value)} (hd : decode M.2.1 pc = .ok (.istore i, 2)) (hn : i < M.2.2.1) (hL : ji_s1 L i (.int x) = L') (k : JW G d M (pc + 2) L' st h bc bs Q) : JW G d M pc L (.int x :: st) h bc bs Q :=
  ji_store1G hL (fun p e R s m args below meth c H locs cells slots ls st' ad X v' lv hx hb q1 q2 k => by cases (show v' = _ from q1); exact lv_istore hx hb hd q2 hn rfl k) k
theorem ji_istore_n {i : Fin 4} {x : Int32} {L' : List (Option Value)} (hd : decode M.2.1 pc = .ok (.istore_n i, 1)) (hn : (i : Nat) < M.2.2.1) (hL : ji_s1 L i (.int x) = L') (k : JW G d M (pc + 1) L' st h bc bs Q) : JW G d M pc L (.int x :: st) h bc bs Q :=
  ji_store1G hL (fun p e R s m args below meth c H locs cells slots ls st' ad X v' lv hx hb q1 q2 k => by cases (show v' = _ from q1); exact lv_istore_n hx hb hd rfl q2 hn rfl k) k
theorem ji_astore {i : Nat} {v : Value} {L' : List (Option Value)} (hd : decode M.2.1 pc = .ok (.astore i, 2)) (hn : i < M.2.2.1) (hv : ji_isR v) (hL : ji_s1 L i v = L') (k : JW G d M (pc + 2) L' st h bc bs Q) : JW G d M pc L (v :: st) h bc bs Q :=
  ji_store1G hL (fun p e R s m args below meth c H locs cells slots ls st' ad X v' lv hx hb q1 q2 k => by
    rcases q1.isR hv with rfl | ⟨a, rfl⟩
    · exact lv_astoreN hx hb hd q2 hn rfl k
    · exact lv_astore hx hb hd q2 hn rfl k) k
theorem ji_astore_n {i : Fin 4} {v : Value} {L' : List (Option Value)} (hd : decode M.2.1 pc = .ok (.astore_n i, 1)) (hn : (i : Nat) < M.2.2.1) (hv : ji_isR v) (hL : ji_s1 L i v = L') (k : JW G d M (pc + 1) L' st h bc bs Q) : JW G d M pc L (v :: st) h bc bs Q :=
  ji_store1G hL (fun p e R s m args below meth c H locs cells slots ls st' ad X v' lv hx hb q1 q2 k => by
    rcases q1.isR hv with rfl | ⟨a, rfl⟩
    · exact lv_astore_nN hx hb hd rfl q2 hn rfl k
    · exact lv_astore_n hx hb hd rfl q2 hn rfl k) k
theorem ji_iinc {i : Nat} {n x : Int} {L' : List (Option Value)} (hd : decode M.2.1 pc = .ok (.iinc i n, 3)) (hn : i < M.2.2.1) (hl : L[i]? = some (some (.int (jI x)))) (hL : ji_s1 L i (.int (jI (x + n))) = L') (k : JW G d M (pc + 3) L' st h bc bs Q) : JW G d M pc L st h bc bs Q := by
  intro hG p e R s m args below meth c H locs cells slots ls st' ad ad0 ws C hfr hlo hc hs hw hS h0 ha hst hls
  obtain ⟨lv, q1, q2⟩ := hls
  obtain ⟨v', r1, r2⟩ := q2 i _ hl
  cases (show v' = _ from r2)
  obtain ⟨k9, hk9⟩ := List.getElem?_of_mem r1
  subst hL
  exact lv_iinc (k := k9) C.1 C.2.1 hd q1 hk9 (jI_add x n) hn rfl (fun ls' hl' => k hG p e R s m args below meth c H locs cells slots ls' st' ad ad0 ws C hfr hlo hc hs hw hS h0 ha hst (ji_ls.s1 q2 (v := .int (jI (x + n))) rfl hl'))
theorem ji_store2G {i n : Nat} {v : Value} {L' : List (Option Value)} (hL : ji_s2 L i v = L') (f : ∀ (p : Program) (e : Env) (R : Room) (s : State) (m : MethodId) (args : Array Value) (below : List Frame) (meth : Method) (c : Code) (H : Heap) (locs : List Loc) (cells slots : Nat) (ls : Array Slot) (st' : List Value) (ad : List Nat) (X : State → Prop) (v' : Value) (lv : List (Nat × Value)),
      p.tables.exec = Jvm.exec → c.code = M.2.1 → ji_v G ad v v' → lv_has ls M.2.2.1 lv → (∀ ls' : Array Slot, lv_has ls' M.2.2.1 ((i, v') :: lv.filter (fun q => !(q.1 == i) && (!(q.1 == i + 1) && !(q.1 + 1 == i && q.2.category == 2)))) → W p G.2.1 e R s m args below meth c H locs cells slots X (F0 m (pc + n) ls' st')) → W p G.2.1 e R s m args below meth c H locs cells slots X (F0 m pc ls (v' :: st')))
    (k : JW G d M (pc + n) L' st h bc bs Q) : JW G d M pc L (v :: st) h bc bs Q := by
  intro hG p e R s m args below meth c H locs cells slots ls st' ad ad0 ws C hfr hlo hc hs hw hS h0 ha hst hls
  obtain ⟨v', r, rfl, h1, hst⟩ := hst
  obtain ⟨lv, q1, q2⟩ := hls
  subst hL
  exact f p e R s m args below meth c H locs cells slots ls r ad _ v' lv C.1 C.2.1 h1 q1 (fun ls' hl' => k hG p e R s m args below meth c H locs cells slots ls' r ad ad0 ws C hfr hlo hc hs hw hS h0 ha hst (ji_ls.s2 q2 h1 hl'))
theorem ji_lstore {i : Nat} {x : Int64} {L' : List (Option Value)} (hd : decode M.2.1 pc = .ok (.lstore i, 2)) (hn : i + 1 < M.2.2.1) (hL : ji_s2 L i (.long x) = L') (k : JW G d M (pc + 2) L' st h bc bs Q) : JW G d M pc L (.long x :: st) h bc bs Q :=
  ji_store2G hL (fun p e R s m args below meth c H locs cells slots ls st' ad X v' lv hx hb q1 q2 k => by cases (show v' = _ from q1); exact lv_lstore hx hb hd q2 hn rfl k) k
theorem ji_lstore_n {i : Fin 4} {x : Int64} {L' : List (Option Value)} (hd : decode M.2.1 pc = .ok (.lstore_n i, 1)) (hn : (i : Nat) + 1 < M.2.2.1) (hL : ji_s2 L i (.long x) = L') (k : JW G d M (pc + 1) L' st h bc bs Q) : JW G d M pc L (.long x :: st) h bc bs Q :=
  ji_store2G hL (fun p e R s m args below meth c H locs cells slots ls st' ad X v' lv hx hb q1 q2 k => by cases (show v' = _ from q1); exact lv_lstore_n hx hb hd rfl q2 hn rfl k) k
theorem ji_dstore {i : Nat} {x : UInt64} {L' : List (Option Value)} (hd : decode M.2.1 pc = .ok (.dstore i, 2)) (hn : i + 1 < M.2.2.1) (hL : ji_s2 L i (.double x) = L') (k : JW G d M (pc + 2) L' st h bc bs Q) : JW G d M pc L (.double x :: st) h bc bs Q :=
  ji_store2G hL (fun p e R s m args below meth c H locs cells slots ls st' ad X v' lv hx hb q1 q2 k => by cases (show v' = _ from q1); exact lv_dstore hx hb hd q2 hn rfl k) k
end JiLoc
