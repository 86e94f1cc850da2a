/-! ===== THE IDEAL LEVEL: values, cells and heaps by places; JW: the machine at a frame, seen from there; JM: a method's contract, seen from there ===== -/
def jI (k : Int) : Int32 := Int32.ofInt k
theorem jI_add (x y : Int) : jI x + jI y = jI (x + y) := (Int32.ofInt_add x y).symm
theorem jI_sub (x y : Int) : jI x - jI y = jI (x - y) := (Int32.ofInt_sub x y).symm
theorem jI_mul (x y : Int) : jI x * jI y = jI (x * y) := (Int32.ofInt_mul x y).symm
theorem jI_toInt {x : Int} (h : -2147483648 ≤ x ∧ x < 2147483648) : (jI x).toInt = x := Int32.toInt_ofInt_of_le (by omega) (by omega)
theorem jI_of (x : Int32) : ∃ k : Int, x = jI k ∧ -2147483648 ≤ k ∧ k < 2147483648 := ⟨x.toInt, (Int32.ofInt_toInt x).symm, x.le_toInt, x.toInt_lt⟩
theorem jI_inj {x y : Int} (hx : -2147483648 ≤ x ∧ x < 2147483648) (hy : -2147483648 ≤ y ∧ y < 2147483648) : jI x = jI y ↔ x = y :=
  ⟨fun h => by rw [← jI_toInt hx, ← jI_toInt hy, h], fun h => by rw [h]⟩
theorem jI_le {x y : Int} (hx : -2147483648 ≤ x ∧ x < 2147483648) (hy : -2147483648 ≤ y ∧ y < 2147483648) : jI x ≤ jI y ↔ x ≤ y := by
  rw [Int32.le_iff_toInt_le, jI_toInt hx, jI_toInt hy]
theorem jI_lt {x y : Int} (hx : -2147483648 ≤ x ∧ x < 2147483648) (hy : -2147483648 ≤ y ∧ y < 2147483648) : jI x < jI y ↔ x < y := by
  rw [Int32.lt_iff_toInt_lt, jI_toInt hx, jI_toInt hy]
theorem jI_nat (n : Nat) : Int32.ofNat n = jI n := (Int32.ofInt_eq_ofNat).symm
theorem jI_clamp {i : Int} (h : 0 ≤ i ∧ i < 2147483648) : (jI i).toNatClampNeg = i.toNat := by
  obtain ⟨n, rfl⟩ := Int.eq_ofNat_of_zero_le h.1
  rw [← jI_nat, Int32.toNatClampNeg_ofNat_of_lt (by omega)]
  rfl
theorem jI_in {i : Int} {n : Nat} (h : 0 ≤ i ∧ i < n ∧ i < 2147483648) : vp_in (jI i) n := by
  intro q
  rcases q with q | q
  · rw [show (0 : Int32) = jI 0 from rfl, jI_lt (by omega) (by omega)] at q; omega
  · rw [jI_clamp (by omega)] at q; omega
theorem jI_zero : (0 : Int32) = jI 0 := rfl
abbrev ji_C : Type := (Nat × List Value) ⊕ (FieldType × Nat × ((Nat → Int) ⊕ (Nat → Int64) ⊕ (Nat → Option Nat)))
abbrev ji_H : Type := Nat × (Nat → ji_C)
/-- a method: name, bytes, locals, what it answers, its table -/
abbrev ji_M : Type := MethodName × ByteArray × Nat × Option FieldType × List (Nat × Nat × Nat × Nat)
/-- what a call comes to: it returns, or throws a class -/
abbrev ji_R : Type := Option Value ⊕ String
/-- the law's start, the launch, classes and slots, array classes, the static row's cell, the script's cell, its length, its ints -/
abbrev ji_G : Type := State × Launch × va_G × (Nat → ClassId) × Nat × Nat × Nat × (Nat → Int32)
def ji_cl : List vw_C := [(RX0, TX0, 3), (RX1, TX1, 3), (RX2, TX2, 3), (RX3, TX3, 16), (RX4, TX4, 7), (RX5, TX5, 7), (RX6, TX6, 2), (RX7, TX7, 11), (RX8, TX8, 25)]
def ji_tys (cy : Nat → ClassId) : List (ClassId × FieldType) := [(cy 0, .int), (cy 1, .char), (cy 2, .boolean), (cy 3, .long), (cy 4, .object RX6), (cy 5, .object RX0), (cy 6, .object RX4)]
def ji_ti : FieldType → Nat
  | .int => 0
  | .char => 1
  | .boolean => 2
  | .long => 3
  | .object n => if n = RX6 then 4 else if n = RX0 then 5 else 6
  | _ => 7
def ji_A (G : ji_G) : Nat → Prop := fun q => G.1.heap.size ≤ q
def ji_v (G : ji_G) (ad : List Nat) (v v' : Value) : Prop := match v with
  | .ref k => ∃ a, ad[k]? = some a ∧ v' = .ref a
  | .retAddr k => v' = .ref (if k = 0 then G.2.2.2.2.1 else G.2.2.2.2.2.1)
  | .float _ => ∃ q, v' = .ref q
  | w => v' = w
def ji_vs (G : ji_G) (ad : List Nat) : List Value → List Value → Prop
  | [], r => r = []
  | v :: vs, r => ∃ v' r', r = v' :: r' ∧ ji_v G ad v v' ∧ ji_vs G ad vs r'
def ji_o (G : ji_G) (ad : List Nat) : Option Value → Option Value → Prop
  | none, r => r = none
  | some v, r => ∃ v', r = some v' ∧ ji_v G ad v v'
def ji_c (G : ji_G) (ad : List Nat) (c : ji_C) (e : va_E) : Prop := match c with
  | .inl (ci, fs) => ∃ fs', e = .inr (ci, fs') ∧ ji_vs G ad fs fs'
  | .inr (ty, n, .inl g) => e = .inl (G.2.2.2.1 (ji_ti ty), n, .inl (fun j => jI (g j)))
  | .inr (ty, n, .inr (.inl g)) => e = .inl (G.2.2.2.1 (ji_ti ty), n, .inr (.inl g))
  | .inr (ty, n, .inr (.inr f)) => ∃ f' : Nat → Option Nat, e = .inl (G.2.2.2.1 (ji_ti ty), n, .inr (.inr (.inr (.inr f')))) ∧ ∀ j, j < n → match f j with
    | none => f' j = none
    | some k => ∃ a, ad[k]? = some a ∧ f' j = some a
def ji_rel (G : ji_G) (ad : List Nat) (h : ji_H) (ws : va_W) : Prop := ad.length = h.1 ∧ ws.length = h.1 ∧ ∀ (k a : Nat), ad[k]? = some a → ∃ e, ws[k]? = some (a, e) ∧ ji_c G ad (h.2 k) e
def ji_w (G : ji_G) (ad : List Nat) (h : ji_H) (ws : va_W) (H : Heap) : Prop :=
  va_P G.2.2.1 ji_cl ws H ∧ va_D (ji_A G) ws ∧ ji_rel G ad h ws ∧ G.1.heap.size ≤ H.size ∧ ∀ q, q < G.1.heap.size → H[q]? = G.1.heap[q]?
def ji_ls (G : ji_G) (ad : List Nat) (L : List (Option Value)) (nL : Nat) (ls : Array Slot) : Prop :=
  ∃ lv, lv_has ls nL lv ∧ ∀ (i : Nat) (v : Value), L[i]? = some (some v) → ∃ v', (i, v') ∈ lv ∧ ji_v G ad v v'
/-- a word of the tables that holds at every method's start -/
def ji_in (w : Cond) : Prop := w ∈ lw_tbl ∧ goodWord w = true
def ji_str : List (Nat × String) := [(77, "code is not 32 to 126"), (88, "the buffer is full"), (110, "the buffer is not a book"), (140, "the note has no text"), (155, "there is no such part of the style"), (157, "value is out of range"), (175, "row or column is out of range"), (186, "the page has no such note"), (219, "no jump is kept"), (252, "the text has no such offsets"), (254, "color is out of range"), (259, "there are 12 annotations"), (276, "word is out of range"), (281, "the paragraph would have more than 24 words"), (304, "a word does not exist, or many is less than 1"), (306, "no word would be left"), (316, "the word does not exist, or is 0"), (318, "there are 10 paragraphs"), (327, "the next paragraph does not exist"), (336, "no edit can be undone"), (355, "pages is less than 1"), (463, "note is not 0 to 9"), (465, "width is out of range"), (467, "height is out of range"), (469, "what is out of range"), (471, "the buffer is not a word list"), (473, "the page does not exist"), (475, "the line does not exist"), (477, "the paragraph does not exist"), (479, "the text has no such offset"), (481, "the annotation does not exist")]
def ji_E : List String := ["java/lang/IllegalArgumentException", "java/lang/IllegalStateException", "java/lang/IndexOutOfBoundsException"]
def ji_nest : List (String × Nat × MethodName) := [(RX7, 11, yX2_init), (RX2, 17, yX5_init), (RX7, 47, yX4_init), (RX1, 23, yX4_init)]
/-- what holds at the law's start -/
def ji_OK (G : ji_G) : Prop :=
  (∀ w ∈ lw_tbl, w.before #[Value.ref G.2.2.2.2.2.1] G.1 = true) ∧ va_K G.2.2.1 ji_cl (ji_tys G.2.2.2.1) G.1 ∧ G.2.1.stackTraces = false
  ∧ va_X G.2.2.2.2.2.1 G.2.2.2.2.2.2.1 G.2.2.2.2.2.2.2 G.1 G.1.heap ∧ G.2.2.2.2.2.1 < G.1.heap.size
  ∧ vx_Zq Bundle.tN "UNASSIGNED_STACK" Bundle.steD (ji_A G) G.1 G.1.heap ∧ vx_Zq Bundle.tN "SUPPRESSED_SENTINEL" Bundle.listD (ji_A G) G.1 G.1.heap
  ∧ va_Z RX7 "STYLE_LIMITS" "[I" (.ref G.2.2.2.2.1) (ji_A G) G.1 G.1.heap
  ∧ va_T .int G.2.2.2.2.1 5 (fun j => .int (jI ([4, 4, 2, 1, 1].getD j 0))) (ji_A G) G.1 G.1.heap
  ∧ (∀ q ∈ ji_str, ∃ sa, vk_R RX7 q.1 q.2 sa G.1) ∧ (∀ E ∈ ji_E, va_Nw (.castable E E) G.1) ∧ (∀ E ∈ ji_E, ∀ F ∈ ji_E, E ≠ F → va_Nc E F G.1) ∧ (∀ w ∈ ji_nest, va_Nw (.methodLinkNest w.1 w.2.1 w.2.2 "BookPager") G.1)
  ∧ va_Nw (.castable "[I" "java/lang/Cloneable") G.1 ∧ (∀ C ∈ [RX6, RX0, RX4], va_AO C G.1)
def ji_cx (G : ji_G) (M : ji_M) (p : Program) (s : State) (m : MethodId) (meth : Method) (c : Code) : Prop :=
  p.tables.exec = Jvm.exec ∧ c.code = M.2.1 ∧ c.maxLocals = M.2.2.1 ∧ meth.sig.returnType = M.2.2.2.1 ∧ s.vm.findClass M.1.cls = some m.cls ∧ meth.locks = false ∧ meth.name = M.1.name ∧ G.1.WarmedH s.vm ∧ c.exceptionTable.toList = tableOf M.2.2.2.2
def ji_Qc (G : ji_G) (ad : List Nat) (Q : ji_R → ji_H → Prop) : Array Value → State → Outcome → State → Prop := fun _ st o t =>
  ∃ (r r' : Option Value) (h' : ji_H) (ad' : List Nat) (ws' : va_W), o = .returned r' ∧ ji_o G ad' r r' ∧ (∃ ex, ad' = ad ++ ex) ∧ ji_w G ad' h' ws' t.heap ∧ Q (.inl r) h' ∧ st.heap.size ≤ t.heap.size
def ji_Xc (G : ji_G) (ad : List Nat) (Q : ji_R → ji_H → Prop) : String → State → State → Prop := fun E st t =>
  ∃ (h' : ji_H) (ad' : List Nat) (ws' : va_W), (∃ ex, ad' = ad ++ ex) ∧ ji_w G ad' h' ws' t.heap ∧ Q (.inr E) h' ∧ st.heap.size ≤ t.heap.size
def ji_Pc (G : ji_G) (ad : List Nat) (h : ji_H) (as : List Value) : Array Value → State → Prop := fun a U =>
  G.1.WarmedH U.vm ∧ ∃ (as' : List Value) (ws : va_W), a = as'.toArray ∧ ji_vs G ad as as' ∧ ji_w G ad h ws U.heap
def JW (G : ji_G) (d : Nat) (M : ji_M) (pc : Nat) (L : List (Option Value)) (st : List Value) (h : ji_H) (bc bs : Nat) (Q : ji_R → ji_H → Prop) : Prop :=
  ji_OK G → ∀ (p : Program) (e : Env) (R : Room) (s : State) (m : MethodId) (args : Array Value) (below : List Frame) (meth : Method) (c : Code) (H : Heap) (locs : List Loc) (cells slots : Nat) (ls : Array Slot) (st' : List Value) (ad ad0 : List Nat) (ws : va_W),
    ji_cx G M p s m meth c → d ≤ R.frames → 30 * d ≤ R.locals → cells + bc ≤ R.cells → slots + bs ≤ R.slots →
    ji_w G ad h ws H → va_S (ji_A G) s.heap H locs → G.1.heap.size ≤ s.heap.size → (∃ ex, ad = ad0 ++ ex) → ji_vs G ad st st' → ji_ls G ad L M.2.2.1 ls →
    W p G.2.1 e R s m args below meth c H locs cells slots (vx_MQ below (ji_Qc G ad0 Q) (ji_Xc G ad0 Q) args s R.cells R.slots (ji_A G)) (F0 m pc ls st')
def ji_cw (M : ji_M) : Cond := match M.2.2.2.2 with
  | [] => .code M.1 M.2.1 M.2.2.1 M.2.2.2.1
  | t => .codeWith M.1 M.2.1 M.2.2.1 M.2.2.2.1 t
def JM (G : ji_G) (d : Nat) (M : ji_M) (as : List Value) (h : ji_H) (bc bs : Nat) (Q : ji_R → ji_H → Prop) : Prop :=
  ji_OK G → ∀ ad : List Nat, vx_Met G.2.1 M.1 [ji_cw M] ({ frames := d, cells := bc, slots := bs, locals := 30 * d }) (ji_Pc G ad h as) (ji_Qc G ad Q) (ji_Xc G ad Q) bc bs (ji_A G)
-- ===== first facts =====
theorem ji_v.mono {G : ji_G} {ad : List Nat} {v v' : Value} (ex : List Nat) (h : ji_v G ad v v') : ji_v G (ad ++ ex) v v' := by
  cases v with
  | ref k => obtain ⟨a, h1, h2⟩ := h; exact ⟨a, by rw [List.getElem?_append_left (List.getElem?_eq_some_iff.mp h1).1]; exact h1, h2⟩
  | _ => exact h
theorem ji_vs.mono {G : ji_G} {ad : List Nat} (ex : List Nat) : ∀ {vs vs' : List Value}, ji_vs G ad vs vs' → ji_vs G (ad ++ ex) vs vs'
  | [], _, h => h
  | v :: vs, _, ⟨v', r', h1, h2, h3⟩ => ⟨v', r', h1, h2.mono ex, ji_vs.mono ex h3⟩
theorem ji_c.mono {G : ji_G} {ad : List Nat} {c : ji_C} {e : va_E} (ex : List Nat) (h : ji_c G ad c e) : ji_c G (ad ++ ex) c e := by
  match c, h with
  | .inl (ci, fs), ⟨fs', h1, h2⟩ => exact ⟨fs', h1, h2.mono ex⟩
  | .inr (ty, n, .inl g), h => exact h
  | .inr (ty, n, .inr (.inl g)), h => exact h
  | .inr (ty, n, .inr (.inr f)), ⟨f', h1, h2⟩ =>
    refine ⟨f', h1, fun j hj => ?_⟩
    have h3 := h2 j hj
    cases hf : f j with
    | none => rw [hf] at h3; exact h3
    | some k =>
      rw [hf] at h3
      obtain ⟨a, q1, q2⟩ := h3
      exact ⟨a, by rw [List.getElem?_append_left (List.getElem?_eq_some_iff.mp q1).1]; exact q1, q2⟩
theorem ji_ls.mono {G : ji_G} {ad : List Nat} {L : List (Option Value)} {nL : Nat} {ls : Array Slot} (ex : List Nat) (h : ji_ls G ad L nL ls) : ji_ls G (ad ++ ex) L nL ls := by
  obtain ⟨lv, h1, h2⟩ := h
  exact ⟨lv, h1, fun i v hi => by obtain ⟨v', q1, q2⟩ := h2 i v hi; exact ⟨v', q1, q2.mono ex⟩⟩
theorem ji_v.cat {G : ji_G} {ad : List Nat} {v v' : Value} (h : ji_v G ad v v') : v'.category = v.category := by
  cases v with
  | ref k => obtain ⟨a, -, rfl⟩ := h; rfl
  | retAddr k => have h : v' = _ := h; subst h; rfl
  | float k => obtain ⟨a, rfl⟩ := h; rfl
  | int k => have h : v' = _ := h; subst h; rfl
  | long k => have h : v' = _ := h; subst h; rfl
  | double k => have h : v' = _ := h; subst h; rfl
  | null => have h : v' = _ := h; subst h; rfl
theorem ji_vs.at {G : ji_G} {ad : List Nat} : ∀ {vs vs' : List Value}, ji_vs G ad vs vs' → ∀ {k : Nat} {v : Value}, vs[k]? = some v → ∃ v', vs'[k]? = some v' ∧ ji_v G ad v v'
  | [], _, _, k, v, hk => by simp at hk
  | w :: vs, _, ⟨v', r', h1, h2, h3⟩, 0, v, hk => by subst h1; simp at hk; subst hk; exact ⟨v', rfl, h2⟩
  | w :: vs, _, ⟨v', r', h1, h2, h3⟩, k + 1, v, hk => by
    subst h1
    simp only [List.getElem?_cons_succ] at hk ⊢
    exact ji_vs.at h3 hk
theorem ji_vs.len {G : ji_G} {ad : List Nat} : ∀ {vs vs' : List Value}, ji_vs G ad vs vs' → vs'.length = vs.length
  | [], _, h => by have h : _ = [] := h; subst h; rfl
  | w :: vs, _, ⟨v', r', h1, h2, h3⟩ => by subst h1; simp [ji_vs.len h3]
theorem ji_vs.set {G : ji_G} {ad : List Nat} : ∀ {vs vs' : List Value} (k : Nat) {v v' : Value}, ji_vs G ad vs vs' → ji_v G ad v v' → ji_vs G ad (vs.set k v) (vs'.set k v')
  | [], _, k, v, v', h, _ => by have h : _ = [] := h; subst h; exact rfl
  | w :: vs, _, 0, v, v', ⟨u', r', h1, h2, h3⟩, hv => by subst h1; exact ⟨v', r', rfl, hv, h3⟩
  | w :: vs, _, k + 1, v, v', ⟨u', r', h1, h2, h3⟩, hv => by subst h1; exact ⟨u', r'.set k v', rfl, h2, ji_vs.set k h3 hv⟩
theorem ji_vs.app {G : ji_G} {ad : List Nat} : ∀ {as bs as' bs' : List Value}, ji_vs G ad as as' → ji_vs G ad bs bs' → ji_vs G ad (as ++ bs) (as' ++ bs')
  | [], _, _, _, h, hb => by have h : _ = [] := h; subst h; exact hb
  | w :: vs, _, _, _, ⟨u', r', h1, h2, h3⟩, hb => by subst h1; exact ⟨u', r' ++ _, rfl, h2, ji_vs.app h3 hb⟩
theorem ji_vs.split {G : ji_G} {ad : List Nat} : ∀ {as bs r : List Value}, ji_vs G ad (as ++ bs) r → ∃ as' bs', r = as' ++ bs' ∧ ji_vs G ad as as' ∧ ji_vs G ad bs bs'
  | [], _, r, h => ⟨[], r, rfl, rfl, h⟩
  | w :: vs, _, r, ⟨u', r', h1, h2, h3⟩ => by
    obtain ⟨a', b', q1, q2, q3⟩ := ji_vs.split h3
    exact ⟨u' :: a', b', by rw [h1, q1]; rfl, ⟨u', a', rfl, h2, q2⟩, q3⟩
theorem ji_vs.rev {G : ji_G} {ad : List Nat} : ∀ {as as' : List Value}, ji_vs G ad as as' → ji_vs G ad as.reverse as'.reverse
  | [], _, h => by have h : _ = [] := h; subst h; exact rfl
  | w :: vs, _, ⟨u', r', h1, h2, h3⟩ => by
    subst h1
    rw [List.reverse_cons, List.reverse_cons]
    exact ji_vs.app (ji_vs.rev h3) ⟨u', [], rfl, h2, rfl⟩
theorem ji_vs.cat {G : ji_G} {ad : List Nat} : ∀ {vs vs' : List Value}, ji_vs G ad vs vs' → (vs'.map fun v => v.category).sum = (vs.map fun v => v.category).sum
  | [], _, h => by have h : _ = [] := h; subst h; rfl
  | w :: vs, _, ⟨v', r', h1, h2, h3⟩ => by subst h1; simp only [List.map_cons, List.sum_cons, h2.cat, ji_vs.cat h3]
/-- a word of the tables at a method's start -/
theorem ji_word {G : ji_G} {s : State} (hG : ji_OK G) (hW : G.1.WarmedH s.vm) {w : Cond} (h : ji_in w) {args : Array Value} : w.before args s = true := word_at hW (good_of_word h.2) (hG.1 w h.1)
theorem ji_K {G : ji_G} {s : State} (hG : ji_OK G) (hW : G.1.WarmedH s.vm) : va_K G.2.2.1 ji_cl (ji_tys G.2.2.2.1) s := va_K.moved hW.alike hG.2.1
/-- a place of the ideal heap in the world -/
theorem ji_w.at {G : ji_G} {ad : List Nat} {h : ji_H} {ws : va_W} {H : Heap} (hw : ji_w G ad h ws H) {q a : Nat} (ha : ad[q]? = some a) : ∃ e, ws[q]? = some (a, e) ∧ ji_c G ad (h.2 q) e := hw.2.2.1.2.2 q a ha
-- ===== rows: what only touches the stack =====
section JiRows
variable {G : ji_G} {d : Nat} {M : ji_M} {pc : Nat} {L : List (Option Value)} {st : List Value} {h : ji_H} {bc bs : Nat} {Q : ji_R → ji_H → Prop}
theorem ji_step {pc2 : Nat} {st2 : List Value} (f : ∀ (p : Program) (e : Env) (R : Room) (s : State) (m : MethodId) (args : Array Value) (below : List Frame) (meth : Method) (c : Code) (H : Heap) (locs : List Loc) (cells slots : Nat) (ls : Array Slot) (st' : List Value) (ad : List Nat) (X : State → Prop),
      p.tables.exec = Jvm.exec → c.code = M.2.1 → ji_vs G ad st st' → ∃ st2', ji_vs G ad st2 st2' ∧ (W p G.2.1 e R s m args below meth c H locs cells slots X (F0 m pc2 ls st2') → W p G.2.1 e R s m args below meth c H locs cells slots X (F0 m pc ls st')))
    (k : JW G d M pc2 L st2 h bc bs Q) : JW G d M pc L st h bc bs Q := by
  intro hG p e R s m args below meth c H locs cells slots ls st' ad ad0 ws C hfr hlo hc hs hw hS h0 ha hst hls
  obtain ⟨st2', q1, q2⟩ := f p e R s m args below meth c H locs cells slots ls st' ad _ C.1 C.2.1 hst
  exact q2 (k hG p e R s m args below meth c H locs cells slots ls st2' ad ad0 ws C hfr hlo hc hs hw hS h0 ha q1 hls)
theorem ji_iconst {n : Int} (hd : decode M.2.1 pc = .ok (.iconst n, 1)) (k : JW G d M (pc + 1) L (.int (jI n) :: st) h bc bs Q) : JW G d M pc L st h bc bs Q :=
  ji_step (fun p e R s m args below meth c H locs cells slots ls st' ad X hx hb hst => by exact ⟨_, ⟨_, st', rfl, rfl, hst⟩, fun k => lv_iconst hx hb hd rfl k⟩) k
theorem ji_bipush {n : Int} (hd : decode M.2.1 pc = .ok (.bipush n, 2)) (hn : (Int8.ofInt n).toInt32 = jI n) (k : JW G d M (pc + 2) L (.int (jI n) :: st) h bc bs Q) : JW G d M pc L st h bc bs Q :=
  ji_step (fun p e R s m args below meth c H locs cells slots ls st' ad X hx hb hst => by exact ⟨_, ⟨_, st', rfl, rfl, hst⟩, fun k => lv_bipush hx hb hd hn k⟩) k
theorem ji_sipush {n : Int} (hd : decode M.2.1 pc = .ok (.sipush n, 3)) (hn : (Int16.ofInt n).toInt32 = jI n) (k : JW G d M (pc + 3) L (.int (jI n) :: st) h bc bs Q) : JW G d M pc L st h bc bs Q :=
  ji_step (fun p e R s m args below meth c H locs cells slots ls st' ad X hx hb hst => by exact ⟨_, ⟨_, st', rfl, rfl, hst⟩, fun k => lv_sipush hx hb hd hn k⟩) k
theorem ji_null (hd : decode M.2.1 pc = .ok (.aconst_null, 1)) (k : JW G d M (pc + 1) L (.null :: st) h bc bs Q) : JW G d M pc L st h bc bs Q :=
  ji_step (fun p e R s m args below meth c H locs cells slots ls st' ad X hx hb hst => by exact ⟨_, ⟨_, st', rfl, rfl, hst⟩, fun k => lv_null hx hb hd k⟩) k
theorem ji_goto {off : Int} {tgt : Nat} (hd : decode M.2.1 pc = .ok (.goto off, 3)) (ht : (pc : Int) + off = (tgt : Int)) (k : JW G d M tgt L st h bc bs Q) : JW G d M pc L st h bc bs Q :=
  ji_step (fun p e R s m args below meth c H locs cells slots ls st' ad X hx hb hst => by exact ⟨_, hst, fun k => lv_goto hx hb hd ht k⟩) k
theorem ji_iadd {x y : Int} (hd : decode M.2.1 pc = .ok (.iadd, 1)) (k : JW G d M (pc + 1) L (.int (jI (x + y)) :: st) h bc bs Q) : JW G d M pc L (.int (jI y) :: .int (jI x) :: st) h bc bs Q :=
  ji_step (fun p e R s m args below meth c H locs cells slots ls st' ad X hx hb hst => by
    obtain ⟨_, _, rfl, rfl, _, r, rfl, rfl, hst⟩ := hst
    exact ⟨_, ⟨_, r, rfl, rfl, hst⟩, fun k => lv_iadd hx hb hd (by rw [jI_add]; exact k)⟩) k
theorem ji_isub {x y : Int} (hd : decode M.2.1 pc = .ok (.isub, 1)) (k : JW G d M (pc + 1) L (.int (jI (x - y)) :: st) h bc bs Q) : JW G d M pc L (.int (jI y) :: .int (jI x) :: st) h bc bs Q :=
  ji_step (fun p e R s m args below meth c H locs cells slots ls st' ad X hx hb hst => by
    obtain ⟨_, _, rfl, rfl, _, r, rfl, rfl, hst⟩ := hst
    exact ⟨_, ⟨_, r, rfl, rfl, hst⟩, fun k => lv_isub hx hb hd (by rw [jI_sub]; exact k)⟩) k
theorem ji_imul {x y : Int} (hd : decode M.2.1 pc = .ok (.imul, 1)) (k : JW G d M (pc + 1) L (.int (jI (x * y)) :: st) h bc bs Q) : JW G d M pc L (.int (jI y) :: .int (jI x) :: st) h bc bs Q :=
  ji_step (fun p e R s m args below meth c H locs cells slots ls st' ad X hx hb hst => by
    obtain ⟨_, _, rfl, rfl, _, r, rfl, rfl, hst⟩ := hst
    exact ⟨_, ⟨_, r, rfl, rfl, hst⟩, fun k => lv_imul hx hb hd (by rw [jI_mul]; exact k)⟩) k
end JiRows
