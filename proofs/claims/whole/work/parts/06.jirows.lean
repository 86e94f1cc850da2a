section JiRows2
variable {G : ji_G} {d : Nat} {M : ji_M} {pc : Nat} {L : List (Option Value)} {st : List Value} {h : ji_H} {bc bs : Nat} {Q : ji_R → ji_H → Prop}
/-- a branch on one fact -/
theorem ji_two {pt pf : Nat} {st2 : List Value} {P : Prop} (f : ∀ (p : Program) (e : Env) (R : Room) (s : State) (m : MethodId) (args : Array Value) (below : List Frame) (meth : Method) (c : Code) (H : Heap) (locs : List Loc) (cells slots : Nat) (ls : Array Slot) (st' : List Value) (ad : List Nat) (X : State → Prop),
      p.tables.exec = Jvm.exec → c.code = M.2.1 → ji_vs G ad st st' → ∃ st2', ji_vs G ad st2 st2' ∧ ((P → W p G.2.1 e R s m args below meth c H locs cells slots X (F0 m pt ls st2')) → (¬ P → W p G.2.1 e R s m args below meth c H locs cells slots X (F0 m pf ls st2')) → W p G.2.1 e R s m args below meth c H locs cells slots X (F0 m pc ls st')))
    (kt : P → JW G d M pt L st2 h bc bs Q) (kf : ¬ P → JW G d M pf L st2 h bc bs Q) : JW G d M pc L st h bc bs Q := by
  intro hG p e R s m args below meth c H locs cells slots ls st' ad ad0 ws C hfr hlo hc hs hw hS h0 ha hst hls
  obtain ⟨st2', q1, q2⟩ := f p e R s m args below meth c H locs cells slots ls st' ad _ C.1 C.2.1 hst
  exact q2 (fun hp => kt hp hG p e R s m args below meth c H locs cells slots ls st2' ad ad0 ws C hfr hlo hc hs hw hS h0 ha q1 hls) (fun hp => kf hp hG p e R s m args below meth c H locs cells slots ls st2' ad ad0 ws C hfr hlo hc hs hw hS h0 ha q1 hls)
theorem ji_icmp_eq {x y : Int} {off : Int} {tgt : Nat} (hd : decode M.2.1 pc = .ok (.if_icmp .eq off, 3)) (ht : (pc : Int) + off = (tgt : Int)) (hx : -2147483648 ≤ x ∧ x < 2147483648) (hy : -2147483648 ≤ y ∧ y < 2147483648)
    (kt : x = y → JW G d M tgt L st h bc bs Q) (kf : ¬ (x = y) → JW G d M (pc + 3) L st h bc bs Q) : JW G d M pc L (.int (jI y) :: .int (jI x) :: st) h bc bs Q :=
  ji_two (fun p e R s m args below meth c H locs cells slots ls st' ad X hex hb hst => by
    obtain ⟨_, _, rfl, rfl, _, r, rfl, rfl, hst⟩ := hst
    exact ⟨r, hst, fun kt kf => lv_icmp_eq hex hb hd ht (fun q => kt ((jI_inj hx hy).mp q)) (fun q => kf (fun z => q ((jI_inj hx hy).mpr z)))⟩) kt kf
theorem ji_icmp_ne {x y : Int} {off : Int} {tgt : Nat} (hd : decode M.2.1 pc = .ok (.if_icmp .ne off, 3)) (ht : (pc : Int) + off = (tgt : Int)) (hx : -2147483648 ≤ x ∧ x < 2147483648) (hy : -2147483648 ≤ y ∧ y < 2147483648)
    (kt : ¬ x = y → JW G d M tgt L st h bc bs Q) (kf : x = y → JW G d M (pc + 3) L st h bc bs Q) : JW G d M pc L (.int (jI y) :: .int (jI x) :: st) h bc bs Q :=
  ji_two (fun p e R s m args below meth c H locs cells slots ls st' ad X hex hb hst => by
    obtain ⟨_, _, rfl, rfl, _, r, rfl, rfl, hst⟩ := hst
    exact ⟨r, hst, fun kt kf => lv_icmp_ne hex hb hd ht (fun q => kt ((not_congr (jI_inj hx hy)).mp q)) (fun q => kf (fun z => z ((jI_inj hx hy).mp q)))⟩) kt (fun q => kf (Classical.not_not.mp q))
theorem ji_icmp_lt {x y : Int} {off : Int} {tgt : Nat} (hd : decode M.2.1 pc = .ok (.if_icmp .lt off, 3)) (ht : (pc : Int) + off = (tgt : Int)) (hx : -2147483648 ≤ x ∧ x < 2147483648) (hy : -2147483648 ≤ y ∧ y < 2147483648)
    (kt : x < y → JW G d M tgt L st h bc bs Q) (kf : ¬ (x < y) → JW G d M (pc + 3) L st h bc bs Q) : JW G d M pc L (.int (jI y) :: .int (jI x) :: st) h bc bs Q :=
  ji_two (fun p e R s m args below meth c H locs cells slots ls st' ad X hex hb hst => by
    obtain ⟨_, _, rfl, rfl, _, r, rfl, rfl, hst⟩ := hst
    exact ⟨r, hst, fun kt kf => lv_icmp_lt hex hb hd ht (fun q => kt ((jI_lt hx hy).mp q)) (fun q => kf (fun z => q ((jI_lt hx hy).mpr z)))⟩) kt kf
theorem ji_icmp_ge {x y : Int} {off : Int} {tgt : Nat} (hd : decode M.2.1 pc = .ok (.if_icmp .ge off, 3)) (ht : (pc : Int) + off = (tgt : Int)) (hx : -2147483648 ≤ x ∧ x < 2147483648) (hy : -2147483648 ≤ y ∧ y < 2147483648)
    (kt : y ≤ x → JW G d M tgt L st h bc bs Q) (kf : ¬ (y ≤ x) → JW G d M (pc + 3) L st h bc bs Q) : JW G d M pc L (.int (jI y) :: .int (jI x) :: st) h bc bs Q :=
  ji_two (fun p e R s m args below meth c H locs cells slots ls st' ad X hex hb hst => by
    obtain ⟨_, _, rfl, rfl, _, r, rfl, rfl, hst⟩ := hst
    exact ⟨r, hst, fun kt kf => lv_icmp_ge hex hb hd ht (fun q => kt ((jI_le hy hx).mp q)) (fun q => kf (fun z => q ((jI_le hy hx).mpr z)))⟩) kt kf
theorem ji_icmp_gt {x y : Int} {off : Int} {tgt : Nat} (hd : decode M.2.1 pc = .ok (.if_icmp .gt off, 3)) (ht : (pc : Int) + off = (tgt : Int)) (hx : -2147483648 ≤ x ∧ x < 2147483648) (hy : -2147483648 ≤ y ∧ y < 2147483648)
    (kt : y < x → JW G d M tgt L st h bc bs Q) (kf : ¬ (y < x) → JW G d M (pc + 3) L st h bc bs Q) : JW G d M pc L (.int (jI y) :: .int (jI x) :: st) h bc bs Q :=
  ji_two (fun p e R s m args below meth c H locs cells slots ls st' ad X hex hb hst => by
    obtain ⟨_, _, rfl, rfl, _, r, rfl, rfl, hst⟩ := hst
    exact ⟨r, hst, fun kt kf => lv_icmp_gt hex hb hd ht (fun q => kt ((jI_lt hy hx).mp q)) (fun q => kf (fun z => q ((jI_lt hy hx).mpr z)))⟩) kt kf
theorem ji_icmp_le {x y : Int} {off : Int} {tgt : Nat} (hd : decode M.2.1 pc = .ok (.if_icmp .le off, 3)) (ht : (pc : Int) + off = (tgt : Int)) (hx : -2147483648 ≤ x ∧ x < 2147483648) (hy : -2147483648 ≤ y ∧ y < 2147483648)
    (kt : x ≤ y → JW G d M tgt L st h bc bs Q) (kf : ¬ (x ≤ y) → JW G d M (pc + 3) L st h bc bs Q) : JW G d M pc L (.int (jI y) :: .int (jI x) :: st) h bc bs Q :=
  ji_two (fun p e R s m args below meth c H locs cells slots ls st' ad X hex hb hst => by
    obtain ⟨_, _, rfl, rfl, _, r, rfl, rfl, hst⟩ := hst
    exact ⟨r, hst, fun kt kf => lv_icmp_le hex hb hd ht (fun q => kt ((jI_le hx hy).mp q)) (fun q => kf (fun z => q ((jI_le hx hy).mpr z)))⟩) kt kf
theorem ji_if_eq {x : Int} {off : Int} {tgt : Nat} (hd : decode M.2.1 pc = .ok (.ifCond .eq off, 3)) (ht : (pc : Int) + off = (tgt : Int)) (hx : -2147483648 ≤ x ∧ x < 2147483648)
    (kt : x = 0 → JW G d M tgt L st h bc bs Q) (kf : ¬ (x = 0) → JW G d M (pc + 3) L st h bc bs Q) : JW G d M pc L (.int (jI x) :: st) h bc bs Q :=
  ji_two (fun p e R s m args below meth c H locs cells slots ls st' ad X hex hb hst => by
    obtain ⟨_, r, rfl, rfl, hst⟩ := hst
    exact ⟨r, hst, fun kt kf => lv_if_eq hex hb hd ht (fun q => kt ((jI_inj hx (by omega)).mp q)) (fun q => kf (fun z => q ((jI_inj hx (by omega)).mpr z)))⟩) kt kf
theorem ji_if_ne {x : Int} {off : Int} {tgt : Nat} (hd : decode M.2.1 pc = .ok (.ifCond .ne off, 3)) (ht : (pc : Int) + off = (tgt : Int)) (hx : -2147483648 ≤ x ∧ x < 2147483648)
    (kt : ¬ x = 0 → JW G d M tgt L st h bc bs Q) (kf : x = 0 → JW G d M (pc + 3) L st h bc bs Q) : JW G d M pc L (.int (jI x) :: st) h bc bs Q :=
  ji_two (fun p e R s m args below meth c H locs cells slots ls st' ad X hex hb hst => by
    obtain ⟨_, r, rfl, rfl, hst⟩ := hst
    exact ⟨r, hst, fun kt kf => lv_if_ne hex hb hd ht (fun q => kt ((not_congr (jI_inj hx (by omega))).mp q)) (fun q => kf (fun z => z ((jI_inj hx (by omega)).mp q)))⟩) kt (fun q => kf (Classical.not_not.mp q))
theorem ji_if_lt {x : Int} {off : Int} {tgt : Nat} (hd : decode M.2.1 pc = .ok (.ifCond .lt off, 3)) (ht : (pc : Int) + off = (tgt : Int)) (hx : -2147483648 ≤ x ∧ x < 2147483648)
    (kt : x < 0 → JW G d M tgt L st h bc bs Q) (kf : ¬ (x < 0) → JW G d M (pc + 3) L st h bc bs Q) : JW G d M pc L (.int (jI x) :: st) h bc bs Q :=
  ji_two (fun p e R s m args below meth c H locs cells slots ls st' ad X hex hb hst => by
    obtain ⟨_, r, rfl, rfl, hst⟩ := hst
    exact ⟨r, hst, fun kt kf => lv_if_lt hex hb hd ht (fun q => kt ((jI_lt hx (by omega)).mp q)) (fun q => kf (fun z => q ((jI_lt hx (by omega)).mpr z)))⟩) kt kf
theorem ji_if_ge {x : Int} {off : Int} {tgt : Nat} (hd : decode M.2.1 pc = .ok (.ifCond .ge off, 3)) (ht : (pc : Int) + off = (tgt : Int)) (hx : -2147483648 ≤ x ∧ x < 2147483648)
    (kt : 0 ≤ x → JW G d M tgt L st h bc bs Q) (kf : ¬ (0 ≤ x) → JW G d M (pc + 3) L st h bc bs Q) : JW G d M pc L (.int (jI x) :: st) h bc bs Q :=
  ji_two (fun p e R s m args below meth c H locs cells slots ls st' ad X hex hb hst => by
    obtain ⟨_, r, rfl, rfl, hst⟩ := hst
    exact ⟨r, hst, fun kt kf => lv_if_ge hex hb hd ht (fun q => kt ((jI_le (by omega) hx).mp q)) (fun q => kf (fun z => q ((jI_le (by omega) hx).mpr z)))⟩) kt kf
theorem ji_if_gt {x : Int} {off : Int} {tgt : Nat} (hd : decode M.2.1 pc = .ok (.ifCond .gt off, 3)) (ht : (pc : Int) + off = (tgt : Int)) (hx : -2147483648 ≤ x ∧ x < 2147483648)
    (kt : 0 < x → JW G d M tgt L st h bc bs Q) (kf : ¬ (0 < x) → JW G d M (pc + 3) L st h bc bs Q) : JW G d M pc L (.int (jI x) :: st) h bc bs Q :=
  ji_two (fun p e R s m args below meth c H locs cells slots ls st' ad X hex hb hst => by
    obtain ⟨_, r, rfl, rfl, hst⟩ := hst
    exact ⟨r, hst, fun kt kf => lv_if_gt hex hb hd ht (fun q => kt ((jI_lt (by omega) hx).mp q)) (fun q => kf (fun z => q ((jI_lt (by omega) hx).mpr z)))⟩) kt kf
theorem ji_if_le {x : Int} {off : Int} {tgt : Nat} (hd : decode M.2.1 pc = .ok (.ifCond .le off, 3)) (ht : (pc : Int) + off = (tgt : Int)) (hx : -2147483648 ≤ x ∧ x < 2147483648)
    (kt : x ≤ 0 → JW G d M tgt L st h bc bs Q) (kf : ¬ (x ≤ 0) → JW G d M (pc + 3) L st h bc bs Q) : JW G d M pc L (.int (jI x) :: st) h bc bs Q :=
  ji_two (fun p e R s m args below meth c H locs cells slots ls st' ad X hex hb hst => by
    obtain ⟨_, r, rfl, rfl, hst⟩ := hst
    exact ⟨r, hst, fun kt kf => lv_if_le hex hb hd ht (fun q => kt ((jI_le hx (by omega)).mp q)) (fun q => kf (fun z => q ((jI_le hx (by omega)).mpr z)))⟩) kt kf
theorem ji_dup {v : Value} (hd : decode M.2.1 pc = .ok (.dup, 1)) (hv : v.category = 1) (k : JW G d M (pc + 1) L (v :: v :: st) h bc bs Q) : JW G d M pc L (v :: st) h bc bs Q :=
  ji_step (fun p e R s m args below meth c H locs cells slots ls st' ad X hx hb hst => by
    obtain ⟨v', r, rfl, h1, hst⟩ := hst
    exact ⟨_, ⟨_, _, rfl, h1, _, r, rfl, h1, hst⟩, fun k => lv_dup hx hb hd (h1.cat.trans hv) k⟩) k
theorem ji_pop {v : Value} (hd : decode M.2.1 pc = .ok (.pop, 1)) (hv : v.category = 1) (k : JW G d M (pc + 1) L st h bc bs Q) : JW G d M pc L (v :: st) h bc bs Q :=
  ji_step (fun p e R s m args below meth c H locs cells slots ls st' ad X hx hb hst => by
    obtain ⟨v', r, rfl, h1, hst⟩ := hst
    exact ⟨_, hst, fun k => lv_pop hx hb hd (h1.cat.trans hv) k⟩) k
theorem ji_dup2 {v w : Value} (hd : decode M.2.1 pc = .ok (.dup2, 1)) (hv : v.category = 1) (hw : w.category = 1) (k : JW G d M (pc + 1) L (v :: w :: v :: w :: st) h bc bs Q) : JW G d M pc L (v :: w :: st) h bc bs Q :=
  ji_step (fun p e R s m args below meth c H locs cells slots ls st' ad X hx hb hst => by
    obtain ⟨v', _, rfl, h1, w', r, rfl, h2, hst⟩ := hst
    exact ⟨_, ⟨_, _, rfl, h1, _, _, rfl, h2, _, _, rfl, h1, _, r, rfl, h2, hst⟩, fun k => lv_dup2_11 hx hb hd (h1.cat.trans hv) (h2.cat.trans hw) k⟩) k
theorem ji_ifnull {off : Int} {a : Nat} (hd : decode M.2.1 pc = .ok (.ifnull off, 3)) (k : JW G d M (pc + 3) L st h bc bs Q) : JW G d M pc L (.ref a :: st) h bc bs Q :=
  ji_step (fun p e R s m args below meth c H locs cells slots ls st' ad X hx hb hst => by
    obtain ⟨_, r, rfl, ⟨_, _, rfl⟩, hst⟩ := hst
    exact ⟨_, hst, fun k => lv_ifnull hx hb hd k⟩) k
theorem ji_ifnullN {off : Int} {tgt : Nat} (hd : decode M.2.1 pc = .ok (.ifnull off, 3)) (ht : (pc : Int) + off = (tgt : Int)) (k : JW G d M tgt L st h bc bs Q) : JW G d M pc L (.null :: st) h bc bs Q :=
  ji_step (fun p e R s m args below meth c H locs cells slots ls st' ad X hx hb hst => by
    obtain ⟨_, r, rfl, rfl, hst⟩ := hst
    exact ⟨_, hst, fun k => lv_ifnullN hx hb hd ht k⟩) k
theorem ji_ifnonnull {off : Int} {a tgt : Nat} (hd : decode M.2.1 pc = .ok (.ifnonnull off, 3)) (ht : (pc : Int) + off = (tgt : Int)) (k : JW G d M tgt L st h bc bs Q) : JW G d M pc L (.ref a :: st) h bc bs Q :=
  ji_step (fun p e R s m args below meth c H locs cells slots ls st' ad X hx hb hst => by
    obtain ⟨_, r, rfl, ⟨_, _, rfl⟩, hst⟩ := hst
    exact ⟨_, hst, fun k => lv_ifnonnull hx hb hd ht k⟩) k
theorem ji_ifnonnullN {off : Int} (hd : decode M.2.1 pc = .ok (.ifnonnull off, 3)) (k : JW G d M (pc + 3) L st h bc bs Q) : JW G d M pc L (.null :: st) h bc bs Q :=
  ji_step (fun p e R s m args below meth c H locs cells slots ls st' ad X hx hb hst => by
    obtain ⟨_, r, rfl, rfl, hst⟩ := hst
    exact ⟨_, hst, fun k => lv_ifnonnullN hx hb hd k⟩) k
theorem ji_i2l {x : Int} {v : Int64} (hd : decode M.2.1 pc = .ok (.i2l, 1)) (hv : (jI x).toInt64 = v) (k : JW G d M (pc + 1) L (.long v :: st) h bc bs Q) : JW G d M pc L (.int (jI x) :: st) h bc bs Q :=
  ji_step (fun p e R s m args below meth c H locs cells slots ls st' ad X hx hb hst => by
    obtain ⟨_, r, rfl, rfl, hst⟩ := hst
    exact ⟨_, ⟨_, r, rfl, rfl, hst⟩, fun k => lv_i2l hx hb hd hv k⟩) k
theorem ji_lmul {x y : Int64} (hd : decode M.2.1 pc = .ok (.lmul, 1)) (k : JW G d M (pc + 1) L (.long (x * y) :: st) h bc bs Q) : JW G d M pc L (.long y :: .long x :: st) h bc bs Q :=
  ji_step (fun p e R s m args below meth c H locs cells slots ls st' ad X hx hb hst => by
    obtain ⟨_, _, rfl, rfl, _, r, rfl, rfl, hst⟩ := hst
    exact ⟨_, ⟨_, r, rfl, rfl, hst⟩, fun k => lv_lmul hx hb hd k⟩) k
theorem ji_ladd {x y : Int64} (hd : decode M.2.1 pc = .ok (.ladd, 1)) (k : JW G d M (pc + 1) L (.long (x + y) :: st) h bc bs Q) : JW G d M pc L (.long y :: .long x :: st) h bc bs Q :=
  ji_step (fun p e R s m args below meth c H locs cells slots ls st' ad X hx hb hst => by
    obtain ⟨_, _, rfl, rfl, _, r, rfl, rfl, hst⟩ := hst
    exact ⟨_, ⟨_, r, rfl, rfl, hst⟩, fun k => lv_ladd hx hb hd k⟩) k
theorem ji_iop {x y z : Int32} {op : Instr} (hd : decode M.2.1 pc = .ok (op, 1)) (ho : (op = .iand ∧ z = x &&& y) ∨ (op = .ior ∧ z = x ||| y) ∨ (op = .ishl ∧ z = x <<< (y &&& 31)) ∨ (op = .ishr ∧ z = x >>> (y &&& 31))) (k : JW G d M (pc + 1) L (.int z :: st) h bc bs Q) : JW G d M pc L (.int y :: .int x :: st) h bc bs Q :=
  ji_step (fun p e R s m args below meth c H locs cells slots ls st' ad X hx hb hst => by
    obtain ⟨_, _, rfl, rfl, _, r, rfl, rfl, hst⟩ := hst
    refine ⟨_, ⟨_, r, rfl, rfl, hst⟩, fun k => ?_⟩
    rcases ho with ⟨rfl, rfl⟩ | ⟨rfl, rfl⟩ | ⟨rfl, rfl⟩ | ⟨rfl, rfl⟩
    · exact lv_iand hx hb hd k
    · exact lv_ior hx hb hd k
    · exact lv_ishl hx hb hd k
    · exact lv_ishr hx hb hd k) k
theorem ji_idiv {x y : Int} (hd : decode M.2.1 pc = .ok (.idiv, 1)) (hx : 0 ≤ x ∧ x < 2147483648) (hy : 0 < y ∧ y < 2147483648) (k : JW G d M (pc + 1) L (.int (jI (x / y)) :: st) h bc bs Q) : JW G d M pc L (.int (jI y) :: .int (jI x) :: st) h bc bs Q :=
  ji_step (fun p e R s m args below meth c H locs cells slots ls st' ad X hex hb hst => by
    obtain ⟨_, _, rfl, rfl, _, r, rfl, rfl, hst⟩ := hst
    refine ⟨_, ⟨_, r, rfl, rfl, hst⟩, fun k => lv_idiv hex hb hd ?_ ?_⟩
    · rw [show (0 : Int32) = jI 0 from rfl, jI_inj (by omega) (by omega)]; omega
    · have e1 : jI x / jI y = jI (x / y) := by
        rw [← Int.tdiv_eq_ediv_of_nonneg hx.1]
        exact (Int32.ofInt_tdiv (by show (-2147483648 : Int) ≤ x; omega) (by show x ≤ 2147483647; omega) (by show (-2147483648 : Int) ≤ y; omega) (by show y ≤ 2147483647; omega)).symm
      rw [e1]; exact k) k
theorem ji_irem {x y : Int} (hd : decode M.2.1 pc = .ok (.irem, 1)) (hx : 0 ≤ x ∧ x < 2147483648) (hy : 0 < y ∧ y < 2147483648) (k : JW G d M (pc + 1) L (.int (jI (x % y)) :: st) h bc bs Q) : JW G d M pc L (.int (jI y) :: .int (jI x) :: st) h bc bs Q :=
  ji_step (fun p e R s m args below meth c H locs cells slots ls st' ad X hex hb hst => by
    obtain ⟨_, _, rfl, rfl, _, r, rfl, rfl, hst⟩ := hst
    refine ⟨_, ⟨_, r, rfl, rfl, hst⟩, fun k => lv_irem hex hb hd ?_ ?_⟩
    · rw [show (0 : Int32) = jI 0 from rfl, jI_inj (by omega) (by omega)]; omega
    · have e1 : jI x / jI y = jI (x / y) := by
        rw [← Int.tdiv_eq_ediv_of_nonneg hx.1]
        exact (Int32.ofInt_tdiv (by show (-2147483648 : Int) ≤ x; omega) (by show x ≤ 2147483647; omega) (by show (-2147483648 : Int) ≤ y; omega) (by show y ≤ 2147483647; omega)).symm
      rw [e1, jI_mul, jI_sub, show x - x / y * y = x % y by rw [Int.emod_def, Int.mul_comm]]; exact k) k
end JiRows2
