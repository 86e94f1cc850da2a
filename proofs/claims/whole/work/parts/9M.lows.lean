/-! ===== pure: low places that no pass reaches; the new row keeps its bounds ===== -/
def cN (z : Nat → Int) (j : Nat) : Prop := j = 1 ∨ j = 2 ∨ (4 ≤ j ∧ (j : Int) < 4 + 2 * z 3) ∨ (15 ≤ j ∧ (j : Int) < 15 + 5 * z 14)
def NC (z z' : Nat → Int) : Prop := ∀ j, 1 ≤ j → j < 75 → ¬ cN z j → z' j = z j
theorem nc_e {z z1 z2 : Nat → Int} (h : NC z z1) (e : ∀ j, 1 ≤ j → j < 75 → z2 j = z1 j) : NC z z2 := fun j a b c => by rw [e j a b]; exact h j a b c
theorem nc_c {z z1 z2 : Nat → Int} (h : NC z z1) (e3 : z1 3 = z 3) (e14 : z1 14 = z 14) (h2 : NC z1 z2) : NC z z2 := fun j a b c => by
  rw [h2 j a b (by unfold cN at c ⊢; rw [e3, e14]; exact c)]; exact h j a b c
theorem nc_1 {z z2 : Nat → Int} {a b : Int → Int → Int} {g0 g1 g2 g4 : rf_G} (h3 : 0 ≤ z 3 ∧ z 3 ≤ 5) (h14 : 0 ≤ z 14 ∧ z 14 ≤ 12) (e : ∀ j, 1 ≤ j → j < 75 → z2 j = z j) : NC z (rf_mk g0 g1 g2 g4 (rf_pl a b z2 (z2 3 + 1).toNat) (rf_pl a b z2 (z2 3 + 1).toNat 14).toNat) := fun j p q c => by
  have q3 := e 3 (by omega) (by omega)
  have q14 := e 14 (by omega) (by omega)
  have e14 : rf_pl a b z2 (z2 3 + 1).toNat 14 = z 14 := by rw [rf_pl_h (by omega) (by omega)]; exact q14
  rw [e14]
  unfold cN at c
  rw [rf_mk_r (by omega)]
  unfold rf_pl
  rw [if_neg (by omega), if_neg (by omega)]
  exact e j p q
theorem zlo {P : Nat} {z z' : Nat → Int} {M : mk_T} (h : MR P z' M) (hP : P ≤ 10) (h85 : ∀ q, q < P → z' (85 + q) ≤ 359) (e3 : z' 3 = z 3) (e14 : z' 14 = z 14) (hn : NC z z') (hz : ∀ j, -10000 ≤ z j ∧ z j ≤ 10000) (j : Nat) (j1 : 1 ≤ j) (j2 : j < 75) : -10000 ≤ z' j ∧ z' j ≤ 10000 := by
  obtain ⟨m1, m2, m3, m4, m5⟩ := h
  by_cases c : cN z j
  · unfold cN at c
    rw [← e3, ← e14] at c
    have hps : ∀ {i : Nat} {x : Int}, PS z' P i x → (-10000 ≤ z' i ∧ z' i ≤ 10000) ∧ -10000 ≤ z' (i + 1) ∧ z' (i + 1) ≤ 10000 := fun {i x} hx => by
      obtain ⟨q, p1, p2, p3, p4, _⟩ := hx
      have := h85 q p2
      omega
    rcases c with rfl | rfl | ⟨c1, c2⟩ | ⟨c1, c2⟩
    · exact (hps m1).1
    · exact (hps m1).2
    · obtain ⟨k, hk⟩ : ∃ k, j = 4 + 2 * k ∨ j = 4 + 2 * k + 1 := ⟨(j - 4) / 2, by omega⟩
      have hh := hps (m3 k (by omega))
      rcases hk with rfl | rfl
      · exact hh.1
      · exact hh.2
    · obtain ⟨k, hk⟩ : ∃ k, j = 15 + 5 * k ∨ j = 15 + 5 * k + 1 ∨ j = 15 + 5 * k + 2 ∨ j = 15 + 5 * k + 3 ∨ j = 15 + 5 * k + 4 := ⟨(j - 15) / 5, by omega⟩
      obtain ⟨q, p1, p2, p3, _, _, p6, p7⟩ := m5 k (by omega)
      have := h85 q p2
      rcases hk with rfl | rfl | rfl | rfl | rfl
      · omega
      · omega
      · omega
      · omega
      · rw [p7]; split <;> omega
  · rw [hn j j1 j2 c]; exact hz j
theorem zx_mk {P : Nat} {z z' : Nat → Int} {M : mk_T} (hz : ZX z) (h : MR P z' M) (hP : P ≤ 10) (h0 : 0 ≤ z' 0 ∧ z' 0 ≤ 10) (hv : z' 3 = z 3 ∧ z' 14 = z 14) (hn : NC z z') (h7 : ∀ j, 75 ≤ j → j < 85 → 0 ≤ z' j ∧ z' j ≤ 2) (h8 : ∀ j, 85 ≤ j → j < 95 → 0 ≤ z' j ∧ z' j ≤ 359) (h9 : ∀ j, 95 ≤ j → 0 ≤ z' j ∧ z' j < 128) : ZX z' := by
  refine ⟨fun j => ?_, h7, h8, h9⟩
  by_cases c0 : j = 0
  · subst c0; omega
  by_cases c1 : j < 75
  · exact zlo h hP (fun q hq => (h8 _ (by omega) (by omega)).2) hv.1 hv.2 hn hz.1 j (by omega) c1
  by_cases c2 : j < 85
  · have := h7 j (by omega) c2; omega
  by_cases c3 : j < 95
  · have := h8 j (by omega) c3; omega
  · have := h9 j (by omega); omega
theorem zx_in {P : Nat} {z bf : Nat → Int} {M : mk_T} {q x s u v L : Nat} (hz : ZX z) (h3 : 0 ≤ z 3 ∧ z 3 ≤ 5) (h14 : 0 ≤ z 14 ∧ z 14 ≤ 12) (h00 : 0 ≤ z 0 ∧ z 0 ≤ 10) (hL : z (85 + q) = L) (hq : q < 10) (hx : x ≤ L) (h360 : L + s + 1 ≤ 359) (huv : (u = 0 ∧ v = s) ∨ (u = 1 ∧ v = 0)) (hb : ∀ k, 0 ≤ bf k ∧ bf k < 128) (hP : P ≤ 10) (h : MR P (IN z bf q x s u v) M) : ZX (IN z bf q x s u v) := by
  obtain ⟨a1, a2, a3, a4, a5, a6⟩ := IN_v (bf := bf) h3 h14 hL hq hx (show L + s + 1 ≤ 360 by omega) huv
  have hO := O2_v (m := s + 1) hL hq hx
  rw [show ((s + 1 : Nat) : Int) = (s : Int) + 1 by omega] at hO
  obtain ⟨_, m2⟩ := OP_v (m := s + 1) h3 h14 hL hq hx
  rw [show ((s + 1 : Nat) : Int) = (s : Int) + 1 by omega] at m2
  have hn : NC z (rf_OP z q x ((s : Int) + 1)) := nc_1 h3 h14 fun j a b => by rw [hO, if_neg (by omega), if_neg (by omega)]
  have hv := a1.1
  have hv2 := a1.2.1
  refine zx_mk hz h hP (by rw [a2]; exact h00) ⟨hv, hv2⟩ (nc_e hn fun j b c => ?_) (fun j b c => by rw [a3 j b c]; exact hz.2.1 j b c) (fun j b c => ?_) fun j b => ?_
  · unfold IN
    rw [va_up_ne _ _ (by omega)]
    unfold va_cpy
    rw [if_neg (by omega)]
  · rw [a4 j b c]
    by_cases c : j = 85 + q
    · rw [if_pos c]; omega
    · rw [if_neg c]; exact hz.2.2.1 j b (by omega)
  · unfold IN
    by_cases c : j = 95 + 360 * q + x + v
    · rw [c, va_up_self]; omega
    · rw [va_up_ne _ _ c]
      unfold va_cpy
      by_cases d : 95 + 360 * q + x + u ≤ j ∧ j < 95 + 360 * q + x + u + s
      · rw [if_pos d]; exact hb _
      · rw [if_neg d, m2 j (by omega), hO, if_neg (by omega)]
        by_cases e : 95 + 360 * q + x + (s + 1) ≤ j ∧ j < 95 + 360 * q + L + (s + 1)
        · rw [if_pos e]; exact hz.2.2.2 _ (by omega)
        · rw [if_neg e]; exact hz.2.2.2 _ b
theorem zx_cs {P : Nat} {z : Nat → Int} {M : mk_T} {q x y L : Nat} (hz : ZX z) (h3 : 0 ≤ z 3 ∧ z 3 ≤ 5) (h14 : 0 ≤ z 14 ∧ z 14 ≤ 12) (h00 : 0 ≤ z 0 ∧ z 0 ≤ 10) (hL : z (85 + q) = L) (hq : q < 10) (hx : x ≤ y) (hy : y ≤ L) (h360 : L ≤ 359) (hP : P ≤ 10) (h : MR P (rf_CS z q x y) M) : ZX (rf_CS z q x y) := by
  obtain ⟨a1, a2, a3, a4, a5, a6⟩ := CS_v h3 h14 hL hq hx hy h360
  have hO := C2_v hL hq hx hy
  have e : rf_CS z q x y = rf_mk id_0 (cs_1 q x y) (cs_2 q x y) (cs_4 q x y) (rf_pl id_a (cs_b q x y ((L : Int) - (y - x))) (rf_C2 z q x y) (rf_C2 z q x y 3 + 1).toNat) (rf_pl id_a (cs_b q x y ((L : Int) - (y - x))) (rf_C2 z q x y) (rf_C2 z q x y 3 + 1).toNat 14).toNat := by
    unfold rf_CS rf_C3
    rw [show (85 + (q : Int)).toNat = 85 + q by omega, hL]
  have hn : NC z (rf_CS z q x y) := by
    rw [e]; exact nc_1 h3 h14 fun j a b => by rw [hO, if_neg (by omega), if_neg (by omega)]
  have m2 := (mv_1 (z := z) (z2 := rf_C2 z q x y) (a := id_a) (b := cs_b q x y ((L : Int) - (y - x))) (g0 := id_0) (g1 := cs_1 q x y) (g2 := cs_2 q x y) (g4 := cs_4 q x y) h3 h14 (fun j a b => by rw [hO, if_neg (by omega), if_neg (by omega)])).2
  rw [← e] at m2
  have hv := a1.1
  have hv2 := a1.2.1
  refine zx_mk hz h hP (by rw [a2]; exact h00) ⟨hv, hv2⟩ hn (fun j b c => by rw [a3 j b c]; exact hz.2.1 j b c) (fun j b c => ?_) fun j b => ?_
  · rw [a4 j b c]
    by_cases c : j = 85 + q
    · rw [if_pos c]; omega
    · rw [if_neg c]; exact hz.2.2.1 j b (by omega)
  · rw [m2 j (by omega), hO, if_neg (by omega)]
    by_cases e : 95 + 360 * q + x ≤ j ∧ j < 95 + 360 * q + x + (L - y)
    · rw [if_pos e]; exact hz.2.2.2 _ (by omega)
    · rw [if_neg e]; exact hz.2.2.2 _ b
/-- one pass after another -/
theorem mvp_c {z z1 z2 : Nat → Int} {a b a' b' : Int → Int → Int} {g0 g1 g2 g4 k0 k1 k2 k4 : rf_G} (h : MVP z z1 a b g0 g1 g2 g4) (h' : MVP z1 z2 a' b' k0 k1 k2 k4) : MVP z z2 (fun u v => a' (a u v) (b u v)) (fun u v => b' (a u v) (b u v)) (fun u v w x => k0 (g0 u v w x) (g1 u v w x) (g2 u v w x) (g4 u v w x)) (fun u v w x => k1 (g0 u v w x) (g1 u v w x) (g2 u v w x) (g4 u v w x)) (fun u v w x => k2 (g0 u v w x) (g1 u v w x) (g2 u v w x) (g4 u v w x)) (fun u v w x => k4 (g0 u v w x) (g1 u v w x) (g2 u v w x) (g4 u v w x)) := by
  obtain ⟨a1, a2, a3, a4⟩ := h
  obtain ⟨b1, b2, b3, b4⟩ := h'
  refine ⟨by rw [b1, a1], by rw [b2, a2], fun i hi => ?_, fun k hk => ?_⟩
  · have p := a3 i hi
    have q := b3 i (by rw [a1]; exact hi)
    rw [q.1, q.2, p.1, p.2]; exact ⟨rfl, rfl⟩
  · obtain ⟨p0, p1, p2, p3, p4⟩ := a4 k hk
    obtain ⟨q0, q1, q2, q3, q4⟩ := b4 k (by rw [a2]; exact hk)
    rw [q0, q1, q2, q3, q4, p0, p1, p2, p3, p4]; exact ⟨rfl, rfl, rfl, rfl, rfl⟩
theorem mvp_e {z z1 z2 : Nat → Int} {a b : Int → Int → Int} {g0 g1 g2 g4 : rf_G} (h : MVP z z1 a b g0 g1 g2 g4) (h3 : 0 ≤ z 3 ∧ z 3 ≤ 5) (h14 : 0 ≤ z 14 ∧ z 14 ≤ 12) (e : ∀ j, 1 ≤ j → j < 75 → z2 j = z1 j) : MVP z z2 a b g0 g1 g2 g4 := by
  obtain ⟨n1, n2, n3, n4⟩ := h
  refine ⟨by rw [e 3 (by omega) (by omega)]; exact n1, by rw [e 14 (by omega) (by omega)]; exact n2, fun i hi => ?_, fun k hk => ?_⟩
  · have : 1 ≤ i ∧ i + 1 < 75 := by rcases hi with rfl | ⟨k, k1, rfl⟩ <;> omega
    rw [e i (by omega) (by omega), e (i + 1) (by omega) (by omega)]; exact n3 i hi
  · rw [e (15 + 5 * k) (by omega) (by omega), e (15 + 5 * k + 1) (by omega) (by omega), e (15 + 5 * k + 2) (by omega) (by omega), e (15 + 5 * k + 3) (by omega) (by omega), e (15 + 5 * k + 4) (by omega) (by omega)]; exact n4 k hk
