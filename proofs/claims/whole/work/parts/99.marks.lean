/-! ===== pure: places after an edit ===== -/
theorem pl_v {a b : Int → Int → Int} {z : Nat → Int} {n i : Nat} (h : (i = 1 ∧ 0 < n) ∨ ∃ k, k + 1 < n ∧ i = 4 + 2 * k) : rf_pl a b z n i = a (z i) (z (i + 1)) ∧ rf_pl a b z n (i + 1) = b (z i) (z (i + 1)) := by
  unfold rf_pl
  rcases h with ⟨rfl, h⟩ | ⟨k, h, rfl⟩
  · exact ⟨by rw [if_pos (Or.inl ⟨rfl, h⟩)], by rw [if_neg (by omega), if_pos (Or.inl ⟨rfl, h⟩)]⟩
  · refine ⟨by rw [if_pos (Or.inr ⟨by omega, by omega, by omega⟩)], ?_⟩
    rw [if_neg (by omega), if_pos (Or.inr ⟨by omega, by omega, by omega⟩)]
    rfl
/-- how an edit moves places: a b the reader's and jumps', g0 g1 g2 g4 the annotations', z' the new row -/
def MVP (z z' : Nat → Int) (a b : Int → Int → Int) (g0 g1 g2 g4 : rf_G) : Prop := z' 3 = z 3 ∧ z' 14 = z 14
  ∧ (∀ i, (i = 1 ∨ ∃ k : Nat, (k : Int) < z 3 ∧ i = 4 + 2 * k) → z' i = a (z i) (z (i + 1)) ∧ z' (i + 1) = b (z i) (z (i + 1)))
  ∧ ∀ k : Nat, (k : Int) < z 14 → z' (15 + 5 * k) = g0 (z (15 + 5 * k)) (z (15 + 5 * k + 1)) (z (15 + 5 * k + 2)) (z (15 + 5 * k + 4)) ∧ z' (15 + 5 * k + 1) = g1 (z (15 + 5 * k)) (z (15 + 5 * k + 1)) (z (15 + 5 * k + 2)) (z (15 + 5 * k + 4)) ∧ z' (15 + 5 * k + 2) = g2 (z (15 + 5 * k)) (z (15 + 5 * k + 1)) (z (15 + 5 * k + 2)) (z (15 + 5 * k + 4)) ∧ z' (15 + 5 * k + 3) = z (15 + 5 * k + 3) ∧ z' (15 + 5 * k + 4) = g4 (z (15 + 5 * k)) (z (15 + 5 * k + 1)) (z (15 + 5 * k + 2)) (z (15 + 5 * k + 4))
theorem mr_g {P P' : Nat} {z z' : Nat → Int} {M : mk_T} {a b : Int → Int → Int} {g0 g1 g2 g4 : rf_G} (h : MR P z M) (hv : MVP z z' a b g0 g1 g2 g4) {fp : Int → Int} {ff ft : Int → Int → Int} {M' : mk_T}
    (hp : ∀ (q : Nat) (o : Int), q < P → 0 ≤ o → o < z (85 + q) → ∃ q' : Nat, a q o = q' ∧ q' < P' ∧ 0 ≤ b q o ∧ b q o < z' (85 + q') ∧ fp (rS z q + o) = rS z' q' + b q o)
    (ha : ∀ (q : Nat) (x y l : Int), q < P → 0 ≤ x → x ≤ y → y ≤ z (85 + q) → (l = if x = y then 1 else 0) → ∃ q' : Nat, g0 q x y l = q' ∧ q' < P' ∧ (0 ≤ g1 q x y l ∧ g1 q x y l ≤ g2 q x y l ∧ g2 q x y l ≤ z' (85 + q')) ∧ ff (rS z q + x) (rS z q + y) = rS z' q' + g1 q x y l ∧ ft (rS z q + x) (rS z q + y) = rS z' q' + g2 q x y l ∧ g4 q x y l = if g1 q x y l = g2 q x y l then 1 else 0)
    (e1 : M'.1 = fp M.1) (e2 : M'.2.1 = M.2.1) (e3 : M'.2.2.1 = M.2.2.1) (e4 : ∀ k : Nat, k < 5 → M'.2.2.2.1 k = fp (M.2.2.2.1 k)) (e5 : ∀ k : Nat, k < 12 → M'.2.2.2.2.1 k = ff (M.2.2.2.2.1 k) (M.2.2.2.2.2.1 k)) (e6 : ∀ k : Nat, k < 12 → M'.2.2.2.2.2.1 k = ft (M.2.2.2.2.1 k) (M.2.2.2.2.2.1 k)) (e7 : M'.2.2.2.2.2.2 = M.2.2.2.2.2.2) : MR P' z' M' := by
  obtain ⟨m1, ⟨m2, m2', m2''⟩, m3, ⟨m4, m4', m4''⟩, m5⟩ := h
  obtain ⟨v1, v2, v3, v4⟩ := hv
  have hps : ∀ {i : Nat} {x : Int}, PS z P i x → (i = 1 ∨ ∃ k : Nat, (k : Int) < z 3 ∧ i = 4 + 2 * k) → PS z' P' i (fp x) := fun {i x} hx hi => by
    obtain ⟨q, p1, p2, p3, p4, p5⟩ := hx
    obtain ⟨w1, w2⟩ := v3 i hi
    obtain ⟨q', r1, r2, r3, r4, r5⟩ := hp q (z (i + 1)) p2 p3 p4
    rw [p1] at w1 w2
    exact ⟨q', by rw [w1, r1], r2, by rw [w2]; exact r3, by rw [w2]; exact r4, by rw [p5, w2]; exact r5⟩
  refine ⟨by rw [e1]; exact hps m1 (Or.inl rfl), ⟨by rw [e2, v1]; exact m2, by rw [v1]; exact ⟨m2', m2''⟩⟩, fun k hk => ?_, ⟨by rw [e3, v2]; exact m4, by rw [v2]; exact ⟨m4', m4''⟩⟩, fun k hk => ?_⟩
  · rw [v1] at hk
    rw [e4 k (by omega)]; exact hps (m3 k hk) (Or.inr ⟨k, hk, rfl⟩)
  · rw [v2] at hk
    obtain ⟨q, a1, a2, a3, a4, a5, a6, a7⟩ := m5 k hk
    obtain ⟨w0, w1, w2, w3, w4⟩ := v4 k hk
    rw [a1] at w0 w1 w2 w4
    obtain ⟨q', r1, r2, r3, r4, r5, r6⟩ := ha q _ _ _ a2 a3.1 a3.2.1 a3.2.2 a7
    refine ⟨q', by rw [w0, r1], r2, by rw [w1, w2]; exact r3, ?_, ?_, by rw [e7, w3]; exact a6, by rw [w4, w1, w2]; exact r6⟩
    · rw [e5 k (by omega), a4, a5, w1]; exact r4
    · rw [e6 k (by omega), a4, a5, w2]; exact r5
/-- one pass of the reference over its places -/
theorem mv_1 {z z2 : Nat → Int} {a b : Int → Int → Int} {g0 g1 g2 g4 : rf_G} (h3 : 0 ≤ z 3 ∧ z 3 ≤ 5) (h14 : 0 ≤ z 14 ∧ z 14 ≤ 12) (e : ∀ j, 1 ≤ j → j < 75 → z2 j = z j) : MVP z (rf_mk g0 g1 g2 g4 (rf_pl a b z2 (z2 3 + 1).toNat) (rf_pl a b z2 (z2 3 + 1).toNat 14).toNat) a b g0 g1 g2 g4 ∧ ∀ j, (j = 0 ∨ 75 ≤ j) → rf_mk g0 g1 g2 g4 (rf_pl a b z2 (z2 3 + 1).toNat) (rf_pl a b z2 (z2 3 + 1).toNat 14).toNat j = z2 j := by
  have q3 := e 3 (by omega) (by omega)
  have q14 := e 14 (by omega) (by omega)
  have e14 : rf_pl a b z2 (z2 3 + 1).toNat 14 = z 14 := by rw [rf_pl_h (by omega) (by omega)]; exact q14
  rw [e14]
  have hh : ∀ j, (j = 0 ∨ j = 3 ∨ 14 ≤ j) → rf_pl a b z2 (z2 3 + 1).toNat j = z2 j := fun j hj => rf_pl_h hj (by omega)
  refine ⟨⟨?_, ?_, fun i hi => ?_, fun k hk => ?_⟩, fun j hj => ?_⟩
  · rw [rf_mk_r (by omega), hh 3 (by omega)]; exact q3
  · rw [rf_mk_r (by omega), hh 14 (by omega)]; exact q14
  · have h13 : 1 ≤ i ∧ i + 1 < 14 := by
      rcases hi with rfl | ⟨k, k1, rfl⟩ <;> omega
    rw [rf_mk_r (by omega), rf_mk_r (by omega)]
    have := pl_v (a := a) (b := b) (z := z2) (n := (z2 3 + 1).toNat) (i := i) (by
      rcases hi with rfl | ⟨k, k1, rfl⟩
      · exact Or.inl ⟨rfl, by omega⟩
      · exact Or.inr ⟨k, by omega, rfl⟩)
    rw [e i (by omega) (by omega), e (i + 1) (by omega) (by omega)] at this
    exact this
  · have := rf_mk_v (g0 := g0) (g1 := g1) (g2 := g2) (g4 := g4) (z := rf_pl a b z2 (z2 3 + 1).toNat) (i := (z 14).toNat) (k := k) (by omega)
    have q : ∀ j, 15 ≤ j → j < 75 → rf_pl a b z2 (z2 3 + 1).toNat j = z j := fun j h1 h2 => by rw [hh j (by omega)]; exact e j (by omega) h2
    rw [q (15 + 5 * k) (by omega) (by omega), q (15 + 5 * k + 1) (by omega) (by omega), q (15 + 5 * k + 2) (by omega) (by omega), q (15 + 5 * k + 3) (by omega) (by omega), q (15 + 5 * k + 4) (by omega) (by omega)] at this
    exact this
  · rw [rf_mk_r (by omega), hh j (by omega)]
