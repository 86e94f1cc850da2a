/-! ===== the reference: rows that move ===== -/
theorem rf_ifc {b c : Prop} [Decidable b] [Decidable c] {x y v : Int} (h : b ↔ c) (h2 : y = v) : (if b then x else y) = if c then x else v := by
  subst h2
  by_cases hb : b
  · rw [if_pos hb, if_pos (h.mp hb)]
  · rw [if_neg hb, if_neg (fun q => hb (h.mpr q))]
theorem va_cpy_0 (f g : Nat → Int) (s t : Nat) : va_cpy f g s t 0 = g := funext fun j => if_neg (by omega)
theorem va_cpy_u (f g : Nat → Int) (s t i : Nat) : va_up (va_cpy f g s t i) (t + i) (f (s + i)) = va_cpy f g s t (i + 1) := by
  funext j
  unfold va_up va_cpy
  by_cases e : j = t + i
  · rw [if_pos e, if_pos (by omega), e, show s + (t + i - t) = s + i by omega]
  · rw [if_neg e]
    by_cases e2 : t ≤ j ∧ j < t + i
    · rw [if_pos e2, if_pos (by omega)]
    · rw [if_neg e2, if_neg (by omega)]
theorem va_cpy_r {f g : Nat → Int} {s t i j : Nat} (h : ¬ (t ≤ j ∧ j < t + i)) : va_cpy f g s t i j = g j := if_neg h
theorem va_cpy_i {f g : Nat → Int} {s t i j : Nat} (h : t ≤ j ∧ j < t + i) : va_cpy f g s t i j = f (s + (j - t)) := if_pos h
theorem va_cpy_d (z : Nat → Int) (s m i : Nat) : va_up (va_cpy z z (s + 1) (s + 1 + m) i) (s + m) (z s) = va_cpy z z s (s + m) (i + 1) := by
  funext j
  unfold va_up va_cpy
  by_cases e : j = s + m
  · rw [if_pos e, if_pos (by omega), e, show s + (s + m - (s + m)) = s by omega]
  · rw [if_neg e]
    by_cases e2 : s + 1 + m ≤ j ∧ j < s + 1 + m + i
    · rw [if_pos e2, if_pos (by omega), show s + 1 + (j - (s + 1 + m)) = s + (j - (s + m)) by omega]
    · rw [if_neg e2, if_neg (by omega)]
/-- the reader's place and the kept jumps' -/
def rf_pl (a b : Int → Int → Int) (z : Nat → Int) (i : Nat) : Nat → Int := fun j =>
  if (j = 1 ∧ 0 < i) ∨ (4 ≤ j ∧ j % 2 = 0 ∧ j < 2 * i + 2) then a (z j) (z (j + 1))
  else if (j = 2 ∧ 0 < i) ∨ (5 ≤ j ∧ j % 2 = 1 ∧ j < 2 * i + 3) then b (z (j - 1)) (z j) else z j
theorem rf_pl_0 (a b : Int → Int → Int) (z : Nat → Int) : rf_pl a b z 0 = z := by
  funext j; unfold rf_pl; rw [if_neg (by omega), if_neg (by omega)]
theorem rf_pl_e {a b : Int → Int → Int} {z F : Nat → Int} {i q : Nat} (hq : (i = 0 ∧ q = 1) ∨ (0 < i ∧ q = 2 * i + 2)) (h1 : ∀ j, j ≠ q → j ≠ q + 1 → F j = rf_pl a b z i j) (h2 : F q = a (z q) (z (q + 1))) (h3 : F (q + 1) = b (z q) (z (q + 1))) : F = rf_pl a b z (i + 1) := by
  funext j
  by_cases e1 : j = q
  · rw [e1, h2]; unfold rf_pl; rw [if_pos (by omega)]
  · by_cases e2 : j = q + 1
    · rw [e2, h3]; unfold rf_pl; rw [if_neg (by omega), if_pos (by omega)]; rfl
    · rw [h1 j e1 e2]
      unfold rf_pl
      exact rf_ifc (by omega) (rf_ifc (by omega) rfl)
theorem rf_pl_r {a b : Int → Int → Int} {z : Nat → Int} {i q : Nat} (hq : (i = 0 ∧ q = 1) ∨ (0 < i ∧ q = 2 * i + 2)) : rf_pl a b z i q = z q ∧ rf_pl a b z i (q + 1) = z (q + 1) := by
  unfold rf_pl; exact ⟨by rw [if_neg (by omega), if_neg (by omega)], by rw [if_neg (by omega), if_neg (by omega)]⟩
theorem rf_pl_h {a b : Int → Int → Int} {z : Nat → Int} {i j : Nat} (hj : j = 0 ∨ j = 3 ∨ 14 ≤ j) (hi : i ≤ 6) : rf_pl a b z i j = z j := by
  unfold rf_pl; rw [if_neg (by omega), if_neg (by omega)]
theorem rf_pl_b {a b : Int → Int → Int} {z : Nat → Int} {x y : Int} (h : ∀ j, -x ≤ z j ∧ z j ≤ x) (hxy : x ≤ y) (ha : ∀ u v, -x ≤ u ∧ u ≤ x → -x ≤ v ∧ v ≤ x → -y ≤ a u v ∧ a u v ≤ y) (hb : ∀ u v, -x ≤ u ∧ u ≤ x → -x ≤ v ∧ v ≤ x → -y ≤ b u v ∧ b u v ≤ y) (i j : Nat) : -y ≤ rf_pl a b z i j ∧ rf_pl a b z i j ≤ y := by
  unfold rf_pl
  split
  · exact ha _ _ (h _) (h _)
  · split
    · exact hb _ _ (h _) (h _)
    · have := h j; omega
abbrev rf_G : Type := Int → Int → Int → Int → Int
/-- the annotations -/
def rf_mk (g0 g1 g2 g4 : rf_G) (z : Nat → Int) (i : Nat) : Nat → Int := fun j =>
  if 15 ≤ j ∧ j < 15 + 5 * i then
    (if (j - 15) % 5 = 0 then g0 (z j) (z (j + 1)) (z (j + 2)) (z (j + 4)) else if (j - 15) % 5 = 1 then g1 (z (j - 1)) (z j) (z (j + 1)) (z (j + 3)) else if (j - 15) % 5 = 2 then g2 (z (j - 2)) (z (j - 1)) (z j) (z (j + 2)) else if (j - 15) % 5 = 4 then g4 (z (j - 4)) (z (j - 3)) (z (j - 2)) (z j) else z j)
  else z j
theorem rf_mk_0 (g0 g1 g2 g4 : rf_G) (z : Nat → Int) : rf_mk g0 g1 g2 g4 z 0 = z := by
  funext j; unfold rf_mk; rw [if_neg (by omega)]
theorem rf_mk_r {g0 g1 g2 g4 : rf_G} {z : Nat → Int} {i j : Nat} (h : j < 15 ∨ 15 + 5 * i ≤ j) : rf_mk g0 g1 g2 g4 z i j = z j := by
  unfold rf_mk; rw [if_neg (by omega)]
theorem rf_mk_v {g0 g1 g2 g4 : rf_G} {z : Nat → Int} {i k : Nat} (h : k < i) : rf_mk g0 g1 g2 g4 z i (15 + 5 * k) = g0 (z (15 + 5 * k)) (z (15 + 5 * k + 1)) (z (15 + 5 * k + 2)) (z (15 + 5 * k + 4)) ∧ rf_mk g0 g1 g2 g4 z i (15 + 5 * k + 1) = g1 (z (15 + 5 * k)) (z (15 + 5 * k + 1)) (z (15 + 5 * k + 2)) (z (15 + 5 * k + 4)) ∧ rf_mk g0 g1 g2 g4 z i (15 + 5 * k + 2) = g2 (z (15 + 5 * k)) (z (15 + 5 * k + 1)) (z (15 + 5 * k + 2)) (z (15 + 5 * k + 4)) ∧ rf_mk g0 g1 g2 g4 z i (15 + 5 * k + 3) = z (15 + 5 * k + 3) ∧ rf_mk g0 g1 g2 g4 z i (15 + 5 * k + 4) = g4 (z (15 + 5 * k)) (z (15 + 5 * k + 1)) (z (15 + 5 * k + 2)) (z (15 + 5 * k + 4)) := by
  unfold rf_mk
  refine ⟨?_, ?_, ?_, ?_, ?_⟩
  · rw [if_pos (by omega), if_pos (by omega)]
  · rw [if_pos (by omega), if_neg (by omega), if_pos (by omega)]; rfl
  · rw [if_pos (by omega), if_neg (by omega), if_neg (by omega), if_pos (by omega)]; rfl
  · rw [if_pos (by omega), if_neg (by omega), if_neg (by omega), if_neg (by omega), if_neg (by omega)]
  · rw [if_pos (by omega), if_neg (by omega), if_neg (by omega), if_neg (by omega), if_pos (by omega)]; rfl
theorem rf_mk_e {g0 g1 g2 g4 : rf_G} {z F : Nat → Int} {i : Nat} (h : ∀ j, j < 15 + 5 * i ∨ 15 + 5 * i + 5 ≤ j → F j = rf_mk g0 g1 g2 g4 z i j) (h0 : F (15 + 5 * i) = g0 (z (15 + 5 * i)) (z (15 + 5 * i + 1)) (z (15 + 5 * i + 2)) (z (15 + 5 * i + 4))) (h1 : F (15 + 5 * i + 1) = g1 (z (15 + 5 * i)) (z (15 + 5 * i + 1)) (z (15 + 5 * i + 2)) (z (15 + 5 * i + 4))) (h2 : F (15 + 5 * i + 2) = g2 (z (15 + 5 * i)) (z (15 + 5 * i + 1)) (z (15 + 5 * i + 2)) (z (15 + 5 * i + 4))) (h3 : F (15 + 5 * i + 3) = z (15 + 5 * i + 3)) (h4 : F (15 + 5 * i + 4) = g4 (z (15 + 5 * i)) (z (15 + 5 * i + 1)) (z (15 + 5 * i + 2)) (z (15 + 5 * i + 4))) : F = rf_mk g0 g1 g2 g4 z (i + 1) := by
  funext j
  obtain ⟨v0, v1, v2, v3, v4⟩ := rf_mk_v (g0 := g0) (g1 := g1) (g2 := g2) (g4 := g4) (z := z) (show i < i + 1 by omega)
  rcases (show j = 15 + 5 * i ∨ j = 15 + 5 * i + 1 ∨ j = 15 + 5 * i + 2 ∨ j = 15 + 5 * i + 3 ∨ j = 15 + 5 * i + 4 ∨ (j < 15 + 5 * i ∨ 15 + 5 * i + 5 ≤ j) by omega) with e | e | e | e | e | e
  · rw [e, h0, v0]
  · rw [e, h1, v1]
  · rw [e, h2, v2]
  · rw [e, h3, v3]
  · rw [e, h4, v4]
  · rw [h j e]
    unfold rf_mk
    exact rf_ifc (by omega) rfl
/-- one paragraph's row laid over another's -/
def rf_cp (z : Nat → Int) (t s : Nat) : Nat → Int := fun j =>
  if j = 75 + t then z (75 + s) else if j = 85 + t then z (85 + s) else if 95 + 360 * t ≤ j ∧ j < 95 + 360 * t + 360 then z (95 + 360 * s + (j - (95 + 360 * t))) else z j
theorem rf_cp_b {z : Nat → Int} {x : Int} (h : ∀ j, -x ≤ z j ∧ z j ≤ x) (t s j : Nat) : -x ≤ rf_cp z t s j ∧ rf_cp z t s j ≤ x := by
  unfold rf_cp; split; exact h _; split; exact h _; split; exact h _; exact h _
theorem rf_cp_x {z : Nat → Int} {t s : Nat} (ht : t < 10) (hs : s < 10) (hts : t ≠ s) : va_cpy (va_up (va_up z (75 + t) (z (75 + s))) (85 + t) (va_up z (75 + t) (z (75 + s)) (85 + s))) (va_up (va_up z (75 + t) (z (75 + s))) (85 + t) (va_up z (75 + t) (z (75 + s)) (85 + s))) (95 + 360 * s) (95 + 360 * t) 360 = rf_cp z t s := by
  funext j
  unfold rf_cp
  by_cases c1 : j = 75 + t
  · rw [if_pos c1, va_cpy_r (by omega), va_up_ne _ _ (by omega), c1, va_up_self]
  · rw [if_neg c1]
    by_cases c2 : j = 85 + t
    · rw [if_pos c2, va_cpy_r (by omega), c2, va_up_self, va_up_ne _ _ (by omega)]
    · rw [if_neg c2]
      by_cases c3 : 95 + 360 * t ≤ j ∧ j < 95 + 360 * t + 360
      · rw [if_pos c3, va_cpy_i c3, va_up_ne _ _ (by omega), va_up_ne _ _ (by omega)]
      · rw [if_neg c3, va_cpy_r c3, va_up_ne _ _ c2, va_up_ne _ _ c1]
/-- paragraphs above q move up by one; those from q on, up to the last, are done -/
def rf_pu (z : Nat → Int) (q M : Nat) : Nat → Int := fun j =>
  if 75 + q + 1 ≤ j ∧ j ≤ 75 + M then z (j - 1) else if 85 + q + 1 ≤ j ∧ j ≤ 85 + M then z (j - 1) else if 95 + 360 * (q + 1) ≤ j ∧ j < 95 + 360 * (M + 1) then z (j - 360) else z j
set_option maxRecDepth 100000 in
theorem rf_pu_s {z : Nat → Int} {q M : Nat} (hq : q + 1 ≤ M) (hM : M ≤ 9) : rf_cp (rf_pu z (q + 1) M) (q + 1) q = rf_pu z q M := by
  funext j
  unfold rf_cp
  by_cases c1 : j = 75 + (q + 1)
  · rw [if_pos c1]; unfold rf_pu; rw [if_neg (by omega), if_neg (by omega), if_neg (by omega), if_pos (by omega), c1]; rfl
  · rw [if_neg c1]
    by_cases c2 : j = 85 + (q + 1)
    · rw [if_pos c2]; unfold rf_pu; rw [if_neg (by omega), if_neg (by omega), if_neg (by omega), if_neg (by omega), if_pos (by omega), c2]; rfl
    · rw [if_neg c2]
      by_cases c3 : 95 + 360 * (q + 1) ≤ j ∧ j < 95 + 360 * (q + 1) + 360
      · rw [if_pos c3]; unfold rf_pu; rw [if_neg (by omega), if_neg (by omega), if_neg (by omega), if_neg (by omega), if_neg (by omega), if_pos (by omega), show 95 + 360 * q + (j - (95 + 360 * (q + 1))) = j - 360 by omega]
      · rw [if_neg c3]
        unfold rf_pu
        exact rf_ifc (by omega) (rf_ifc (by omega) (rf_ifc (by omega) rfl))
theorem rf_pu_0 {z : Nat → Int} {M : Nat} : rf_pu z M M = z := by
  funext j; unfold rf_pu; rw [if_neg (by omega), if_neg (by omega), if_neg (by omega)]
theorem rf_pu_b {z : Nat → Int} {x : Int} (h : ∀ j, -x ≤ z j ∧ z j ≤ x) (q M j : Nat) : -x ≤ rf_pu z q M j ∧ rf_pu z q M j ≤ x := by
  unfold rf_pu; split; exact h _; split; exact h _; split; exact h _; exact h _
/-- paragraphs behind q move down by one; those before k are done -/
def rf_pd (z : Nat → Int) (q k : Nat) : Nat → Int := fun j =>
  if 75 + q ≤ j ∧ j < 75 + k then z (j + 1) else if 85 + q ≤ j ∧ j < 85 + k then z (j + 1) else if 95 + 360 * q ≤ j ∧ j < 95 + 360 * k then z (j + 360) else z j
set_option maxRecDepth 100000 in
theorem rf_pd_s {z : Nat → Int} {q k : Nat} (hq : q ≤ k) (hk : k ≤ 8) : rf_cp (rf_pd z q k) k (k + 1) = rf_pd z q (k + 1) := by
  funext j
  unfold rf_cp
  by_cases c1 : j = 75 + k
  · rw [if_pos c1]; unfold rf_pd; rw [if_neg (by omega), if_neg (by omega), if_neg (by omega), if_pos (by omega), c1]; rfl
  · rw [if_neg c1]
    by_cases c2 : j = 85 + k
    · rw [if_pos c2]; unfold rf_pd; rw [if_neg (by omega), if_neg (by omega), if_neg (by omega), if_neg (by omega), if_pos (by omega), c2]; rfl
    · rw [if_neg c2]
      by_cases c3 : 95 + 360 * k ≤ j ∧ j < 95 + 360 * k + 360
      · rw [if_pos c3]; unfold rf_pd; rw [if_neg (by omega), if_neg (by omega), if_neg (by omega), if_neg (by omega), if_neg (by omega), if_pos (by omega), show 95 + 360 * (k + 1) + (j - (95 + 360 * k)) = j + 360 by omega]
      · rw [if_neg c3]
        unfold rf_pd
        exact rf_ifc (by omega) (rf_ifc (by omega) (rf_ifc (by omega) rfl))
theorem rf_pd_0 {z : Nat → Int} {q : Nat} : rf_pd z q q = z := by
  funext j; unfold rf_pd; rw [if_neg (by omega), if_neg (by omega), if_neg (by omega)]
theorem rf_pd_b {z : Nat → Int} {x : Int} (h : ∀ j, -x ≤ z j ∧ z j ≤ x) (q M j : Nat) : -x ≤ rf_pd z q M j ∧ rf_pd z q M j ≤ x := by
  unfold rf_pd; split; exact h _; split; exact h _; split; exact h _; exact h _
section RF
variable {G : ji_G} {d n : Nat} {f : Nat → ji_C} {th ed wi ht sz rs rr rq rp mm ln co ro pg : Int} {z kp nt nl sy bf lo lf lt pf : Nat → Int} {hsh : Int64}
end RF
