/-! ===== the whole object: places 0 to 59 ===== -/
abbrev mk_T : Type := Int × Int × Int × (Nat → Int) × (Nat → Int) × (Nat → Int) × (Nat → Int)
abbrev ly_T : Type := Nat × Int × Int × Int × Int × (Nat → Nat → Int)
abbrev in_T : Type := Int × (Nat → Int) × sy_T
/-- notes, style, width, height, book, stale -/
abbrev pg_T : Type := (Nat → Option Nat) × (Nat → Int) × Int × Int × Nat × Int
/-- edits, books, which marks, the saved marks -/
abbrev hi_T : Type := Int × (Nat → Option Nat) × (Nat → Nat) × (Nat → mk_T)
def mk_H (b : Nat) (f : Nat → ji_C) (M : mk_T) : Nat → ji_C := mk_h b f M.1 M.2.1 M.2.2.1 M.2.2.2.1 M.2.2.2.2.1 M.2.2.2.2.2.1 M.2.2.2.2.2.2
def ly_H (b : Nat) (f : Nat → ji_C) (Y : ly_T) : Nat → ji_C := ly_f b f Y.1 Y.2.1 Y.2.2.1 Y.2.2.2.1 Y.2.2.2.2.1 Y.2.2.2.2.2
def in_H (n : Nat) (f : Nat → ji_C) (I : in_T) : ji_H := in_h 1 n f I.1 I.2.1 I.2.2
def cl_z : Nat → ji_C := fun _ => .inl (0, [])
def cl_c0 (w h : Int) (bk : Nat) (st : Int) : List Value := [.ref 1, .ref 4, .ref 5, .int (jI w), .int (jI h), .ref bk, .ref 12, .ref 17, .ref 40, .ref 50, .int (jI st)]
def cl_f (f : Nat → ji_C) (I : in_T) (P : pg_T) (M : mk_T) (H : hi_T) (Y Z : ly_T) : Nat → ji_C := fun x =>
  if x = 0 then .inl (7, cl_c0 P.2.2.1 P.2.2.2.1 P.2.2.2.2.1 P.2.2.2.2.2)
  else if x ≤ 3 then (in_H 0 cl_z I).2 x
  else if x = 4 then .inr (.object RX6, 10, .inr (.inr P.1))
  else if x = 5 then .inr (.int, 5, .inl P.2.1)
  else if x ≤ 11 then f x
  else if x ≤ 16 then mk_H 12 cl_z M x
  else if x = 17 then .inl (1, [.ref 18, .ref 19, .int (jI H.1)])
  else if x = 18 then .inr (.object RX0, 4, .inr (.inr H.2.1))
  else if x = 19 then .inr (.object RX4, 4, .inr (.inr fun i => some (20 + 5 * H.2.2.1 i)))
  else if x ≤ 24 then mk_H 20 cl_z (H.2.2.2 0) x
  else if x ≤ 29 then mk_H 25 cl_z (H.2.2.2 1) x
  else if x ≤ 34 then mk_H 30 cl_z (H.2.2.2 2) x
  else if x ≤ 39 then mk_H 35 cl_z (H.2.2.2 3) x
  else if x ≤ 49 then ly_H 40 cl_z Y x
  else if x ≤ 59 then ly_H 50 cl_z Z x
  else f x
theorem mk_in {b x : Nat} {f g : Nat → ji_C} {M : mk_T} (hx : b ≤ x ∧ x ≤ b + 4) : mk_H b f M x = mk_H b g M x := by
  unfold mk_H mk_h va_up; (repeat' split) <;> first | rfl | (exfalso; omega)
theorem ly_in {b x : Nat} {f g : Nat → ji_C} {Y : ly_T} (hx : b ≤ x ∧ x ≤ b + 9) : ly_H b f Y x = ly_H b g Y x := by
  unfold ly_H ly_f; (repeat' split) <;> first | rfl | (exfalso; omega)
theorem ly_out {b x : Nat} {f : Nat → ji_C} {Y : ly_T} (hx : x < b ∨ b + 9 < x) : ly_H b f Y x = f x := by
  unfold ly_H ly_f; (repeat' split) <;> first | rfl | (exfalso; omega)
theorem in_in {n m x : Nat} {f g : Nat → ji_C} {I : in_T} (hx : 1 ≤ x ∧ x ≤ 3) : (in_H n f I).2 x = (in_H m g I).2 x := by
  unfold in_H in_h sy_h in_f va_up; dsimp only; (repeat' split) <;> first | rfl | (exfalso; omega)
theorem in_out {n x : Nat} {f : Nat → ji_C} {I : in_T} (hx : x < 1 ∨ 3 < x) : (in_H n f I).2 x = f x := by
  unfold in_H in_h sy_h in_f va_up; dsimp only; (repeat' split) <;> first | rfl | (exfalso; omega)
section CL
variable {G : ji_G} {d n : Nat} {f : Nat → ji_C} {I : in_T} {P : pg_T} {M : mk_T} {H : hi_T} {Y Z : ly_T}
theorem cl_a0 {x : Nat} (hx : x = 0) : cl_f f I P M H Y Z x = .inl (7, cl_c0 P.2.2.1 P.2.2.2.1 P.2.2.2.2.1 P.2.2.2.2.2) := by unfold cl_f; rw [if_pos (by omega)]
theorem cl_a1 {x : Nat} (hx : 1 ≤ x ∧ x ≤ 3) : cl_f f I P M H Y Z x = (in_H 0 cl_z I).2 x := by unfold cl_f; rw [if_neg (by omega), if_pos (by omega)]
theorem cl_a4 {x : Nat} (hx : x = 4) : cl_f f I P M H Y Z x = .inr (.object RX6, 10, .inr (.inr P.1)) := by unfold cl_f; rw [if_neg (by omega), if_neg (by omega), if_pos (by omega)]
theorem cl_a5 {x : Nat} (hx : x = 5) : cl_f f I P M H Y Z x = .inr (.int, 5, .inl P.2.1) := by unfold cl_f; rw [if_neg (by omega), if_neg (by omega), if_neg (by omega), if_pos (by omega)]
theorem cl_a6 {x : Nat} (hx : 6 ≤ x ∧ x ≤ 11) : cl_f f I P M H Y Z x = f x := by unfold cl_f; rw [if_neg (by omega), if_neg (by omega), if_neg (by omega), if_neg (by omega), if_pos (by omega)]
theorem cl_a12 {x : Nat} (hx : 12 ≤ x ∧ x ≤ 16) : cl_f f I P M H Y Z x = mk_H 12 cl_z M x := by unfold cl_f; rw [if_neg (by omega), if_neg (by omega), if_neg (by omega), if_neg (by omega), if_neg (by omega), if_pos (by omega)]
theorem cl_a17 {x : Nat} (hx : x = 17) : cl_f f I P M H Y Z x = .inl (1, [.ref 18, .ref 19, .int (jI H.1)]) := by unfold cl_f; rw [if_neg (by omega), if_neg (by omega), if_neg (by omega), if_neg (by omega), if_neg (by omega), if_neg (by omega), if_pos (by omega)]
theorem cl_a18 {x : Nat} (hx : x = 18) : cl_f f I P M H Y Z x = .inr (.object RX0, 4, .inr (.inr H.2.1)) := by unfold cl_f; rw [if_neg (by omega), if_neg (by omega), if_neg (by omega), if_neg (by omega), if_neg (by omega), if_neg (by omega), if_neg (by omega), if_pos (by omega)]
theorem cl_a19 {x : Nat} (hx : x = 19) : cl_f f I P M H Y Z x = .inr (.object RX4, 4, .inr (.inr fun i => some (20 + 5 * H.2.2.1 i))) := by unfold cl_f; rw [if_neg (by omega), if_neg (by omega), if_neg (by omega), if_neg (by omega), if_neg (by omega), if_neg (by omega), if_neg (by omega), if_neg (by omega), if_pos (by omega)]
theorem cl_a20 {x : Nat} (hx : 20 ≤ x ∧ x ≤ 24) : cl_f f I P M H Y Z x = mk_H 20 cl_z (H.2.2.2 0) x := by unfold cl_f; rw [if_neg (by omega), if_neg (by omega), if_neg (by omega), if_neg (by omega), if_neg (by omega), if_neg (by omega), if_neg (by omega), if_neg (by omega), if_neg (by omega), if_pos (by omega)]
theorem cl_a25 {x : Nat} (hx : 25 ≤ x ∧ x ≤ 29) : cl_f f I P M H Y Z x = mk_H 25 cl_z (H.2.2.2 1) x := by unfold cl_f; rw [if_neg (by omega), if_neg (by omega), if_neg (by omega), if_neg (by omega), if_neg (by omega), if_neg (by omega), if_neg (by omega), if_neg (by omega), if_neg (by omega), if_neg (by omega), if_pos (by omega)]
theorem cl_a30 {x : Nat} (hx : 30 ≤ x ∧ x ≤ 34) : cl_f f I P M H Y Z x = mk_H 30 cl_z (H.2.2.2 2) x := by unfold cl_f; rw [if_neg (by omega), if_neg (by omega), if_neg (by omega), if_neg (by omega), if_neg (by omega), if_neg (by omega), if_neg (by omega), if_neg (by omega), if_neg (by omega), if_neg (by omega), if_neg (by omega), if_pos (by omega)]
theorem cl_a35 {x : Nat} (hx : 35 ≤ x ∧ x ≤ 39) : cl_f f I P M H Y Z x = mk_H 35 cl_z (H.2.2.2 3) x := by unfold cl_f; rw [if_neg (by omega), if_neg (by omega), if_neg (by omega), if_neg (by omega), if_neg (by omega), if_neg (by omega), if_neg (by omega), if_neg (by omega), if_neg (by omega), if_neg (by omega), if_neg (by omega), if_neg (by omega), if_pos (by omega)]
theorem cl_a40 {x : Nat} (hx : 40 ≤ x ∧ x ≤ 49) : cl_f f I P M H Y Z x = ly_H 40 cl_z Y x := by unfold cl_f; rw [if_neg (by omega), if_neg (by omega), if_neg (by omega), if_neg (by omega), if_neg (by omega), if_neg (by omega), if_neg (by omega), if_neg (by omega), if_neg (by omega), if_neg (by omega), if_neg (by omega), if_neg (by omega), if_neg (by omega), if_pos (by omega)]
theorem cl_a50 {x : Nat} (hx : 50 ≤ x ∧ x ≤ 59) : cl_f f I P M H Y Z x = ly_H 50 cl_z Z x := by unfold cl_f; rw [if_neg (by omega), if_neg (by omega), if_neg (by omega), if_neg (by omega), if_neg (by omega), if_neg (by omega), if_neg (by omega), if_neg (by omega), if_neg (by omega), if_neg (by omega), if_neg (by omega), if_neg (by omega), if_neg (by omega), if_neg (by omega), if_pos (by omega)]
theorem cl_a60 {x : Nat} (hx : 60 ≤ x) : cl_f f I P M H Y Z x = f x := by unfold cl_f; rw [if_neg (by omega), if_neg (by omega), if_neg (by omega), if_neg (by omega), if_neg (by omega), if_neg (by omega), if_neg (by omega), if_neg (by omega), if_neg (by omega), if_neg (by omega), if_neg (by omega), if_neg (by omega), if_neg (by omega), if_neg (by omega), if_neg (by omega)]
theorem cl_cases (x : Nat) : (x = 0) ∨ (1 ≤ x ∧ x ≤ 3) ∨ (x = 4) ∨ (x = 5) ∨ (6 ≤ x ∧ x ≤ 11) ∨ (12 ≤ x ∧ x ≤ 16) ∨ (x = 17) ∨ (x = 18) ∨ (x = 19) ∨ (20 ≤ x ∧ x ≤ 24) ∨ (25 ≤ x ∧ x ≤ 29) ∨ (30 ≤ x ∧ x ≤ 34) ∨ (35 ≤ x ∧ x ≤ 39) ∨ (40 ≤ x ∧ x ≤ 49) ∨ (50 ≤ x ∧ x ≤ 59) ∨ (60 ≤ x) := by omega
theorem cl_0 : cl_f f I P M H Y Z 0 = .inl (7, cl_c0 P.2.2.1 P.2.2.2.1 P.2.2.2.2.1 P.2.2.2.2.2) := cl_a0 rfl
theorem cl_4 : cl_f f I P M H Y Z 4 = .inr (.object RX6, 10, .inr (.inr P.1)) := cl_a4 rfl
theorem cl_5 : cl_f f I P M H Y Z 5 = .inr (.int, 5, .inl P.2.1) := cl_a5 rfl
theorem cl_17 : cl_f f I P M H Y Z 17 = .inl (1, [.ref 18, .ref 19, .int (jI H.1)]) := cl_a17 rfl
theorem cl_18 : cl_f f I P M H Y Z 18 = .inr (.object RX0, 4, .inr (.inr H.2.1)) := cl_a18 rfl
theorem cl_19 : cl_f f I P M H Y Z 19 = .inr (.object RX4, 4, .inr (.inr fun i => some (20 + 5 * H.2.2.1 i))) := cl_a19 rfl
theorem cl_d {x : Nat} (hx : ji_dy x ∨ 60 ≤ x) : cl_f f I P M H Y Z x = f x := by
  unfold ji_dy at hx
  by_cases h : 60 ≤ x
  · exact cl_a60 h
  · exact cl_a6 (by omega)
theorem cl_xM {x : Nat} {M' : mk_T} (hx : x < 12 ∨ 16 < x) : cl_f f I P M H Y Z x = cl_f f I P M' H Y Z x := by
  rcases cl_cases x with h | h | h | h | h | h | h | h | h | h | h | h | h | h | h | h
  · rw [cl_a0 h, cl_a0 h]
  · rw [cl_a1 h, cl_a1 h]
  · rw [cl_a4 h, cl_a4 h]
  · rw [cl_a5 h, cl_a5 h]
  · rw [cl_a6 h, cl_a6 h]
  · exfalso; omega
  · rw [cl_a17 h, cl_a17 h]
  · rw [cl_a18 h, cl_a18 h]
  · rw [cl_a19 h, cl_a19 h]
  · rw [cl_a20 h, cl_a20 h]
  · rw [cl_a25 h, cl_a25 h]
  · rw [cl_a30 h, cl_a30 h]
  · rw [cl_a35 h, cl_a35 h]
  · rw [cl_a40 h, cl_a40 h]
  · rw [cl_a50 h, cl_a50 h]
  · rw [cl_a60 h, cl_a60 h]
theorem cl_xY {x : Nat} {Y' : ly_T} (hx : x < 40 ∨ 49 < x) : cl_f f I P M H Y Z x = cl_f f I P M H Y' Z x := by
  rcases cl_cases x with h | h | h | h | h | h | h | h | h | h | h | h | h | h | h | h
  · rw [cl_a0 h, cl_a0 h]
  · rw [cl_a1 h, cl_a1 h]
  · rw [cl_a4 h, cl_a4 h]
  · rw [cl_a5 h, cl_a5 h]
  · rw [cl_a6 h, cl_a6 h]
  · rw [cl_a12 h, cl_a12 h]
  · rw [cl_a17 h, cl_a17 h]
  · rw [cl_a18 h, cl_a18 h]
  · rw [cl_a19 h, cl_a19 h]
  · rw [cl_a20 h, cl_a20 h]
  · rw [cl_a25 h, cl_a25 h]
  · rw [cl_a30 h, cl_a30 h]
  · rw [cl_a35 h, cl_a35 h]
  · exfalso; omega
  · rw [cl_a50 h, cl_a50 h]
  · rw [cl_a60 h, cl_a60 h]
theorem cl_xZ {x : Nat} {Z' : ly_T} (hx : x < 50 ∨ 59 < x) : cl_f f I P M H Y Z x = cl_f f I P M H Y Z' x := by
  rcases cl_cases x with h | h | h | h | h | h | h | h | h | h | h | h | h | h | h | h
  · rw [cl_a0 h, cl_a0 h]
  · rw [cl_a1 h, cl_a1 h]
  · rw [cl_a4 h, cl_a4 h]
  · rw [cl_a5 h, cl_a5 h]
  · rw [cl_a6 h, cl_a6 h]
  · rw [cl_a12 h, cl_a12 h]
  · rw [cl_a17 h, cl_a17 h]
  · rw [cl_a18 h, cl_a18 h]
  · rw [cl_a19 h, cl_a19 h]
  · rw [cl_a20 h, cl_a20 h]
  · rw [cl_a25 h, cl_a25 h]
  · rw [cl_a30 h, cl_a30 h]
  · rw [cl_a35 h, cl_a35 h]
  · rw [cl_a40 h, cl_a40 h]
  · exfalso; omega
  · rw [cl_a60 h, cl_a60 h]
theorem cl_xI {x : Nat} {I' : in_T} (hx : x < 1 ∨ 3 < x) : cl_f f I P M H Y Z x = cl_f f I' P M H Y Z x := by
  rcases cl_cases x with h | h | h | h | h | h | h | h | h | h | h | h | h | h | h | h
  · rw [cl_a0 h, cl_a0 h]
  · exfalso; omega
  · rw [cl_a4 h, cl_a4 h]
  · rw [cl_a5 h, cl_a5 h]
  · rw [cl_a6 h, cl_a6 h]
  · rw [cl_a12 h, cl_a12 h]
  · rw [cl_a17 h, cl_a17 h]
  · rw [cl_a18 h, cl_a18 h]
  · rw [cl_a19 h, cl_a19 h]
  · rw [cl_a20 h, cl_a20 h]
  · rw [cl_a25 h, cl_a25 h]
  · rw [cl_a30 h, cl_a30 h]
  · rw [cl_a35 h, cl_a35 h]
  · rw [cl_a40 h, cl_a40 h]
  · rw [cl_a50 h, cl_a50 h]
  · rw [cl_a60 h, cl_a60 h]
theorem cl_x0 {x : Nat} {w h st : Int} {bk : Nat} (hx : ¬ x = 0) : cl_f f I P M H Y Z x = cl_f f I (P.1, P.2.1, w, h, bk, st) M H Y Z x := by
  rcases cl_cases x with h | h | h | h | h | h | h | h | h | h | h | h | h | h | h | h
  · exfalso; omega
  · rw [cl_a1 h, cl_a1 h]
  · rw [cl_a4 h, cl_a4 h]
  · rw [cl_a5 h, cl_a5 h]
  · rw [cl_a6 h, cl_a6 h]
  · rw [cl_a12 h, cl_a12 h]
  · rw [cl_a17 h, cl_a17 h]
  · rw [cl_a18 h, cl_a18 h]
  · rw [cl_a19 h, cl_a19 h]
  · rw [cl_a20 h, cl_a20 h]
  · rw [cl_a25 h, cl_a25 h]
  · rw [cl_a30 h, cl_a30 h]
  · rw [cl_a35 h, cl_a35 h]
  · rw [cl_a40 h, cl_a40 h]
  · rw [cl_a50 h, cl_a50 h]
  · rw [cl_a60 h, cl_a60 h]
theorem cl_x4 {x : Nat} {nf : Nat → Option Nat} (hx : ¬ x = 4) : cl_f f I P M H Y Z x = cl_f f I (nf, P.2) M H Y Z x := by
  rcases cl_cases x with h | h | h | h | h | h | h | h | h | h | h | h | h | h | h | h
  · rw [cl_a0 h, cl_a0 h]
  · rw [cl_a1 h, cl_a1 h]
  · exfalso; omega
  · rw [cl_a5 h, cl_a5 h]
  · rw [cl_a6 h, cl_a6 h]
  · rw [cl_a12 h, cl_a12 h]
  · rw [cl_a17 h, cl_a17 h]
  · rw [cl_a18 h, cl_a18 h]
  · rw [cl_a19 h, cl_a19 h]
  · rw [cl_a20 h, cl_a20 h]
  · rw [cl_a25 h, cl_a25 h]
  · rw [cl_a30 h, cl_a30 h]
  · rw [cl_a35 h, cl_a35 h]
  · rw [cl_a40 h, cl_a40 h]
  · rw [cl_a50 h, cl_a50 h]
  · rw [cl_a60 h, cl_a60 h]
theorem cl_x5 {x : Nat} {sty : Nat → Int} (hx : ¬ x = 5) : cl_f f I P M H Y Z x = cl_f f I (P.1, sty, P.2.2) M H Y Z x := by
  rcases cl_cases x with h | h | h | h | h | h | h | h | h | h | h | h | h | h | h | h
  · rw [cl_a0 h, cl_a0 h]
  · rw [cl_a1 h, cl_a1 h]
  · rw [cl_a4 h, cl_a4 h]
  · exfalso; omega
  · rw [cl_a6 h, cl_a6 h]
  · rw [cl_a12 h, cl_a12 h]
  · rw [cl_a17 h, cl_a17 h]
  · rw [cl_a18 h, cl_a18 h]
  · rw [cl_a19 h, cl_a19 h]
  · rw [cl_a20 h, cl_a20 h]
  · rw [cl_a25 h, cl_a25 h]
  · rw [cl_a30 h, cl_a30 h]
  · rw [cl_a35 h, cl_a35 h]
  · rw [cl_a40 h, cl_a40 h]
  · rw [cl_a50 h, cl_a50 h]
  · rw [cl_a60 h, cl_a60 h]
theorem cl_xh {x : Nat} {e : Int} {bf : Nat → Option Nat} {pi : Nat → Nat} (hx : x < 17 ∨ 19 < x) : cl_f f I P M H Y Z x = cl_f f I P M (e, bf, pi, H.2.2.2) Y Z x := by
  rcases cl_cases x with h | h | h | h | h | h | h | h | h | h | h | h | h | h | h | h
  · rw [cl_a0 h, cl_a0 h]
  · rw [cl_a1 h, cl_a1 h]
  · rw [cl_a4 h, cl_a4 h]
  · rw [cl_a5 h, cl_a5 h]
  · rw [cl_a6 h, cl_a6 h]
  · rw [cl_a12 h, cl_a12 h]
  · exfalso; omega
  · exfalso; omega
  · exfalso; omega
  · rw [cl_a20 h, cl_a20 h]
  · rw [cl_a25 h, cl_a25 h]
  · rw [cl_a30 h, cl_a30 h]
  · rw [cl_a35 h, cl_a35 h]
  · rw [cl_a40 h, cl_a40 h]
  · rw [cl_a50 h, cl_a50 h]
  · rw [cl_a60 h, cl_a60 h]
theorem cl_xf {x : Nat} {g : Nat → ji_C} (hx : ¬ ji_dy x ∧ x < 60) : cl_f f I P M H Y Z x = cl_f g I P M H Y Z x := by
  unfold ji_dy at hx
  rcases cl_cases x with h | h | h | h | h | h | h | h | h | h | h | h | h | h | h | h
  · rw [cl_a0 h, cl_a0 h]
  · rw [cl_a1 h, cl_a1 h]
  · rw [cl_a4 h, cl_a4 h]
  · rw [cl_a5 h, cl_a5 h]
  · exfalso; omega
  · rw [cl_a12 h, cl_a12 h]
  · rw [cl_a17 h, cl_a17 h]
  · rw [cl_a18 h, cl_a18 h]
  · rw [cl_a19 h, cl_a19 h]
  · rw [cl_a20 h, cl_a20 h]
  · rw [cl_a25 h, cl_a25 h]
  · rw [cl_a30 h, cl_a30 h]
  · rw [cl_a35 h, cl_a35 h]
  · rw [cl_a40 h, cl_a40 h]
  · rw [cl_a50 h, cl_a50 h]
  · exfalso; omega
theorem cl_xs0 {x : Nat} {M' : mk_T} (hx : x < 20 ∨ 24 < x) : cl_f f I P M H Y Z x = cl_f f I P M (H.1, H.2.1, H.2.2.1, va_up H.2.2.2 0 M') Y Z x := by
  rcases cl_cases x with h | h | h | h | h | h | h | h | h | h | h | h | h | h | h | h
  · rw [cl_a0 h, cl_a0 h]
  · rw [cl_a1 h, cl_a1 h]
  · rw [cl_a4 h, cl_a4 h]
  · rw [cl_a5 h, cl_a5 h]
  · rw [cl_a6 h, cl_a6 h]
  · rw [cl_a12 h, cl_a12 h]
  · rw [cl_a17 h, cl_a17 h]
  · rw [cl_a18 h, cl_a18 h]
  · rw [cl_a19 h, cl_a19 h]
  · exfalso; omega
  · rw [cl_a25 h, cl_a25 h]; dsimp only; rw [va_up_ne _ _ (by decide)]
  · rw [cl_a30 h, cl_a30 h]; dsimp only; rw [va_up_ne _ _ (by decide)]
  · rw [cl_a35 h, cl_a35 h]; dsimp only; rw [va_up_ne _ _ (by decide)]
  · rw [cl_a40 h, cl_a40 h]
  · rw [cl_a50 h, cl_a50 h]
  · rw [cl_a60 h, cl_a60 h]
theorem cl_xs1 {x : Nat} {M' : mk_T} (hx : x < 25 ∨ 29 < x) : cl_f f I P M H Y Z x = cl_f f I P M (H.1, H.2.1, H.2.2.1, va_up H.2.2.2 1 M') Y Z x := by
  rcases cl_cases x with h | h | h | h | h | h | h | h | h | h | h | h | h | h | h | h
  · rw [cl_a0 h, cl_a0 h]
  · rw [cl_a1 h, cl_a1 h]
  · rw [cl_a4 h, cl_a4 h]
  · rw [cl_a5 h, cl_a5 h]
  · rw [cl_a6 h, cl_a6 h]
  · rw [cl_a12 h, cl_a12 h]
  · rw [cl_a17 h, cl_a17 h]
  · rw [cl_a18 h, cl_a18 h]
  · rw [cl_a19 h, cl_a19 h]
  · rw [cl_a20 h, cl_a20 h]; dsimp only; rw [va_up_ne _ _ (by decide)]
  · exfalso; omega
  · rw [cl_a30 h, cl_a30 h]; dsimp only; rw [va_up_ne _ _ (by decide)]
  · rw [cl_a35 h, cl_a35 h]; dsimp only; rw [va_up_ne _ _ (by decide)]
  · rw [cl_a40 h, cl_a40 h]
  · rw [cl_a50 h, cl_a50 h]
  · rw [cl_a60 h, cl_a60 h]
theorem cl_xs2 {x : Nat} {M' : mk_T} (hx : x < 30 ∨ 34 < x) : cl_f f I P M H Y Z x = cl_f f I P M (H.1, H.2.1, H.2.2.1, va_up H.2.2.2 2 M') Y Z x := by
  rcases cl_cases x with h | h | h | h | h | h | h | h | h | h | h | h | h | h | h | h
  · rw [cl_a0 h, cl_a0 h]
  · rw [cl_a1 h, cl_a1 h]
  · rw [cl_a4 h, cl_a4 h]
  · rw [cl_a5 h, cl_a5 h]
  · rw [cl_a6 h, cl_a6 h]
  · rw [cl_a12 h, cl_a12 h]
  · rw [cl_a17 h, cl_a17 h]
  · rw [cl_a18 h, cl_a18 h]
  · rw [cl_a19 h, cl_a19 h]
  · rw [cl_a20 h, cl_a20 h]; dsimp only; rw [va_up_ne _ _ (by decide)]
  · rw [cl_a25 h, cl_a25 h]; dsimp only; rw [va_up_ne _ _ (by decide)]
  · exfalso; omega
  · rw [cl_a35 h, cl_a35 h]; dsimp only; rw [va_up_ne _ _ (by decide)]
  · rw [cl_a40 h, cl_a40 h]
  · rw [cl_a50 h, cl_a50 h]
  · rw [cl_a60 h, cl_a60 h]
theorem cl_xs3 {x : Nat} {M' : mk_T} (hx : x < 35 ∨ 39 < x) : cl_f f I P M H Y Z x = cl_f f I P M (H.1, H.2.1, H.2.2.1, va_up H.2.2.2 3 M') Y Z x := by
  rcases cl_cases x with h | h | h | h | h | h | h | h | h | h | h | h | h | h | h | h
  · rw [cl_a0 h, cl_a0 h]
  · rw [cl_a1 h, cl_a1 h]
  · rw [cl_a4 h, cl_a4 h]
  · rw [cl_a5 h, cl_a5 h]
  · rw [cl_a6 h, cl_a6 h]
  · rw [cl_a12 h, cl_a12 h]
  · rw [cl_a17 h, cl_a17 h]
  · rw [cl_a18 h, cl_a18 h]
  · rw [cl_a19 h, cl_a19 h]
  · rw [cl_a20 h, cl_a20 h]; dsimp only; rw [va_up_ne _ _ (by decide)]
  · rw [cl_a25 h, cl_a25 h]; dsimp only; rw [va_up_ne _ _ (by decide)]
  · rw [cl_a30 h, cl_a30 h]; dsimp only; rw [va_up_ne _ _ (by decide)]
  · exfalso; omega
  · rw [cl_a40 h, cl_a40 h]
  · rw [cl_a50 h, cl_a50 h]
  · rw [cl_a60 h, cl_a60 h]
theorem cl_mk {M' : mk_T} : mk_H 12 (cl_f f I P M H Y Z) M' = cl_f f I P M' H Y Z := by
  funext x
  by_cases hx : 12 ≤ x ∧ x ≤ 16
  · rw [cl_a12 hx]; exact mk_in (by omega)
  · exact (mk_o (by omega)).trans (cl_xM (by omega))
theorem cl_ly {Y' : ly_T} : ly_H 40 (cl_f f I P M H Y Z) Y' = cl_f f I P M H Y' Z := by
  funext x
  by_cases hx : 40 ≤ x ∧ x ≤ 49
  · rw [cl_a40 hx]; exact ly_in (by omega)
  · exact (ly_out (by omega)).trans (cl_xY (by omega))
theorem cl_tr {Z' : ly_T} : ly_H 50 (cl_f f I P M H Y Z) Z' = cl_f f I P M H Y Z' := by
  funext x
  by_cases hx : 50 ≤ x ∧ x ≤ 59
  · rw [cl_a50 hx]; exact ly_in (by omega)
  · exact (ly_out (by omega)).trans (cl_xZ (by omega))
theorem cl_in {I' : in_T} : in_H n (cl_f f I P M H Y Z) I' = (n, cl_f f I' P M H Y Z) := by
  refine Prod.ext rfl (funext fun x => ?_)
  show (in_H n (cl_f f I P M H Y Z) I').2 x = cl_f f I' P M H Y Z x
  by_cases hx : 1 ≤ x ∧ x ≤ 3
  · rw [cl_a1 hx]; exact in_in hx
  · exact (in_out (by omega)).trans (cl_xI (by omega))
theorem cl_smx {j x : Nat} (hj : j < 4) (hx : 20 + 5 * j ≤ x ∧ x ≤ 20 + 5 * j + 4) : cl_f f I P M H Y Z x = mk_H (20 + 5 * j) cl_z (H.2.2.2 j) x := by
  rcases (show j = 0 ∨ j = 1 ∨ j = 2 ∨ j = 3 by omega) with rfl | rfl | rfl | rfl
  · exact cl_a20 (by omega)
  · exact cl_a25 (by omega)
  · exact cl_a30 (by omega)
  · exact cl_a35 (by omega)
theorem cl_sm {j : Nat} (hj : j < 4) {M' : mk_T} : mk_H (20 + 5 * j) (cl_f f I P M H Y Z) M' = cl_f f I P M (H.1, H.2.1, H.2.2.1, va_up H.2.2.2 j M') Y Z := by
  funext x
  by_cases hx : 20 + 5 * j ≤ x ∧ x ≤ 20 + 5 * j + 4
  · rw [mk_in (g := cl_z) hx, cl_smx hj hx]
    show mk_H (20 + 5 * j) cl_z M' x = mk_H (20 + 5 * j) cl_z (va_up H.2.2.2 j M' j) x
    rw [va_up_self]
  · refine (mk_o (by omega)).trans ?_
    rcases (show j = 0 ∨ j = 1 ∨ j = 2 ∨ j = 3 by omega) with rfl | rfl | rfl | rfl
    · exact cl_xs0 (by omega)
    · exact cl_xs1 (by omega)
    · exact cl_xs2 (by omega)
    · exact cl_xs3 (by omega)
theorem cl_hi {e : Int} {bf : Nat → Option Nat} {pi : Nat → Nat} : hi_h n (cl_f f I P M H Y Z) e bf (fun i => some (20 + 5 * pi i)) = (n, cl_f f I P M (e, bf, pi, H.2.2.2) Y Z) := by
  refine Prod.ext rfl (funext fun x => ?_)
  show (hi_h n (cl_f f I P M H Y Z) e bf (fun i => some (20 + 5 * pi i))).2 x = cl_f f I P M (e, bf, pi, H.2.2.2) Y Z x
  by_cases hx : x < 17 ∨ 19 < x
  · rw [hi_o hx]; exact cl_xh hx
  · rcases (show x = 17 ∨ x = 18 ∨ x = 19 by omega) with rfl | rfl | rfl
    · exact hi_0
    · exact hi_1
    · exact hi_2
theorem cl_p {w h : Int} {bk : Nat} {st : Int} : va_up (cl_f f I P M H Y Z) 0 (.inl (7, cl_c0 w h bk st)) = cl_f f I (P.1, P.2.1, w, h, bk, st) M H Y Z := by
  funext x
  by_cases hx : x = 0
  · subst hx; rw [va_up_self, cl_0]
  · rw [va_up_ne _ _ hx]; exact cl_x0 hx
theorem cl_nt {nf : Nat → Option Nat} : va_up (cl_f f I P M H Y Z) 4 (.inr (.object RX6, 10, .inr (.inr nf))) = cl_f f I (nf, P.2) M H Y Z := by
  funext x
  by_cases hx : x = 4
  · subst hx; rw [va_up_self, cl_4]
  · rw [va_up_ne _ _ hx]; exact cl_x4 hx
theorem cl_st {sty : Nat → Int} : va_up (cl_f f I P M H Y Z) 5 (.inr (.int, 5, .inl sty)) = cl_f f I (P.1, sty, P.2.2) M H Y Z := by
  funext x
  by_cases hx : x = 5
  · subst hx; rw [va_up_self, cl_5]
  · rw [va_up_ne _ _ hx]; exact cl_x5 hx
theorem cl_ext {h' : ji_H} {k : Nat} (h72 : 72 ≤ n) (hx : ji_ext (n, cl_f f I P M H Y Z) h' k) : h' = (n + k, cl_f h'.2 I P M H Y Z) := by
  refine Prod.ext hx.1 (funext fun x => ?_)
  show h'.2 x = cl_f h'.2 I P M H Y Z x
  by_cases hd : ji_dy x ∨ 60 ≤ x
  · exact (cl_d hd).symm
  · have hd2 : ¬ ji_dy x ∧ x < 60 := ⟨fun q => hd (Or.inl q), by omega⟩
    rw [hx.2 x (by show x < n; omega)]
    exact cl_xf hd2
theorem cl_keep {I' : in_T} {P' : pg_T} {M' : mk_T} {H' : hi_T} {Y' Z' : ly_T} : ji_keep (n, cl_f f I P M H Y Z) (n, cl_f f I' P' M' H' Y' Z') := ⟨Nat.le_refl _, fun a ha _ => by show cl_f f I' P' M' H' Y' Z' a = cl_f f I P M H Y Z a; rw [cl_d (Or.inl ha), cl_d (Or.inl ha)]⟩
theorem cl_kf : ji_keep (n, f) (n, cl_f f I P M H Y Z) := ⟨Nat.le_refl _, fun a ha _ => by show cl_f f I P M H Y Z a = f a; rw [cl_d (Or.inl ha)]⟩
theorem cl_fk : ji_keep (n, cl_f f I P M H Y Z) (n, f) := ⟨Nat.le_refl _, fun a ha _ => by show f a = cl_f f I P M H Y Z a; rw [cl_d (Or.inl ha)]⟩
-- contracts of parts, seen from the whole
theorem cl_jM {mm : ji_M} {as : List Value} {v : Option Value} (M' : mk_T) (k : JR G d mm as (n, mk_H 12 (cl_f f I P M H Y Z) M) 0 0 v (n, mk_H 12 (cl_f f I P M H Y Z) M')) : JR G d mm as (n, cl_f f I P M H Y Z) 0 0 v (n, cl_f f I P M' H Y Z) := by rw [cl_mk, cl_mk] at k; exact k
theorem cl_jY {mm : ji_M} {as : List Value} {v : Option Value} (Y' : ly_T) (k : JR G d mm as (n, ly_H 40 (cl_f f I P M H Y Z) Y) 0 0 v (n, ly_H 40 (cl_f f I P M H Y Z) Y')) : JR G d mm as (n, cl_f f I P M H Y Z) 0 0 v (n, cl_f f I P M H Y' Z) := by rw [cl_ly, cl_ly] at k; exact k
theorem cl_jZ {mm : ji_M} {as : List Value} {v : Option Value} (Z' : ly_T) (k : JR G d mm as (n, ly_H 50 (cl_f f I P M H Y Z) Z) 0 0 v (n, ly_H 50 (cl_f f I P M H Y Z) Z')) : JR G d mm as (n, cl_f f I P M H Y Z) 0 0 v (n, cl_f f I P M H Y Z') := by rw [cl_tr, cl_tr] at k; exact k
theorem cl_jI {mm : ji_M} {as : List Value} {v : Option Value} (I' : in_T) (k : JR G d mm as (in_H n (cl_f f I P M H Y Z) I) 0 0 v (in_H n (cl_f f I P M H Y Z) I')) : JR G d mm as (n, cl_f f I P M H Y Z) 0 0 v (n, cl_f f I' P M H Y Z) := by rw [cl_in, cl_in] at k; exact k
theorem cl_jH {mm : ji_M} {as : List Value} {v : Option Value} (e : Int) (bf : Nat → Option Nat) (pi : Nat → Nat) (k : JR G d mm as (hi_h n (cl_f f I P M H Y Z) H.1 H.2.1 (fun i => some (20 + 5 * H.2.2.1 i))) 0 0 v (hi_h n (cl_f f I P M H Y Z) e bf (fun i => some (20 + 5 * pi i)))) : JR G d mm as (n, cl_f f I P M H Y Z) 0 0 v (n, cl_f f I P M (e, bf, pi, H.2.2.2) Y Z) := by rw [cl_hi, cl_hi] at k; exact k
theorem cl_jS {mm : ji_M} {as : List Value} {v : Option Value} {j : Nat} (hj : j < 4) (M' : mk_T) (k : JR G d mm as (n, mk_H (20 + 5 * j) (cl_f f I P M H Y Z) (H.2.2.2 j)) 0 0 v (n, mk_H (20 + 5 * j) (cl_f f I P M H Y Z) M')) : JR G d mm as (n, cl_f f I P M H Y Z) 0 0 v (n, cl_f f I P M (H.1, H.2.1, H.2.2.1, va_up H.2.2.2 j M') Y Z) := by
  rw [cl_sm hj, cl_sm hj] at k
  have e : va_up H.2.2.2 j (H.2.2.2 j) = H.2.2.2 := by
    funext i
    by_cases q : i = j
    · rw [q, va_up_self]
    · rw [va_up_ne _ _ q]
  rw [e] at k; exact k
end CL
