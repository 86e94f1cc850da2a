/-! ===== BookPager: what holds of the object ===== -/
def JX (G : ji_G) (d : Nat) (M : ji_M) (as : List Value) (h : ji_H) (bc bs : Nat) (E : String) (h2 : ji_H) : Prop := JM G d M as h bc bs (fun r h' => r = .inr E ∧ h' = h2)
def eA : String := "java/lang/IllegalArgumentException"
def eS : String := "java/lang/IllegalStateException"
def eI : String := "java/lang/IndexOutOfBoundsException"
section JiX
variable {G : ji_G} {d : Nat} {M M2 : ji_M} {pc : Nat} {L : List (Option Value)} {st : List Value} {h h2 : ji_H} {bc bs bc2 bs2 : Nat} {Q : ji_R → ji_H → Prop}
theorem ji_cVx {idx q ci N n : Nat} {C E : String} {T : u_T} {as fs : List Value} {st0 : List Value} (hd : decode M.2.1 pc = .ok (.invokevirtual idx, 3)) (hM : JX G d M2 (.ref q :: as) h bc2 bs2 E h2) (hs0 : st0 = as.reverse ++ .ref q :: st) (hq : h.2 q = .inl (ci, fs)) (hc : ji_cl[ci]? = some (C, T, N)) (hC : M2.1.cls = C) (hm : ji_mw M2 n) (hv : ji_mv M2) (hl : ji_in (.methodLink M.1.cls idx M2.1)) (hn : as.length = n) (hcat : (st.map fun v => v.category).sum ≤ 8) (htab : M.2.2.2.2 = []) (hbc : bc2 ≤ bc) (hbs : bs2 ≤ bs) : JW G (d + 1) M pc L st0 h bc bs (fun r h' => r = .inr E ∧ h' = h2) :=
  ji_callV hd hM hs0 hq hc hC hm hv hl hn hcat htab hbc hbs (fun r h' hq => by cases hq.1) (fun E h' hq => hq)
theorem ji_cSx {idx n : Nat} {E : String} {as : List Value} {st0 : List Value} (hd : decode M.2.1 pc = .ok (.invokestatic idx, 3)) (hM : JX G d M2 as h bc2 bs2 E h2) (hs0 : st0 = as.reverse ++ st) (hm : ji_mw M2 n) (hv : ji_in (.static M2.1)) (hl : ji_in (.methodLink M.1.cls idx M2.1)) (hn : as.length = n) (hcat : (st.map fun v => v.category).sum ≤ 8) (htab : M.2.2.2.2 = []) (hbc : bc2 ≤ bc) (hbs : bs2 ≤ bs) : JW G (d + 1) M pc L st0 h bc bs (fun r h' => r = .inr E ∧ h' = h2) :=
  ji_callS hd hM hs0 hm hv hl hn hcat htab hbc hbs (fun r h' hq => by cases hq.1) (fun E h' hq => hq)
theorem ji_cSv {idx n : Nat} {as : List Value} {st0 : List Value} (hd : decode M.2.1 pc = .ok (.invokestatic idx, 3)) (hM : JR G d M2 as h 0 0 none h2) (hs0 : st0 = as.reverse ++ st) (hm : ji_mw M2 n) (hv : ji_in (.static M2.1)) (hl : ji_in (.methodLink M.1.cls idx M2.1)) (hn : as.length = n) (hcat : (st.map fun v => v.category).sum ≤ 8) (htab : M.2.2.2.2 = [])
    (kk : JW G (d + 1) M (pc + 3) L st h2 bc bs Q) : JW G (d + 1) M pc L st0 h bc bs Q :=
  ji_callS hd hM hs0 hm hv hl hn hcat htab (Nat.zero_le _) (Nat.zero_le _) (fun r h' hq => by obtain ⟨h1, rfl⟩ := hq; cases h1; exact kk) (fun E h' hq => by obtain ⟨h1, _⟩ := hq; cases h1)
end JiX
def mk_ok (b : Int) (M : mk_T) : Prop := (-b ≤ M.1 ∧ M.1 ≤ b) ∧ (0 ≤ M.2.1 ∧ M.2.1 ≤ 5) ∧ (0 ≤ M.2.2.1 ∧ M.2.2.1 ≤ 12) ∧ (∀ i, -b ≤ M.2.2.2.1 i ∧ M.2.2.2.1 i ≤ b) ∧ (∀ i, -b ≤ M.2.2.2.2.1 i ∧ M.2.2.2.2.1 i ≤ b) ∧ ∀ i, -b ≤ M.2.2.2.2.2.1 i ∧ M.2.2.2.2.2.1 i ≤ b
def bk_ne (B : bk_T) : Prop := ∀ w sty NT A, 1 ≤ ly_ln B w sty NT A
def nt_ok (n : Nat) (f : Nat → ji_C) (nf : Nat → Option Nat) (NT : nt_T) : Prop := ∀ k, k < 10 → (nf k = none ∧ NT k = none) ∨ ∃ a m nn tx s, nf k = some a ∧ NT k = some (m, nn, tx, s) ∧ wd_at (n, f) a m nn tx s ∧ wd_ok m nn tx s
def ly_Y (bk : Nat) (B : bk_T) (w h : Int) (sty : Nat → Int) (NT : nt_T) (A : Nat → Nat → Int) : ly_T := (bk, w, h, ly_ln B w sty NT A, ly_pg B w h sty NT A, ly_A4 B w h sty NT A)
def hi_ok (n : Nat) (f : Nat → ji_C) (H : hi_T) (SB : Nat → bk_T) : Prop := (0 ≤ H.1 ∧ H.1 ≤ 4) ∧ (∀ i, i < 4 → H.2.2.1 i < 4) ∧ (∀ i j, i < 4 → j < 4 → H.2.2.1 i = H.2.2.1 j → i = j) ∧ (∀ i : Nat, (i : Int) < H.1 → ∃ b, H.2.1 i = some b ∧ bk_at (n, f) b (SB i) ∧ bk_ok (SB i) ∧ bk_ne (SB i))
/-- the object stands, its contents told -/
def cl_ok (n : Nat) (f : Nat → ji_C) (I : in_T) (P : pg_T) (M : mk_T) (H : hi_T) (Y Z : ly_T) (B : bk_T) (NT : nt_T) (SB : Nat → bk_T) : Prop :=
  72 ≤ n ∧ in_ok I.1 I.2.1 ∧ (nt_ok n f P.1 NT ∧ nt_few NT) ∧ (∀ k, 0 ≤ P.2.1 k ∧ P.2.1 k ≤ 4) ∧ ((18 ≤ P.2.2.1 ∧ P.2.2.1 ≤ 60) ∧ 2 ≤ P.2.2.2.1 ∧ P.2.2.2.1 ≤ 20) ∧ (bk_at (n, f) P.2.2.2.2.1 B ∧ bk_ok B ∧ bk_ne B) ∧ (P.2.2.2.2.2 = 0 ∨ P.2.2.2.2.2 = 1) ∧ mk_ok 900000 M ∧ hi_ok n f H SB ∧ (ly_iv Y.2.2.2.2.2 ∧ 0 ≤ Y.2.2.2.1 ∧ Y.2.2.2.1 ≤ 240) ∧ (ly_iv Z.2.2.2.2.2 ∧ 0 ≤ Z.2.2.2.1 ∧ Z.2.2.2.1 ≤ 240) ∧ (P.2.2.2.2.2 = 0 → ∃ A, ly_iv A ∧ Y = ly_Y P.2.2.2.2.1 B P.2.2.1 P.2.2.2.1 P.2.1 NT A)
def cl_RP (P : pg_T) : pg_T := (P.1, P.2.1, P.2.2.1, P.2.2.2.1, P.2.2.2.2.1, 0)
/-- the layout after refresh -/
def cl_RY (P : pg_T) (Y : ly_T) (B : bk_T) (NT : nt_T) : ly_T := if P.2.2.2.2.2 = 0 then Y else ly_Y P.2.2.2.2.1 B P.2.2.1 P.2.2.2.1 P.2.1 NT Y.2.2.2.2.2
/-- a fresh layout -/
def cl_fr (P : pg_T) (Y : ly_T) (B : bk_T) (NT : nt_T) : Prop := ∃ A, ly_iv A ∧ Y = ly_Y P.2.2.2.2.1 B P.2.2.1 P.2.2.2.1 P.2.1 NT A
theorem ly_pg_b {B : bk_T} {w h : Int} {sty : Nat → Int} {NT : nt_T} {A : Nat → Nat → Int} (hk : bk_ok B) (hs : ∀ k, 0 ≤ sty k ∧ sty k ≤ 4) (hf : nt_few NT) (hA : ly_iv A) : 0 ≤ ly_pg B w h sty NT A ∧ ly_pg B w h sty NT A ≤ ly_ln B w sty NT A :=
  (ly_Pg_b (ly_iv_R hk hs hf hA).2 (ly_iv_AM hs (ly_iv_AL hk (ly_iv_R hk hs hf hA).1))).1
section PG
variable {G : ji_G} {d n : Nat} {f : Nat → ji_C} {I : in_T} {P : pg_T} {M : mk_T} {H : hi_T} {Y Z : ly_T} {B : bk_T} {NT : nt_T} {SB : Nat → bk_T}
theorem cl_fr_ok (hok : cl_ok n f I P M H Y Z B NT SB) : cl_fr (cl_RP P) (cl_RY P Y B NT) B NT ∧ cl_ok n f I (cl_RP P) M H (cl_RY P Y B NT) Z B NT SB := by
  obtain ⟨c1, c2, c3, c4, c5, c6, c7, c8, c9, c10, c11, c12⟩ := hok
  have hfr : cl_fr (cl_RP P) (cl_RY P Y B NT) B NT := by
    unfold cl_fr cl_RY
    by_cases q : P.2.2.2.2.2 = 0
    · rw [if_pos q]; exact c12 q
    · rw [if_neg q]; exact ⟨_, c10.1, rfl⟩
  refine ⟨hfr, c1, c2, c3, c4, c5, c6, Or.inl rfl, c8, c9, ?_, c11, fun _ => hfr⟩
  obtain ⟨A, hA, e⟩ := hfr
  rw [e]
  exact ⟨ly_iv_A4 c6.2.1 c4 c3.2 hA, (ly_iv_R c6.2.1 c4 c3.2 hA).2⟩
theorem cl_fr_b (hok : cl_ok n f I P M H Y Z B NT SB) (hfr : cl_fr P Y B NT) : (1 ≤ Y.2.2.2.1 ∧ Y.2.2.2.1 ≤ 240) ∧ (0 ≤ Y.2.2.2.2.1 ∧ Y.2.2.2.2.1 ≤ Y.2.2.2.1) ∧ Y.1 = P.2.2.2.2.1 ∧ Y.2.1 = P.2.2.1 ∧ Y.2.2.1 = P.2.2.2.1 := by
  obtain ⟨c1, c2, c3, c4, c5, c6, c7, c8, c9, c10, c11, c12⟩ := hok
  obtain ⟨A, hA, e⟩ := hfr
  rw [e]
  exact ⟨⟨c6.2.2 _ _ _ _, (ly_iv_R c6.2.1 c4 c3.2 hA).2.2⟩, ly_pg_b c6.2.1 c4 c3.2 hA, rfl, rfl, rfl⟩
theorem cl_cx (hok : cl_ok n f I P M H Y Z B NT SB) {I' : in_T} {P' : pg_T} {M' : mk_T} {H' : hi_T} {Y' Z' : ly_T} {b : Nat} (hb : 12 ≤ b ∧ b + 9 < 72) (hs : P'.2.1 = P.2.1) : ly_cx n (cl_f f I' P' M' H' Y' Z') b P.2.2.2.2.1 B P.2.1 := ⟨hb, by rw [← hs]; exact cl_5, hok.2.2.2.2.2.1.1.kept cl_kf, hok.2.2.2.2.2.1.2.1, hok.2.2.2.1⟩
theorem cl_nat (hok : cl_ok n f I P M H Y Z B NT SB) {I' : in_T} {M' : mk_T} {H' : hi_T} {Y' Z' : ly_T} {st : Int} {w h : Int} : nt_at n (cl_f f I' (P.1, P.2.1, w, h, P.2.2.2.2.1, st) M' H' Y' Z') P.1 NT := ⟨cl_4, fun k hk => by
  rcases hok.2.2.1.1 k hk with q | ⟨a, m, nn, tx, s, q1, q2, q3, q4⟩
  · exact Or.inl q
  · exact Or.inr ⟨a, m, nn, tx, s, q1, q2, q3.kept cl_kf, q4⟩⟩
theorem cl_1 : cl_f f I P M H Y Z 1 = .inl (2, [.ref 2, .ref 3, .int (jI I.1)]) := (cl_a1 (by decide)).trans rfl
theorem cl_12 : cl_f f I P M H Y Z 12 = .inl (4, [.int (jI M.1), .int (jI M.2.1), .ref 13, .int (jI M.2.2.1), .ref 14, .ref 15, .ref 16]) := (cl_a12 (by decide)).trans mk_0
theorem cl_40 : cl_f f I P M H Y Z 40 = .inl (3, [.ref 4, .ref 5, .ref Y.1, .int (jI Y.2.1), .int (jI Y.2.2.1), .ref 41, .int (jI Y.2.2.2.1), .ref 42, .ref 43, .ref 44, .ref 45, .ref 46, .ref 47, .ref 48, .int (jI Y.2.2.2.2.1), .ref 49]) := (cl_a40 (by decide)).trans ly_0
theorem cl_50 : cl_f f I P M H Y Z 50 = .inl (3, [.ref 4, .ref 5, .ref Z.1, .int (jI Z.2.1), .int (jI Z.2.2.1), .ref 51, .int (jI Z.2.2.2.1), .ref 52, .ref 53, .ref 54, .ref 55, .ref 56, .ref 57, .ref 58, .int (jI Z.2.2.2.2.1), .ref 59]) := (cl_a50 (by decide)).trans ly_0
theorem cl_0h : (n, cl_f f I P M H Y Z).2 0 = .inl (7, cl_c0 P.2.2.1 P.2.2.2.1 P.2.2.2.2.1 P.2.2.2.2.2) := @cl_0 f I P M H Y Z
theorem cl_1h : (n, cl_f f I P M H Y Z).2 1 = .inl (2, [.ref 2, .ref 3, .int (jI I.1)]) := @cl_1 f I P M H Y Z
theorem cl_4h : (n, cl_f f I P M H Y Z).2 4 = .inr (.object RX6, 10, .inr (.inr P.1)) := @cl_4 f I P M H Y Z
theorem cl_5h : (n, cl_f f I P M H Y Z).2 5 = .inr (.int, 5, .inl P.2.1) := @cl_5 f I P M H Y Z
theorem cl_12h : (n, cl_f f I P M H Y Z).2 12 = .inl (4, [.int (jI M.1), .int (jI M.2.1), .ref 13, .int (jI M.2.2.1), .ref 14, .ref 15, .ref 16]) := @cl_12 f I P M H Y Z
theorem cl_17h : (n, cl_f f I P M H Y Z).2 17 = .inl (1, [.ref 18, .ref 19, .int (jI H.1)]) := @cl_17 f I P M H Y Z
theorem cl_18h : (n, cl_f f I P M H Y Z).2 18 = .inr (.object RX0, 4, .inr (.inr H.2.1)) := @cl_18 f I P M H Y Z
theorem cl_19h : (n, cl_f f I P M H Y Z).2 19 = .inr (.object RX4, 4, .inr (.inr fun i => some (20 + 5 * H.2.2.1 i))) := @cl_19 f I P M H Y Z
theorem cl_40h : (n, cl_f f I P M H Y Z).2 40 = .inl (3, [.ref 4, .ref 5, .ref Y.1, .int (jI Y.2.1), .int (jI Y.2.2.1), .ref 41, .int (jI Y.2.2.2.1), .ref 42, .ref 43, .ref 44, .ref 45, .ref 46, .ref 47, .ref 48, .int (jI Y.2.2.2.2.1), .ref 49]) := @cl_40 f I P M H Y Z
theorem cl_50h : (n, cl_f f I P M H Y Z).2 50 = .inl (3, [.ref 4, .ref 5, .ref Z.1, .int (jI Z.2.1), .int (jI Z.2.2.1), .ref 51, .int (jI Z.2.2.2.1), .ref 52, .ref 53, .ref 54, .ref 55, .ref 56, .ref 57, .ref 58, .int (jI Z.2.2.2.2.1), .ref 59]) := @cl_50 f I P M H Y Z
theorem cl_dh {x : Nat} (hx : ji_dy x) : (n, cl_f f I P M H Y Z).2 x = f x := cl_d (Or.inl hx)
theorem cl_jMs {mm : ji_M} {as : List Value} {v : Option Value} (k : JR G d mm as (n, mk_H 12 (cl_f f I P M H Y Z) M) 0 0 v (n, mk_H 12 (cl_f f I P M H Y Z) M)) : JR G d mm as (n, cl_f f I P M H Y Z) 0 0 v (n, cl_f f I P M H Y Z) := cl_jM M k
theorem cl_jYs {mm : ji_M} {as : List Value} {v : Option Value} (k : JR G d mm as (n, ly_H 40 (cl_f f I P M H Y Z) Y) 0 0 v (n, ly_H 40 (cl_f f I P M H Y Z) Y)) : JR G d mm as (n, cl_f f I P M H Y Z) 0 0 v (n, cl_f f I P M H Y Z) := cl_jY Y k
theorem cl_jIs {mm : ji_M} {as : List Value} {v : Option Value} (k : JR G d mm as (in_H n (cl_f f I P M H Y Z) I) 0 0 v (in_H n (cl_f f I P M H Y Z) I)) : JR G d mm as (n, cl_f f I P M H Y Z) 0 0 v (n, cl_f f I P M H Y Z) := cl_jI I k
theorem cl_jHs {mm : ji_M} {as : List Value} {v : Option Value} (k : JR G d mm as (hi_h n (cl_f f I P M H Y Z) H.1 H.2.1 (fun i => some (20 + 5 * H.2.2.1 i))) 0 0 v (hi_h n (cl_f f I P M H Y Z) H.1 H.2.1 (fun i => some (20 + 5 * H.2.2.1 i)))) : JR G d mm as (n, cl_f f I P M H Y Z) 0 0 v (n, cl_f f I P M H Y Z) := cl_jH H.1 H.2.1 H.2.2.1 k
theorem cl_pw {v : Int} : ((n, cl_f f I P M H Y Z).1, va_up (n, cl_f f I P M H Y Z).2 0 (.inl (7, (cl_c0 P.2.2.1 P.2.2.2.1 P.2.2.2.2.1 P.2.2.2.2.2).set 3 (.int (jI v))))) = (n, cl_f f I (P.1, P.2.1, v, P.2.2.2) M H Y Z) := congrArg (Prod.mk n) (cl_p (w := v) (h := P.2.2.2.1) (bk := P.2.2.2.2.1) (st := P.2.2.2.2.2))
theorem cl_ph {v : Int} : ((n, cl_f f I P M H Y Z).1, va_up (n, cl_f f I P M H Y Z).2 0 (.inl (7, (cl_c0 P.2.2.1 P.2.2.2.1 P.2.2.2.2.1 P.2.2.2.2.2).set 4 (.int (jI v))))) = (n, cl_f f I (P.1, P.2.1, P.2.2.1, v, P.2.2.2.2) M H Y Z) := congrArg (Prod.mk n) (cl_p (w := P.2.2.1) (h := v) (bk := P.2.2.2.2.1) (st := P.2.2.2.2.2))
theorem cl_pb {v : Nat} : ((n, cl_f f I P M H Y Z).1, va_up (n, cl_f f I P M H Y Z).2 0 (.inl (7, (cl_c0 P.2.2.1 P.2.2.2.1 P.2.2.2.2.1 P.2.2.2.2.2).set 5 (.ref v)))) = (n, cl_f f I (P.1, P.2.1, P.2.2.1, P.2.2.2.1, v, P.2.2.2.2.2) M H Y Z) := congrArg (Prod.mk n) (cl_p (w := P.2.2.1) (h := P.2.2.2.1) (bk := v) (st := P.2.2.2.2.2))
theorem cl_ps {v : Int} : ((n, cl_f f I P M H Y Z).1, va_up (n, cl_f f I P M H Y Z).2 0 (.inl (7, (cl_c0 P.2.2.1 P.2.2.2.1 P.2.2.2.2.1 P.2.2.2.2.2).set 10 (.int (jI v))))) = (n, cl_f f I (P.1, P.2.1, P.2.2.1, P.2.2.2.1, P.2.2.2.2.1, v) M H Y Z) := congrArg (Prod.mk n) (cl_p (w := P.2.2.1) (h := P.2.2.2.1) (bk := P.2.2.2.2.1) (st := v))
set_option maxHeartbeats 4000000 in
set_option maxRecDepth 100000 in
theorem x_checkNote {h : ji_H} {v : Int} (b_v : -2147483648 ≤ v ∧ v < 2147483648) (hx : v < 0 ∨ 10 ≤ v) : JX G (d + 6) mX7_checkNote [.int (jI (v))] h 1 6 eI h := by
  refine ji_ent (by decide) rfl (Nat.le_of_ble_eq_true rfl) rfl ?_
  refine ji_iload_n dX7_checkNote_0 rfl ?_
  refine ji_if_lt (tgt := 10) dX7_checkNote_1 rfl (by omega) (fun c1 => ?_) (fun c1 => ?_)
  · try (exfalso; omega)
    all_goals
      exact ji_throwW (text := "note is not 0 to 9") ji_thrI rfl (by decide) rfl dX7_checkNote_10 dX7_checkNote_13 dX7_checkNote_14 dX7_checkNote_17 dX7_checkNote_20 (by omega) (by omega) (Nat.le_of_ble_eq_true rfl) ⟨rfl, rfl⟩
  · try (exfalso; omega)
    all_goals
      refine ji_iload_n dX7_checkNote_4 rfl ?_
      refine ji_bipush dX7_checkNote_5 rfl ?_
      refine ji_icmp_lt (tgt := 21) dX7_checkNote_7 rfl (by omega) (by omega) (fun c7 => ?_) (fun c7 => ?_)
      · try (exfalso; omega)
        all_goals
          exact ji_return dX7_checkNote_21 rfl ⟨rfl, rfl⟩
      · try (exfalso; omega)
        all_goals
          exact ji_throwW (text := "note is not 0 to 9") ji_thrI rfl (by decide) rfl dX7_checkNote_10 dX7_checkNote_13 dX7_checkNote_14 dX7_checkNote_17 dX7_checkNote_20 (by omega) (by omega) (Nat.le_of_ble_eq_true rfl) ⟨rfl, rfl⟩

set_option maxHeartbeats 4000000 in
set_option maxRecDepth 100000 in
theorem k_checkNote {h : ji_H} {v : Int} (b_v : -2147483648 ≤ v ∧ v < 2147483648) (hx : 0 ≤ v ∧ v < 10) : JR G d mX7_checkNote [.int (jI (v))] h 0 0 none h := by
  refine ji_ent (by decide) rfl (Nat.le_of_ble_eq_true rfl) rfl ?_
  refine ji_iload_n dX7_checkNote_0 rfl ?_
  refine ji_if_lt (tgt := 10) dX7_checkNote_1 rfl (by omega) (fun c1 => ?_) (fun c1 => ?_)
  · try (exfalso; omega)
    all_goals
      exact ji_throwW (text := "note is not 0 to 9") ji_thrI rfl (by decide) rfl dX7_checkNote_10 dX7_checkNote_13 dX7_checkNote_14 dX7_checkNote_17 dX7_checkNote_20 (by omega) (by omega) (Nat.le_of_ble_eq_true rfl) ⟨rfl, rfl⟩
  · try (exfalso; omega)
    all_goals
      refine ji_iload_n dX7_checkNote_4 rfl ?_
      refine ji_bipush dX7_checkNote_5 rfl ?_
      refine ji_icmp_lt (tgt := 21) dX7_checkNote_7 rfl (by omega) (by omega) (fun c7 => ?_) (fun c7 => ?_)
      · try (exfalso; omega)
        all_goals
          exact ji_return dX7_checkNote_21 rfl ⟨rfl, rfl⟩
      · try (exfalso; omega)
        all_goals
          exact ji_throwW (text := "note is not 0 to 9") ji_thrI rfl (by decide) rfl dX7_checkNote_10 dX7_checkNote_13 dX7_checkNote_14 dX7_checkNote_17 dX7_checkNote_20 (by omega) (by omega) (Nat.le_of_ble_eq_true rfl) ⟨rfl, rfl⟩

set_option maxHeartbeats 4000000 in
set_option maxRecDepth 100000 in
theorem x_checkWhat {h : ji_H} {v m : Int} (b_v : -2147483648 ≤ v ∧ v < 2147483648) (b_m : -2147483648 ≤ m ∧ m < 2147483648) (hx : v < 0 ∨ m ≤ v) : JX G (d + 6) mX7_checkWhat [.int (jI (v)), .int (jI (m))] h 1 6 eA h := by
  refine ji_ent (by decide) rfl (Nat.le_of_ble_eq_true rfl) rfl ?_
  refine ji_iload_n dX7_checkWhat_0 rfl ?_
  refine ji_if_lt (tgt := 9) dX7_checkWhat_1 rfl (by omega) (fun c1 => ?_) (fun c1 => ?_)
  · try (exfalso; omega)
    all_goals
      exact ji_throwW (text := "what is out of range") ji_thrA rfl (by decide) rfl dX7_checkWhat_9 dX7_checkWhat_12 dX7_checkWhat_13 dX7_checkWhat_16 dX7_checkWhat_19 (by omega) (by omega) (Nat.le_of_ble_eq_true rfl) ⟨rfl, rfl⟩
  · try (exfalso; omega)
    all_goals
      refine ji_iload_n dX7_checkWhat_4 rfl ?_
      refine ji_iload_n dX7_checkWhat_5 rfl ?_
      refine ji_icmp_lt (tgt := 20) dX7_checkWhat_6 rfl (by omega) (by omega) (fun c6 => ?_) (fun c6 => ?_)
      · try (exfalso; omega)
        all_goals
          exact ji_return dX7_checkWhat_20 rfl ⟨rfl, rfl⟩
      · try (exfalso; omega)
        all_goals
          exact ji_throwW (text := "what is out of range") ji_thrA rfl (by decide) rfl dX7_checkWhat_9 dX7_checkWhat_12 dX7_checkWhat_13 dX7_checkWhat_16 dX7_checkWhat_19 (by omega) (by omega) (Nat.le_of_ble_eq_true rfl) ⟨rfl, rfl⟩

set_option maxHeartbeats 4000000 in
set_option maxRecDepth 100000 in
theorem k_checkWhat {h : ji_H} {v m : Int} (b_v : -2147483648 ≤ v ∧ v < 2147483648) (b_m : -2147483648 ≤ m ∧ m < 2147483648) (hx : 0 ≤ v ∧ v < m) : JR G d mX7_checkWhat [.int (jI (v)), .int (jI (m))] h 0 0 none h := by
  refine ji_ent (by decide) rfl (Nat.le_of_ble_eq_true rfl) rfl ?_
  refine ji_iload_n dX7_checkWhat_0 rfl ?_
  refine ji_if_lt (tgt := 9) dX7_checkWhat_1 rfl (by omega) (fun c1 => ?_) (fun c1 => ?_)
  · try (exfalso; omega)
    all_goals
      exact ji_throwW (text := "what is out of range") ji_thrA rfl (by decide) rfl dX7_checkWhat_9 dX7_checkWhat_12 dX7_checkWhat_13 dX7_checkWhat_16 dX7_checkWhat_19 (by omega) (by omega) (Nat.le_of_ble_eq_true rfl) ⟨rfl, rfl⟩
  · try (exfalso; omega)
    all_goals
      refine ji_iload_n dX7_checkWhat_4 rfl ?_
      refine ji_iload_n dX7_checkWhat_5 rfl ?_
      refine ji_icmp_lt (tgt := 20) dX7_checkWhat_6 rfl (by omega) (by omega) (fun c6 => ?_) (fun c6 => ?_)
      · try (exfalso; omega)
        all_goals
          exact ji_return dX7_checkWhat_20 rfl ⟨rfl, rfl⟩
      · try (exfalso; omega)
        all_goals
          exact ji_throwW (text := "what is out of range") ji_thrA rfl (by decide) rfl dX7_checkWhat_9 dX7_checkWhat_12 dX7_checkWhat_13 dX7_checkWhat_16 dX7_checkWhat_19 (by omega) (by omega) (Nat.le_of_ble_eq_true rfl) ⟨rfl, rfl⟩

set_option maxHeartbeats 4000000 in
set_option maxRecDepth 100000 in
theorem x_checkSize {h : ji_H} {v m : Int} (b_v : -2147483648 ≤ v ∧ v < 2147483648) (b_m : -2147483648 ≤ m ∧ m < 2147483648) (hx : ¬ ((18 ≤ v ∧ v ≤ 60) ∧ 2 ≤ m ∧ m ≤ 20)) : JX G (d + 6) mX7_checkSize [.int (jI (v)), .int (jI (m))] h 1 6 eA h := by
  refine ji_ent (by decide) rfl (Nat.le_of_ble_eq_true rfl) rfl ?_
  refine ji_iload_n dX7_checkSize_0 rfl ?_
  refine ji_bipush dX7_checkSize_1 rfl ?_
  refine ji_icmp_lt (tgt := 12) dX7_checkSize_3 rfl (by omega) (by omega) (fun c3 => ?_) (fun c3 => ?_)
  · try (exfalso; omega)
    all_goals
      exact ji_throwW (text := "width is out of range") ji_thrA rfl (by decide) rfl dX7_checkSize_12 dX7_checkSize_15 dX7_checkSize_16 dX7_checkSize_19 dX7_checkSize_22 (by omega) (by omega) (Nat.le_of_ble_eq_true rfl) ⟨rfl, rfl⟩
  · try (exfalso; omega)
    all_goals
      refine ji_iload_n dX7_checkSize_6 rfl ?_
      refine ji_bipush dX7_checkSize_7 rfl ?_
      refine ji_icmp_le (tgt := 23) dX7_checkSize_9 rfl (by omega) (by omega) (fun c9 => ?_) (fun c9 => ?_)
      · try (exfalso; omega)
        all_goals
          refine ji_iload_n dX7_checkSize_23 rfl ?_
          refine ji_iconst dX7_checkSize_24 ?_
          refine ji_icmp_lt (tgt := 34) dX7_checkSize_25 rfl (by omega) (by omega) (fun c25 => ?_) (fun c25 => ?_)
          · try (exfalso; omega)
            all_goals
              exact ji_throwW (text := "height is out of range") ji_thrA rfl (by decide) rfl dX7_checkSize_34 dX7_checkSize_37 dX7_checkSize_38 dX7_checkSize_41 dX7_checkSize_44 (by omega) (by omega) (Nat.le_of_ble_eq_true rfl) ⟨rfl, rfl⟩
          · try (exfalso; omega)
            all_goals
              refine ji_iload_n dX7_checkSize_28 rfl ?_
              refine ji_bipush dX7_checkSize_29 rfl ?_
              refine ji_icmp_le (tgt := 45) dX7_checkSize_31 rfl (by omega) (by omega) (fun c31 => ?_) (fun c31 => ?_)
              · try (exfalso; omega)
                all_goals
                  exact ji_return dX7_checkSize_45 rfl ⟨rfl, rfl⟩
              · try (exfalso; omega)
                all_goals
                  exact ji_throwW (text := "height is out of range") ji_thrA rfl (by decide) rfl dX7_checkSize_34 dX7_checkSize_37 dX7_checkSize_38 dX7_checkSize_41 dX7_checkSize_44 (by omega) (by omega) (Nat.le_of_ble_eq_true rfl) ⟨rfl, rfl⟩
      · try (exfalso; omega)
        all_goals
          exact ji_throwW (text := "width is out of range") ji_thrA rfl (by decide) rfl dX7_checkSize_12 dX7_checkSize_15 dX7_checkSize_16 dX7_checkSize_19 dX7_checkSize_22 (by omega) (by omega) (Nat.le_of_ble_eq_true rfl) ⟨rfl, rfl⟩

set_option maxHeartbeats 4000000 in
set_option maxRecDepth 100000 in
theorem k_checkSize {h : ji_H} {v m : Int} (b_v : -2147483648 ≤ v ∧ v < 2147483648) (b_m : -2147483648 ≤ m ∧ m < 2147483648) (hx : (18 ≤ v ∧ v ≤ 60) ∧ 2 ≤ m ∧ m ≤ 20) : JR G d mX7_checkSize [.int (jI (v)), .int (jI (m))] h 0 0 none h := by
  refine ji_ent (by decide) rfl (Nat.le_of_ble_eq_true rfl) rfl ?_
  refine ji_iload_n dX7_checkSize_0 rfl ?_
  refine ji_bipush dX7_checkSize_1 rfl ?_
  refine ji_icmp_lt (tgt := 12) dX7_checkSize_3 rfl (by omega) (by omega) (fun c3 => ?_) (fun c3 => ?_)
  · try (exfalso; omega)
    all_goals
      exact ji_throwW (text := "width is out of range") ji_thrA rfl (by decide) rfl dX7_checkSize_12 dX7_checkSize_15 dX7_checkSize_16 dX7_checkSize_19 dX7_checkSize_22 (by omega) (by omega) (Nat.le_of_ble_eq_true rfl) ⟨rfl, rfl⟩
  · try (exfalso; omega)
    all_goals
      refine ji_iload_n dX7_checkSize_6 rfl ?_
      refine ji_bipush dX7_checkSize_7 rfl ?_
      refine ji_icmp_le (tgt := 23) dX7_checkSize_9 rfl (by omega) (by omega) (fun c9 => ?_) (fun c9 => ?_)
      · try (exfalso; omega)
        all_goals
          refine ji_iload_n dX7_checkSize_23 rfl ?_
          refine ji_iconst dX7_checkSize_24 ?_
          refine ji_icmp_lt (tgt := 34) dX7_checkSize_25 rfl (by omega) (by omega) (fun c25 => ?_) (fun c25 => ?_)
          · try (exfalso; omega)
            all_goals
              exact ji_throwW (text := "height is out of range") ji_thrA rfl (by decide) rfl dX7_checkSize_34 dX7_checkSize_37 dX7_checkSize_38 dX7_checkSize_41 dX7_checkSize_44 (by omega) (by omega) (Nat.le_of_ble_eq_true rfl) ⟨rfl, rfl⟩
          · try (exfalso; omega)
            all_goals
              refine ji_iload_n dX7_checkSize_28 rfl ?_
              refine ji_bipush dX7_checkSize_29 rfl ?_
              refine ji_icmp_le (tgt := 45) dX7_checkSize_31 rfl (by omega) (by omega) (fun c31 => ?_) (fun c31 => ?_)
              · try (exfalso; omega)
                all_goals
                  exact ji_return dX7_checkSize_45 rfl ⟨rfl, rfl⟩
              · try (exfalso; omega)
                all_goals
                  exact ji_throwW (text := "height is out of range") ji_thrA rfl (by decide) rfl dX7_checkSize_34 dX7_checkSize_37 dX7_checkSize_38 dX7_checkSize_41 dX7_checkSize_44 (by omega) (by omega) (Nat.le_of_ble_eq_true rfl) ⟨rfl, rfl⟩
      · try (exfalso; omega)
        all_goals
          exact ji_throwW (text := "width is out of range") ji_thrA rfl (by decide) rfl dX7_checkSize_12 dX7_checkSize_15 dX7_checkSize_16 dX7_checkSize_19 dX7_checkSize_22 (by omega) (by omega) (Nat.le_of_ble_eq_true rfl) ⟨rfl, rfl⟩

end PG
