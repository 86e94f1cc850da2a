/-! ===== the class and the reference side by side ===== -/
section LINK
variable {G : ji_G} {n : Nat} {f g : Nat → ji_C} {I I' : in_T} {P P' : pg_T} {M M' : mk_T} {H H' : hi_T} {Y Z Y' Z' : ly_T} {B B' : bk_T} {NT NT' : nt_T} {SB SB' : Nat → bk_T}
variable {th ed wi ht sz rs rr rq rp mm ln co ro pg : Int} {z kp nt nl sy bf lo lf lt pf : Nat → Int} {hsh : Int64}
variable {th' ed' wi' ht' sz' rs' rr' rq' rp' mm' ln' co' ro' pg' : Int} {z' kp' nt' nl' sy' bf' lo' lf' lt' pf' : Nat → Int} {hsh' : Int64}
theorem rf_pure {x : Nat} (hx : 60 ≤ x ∧ x ≤ 70) : rf_f f th z kp ed nt nl wi ht sy sz bf rs rr rq rp mm ln lo lf lt co ro pg pf hsh x = rf_f g th z kp ed nt nl wi ht sy sz bf rs rr rq rp mm ln lo lf lt co ro pg pf hsh x := by
  have : x = 60 ∨ x = 61 ∨ x = 62 ∨ x = 63 ∨ x = 64 ∨ x = 65 ∨ x = 66 ∨ x = 67 ∨ x = 68 ∨ x = 69 ∨ x = 70 := by omega
  rcases this with rfl | rfl | rfl | rfl | rfl | rfl | rfl | rfl | rfl | rfl | rfl <;> rfl
/-- the model's cells and the class's lie apart -/
theorem crf : cl_f (rf_f f th z kp ed nt nl wi ht sy sz bf rs rr rq rp mm ln lo lf lt co ro pg pf hsh) I P M H Y Z = rf_f (cl_f f I P M H Y Z) th z kp ed nt nl wi ht sy sz bf rs rr rq rp mm ln lo lf lt co ro pg pf hsh := by
  funext x
  by_cases c : 60 ≤ x ∧ x ≤ 70
  · rw [cl_a60 c.1]; exact rf_pure c
  · rw [rf_o (by omega)]
    rcases cl_cases x with h | h | h | h | h | h | h | h | h | h | h | h | h | h | h | h
    · rw [cl_a0 h, cl_a0 h]
    · rw [cl_a1 h, cl_a1 h]
    · rw [cl_a4 h, cl_a4 h]
    · rw [cl_a5 h, cl_a5 h]
    · rw [cl_a6 h, cl_a6 h]; exact rf_o (by omega)
    · rw [cl_a12 h, cl_a12 h]
    · rw [cl_a17 h, cl_a17 h]
    · rw [cl_a18 h, cl_a18 h]
    · rw [cl_a19 h, cl_a19 h]
    · rw [cl_a20 h, cl_a20 h]
    · rw [cl_a25 h, cl_a25 h]
    · rw [cl_a30 h, cl_a30 h]
    · rw [cl_a35 h, cl_a35 h]
    · rw [cl_a40 h, cl_a40 h]
    · rw [cl_a50 h, cl_a50 h]
    · rw [cl_a60 h, cl_a60 h]; exact rf_o (by omega)
theorem rf_up71 {c : ji_C} : va_up (rf_f f th z kp ed nt nl wi ht sy sz bf rs rr rq rp mm ln lo lf lt co ro pg pf hsh) 71 c = rf_f (va_up f 71 c) th z kp ed nt nl wi ht sy sz bf rs rr rq rp mm ln lo lf lt co ro pg pf hsh := by
  funext x
  by_cases h : x = 71
  · rw [h, va_up_self, rf_o (by omega), va_up_self]
  · rw [va_up_ne _ _ h]
    by_cases c : 60 ≤ x ∧ x ≤ 70
    · exact rf_pure c
    · rw [rf_o (by omega), rf_o (by omega), va_up_ne _ _ h]
theorem cl_up71 {c : ji_C} : va_up (cl_f f I P M H Y Z) 71 c = cl_f (va_up f 71 c) I P M H Y Z := by
  funext x
  by_cases h : x = 71
  · rw [h, va_up_self, cl_a60 (by omega), va_up_self]
  · rw [va_up_ne _ _ h]
    rcases cl_cases x with h' | h' | h' | h' | h' | h' | h' | h' | h' | h' | h' | h' | h' | h' | h' | h'
    · rw [cl_a0 h', cl_a0 h']
    · rw [cl_a1 h', cl_a1 h']
    · rw [cl_a4 h', cl_a4 h']
    · rw [cl_a5 h', cl_a5 h']
    · rw [cl_a6 h', cl_a6 h', va_up_ne _ _ h]
    · rw [cl_a12 h', cl_a12 h']
    · rw [cl_a17 h', cl_a17 h']
    · rw [cl_a18 h', cl_a18 h']
    · rw [cl_a19 h', cl_a19 h']
    · rw [cl_a20 h', cl_a20 h']
    · rw [cl_a25 h', cl_a25 h']
    · rw [cl_a30 h', cl_a30 h']
    · rw [cl_a35 h', cl_a35 h']
    · rw [cl_a40 h', cl_a40 h']
    · rw [cl_a50 h', cl_a50 h']
    · rw [cl_a60 h', cl_a60 h', va_up_ne _ _ h]
theorem rf_71 {c : ji_C} : (n, rf_f (va_up f 71 c) th z kp ed nt nl wi ht sy sz bf rs rr rq rp mm ln lo lf lt co ro pg pf hsh).2 71 = c := by
  show rf_f (va_up f 71 c) th z kp ed nt nl wi ht sy sz bf rs rr rq rp mm ln lo lf lt co ro pg pf hsh 71 = c
  rw [rf_o (by omega), va_up_self]
theorem cl_ok_f (hok : cl_ok n f I P M H Y Z B NT SB) {n2 : Nat} (hk : ji_keep (n, f) (n2, g)) : cl_ok n2 g I P M H Y Z B NT SB := by
  obtain ⟨c1, c2, ⟨c3, c3'⟩, c4, c5, ⟨c6, c6'⟩, c7, c8, ⟨h1, h2, h3, h4⟩, c10, c11, c12⟩ := hok
  refine ⟨Nat.le_trans c1 hk.1, c2, ⟨fun k hk9 => ?_, c3'⟩, c4, c5, ⟨c6.kept hk, c6'⟩, c7, c8, ⟨h1, h2, h3, fun i hi => ?_⟩, c10, c11, c12⟩
  · rcases c3 k hk9 with r | ⟨a, m, nn, tx, s, r1, r2, r3, r4⟩
    · exact Or.inl r
    · exact Or.inr ⟨a, m, nn, tx, s, r1, r2, r3.kept hk, r4⟩
  · obtain ⟨b, r1, r2, r3⟩ := h4 i hi
    exact ⟨b, r1, r2.kept hk, r3⟩
theorem rf_keep : ji_keep (n, f) (n, rf_f f th z kp ed nt nl wi ht sy sz bf rs rr rq rp mm ln lo lf lt co ro pg pf hsh) := ⟨Nat.le_refl _, fun a ha _ => rf_o (by unfold ji_dy at ha; omega)⟩
theorem up_keep {c : ji_C} : ji_keep (n, f) (n, va_up f 71 c) := ⟨Nat.le_refl _, fun a ha _ => va_up_ne _ _ (by unfold ji_dy at ha; omega)⟩
/-- what binds the class's state and the reference's -/
def LK (b : Int) (n : Nat) (f : Nat → ji_C) (I : in_T) (P : pg_T) (M : mk_T) (H : hi_T) (Y Z : ly_T) (B : bk_T) (NT : nt_T) (SB : Nat → bk_T) (z kp nt nl bf : Nat → Int) : Prop :=
  cl_ok n f I P M H Y Z B NT SB ∧ SV B z M ∧ (NTR NT z nl nt ∧ nl_ok nl nt) ∧ (P.2.1 4 = 0 ∨ P.2.1 4 = 1) ∧ (∀ k : Nat, (k : Int) < I.1 → I.2.1 k = bf k) ∧ (∀ k, 0 ≤ bf k ∧ bf k < 128) ∧ HR H SB kp ∧ (mk_ok b M ∧ ∀ i, mk_ok b (H.2.2.2 i)) ∧ 4000 ≤ b ∧ b ≤ 800000
theorem LK.fk {b : Int} (h : LK b n f I P M H Y Z B NT SB z kp nt nl bf) {n2 : Nat} (hk : ji_keep (n, f) (n2, g)) : LK b n2 g I P M H Y Z B NT SB z kp nt nl bf := ⟨cl_ok_f h.1 hk, h.2⟩
/-- both stand, the reference's last word was K -/
def ST (K b : Int) (n : Nat) (h : Nat → ji_C) : Prop := ∃ (f : Nat → ji_C) (I : in_T) (P : pg_T) (M : mk_T) (H : hi_T) (Y Z : ly_T) (B : bk_T) (NT : nt_T) (SB : Nat → bk_T) (z kp nt nl bf : Nat → Int) (rs rr rq rp mm ln : Int) (lo lf lt : Nat → Int) (co ro pg : Int) (pf : Nat → Int) (hsh : Int64),
  h = cl_f (rf_f f K z kp H.1 nt nl P.2.2.1 P.2.2.2.1 P.2.1 I.1 bf rs rr rq rp mm ln lo lf lt co ro pg pf hsh) I P M H Y Z ∧ LK b n f I P M H Y Z B NT SB z kp nt nl bf
/-- a call of both -/
def PR (G : ji_G) (dC : Nat) (mC mR : ji_M) (as : List Value) (ks : List String) (b : Int) (n : Nat) (h : Nat → ji_C) : Prop := ∃ bc bs : Nat, bc ≤ 6 ∧ bs ≤ 8000 ∧
  JM G dC mC (.ref 0 :: as) (n, h) bc bs (fun r h9 => ∃ K a : Int, ((r = .inl (some (.int (jI a))) ∧ K = 0) ∨ ∃ (i : Nat) (E : String), ks[i]? = some E ∧ r = .inr E ∧ K = (i : Int) + 1) ∧ h9.2 71 = h 71 ∧ (∃ fs, h9.2 60 = .inl (8, fs))
    ∧ ∀ c : ji_C, JM G 12 mR (.ref 60 :: as) (h9.1, va_up h9.2 71 c) 0 0 (fun r2 h10 => ∃ v : Int, r2 = .inl (some (.int (jI v))) ∧ (K = 0 → v = a) ∧ h10.2 71 = c ∧ ST K b h10.1 h10.2))
theorem st_i {K b : Int} {c : ji_C} (hL : LK b n f I P M H Y Z B NT SB z kp nt nl bf) : ST K b n (rf_f (va_up (cl_f f I P M H Y Z) 71 c) K z kp H.1 nt nl P.2.2.1 P.2.2.2.1 P.2.1 I.1 bf rs rr rq rp mm ln lo lf lt co ro pg pf hsh) :=
  ⟨va_up f 71 c, I, P, M, H, Y, Z, B, NT, SB, z, kp, nt, nl, bf, rs, rr, rq, rp, mm, ln, lo, lf, lt, co, ro, pg, pf, hsh, by rw [crf, cl_up71], hL.fk up_keep⟩
/-- the class answers, and makes nothing -/
theorem pr_1 {dC : Nat} {mC mR : ji_M} {as : List Value} {ks : List String} {b a : Int} (h72 : 72 ≤ n)
    (hc : JR G dC mC (.ref 0 :: as) (n, cl_f (rf_f f th z kp ed nt nl wi ht sy sz bf rs rr rq rp mm ln lo lf lt co ro pg pf hsh) I P M H Y Z) 0 0 (some (.int (jI a))) (n, cl_f (rf_f f th z kp ed nt nl wi ht sy sz bf rs rr rq rp mm ln lo lf lt co ro pg pf hsh) I' P' M' H' Y' Z'))
    (hr : ∀ f', JR G 12 mR (.ref 60 :: as) (n, rf_f f' th z kp ed nt nl wi ht sy sz bf rs rr rq rp mm ln lo lf lt co ro pg pf hsh) 0 0 (some (.int (jI a))) (n, rf_f f' 0 z' kp' H'.1 nt' nl' P'.2.2.1 P'.2.2.2.1 P'.2.1 I'.1 bf' rs' rr' rq' rp' mm' ln' lo' lf' lt' co' ro' pg' pf' hsh'))
    (hL : LK b n f I' P' M' H' Y' Z' B' NT' SB' z' kp' nt' nl' bf') : PR G dC mC mR as ks b n (cl_f (rf_f f th z kp ed nt nl wi ht sy sz bf rs rr rq rp mm ln lo lf lt co ro pg pf hsh) I P M H Y Z) := by
  refine ⟨0, 0, by omega, by omega, hc.mono fun r h9 hq => ?_⟩
  obtain ⟨e1, e2⟩ := hq
  subst e2
  refine ⟨0, a, Or.inl ⟨e1, rfl⟩, ?_, ?_, fun c => ?_⟩
  · have a1 : cl_f (rf_f f th z kp ed nt nl wi ht sy sz bf rs rr rq rp mm ln lo lf lt co ro pg pf hsh) I' P' M' H' Y' Z' 71 = rf_f f th z kp ed nt nl wi ht sy sz bf rs rr rq rp mm ln lo lf lt co ro pg pf hsh 71 := cl_a60 (by omega)
    have a2 : cl_f (rf_f f th z kp ed nt nl wi ht sy sz bf rs rr rq rp mm ln lo lf lt co ro pg pf hsh) I P M H Y Z 71 = rf_f f th z kp ed nt nl wi ht sy sz bf rs rr rq rp mm ln lo lf lt co ro pg pf hsh 71 := cl_a60 (by omega)
    exact a1.trans a2.symm
  · have a1 : cl_f (rf_f f th z kp ed nt nl wi ht sy sz bf rs rr rq rp mm ln lo lf lt co ro pg pf hsh) I' P' M' H' Y' Z' 60 = rf_f f th z kp ed nt nl wi ht sy sz bf rs rr rq rp mm ln lo lf lt co ro pg pf hsh 60 := cl_a60 (by omega)
    exact ⟨_, a1.trans rfl⟩
  · show JM G 12 mR (.ref 60 :: as) (n, va_up (cl_f (rf_f f th z kp ed nt nl wi ht sy sz bf rs rr rq rp mm ln lo lf lt co ro pg pf hsh) I' P' M' H' Y' Z') 71 c) 0 0 _
    rw [crf, rf_up71]
    refine (hr (va_up (cl_f f I' P' M' H' Y' Z') 71 c)).mono fun r2 h10 hq => ?_
    obtain ⟨e3, e4⟩ := hq
    subst e4
    exact ⟨a, e3, fun _ => rfl, rf_71, st_i hL⟩
/-- the class throws -/
theorem pr_x {dC : Nat} {mC mR : ji_M} {as : List Value} {ks : List String} {b K v : Int} {E : String} {i : Nat} (hi : ks[i]? = some E) (hK : K = (i : Int) + 1)
    (hc : JX G dC mC (.ref 0 :: as) (n, cl_f (rf_f f th z kp ed nt nl wi ht sy sz bf rs rr rq rp mm ln lo lf lt co ro pg pf hsh) I P M H Y Z) 1 6 E (n, cl_f (rf_f f th z kp ed nt nl wi ht sy sz bf rs rr rq rp mm ln lo lf lt co ro pg pf hsh) I' P' M' H' Y' Z'))
    (hr : ∀ f', JR G 12 mR (.ref 60 :: as) (n, rf_f f' th z kp ed nt nl wi ht sy sz bf rs rr rq rp mm ln lo lf lt co ro pg pf hsh) 0 0 (some (.int (jI v))) (n, rf_f f' K z' kp' H'.1 nt' nl' P'.2.2.1 P'.2.2.2.1 P'.2.1 I'.1 bf' rs' rr' rq' rp' mm' ln' lo' lf' lt' co' ro' pg' pf' hsh'))
    (hL : LK b n f I' P' M' H' Y' Z' B' NT' SB' z' kp' nt' nl' bf') : PR G dC mC mR as ks b n (cl_f (rf_f f th z kp ed nt nl wi ht sy sz bf rs rr rq rp mm ln lo lf lt co ro pg pf hsh) I P M H Y Z) := by
  refine ⟨1, 6, by omega, by omega, hc.mono fun r h9 hq => ?_⟩
  obtain ⟨e1, e2⟩ := hq
  subst e2
  refine ⟨K, 0, Or.inr ⟨i, E, hi, e1, hK⟩, ?_, ?_, fun c => ?_⟩
  · have a1 : cl_f (rf_f f th z kp ed nt nl wi ht sy sz bf rs rr rq rp mm ln lo lf lt co ro pg pf hsh) I' P' M' H' Y' Z' 71 = rf_f f th z kp ed nt nl wi ht sy sz bf rs rr rq rp mm ln lo lf lt co ro pg pf hsh 71 := cl_a60 (by omega)
    have a2 : cl_f (rf_f f th z kp ed nt nl wi ht sy sz bf rs rr rq rp mm ln lo lf lt co ro pg pf hsh) I P M H Y Z 71 = rf_f f th z kp ed nt nl wi ht sy sz bf rs rr rq rp mm ln lo lf lt co ro pg pf hsh 71 := cl_a60 (by omega)
    exact a1.trans a2.symm
  · have a1 : cl_f (rf_f f th z kp ed nt nl wi ht sy sz bf rs rr rq rp mm ln lo lf lt co ro pg pf hsh) I' P' M' H' Y' Z' 60 = rf_f f th z kp ed nt nl wi ht sy sz bf rs rr rq rp mm ln lo lf lt co ro pg pf hsh 60 := cl_a60 (by omega)
    exact ⟨_, a1.trans rfl⟩
  · show JM G 12 mR (.ref 60 :: as) (n, va_up (cl_f (rf_f f th z kp ed nt nl wi ht sy sz bf rs rr rq rp mm ln lo lf lt co ro pg pf hsh) I' P' M' H' Y' Z') 71 c) 0 0 _
    rw [crf, rf_up71]
    refine (hr (va_up (cl_f f I' P' M' H' Y' Z') 71 c)).mono fun r2 h10 hq => ?_
    obtain ⟨e3, e4⟩ := hq
    subst e4
    exact ⟨v, e3, fun q => absurd q (by omega), rf_71, st_i hL⟩
/-- the class answers, and makes cells -/
theorem pr_m {dC : Nat} {mC mR : ji_M} {as : List Value} {ks : List String} {b a : Int} {bc bs : Nat} {p9 : Nat → (Nat → ji_C) → Prop} {P9 : Nat → pg_T} {n2 : Nat} (h72 : 72 ≤ n) (hbc : bc ≤ 6) (hbs : bs ≤ 8000)
    (hc : JM G dC mC (.ref 0 :: as) (n, cl_f (rf_f f th z kp ed nt nl wi ht sy sz bf rs rr rq rp mm ln lo lf lt co ro pg pf hsh) I P M H Y Z) bc bs (fun r9 h9 => ∃ g b2, r9 = .inl (some (.int (jI a))) ∧ h9 = (n2, cl_f g I' (P9 b2) M' H' Y' Z') ∧ cl_kp (n, rf_f f th z kp ed nt nl wi ht sy sz bf rs rr rq rp mm ln lo lf lt co ro pg pf hsh) (n2, g) ∧ p9 b2 g))
    (hP : ∀ b2, (P9 b2).2.2.1 = P'.2.2.1 ∧ (P9 b2).2.2.2.1 = P'.2.2.2.1 ∧ (P9 b2).2.1 = P'.2.1)
    (hr : ∀ f', JR G 12 mR (.ref 60 :: as) (n2, rf_f f' th z kp ed nt nl wi ht sy sz bf rs rr rq rp mm ln lo lf lt co ro pg pf hsh) 0 0 (some (.int (jI a))) (n2, rf_f f' 0 z' kp' H'.1 nt' nl' P'.2.2.1 P'.2.2.2.1 P'.2.1 I'.1 bf' rs' rr' rq' rp' mm' ln' lo' lf' lt' co' ro' pg' pf' hsh'))
    (hL : ∀ g b2, ji_keep (n, f) (n2, g) → p9 b2 g → LK b n2 g I' (P9 b2) M' H' Y' Z' B' NT' SB' z' kp' nt' nl' bf') : PR G dC mC mR as ks b n (cl_f (rf_f f th z kp ed nt nl wi ht sy sz bf rs rr rq rp mm ln lo lf lt co ro pg pf hsh) I P M H Y Z) := by
  refine ⟨bc, bs, hbc, hbs, hc.mono fun r h9 hq => ?_⟩
  obtain ⟨g, b2, e1, e2, hk, hp9⟩ := hq
  have hn2 : n ≤ n2 := hk.1.1
  subst e2
  have eg : g = rf_f g th z kp ed nt nl wi ht sy sz bf rs rr rq rp mm ln lo lf lt co ro pg pf hsh := by
    funext x
    by_cases c : 60 ≤ x ∧ x ≤ 70
    · have h1 : g x = rf_f f th z kp ed nt nl wi ht sy sz bf rs rr rq rp mm ln lo lf lt co ro pg pf hsh x := hk.2 x c.1 (show x < n by omega)
      rw [h1]; exact rf_pure c
    · rw [rf_o (by omega)]
  have hL2 := hL g b2 (rf_keep.trans hk.1) hp9
  obtain ⟨p1, p2, p3⟩ := hP b2
  refine ⟨0, a, Or.inl ⟨e1, rfl⟩, ?_, ?_, fun c => ?_⟩
  · have a1 : cl_f g I' (P9 b2) M' H' Y' Z' 71 = g 71 := cl_a60 (by omega)
    have a2 : cl_f (rf_f f th z kp ed nt nl wi ht sy sz bf rs rr rq rp mm ln lo lf lt co ro pg pf hsh) I P M H Y Z 71 = rf_f f th z kp ed nt nl wi ht sy sz bf rs rr rq rp mm ln lo lf lt co ro pg pf hsh 71 := cl_a60 (by omega)
    have a3 : g 71 = rf_f f th z kp ed nt nl wi ht sy sz bf rs rr rq rp mm ln lo lf lt co ro pg pf hsh 71 := hk.2 71 (by omega) (show 71 < n by omega)
    exact (a1.trans a3).trans a2.symm
  · have a1 : cl_f g I' (P9 b2) M' H' Y' Z' 60 = g 60 := cl_a60 (by omega)
    exact ⟨_, a1.trans ((congrFun eg 60).trans rfl)⟩
  · show JM G 12 mR (.ref 60 :: as) (n2, va_up (cl_f g I' (P9 b2) M' H' Y' Z') 71 c) 0 0 _
    rw [show cl_f g I' (P9 b2) M' H' Y' Z' = cl_f (rf_f g th z kp ed nt nl wi ht sy sz bf rs rr rq rp mm ln lo lf lt co ro pg pf hsh) I' (P9 b2) M' H' Y' Z' from congrArg (fun q => cl_f q I' (P9 b2) M' H' Y' Z') eg, crf, rf_up71]
    refine (hr (va_up (cl_f g I' (P9 b2) M' H' Y' Z') 71 c)).mono fun r2 h10 hq => ?_
    obtain ⟨e3, e4⟩ := hq
    subst e4
    refine ⟨a, e3, fun _ => rfl, rf_71, ?_⟩
    rw [← p1, ← p2, ← p3]; exact st_i hL2
end LINK
