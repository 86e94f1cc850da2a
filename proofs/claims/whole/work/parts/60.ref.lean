/-! ===== the reference: its object ===== -/
def rf_c (th ed wi ht sz rs rr rq rp mm ln co ro pg : Int) (hsh : Int64) : List Value := [.int (jI th), .ref 61, .ref 62, .int (jI ed), .ref 63, .ref 64, .int (jI wi), .int (jI ht), .ref 65, .int (jI sz), .ref 66, .int (jI rs), .int (jI rr), .int (jI rq), .int (jI rp), .int (jI mm), .int (jI ln), .ref 67, .ref 68, .ref 69, .int (jI co), .int (jI ro), .int (jI pg), .ref 70, .long hsh]
def rf_f (f : Nat → ji_C) (th : Int) (z : Nat → Int) (kp : Nat → Int) (ed : Int) (nt : Nat → Int) (nl : Nat → Int) (wi : Int) (ht : Int) (sy : Nat → Int) (sz : Int) (bf : Nat → Int) (rs : Int) (rr : Int) (rq : Int) (rp : Int) (mm : Int) (ln : Int) (lo : Nat → Int) (lf : Nat → Int) (lt : Nat → Int) (co : Int) (ro : Int) (pg : Int) (pf : Nat → Int) (hsh : Int64) : Nat → ji_C := fun x =>
  if x = 60 then .inl (8, rf_c th ed wi ht sz rs rr rq rp mm ln co ro pg hsh)
  else if x = 61 then .inr (.int, 3695, .inl z)
  else if x = 62 then .inr (.int, 14780, .inl kp)
  else if x = 63 then .inr (.int, 1000, .inl nt)
  else if x = 64 then .inr (.int, 10, .inl nl)
  else if x = 65 then .inr (.int, 5, .inl sy)
  else if x = 66 then .inr (.int, 100, .inl bf)
  else if x = 67 then .inr (.int, 240, .inl lo)
  else if x = 68 then .inr (.int, 240, .inl lf)
  else if x = 69 then .inr (.int, 240, .inl lt)
  else if x = 70 then .inr (.int, 241, .inl pf)
  else f x
section JiK
variable {G : ji_G} {d : Nat} {M : ji_M} {pc : Nat} {L : List (Option Value)} {st : List Value} {h h2 : ji_H} {bc bs : Nat} {Q : ji_R → ji_H → Prop}
theorem ji_ialoadK {q n k : Nat} {g : Nat → Int} {i : Int} (hd : decode M.2.1 pc = .ok (.iaload, 1)) (hq : h.2 q = .inr (.int, n, .inl g)) (hi : i = (k : Int)) (hk : k < n ∧ k < 2147483648)
    (kk : JW G d M (pc + 1) L (.int (jI (g k)) :: st) h bc bs Q) : JW G d M pc L (.int (jI i) :: .ref q :: st) h bc bs Q := by
  subst hi; exact ji_iaload hd hq (by omega) (by rw [Int.toNat_natCast]; exact kk)
theorem ji_iastoreK {q n k : Nat} {g : Nat → Int} {i x : Int} (hd : decode M.2.1 pc = .ok (.iastore, 1)) (hq : h.2 q = .inr (.int, n, .inl g)) (hi : i = (k : Int)) (hk : k < n ∧ k < 2147483648) (he : (h.1, va_up h.2 q (.inr (.int, n, .inl (va_up g k x)))) = h2)
    (kk : JW G d M (pc + 1) L st h2 bc bs Q) : JW G d M pc L (.int (jI x) :: .int (jI i) :: .ref q :: st) h bc bs Q := by
  subst hi; subst he; exact ji_iastore hd hq (by omega) (by rw [Int.toNat_natCast]; exact kk)
end JiK
section RFB
variable {G : ji_G} {d n : Nat} {f : Nat → ji_C} {th ed wi ht sz rs rr rq rp mm ln co ro pg : Int} {z kp nt nl sy bf lo lf lt pf : Nat → Int} {hsh : Int64}
theorem rf_60 : (n, rf_f f th z kp ed nt nl wi ht sy sz bf rs rr rq rp mm ln lo lf lt co ro pg pf hsh).2 60 = .inl (8, rf_c th ed wi ht sz rs rr rq rp mm ln co ro pg hsh) := rfl
theorem rf_61 : (n, rf_f f th z kp ed nt nl wi ht sy sz bf rs rr rq rp mm ln lo lf lt co ro pg pf hsh).2 61 = .inr (.int, 3695, .inl z) := rfl
theorem rf_62 : (n, rf_f f th z kp ed nt nl wi ht sy sz bf rs rr rq rp mm ln lo lf lt co ro pg pf hsh).2 62 = .inr (.int, 14780, .inl kp) := rfl
theorem rf_63 : (n, rf_f f th z kp ed nt nl wi ht sy sz bf rs rr rq rp mm ln lo lf lt co ro pg pf hsh).2 63 = .inr (.int, 1000, .inl nt) := rfl
theorem rf_64 : (n, rf_f f th z kp ed nt nl wi ht sy sz bf rs rr rq rp mm ln lo lf lt co ro pg pf hsh).2 64 = .inr (.int, 10, .inl nl) := rfl
theorem rf_65 : (n, rf_f f th z kp ed nt nl wi ht sy sz bf rs rr rq rp mm ln lo lf lt co ro pg pf hsh).2 65 = .inr (.int, 5, .inl sy) := rfl
theorem rf_66 : (n, rf_f f th z kp ed nt nl wi ht sy sz bf rs rr rq rp mm ln lo lf lt co ro pg pf hsh).2 66 = .inr (.int, 100, .inl bf) := rfl
theorem rf_67 : (n, rf_f f th z kp ed nt nl wi ht sy sz bf rs rr rq rp mm ln lo lf lt co ro pg pf hsh).2 67 = .inr (.int, 240, .inl lo) := rfl
theorem rf_68 : (n, rf_f f th z kp ed nt nl wi ht sy sz bf rs rr rq rp mm ln lo lf lt co ro pg pf hsh).2 68 = .inr (.int, 240, .inl lf) := rfl
theorem rf_69 : (n, rf_f f th z kp ed nt nl wi ht sy sz bf rs rr rq rp mm ln lo lf lt co ro pg pf hsh).2 69 = .inr (.int, 240, .inl lt) := rfl
theorem rf_70 : (n, rf_f f th z kp ed nt nl wi ht sy sz bf rs rr rq rp mm ln lo lf lt co ro pg pf hsh).2 70 = .inr (.int, 241, .inl pf) := rfl
theorem rf_o {x : Nat} (hx : x < 60 ∨ 70 < x) : rf_f f th z kp ed nt nl wi ht sy sz bf rs rr rq rp mm ln lo lf lt co ro pg pf hsh x = f x := by
  unfold rf_f
  rw [if_neg (by omega), if_neg (by omega), if_neg (by omega), if_neg (by omega), if_neg (by omega), if_neg (by omega), if_neg (by omega), if_neg (by omega), if_neg (by omega), if_neg (by omega), if_neg (by omega)]
theorem rf_pth {v : Int} : ((n, rf_f f th z kp ed nt nl wi ht sy sz bf rs rr rq rp mm ln lo lf lt co ro pg pf hsh).1, va_up (n, rf_f f th z kp ed nt nl wi ht sy sz bf rs rr rq rp mm ln lo lf lt co ro pg pf hsh).2 60 (.inl (8, (rf_c th ed wi ht sz rs rr rq rp mm ln co ro pg hsh).set 0 (.int (jI v))))) = (n, rf_f f v z kp ed nt nl wi ht sy sz bf rs rr rq rp mm ln lo lf lt co ro pg pf hsh) := by
  refine Prod.ext rfl (funext fun x => ?_)
  by_cases hx : x = 60
  · subst hx; simp only [va_up_self]; rfl
  · refine (va_up_ne _ _ hx).trans ?_
    show rf_f _ th z kp ed nt nl wi ht sy sz bf rs rr rq rp mm ln lo lf lt co ro pg pf hsh x = rf_f _ v z kp ed nt nl wi ht sy sz bf rs rr rq rp mm ln lo lf lt co ro pg pf hsh x
    unfold rf_f
    rw [if_neg hx, if_neg hx]
theorem rf_ped {v : Int} : ((n, rf_f f th z kp ed nt nl wi ht sy sz bf rs rr rq rp mm ln lo lf lt co ro pg pf hsh).1, va_up (n, rf_f f th z kp ed nt nl wi ht sy sz bf rs rr rq rp mm ln lo lf lt co ro pg pf hsh).2 60 (.inl (8, (rf_c th ed wi ht sz rs rr rq rp mm ln co ro pg hsh).set 3 (.int (jI v))))) = (n, rf_f f th z kp v nt nl wi ht sy sz bf rs rr rq rp mm ln lo lf lt co ro pg pf hsh) := by
  refine Prod.ext rfl (funext fun x => ?_)
  by_cases hx : x = 60
  · subst hx; simp only [va_up_self]; rfl
  · refine (va_up_ne _ _ hx).trans ?_
    show rf_f _ th z kp ed nt nl wi ht sy sz bf rs rr rq rp mm ln lo lf lt co ro pg pf hsh x = rf_f _ th z kp v nt nl wi ht sy sz bf rs rr rq rp mm ln lo lf lt co ro pg pf hsh x
    unfold rf_f
    rw [if_neg hx, if_neg hx]
theorem rf_pwi {v : Int} : ((n, rf_f f th z kp ed nt nl wi ht sy sz bf rs rr rq rp mm ln lo lf lt co ro pg pf hsh).1, va_up (n, rf_f f th z kp ed nt nl wi ht sy sz bf rs rr rq rp mm ln lo lf lt co ro pg pf hsh).2 60 (.inl (8, (rf_c th ed wi ht sz rs rr rq rp mm ln co ro pg hsh).set 6 (.int (jI v))))) = (n, rf_f f th z kp ed nt nl v ht sy sz bf rs rr rq rp mm ln lo lf lt co ro pg pf hsh) := by
  refine Prod.ext rfl (funext fun x => ?_)
  by_cases hx : x = 60
  · subst hx; simp only [va_up_self]; rfl
  · refine (va_up_ne _ _ hx).trans ?_
    show rf_f _ th z kp ed nt nl wi ht sy sz bf rs rr rq rp mm ln lo lf lt co ro pg pf hsh x = rf_f _ th z kp ed nt nl v ht sy sz bf rs rr rq rp mm ln lo lf lt co ro pg pf hsh x
    unfold rf_f
    rw [if_neg hx, if_neg hx]
theorem rf_pht {v : Int} : ((n, rf_f f th z kp ed nt nl wi ht sy sz bf rs rr rq rp mm ln lo lf lt co ro pg pf hsh).1, va_up (n, rf_f f th z kp ed nt nl wi ht sy sz bf rs rr rq rp mm ln lo lf lt co ro pg pf hsh).2 60 (.inl (8, (rf_c th ed wi ht sz rs rr rq rp mm ln co ro pg hsh).set 7 (.int (jI v))))) = (n, rf_f f th z kp ed nt nl wi v sy sz bf rs rr rq rp mm ln lo lf lt co ro pg pf hsh) := by
  refine Prod.ext rfl (funext fun x => ?_)
  by_cases hx : x = 60
  · subst hx; simp only [va_up_self]; rfl
  · refine (va_up_ne _ _ hx).trans ?_
    show rf_f _ th z kp ed nt nl wi ht sy sz bf rs rr rq rp mm ln lo lf lt co ro pg pf hsh x = rf_f _ th z kp ed nt nl wi v sy sz bf rs rr rq rp mm ln lo lf lt co ro pg pf hsh x
    unfold rf_f
    rw [if_neg hx, if_neg hx]
theorem rf_psz {v : Int} : ((n, rf_f f th z kp ed nt nl wi ht sy sz bf rs rr rq rp mm ln lo lf lt co ro pg pf hsh).1, va_up (n, rf_f f th z kp ed nt nl wi ht sy sz bf rs rr rq rp mm ln lo lf lt co ro pg pf hsh).2 60 (.inl (8, (rf_c th ed wi ht sz rs rr rq rp mm ln co ro pg hsh).set 9 (.int (jI v))))) = (n, rf_f f th z kp ed nt nl wi ht sy v bf rs rr rq rp mm ln lo lf lt co ro pg pf hsh) := by
  refine Prod.ext rfl (funext fun x => ?_)
  by_cases hx : x = 60
  · subst hx; simp only [va_up_self]; rfl
  · refine (va_up_ne _ _ hx).trans ?_
    show rf_f _ th z kp ed nt nl wi ht sy sz bf rs rr rq rp mm ln lo lf lt co ro pg pf hsh x = rf_f _ th z kp ed nt nl wi ht sy v bf rs rr rq rp mm ln lo lf lt co ro pg pf hsh x
    unfold rf_f
    rw [if_neg hx, if_neg hx]
theorem rf_prs {v : Int} : ((n, rf_f f th z kp ed nt nl wi ht sy sz bf rs rr rq rp mm ln lo lf lt co ro pg pf hsh).1, va_up (n, rf_f f th z kp ed nt nl wi ht sy sz bf rs rr rq rp mm ln lo lf lt co ro pg pf hsh).2 60 (.inl (8, (rf_c th ed wi ht sz rs rr rq rp mm ln co ro pg hsh).set 11 (.int (jI v))))) = (n, rf_f f th z kp ed nt nl wi ht sy sz bf v rr rq rp mm ln lo lf lt co ro pg pf hsh) := by
  refine Prod.ext rfl (funext fun x => ?_)
  by_cases hx : x = 60
  · subst hx; simp only [va_up_self]; rfl
  · refine (va_up_ne _ _ hx).trans ?_
    show rf_f _ th z kp ed nt nl wi ht sy sz bf rs rr rq rp mm ln lo lf lt co ro pg pf hsh x = rf_f _ th z kp ed nt nl wi ht sy sz bf v rr rq rp mm ln lo lf lt co ro pg pf hsh x
    unfold rf_f
    rw [if_neg hx, if_neg hx]
theorem rf_prr {v : Int} : ((n, rf_f f th z kp ed nt nl wi ht sy sz bf rs rr rq rp mm ln lo lf lt co ro pg pf hsh).1, va_up (n, rf_f f th z kp ed nt nl wi ht sy sz bf rs rr rq rp mm ln lo lf lt co ro pg pf hsh).2 60 (.inl (8, (rf_c th ed wi ht sz rs rr rq rp mm ln co ro pg hsh).set 12 (.int (jI v))))) = (n, rf_f f th z kp ed nt nl wi ht sy sz bf rs v rq rp mm ln lo lf lt co ro pg pf hsh) := by
  refine Prod.ext rfl (funext fun x => ?_)
  by_cases hx : x = 60
  · subst hx; simp only [va_up_self]; rfl
  · refine (va_up_ne _ _ hx).trans ?_
    show rf_f _ th z kp ed nt nl wi ht sy sz bf rs rr rq rp mm ln lo lf lt co ro pg pf hsh x = rf_f _ th z kp ed nt nl wi ht sy sz bf rs v rq rp mm ln lo lf lt co ro pg pf hsh x
    unfold rf_f
    rw [if_neg hx, if_neg hx]
theorem rf_prq {v : Int} : ((n, rf_f f th z kp ed nt nl wi ht sy sz bf rs rr rq rp mm ln lo lf lt co ro pg pf hsh).1, va_up (n, rf_f f th z kp ed nt nl wi ht sy sz bf rs rr rq rp mm ln lo lf lt co ro pg pf hsh).2 60 (.inl (8, (rf_c th ed wi ht sz rs rr rq rp mm ln co ro pg hsh).set 13 (.int (jI v))))) = (n, rf_f f th z kp ed nt nl wi ht sy sz bf rs rr v rp mm ln lo lf lt co ro pg pf hsh) := by
  refine Prod.ext rfl (funext fun x => ?_)
  by_cases hx : x = 60
  · subst hx; simp only [va_up_self]; rfl
  · refine (va_up_ne _ _ hx).trans ?_
    show rf_f _ th z kp ed nt nl wi ht sy sz bf rs rr rq rp mm ln lo lf lt co ro pg pf hsh x = rf_f _ th z kp ed nt nl wi ht sy sz bf rs rr v rp mm ln lo lf lt co ro pg pf hsh x
    unfold rf_f
    rw [if_neg hx, if_neg hx]
theorem rf_prp {v : Int} : ((n, rf_f f th z kp ed nt nl wi ht sy sz bf rs rr rq rp mm ln lo lf lt co ro pg pf hsh).1, va_up (n, rf_f f th z kp ed nt nl wi ht sy sz bf rs rr rq rp mm ln lo lf lt co ro pg pf hsh).2 60 (.inl (8, (rf_c th ed wi ht sz rs rr rq rp mm ln co ro pg hsh).set 14 (.int (jI v))))) = (n, rf_f f th z kp ed nt nl wi ht sy sz bf rs rr rq v mm ln lo lf lt co ro pg pf hsh) := by
  refine Prod.ext rfl (funext fun x => ?_)
  by_cases hx : x = 60
  · subst hx; simp only [va_up_self]; rfl
  · refine (va_up_ne _ _ hx).trans ?_
    show rf_f _ th z kp ed nt nl wi ht sy sz bf rs rr rq rp mm ln lo lf lt co ro pg pf hsh x = rf_f _ th z kp ed nt nl wi ht sy sz bf rs rr rq v mm ln lo lf lt co ro pg pf hsh x
    unfold rf_f
    rw [if_neg hx, if_neg hx]
theorem rf_pmm {v : Int} : ((n, rf_f f th z kp ed nt nl wi ht sy sz bf rs rr rq rp mm ln lo lf lt co ro pg pf hsh).1, va_up (n, rf_f f th z kp ed nt nl wi ht sy sz bf rs rr rq rp mm ln lo lf lt co ro pg pf hsh).2 60 (.inl (8, (rf_c th ed wi ht sz rs rr rq rp mm ln co ro pg hsh).set 15 (.int (jI v))))) = (n, rf_f f th z kp ed nt nl wi ht sy sz bf rs rr rq rp v ln lo lf lt co ro pg pf hsh) := by
  refine Prod.ext rfl (funext fun x => ?_)
  by_cases hx : x = 60
  · subst hx; simp only [va_up_self]; rfl
  · refine (va_up_ne _ _ hx).trans ?_
    show rf_f _ th z kp ed nt nl wi ht sy sz bf rs rr rq rp mm ln lo lf lt co ro pg pf hsh x = rf_f _ th z kp ed nt nl wi ht sy sz bf rs rr rq rp v ln lo lf lt co ro pg pf hsh x
    unfold rf_f
    rw [if_neg hx, if_neg hx]
theorem rf_pln {v : Int} : ((n, rf_f f th z kp ed nt nl wi ht sy sz bf rs rr rq rp mm ln lo lf lt co ro pg pf hsh).1, va_up (n, rf_f f th z kp ed nt nl wi ht sy sz bf rs rr rq rp mm ln lo lf lt co ro pg pf hsh).2 60 (.inl (8, (rf_c th ed wi ht sz rs rr rq rp mm ln co ro pg hsh).set 16 (.int (jI v))))) = (n, rf_f f th z kp ed nt nl wi ht sy sz bf rs rr rq rp mm v lo lf lt co ro pg pf hsh) := by
  refine Prod.ext rfl (funext fun x => ?_)
  by_cases hx : x = 60
  · subst hx; simp only [va_up_self]; rfl
  · refine (va_up_ne _ _ hx).trans ?_
    show rf_f _ th z kp ed nt nl wi ht sy sz bf rs rr rq rp mm ln lo lf lt co ro pg pf hsh x = rf_f _ th z kp ed nt nl wi ht sy sz bf rs rr rq rp mm v lo lf lt co ro pg pf hsh x
    unfold rf_f
    rw [if_neg hx, if_neg hx]
theorem rf_pco {v : Int} : ((n, rf_f f th z kp ed nt nl wi ht sy sz bf rs rr rq rp mm ln lo lf lt co ro pg pf hsh).1, va_up (n, rf_f f th z kp ed nt nl wi ht sy sz bf rs rr rq rp mm ln lo lf lt co ro pg pf hsh).2 60 (.inl (8, (rf_c th ed wi ht sz rs rr rq rp mm ln co ro pg hsh).set 20 (.int (jI v))))) = (n, rf_f f th z kp ed nt nl wi ht sy sz bf rs rr rq rp mm ln lo lf lt v ro pg pf hsh) := by
  refine Prod.ext rfl (funext fun x => ?_)
  by_cases hx : x = 60
  · subst hx; simp only [va_up_self]; rfl
  · refine (va_up_ne _ _ hx).trans ?_
    show rf_f _ th z kp ed nt nl wi ht sy sz bf rs rr rq rp mm ln lo lf lt co ro pg pf hsh x = rf_f _ th z kp ed nt nl wi ht sy sz bf rs rr rq rp mm ln lo lf lt v ro pg pf hsh x
    unfold rf_f
    rw [if_neg hx, if_neg hx]
theorem rf_pro {v : Int} : ((n, rf_f f th z kp ed nt nl wi ht sy sz bf rs rr rq rp mm ln lo lf lt co ro pg pf hsh).1, va_up (n, rf_f f th z kp ed nt nl wi ht sy sz bf rs rr rq rp mm ln lo lf lt co ro pg pf hsh).2 60 (.inl (8, (rf_c th ed wi ht sz rs rr rq rp mm ln co ro pg hsh).set 21 (.int (jI v))))) = (n, rf_f f th z kp ed nt nl wi ht sy sz bf rs rr rq rp mm ln lo lf lt co v pg pf hsh) := by
  refine Prod.ext rfl (funext fun x => ?_)
  by_cases hx : x = 60
  · subst hx; simp only [va_up_self]; rfl
  · refine (va_up_ne _ _ hx).trans ?_
    show rf_f _ th z kp ed nt nl wi ht sy sz bf rs rr rq rp mm ln lo lf lt co ro pg pf hsh x = rf_f _ th z kp ed nt nl wi ht sy sz bf rs rr rq rp mm ln lo lf lt co v pg pf hsh x
    unfold rf_f
    rw [if_neg hx, if_neg hx]
theorem rf_ppg {v : Int} : ((n, rf_f f th z kp ed nt nl wi ht sy sz bf rs rr rq rp mm ln lo lf lt co ro pg pf hsh).1, va_up (n, rf_f f th z kp ed nt nl wi ht sy sz bf rs rr rq rp mm ln lo lf lt co ro pg pf hsh).2 60 (.inl (8, (rf_c th ed wi ht sz rs rr rq rp mm ln co ro pg hsh).set 22 (.int (jI v))))) = (n, rf_f f th z kp ed nt nl wi ht sy sz bf rs rr rq rp mm ln lo lf lt co ro v pf hsh) := by
  refine Prod.ext rfl (funext fun x => ?_)
  by_cases hx : x = 60
  · subst hx; simp only [va_up_self]; rfl
  · refine (va_up_ne _ _ hx).trans ?_
    show rf_f _ th z kp ed nt nl wi ht sy sz bf rs rr rq rp mm ln lo lf lt co ro pg pf hsh x = rf_f _ th z kp ed nt nl wi ht sy sz bf rs rr rq rp mm ln lo lf lt co ro v pf hsh x
    unfold rf_f
    rw [if_neg hx, if_neg hx]
theorem rf_phsh {v : Int64} : ((n, rf_f f th z kp ed nt nl wi ht sy sz bf rs rr rq rp mm ln lo lf lt co ro pg pf hsh).1, va_up (n, rf_f f th z kp ed nt nl wi ht sy sz bf rs rr rq rp mm ln lo lf lt co ro pg pf hsh).2 60 (.inl (8, (rf_c th ed wi ht sz rs rr rq rp mm ln co ro pg hsh).set 24 (.long v)))) = (n, rf_f f th z kp ed nt nl wi ht sy sz bf rs rr rq rp mm ln lo lf lt co ro pg pf v) := by
  refine Prod.ext rfl (funext fun x => ?_)
  by_cases hx : x = 60
  · subst hx; simp only [va_up_self]; rfl
  · refine (va_up_ne _ _ hx).trans ?_
    show rf_f _ th z kp ed nt nl wi ht sy sz bf rs rr rq rp mm ln lo lf lt co ro pg pf hsh x = rf_f _ th z kp ed nt nl wi ht sy sz bf rs rr rq rp mm ln lo lf lt co ro pg pf v x
    unfold rf_f
    rw [if_neg hx, if_neg hx]
theorem rf_s61 {g : Nat → Int} : ((n, rf_f f th z kp ed nt nl wi ht sy sz bf rs rr rq rp mm ln lo lf lt co ro pg pf hsh).1, va_up (n, rf_f f th z kp ed nt nl wi ht sy sz bf rs rr rq rp mm ln lo lf lt co ro pg pf hsh).2 61 (.inr (.int, 3695, .inl g))) = (n, rf_f f th g kp ed nt nl wi ht sy sz bf rs rr rq rp mm ln lo lf lt co ro pg pf hsh) := by
  refine Prod.ext rfl (funext fun x => ?_)
  by_cases hx : x = 61
  · subst hx; simp only [va_up_self]; rfl
  · refine (va_up_ne _ _ hx).trans ?_
    show rf_f _ th z kp ed nt nl wi ht sy sz bf rs rr rq rp mm ln lo lf lt co ro pg pf hsh x = rf_f _ th g kp ed nt nl wi ht sy sz bf rs rr rq rp mm ln lo lf lt co ro pg pf hsh x
    unfold rf_f
    simp only [if_neg hx]
theorem rf_s62 {g : Nat → Int} : ((n, rf_f f th z kp ed nt nl wi ht sy sz bf rs rr rq rp mm ln lo lf lt co ro pg pf hsh).1, va_up (n, rf_f f th z kp ed nt nl wi ht sy sz bf rs rr rq rp mm ln lo lf lt co ro pg pf hsh).2 62 (.inr (.int, 14780, .inl g))) = (n, rf_f f th z g ed nt nl wi ht sy sz bf rs rr rq rp mm ln lo lf lt co ro pg pf hsh) := by
  refine Prod.ext rfl (funext fun x => ?_)
  by_cases hx : x = 62
  · subst hx; simp only [va_up_self]; rfl
  · refine (va_up_ne _ _ hx).trans ?_
    show rf_f _ th z kp ed nt nl wi ht sy sz bf rs rr rq rp mm ln lo lf lt co ro pg pf hsh x = rf_f _ th z g ed nt nl wi ht sy sz bf rs rr rq rp mm ln lo lf lt co ro pg pf hsh x
    unfold rf_f
    simp only [if_neg hx]
theorem rf_s63 {g : Nat → Int} : ((n, rf_f f th z kp ed nt nl wi ht sy sz bf rs rr rq rp mm ln lo lf lt co ro pg pf hsh).1, va_up (n, rf_f f th z kp ed nt nl wi ht sy sz bf rs rr rq rp mm ln lo lf lt co ro pg pf hsh).2 63 (.inr (.int, 1000, .inl g))) = (n, rf_f f th z kp ed g nl wi ht sy sz bf rs rr rq rp mm ln lo lf lt co ro pg pf hsh) := by
  refine Prod.ext rfl (funext fun x => ?_)
  by_cases hx : x = 63
  · subst hx; simp only [va_up_self]; rfl
  · refine (va_up_ne _ _ hx).trans ?_
    show rf_f _ th z kp ed nt nl wi ht sy sz bf rs rr rq rp mm ln lo lf lt co ro pg pf hsh x = rf_f _ th z kp ed g nl wi ht sy sz bf rs rr rq rp mm ln lo lf lt co ro pg pf hsh x
    unfold rf_f
    simp only [if_neg hx]
theorem rf_s64 {g : Nat → Int} : ((n, rf_f f th z kp ed nt nl wi ht sy sz bf rs rr rq rp mm ln lo lf lt co ro pg pf hsh).1, va_up (n, rf_f f th z kp ed nt nl wi ht sy sz bf rs rr rq rp mm ln lo lf lt co ro pg pf hsh).2 64 (.inr (.int, 10, .inl g))) = (n, rf_f f th z kp ed nt g wi ht sy sz bf rs rr rq rp mm ln lo lf lt co ro pg pf hsh) := by
  refine Prod.ext rfl (funext fun x => ?_)
  by_cases hx : x = 64
  · subst hx; simp only [va_up_self]; rfl
  · refine (va_up_ne _ _ hx).trans ?_
    show rf_f _ th z kp ed nt nl wi ht sy sz bf rs rr rq rp mm ln lo lf lt co ro pg pf hsh x = rf_f _ th z kp ed nt g wi ht sy sz bf rs rr rq rp mm ln lo lf lt co ro pg pf hsh x
    unfold rf_f
    simp only [if_neg hx]
theorem rf_s65 {g : Nat → Int} : ((n, rf_f f th z kp ed nt nl wi ht sy sz bf rs rr rq rp mm ln lo lf lt co ro pg pf hsh).1, va_up (n, rf_f f th z kp ed nt nl wi ht sy sz bf rs rr rq rp mm ln lo lf lt co ro pg pf hsh).2 65 (.inr (.int, 5, .inl g))) = (n, rf_f f th z kp ed nt nl wi ht g sz bf rs rr rq rp mm ln lo lf lt co ro pg pf hsh) := by
  refine Prod.ext rfl (funext fun x => ?_)
  by_cases hx : x = 65
  · subst hx; simp only [va_up_self]; rfl
  · refine (va_up_ne _ _ hx).trans ?_
    show rf_f _ th z kp ed nt nl wi ht sy sz bf rs rr rq rp mm ln lo lf lt co ro pg pf hsh x = rf_f _ th z kp ed nt nl wi ht g sz bf rs rr rq rp mm ln lo lf lt co ro pg pf hsh x
    unfold rf_f
    simp only [if_neg hx]
theorem rf_s66 {g : Nat → Int} : ((n, rf_f f th z kp ed nt nl wi ht sy sz bf rs rr rq rp mm ln lo lf lt co ro pg pf hsh).1, va_up (n, rf_f f th z kp ed nt nl wi ht sy sz bf rs rr rq rp mm ln lo lf lt co ro pg pf hsh).2 66 (.inr (.int, 100, .inl g))) = (n, rf_f f th z kp ed nt nl wi ht sy sz g rs rr rq rp mm ln lo lf lt co ro pg pf hsh) := by
  refine Prod.ext rfl (funext fun x => ?_)
  by_cases hx : x = 66
  · subst hx; simp only [va_up_self]; rfl
  · refine (va_up_ne _ _ hx).trans ?_
    show rf_f _ th z kp ed nt nl wi ht sy sz bf rs rr rq rp mm ln lo lf lt co ro pg pf hsh x = rf_f _ th z kp ed nt nl wi ht sy sz g rs rr rq rp mm ln lo lf lt co ro pg pf hsh x
    unfold rf_f
    simp only [if_neg hx]
theorem rf_s67 {g : Nat → Int} : ((n, rf_f f th z kp ed nt nl wi ht sy sz bf rs rr rq rp mm ln lo lf lt co ro pg pf hsh).1, va_up (n, rf_f f th z kp ed nt nl wi ht sy sz bf rs rr rq rp mm ln lo lf lt co ro pg pf hsh).2 67 (.inr (.int, 240, .inl g))) = (n, rf_f f th z kp ed nt nl wi ht sy sz bf rs rr rq rp mm ln g lf lt co ro pg pf hsh) := by
  refine Prod.ext rfl (funext fun x => ?_)
  by_cases hx : x = 67
  · subst hx; simp only [va_up_self]; rfl
  · refine (va_up_ne _ _ hx).trans ?_
    show rf_f _ th z kp ed nt nl wi ht sy sz bf rs rr rq rp mm ln lo lf lt co ro pg pf hsh x = rf_f _ th z kp ed nt nl wi ht sy sz bf rs rr rq rp mm ln g lf lt co ro pg pf hsh x
    unfold rf_f
    simp only [if_neg hx]
theorem rf_s68 {g : Nat → Int} : ((n, rf_f f th z kp ed nt nl wi ht sy sz bf rs rr rq rp mm ln lo lf lt co ro pg pf hsh).1, va_up (n, rf_f f th z kp ed nt nl wi ht sy sz bf rs rr rq rp mm ln lo lf lt co ro pg pf hsh).2 68 (.inr (.int, 240, .inl g))) = (n, rf_f f th z kp ed nt nl wi ht sy sz bf rs rr rq rp mm ln lo g lt co ro pg pf hsh) := by
  refine Prod.ext rfl (funext fun x => ?_)
  by_cases hx : x = 68
  · subst hx; simp only [va_up_self]; rfl
  · refine (va_up_ne _ _ hx).trans ?_
    show rf_f _ th z kp ed nt nl wi ht sy sz bf rs rr rq rp mm ln lo lf lt co ro pg pf hsh x = rf_f _ th z kp ed nt nl wi ht sy sz bf rs rr rq rp mm ln lo g lt co ro pg pf hsh x
    unfold rf_f
    simp only [if_neg hx]
theorem rf_s69 {g : Nat → Int} : ((n, rf_f f th z kp ed nt nl wi ht sy sz bf rs rr rq rp mm ln lo lf lt co ro pg pf hsh).1, va_up (n, rf_f f th z kp ed nt nl wi ht sy sz bf rs rr rq rp mm ln lo lf lt co ro pg pf hsh).2 69 (.inr (.int, 240, .inl g))) = (n, rf_f f th z kp ed nt nl wi ht sy sz bf rs rr rq rp mm ln lo lf g co ro pg pf hsh) := by
  refine Prod.ext rfl (funext fun x => ?_)
  by_cases hx : x = 69
  · subst hx; simp only [va_up_self]; rfl
  · refine (va_up_ne _ _ hx).trans ?_
    show rf_f _ th z kp ed nt nl wi ht sy sz bf rs rr rq rp mm ln lo lf lt co ro pg pf hsh x = rf_f _ th z kp ed nt nl wi ht sy sz bf rs rr rq rp mm ln lo lf g co ro pg pf hsh x
    unfold rf_f
    simp only [if_neg hx]
theorem rf_s70 {g : Nat → Int} : ((n, rf_f f th z kp ed nt nl wi ht sy sz bf rs rr rq rp mm ln lo lf lt co ro pg pf hsh).1, va_up (n, rf_f f th z kp ed nt nl wi ht sy sz bf rs rr rq rp mm ln lo lf lt co ro pg pf hsh).2 70 (.inr (.int, 241, .inl g))) = (n, rf_f f th z kp ed nt nl wi ht sy sz bf rs rr rq rp mm ln lo lf lt co ro pg g hsh) := by
  refine Prod.ext rfl (funext fun x => ?_)
  by_cases hx : x = 70
  · subst hx; simp only [va_up_self]; rfl
  · refine (va_up_ne _ _ hx).trans ?_
    show rf_f _ th z kp ed nt nl wi ht sy sz bf rs rr rq rp mm ln lo lf lt co ro pg pf hsh x = rf_f _ th z kp ed nt nl wi ht sy sz bf rs rr rq rp mm ln lo lf lt co ro pg g hsh x
    unfold rf_f
    simp only [if_neg hx]
end RFB
