/-! ===== pure: what is typed ===== -/
/-- the two readers agree -/
def IR (b : Int) (S : sy_T) (R : rf_S) : Prop := S.1 = b ∧ (b = 0 ∨ b = 1) ∧ ((b = 0 ∧ S.2.1 = 0) ∨ (b = 1 ∧ S.2.1 = R.2.2.2.2)) ∧ (R.2.2.2.2 = 0 ∨ R.2.2.2.2 = 1) ∧ S.2.2.1 = R.2.2.2.1 ∧ S.2.2.2.1 = R.2.2.1 ∧ S.2.2.2.2.1 = R.1 ∧ 0 ≤ R.1 ∧ (0 < R.1 → R.2.2.2.2 = 0) ∧ ((R.2.1 = 0 ∧ S.2.2.2.2.2.1 = 0 ∧ S.2.2.2.2.2.2 = 0) ∨ (R.2.1 = 1 ∧ 0 < R.1 ∧ S.2.2.2.2.2.1 = 1 ∧ S.2.2.2.2.2.2 = 0) ∨ (R.2.1 = 2 ∧ 0 < R.1 ∧ S.2.2.2.2.2.1 = 0 ∧ S.2.2.2.2.2.2 = 1))
def IRo (b : Int) (A : Int × sy_T) (E : Int × rf_S) : Prop := A.1 = E.1 ∧ (A.1 = 0 ∨ IR b A.2 E.2)
theorem iro_0 {b : Int} {A : Int × sy_T} {E : Int × rf_S} (h : A.1 = 0) (h' : E.1 = 0) : IRo b A E := ⟨by omega, Or.inl h⟩
theorem sy_dm {bk km pg wd sg dm hr c : Int} (h : ¬ dm = 0) : sy_takes (bk, km, pg, wd, sg, dm, hr) c = (sy_digit c, (bk, 0, pg, wd, sg, 0, 1)) := by
  unfold sy_takes; dsimp only; rw [if_pos h]
theorem sy_sg {bk km pg wd sg dm hr c : Int} (h : dm = 0) (hs : ¬ sy_sign c = 0) : sy_takes (bk, km, pg, wd, sg, dm, hr) c = (if hr = 0 ∧ sg + 1 ≤ 12 then 1 else 0, (bk, 0, pg, wd, sg + 1, dm, hr)) := by
  unfold sy_takes; dsimp only; rw [if_neg (by omega), if_pos hs]
theorem sy_94 {bk km pg wd sg dm hr : Int} (h : dm = 0) : sy_takes (bk, km, pg, wd, sg, dm, hr) 94 = (if 0 < sg ∧ hr = 0 then 1 else 0, (bk, 0, pg, wd, sg, 1, hr)) := by
  unfold sy_takes; dsimp only; rw [if_neg (by omega), if_neg (by decide), if_pos rfl]
theorem sy_32 {bk km pg wd sg dm hr : Int} (h : dm = 0) : sy_takes (bk, km, pg, wd, sg, dm, hr) 32 = (if 0 < sg ∧ wd < 12 + 12 * bk then 1 else 0, (bk, 0, pg, wd + 1, 0, 0, 0)) := by
  unfold sy_takes; dsimp only; rw [if_neg (by omega), if_neg (by decide), if_neg (by decide), if_pos rfl]
theorem sy_124 {bk km pg wd sg dm hr : Int} (h : dm = 0) : sy_takes (bk, km, pg, wd, sg, dm, hr) 124 = (if ¬ bk = 0 ∧ 0 < sg ∧ pg < 10 then 1 else 0, (bk, bk, pg + 1, 0 + 1, 0, 0, 0)) := by
  unfold sy_takes; dsimp only; rw [if_neg (by omega), if_neg (by decide), if_neg (by decide), if_neg (by decide), if_pos rfl]
theorem sy_mk {bk km pg wd sg dm hr c : Int} (h : dm = 0) (hc : c = 35 ∨ c = 62) : sy_takes (bk, km, pg, wd, sg, dm, hr) c = (km, (bk, 0, pg, wd, sg, dm, hr)) := by
  have hs : sy_sign c = 0 := by rcases hc with rfl | rfl <;> decide
  unfold sy_takes; dsimp only; rw [if_neg (by omega), if_neg (by omega), if_neg (by omega), if_neg (by omega), if_neg (by omega), if_pos hc]
theorem sy_no {bk km pg wd sg dm hr c : Int} (h : dm = 0) (hs : sy_sign c = 0) (hc : ¬ c = 32 ∧ ¬ c = 124 ∧ ¬ (c = 35 ∨ c = 62) ∧ ¬ c = 94) : sy_takes (bk, km, pg, wd, sg, dm, hr) c = (0, (bk, 0, pg, wd, sg, dm, hr)) := by
  unfold sy_takes; dsimp only; rw [if_neg (by omega), if_neg (by omega), if_neg (by omega), if_neg (by omega), if_neg (by omega), if_neg (by omega)]
theorem rk_32 {b rs rr rq rp mm : Int} : rf_tk b rs rr rq rp mm 32 = (if (0 < rs ∧ ¬ rr = 1) ∧ (b = 0 ∧ rq < 12 ∨ ¬ b = 0 ∧ rq < 24) then (1, 0, 0, rq + 1, rp, mm) else (0, rs, rr, rq + 0, rp, mm)) := by
  unfold rf_tk; rw [if_pos rfl]
theorem rk_124 {b rs rr rq rp mm : Int} : rf_tk b rs rr rq rp mm 124 = (if ¬ b = 0 ∧ (0 < rs ∧ ¬ rr = 1) ∧ rp < 10 then (1, 0, 0, 1, rp + 1, 1) else (0, rs, rr, rq, rp + 0, if mm = 0 then 0 else 1)) := by
  unfold rf_tk; rw [if_neg (by decide), if_pos rfl]
theorem rk_mk {b rs rr rq rp mm c : Int} (hc : c = 35 ∨ c = 62) : rf_tk b rs rr rq rp mm c = (if ¬ b = 0 ∧ ¬ mm = 0 then 1 else 0, rs, rr, rq, rp, 0) := by
  unfold rf_tk; rw [if_neg (by omega), if_neg (by omega), if_pos hc]
theorem rk_tp {b rs rr rq rp mm c : Int} (hc : ¬ c = 32 ∧ ¬ c = 124 ∧ ¬ (c = 35 ∨ c = 62)) : rf_tk b rs rr rq rp mm c = rf_tp rs rr rq rp mm c := by
  unfold rf_tk; rw [if_neg hc.1, if_neg hc.2.1, if_neg hc.2.2]
theorem ir_tk {b : Int} {S : sy_T} {R : rf_S} (h : IR b S R) (c : Int) : IRo b (sy_takes S c) (rf_tk b R.1 R.2.1 R.2.2.1 R.2.2.2.1 R.2.2.2.2 c) := by
  obtain ⟨bk, km, pg, wd, sg, dm, hr⟩ := S
  obtain ⟨rs, rr, rq, rp, mm⟩ := R
  obtain ⟨h1, h2, h3, h4, h5, h6, h7, h8, h9, h10⟩ := h
  dsimp only at h1 h3 h4 h5 h6 h7 h8 h9 h10 ⊢
  subst h1 h5 h6 h7
  by_cases hdm : dm = 0
  · by_cases c32 : c = 32
    · subst c32
      rw [sy_32 hdm, rk_32]
      by_cases k : 0 < sg ∧ wd < 12 + 12 * bk
      · rw [if_pos k, if_pos (by omega)]
        exact ⟨rfl, Or.inr ⟨rfl, h2, by dsimp only; omega, h4, rfl, rfl, rfl, Int.le_refl _, fun q => absurd q (by dsimp only; omega), Or.inl ⟨rfl, rfl, rfl⟩⟩⟩
      · rw [if_neg k, if_neg (by omega)]; exact iro_0 rfl rfl
    by_cases c124 : c = 124
    · subst c124
      rw [sy_124 hdm, rk_124]
      by_cases k : ¬ bk = 0 ∧ 0 < sg ∧ pg < 10
      · rw [if_pos k, if_pos (by omega)]
        exact ⟨rfl, Or.inr ⟨rfl, h2, by dsimp only; omega, Or.inr rfl, rfl, rfl, rfl, Int.le_refl _, fun q => absurd q (by dsimp only; omega), Or.inl ⟨rfl, rfl, rfl⟩⟩⟩
      · rw [if_neg k, if_neg (by omega)]; exact iro_0 rfl rfl
    by_cases cm : c = 35 ∨ c = 62
    · rw [sy_mk hdm cm, rk_mk cm]
      by_cases k : ¬ bk = 0 ∧ ¬ mm = 0
      · rw [if_pos k]
        exact ⟨by dsimp only; omega, Or.inr ⟨rfl, h2, by dsimp only; omega, Or.inl rfl, rfl, rfl, rfl, h8, fun q => rfl, by dsimp only; omega⟩⟩
      · rw [if_neg k]; exact iro_0 (by dsimp only; omega) rfl
    rw [rk_tp ⟨c32, c124, cm⟩]
    unfold rf_tp
    rw [if_neg (by omega)]
    by_cases c94 : c = 94
    · subst c94
      rw [sy_94 hdm, if_pos rfl]
      by_cases k : 0 < sg ∧ rr = 0
      · rw [if_pos k, if_pos (by omega)]
        exact ⟨rfl, Or.inr ⟨rfl, h2, by have := h9 k.1; dsimp only; omega, h4, rfl, rfl, rfl, h8, h9, Or.inr (Or.inl ⟨rfl, k.1, rfl, by dsimp only; omega⟩)⟩⟩
      · rw [if_neg k, if_neg (by omega)]; exact iro_0 rfl rfl
    rw [if_neg c94]
    rcases sy_sign_d c with hs | hs
    · rw [sy_no hdm hs ⟨c32, c124, cm, c94⟩, if_neg (by omega)]; exact iro_0 rfl rfl
    · rw [sy_sg hdm (by omega)]
      by_cases k : sy_sign c = 1 ∧ rr = 0 ∧ sg < 12
      · rw [if_pos k, if_pos (by omega)]
        exact ⟨rfl, Or.inr ⟨rfl, h2, by dsimp only; omega, Or.inl rfl, rfl, rfl, rfl, by dsimp only; omega, fun q => rfl, by dsimp only; omega⟩⟩
      · rw [if_neg k, if_neg (by omega)]; exact iro_0 rfl rfl
  · rw [sy_dm hdm]
    have hr1 : rr = 1 ∧ 0 < sg ∧ dm = 1 ∧ hr = 0 := by omega
    have hm0 := h9 hr1.2.1
    by_cases hd : 48 ≤ c ∧ c ≤ 57
    · have e : sy_digit c = 1 := by unfold sy_digit; rw [if_pos hd]
      rw [rk_tp ⟨by omega, by omega, by omega⟩, e]
      unfold rf_tp
      rw [if_pos hr1.1, if_pos hd]
      exact ⟨rfl, Or.inr ⟨rfl, h2, by dsimp only; omega, h4, rfl, rfl, rfl, h8, h9, Or.inr (Or.inr ⟨rfl, hr1.2.1, rfl, rfl⟩)⟩⟩
    · have e : sy_digit c = 0 := by unfold sy_digit; rw [if_neg hd]
      rw [e]
      refine iro_0 rfl ?_
      by_cases c32 : c = 32
      · subst c32; rw [rk_32, if_neg (by omega)]
      by_cases c124 : c = 124
      · subst c124; rw [rk_124, if_neg (by omega)]
      by_cases cm : c = 35 ∨ c = 62
      · rw [rk_mk cm, if_neg (by omega)]
      rw [rk_tp ⟨c32, c124, cm⟩]
      unfold rf_tp
      rw [if_pos hr1.1, if_neg hd]
theorem ir_ff {b : Int} {len : Int} {g bf : Nat → Int} (hg : ∀ k : Nat, (k : Int) < len → g k = bf k) : ∀ (u : Nat) (i : Int) (S : sy_T) (R : rf_S), 0 ≤ i → i + u = len → IR b S R → (in_ff len g u i S).1 = (rf_rl b bf u i R.1 R.2.1 R.2.2.1 R.2.2.2.1 R.2.2.2.2).1 ∧ ((in_ff len g u i S).1 = len → IR b (in_ff len g u i S).2 (rf_rl b bf u i R.1 R.2.1 R.2.2.1 R.2.2.2.1 R.2.2.2.2).2)
  | 0, i, S, R, h0, hi, h => ⟨by show len = i; omega, fun _ => h⟩
  | u + 1, i, S, R, h0, hi, h => by
    have e := hg i.toNat (by omega)
    obtain ⟨t1, t2⟩ := ir_tk h (bf i.toNat)
    show (if (sy_takes S (g i.toNat)).1 = 0 then _ else _ : Int × sy_T).1 = (if (rf_tk b R.1 R.2.1 R.2.2.1 R.2.2.2.1 R.2.2.2.2 (bf i.toNat)).1 = 0 then _ else _ : Int × rf_S).1 ∧ ((if (sy_takes S (g i.toNat)).1 = 0 then _ else _ : Int × sy_T).1 = len → IR b (if (sy_takes S (g i.toNat)).1 = 0 then _ else _ : Int × sy_T).2 (if (rf_tk b R.1 R.2.1 R.2.2.1 R.2.2.2.1 R.2.2.2.2 (bf i.toNat)).1 = 0 then _ else _ : Int × rf_S).2)
    rw [e]
    by_cases c : (sy_takes S (bf i.toNat)).1 = 0
    · rw [if_pos c, if_pos (by omega)]
      exact ⟨rfl, fun q => absurd q (by dsimp only; omega)⟩
    · rw [if_neg c, if_neg (by omega)]
      exact ir_ff hg u (i + 1) _ _ (by omega) (by omega) (t2.resolve_left c)
theorem ff_eq {b : Int} (hb : b = 0 ∨ b = 1) {len : Int} (hl : 0 ≤ len) {g bf : Nat → Int} (hg : ∀ k : Nat, (k : Int) < len → g k = bf k) : (in_FF len g b).1 = (rf_RL len bf b).1 ∧ in_whole len g b = rf_TX len bf b := by
  have h0 : IR b (b, b, 0 + 1, 0 + 1, 0, 0, 0) (0, 0, 1, 1, 1) := ⟨rfl, hb, by dsimp only; omega, Or.inr rfl, rfl, rfl, rfl, Int.le_refl _, fun q => absurd q (by dsimp only; omega), Or.inl ⟨rfl, rfl, rfl⟩⟩
  obtain ⟨h1, h2⟩ := ir_ff (b := b) hg len.toNat 0 _ _ (by omega) (by omega) h0
  refine ⟨h1, ?_⟩
  have h1 : (in_FF len g b).1 = (rf_RL len bf b).1 := h1
  unfold in_whole rf_TX
  rw [h1]
  by_cases c : (rf_RL len bf b).1 = len
  · obtain ⟨r1, r2, r3, r4, r5, r6, r7, r8, r9, r10⟩ : IR b (in_FF len g b).2 (rf_RL len bf b).2 := h2 (by show (in_FF len g b).1 = len; omega)
    unfold sy_end
    by_cases k : 0 < (rf_RL len bf b).2.1 ∧ ¬ (rf_RL len bf b).2.2.1 = 1
    · rw [if_pos ⟨c, by rw [if_pos (by omega)]⟩, if_pos ⟨c, k⟩]
    · have q : ¬ ((rf_RL len bf b).1 = len ∧ (if 0 < (in_FF len g b).2.2.2.2.2.1 ∧ (in_FF len g b).2.2.2.2.2.2.1 = 0 then (1 : Int) else 0) = 1) := by
        rintro ⟨-, q⟩
        rw [if_neg (by omega)] at q
        omega
      rw [if_neg q, if_neg (fun q => k q.2)]
  · rw [if_neg (fun q => c q.1), if_neg (fun q => c q.1)]
