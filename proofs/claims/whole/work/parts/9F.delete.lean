/-! ===== pure: places after words were taken out ===== -/
theorem rS_de {z z' : Nat → Int} {P p m : Nat} (hp : p < P) (h0 : ∀ j, j < P → 1 ≤ z (85 + j)) (hm : (m : Int) < z (85 + p)) (h : ∀ j, j < P → z' (85 + j) = if j = p then z (85 + p) - m else z (85 + j)) : (∀ j, j ≤ p → rS z' j = rS z j) ∧ ∀ j, p < j → j ≤ P → rS z' j + m = rS z j := by
  have h1 : ∀ j, j ≤ p → rS z' j = rS z j := fun j hj => rS_c j fun i hi => by rw [h i (by omega), if_neg (by omega)]
  refine ⟨h1, fun j => ?_⟩
  induction j with
  | zero => intro a; omega
  | succ j ih =>
    intro a b
    rw [rS_s, rS_s, h j (by omega)]
    have h8 := h0 j (by omega)
    by_cases c : j = p
    · subst c; rw [if_pos rfl, h1 j (Nat.le_refl _)]; omega
    · rw [if_neg c]; have := ih (by omega) (by omega); omega
/-- the class's places after [x, y) of paragraph p is gone; refuge: where the reader goes -/
theorem mr_del {P : Nat} {z z' : Nat → Int} {M : mk_T} {p x y : Nat} {rf : Int} (h : MR P z M) (hp : p < P) (hxy : x ≤ y) (hy : (y : Int) ≤ z (85 + p)) (h0 : ∀ j, j < P → 1 ≤ z (85 + j)) (hm : ((y - x : Nat) : Int) < z (85 + p)) (h8 : ∀ j, j < P → z' (85 + j) = if j = p then z (85 + p) - ((y - x : Nat) : Int) else z (85 + j))
    (hrf : rf = (rS z p : Int) + (if (x : Int) < z (85 + p) - (y - x) then (x : Int) else z (85 + p) - (y - x) - 1))
    (hv : MVP z z' id_a (cs_b p x y (z (85 + p) - (y - x))) id_0 (cs_1 p x y) (cs_2 p x y) (cs_4 p x y)) : MR P z' (mk_cg M ((rS z p : Int) + x) ((rS z p : Int) + y) rf) := by
  obtain ⟨s1, s2⟩ := rS_de hp h0 hm h8
  have hz9 : ∀ q, q < P → z' (85 + q) = z (85 + q) - if q = p then ((y : Int) - x) else 0 := fun q hq => by
    rw [h8 q hq]
    by_cases c : q = p
    · subst c; rw [if_pos rfl, if_pos rfl]; omega
    · rw [if_neg c, if_neg c]; omega
  have key : ∀ (q : Nat) (o r : Int), q < P → 0 ≤ o → o ≤ z (85 + q) → mk_cl (rS z q + o) (rS z p + x) (rS z p + y) r = if q = p ∧ (x : Int) ≤ o ∧ o < y then r else rS z' q + (if q = p then rf_bh o x y else o) := fun q o r hq ho1 ho2 => by
    unfold mk_cl
    have l := h0 q hq
    have lp := h0 p hp
    rcases Nat.lt_or_ge q p with c | c
    · have t := rS_m z (show q + 1 ≤ p by omega)
      rw [rS_s] at t
      rw [if_pos (by omega), if_neg (by omega), if_neg (by omega), s1 q (by omega)]
    · rcases Nat.lt_or_ge p q with e | e
      · have t := rS_m z (show p + 1 ≤ q by omega)
        rw [rS_s] at t
        have := s2 q e (by omega)
        rw [if_neg (by omega), if_pos (by omega), if_neg (by omega), if_neg (by omega)]; omega
      · have : q = p := by omega
        subst this
        have e1 := s1 q (by omega)
        unfold rf_bh
        rw [if_pos (show q = q from rfl)]
        by_cases k1 : o < x
        · rw [if_pos (by omega), if_neg (by omega), if_pos k1, e1]
        · by_cases k2 : o < y
          · rw [if_neg (by omega), if_neg (by omega), if_pos (by omega)]
          · rw [if_neg (by omega), if_pos (by omega), if_neg (by omega), if_neg k1, if_neg k2]; omega
  have kk : ∀ (q : Nat) (o : Int), q < P → 0 ≤ o → o ≤ z (85 + q) → mk_cl (rS z q + o) (rS z p + x) (rS z p + y) (rS z p + x) = rS z' q + (if (q : Int) = p then rf_bh o x y else o) := fun q o hq ho1 ho2 => by
    rw [key q o _ hq ho1 ho2]
    by_cases c : q = p
    · subst c
      rw [if_pos rfl, if_pos rfl]
      by_cases k : (x : Int) ≤ o ∧ o < y
      · rw [if_pos ⟨rfl, k⟩, s1 q (by omega)]; unfold rf_bh; rw [if_neg (by omega), if_pos k.2]
      · rw [if_neg (fun w => k w.2)]
    · rw [if_neg (fun w => c w.1), if_neg c, if_neg (by omega)]
  have hbh : ∀ o : Int, 0 ≤ o → o ≤ z (85 + p) → 0 ≤ rf_bh o x y ∧ rf_bh o x y ≤ z (85 + p) - (y - x) := fun o h1 h2 => by
    unfold rf_bh; split
    · omega
    split <;> omega
  have hbm : ∀ o o' : Int, o ≤ o' → rf_bh o x y ≤ rf_bh o' x y := fun o o' h1 => by
    unfold rf_bh; (repeat' split) <;> omega
  refine mr_g (fp := fun v => mk_cl v ((rS z p : Int) + x) ((rS z p : Int) + y) rf) (ff := fun a _ => mk_cl a ((rS z p : Int) + x) ((rS z p : Int) + y) ((rS z p : Int) + x)) (ft := fun _ b => mk_cl b ((rS z p : Int) + x) ((rS z p : Int) + y) ((rS z p : Int) + x)) h hv (fun q o hq ho1 ho2 => ?_) (fun q x1 y1 l hq h1 h2 h3 hl => ⟨q, rfl, hq, ?_, ?_, ?_, ?_⟩) rfl rfl rfl (fun k hk => ?_) (fun k hk => ?_) (fun k hk => ?_) rfl
  · refine ⟨q, rfl, hq, ?_⟩
    have hk := key q o rf hq ho1 (by omega)
    rw [hz9 q hq]
    show 0 ≤ cs_b p x y (z (85 + p) - (y - x)) q o ∧ cs_b p x y (z (85 + p) - (y - x)) q o < _ ∧ mk_cl (rS z q + o) (rS z p + x) (rS z p + y) rf = rS z' q + cs_b p x y (z (85 + p) - (y - x)) q o
    rw [hk]
    generalize hcs : cs_b p x y (z (85 + p) - (y - x)) q o = v
    unfold cs_b at hcs
    by_cases c : q = p
    · subst c
      have hb := hbh o ho1 (by omega)
      have e1 := s1 q (by omega)
      rw [if_pos (show (q : Int) = q from rfl)] at hcs
      rw [if_pos (show q = q from rfl), if_pos (show q = q from rfl)]
      by_cases k : (x : Int) ≤ o ∧ o < y
      · have eb : rf_bh o x y = x := by unfold rf_bh; rw [if_neg (by omega), if_pos k.2]
        rw [eb] at hcs hb
        rw [if_pos (show q = q ∧ (x : Int) ≤ o ∧ o < y from ⟨rfl, k⟩), e1]
        rw [hcs] at hrf
        clear hk key kk hbh hbm hz9 hv h8 h
        refine ⟨?_, ?_, hrf⟩
        · split at hcs <;> omega
        · split at hcs <;> omega
      · have eb : rf_bh o x y < z (85 + q) - (y - x) := by
          unfold rf_bh
          split
          · omega
          split <;> omega
        rw [if_pos eb] at hcs
        rw [if_neg (show ¬ (q = q ∧ (x : Int) ≤ o ∧ o < y) from fun w => k w.2)]; omega
    · rw [if_neg (show ¬ (q : Int) = p by omega)] at hcs
      rw [if_neg c, if_neg (show ¬ (q = p ∧ (x : Int) ≤ o ∧ o < y) from fun w => c w.1), if_neg c]; omega
  · unfold cs_1 cs_2
    rw [hz9 q hq]
    by_cases c : q = p
    · subst c
      rw [if_pos rfl, if_pos rfl, if_pos rfl]
      have a1 := hbh x1 h1 (by omega)
      have a2 := hbh y1 (by omega) h3
      have a3 := hbm x1 y1 h2
      omega
    · rw [if_neg (show ¬ (q : Int) = p by omega), if_neg (show ¬ (q : Int) = p by omega), if_neg c]; omega
  · exact kk q x1 hq h1 (by omega)
  · exact kk q y1 hq (by omega) h3
  · unfold cs_4 cs_1 cs_2
    by_cases c : (q : Int) = p
    · rw [if_pos c, if_pos c, if_pos c]
    · rw [if_neg c, if_neg c, if_neg c]; exact hl
  · show ji_map (fun k => mk_cl (M.2.2.2.1 k) ((rS z p : Int) + x) ((rS z p : Int) + y) rf) M.2.2.2.1 5 k = _
    unfold ji_map; rw [if_pos (by omega)]
  · show ji_map (fun k => mk_cl (M.2.2.2.2.1 k) ((rS z p : Int) + x) ((rS z p : Int) + y) ((rS z p : Int) + x)) M.2.2.2.2.1 12 k = _
    unfold ji_map; rw [if_pos (by omega)]
  · show ji_map (fun k => mk_cl (M.2.2.2.2.2.1 k) ((rS z p : Int) + x) ((rS z p : Int) + y) ((rS z p : Int) + x)) M.2.2.2.2.2.1 12 k = _
    unfold ji_map; rw [if_pos (by omega)]
