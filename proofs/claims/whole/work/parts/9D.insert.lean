/-! ===== pure: places after words were put in ===== -/
theorem rS_in {z z' : Nat → Int} {P p : Nat} {m : Nat} (hp : p < P) (h0 : ∀ j, j < P → 1 ≤ z (85 + j)) (h : ∀ j, j < P → z' (85 + j) = if j = p then z (85 + p) + m else z (85 + j)) : (∀ j, j ≤ p → rS z' j = rS z j) ∧ ∀ j, p < j → j ≤ P → rS z' j = rS z j + m := by
  have h1 : ∀ j, j ≤ p → rS z' j = rS z j := fun j hj => rS_c j fun i hi => by rw [h i (by omega), if_neg (by omega)]
  refine ⟨h1, fun j => ?_⟩
  induction j with
  | zero => intro a; omega
  | succ j ih =>
    intro a b
    rw [rS_s, rS_s, h j (by omega)]
    have h8 := h0 j (by omega)
    by_cases c : j = p
    · subst c; rw [if_pos rfl, h1 j (Nat.le_refl _)]; omega
    · rw [if_neg c, ih (by omega) (by omega)]; omega
theorem mr_ins {P : Nat} {z z' : Nat → Int} {M : mk_T} {p x m : Nat} (h : MR P z M) (hp : p < P) (hx : (x : Int) ≤ z (85 + p)) (h0 : ∀ j, j < P → 1 ≤ z (85 + j)) (h8 : ∀ j, j < P → z' (85 + j) = if j = p then z (85 + p) + m else z (85 + j)) (hv : MVP z z' id_a (op_b p x m) id_0 (op_1 p x m) (op_2 p x m) id_4) : MR P z' (mk_og M ((rS z p : Int) + x) m) := by
  obtain ⟨s1, s2⟩ := rS_in hp h0 h8
  have key : ∀ (q : Nat) (o : Int), q < P → 0 ≤ o → o ≤ z (85 + q) → ∀ d : Int, (d = if (q : Int) = p ∧ (x : Int) ≤ o then (m : Int) else 0) → mk_op (rS z q + o) (rS z p + x) m = rS z' q + (o + d) := fun q o hq ho1 ho2 d hd => by
    unfold mk_op
    have l := h0 q hq
    have lp := h0 p hp
    rcases Nat.lt_or_ge q p with c | c
    · have t := rS_m z (show q + 1 ≤ p by omega)
      rw [rS_s] at t
      rw [if_neg (by omega)] at hd
      rw [if_neg (by omega), s1 q (by omega)]; omega
    · rcases Nat.lt_or_ge p q with e | e
      · have t := rS_m z (show p + 1 ≤ q by omega)
        rw [rS_s] at t
        rw [if_neg (by omega)] at hd
        rw [if_pos (by omega), s2 q e (by omega)]; omega
      · have : q = p := by omega
        subst this
        by_cases k : (x : Int) ≤ o
        · rw [if_pos ⟨rfl, k⟩] at hd
          rw [if_pos (by omega), s1 q (by omega)]; omega
        · rw [if_neg (fun w => k w.2)] at hd
          rw [if_neg (by omega), s1 q (by omega)]; omega
  have hz9 : ∀ q, q < P → z' (85 + q) = z (85 + q) + if q = p then (m : Int) else 0 := fun q hq => by
    rw [h8 q hq]
    by_cases c : q = p
    · subst c; rw [if_pos rfl, if_pos rfl]
    · rw [if_neg c, if_neg c]; omega
  refine mr_g (fp := fun v => mk_op v ((rS z p : Int) + x) m) (ff := fun a _ => mk_op a ((rS z p : Int) + x) m) (ft := fun a b => if b = (rS z p : Int) + x ∧ ¬ a = (rS z p : Int) + x then (rS z p : Int) + x else mk_op b ((rS z p : Int) + x) m) h hv (fun q o hq ho1 ho2 => ⟨q, rfl, hq, ?_, ?_, ?_⟩) (fun q x1 y1 l hq h1 h2 h3 hl => ⟨q, rfl, hq, ?_, ?_, ?_, ?_⟩) rfl rfl rfl (fun k hk => ?_) (fun k hk => ?_) (fun k hk => ?_) rfl
  · unfold op_b; split <;> omega
  · unfold op_b
    rw [hz9 q hq]
    by_cases c : (q : Int) = p ∧ (x : Int) ≤ o
    · rw [if_pos c, if_pos (by omega)]; omega
    · rw [if_neg c]; split <;> omega
  · exact key q o hq ho1 (by omega) _ rfl
  · unfold op_1 op_2
    rw [hz9 q hq]
    by_cases c : (q : Int) = p
    · rw [if_pos (show q = p by omega)]
      by_cases e : x1 = y1
      · rw [if_pos e] at hl
        by_cases k : (x : Int) ≤ x1
        · rw [if_pos ⟨c, k⟩, if_pos ⟨c, Or.inl ⟨hl, by omega⟩⟩]; omega
        · rw [if_neg (fun w => k w.2), if_neg (fun w => by rcases w.2 with w | w <;> omega)]; omega
      · rw [if_neg e] at hl
        by_cases k : (x : Int) ≤ x1
        · rw [if_pos ⟨c, k⟩, if_pos ⟨c, Or.inr ⟨by omega, by omega⟩⟩]; omega
        · rw [if_neg (fun w => k w.2)]; split <;> omega
    · rw [if_neg (fun w => c w.1), if_neg (fun w => c w.1), if_neg (show ¬ q = p by omega)]; omega
  · exact key q x1 hq h1 (by omega) _ rfl
  · show (if (rS z q : Int) + y1 = (rS z p : Int) + x ∧ ¬ (rS z q : Int) + x1 = (rS z p : Int) + x then (rS z p : Int) + x else mk_op ((rS z q : Int) + y1) ((rS z p : Int) + x) m) = rS z' q + op_2 p x m q x1 y1 l
    unfold op_2
    have l0 := h0 q hq
    have lp := h0 p hp
    by_cases c : q = p
    · subst c
      by_cases e : (rS z q : Int) + y1 = (rS z q : Int) + x ∧ ¬ (rS z q : Int) + x1 = (rS z q : Int) + x
      · rw [if_neg (show ¬ x1 = y1 by omega)] at hl
        rw [if_pos e, if_neg (fun w => by rcases w.2 with w | w <;> omega), s1 q (by omega)]; omega
      · rw [if_neg e]
        refine key q y1 hq (by omega) h3 _ ?_
        have hl1 : x1 = y1 → l = 1 := fun f => by rw [hl, if_pos f]
        have hl2 : ¬ x1 = y1 → l = 0 := fun f => by rw [hl, if_neg f]
        clear hl hv h8 hz9 key s1 s2 h hx
        split <;> split <;> omega
    · have e : ¬ (rS z q : Int) + y1 = (rS z p : Int) + x := fun e => by
        rcases Nat.lt_or_ge q p with d | d
        · have t := rS_m z (show q + 1 ≤ p by omega)
          rw [rS_s] at t; omega
        · have t := rS_m z (show p + 1 ≤ q by omega)
          rw [rS_s] at t; omega
      rw [if_neg (fun w => e w.1), if_neg (fun w => c (by omega))]
      exact key q y1 hq (by omega) h3 _ (by rw [if_neg (fun w => c (by omega))])
  · have hl1 : x1 = y1 → l = 1 := fun f => by rw [hl, if_pos f]
    have hl2 : ¬ x1 = y1 → l = 0 := fun f => by rw [hl, if_neg f]
    have iff : op_1 p x m q x1 y1 l = op_2 p x m q x1 y1 l ↔ x1 = y1 := by
      unfold op_1 op_2
      clear hl hv h8 hz9 key s1 s2 h hx
      split <;> split <;> omega
    show l = _
    by_cases e : x1 = y1
    · rw [if_pos (iff.mpr e)]; exact hl1 e
    · rw [if_neg (fun w => e (iff.mp w))]; exact hl2 e
  · show ji_map (fun k => mk_op (M.2.2.2.1 k) ((rS z p : Int) + x) m) M.2.2.2.1 5 k = _
    unfold ji_map; rw [if_pos (by omega)]
  · show ji_map (fun k => mk_op (M.2.2.2.2.1 k) ((rS z p : Int) + x) m) M.2.2.2.2.1 12 k = _
    unfold ji_map; rw [if_pos (by omega)]
  · show ji_map (mk_oT M.2.2.2.2.1 M.2.2.2.2.2.1 ((rS z p : Int) + x) m) M.2.2.2.2.2.1 12 k = _
    unfold ji_map; rw [if_pos (by omega)]; rfl
