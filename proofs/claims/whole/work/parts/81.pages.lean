/-! ===== pure: breaks and pages ===== -/
/-- a layout of the class and one of the reference -/
def LQ (B : bk_T) (z nl nt sy : Nat → Int) (NT : nt_T) (w : Int) (D : Nat → Nat → Int) (lo lf lt : Nat → Int) (ln : Nat) : Prop := LG B z nt sy D lo lf lt ln ∧ (∀ k : Nat, k < 10 → D 1 k = ly_nl w NT k) ∧ NTR NT z nl nt ∧ (sy 4 = 0 ∨ sy 4 = 1)
section LQS
variable {B : bk_T} {z nl nt sy : Nat → Int} {NT : nt_T} {w : Int} {D : Nat → Nat → Int} {lo lf lt : Nat → Int} {ln : Nat}
theorem LQ.g5 (h : LQ B z nl nt sy NT w D lo lf lt ln) {l : Nat} (hl : l < ln) : ly_g ln (D 5) 0 (l : Int) = rf_GB z sy lo lf l := by
  rw [lg_i (by omega)]; exact h.1.2.2.2.1 l hl
theorem LQ.g7 (h : LQ B z nl nt sy NT w D lo lf lt ln) {l : Nat} (hl : l < ln) : ly_g ln (D 7) 0 (l : Int) = rf_n1 (rf_ch z nt (lo l)) (lt l - lf l).toNat (lf l) 0 := by
  obtain ⟨p, x, y, a1, a2, a3, _, _, _, _, _, _, _, _, a12⟩ := h.1.2.1.at hl
  rw [lg_i (by omega), a12, a3]
theorem LQ.rn (h : LQ B z nl nt sy NT w D lo lf lt ln) (x : Int) : ly_RN sy (D 1) x = rf_NR z nl nt sy w x := RN_eq h.2.2.1 h.2.2.2 w x h.2.1
theorem LQ.mb (h : LQ B z nl nt sy NT w D lo lf lt ln) {l : Nat} (h1 : 1 ≤ l) (hl : l < ln) : ly_mb ln (D 6) (l : Int) = rf_MB z ln lo lf l := by
  have e := h.1.2.2.2.2 l h1 hl
  have hb := rf_MB_b z ln lo lf l
  unfold ly_mb
  rw [Int.toNat_natCast, e]
  rcases hb with q | q
  · rw [q, if_neg (by omega)]
  · rw [q, if_pos (by omega)]
theorem LQ.bf (h : LQ B z nl nt sy NT w D lo lf lt ln) (ht : Int) {x : Nat} : ∀ (u l : Nat), x < l → l + u = ln → ly_bf ht ln sy D u l (rf_RO z sy lo lf x l) (rf_NO z nt lo lf lt x l) l = rf_b1 z nl nt sy w ht lo lf lt x u l
  | 0, l, _, _ => rfl
  | u + 1, l, h1, h2 => by
    have e1 := h.g5 (l := l) (by omega)
    have e2 := h.g7 (l := l) (by omega)
    have e3 := RO_s z sy lo lf h1
    have e4 := NO_s z nt lo lf lt (Nat.le_of_lt h1) (NO_nn z nt lo lf lt x l)
    unfold ly_bf rf_b1 rf_ND
    rw [e1, e2, ← e3, ← e4, h.rn]
    by_cases c : rf_RO z sy lo lf x ((l : Int) + 1) + rf_NR z nl nt sy w (rf_NO z nt lo lf lt x ((l : Int) + 1)) ≤ ht
    · rw [if_neg (by omega), if_pos c, show (l : Int) + 1 = ((l + 1 : Nat) : Int) by omega]
      exact h.bf ht u (l + 1) (by omega) (by omega)
    · rw [if_pos (by omega), if_neg c]
theorem LQ.b0 (h : LQ B z nl nt sy NT w D lo lf lt ln) (ht : Int) {x : Nat} (hx : x < ln) : ly_B0 ht ln sy D (x : Int) = rf_B1 z nl nt sy w ht ln lo lf lt x := by
  have e := h.bf ht (x := x) (ln - (x + 1)) (x + 1) (by omega) (by omega)
  rw [show ((x + 1 : Nat) : Int) = (x : Int) + 1 by omega, RO_1] at e
  have e2 := NO_s z nt lo lf lt (Nat.le_refl x) (NO_nn z nt lo lf lt x x)
  rw [NO_0, or_z _ (n1_nn _ _ _ _ (by omega)), ← h.g7 hx] at e2
  rw [e2] at e
  unfold ly_B0 rf_B1
  rw [show ((ln : Int) - ((x : Int) + 1)).toNat = ln - (x + 1) by omega]
  exact e
theorem LQ.kb (h : LQ B z nl nt sy NT w D lo lf lt ln) (e : Int) : ∀ (u l : Nat), u ≤ l → l < ln → ly_kb ln (D 6) e u (l : Int) = rf_b2 z ln lo lf e u l
  | 0, l, _, _ => rfl
  | u + 1, l, h1, h2 => by
    unfold ly_kb rf_b2
    rw [h.mb (by omega) h2]
    by_cases c : rf_MB z ln lo lf l = 0
    · rw [if_pos c, if_pos c, show (l : Int) - 1 = ((l - 1 : Nat) : Int) by omega]
      exact h.kb e u (l - 1) (by omega) (by omega)
    · rw [if_neg c, if_neg c]
theorem LQ.bo (h : LQ B z nl nt sy NT w D lo lf lt ln) (ht : Int) {x : Nat} (hx : x < ln) : ly_BF ht ln sy D (x : Int) = rf_BO z nl nt sy w ht ln lo lf lt x := by
  have hb := rf_B1_b z nl nt sy w ht ln lo lf lt (x := (x : Int)) (by omega)
  have e3 : ly_st sy 3 = sy 3 := if_pos (by omega)
  unfold ly_BF rf_BO
  rw [h.b0 ht hx, e3]
  generalize rf_B1 z nl nt sy w ht ln lo lf lt x = b at hb
  by_cases c : sy 3 = 1 ∧ b < ln
  · obtain ⟨y, rfl⟩ := Int.eq_ofNat_of_zero_le (show 0 ≤ b by omega)
    rw [if_pos c]
    have hk := h.kb (y : Int) (y - x) y (by omega) (by have := c.2; omega)
    rw [show ((y : Int) - x).toNat = y - x by omega]
    show ly_kb ln (D 6) (y : Int) (y - x) (y : Int) = _
    rw [hk]
    obtain ⟨v, hv⟩ : ∃ v, y - x = v + 1 := ⟨y - x - 1, by omega⟩
    rw [hv]
    show (if rf_MB z ln lo lf y = 0 then rf_b2 z ln lo lf y v ((y : Int) - 1) else (y : Int)) = _
    by_cases c2 : rf_MB z ln lo lf y = 0
    · rw [if_pos c2, if_pos ⟨c.1, c.2, c2⟩, show ((y : Int) - 1 - x).toNat = v by omega]
    · rw [if_neg c2, if_neg (fun q => c2 q.2.2)]
  · rw [if_neg c, if_neg (fun q => c ⟨q.1, q.2.1⟩)]
/-- the pages so far -/
def PGR (P8 P9 pf : Nat → Int) (pg x : Nat) : Prop := (∀ k, k < pg → P9 k = pf k) ∧ (∀ k, k < pg → ∀ l : Nat, pf k ≤ l → (l : Int) < va_up pf pg x (k + 1) → P8 l = k) ∧ ∀ k, k ≤ pg → va_up pf pg x k ≤ x
theorem LQ.pgl (h : LQ B z nl nt sy NT w D lo lf lt ln) (ht : Int) : ∀ (u x pg : Nat) (P8 P9 pf : Nat → Int), pg ≤ x → x ≤ ln → ln ≤ x + u → PGR P8 P9 pf pg x →
    ∃ (pg2 : Nat) (Q8 Q9 qf : Nat → Int), ly_pgl ht ln sy D u x pg P8 P9 = ((pg2 : Int), Q8, Q9) ∧ rf_p1 z nl nt sy w ht ln lo lf lt u x pg pf = ((pg2 : Int), qf) ∧ PGR Q8 Q9 qf pg2 ln
  | 0, x, pg, P8, P9, pf, h1, h2, h3, h4 => by
    have e : x = ln := by omega
    subst e
    exact ⟨pg, P8, P9, pf, rfl, rfl, h4⟩
  | u + 1, x, pg, P8, P9, pf, h1, h2, h3, h4 => by
    have h240 := h.1.1.2
    by_cases c : x < ln
    · have hb := rf_BO_b z nl nt sy w ht ln lo lf lt (x := (x : Int)) (by omega)
      have eb := h.bo ht c
      obtain ⟨y, hy⟩ := Int.eq_ofNat_of_zero_le (show 0 ≤ rf_BO z nl nt sy w ht ln lo lf lt x by omega)
      have hy : rf_BO z nl nt sy w ht ln lo lf lt x = y := hy
      rw [hy] at eb hb
      have hP : PGR (ly_rg P8 x y pg) (va_up P9 pg x) (va_up pf pg x) (pg + 1) y := by
        refine ⟨fun k hk => ?_, fun k hk l q1 q2 => ?_, fun k hk => ?_⟩
        · by_cases e : k = pg
          · rw [e, va_up_self, va_up_self]
          · rw [va_up_ne _ _ e, va_up_ne _ _ e]; exact h4.1 k (by omega)
        · by_cases e : k = pg
          · subst e
            rw [va_up_self] at q1 q2
            unfold ly_rg; rw [if_pos (by omega)]
          · rw [va_up_ne _ _ e] at q1
            rw [va_up_ne _ _ (show k + 1 ≠ pg + 1 by omega)] at q2
            have hlx : (l : Int) < x := by
              have := h4.2.2 (k + 1) (by omega)
              omega
            unfold ly_rg; rw [if_neg (by omega)]
            exact h4.2.1 k (by omega) l q1 q2
        · by_cases e : k = pg + 1
          · rw [e, va_up_self]; omega
          · rw [va_up_ne _ _ e]; have := h4.2.2 k (by omega); omega
      obtain ⟨pg2, Q8, Q9, qf, r1, r2, r3⟩ := h.pgl ht u y (pg + 1) _ _ _ (by omega) (by omega) (by omega) hP
      refine ⟨pg2, Q8, Q9, qf, ?_, ?_, r3⟩
      · unfold ly_pgl
        rw [if_pos (by omega), eb, Int.toNat_natCast, show (pg : Int) + 1 = ((pg + 1 : Nat) : Int) by omega]
        exact r1
      · unfold rf_p1
        rw [if_pos (by omega), hy, Int.toNat_natCast, show (pg : Int) + 1 = ((pg + 1 : Nat) : Int) by omega]
        exact r2
    · have e : x = ln := by omega
      subst e
      refine ⟨pg, P8, P9, pf, ?_, ?_, h4⟩
      · unfold ly_pgl; rw [if_neg (by omega)]
      · unfold rf_p1; rw [if_neg (by omega)]
theorem pa_eq {pf : Nat → Int} {l : Int} : ∀ (u : Nat) (k p : Nat), k ≤ p → p < k + u → (∀ j : Nat, k ≤ j → j < p → pf (j + 1) ≤ l) → ¬ pf (p + 1) ≤ l → rf_pa pf l u k = p
  | 0, k, p, h1, h2, h3, h4 => by omega
  | u + 1, k, p, h1, h2, h3, h4 => by
    unfold rf_pa
    rw [show ((k : Int) + 1).toNat = k + 1 by omega]
    by_cases e : k = p
    · subst e; rw [if_neg h4]
    · rw [if_pos (h3 k (by omega) (by omega)), show (k : Int) + 1 = ((k + 1 : Nat) : Int) by omega]
      exact pa_eq u (k + 1) p (by omega) (by omega) (fun j a b => h3 j (by omega) b) h4
/-- which page has a line -/
theorem PA_eq {ln pg : Nat} {pf : Nat → Int} (hp : rp_ok ln pg pf) {l p : Nat} (hpp : p < pg) (h1 : pf p ≤ l) (h2 : (l : Int) < pf (p + 1)) : rf_PA pg pf l = p := by
  have mono : ∀ d j : Nat, j + d ≤ pg → pf j + d ≤ pf (j + d) := by
    intro d
    induction d with
    | zero => intro j _; simp
    | succ d ih =>
      intro j hj
      have a := ih j (by omega)
      have b := hp.2.1 (j + d) (by omega)
      rw [show j + (d + 1) = j + d + 1 by omega]; omega
  unfold rf_PA
  rw [Int.toNat_natCast]
  exact pa_eq pg 0 p (by omega) (by omega) (fun j _ hj => by
    have := mono (p - (j + 1)) (j + 1) (by omega)
    rw [show j + 1 + (p - (j + 1)) = p by omega] at this
    omega) (by omega)
theorem PA_in {ln pg : Nat} {pf : Nat → Int} (hp : rp_ok ln pg pf) {l : Nat} (hl : l < ln) : ∃ p : Nat, rf_PA pg pf l = p ∧ p < pg ∧ pf p ≤ l ∧ (l : Int) < pf (p + 1) := by
  have hl' : 0 ≤ (l : Int) ∧ (l : Int) < (ln : Int) := by omega
  have ex : ∀ d : Nat, d ≤ pg → (l : Int) < pf d → ∃ p : Nat, p < pg ∧ pf p ≤ l ∧ (l : Int) < pf (p + 1) := by
    intro d
    induction d with
    | zero => intro _ q; have := hp.2.2.2.2; omega
    | succ d ih =>
      intro hd q
      by_cases c : (l : Int) < pf d
      · exact ih (by omega) c
      · exact ⟨d, by omega, by omega, q⟩
  have e4 := hp.2.2.2.1
  rw [Int.toNat_natCast] at e4
  obtain ⟨p, q1, q2, q3⟩ := ex pg (Nat.le_refl _) (by rw [e4]; omega)
  exact ⟨p, PA_eq hp q1 q2 q3, q1, q2, q3⟩
/-- pages of the class and of the reference -/
def PQ (D : Nat → Nat → Int) (ln pg : Nat) (pf : Nat → Int) : Prop := rp_ok ln pg pf ∧ 1 ≤ pg ∧ (∀ k : Nat, k ≤ pg → D 9 k = pf k) ∧ ∀ l : Nat, l < ln → D 8 l = rf_PA pg pf l
theorem LQ.pages (h : LQ B z nl nt sy NT w D lo lf lt ln) (ht : Int) (pf : Nat → Int) : ∃ pg : Nat, (ly_Pg ht ln sy D).1 = pg ∧ (rf_PG z nl nt sy w ht ln lo lf lt pf).1 = pg ∧ PQ (ly_AF ht ln sy D) ln pg (va_up (rf_PG z nl nt sy w ht ln lo lf lt pf).2 pg ln) ∧ (∀ k, k ≠ 8 → k ≠ 9 → ly_AF ht ln sy D k = D k) := by
  obtain ⟨pg, Q8, Q9, qf, r1, r2, r3⟩ := h.pgl ht ln 0 0 (D 8) (D 9) pf (by omega) (by omega) (by omega) ⟨fun k hk => by omega, fun k hk => by omega, fun k hk => by rw [show k = 0 by omega, va_up_self]; omega⟩
  have e1 : ly_Pg ht ln sy D = ((pg : Int), Q8, Q9) := by unfold ly_Pg; rw [Int.toNat_natCast]; exact r1
  have e2 : rf_PG z nl nt sy w ht ln lo lf lt pf = ((pg : Int), qf) := by unfold rf_PG; rw [Int.toNat_natCast]; exact r2
  have hpk := rf_PG_ok z nl nt sy w ht (ln := (ln : Int)) lo lf lt pf (by omega)
  rw [e2] at hpk
  have hpk : rp_ok ln pg (va_up qf pg ln) := by
    have q : rp_ok (ln : Int) (pg : Int) (va_up qf ((pg : Int).toNat) ln) := hpk
    rw [Int.toNat_natCast] at q; exact q
  have hpos := hpk.pos (by have := h.1.1.1; omega)
  refine ⟨pg, by rw [e1], by rw [e2], ?_, fun k q1 q2 => ?_⟩
  · rw [e2]
    refine ⟨hpk, by omega, fun k hk => ?_, fun l hl => ?_⟩
    · unfold ly_AF ly_AP
      rw [va_up_self, e1]
      show va_up Q9 ((pg : Int).toNat) ln k = va_up qf pg ln k
      rw [Int.toNat_natCast]
      by_cases e : k = pg
      · rw [e, va_up_self, va_up_self]
      · rw [va_up_ne _ _ e, va_up_ne _ _ e]; exact r3.1 k (by omega)
    · obtain ⟨p, a1, a2, a3, a4⟩ := PA_in hpk hl
      rw [a1]
      unfold ly_AF ly_AP
      rw [va_up_ne _ _ (by omega), va_up_self, e1]
      show Q8 l = p
      refine r3.2.1 p a2 l ?_ a4
      rw [va_up_ne _ _ (by omega)] at a3; exact a3
  · unfold ly_AF ly_AP; rw [va_up_ne _ _ q2, va_up_ne _ _ q1]
end LQS
