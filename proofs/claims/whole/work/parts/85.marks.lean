/-! ===== pure: the reader, jumps and annotations ===== -/
def PS (z : Nat → Int) (P i : Nat) (pl : Int) : Prop := ∃ q : Nat, z i = q ∧ q < P ∧ 0 ≤ z (i + 1) ∧ z (i + 1) < z (85 + q) ∧ pl = rS z q + z (i + 1)
def AS (z : Nat → Int) (P i : Nat) (x y c : Int) : Prop := ∃ q : Nat, z i = q ∧ q < P ∧ (0 ≤ z (i + 1) ∧ z (i + 1) ≤ z (i + 2) ∧ z (i + 2) ≤ z (85 + q)) ∧ x = rS z q + z (i + 1) ∧ y = rS z q + z (i + 2) ∧ (c = z (i + 3) ∧ 0 ≤ c ∧ c ≤ 7) ∧ z (i + 4) = if z (i + 1) = z (i + 2) then 1 else 0
def MR (P : Nat) (z : Nat → Int) (M : mk_T) : Prop := PS z P 1 M.1 ∧ (M.2.1 = z 3 ∧ 0 ≤ z 3 ∧ z 3 ≤ 5) ∧ (∀ k : Nat, (k : Int) < z 3 → PS z P (4 + 2 * k) (M.2.2.2.1 k)) ∧ (M.2.2.1 = z 14 ∧ 0 ≤ z 14 ∧ z 14 ≤ 12) ∧ ∀ k : Nat, (k : Int) < z 14 → AS z P (15 + 5 * k) (M.2.2.2.2.1 k) (M.2.2.2.2.2.1 k) (M.2.2.2.2.2.2 k)
theorem rS_lt2 (z : Nat → Int) (P : Nat) (h : ∀ p, p < P → 1 ≤ z (85 + p)) : ∀ p, p ≤ P → (rS z p : Int) = rf_lt z p + p
  | 0, _ => rfl
  | p + 1, hp => by
    have h1 := h p (by omega)
    rw [rS_s]
    unfold rf_lt
    have := rS_lt2 z P h p (by omega)
    omega
theorem rb_lt {B : bk_T} {z : Nat → Int} (h : RB B z) {p : Nat} (hp : p ≤ bk_P B) : (rS z p : Int) = rf_lt z p + p := rS_lt2 z (bk_P B) (fun p q => (h.2.2.2.2.1 p q).1) p hp
theorem aw_eq {B : bk_T} {z : Nat → Int} (h : RB B z) (nt : Nat → Int) : ∀ p, p ≤ bk_P B → rf_aw z nt p = bk_fr B p
  | 0, _ => by
    have := h.2.2.1.1
    rw [(rb_fr h (p := 0) (by omega)).1]; rfl
  | p + 1, hp => by
    unfold rf_aw
    rw [aw_eq h nt p (by omega), wo_eq h nt (by omega)]; omega
theorem mk_get_i {a : Int} {F : Nat → Int} {k : Nat} (h : (k : Int) < a) (h12 : a ≤ 12) : mk_get a F k = F k := by
  unfold mk_get; rw [if_pos (by omega)]; rfl
theorem ls_eq {P : Nat} {z : Nat → Int} {M : mk_T} (h : MR P z M) : ∀ k : Nat, (k : Int) ≤ z 14 → mk_ls M.2.2.1 M.2.2.2.2.1 M.2.2.2.2.2.1 k = rf_ls z k
  | 0, _ => rfl
  | k + 1, hk => by
    obtain ⟨m1, m2, m3, ⟨m4, m5, m6⟩, m7⟩ := h
    obtain ⟨q, a1, a2, a3, a4, a5, a6, a7⟩ := m7 k (by omega)
    unfold mk_ls rf_ls mk_lost
    rw [ls_eq ⟨m1, m2, m3, ⟨m4, m5, m6⟩, m7⟩ k (by omega), m4, mk_get_i (by omega) m6, mk_get_i (by omega) m6, a7, a4, a5]
    by_cases c : z (15 + 5 * k + 1) = z (15 + 5 * k + 2)
    · rw [if_pos (by omega), if_pos c]
    · rw [if_neg (by omega), if_neg c]
section LAY
variable {B : bk_T} {z nl nt sy : Nat → Int} {NT : nt_T} {Y : ly_T} {lo lf lt : Nat → Int} {ln pg : Nat} {pf : Nat → Int} {M : mk_T}
theorem cnt_eq (hb : RB B z) (hm : MR (bk_P B) z M) (h : LAYR B z nl nt sy NT Y lo lf lt ln pg pf) (ed : Int) {v : Int} (hv : 0 ≤ v ∧ v < 12) : cl_cnt B M Y ed v = rf_CN z nl nt ed ln lo lf pg pf v := by
  obtain ⟨⟨q, q1, q2, q3, q4, q5⟩, m2, m3, m4, m5⟩ := id hm
  have hz0 := hb.2.2.1.2
  have hP := hb.2.2.1.1
  have hl := rb_lt hb (p := bk_P B) (by omega)
  have hs := hb.2.2.2.2.2.1
  rw [hs] at hl
  have eP : (z 0).toNat = bk_P B := by omega
  have hpos := pos_at hb q2 (o := z 2) ⟨q3, by show z (1 + 1) ≤ _; omega⟩
  have hpg := at_page hb h q2 (o := z 2) ⟨q3, by show z (1 + 1) ≤ _; omega⟩
  have hpa := pa_at hb q2 (o := z 2) ⟨q3, by show z (1 + 1) ≤ _; omega⟩
  have q5 : M.1 = rS z q + z 2 := q5
  have hq := rb_lt hb (p := q) (by omega)
  unfold cl_cnt rf_CN cl_th
  rw [q5, q1, eP, hpg, hpos, hpa, m2.1, m4.1]
  by_cases v0 : v = 0
  · rw [if_pos v0, if_pos v0, hz0]
  rw [if_neg v0, if_neg v0]
  by_cases v1 : v = 1
  · rw [if_pos v1, if_pos v1, aw_eq hb nt _ (Nat.le_refl _), hb.2.2.2.2.2.2.2.2.1.2]
  rw [if_neg v1, if_neg v1]
  by_cases v2 : v = 2
  · rw [if_pos v2, if_pos v2]; omega
  rw [if_neg v2, if_neg v2]
  by_cases v3 : v = 3
  · rw [if_pos v3, if_pos v3]; exact h.1
  rw [if_neg v3, if_neg v3]
  by_cases v4 : v = 4
  · rw [if_pos v4, if_pos v4]; exact h.2.1
  rw [if_neg v4, if_neg v4]
  by_cases v5 : v = 5
  · rw [if_pos v5, if_pos v5]
  rw [if_neg v5, if_neg v5]
  by_cases v6 : v = 6
  · rw [if_pos v6, if_pos v6]
  rw [if_neg v6, if_neg v6]
  by_cases v7 : v = 7
  · rw [if_pos v7, if_pos v7]
  rw [if_neg v7, if_neg v7]
  by_cases v8 : v = 8
  · rw [if_pos v8, if_pos v8]
    have := ls_eq hm (z 14).toNat (by omega)
    rw [m4.1] at this; exact this
  rw [if_neg v8, if_neg v8]
  by_cases v9 : v = 9
  · rw [if_pos v9, if_pos v9]
  rw [if_neg v9, if_neg v9]
  by_cases v10 : v = 10
  · rw [if_pos v10, if_pos v10]
  rw [if_neg v10, if_neg v10]
  have e1 : ((bk_m B : Nat) : Int) - ((bk_P B : Nat) - 1) = rf_lt z (bk_P B) := by omega
  have hpos2 : 0 < rf_lt z (bk_P B) := by
    have hm1 := hb.2.1.1
    have hr := rS_m z (show q + 1 ≤ bk_P B by omega)
    rw [rS_s, hs] at hr
    have l1 := rb_lt hb (p := bk_P B) (by omega)
    rw [hs] at l1
    have key : ∀ p, p ≤ bk_P B → (p : Int) ≤ rf_lt z p := by
      intro p
      induction p with
      | zero => intro _; exact Int.le_refl _
      | succ p ih =>
        intro hp
        have a := ih (by omega)
        have b := (hb.2.2.2.2.1 p (by omega)).1
        unfold rf_lt; omega
    have := key (bk_P B) (Nat.le_refl _)
    omega
  rw [e1, if_pos hpos2, Int.toNat_natCast, show (rS z q : Int) + z 2 - q = rf_lt z q + z 2 by omega, Int.mul_comm]
theorem anp_eq (hb : RB B z) (hm : MR (bk_P B) z M) (h : LAYR B z nl nt sy NT Y lo lf lt ln pg pf) {k : Nat} (hk : (k : Int) < z 14) {v : Int} (hv : 0 ≤ v ∧ v < 6) : cl_anp B M Y k v = rf_AN z ln lo lf pg pf k v := by
  obtain ⟨m1, m2, m3, ⟨m4, m5, m6⟩, m7⟩ := id hm
  obtain ⟨q, a1, a2, a3, a4, a5, a6, a7⟩ := m7 k hk
  have ef : cl_fm M k = rS z q + z (15 + 5 * k + 1) := by unfold cl_fm; rw [m4, mk_get_i hk m6, a4]
  have et : cl_to M k = rS z q + z (15 + 5 * k + 2) := by unfold cl_to; rw [m4, mk_get_i hk m6, a5]
  have hpa := pa_at hb a2 (o := z (15 + 5 * k + 1)) ⟨a3.1, by omega⟩
  have hst := bk_start_e hb (p := q) (by omega)
  unfold cl_anp rf_AN
  rw [ef, et, hpa, hst, show (15 + 5 * (k : Int)).toNat = 15 + 5 * k by omega, show (15 + 5 * (k : Int) + 1).toNat = 15 + 5 * k + 1 by omega, show (15 + 5 * (k : Int) + 4).toNat = 15 + 5 * k + 4 by omega, m4, mk_get_i hk m6]
  by_cases v0 : v = 0
  · subst v0; rw [if_pos rfl, if_pos (by omega), show (15 + 5 * (k : Int) + 0).toNat = 15 + 5 * k by omega, a1]
  rw [if_neg v0]
  by_cases v1 : v = 1
  · subst v1; rw [if_pos rfl, if_pos (by omega), show (15 + 5 * (k : Int) + 1).toNat = 15 + 5 * k + 1 by omega]; omega
  rw [if_neg v1]
  by_cases v2 : v = 2
  · subst v2; rw [if_pos rfl, if_pos (by omega), show (15 + 5 * (k : Int) + 2).toNat = 15 + 5 * k + 2 by omega]; omega
  rw [if_neg v2]
  by_cases v3 : v = 3
  · subst v3; rw [if_pos rfl, if_pos (by omega), show (15 + 5 * (k : Int) + 3).toNat = 15 + 5 * k + 3 by omega]; exact a6.1
  rw [if_neg v3]
  have hiff : ((rS z q : Int) + z (15 + 5 * k + 1) = rS z q + z (15 + 5 * k + 2)) ↔ z (15 + 5 * k + 1) = z (15 + 5 * k + 2) := by omega
  by_cases v4 : v = 4
  · subst v4
    rw [if_pos rfl]
    by_cases c : z (15 + 5 * k + 1) = z (15 + 5 * k + 2)
    · rw [if_pos (hiff.mpr c), if_pos (show (4 : Int) < 5 by omega), show (15 + 5 * (k : Int) + 4).toNat = 15 + 5 * k + 4 by omega, a7, if_pos c]
    · rw [if_neg (fun r => c (hiff.mp r)), if_pos (show (4 : Int) < 5 by omega), show (15 + 5 * (k : Int) + 4).toNat = 15 + 5 * k + 4 by omega, a7, if_neg c]
  rw [if_neg v4]
  by_cases c : z (15 + 5 * k + 1) = z (15 + 5 * k + 2)
  · rw [if_pos (hiff.mpr c), if_neg (show ¬ v < 5 by omega), a7, if_pos c, if_pos rfl]
  · rw [if_neg (fun r => c (hiff.mp r)), if_neg (show ¬ v < 5 by omega), a7, if_neg c, if_neg (by omega), a1]
    exact at_page hb h a2 ⟨a3.1, by omega⟩
/-- lines lie one behind another -/
theorem pos_s (hb : RB B z) (h : LAYR B z nl nt sy NT Y lo lf lt ln pg pf) {l : Nat} (hl : l < ln) : ∃ p : Nat, p < bk_P B ∧ lo l = p ∧ 0 ≤ lf l ∧ lf l < lt l ∧ lt l ≤ z (85 + p) ∧ (l + 1 < ln → ∃ p' : Nat, p' < bk_P B ∧ lo (l + 1) = p' ∧ (rS z p : Int) + lt l + 1 = rS z p' + lf (l + 1) ∧ ((p' = p ∧ rf_IL ln lo l = 0) ∨ (p' = p + 1 ∧ rf_IL ln lo l = 1))) ∧ (l + 1 = ln → p + 1 = bk_P B ∧ lt l = z (85 + p) ∧ rf_IL ln lo l = 1) := by
  obtain ⟨p, x, y, a1, a2, _⟩ := h.2.2.1.1.2.1.at hl
  obtain ⟨b1, b2, b3, b4, b5, b6⟩ := h.2.2.1.1.2.1.bp hb hl
  have a2' : lo l = p := by obtain ⟨p2, x2, y2, c1, c2, c3, _⟩ := h.2.2.1.1.2.1.at hl; omega
  rw [a2', Int.toNat_natCast] at b4 b5 b6
  have hz := hb.2.2.2.2.1 p a1
  have hIL := rf_IL_d ln lo l
  rw [Int.toNat_natCast, show ((l : Int) + 1).toNat = l + 1 by omega] at hIL
  refine ⟨p, a1, a2', b2, b3, b4, fun hl2 => ?_, fun hl2 => ?_⟩
  · obtain ⟨d1, d2, d3, d4⟩ := b5 hl2
    obtain ⟨p', x', y', c1, c2, c3, _⟩ := h.2.2.1.1.2.1.at hl2
    obtain ⟨g1, g2, _⟩ := h.2.2.1.1.2.1.bp hb hl2
    rw [c3] at d1 d2 d3 d4
    refine ⟨p', c1, c3, ?_⟩
    by_cases e : p' = p
    · have := d4 (by omega)
      refine ⟨by rw [e]; omega, Or.inl ⟨e, ?_⟩⟩
      rw [a2', c3] at hIL; omega
    · have e2 : p' = p + 1 := by omega
      have e3 := d3 (by omega)
      have e4 : lf (l + 1) = 0 := g1.mpr (Or.inr (by rw [show l + 1 - 1 = l by omega, a2', c3]; omega))
      refine ⟨by rw [e2, rS_s]; omega, Or.inr ⟨e2, ?_⟩⟩
      rw [a2', c3] at hIL; omega
  · obtain ⟨c1, c2⟩ := b6 hl2 rfl
    exact ⟨by omega, c2, by omega⟩
theorem pos_m (hb : RB B z) (h : LAYR B z nl nt sy NT Y lo lf lt ln pg pf) : ∀ (d l : Nat), l + d < ln → ∃ p p' : Nat, lo l = p ∧ lo (l + d) = p' ∧ p ≤ p' ∧ (rS z p : Int) + lf l + d ≤ rS z p' + lf (l + d)
  | 0, l, hl => by
    obtain ⟨p, a1, a2, _⟩ := pos_s hb h hl
    exact ⟨p, p, a2, a2, Nat.le_refl _, by rw [Nat.add_zero]; omega⟩
  | d + 1, l, hl => by
    obtain ⟨p, p', a1, a2, a3, a4⟩ := pos_m hb h d l (by omega)
    obtain ⟨p2, b1, b2, b3, b4, b5, b6, b7⟩ := pos_s hb h (l := l + d) (by omega)
    obtain ⟨p3, c1, c2, c3, c4⟩ := b6 (by omega)
    have e : p2 = p' := by omega
    subst e
    refine ⟨p, p3, a1, c2, by omega, ?_⟩
    rw [show l + (d + 1) = l + d + 1 by omega]; omega
theorem a1_iff (z : Nat → Int) (ln : Int) (lo lf lt : Nat → Int) (k : Int) : ∀ (u l : Nat) (x : Int), (x = 0 ∨ x = 1) → (rf_a1 z ln lo lf lt k u l x = 1 ↔ (x = 1 ∨ ∃ j : Nat, l ≤ j ∧ j < l + u ∧ rf_MK z ln lo lf lt j k = 1))
  | 0, l, x, hx => by
    constructor
    · intro q; exact Or.inl q
    · rintro (q | ⟨j, a, b, _⟩)
      · exact q
      · omega
  | u + 1, l, x, hx => by
    unfold rf_a1
    rw [show (l : Int) + 1 = ((l + 1 : Nat) : Int) by omega, a1_iff z ln lo lf lt k u (l + 1) _ (by split <;> omega)]
    constructor
    · rintro (q | ⟨j, a, b, c⟩)
      · by_cases c : x = 1 ∨ rf_MK z ln lo lf lt l k = 1
        · rcases c with c | c
          · exact Or.inl c
          · exact Or.inr ⟨l, by omega, by omega, c⟩
        · rw [if_neg c] at q; omega
      · exact Or.inr ⟨j, by omega, by omega, c⟩
    · rintro (q | ⟨j, a, b, c⟩)
      · left; rw [if_pos (Or.inl q)]
      · by_cases e : j = l
        · left; subst e; rw [if_pos (Or.inr c)]
        · right; exact ⟨j, by omega, by omega, c⟩
theorem eo_s (hb : RB B z) (h : LAYR B z nl nt sy NT Y lo lf lt ln pg pf) {l : Nat} (hl : l < ln) : ∃ p : Nat, p < bk_P B ∧ lo l = p ∧ 0 ≤ lf l ∧ lf l < rf_EO ln lo lt l ∧ rf_EO ln lo lt l ≤ z (85 + p) ∧ (l + 1 < ln → ∃ p' : Nat, p' < bk_P B ∧ lo (l + 1) = p' ∧ (rS z p : Int) + rf_EO ln lo lt l ≤ rS z p' + lf (l + 1) ∧ (p' = p → (rS z p : Int) + rf_EO ln lo lt l = rS z p' + lf (l + 1)) ∧ (¬ p' = p → rf_EO ln lo lt l = z (85 + p))) ∧ (l + 1 = ln → rf_EO ln lo lt l = z (85 + p)) := by
  obtain ⟨p, b1, b2, b3, b4, b5, b6, b7⟩ := pos_s hb h hl
  have hz := hb.2.2.2.2.1 p b1
  unfold rf_EO
  rw [Int.toNat_natCast]
  by_cases e : l + 1 < ln
  · obtain ⟨p', d1, d2, d3, d4⟩ := b6 e
    obtain ⟨p2, f1, f2, f3, f4, f5, _⟩ := pos_s hb h e
    have e2 : p2 = p' := by omega
    subst e2
    rcases d4 with ⟨r1, r2⟩ | ⟨r1, r2⟩
    · subst r1
      rw [r2, if_neg (by omega)]
      exact ⟨p2, b1, b2, b3, by omega, by omega, fun _ => ⟨p2, f1, f2, by omega, fun _ => by omega, fun q => absurd rfl q⟩, fun q => by omega⟩
    · rw [r2, if_pos rfl]
      have d5 := d3
      rw [r1, rS_s] at d5
      exact ⟨p, b1, b2, b3, by omega, b5, fun _ => ⟨p2, f1, f2, by omega, fun q => by omega, fun _ => by omega⟩, fun q => by omega⟩
  · obtain ⟨d1, d2, d3⟩ := b7 (by omega)
    rw [d3, if_pos rfl]
    exact ⟨p, b1, b2, b3, by omega, by omega, fun q => absurd q e, fun _ => d2⟩
theorem pos_lt (hb : RB B z) (h : LAYR B z nl nt sy NT Y lo lf lt ln pg pf) {i j p p' : Nat} (hij : i ≤ j) (hj : j < ln) (hp : lo i = p) (hp' : lo j = p') : p ≤ p' ∧ (rS z p : Int) + lf i + ((j : Int) - i) ≤ rS z p' + lf j := by
  obtain ⟨p1, p2, u1, u2, u3, u4⟩ := pos_m hb h (j - i) i (by omega)
  rw [show i + (j - i) = j by omega] at u2 u4
  have e1 : p1 = p := by omega
  have e2 : p2 = p' := by omega
  subst e1; subst e2
  omega
/-- an annotation on a page -/
theorem on_page (hb : RB B z) (hm : MR (bk_P B) z M) (h : LAYR B z nl nt sy NT Y lo lf lt ln pg pf) {g : Nat} (hg : g < pg) {k : Nat} (hk : (k : Int) < z 14) : mk_tc M.2.2.1 M.2.2.2.2.1 M.2.2.2.2.2.1 (cl_pl B Y g) (cl_pl B Y ((g : Int) + 1)) k = if rf_a1 z ln lo lf lt k (pf (g + 1) - pf g).toNat (pf g) 0 = 1 then 1 else 0 := by
  obtain ⟨m1, m2, m3, ⟨m4, m5, m6⟩, m7⟩ := id hm
  obtain ⟨q, a1, a2, a3, a4, a5, a6, a7⟩ := m7 k hk
  obtain ⟨x, y, g1, g2, g3, g4, g5, g6⟩ := pg_eq h hg
  obtain ⟨px, x', c1, c2, c3, c4, c5, c6, c7⟩ := pl_eq hb h hg
  have ex : x' = x := by omega
  subst ex
  have hend : (∃ p : Nat, y < ln ∧ p < bk_P B ∧ lo y = p ∧ cl_pl B Y ((g : Int) + 1) = rS z p + lf y) ∨ (y = ln ∧ cl_pl B Y ((g : Int) + 1) = bk_m B + 1) := by
    by_cases c : g + 1 < pg
    · left
      obtain ⟨p, y', d1, d2, d3, d4, d5, d6, d7⟩ := pl_eq hb h c
      have e : y' = y := by omega
      subst e
      exact ⟨p, d2, d3, d4, by rw [show (g : Int) + 1 = ((g + 1 : Nat) : Int) by omega]; exact d5⟩
    · right
      have h4 := h.2.2.2.1.2.2.2.1
      rw [Int.toNat_natCast, show pg = g + 1 by omega, g2] at h4
      refine ⟨by omega, ?_⟩
      show bk_ws B (cl_fwl B Y (cl_fl Y ((g : Int) + 1))) = _
      rw [g6]
      unfold cl_fwl
      rw [h.1, lg_o (by omega)]
      unfold bk_ws
      rw [wst (Nat.le_refl _), hb.1.2, hb.1.1, st_n]
  have hmk : ∀ j : Nat, j < ln → (rf_MK z ln lo lf lt j k = 1 ↔ (lo j = q ∧ z (15 + 5 * k + 1) < rf_EO ln lo lt j ∧ lf j < z (15 + 5 * k + 2) ∧ ¬ z (15 + 5 * k + 1) = z (15 + 5 * k + 2))) := fun j hj => by
    unfold rf_MK
    rw [show (15 + 5 * (k : Int)).toNat = 15 + 5 * k by omega, show (15 + 5 * (k : Int) + 1).toNat = 15 + 5 * k + 1 by omega, show (15 + 5 * (k : Int) + 2).toNat = 15 + 5 * k + 2 by omega, show (15 + 5 * (k : Int) + 4).toNat = 15 + 5 * k + 4 by omega, Int.toNat_natCast, a7, a1]
    by_cases c : z (15 + 5 * k + 1) = z (15 + 5 * k + 2)
    · rw [if_pos c, if_neg (by omega)]
      constructor
      · intro r; omega
      · intro r; exact absurd c r.2.2.2
    · rw [if_neg c]
      by_cases d : (q : Int) = lo j ∧ z (15 + 5 * k + 1) < rf_EO ln lo lt j ∧ lf j < z (15 + 5 * k + 2) ∧ (0 : Int) = 0
      · rw [if_pos d]; exact ⟨fun _ => ⟨d.1.symm, d.2.1, d.2.2.1, c⟩, fun _ => rfl⟩
      · rw [if_neg d]
        constructor
        · intro r; omega
        · intro r; exact absurd ⟨r.1.symm, r.2.1, r.2.2.1, rfl⟩ d
  have hz := hb.2.2.2.2.1 q a2
  have hrb := rb_b hb a2
  unfold mk_tc mk_lost
  rw [m4, mk_get_i hk m6, mk_get_i hk m6, a4, a5, g1, g2, show ((y : Int) - x').toNat = y - x' by omega]
  have key := a1_iff z ln lo lf lt k (y - x') x' 0 (Or.inl rfl)
  by_cases c : rf_a1 z ln lo lf lt k (y - x') x' 0 = 1
  · rw [if_pos c]
    rcases key.mp c with r | ⟨j, r1, r2, r3⟩
    · omega
    · have hjl : j < ln := by omega
      have hjy : j < y := by omega
      obtain ⟨s1, s2, s3, s4⟩ := (hmk j hjl).mp r3
      clear r3 key c hmk
      obtain ⟨p, t1, t2, t3, t4, t5, t6, t7⟩ := eo_s hb h hjl
      generalize rf_EO ln lo lt j = E9 at s2 t4 t5 t6 t7
      have ep : p = q := by omega
      subst ep
      have u := pos_lt hb h r1 hjl c4 t2
      have hE : (rS z p : Int) + z (15 + 5 * k + 1) < cl_pl B Y ((g : Int) + 1) := by
        rcases hend with ⟨pe, f1, f2, f3, f4⟩ | ⟨f1, f2⟩
        · rw [f4]
          obtain ⟨p2, v1, v2, v3, v4, v5⟩ := t6 (by omega)
          have v := pos_lt hb h (i := j + 1) (j := y) (by omega) f1 v2 f3
          omega
        · rw [f2]; omega
      clear t6 t7
      rw [c5, if_pos ⟨hE, by omega, by rw [if_neg (by omega)]⟩]
  · rw [if_neg c, if_neg]
    rintro ⟨r1, r2, r3⟩
    have hne : ¬ z (15 + 5 * k + 1) = z (15 + 5 * k + 2) := fun e => by rw [if_pos (by omega)] at r3; omega
    apply c
    rw [key]
    right
    obtain ⟨cl, l1, _, _, l4, l5, l6⟩ := at_line hb h a2 (o := z (15 + 5 * k + 1)) ⟨a3.1, by omega⟩
    obtain ⟨p, t1, t2, t3, t4, t5, t6, t7⟩ := eo_s hb h l1
    have ep : p = q := by omega
    subst ep
    rw [c5] at r2
    by_cases hc : x' ≤ cl
    · have hcy : cl < y := by
        rcases Nat.lt_or_ge cl y with w | w
        · exact w
        · exfalso
          rcases hend with ⟨pe, f1, f2, f3, f4⟩ | ⟨f1, f2⟩
          · have v := pos_lt hb h (i := y) (j := cl) w l1 f3 t2
            omega
          · omega
      refine ⟨cl, hc, by omega, (hmk cl l1).mpr ⟨l4, ?_, by omega, hne⟩⟩
      by_cases e : cl + 1 < ln
      · obtain ⟨p2, v1, v2, v3, v4, v5⟩ := t6 e
        by_cases e2 : p2 = p
        · have := l6 (cl + 1) (by omega) e
          rw [v2, Int.toNat_natCast] at this
          have := v4 e2
          omega
        · have := v5 e2; omega
      · have := t7 (by omega); omega
    · have hF := l6 x' (by omega) c2
      rw [c4, Int.toNat_natCast] at hF
      have v := pos_lt hb h (i := cl) (j := x') (by omega) c2 t2 c4
      have epx : px = p := by
        rcases Nat.lt_or_ge p px with w | w
        · have := rS_lt hb w (by omega); omega
        · omega
      subst epx
      obtain ⟨p2, w1, w2, w3, w4, _⟩ := eo_s hb h c2
      exact ⟨x', Nat.le_refl _, by omega, (hmk x' c2).mpr ⟨c4, by omega, by omega, hne⟩⟩
theorem bt_eq (hb : RB B z) (hm : MR (bk_P B) z M) (h : LAYR B z nl nt sy NT Y lo lf lt ln pg pf) {g : Nat} (hg : g < pg) : ∀ k : Nat, (k : Int) ≤ z 14 → mk_bt M.2.2.1 M.2.2.2.2.1 M.2.2.2.2.2.1 (cl_pl B Y g) (cl_pl B Y ((g : Int) + 1)) k = rf_a2 z ln lo lf lt (pf g) (pf (g + 1)) k
  | 0, _ => rfl
  | k + 1, hk => by
    unfold mk_bt rf_a2
    rw [bt_eq hb hm h hg k (by omega), on_page hb hm h hg (by omega)]
theorem pgq_eq (hb : RB B z) (hm : MR (bk_P B) z M) (h : LAYR B z nl nt sy NT Y lo lf lt ln pg pf) {P : pg_T} (hP : P.2.1 = sy) {q : Nat} (hq : q < pg) {v : Int} (hv : 0 ≤ v ∧ v < 7) : cl_pgp B P M Y q v = rf_PN z nl nt sy Y.2.1 ln lo lf lt pf q v := by
  by_cases c : v < 6
  · exact pgp_eq hb h hP M hq ⟨hv.1, c⟩
  · have e : v = 6 := by omega
    subst e
    have := bt_eq hb hm h hq (z 14).toNat (by have := hm.2.2.2.1; omega)
    unfold cl_pgp rf_PN
    rw [if_neg (by omega), if_neg (by omega), if_neg (by omega), if_neg (by omega), if_neg (by omega), if_neg (by omega), if_neg (by omega), if_neg (by omega), if_neg (by omega), if_neg (by omega), if_neg (by omega), if_neg (by omega)]
    unfold rf_AO
    rw [Int.toNat_natCast, show ((q : Int) + 1).toNat = q + 1 by omega, ← this, hm.2.2.2.1.1]
end LAY
