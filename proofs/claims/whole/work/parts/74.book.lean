/-! ===== pure: a book of the class and a row of the reference ===== -/
def rS (z : Nat → Int) : Nat → Nat
  | 0 => 0
  | p + 1 => rS z p + (z (85 + p)).toNat + 1
def RB (B : bk_T) (z : Nat → Int) : Prop :=
  (bk_n B = wd_cnt (bk_tx B) (bk_m B) + 1 ∧ bk_s B = wd_starts (bk_m B) (bk_tx B)) ∧ tw_ok (bk_tx B) (bk_m B) ∧ ((1 ≤ bk_P B ∧ bk_P B ≤ 10) ∧ z 0 = bk_P B)
  ∧ (∀ p, p < bk_P B → bk_kd B p = z (75 + p) ∧ 0 ≤ z (75 + p) ∧ z (75 + p) ≤ 2) ∧ (∀ p, p < bk_P B → 1 ≤ z (85 + p) ∧ z (85 + p) ≤ 359) ∧ rS z (bk_P B) = bk_m B + 1
  ∧ (∀ p, p < bk_P B → ∀ k : Nat, (k : Int) < z (85 + p) → bk_tx B (rS z p + k) = z (95 + 360 * p + k)) ∧ (∀ p, p + 1 < bk_P B → bk_tx B (rS z p + (z (85 + p)).toNat) = 32)
  ∧ ((∀ p, p < bk_P B → bk_fr B p = wd_cnt (bk_tx B) (rS z p)) ∧ bk_fr B (bk_P B) = bk_n B)
  ∧ (∀ j, j < bk_m B → bk_tx B j = 94 → j + 1 < bk_m B ∧ (48 ≤ bk_tx B (j + 1) ∧ bk_tx B (j + 1) ≤ 57) ∧ (j + 2 = bk_m B ∨ (j + 2 < bk_m B ∧ bk_tx B (j + 2) = 32)))
  ∧ (∀ p, p < bk_P B → bk_fr B (p + 1) - bk_fr B p ≤ 24) ∧ ∀ j, j < bk_m B → 0 ≤ bk_tx B j ∧ bk_tx B j < 128
theorem rS_m (z : Nat → Int) {p q : Nat} (h : p ≤ q) : rS z p ≤ rS z q := by
  induction q with
  | zero => have e : p = 0 := by omega
            subst e; exact Nat.le_refl _
  | succ q ih =>
    by_cases e : p = q + 1
    · subst e; exact Nat.le_refl _
    · have := ih (by omega)
      show rS z p ≤ rS z q + (z (85 + q)).toNat + 1; omega
theorem rS_s (z : Nat → Int) (p : Nat) : rS z (p + 1) = rS z p + (z (85 + p)).toNat + 1 := rfl
theorem rf_ch_p {z nt : Nat → Int} {p k : Nat} (hp : p < 10) : rf_ch z nt (p : Int) (k : Int) = z (95 + 360 * p + k) := by
  unfold rf_ch; rw [if_pos (by omega), show (95 + 360 * (p : Int) + (k : Int)).toNat = 95 + 360 * p + k by omega]
theorem rb_b {B : bk_T} {z : Nat → Int} (h : RB B z) {p : Nat} (hp : p < bk_P B) : rS z p + (z (85 + p)).toNat + 1 ≤ bk_m B + 1 := by
  obtain ⟨r1, r2, r3, r4, r5, r6, r⟩ := h
  have := rS_m z (show p + 1 ≤ bk_P B by omega)
  rw [rS_s, r6] at this; exact this
theorem rb_sl {B : bk_T} {z : Nat → Int} (h : RB B z) (nt : Nat → Int) {p : Nat} (hp : p < bk_P B) : sl_ok (bk_tx B) (bk_m B) (rS z p) (z (85 + p)).toNat (rf_ch z nt p) := by
  have h0 := rb_b h hp
  obtain ⟨r1, r2, r3, r4, r5, r6, r7, r8, r9, r10, r11, r12⟩ := h
  refine ⟨by omega, fun k hk => ?_, ?_, ?_⟩
  · rw [rf_ch_p (by omega), r7 p hp k (by have := r5 p hp; omega)]
  · cases p with
    | zero => exact Or.inl rfl
    | succ p =>
      right
      refine ⟨by rw [rS_s]; omega, ?_⟩
      rw [rS_s, show rS z p + (z (85 + p)).toNat + 1 - 1 = rS z p + (z (85 + p)).toNat by omega]
      exact r8 p hp
  · by_cases e : p + 1 < bk_P B
    · right
      have h1 := rS_m z (show p + 1 + 1 ≤ bk_P B by omega)
      rw [r6, rS_s, rS_s] at h1
      exact ⟨by have := r5 (p + 1) e; omega, r8 p e⟩
    · left
      have e2 : p + 1 = bk_P B := by omega
      rw [← e2, rS_s] at r6; omega
/-- the words of a paragraph -/
theorem rb_fr {B : bk_T} {z : Nat → Int} (h : RB B z) {p : Nat} (hp : p < bk_P B) : bk_fr B p = wd_cnt (bk_tx B) (rS z p) ∧ bk_fr B (p + 1) = ((wd_cnt (bk_tx B) (rS z p + (z (85 + p)).toNat) + 1 : Nat) : Int) := by
  obtain ⟨r1, r2, r3, r4, r5, r6, r7, r8, r9, r10, r11, r12⟩ := id h
  refine ⟨r9.1 p hp, ?_⟩
  by_cases e : p + 1 < bk_P B
  · rw [r9.1 (p + 1) e, rS_s, ct_b (r8 p e)]
  · have e2 : p + 1 = bk_P B := by omega
    rw [e2, r9.2, r1.1]
    rw [← e2, rS_s] at r6
    rw [show rS z p + (z (85 + p)).toNat = bk_m B by omega]
theorem rb_n {B : bk_T} {z : Nat → Int} (h : RB B z) : ∀ p, p ≤ bk_P B → 0 ≤ bk_fr B p ∧ bk_fr B p ≤ 24 * p ∧ bk_fr B p ≤ bk_n B := by
  have hP := h.2.2.1.1
  intro p
  induction p with
  | zero =>
    intro _
    have e := (rb_fr h (p := 0) (by omega)).1
    rw [e]
    show 0 ≤ ((wd_cnt (bk_tx B) 0 : Nat) : Int) ∧ _
    refine ⟨by omega, ?_, ?_⟩
    · show ((wd_cnt (bk_tx B) 0 : Nat) : Int) ≤ _
      have : wd_cnt (bk_tx B) 0 = 0 := rfl
      omega
    · have : wd_cnt (bk_tx B) (rS z 0) = 0 := rfl
      omega
  | succ p ih =>
    intro hp
    have h1 := ih (by omega)
    have h2 := h.2.2.2.2.2.2.2.2.2.2.1 p (by omega)
    have h3 := rb_fr h (p := p) (by omega)
    have h4 := sl_gn (rb_sl h (fun _ => 0) (p := p) (by omega))
    have h5 := h.1.1
    refine ⟨?_, by omega, ?_⟩
    · rw [h3.2]; omega
    · rw [h3.2]; omega
theorem rb_fl {B : bk_T} {z : Nat → Int} (h : RB B z) {p : Nat} (hp : p < bk_P B) : bk_fr B p < bk_fr B (p + 1) := by
  obtain ⟨e1, e2⟩ := rb_fr h hp
  have := ct_m (tx := bk_tx B) (show rS z p ≤ rS z p + (z (85 + p)).toNat by omega)
  rw [e1, e2]; omega
theorem rb_fm {B : bk_T} {z : Nat → Int} (h : RB B z) : ∀ (d p : Nat), p + d ≤ bk_P B → bk_fr B p + d ≤ bk_fr B (p + d)
  | 0, p, _ => by simp
  | d + 1, p, hd => by
    have h1 := rb_fm h d p (by omega)
    have h2 := rb_fl h (p := p + d) (by omega)
    rw [show p + (d + 1) = p + d + 1 by omega]; omega
/-- places of paragraphs -/
theorem rb_st {B : bk_T} {z : Nat → Int} (h : RB B z) {p : Nat} (hp : p ≤ bk_P B) : ∃ f : Nat, bk_fr B p = f ∧ f ≤ wd_cnt (bk_tx B) (bk_m B) + 1 ∧ wd_starts (bk_m B) (bk_tx B) f = rS z p := by
  by_cases e : p < bk_P B
  · have h1 := (rb_fr h e).1
    have h2 := sl_f (rb_sl h (fun _ => 0) e)
    have h3 := rb_b h e
    have h4 := ct_m (tx := bk_tx B) (show rS z p ≤ bk_m B by omega)
    exact ⟨_, h1, by omega, h2⟩
  · have e2 : p = bk_P B := by omega
    obtain ⟨r1, r2, r3, r4, r5, r6, r7, r8, r9, r⟩ := h
    refine ⟨_, by rw [e2, r9.2, r1.1], by omega, ?_⟩
    rw [st_n, e2, r6]; rfl
theorem bk_fw_e {B : bk_T} {p : Nat} (hp : p ≤ bk_P B) : bk_fw B (p : Int) = bk_fr B p := by
  unfold bk_fw; rw [if_pos (by omega)]; rfl
theorem bk_start_e {B : bk_T} {z : Nat → Int} (h : RB B z) {p : Nat} (hp : p ≤ bk_P B) : bk_start B (p : Int) = rS z p := by
  obtain ⟨f, e1, e2, e3⟩ := rb_st h hp
  unfold bk_start bk_ws
  rw [bk_fw_e hp, e1, wst (by rw [h.1.1]; exact e2), h.1.2, e3]
theorem bk_end_e {B : bk_T} {z : Nat → Int} (h : RB B z) {p : Nat} (hp : p < bk_P B) : bk_end B (p : Int) = rS z p + z (85 + p) := by
  have h1 := bk_start_e h (p := p + 1) (by omega)
  have h2 := h.2.2.2.2.1 p hp
  unfold bk_start at h1
  unfold bk_end
  rw [show (p : Int) + 1 = ((p + 1 : Nat) : Int) by omega, h1, rS_s]
  omega
theorem bk_kind_e {B : bk_T} {z : Nat → Int} (h : RB B z) {p : Nat} (hp : p < bk_P B) : bk_kind B (p : Int) = z (75 + p) := by
  unfold bk_kind; rw [if_pos (by omega)]; exact (h.2.2.2.1 p hp).1
-- ===== notes of a line =====
theorem n1_app (C : Int → Int) : ∀ (u v : Nat) (k x : Int), rf_n1 C (u + v) k x = rf_n1 C v (k + u) (rf_n1 C u k x)
  | 0, v, k, x => by rw [Nat.zero_add, show k + ((0 : Nat) : Int) = k by omega]; rfl
  | u + 1, v, k, x => by
    rw [show u + 1 + v = u + v + 1 by omega]
    show rf_n1 C (u + v) (k + 1) _ = _
    rw [n1_app C u v (k + 1)]
    show _ = rf_n1 C v (k + ((u + 1 : Nat) : Int)) (rf_n1 C u (k + 1) _)
    rw [show k + 1 + (u : Int) = k + ((u + 1 : Nat) : Int) by omega]
theorem ly_or_0 {x : Int} (h : 0 ≤ x) : ly_or x 0 = x := by
  unfold ly_or
  show ((x.toNat ||| 0 : Nat) : Int) = x
  rw [Nat.or_zero]; omega
theorem n1_none {C : Int → Int} : ∀ (u : Nat) (k x : Int), 0 ≤ x → (∀ i, k ≤ i → i < k + u → ¬ C i = 94) → rf_n1 C u k x = x
  | 0, k, x, _, _ => rfl
  | u + 1, k, x, h, hn => by
    unfold rf_n1
    rw [if_neg (hn k (by omega) (by omega)), ly_or_0 h]
    exact n1_none u (k + 1) x h (fun i a b => hn i (by omega) (by omega))
theorem n1_word {C : Int → Int} {u : Nat} {k x : Int} (hx : 0 ≤ x ∧ x < 1024) (hu : 1 ≤ u) (hC : ∀ i, k ≤ i → i < k + u → C i = 94 → i + 2 = k + u ∧ 48 ≤ C (i + 1) ∧ C (i + 1) ≤ 57) : rf_n1 C u k x = if 2 ≤ u ∧ C (k + u - 2) = 94 then ly_or x (ly_pow (C (k + u - 1) - 48)) else x := by
  by_cases c : 2 ≤ u ∧ C (k + u - 2) = 94
  · rw [if_pos c]
    obtain ⟨v, rfl⟩ : ∃ v, u = v + 2 := ⟨u - 2, by omega⟩
    have e1 : k + ((v + 2 : Nat) : Int) - 2 = k + v := by omega
    have e2 : k + ((v + 2 : Nat) : Int) - 1 = k + v + 1 := by omega
    rw [e1] at c
    rw [e2, n1_app, n1_none v k x hx.1 (fun i a b q => by have := hC i a (by omega) q; omega)]
    have h3 := hC (k + v) (by omega) (by omega) c.2
    have hnb : ¬ C (k + v + 1) = 94 := by omega
    show rf_n1 C 1 (k + v + 1) (ly_or x (if C (k + v) = 94 then ly_pow (C (k + v + 1) - 48) else 0)) = _
    rw [if_pos c.2]
    show ly_or _ (if C (k + v + 1) = 94 then _ else 0) = _
    rw [if_neg hnb, ly_or_0 (ly_or_b hx (ly_pow_b (by omega))).1]
  · rw [if_neg c]
    refine n1_none u k x hx.1 (fun i a b q => c ?_)
    have h := hC i a b q
    refine ⟨?_, by rw [show k + (u : Int) - 2 = i by omega]; exact q⟩
    rcases Nat.lt_or_ge u 2 with z | z
    · have : k + (u : Int) ≤ i + 1 := by omega
      omega
    · exact z
