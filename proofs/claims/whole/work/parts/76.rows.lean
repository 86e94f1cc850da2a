/-! ===== pure: the rows of lines ===== -/
/-- the class's lines and the reference's; X: the word behind them -/
def LR (B : bk_T) (z nt sy : Nat → Int) (A : Nat → Nat → Int) (lo lf lt : Nat → Int) (ln X : Nat) : Prop := ((ln = 0 ∧ X = 0) ∨ (0 < ln ∧ A 2 0 = 0)) ∧ ∀ l : Nat, l < ln → ∃ p x y : Nat, p < bk_P B ∧ A 3 l = p ∧ lo l = p ∧ A 2 l = x ∧ va_up (A 2) ln X (l + 1) = y ∧ bk_fr B p ≤ x ∧ x < y ∧ (y : Int) ≤ bk_fr B (p + 1) ∧ wd_starts (bk_m B) (bk_tx B) x = rS z p + lf l ∧ wd_starts (bk_m B) (bk_tx B) y - 1 = rS z p + lt l ∧ A 4 l = rf_ID z sy p (lf l) ∧ A 7 l = rf_n1 (rf_ch z nt p) (lt l - lf l).toNat (lf l) 0
theorem la_3 {B : bk_T} {A : Nat → Nat → Int} {ln : Nat} {p ind x y : Int} : ly_add B A ln p ind x y 3 = va_up (A 3) ln p := by
  unfold ly_add; rw [va_up_ne _ _ (by omega), va_up_ne _ _ (by omega), va_up_ne _ _ (by omega), va_up_self, Int.toNat_natCast]
theorem la_4 {B : bk_T} {A : Nat → Nat → Int} {ln : Nat} {p ind x y : Int} : ly_add B A ln p ind x y 4 = va_up (A 4) ln ind := by
  unfold ly_add; rw [va_up_ne _ _ (by omega), va_up_ne _ _ (by omega), va_up_self, Int.toNat_natCast]
theorem la_2 {B : bk_T} {A : Nat → Nat → Int} {ln : Nat} {p ind x y : Int} : ly_add B A ln p ind x y 2 = va_up (A 2) ln x := by
  unfold ly_add; rw [va_up_ne _ _ (by omega), va_up_self, Int.toNat_natCast]
theorem la_7 {B : bk_T} {A : Nat → Nat → Int} {ln : Nat} {p ind x y : Int} : ly_add B A ln p ind x y 7 = va_up (A 7) ln (ly_rf B (y - x).toNat x 0) := by
  unfold ly_add; rw [va_up_self, Int.toNat_natCast]
theorem la_o {B : bk_T} {A : Nat → Nat → Int} {ln p ind x y : Int} {k : Nat} (h : k ≠ 2 ∧ k ≠ 3 ∧ k ≠ 4 ∧ k ≠ 7) : ly_add B A ln p ind x y k = A k := by
  unfold ly_add; rw [va_up_ne _ _ (by omega), va_up_ne _ _ (by omega), va_up_ne _ _ (by omega), va_up_ne _ _ (by omega)]
theorem ly_id {B : bk_T} {z : Nat → Int} (h : RB B z) (sy : Nat → Int) {p : Nat} (hp : p < bk_P B) : ly_fi B sy p = rf_ID z sy p 0 ∧ ∀ x : Int, 0 < x → ly_li B sy p = rf_ID z sy p x := by
  have hk := bk_kind_e h hp
  have hb := (h.2.2.2.1 p hp).2
  have e0 : ly_st sy 0 = sy 0 := if_pos (by omega)
  have e1 : ly_st sy 1 = sy 1 := if_pos (by omega)
  unfold ly_fi ly_li rf_ID
  rw [hk, e0, e1, show (75 + (p : Int)).toNat = 75 + p by omega]
  refine ⟨?_, fun x hx => ?_⟩
  · by_cases c : z (75 + p) = 0
    · rw [if_pos c, if_neg (by omega), if_pos ⟨c, rfl⟩]
    · rw [if_neg c]
      by_cases c2 : z (75 + p) = 2
      · rw [if_pos c2, if_pos c2]
      · rw [if_neg c2, if_neg c2, if_neg (fun q => c q.1)]
  · by_cases c2 : z (75 + p) = 2
    · rw [if_pos c2, if_pos c2]
    · rw [if_neg c2, if_neg c2, if_neg (by omega)]
theorem RB.ca {B : bk_T} {z : Nat → Int} (h : RB B z) : ca_ok (bk_tx B) (bk_m B) := h.2.2.2.2.2.2.2.2.2.1
theorem l1_eq {B : bk_T} {z : Nat → Int} (h : RB B z) (nl nt sy : Nat → Int) (w : Int) {p f0 g : Nat} (hp : p < bk_P B) (hf0 : bk_fr B p = f0) (hg : bk_fr B (p + 1) = g) : ∀ (d x uC uR ln : Nat) (A : Nat → Nat → Int) (lo lf lt : Nat → Int) (ind : Int), x + d = g → f0 ≤ x → ln ≤ x → LR B z nt sy A lo lf lt ln x → d ≤ uC → z (85 + p) - (wd_starts (bk_m B) (bk_tx B) x - rS z p) ≤ uR → ind = rf_ID z sy p (wd_starts (bk_m B) (bk_tx B) x - rS z p) →
    ∃ (ln2 : Nat) (A2 : Nat → Nat → Int) (lo2 lf2 lt2 : Nat → Int), ly_bl1 B w sy p g uC x ind ln A = ((ln2 : Int), A2) ∧ rf_l1 z nl nt sy w p uR (wd_starts (bk_m B) (bk_tx B) x - rS z p) ln lo lf lt = ((ln2 : Int), lo2, lf2, lt2) ∧ LR B z nt sy A2 lo2 lf2 lt2 ln2 g ∧ ln2 ≤ g ∧ ln ≤ ln2 ∧ (0 < d → ln < ln2) ∧ (∀ k, k ≠ 2 ∧ k ≠ 3 ∧ k ≠ 4 ∧ k ≠ 7 → A2 k = A k)
  | 0, x, uC, uR, ln, A, lo, lf, lt, ind, h1, h2, h3, h4, h5, h6, h7 => by
    have hsl := rb_sl h nt hp
    have e2 := sl_g hsl
    obtain ⟨q1, q2⟩ := rb_fr h hp
    have hz := h.2.2.2.2.1 p hp
    rw [hg] at q2
    have eg : g = wd_cnt (bk_tx B) (rS z p + (z (85 + p)).toNat) + 1 := by omega
    rw [← eg] at e2
    have ex : x = g := by omega
    subst ex
    refine ⟨ln, A, lo, lf, lt, ?_, ?_, h4, h3, Nat.le_refl _, fun q => by omega, fun k _ => rfl⟩
    · cases uC with
      | zero => rfl
      | succ uC => unfold ly_bl1; rw [if_neg (by omega)]
    · cases uR with
      | zero => rfl
      | succ uR => unfold rf_l1; rw [show (85 + (p : Int)).toNat = 85 + p by omega, if_neg (by omega)]
  | d + 1, x, 0, uR, ln, A, lo, lf, lt, ind, h1, h2, h3, h4, h5, h6, h7 => by omega
  | d + 1, x, uC + 1, uR, ln, A, lo, lf, lt, ind, h1, h2, h3, h4, h5, h6, h7 => by
    have hsl := rb_sl h nt hp
    have ht := h.2.1
    have e2 := sl_g hsl
    have ef := sl_f hsl
    obtain ⟨q1, q2⟩ := rb_fr h hp
    have hz := h.2.2.2.2.1 p hp
    rw [hg] at q2
    rw [hf0] at q1
    have eg : g = wd_cnt (bk_tx B) (rS z p + (z (85 + p)).toNat) + 1 := by omega
    have e0 : f0 = wd_cnt (bk_tx B) (rS z p) := by omega
    have g24 := (rb_n h (p + 1) (by omega)).2.1
    rw [hg] at g24
    have hP := h.2.2.1.1
    obtain ⟨w1, w2, w3, w4⟩ := sl_w ht hsl (c := x) (by omega)
    obtain ⟨uR, rfl⟩ : ∃ v, uR = v + 1 := ⟨uR - 1, by omega⟩
    obtain ⟨y, y1, y2, y3, y4⟩ := LE_eq ht hsl (f := x) (by omega) ind w
    rw [← eg, ← h.1.1, ← h.1.2] at y1
    have eL : rf_LT z nl nt sy w p (wd_starts (bk_m B) (bk_tx B) x - rS z p) = wd_starts (bk_m B) (bk_tx B) y - 1 - rS z p := by
      unfold rf_LT
      rw [← h7, show rf_sz z nl (p : Int) = ((z (85 + p)).toNat : Nat) by unfold rf_sz; rw [if_pos (by omega), show (85 + (p : Int)).toNat = 85 + p by omega]; omega]
      exact y4
    have hxy := st_le ht (x := x) (y := y) (by omega) (by have := sl_gn hsl; omega)
    have hLR : LR B z nt sy (ly_add B A ln p ind x y) (va_up lo ln p) (va_up lf ln (wd_starts (bk_m B) (bk_tx B) x - rS z p)) (va_up lt ln (wd_starts (bk_m B) (bk_tx B) y - 1 - rS z p)) (ln + 1) y := by
      refine ⟨Or.inr ⟨by omega, ?_⟩, fun l hl => ?_⟩
      · rw [la_2]
        rcases h4.1 with ⟨q, r⟩ | ⟨q, r⟩
        · rw [q, va_up_self, r]; rfl
        · rw [va_up_ne _ _ (by omega)]; exact r
      rw [la_2, la_3, la_4, la_7]
      by_cases e : l = ln
      · subst e
        refine ⟨p, x, y, hp, va_up_self _ _ _, va_up_self _ _ _, va_up_self _ _ _, va_up_self _ _ _, by omega, by omega, by omega, ?_, ?_, ?_, ?_⟩
        · rw [va_up_self]; omega
        · rw [va_up_self]; omega
        · rw [va_up_self, va_up_self]; exact h7
        · rw [va_up_self, va_up_self, va_up_self]
          have hm := rf_many h.1 ht h.ca hsl (y - x - 1) x 0 (by omega) (by omega) (by omega)
          rw [show y - x - 1 + 1 = y - x by omega, show x + (y - x - 1) + 1 = y by omega] at hm
          rw [show ((y : Int) - x).toNat = y - x by omega, hm]
          congr 1; omega
      · obtain ⟨p', x', y', a1, a2, a3, a4, a5, a6, a7, a8, a9, a10, a11, a12⟩ := h4.2 l (by omega)
        refine ⟨p', x', y', a1, (va_up_ne _ _ e).trans a2, (va_up_ne _ _ e).trans a3, (va_up_ne _ _ e).trans a4, ?_, a6, a7, a8, ?_, ?_, ?_, ?_⟩
        · rw [va_up_ne _ _ (by omega)]; exact a5
        · rw [va_up_ne _ _ e]; exact a9
        · rw [va_up_ne _ _ e]; exact a10
        · rw [va_up_ne _ _ e, va_up_ne _ _ e]; exact a11
        · rw [va_up_ne _ _ e, va_up_ne _ _ e, va_up_ne _ _ e]; exact a12
    obtain ⟨ln2, A2, lo2, lf2, lt2, r1, r2, r3, r4, r5, r6, r7⟩ := l1_eq h nl nt sy w hp hf0 hg (g - y) y uC uR (ln + 1) _ _ _ _ (ly_li B sy p) (by omega) (by omega) (by omega) hLR (by omega) (by omega) ((ly_id h sy hp).2 _ (by omega))
    refine ⟨ln2, A2, lo2, lf2, lt2, ?_, ?_, r3, r4, by omega, fun _ => by omega, fun k hk => (r7 k hk).trans (la_o hk)⟩
    · unfold ly_bl1
      rw [if_pos (by omega), y1, show (ln : Int) + 1 = ((ln + 1 : Nat) : Int) by omega]
      exact r1
    · unfold rf_l1
      rw [show (85 + (p : Int)).toNat = 85 + p by omega, if_pos (by omega), eL, Int.toNat_natCast, show (ln : Int) + 1 = ((ln + 1 : Nat) : Int) by omega, show wd_starts (bk_m B) (bk_tx B) y - 1 - (rS z p : Int) + 1 = wd_starts (bk_m B) (bk_tx B) y - rS z p by omega]
      exact r2
theorem l2_eq {B : bk_T} {z : Nat → Int} (h : RB B z) (nl nt sy : Nat → Int) (w : Int) : ∀ (d p ln f0 : Nat) (A : Nat → Nat → Int) (lo lf lt : Nat → Int), p + d = bk_P B → bk_fr B p = f0 → ln ≤ f0 → LR B z nt sy A lo lf lt ln f0 →
    ∃ (ln2 : Nat) (A2 : Nat → Nat → Int) (lo2 lf2 lt2 : Nat → Int), ly_bl B w sy d p ((ln : Int), A) = ((ln2 : Int), A2) ∧ rf_l2 z nl nt sy w d p ln lo lf lt = ((ln2 : Int), lo2, lf2, lt2) ∧ LR B z nt sy A2 lo2 lf2 lt2 ln2 (bk_n B) ∧ ln2 ≤ bk_n B ∧ ln + d ≤ ln2 ∧ (∀ k, k ≠ 2 ∧ k ≠ 3 ∧ k ≠ 4 ∧ k ≠ 7 → A2 k = A k)
  | 0, p, ln, f0, A, lo, lf, lt, h1, h2, h3, h4 => by
    have e : p = bk_P B := by omega
    have e2 : f0 = bk_n B := by
      have := h.2.2.2.2.2.2.2.2.1.2
      rw [e] at h2; omega
    subst e2
    exact ⟨ln, A, lo, lf, lt, rfl, rfl, h4, h3, by omega, fun k _ => rfl⟩
  | d + 1, p, ln, f0, A, lo, lf, lt, h1, h2, h3, h4 => by
    have hp : p < bk_P B := by omega
    have hlt := rb_fl h hp
    obtain ⟨g, hg⟩ := Int.eq_ofNat_of_zero_le (show 0 ≤ bk_fr B (p + 1) by have := rb_n h (p + 1) (by omega); omega)
    have hg : bk_fr B (p + 1) = g := hg
    have hsl := rb_sl h nt hp
    have ef := sl_f hsl
    have q1 := (rb_fr h hp).1
    rw [h2] at q1
    have e0 : f0 = wd_cnt (bk_tx B) (rS z p) := by omega
    rw [← e0] at ef
    have hz := h.2.2.2.2.1 p hp
    have ez : wd_starts (bk_m B) (bk_tx B) f0 - rS z p = 0 := by omega
    obtain ⟨ln2, A2, lo2, lf2, lt2, r1, r2, r3, r4, r5, r6, r7⟩ := l1_eq h nl nt sy w hp h2 hg (g - f0) f0 (g - f0) (z (85 + p)).toNat ln A lo lf lt (ly_fi B sy p) (by omega) (by omega) h3 h4 (by omega) (by omega) (by rw [ez]; exact (ly_id h sy hp).1)
    have r6 := r6 (by omega)
    obtain ⟨ln3, A3, lo3, lf3, lt3, s1, s2, s3, s4, s5, s6⟩ := l2_eq h nl nt sy w d (p + 1) ln2 g A2 lo2 lf2 lt2 (by omega) hg r4 r3
    refine ⟨ln3, A3, lo3, lf3, lt3, ?_, ?_, s3, s4, by omega, fun k hk => (s6 k hk).trans (r7 k hk)⟩
    · unfold ly_bl
      have e1 : bk_fw B ((p : Int) + 1) = g := by rw [show (p : Int) + 1 = ((p + 1 : Nat) : Int) by omega, bk_fw_e (by omega)]; exact hg
      have e2 : bk_fw B (p : Int) = f0 := by rw [bk_fw_e (by omega)]; exact h2
      rw [e1, e2, show ((g : Int) - f0).toNat = g - f0 by omega]
      rw [r1, show (p : Int) + 1 = ((p + 1 : Nat) : Int) by omega]
      exact s1
    · unfold rf_l2
      rw [ez] at r2
      rw [show (85 + (p : Int)).toNat = 85 + p by omega, r2, show (p : Int) + 1 = ((p + 1 : Nat) : Int) by omega]
      exact s2
