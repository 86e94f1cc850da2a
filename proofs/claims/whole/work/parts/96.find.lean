/-! ===== pure: find, the words in turn ===== -/
def fw_s (I : in_T) (B : bk_T) (b r : Int) (c : Nat) (x : Int) : Int := if ¬ cl_bg I B c = 0 ∧ (¬ b = 0 ∧ r < bk_ws B c ∧ x = -1 ∨ b = 0 ∧ bk_ws B c < r) then bk_pos B (bk_ws B c) else x
def fw (I : in_T) (B : bk_T) (b r : Int) : Nat → Int
  | 0 => -1
  | c + 1 => fw_s I B b r c (fw I B b r c)
theorem wb_n (I : in_T) (B : bk_T) (r : Int) : ∀ (u k : Nat), cl_wb I B r u k = -1 ∨ ∃ c : Nat, cl_wb I B r u k = c ∧ k ≤ c ∧ c < k + u
  | 0, k => Or.inl rfl
  | u + 1, k => by
    rw [cl_wb_s]
    by_cases c : r < bk_ws B k ∧ ¬ cl_bg I B k = 0
    · rw [if_pos c]; exact Or.inr ⟨k, rfl, Nat.le_refl _, by omega⟩
    · rw [if_neg c, show ((k : Int) + 1) = ((k + 1 : Nat) : Int) by omega]
      rcases wb_n I B r u (k + 1) with e | ⟨c, e, e1, e2⟩
      · exact Or.inl e
      · exact Or.inr ⟨c, e, by omega, by omega⟩
theorem wb_sn (I : in_T) (B : bk_T) (r : Int) : ∀ (u k : Nat), cl_wb I B r (u + 1) k = if cl_wb I B r u k = -1 then (if r < bk_ws B ((k + u : Nat) : Int) ∧ ¬ cl_bg I B ((k + u : Nat) : Int) = 0 then ((k + u : Nat) : Int) else -1) else cl_wb I B r u k
  | 0, k => by
    show (if _ then (k : Int) else -1) = if (-1 : Int) = -1 then _ else _
    rw [if_pos rfl]; rfl
  | u + 1, k => by
    have ih := wb_sn I B r u (k + 1)
    rw [cl_wb_s I B r (u + 1) k, cl_wb_s I B r u k]
    by_cases c : r < bk_ws B k ∧ ¬ cl_bg I B k = 0
    · rw [if_pos c, if_pos c, if_neg (by omega)]
    · rw [if_neg c, if_neg c, show ((k : Int) + 1) = ((k + 1 : Nat) : Int) by omega, ih, show k + 1 + u = k + (u + 1) by omega]
theorem fw_f {I : in_T} {B : bk_T} {r : Int} {n : Nat} (hp : ∀ c : Nat, c < n → 0 ≤ bk_pos B (bk_ws B c)) : ∀ u : Nat, u ≤ n → fw I B 1 r u = if cl_wb I B r u 0 = -1 then -1 else bk_pos B (bk_ws B (cl_wb I B r u 0))
  | 0, _ => rfl
  | u + 1, hu => by
    have ih := fw_f (I := I) (r := r) hp u (by omega)
    have sn := wb_sn I B r u 0
    rw [Nat.zero_add, show ((0 : Nat) : Int) = (0 : Int) from rfl] at sn
    have wn := wb_n I B r u 0
    rw [show ((0 : Nat) : Int) = (0 : Int) from rfl] at wn
    show fw_s I B 1 r u (fw I B 1 r u) = _
    rw [ih, sn]
    unfold fw_s
    rcases wn with e | ⟨c, e, e1, e2⟩
    · rw [e, if_pos rfl, if_pos rfl]
      by_cases k : r < bk_ws B (u : Int) ∧ ¬ cl_bg I B (u : Int) = 0
      · rw [if_pos k, if_pos ⟨k.2, Or.inl ⟨by omega, k.1, rfl⟩⟩, if_neg (by omega)]
      · rw [if_neg k, if_neg (fun q => k ⟨by rcases q.2 with w | w; exact w.2.1; omega, q.1⟩), if_pos rfl]
    · have hc := hp c (by omega)
      rw [e, if_neg (by omega), if_neg (by omega), if_neg (by omega), if_neg (by rintro ⟨-, w | w⟩ <;> omega)]
theorem wf_n (I : in_T) (B : bk_T) (r : Int) : ∀ u : Nat, cl_wf I B r u = -1 ∨ ∃ c : Nat, cl_wf I B r u = c ∧ c < u
  | 0 => Or.inl rfl
  | u + 1 => by
    show (if bk_ws B (u : Int) < r ∧ ¬ cl_bg I B (u : Int) = 0 then (u : Int) else cl_wf I B r u) = -1 ∨ ∃ c : Nat, (if bk_ws B (u : Int) < r ∧ ¬ cl_bg I B (u : Int) = 0 then (u : Int) else cl_wf I B r u) = c ∧ c < u + 1
    by_cases c : bk_ws B (u : Int) < r ∧ ¬ cl_bg I B (u : Int) = 0
    · rw [if_pos c]; exact Or.inr ⟨u, rfl, by omega⟩
    · rw [if_neg c]
      rcases wf_n I B r u with e | ⟨c, e, e1⟩
      · exact Or.inl e
      · exact Or.inr ⟨c, e, by omega⟩
theorem fw_b {I : in_T} {B : bk_T} {r : Int} : ∀ u : Nat, fw I B 0 r u = if cl_wf I B r u = -1 then -1 else bk_pos B (bk_ws B (cl_wf I B r u))
  | 0 => rfl
  | u + 1 => by
    have ih := fw_b (I := I) (B := B) (r := r) u
    show fw_s I B 0 r u (fw I B 0 r u) = _
    have e : cl_wf I B r (u + 1) = if bk_ws B (u : Int) < r ∧ ¬ cl_bg I B (u : Int) = 0 then (u : Int) else cl_wf I B r u := rfl
    rw [ih, e]
    unfold fw_s
    by_cases k : bk_ws B (u : Int) < r ∧ ¬ cl_bg I B (u : Int) = 0
    · rw [if_pos k, if_pos ⟨k.2, Or.inr ⟨rfl, k.1⟩⟩, if_neg (by omega)]
    · rw [if_neg k, if_neg]
      rintro ⟨q, w | w⟩
      · exact w.1 rfl
      · exact k ⟨w.2, q⟩
theorem ord_p {B : bk_T} {z : Nat → Int} (h : RB B z) {p q : Nat} (hp : p < bk_P B) (hq : q < bk_P B) {k o : Int} (hk : 0 ≤ k ∧ k ≤ z (85 + p)) (ho : 0 ≤ o ∧ o ≤ z (85 + q)) : (rS z q : Int) + o < rS z p + k ↔ 1000 * (q : Int) + o < 1000 * p + k := by
  have h1 := h.2.2.2.2.1 p hp
  have h2 := h.2.2.2.2.1 q hq
  rcases Nat.lt_or_ge q p with c | c
  · have := rS_m z (show q + 1 ≤ p by omega)
    rw [rS_s] at this
    omega
  · rcases Nat.lt_or_ge p q with d | d
    · have := rS_m z (show p + 1 ≤ q by omega)
      rw [rS_s] at this
      omega
    · have : p = q := by omega
      subst this; omega
/-- a word of a paragraph -/
theorem word_p {B : bk_T} {z : Nat → Int} (h : RB B z) {p : Nat} (hp : p < bk_P B) {c : Nat} (h1 : bk_fr B p ≤ c) (h2 : (c : Int) < bk_fr B (p + 1)) : ∃ x y : Nat, wd_starts (bk_m B) (bk_tx B) c = x ∧ wd_starts (bk_m B) (bk_tx B) (c + 1) = y + 1 ∧ x < y ∧ rS z p ≤ x ∧ y ≤ rS z p + (z (85 + p)).toNat ∧ (∀ i, x ≤ i → i < y → ¬ bk_tx B i = 32) ∧ (y = bk_m B ∨ (y < bk_m B ∧ bk_tx B y = 32)) ∧ bk_ws B c = x ∧ wd_end (bk_m B) (bk_n B) (bk_s B) c = y ∧ c < bk_n B := by
  obtain ⟨f0, e0, l0, s0⟩ := rb_st h (p := p) (by omega)
  obtain ⟨f1, e1, l1, s1⟩ := rb_st h (p := p + 1) (by omega)
  rw [rS_s] at s1
  have hn := h.1.1
  have ht := h.2.1
  obtain ⟨x, y, a1, a2, a3, a4, a5, a6, a7, a8, a9⟩ := st_w (tx := bk_tx B) (m := bk_m B) (c := c) (by omega)
  have k1 := st_le ht (x := f0) (y := c) (by omega) (by omega)
  have k2 := st_le ht (x := c + 1) (y := f1) (by omega) (by omega)
  refine ⟨x, y, a1, a2, st_ne ht a3 a4 a8 a9, by omega, by omega, a7, a8, ?_, ?_, by omega⟩
  · unfold bk_ws wd_start
    rw [if_pos (by omega), h.1.2, Int.toNat_natCast]; exact a1
  · unfold wd_end
    rw [if_pos (by omega), h.1.2, show ((c : Int) + 1).toNat = c + 1 by omega, a2]; omega
section FIND
variable {B : bk_T} {z nt : Nat → Int} {I : in_T} {bf : Nat → Int}
theorem f1_eq (h : RB B z) (h0 : 0 ≤ I.1) (hf : ∀ k : Nat, (k : Int) < I.1 → I.2.1 k = bf k) (b : Int) {q : Nat} {o : Int} (hq : q < bk_P B) (ho : 0 ≤ o ∧ o ≤ z (85 + q)) {p : Nat} (hp : p < bk_P B) {f9 : Nat} (hf9 : bk_fr B (p + 1) = f9) : ∀ (d c u : Nat) (k x : Int), c + d = f9 → bk_fr B p ≤ c → k = wd_starts (bk_m B) (bk_tx B) c - rS z p → z (85 + p) - k ≤ u → x = fw I B b (rS z q + o) c →
    rf_f1 (z (85 + p)) (rf_ch z nt p) I.1 bf b (1000 * q + o) p u k x = fw I B b (rS z q + o) f9
  | 0, c, u, k, x, hd, hc, hk, hu, hx => by
    obtain ⟨f1, e1, l1, s1⟩ := rb_st h (p := p + 1) (by omega)
    rw [rS_s] at s1
    have hz := h.2.2.2.2.1 p hp
    have : c = f1 := by omega
    subst this
    have hkL : ¬ k < z (85 + p) := by omega
    have ef : f9 = c := by omega
    subst ef
    rcases u with _ | u
    · exact hx
    · show (if k < z (85 + p) then _ else x) = _
      rw [if_neg hkL]; exact hx
  | d + 1, c, u, k, x, hd, hc, hk, hu, hx => by
    obtain ⟨x1, y1, a1, a2, a3, a4, a5, a6, a7, a8, a9, a10⟩ := word_p h hp hc (by omega)
    have hz := h.2.2.2.2.1 p hp
    have hsl := rb_sl h nt hp
    have hr := rb_b h hp
    have hk1 : k = (x1 : Int) - rS z p := by omega
    obtain ⟨u, rfl⟩ : ∃ u', u = u' + 1 := ⟨u - 1, by omega⟩
    have hWE : rf_WE (z (85 + p)) (rf_ch z nt p) k = (y1 : Int) - rS z p := by
      have hC : ∀ i : Nat, i < (z (85 + p)).toNat → rf_ch z nt p i = bk_tx B (rS z p + i) := hsl.2.1
      refine WE_eq (by omega) (by omega) (fun i q1 q2 => ?_) ?_
      · have := hC i.toNat (by omega)
        rw [show ((i.toNat : Nat) : Int) = i by omega] at this
        rw [this]; exact a6 _ (by omega) (by omega)
      · rcases Nat.lt_or_ge y1 (rS z p + (z (85 + p)).toNat) with w | w
        · right
          have := hC (y1 - rS z p) (by omega)
          rw [show ((y1 - rS z p : Nat) : Int) = (y1 : Int) - rS z p by omega, show rS z p + (y1 - rS z p) = y1 by omega] at this
          rw [this]
          rcases a7 with v | v
          · omega
          · exact v.2
        · left; omega
    have hbg : (¬ cl_bg I B c = 0) ↔ rf_IW (z (85 + p)) (rf_ch z nt p) I.1 bf k = 1 := by
      have := bg_eq (len := I.1) (g := I.2.1) (bf := bf) h0 hf (tx := bk_tx B) (m := bk_m B) (x := x1) (y := y1) (by omega) (by omega) a6 (b := rS z p) (L := (z (85 + p)).toNat) (C := rf_ch z nt p) hsl ⟨a4, a5⟩ a7
      rw [show (((z (85 + p)).toNat : Nat) : Int) = z (85 + p) by omega, ← hk1] at this
      have e : cl_bg I B c = if I.1 < (y1 : Int) - x1 then 0 else in_eq I.1 I.2.1 (bk_m B) (bk_tx B) x1 ((y1 : Int) - x1) ((y1 : Int) - x1).toNat 0 := by
        show (if I.1 < wd_end (bk_m B) (bk_n B) (bk_s B) c - bk_ws B c then 0 else in_eq I.1 I.2.1 (bk_m B) (bk_tx B) (bk_ws B c) (wd_end (bk_m B) (bk_n B) (bk_s B) c - bk_ws B c) (wd_end (bk_m B) (bk_n B) (bk_s B) c - bk_ws B c).toNat 0) = _
        rw [a8, a9]
      rw [e]; exact this
    have hpos : bk_pos B (bk_ws B c) = 1000 * p + k := by
      rw [a8, show (x1 : Int) = rS z p + k by omega]
      exact pos_at h hp (by omega)
    have o1 := ord_p h hp hq (k := k) (o := o) (by omega) ho
    have o2 := ord_p h hq hp (k := o) (o := k) ho (by omega)
    show (if k < z (85 + p) then rf_f1 (z (85 + p)) (rf_ch z nt p) I.1 bf b (1000 * q + o) p u (rf_WE (z (85 + p)) (rf_ch z nt p) k + 1) (if rf_IW (z (85 + p)) (rf_ch z nt p) I.1 bf k = 1 ∧ (¬ b = 0 ∧ 1000 * (q : Int) + o < 1000 * p + k ∧ x = -1 ∨ b = 0 ∧ 1000 * (p : Int) + k < 1000 * q + o) then 1000 * p + k else x) else x) = _
    rw [if_pos (by omega), hWE]
    refine f1_eq h h0 hf b hq ho hp hf9 d (c + 1) u _ _ (by omega) (by omega) (by rw [a2]; omega) (by omega) ?_
    show _ = fw_s I B b (rS z q + o) c (fw I B b (rS z q + o) c)
    rw [← hx]
    unfold fw_s
    rw [hpos, a8, show (x1 : Int) = rS z p + k by omega]
    by_cases w : rf_IW (z (85 + p)) (rf_ch z nt p) I.1 bf k = 1 ∧ (¬ b = 0 ∧ 1000 * (q : Int) + o < 1000 * p + k ∧ x = -1 ∨ b = 0 ∧ 1000 * (p : Int) + k < 1000 * q + o)
    · rw [if_pos w, if_pos ⟨hbg.mpr w.1, by rw [o1, o2]; exact w.2⟩]
    · rw [if_neg w, if_neg]
      rintro ⟨v1, v2⟩
      exact w ⟨hbg.mp v1, by rw [o1, o2] at v2; exact v2⟩
theorem f2_eq (h : RB B z) (h0 : 0 ≤ I.1) (hf : ∀ k : Nat, (k : Int) < I.1 → I.2.1 k = bf k) (nl : Nat → Int) (b : Int) {q : Nat} {o : Int} (hq : q < bk_P B) (ho : 0 ≤ o ∧ o ≤ z (85 + q)) : ∀ (u p : Nat) (x : Int), p + u = bk_P B → x = fw I B b (rS z q + o) (bk_fr B p).toNat → rf_f2 z nl nt I.1 bf b (1000 * q + o) u p x = fw I B b (rS z q + o) (bk_n B)
  | 0, p, x, hp, hx => by
    show x = _
    have : p = bk_P B := by omega
    rw [hx, this, h.2.2.2.2.2.2.2.2.1.2, Int.toNat_natCast]
  | u + 1, p, x, hp, hx => by
    have h10 := h.2.2.1.1
    obtain ⟨f0, e0, l0, s0⟩ := rb_st h (p := p) (by omega)
    obtain ⟨f1, e1, l1, s1⟩ := rb_st h (p := p + 1) (by omega)
    have hlt := rb_fl h (p := p) (by omega)
    show rf_f2 z nl nt I.1 bf b (1000 * q + o) u ((p : Int) + 1) (rf_f1 (rf_sz z nl p) (rf_ch z nt p) I.1 bf b (1000 * q + o) p (z (85 + (p : Int)).toNat).toNat 0 x) = _
    have es : rf_sz z nl p = z (85 + p) := by
      unfold rf_sz; rw [if_pos (by omega)]; exact congrArg _ (by omega)
    rw [es, show (85 + (p : Int)).toNat = 85 + p by omega, f1_eq h h0 hf b hq ho (p := p) (by omega) e1 (f1 - f0) f0 _ 0 x (by omega) (by omega) (by omega) (by omega) (by rw [hx, e0, Int.toNat_natCast]), show ((p : Int) + 1) = ((p + 1 : Nat) : Int) by omega]
    exact f2_eq h h0 hf nl b hq ho u (p + 1) _ (by omega) (by rw [e1, Int.toNat_natCast])
theorem find_eq {M : mk_T} (h : RB B z) (hm : MR (bk_P B) z M) (h0 : 0 ≤ I.1) (hf : ∀ k : Nat, (k : Int) < I.1 → I.2.1 k = bf k) (nl nt : Nat → Int) : (if cl_wb I B M.1 (bk_n B) 0 = -1 then -1 else bk_pos B (bk_ws B (cl_wb I B M.1 (bk_n B) 0))) = rf_FN z nl nt I.1 bf 1 ∧ (if cl_wf I B M.1 (bk_n B) = -1 then -1 else bk_pos B (bk_ws B (cl_wf I B M.1 (bk_n B)))) = rf_FN z nl nt I.1 bf 0 := by
  obtain ⟨⟨q, q1, q2, q3, q4, q5⟩, -⟩ := hm
  have q5 : M.1 = rS z q + z 2 := q5
  have q3 : 0 ≤ z 2 := q3
  have q4 : z 2 < z (85 + q) := q4
  have h00 : bk_fr B 0 = 0 := by
    have := h.2.2.1.1
    rw [(rb_fr h (p := 0) (by omega)).1]; rfl
  have key : ∀ b, rf_FN z nl nt I.1 bf b = fw I B b M.1 (bk_n B) := fun b => by
    unfold rf_FN
    rw [q1, q5, show (z 0).toNat = bk_P B by rw [h.2.2.1.2]; omega]
    exact f2_eq h h0 hf nl b q2 ⟨q3, by omega⟩ (bk_P B) 0 (-1) (by omega) (by rw [h00]; rfl)
  rw [key, key]
  refine ⟨(fw_f (n := bk_n B) (fun c hc => ?_) _ (Nat.le_refl _)).symm, (fw_b _).symm⟩
  have hpar : ∀ P : Nat, P ≤ bk_P B → (c : Int) < bk_fr B P → ∃ p : Nat, p < P ∧ bk_fr B p ≤ c ∧ (c : Int) < bk_fr B (p + 1) := by
    intro P
    induction P with
    | zero => intro _ w; omega
    | succ P ih =>
      intro w1 w2
      rcases Int.lt_or_le (c : Int) (bk_fr B P) with w | w
      · obtain ⟨p, v1, v2⟩ := ih (by omega) w
        exact ⟨p, by omega, v2⟩
      · exact ⟨P, by omega, w, w2⟩
  obtain ⟨p, v1, v2, v3⟩ := hpar (bk_P B) (Nat.le_refl _) (by rw [h.2.2.2.2.2.2.2.2.1.2]; omega)
  obtain ⟨x1, y1, a1, a2, a3, a4, a5, a6, a7, a8, a9, a10⟩ := word_p h v1 v2 v3
  have hz := h.2.2.2.2.1 p v1
  rw [a8, show (x1 : Int) = rS z p + ((x1 : Int) - rS z p) by omega, pos_at h v1 (by omega)]
  omega
end FIND
