/-! ===== pure: join ===== -/
theorem pd_h {A z : Nat → Int} (h : ∀ j, 75 ≤ j → A j = z j) {q M j : Nat} (hj : 75 ≤ j) : rf_pd A q M j = rf_pd z q M j := by
  unfold rf_pd
  by_cases c1 : 75 + q ≤ j ∧ j < 75 + M
  · rw [if_pos c1, if_pos c1, h _ (by omega)]
  rw [if_neg c1, if_neg c1]
  by_cases c2 : 85 + q ≤ j ∧ j < 85 + M
  · rw [if_pos c2, if_pos c2, h _ (by omega)]
  rw [if_neg c2, if_neg c2]
  by_cases c3 : 95 + 360 * q ≤ j ∧ j < 95 + 360 * M
  · rw [if_pos c3, if_pos c3, h _ (by omega)]
  rw [if_neg c3, if_neg c3, h _ hj]
def UU (z : Nat → Int) (q L K : Nat) : Nat → Int := fun j => if j = 85 + q then (L : Int) + 1 + K else if 95 + 360 * q + L + 1 ≤ j ∧ j < 95 + 360 * q + L + 1 + K then z (95 + 360 * (q + 1) + (j - (95 + 360 * q + L + 1))) else if j = 95 + 360 * q + L then 32 else z j
def UF (z : Nat → Int) (q P L K : Nat) : Nat → Int := fun j => if j = 0 then (P : Int) - 1 else rf_pd (UU z q L K) (q + 1) (P - 1) j
theorem UN_v {z : Nat → Int} {q P L K : Nat} (h3 : 0 ≤ z 3 ∧ z 3 ≤ 5) (h14 : 0 ≤ z 14 ∧ z 14 ≤ 12) (h0 : z 0 = P) (hP : P ≤ 10) (hq : q + 1 < P) (hL : z (85 + q) = L) (hK : z (86 + q) = K) (hL9 : L + 1 + K ≤ 359) :
    MVP z (rf_UN z q) (fun u v => rn_a ((q : Int) + 1) (-1) (id_a u v) (un_b q L u v)) (fun u v => id_b (id_a u v) (un_b q L u v)) (fun u v w y => rn_0 ((q : Int) + 1) (-1) (id_0 u v w y) (un_1 q L u v w y) (un_2 q L u v w y) (id_4 u v w y)) (fun u v w y => id_1 (id_0 u v w y) (un_1 q L u v w y) (un_2 q L u v w y) (id_4 u v w y)) (fun u v w y => id_2 (id_0 u v w y) (un_1 q L u v w y) (un_2 q L u v w y) (id_4 u v w y)) (fun u v w y => id_4 (id_0 u v w y) (un_1 q L u v w y) (un_2 q L u v w y) (id_4 u v w y))
    ∧ NC z (rf_UN z q) ∧ ∀ j, (j = 0 ∨ 75 ≤ j) → rf_UN z q j = UF z q P L K j := by
  have v1 : ∀ j, rf_U1 z q j = if j = 95 + 360 * q + L then 32 else z j := fun j => by
    unfold rf_U1
    rw [show (85 + (q : Int)).toNat = 85 + q by omega, hL, show (95 + 360 * (q : Int) + L).toNat = 95 + 360 * q + L by omega]
    by_cases c : j = 95 + 360 * q + L
    · rw [if_pos c, c, va_up_self]
    · rw [if_neg c, va_up_ne _ _ c]
  have v2 : ∀ j, rf_U2 z q j = if 95 + 360 * q + L + 1 ≤ j ∧ j < 95 + 360 * q + L + 1 + K then z (95 + 360 * (q + 1) + (j - (95 + 360 * q + L + 1))) else if j = 95 + 360 * q + L then 32 else z j := fun j => by
    unfold rf_U2
    rw [show (85 + (q : Int)).toNat = 85 + q by omega, hL, show (85 + (q : Int) + 1).toNat = 86 + q by omega, v1 (86 + q), if_neg (by omega), hK, Int.toNat_natCast, show (95 + 360 * ((q : Int) + 1)).toNat = 95 + 360 * (q + 1) by omega, show (95 + 360 * (q : Int) + L + 1).toNat = 95 + 360 * q + L + 1 by omega]
    unfold va_cpy
    by_cases c : 95 + 360 * q + L + 1 ≤ j ∧ j < 95 + 360 * q + L + 1 + K
    · rw [if_pos c, if_pos c, v1, if_neg (by omega)]
    · rw [if_neg c, if_neg c, v1]
  have v3 : ∀ j, rf_U3 z q j = UU z q L K j := fun j => by
    unfold rf_U3 UU
    rw [show (85 + (q : Int)).toNat = 85 + q by omega, hL, show (85 + (q : Int) + 1).toNat = 86 + q by omega, v2 (86 + q), if_neg (by omega), if_neg (by omega), hK]
    by_cases c : j = 85 + q
    · rw [if_pos c, c, va_up_self]
    · rw [if_neg c, va_up_ne _ _ c, v2]
  have l3 : ∀ j, 1 ≤ j → j < 75 → rf_U3 z q j = z j := fun j a b => by
    rw [v3]; unfold UU; rw [if_neg (by omega), if_neg (by omega), if_neg (by omega)]
  obtain ⟨m5, h5⟩ := mv_1 (z := z) (z2 := rf_U3 z q) (a := id_a) (b := un_b q L) (g0 := id_0) (g1 := un_1 q L) (g2 := un_2 q L) (g4 := id_4) h3 h14 l3
  have n5 := nc_1 (z := z) (z2 := rf_U3 z q) (a := id_a) (b := un_b q L) (g0 := id_0) (g1 := un_1 q L) (g2 := un_2 q L) (g4 := id_4) h3 h14 l3
  have e5 : rf_U5 z q = rf_mk id_0 (un_1 q L) (un_2 q L) id_4 (rf_pl id_a (un_b q L) (rf_U3 z q) (rf_U3 z q 3 + 1).toNat) (rf_pl id_a (un_b q L) (rf_U3 z q) (rf_U3 z q 3 + 1).toNat 14).toNat := by
    unfold rf_U5 rf_U4
    rw [show (85 + (q : Int)).toNat = 85 + q by omega, hL]
  rw [← e5] at m5 n5 h5
  have g3 : rf_U5 z q 3 = z 3 := m5.1
  have g14 : rf_U5 z q 14 = z 14 := m5.2.1
  obtain ⟨m6, h6⟩ := mv_1 (z := rf_U5 z q) (z2 := rf_U5 z q) (a := rn_a ((q : Int) + 1) (-1)) (b := id_b) (g0 := rn_0 ((q : Int) + 1) (-1)) (g1 := id_1) (g2 := id_2) (g4 := id_4) (by rw [g3]; exact h3) (by rw [g14]; exact h14) (fun _ _ _ => rfl)
  have n6 := nc_1 (z := rf_U5 z q) (z2 := rf_U5 z q) (a := rn_a ((q : Int) + 1) (-1)) (b := id_b) (g0 := rn_0 ((q : Int) + 1) (-1)) (g1 := id_1) (g2 := id_2) (g4 := id_4) (by rw [g3]; exact h3) (by rw [g14]; exact h14) (fun _ _ _ => rfl)
  change MVP (rf_U5 z q) (rf_U6 z q) _ _ _ _ _ _ at m6
  change NC (rf_U5 z q) (rf_U6 z q) at n6
  change ∀ j, (j = 0 ∨ 75 ≤ j) → rf_U6 z q j = rf_U5 z q j at h6
  have h36 : ∀ j, (j = 0 ∨ 75 ≤ j) → rf_U6 z q j = UU z q L K j := fun j hj => by rw [h6 j hj, h5 j hj, v3]
  have h60 : rf_U6 z q 0 = P := by rw [h36 0 (Or.inl rfl)]; unfold UU; rw [if_neg (by omega), if_neg (by omega), if_neg (by omega), h0]
  have e7 : rf_U7 z q = rf_pd (rf_U6 z q) (q + 1) (P - 1) := by
    unfold rf_U7
    rw [h60, show ((q : Int) + 1).toNat = q + 1 by omega, show ((P : Int) - 1).toNat = P - 1 by omega]
  have l7 : ∀ j, j < 75 → rf_U7 z q j = rf_U6 z q j := fun j hj => by rw [e7]; unfold rf_pd; rw [if_neg (by omega), if_neg (by omega), if_neg (by omega)]
  have v9 : ∀ j, rf_UN z q j = if j = 0 then (P : Int) - 1 else rf_U7 z q j := fun j => by
    unfold rf_UN
    by_cases c : j = 0
    · rw [if_pos c, c, va_up_self, l7 0 (by omega), h60]
    · rw [if_neg c, va_up_ne _ _ c]
  have l9 : ∀ j, 1 ≤ j → j < 75 → rf_UN z q j = rf_U6 z q j := fun j a b => by rw [v9, if_neg (by omega), l7 j b]
  refine ⟨mvp_e (mvp_c m5 m6) h3 h14 l9, nc_e (nc_c n5 g3 g14 n6) l9, fun j hj => ?_⟩
  rw [v9]; unfold UF
  by_cases c : j = 0
  · rw [if_pos c, if_pos c]
  · rw [if_neg c, if_neg c, e7]; exact pd_h (fun i hi => h36 i (Or.inr hi)) (by omega)
theorem uf_7 {z : Nat → Int} {q P L K j : Nat} (hP : P ≤ 10) (hq : q + 1 < P) (hj : j < P - 1) : UF z q P L K (75 + j) = if j ≤ q then z (75 + j) else z (75 + (j + 1)) := by
  unfold UF rf_pd
  rw [if_neg (show ¬ 75 + j = 0 by omega)]
  by_cases d : j ≤ q
  · rw [if_pos d, if_neg (by omega), if_neg (by omega), if_neg (by omega)]
    unfold UU
    rw [if_neg (by omega), if_neg (by omega), if_neg (by omega)]
  · rw [if_neg d, if_pos (by omega)]
    unfold UU
    rw [if_neg (by omega), if_neg (by omega), if_neg (by omega)]
    rfl
theorem uf_8 {z : Nat → Int} {q P L K j : Nat} (hP : P ≤ 10) (hq : q + 1 < P) (hj : j < P - 1) : UF z q P L K (85 + j) = if j < q then z (85 + j) else if j = q then (L : Int) + 1 + K else z (85 + (j + 1)) := by
  unfold UF rf_pd
  rw [if_neg (show ¬ 85 + j = 0 by omega), if_neg (show ¬ (75 + (q + 1) ≤ 85 + j ∧ 85 + j < 75 + (P - 1)) by omega)]
  by_cases d : j < q
  · rw [if_pos d, if_neg (by omega), if_neg (by omega)]
    unfold UU
    rw [if_neg (by omega), if_neg (by omega), if_neg (by omega)]
  · rw [if_neg d]
    by_cases e : j = q
    · rw [if_pos e, if_neg (by omega), if_neg (by omega)]
      unfold UU
      rw [if_pos (by omega)]
    · rw [if_neg e, if_pos (by omega)]
      unfold UU
      rw [if_neg (by omega), if_neg (by omega), if_neg (by omega)]
      rfl
theorem uf_9 {z : Nat → Int} {q P L K j k : Nat} (hP : P ≤ 10) (hq : q + 1 < P) (hL : L + 1 + K ≤ 359) (hj : j < P - 1) (hk : k < 360) : UF z q P L K (95 + 360 * j + k) = if j = q then (if L + 1 ≤ k ∧ k < L + 1 + K then z (95 + 360 * (q + 1) + (k - (L + 1))) else if k = L then 32 else z (95 + 360 * j + k)) else if j < q then z (95 + 360 * j + k) else z (95 + 360 * (j + 1) + k) := by
  unfold UF rf_pd
  rw [if_neg (show ¬ 95 + 360 * j + k = 0 by omega), if_neg (show ¬ (75 + (q + 1) ≤ 95 + 360 * j + k ∧ 95 + 360 * j + k < 75 + (P - 1)) by omega), if_neg (show ¬ (85 + (q + 1) ≤ 95 + 360 * j + k ∧ 95 + 360 * j + k < 85 + (P - 1)) by omega)]
  by_cases d : j = q
  · rw [if_pos d, if_neg (by omega)]
    unfold UU
    rw [if_neg (by omega)]
    by_cases c : L + 1 ≤ k ∧ k < L + 1 + K
    · rw [if_pos c, if_pos (by omega)]; exact congrArg _ (by omega)
    · rw [if_neg c, if_neg (by omega)]
      by_cases c2 : k = L
      · rw [if_pos c2, if_pos (by omega)]
      · rw [if_neg c2, if_neg (by omega)]
  · rw [if_neg d]
    by_cases e : j < q
    · rw [if_pos e, if_neg (by omega)]
      unfold UU
      rw [if_neg (by omega), if_neg (by omega), if_neg (by omega)]
    · rw [if_neg e, if_pos (by omega)]
      unfold UU
      rw [if_neg (by omega), if_neg (by omega), if_neg (by omega)]
      exact congrArg _ (by omega)
theorem rS_un {z w : Nat → Int} {P q L K : Nat} (hq : q + 1 < P) (hL : z (85 + q) = L) (hK : z (86 + q) = K) (h8 : ∀ j, j < P - 1 → w (85 + j) = if j < q then z (85 + j) else if j = q then (L : Int) + 1 + K else z (85 + (j + 1))) : (∀ j, j ≤ q → rS w j = rS z j) ∧ ∀ d, q + 1 + d ≤ P - 1 → rS w (q + 1 + d) = rS z (q + 1 + d + 1) := by
  have s1 : ∀ j, j ≤ q → rS w j = rS z j := fun j hj => rS_c j fun i hi => by rw [h8 i (by omega), if_pos (by omega)]
  refine ⟨s1, fun d => ?_⟩
  induction d with
  | zero =>
    intro _
    have e : q + 1 + 0 = q + 1 := rfl
    have e2 : 85 + (q + 1) = 86 + q := by omega
    rw [e, rS_s w q, s1 q (by omega), h8 q (by omega), if_neg (by omega), if_pos rfl, rS_s z (q + 1), rS_s z q, hL, e2, hK]; omega
  | succ d ih =>
    intro hd
    have := ih (by omega)
    have e : q + 1 + (d + 1) = q + 1 + d + 1 := rfl
    rw [e, rS_s w (q + 1 + d), this, h8 (q + 1 + d) (by omega), if_neg (by omega), if_neg (by omega), rS_s z (q + 1 + d + 1)]
theorem jn_fr {B : bk_T} {q : Nat} (hn : bk_fr B (bk_P B) = bk_n B) (hq : q + 1 < bk_P B) {p : Nat} (hp : p ≤ bk_P B - 1) : bk_fr (bk_join B q) p = if p ≤ q then bk_fr B p else bk_fr B (p + 1) := by
  show va_up (ji_fill (bk_jf B q) (bk_P B - 1)) (bk_P B - 1) (bk_n B) p = _
  by_cases c : p = bk_P B - 1
  · rw [c, va_up_self, if_neg (by omega), show bk_P B - 1 + 1 = bk_P B by omega, hn]
  · rw [va_up_ne _ _ c]
    unfold ji_fill bk_jf
    rw [if_pos (by omega)]
theorem jn_kd {B : bk_T} {q p : Nat} (hp : p < bk_P B - 1) : bk_kd (bk_join B q) p = if p ≤ q then bk_kd B p else bk_kd B (p + 1) := by
  show ji_fill (bk_jk B q) (bk_P B - 1) p = _
  unfold ji_fill bk_jk
  rw [if_pos (by omega)]
theorem un_len {B : bk_T} {z : Nat → Int} (h : RX B z) {q L K : Nat} (hq : q + 1 < bk_P B) (hL : z (85 + q) = L) (hK : z (86 + q) = K) (h24 : bk_fr B (q + 2) - bk_fr B q ≤ 24) : L + 1 + K ≤ 359 := by
  obtain ⟨a1, a2, a3, a4, a5, a6, a7, a8, a9, a11, a12⟩ := h
  have e2 : 85 + (q + 1) = 86 + q := by omega
  have h1 := rS_m z (show q + 1 + 1 ≤ bk_P B by omega)
  rw [rS_s z (q + 1), rS_s z q, e2, hL, hK] at h1
  have h8 := ct_b (a8 (q + 1) (by omega))
  rw [rS_s z q, e2, hL, hK] at h8
  rw [a9 (q + 2) (by omega), a9 q (by omega), show q + 2 = q + 1 + 1 from rfl, rS_s z (q + 1), rS_s z q, e2, hL, hK] at h24
  have h4 : WL (xt (bk_tx B) (bk_m B)) (bk_m B + 1) := a2.2.2.2
  rcases Nat.lt_or_ge (L + 1 + K) 360 with c | c
  · omega
  · exfalso
    have h5 := wl_ct h4 (rS z q) 24 (by omega)
    have h6 := ct_m (tx := xt (bk_tx B) (bk_m B)) (show rS z q + 15 * 24 ≤ rS z q + (L : Int).toNat + 1 + (K : Int).toNat by omega)
    omega
theorem rx_un {B : bk_T} {z w : Nat → Int} {q L K : Nat} (h : RX B z) (hq : q + 1 < bk_P B) (hL : z (85 + q) = L) (hK : z (86 + q) = K) (h24 : bk_fr B (q + 2) - bk_fr B q ≤ 24) (hw : ∀ j, (j = 0 ∨ 75 ≤ j) → w j = UF z q (bk_P B) L K j) : RX (bk_join B q) w := by
  have hfn := rx_fn h
  have hl := un_len h hq hL hK h24
  have hl9 : ∀ p, p < bk_P B → z (85 + p) ≤ 359 := fun p hp => ((rb_rx h).1.2.2.2.2.1 p hp).2
  obtain ⟨a1, a2, ⟨a3, a3'⟩, a4, a5, a6, a7, a8, a9, a11, a12⟩ := h
  have w7 : ∀ j, j < bk_P B - 1 → w (75 + j) = _ := fun j hj => (hw (75 + j) (by omega)).trans (uf_7 a3.2 hq hj)
  have w8 : ∀ j, j < bk_P B - 1 → w (85 + j) = _ := fun j hj => (hw (85 + j) (by omega)).trans (uf_8 a3.2 hq hj)
  have w9 : ∀ j k, j < bk_P B - 1 → k < 360 → w (95 + 360 * j + k) = _ := fun j k hj hk => (hw (95 + 360 * j + k) (by omega)).trans (uf_9 a3.2 hq hl hj hk)
  obtain ⟨s1, s3⟩ := rS_un hq hL hK w8
  have s4 : ∀ p, q < p → p ≤ bk_P B - 1 → rS w p = rS z (p + 1) := fun p h1 h2 => by
    have := s3 (p - q - 1) (by omega)
    rw [show q + 1 + (p - q - 1) = p by omega] at this; exact this
  have e2 : 85 + (q + 1) = 86 + q := by omega
  refine ⟨a1, a2, ⟨⟨?_, ?_⟩, ?_⟩, fun p hp => ?_, fun p hp => ?_, ?_, fun p hp i hi => ?_, fun p hp => ?_, fun p hp => ?_, fun p hp => ?_, a12⟩
  · show 1 ≤ bk_P B - 1; omega
  · show bk_P B - 1 ≤ 10; omega
  · show w 0 = ((bk_P B - 1 : Nat) : Int)
    rw [hw 0 (Or.inl rfl)]; unfold UF; rw [if_pos rfl]; omega
  · have hp' : p < bk_P B - 1 := hp
    rw [jn_kd hp', w7 p hp']
    by_cases c1 : p ≤ q
    · rw [if_pos c1, if_pos c1]; exact a4 p (by omega)
    · rw [if_neg c1, if_neg c1]; exact a4 (p + 1) (by omega)
  · have hp' : p < bk_P B - 1 := hp
    rw [w8 p hp']
    by_cases c1 : p < q
    · rw [if_pos c1]; exact a5 p (by omega)
    rw [if_neg c1]
    by_cases c2 : p = q
    · rw [if_pos c2]; omega
    · rw [if_neg c2]; exact a5 (p + 1) (by omega)
  · show rS w (bk_P B - 1) = bk_m B + 1
    rw [s4 _ (by omega) (by omega), show bk_P B - 1 + 1 = bk_P B by omega]; exact a6
  · have hp' : p < bk_P B - 1 := hp
    show xt (bk_tx B) (bk_m B) (rS w p + i) = w (95 + 360 * p + i)
    rw [w8 p hp'] at hi
    by_cases c1 : p < q
    · rw [if_pos c1] at hi
      have := hl9 p (by omega)
      rw [w9 p i hp' (by omega), if_neg (by omega), if_pos c1, s1 p (by omega)]; exact a7 p (by omega) i hi
    rw [if_neg c1] at hi
    by_cases c2 : p = q
    · rw [if_pos c2] at hi
      rw [w9 p i hp' (by omega), if_pos c2, s1 p (by omega), c2]
      by_cases c3 : i < L
      · rw [if_neg (by omega), if_neg (by omega)]; exact a7 q (by omega) i (by omega)
      by_cases c4 : i = L
      · have := a8 q (by omega)
        rw [hL] at this
        rw [if_neg (by omega), if_pos c4, c4]; exact this
      · rw [if_pos (by omega)]
        have := a7 (q + 1) (by omega) (i - (L + 1)) (by rw [e2, hK]; omega)
        rw [rS_s z q, hL] at this
        rw [← this]; exact congrArg _ (by omega)
    · rw [if_neg c2] at hi
      have := hl9 (p + 1) (by omega)
      rw [w9 p i hp' (by omega), if_neg c2, if_neg c1, s4 p (by omega) (by omega)]; exact a7 (p + 1) (by omega) i hi
  · have hp' : p < bk_P B - 1 := hp
    show xt (bk_tx B) (bk_m B) (rS w p + (w (85 + p)).toNat) = 32
    rw [w8 p hp']
    by_cases c1 : p < q
    · rw [if_pos c1, s1 p (by omega)]; exact a8 p (by omega)
    rw [if_neg c1]
    by_cases c2 : p = q
    · have := a8 (q + 1) (by omega)
      rw [rS_s z q, hL, e2, hK] at this
      rw [if_pos c2, s1 p (by omega), c2, show rS z q + ((L : Int) + 1 + K).toNat = rS z q + (L : Int).toNat + 1 + (K : Int).toNat by omega]; exact this
    · rw [if_neg c2, s4 p (by omega) (by omega)]; exact a8 (p + 1) (by omega)
  · have hp' : p ≤ bk_P B - 1 := hp
    show bk_fr (bk_join B q) p = wd_cnt (xt (bk_tx B) (bk_m B)) (rS w p)
    rw [jn_fr hfn hq hp']
    by_cases c1 : p ≤ q
    · rw [if_pos c1, s1 p c1]; exact a9 p (by omega)
    · rw [if_neg c1, s4 p (by omega) hp']; exact a9 (p + 1) (by omega)
  · have hp' : p < bk_P B - 1 := hp
    rw [jn_fr hfn hq (p := p) (by omega), jn_fr hfn hq (p := p + 1) (by omega)]
    by_cases c1 : p + 1 ≤ q
    · rw [if_pos c1, if_pos (by omega)]; exact a11 p (by omega)
    rw [if_neg c1]
    by_cases c2 : p = q
    · rw [if_pos (by omega), c2]; exact h24
    · rw [if_neg (by omega)]; exact a11 (p + 1) (by omega)
theorem bx_un {B : bk_T} {w : Nat → Int} {q : Nat} (hq : q + 1 < bk_P B) (h : RX (bk_join B q) w) (hX : BX B) : BX (bk_join B q) := by
  refine ⟨hX.1, fun j => ?_, fun j => ?_, hX.2.2.2⟩
  · show 0 ≤ ji_fill (bk_jk B q) (bk_P B - 1) j ∧ ji_fill (bk_jk B q) (bk_P B - 1) j ≤ 2
    unfold ji_fill
    by_cases c : (j : Int) < bk_P B - 1
    · rw [if_pos c]; unfold bk_jk
      split
      · exact hX.2.1 _
      · exact hX.2.1 _
    · rw [if_neg c]; omega
  · rcases Nat.lt_or_ge (bk_P B - 1) j with c | c
    · show 0 ≤ va_up (ji_fill (bk_jf B q) (bk_P B - 1)) (bk_P B - 1) (bk_n B) j ∧ va_up (ji_fill (bk_jf B q) (bk_P B - 1)) (bk_P B - 1) (bk_n B) j ≤ 10000
      rw [va_up_ne _ _ (by omega)]; unfold ji_fill; rw [if_neg (by omega)]; omega
    · have h9 := h.2.2.2.2.2.2.2.2.1 j c
      rw [h9]
      have h1 := wd_cnt_b (xt (bk_tx B) (bk_m B)) (rS w j)
      have h2 := rS_m w (show j ≤ bk_P B - 1 from c)
      have h3 : rS w (bk_P B - 1) = bk_m B + 1 := h.2.2.2.2.2.1
      have h4' : bk_m (bk_join B q) ≤ 3600 := rb_m (rb_rx h).1
      have h4 : bk_m B ≤ 3600 := h4'
      show (0 : Int) ≤ wd_cnt (xt (bk_tx B) (bk_m B)) (rS w j) ∧ (wd_cnt (xt (bk_tx B) (bk_m B)) (rS w j) : Int) ≤ 10000
      omega
theorem mr_un {P q L K : Nat} {z w : Nat → Int} {M : mk_T} (h : MR P z M) (hq : q + 1 < P) (hL : z (85 + q) = L) (hK : z (86 + q) = K) (w8 : ∀ j, j < P - 1 → w (85 + j) = if j < q then z (85 + j) else if j = q then (L : Int) + 1 + K else z (85 + (j + 1)))
    (hv : MVP z w (fun u v => rn_a ((q : Int) + 1) (-1) (id_a u v) (un_b q L u v)) (fun u v => id_b (id_a u v) (un_b q L u v)) (fun u v w y => rn_0 ((q : Int) + 1) (-1) (id_0 u v w y) (un_1 q L u v w y) (un_2 q L u v w y) (id_4 u v w y)) (fun u v w y => id_1 (id_0 u v w y) (un_1 q L u v w y) (un_2 q L u v w y) (id_4 u v w y)) (fun u v w y => id_2 (id_0 u v w y) (un_1 q L u v w y) (un_2 q L u v w y) (id_4 u v w y)) (fun u v w y => id_4 (id_0 u v w y) (un_1 q L u v w y) (un_2 q L u v w y) (id_4 u v w y))) : MR (P - 1) w M := by
  obtain ⟨s1, s3⟩ := rS_un hq hL hK w8
  have s4 : ∀ p, q < p → p ≤ P - 1 → rS w p = rS z (p + 1) := fun p h1 h2 => by
    have := s3 (p - q - 1) (by omega)
    rw [show q + 1 + (p - q - 1) = p by omega] at this; exact this
  have e2 : 85 + (q + 1) = 86 + q := by omega
  have w8a : ∀ p, p < q → w (85 + p) = z (85 + p) := fun p hp => by rw [w8 p (by omega), if_pos hp]
  have w8b : w (85 + q) = (L : Int) + 1 + K := by rw [w8 q (by omega), if_neg (by omega), if_pos rfl]
  have w8d : ∀ p, q + 1 < p → p < P → w (85 + (p - 1)) = z (85 + p) := fun p h1 h2 => by rw [w8 (p - 1) (by omega), if_neg (by omega), if_neg (by omega), show p - 1 + 1 = p by omega]
  have sq : rS z (q + 1) = rS z q + L + 1 := by rw [rS_s, hL]; omega
  refine mr_g (fp := fun v => v) (ff := fun a _ => a) (ft := fun _ b => b) h hv (fun p o hp ho1 ho2 => ?_) (fun p a b l hp h1 h2 h3 hl => ?_) rfl rfl rfl (fun k hk => rfl) (fun k hk => rfl) (fun k hk => rfl) rfl
  · show ∃ q' : Nat, rn_a ((q : Int) + 1) (-1) p (un_b q L p o) = q' ∧ q' < P - 1 ∧ 0 ≤ un_b q L p o ∧ un_b q L p o < w (85 + q') ∧ (rS z p : Int) + o = rS w q' + un_b q L p o
    rcases Nat.lt_or_ge q p with c | c
    · rw [rn_hi (by omega)]
      by_cases d : p = q + 1
      · have e : un_b q L p o = o + (L + 1) := by unfold un_b; rw [if_pos (by omega)]
        rw [d, e2, hK] at ho2
        rw [e]
        refine ⟨q, by omega, by omega, by omega, by rw [w8b]; omega, ?_⟩
        rw [s1 q (by omega), d, sq]; omega
      · have e : un_b q L p o = o := by unfold un_b; rw [if_neg (by omega)]; omega
        rw [e]
        refine ⟨p - 1, by omega, by omega, ho1, by rw [w8d p (by omega) hp]; exact ho2, ?_⟩
        rw [s4 (p - 1) (by omega) (by omega), show p - 1 + 1 = p by omega]
    · rw [rn_lo (by omega)]
      have e : un_b q L p o = o := by unfold un_b; rw [if_neg (by omega)]; omega
      rw [e]
      refine ⟨p, rfl, by omega, ho1, ?_, by rw [s1 p c]⟩
      by_cases d : p = q
      · rw [d, hL] at ho2
        rw [d, w8b]; omega
      · rw [w8a p (by omega)]; exact ho2
  · show ∃ q' : Nat, rn_0 ((q : Int) + 1) (-1) p (un_1 q L p a b l) (un_2 q L p a b l) l = q' ∧ q' < P - 1 ∧ (0 ≤ un_1 q L p a b l ∧ un_1 q L p a b l ≤ un_2 q L p a b l ∧ un_2 q L p a b l ≤ w (85 + q')) ∧ (rS z p : Int) + a = rS w q' + un_1 q L p a b l ∧ (rS z p : Int) + b = rS w q' + un_2 q L p a b l ∧ l = if un_1 q L p a b l = un_2 q L p a b l then 1 else 0
    rcases Nat.lt_or_ge q p with c | c
    · rw [rn0_hi (by omega)]
      by_cases d : p = q + 1
      · have e1 : un_1 q L p a b l = a + (L + 1) := by unfold un_1; rw [if_pos (by omega)]
        have e3 : un_2 q L p a b l = b + (L + 1) := by unfold un_2; rw [if_pos (by omega)]
        rw [d, e2, hK] at h3
        rw [e1, e3]
        refine ⟨q, by omega, by omega, ⟨by omega, by omega, by rw [w8b]; omega⟩, by rw [s1 q (by omega), d, sq]; omega, by rw [s1 q (by omega), d, sq]; omega, ?_⟩
        rw [hl]
        by_cases c5 : a = b
        · rw [if_pos c5, if_pos (by omega)]
        · rw [if_neg c5, if_neg (by omega)]
      · have e1 : un_1 q L p a b l = a := by unfold un_1; rw [if_neg (by omega)]; omega
        have e3 : un_2 q L p a b l = b := by unfold un_2; rw [if_neg (by omega)]; omega
        rw [e1, e3]
        refine ⟨p - 1, by omega, by omega, ⟨h1, h2, by rw [w8d p (by omega) hp]; exact h3⟩, ?_, ?_, hl⟩
        · rw [s4 (p - 1) (by omega) (by omega), show p - 1 + 1 = p by omega]
        · rw [s4 (p - 1) (by omega) (by omega), show p - 1 + 1 = p by omega]
    · rw [rn0_lo (by omega)]
      have e1 : un_1 q L p a b l = a := by unfold un_1; rw [if_neg (by omega)]; omega
      have e3 : un_2 q L p a b l = b := by unfold un_2; rw [if_neg (by omega)]; omega
      rw [e1, e3]
      refine ⟨p, rfl, by omega, ⟨h1, h2, ?_⟩, by rw [s1 p c], by rw [s1 p c], hl⟩
      by_cases d : p = q
      · rw [d, hL] at h3
        rw [d, w8b]; omega
      · rw [w8a p (by omega)]; exact h3
theorem zx_un {P Q : Nat} {z w : Nat → Int} {M : mk_T} {q L K : Nat} (hz : ZX z) (hP : P ≤ 10) (hQ : Q ≤ 10) (hq : q + 1 < P) (hl : L + 1 + K ≤ 359) (h : MR Q w M) (h3 : w 3 = z 3 ∧ w 14 = z 14) (hn : NC z w) (hw : ∀ j, (j = 0 ∨ 75 ≤ j) → w j = UF z q P L K j) : ZX w := by
  have u7 : ∀ j, 75 ≤ j → j < 85 → 0 ≤ UU z q L K j ∧ UU z q L K j ≤ 2 := fun j a b => by
    unfold UU; rw [if_neg (by omega), if_neg (by omega), if_neg (by omega)]; exact hz.2.1 _ a b
  have u8 : ∀ j, 85 ≤ j → j < 95 → 0 ≤ UU z q L K j ∧ UU z q L K j ≤ 359 := fun j a b => by
    unfold UU
    by_cases c : j = 85 + q
    · rw [if_pos c]; omega
    · rw [if_neg c, if_neg (by omega), if_neg (by omega)]; exact hz.2.2.1 _ a b
  have u9 : ∀ j, 95 ≤ j → 0 ≤ UU z q L K j ∧ UU z q L K j < 128 := fun j a => by
    unfold UU
    rw [if_neg (by omega)]
    split
    · exact hz.2.2.2 _ (by omega)
    · split
      · omega
      · exact hz.2.2.2 _ a
  refine zx_mk hz h hQ (by rw [hw 0 (Or.inl rfl)]; unfold UF; rw [if_pos rfl]; omega) h3 hn (fun j a b => ?_) (fun j a b => ?_) fun j a => ?_
  · rw [hw j (by omega)]; unfold UF rf_pd
    rw [if_neg (show ¬ j = 0 by omega)]
    by_cases c : 75 + (q + 1) ≤ j ∧ j < 75 + (P - 1)
    · rw [if_pos c]; exact u7 _ (by omega) (by omega)
    · rw [if_neg c, if_neg (by omega), if_neg (by omega)]; exact u7 j a b
  · rw [hw j (by omega)]; unfold UF rf_pd
    rw [if_neg (show ¬ j = 0 by omega), if_neg (by omega)]
    by_cases c : 85 + (q + 1) ≤ j ∧ j < 85 + (P - 1)
    · rw [if_pos c]; exact u8 _ (by omega) (by omega)
    · rw [if_neg c, if_neg (by omega)]; exact u8 j a b
  · rw [hw j (by omega)]; unfold UF rf_pd
    rw [if_neg (show ¬ j = 0 by omega), if_neg (by omega), if_neg (by omega)]
    split
    · exact u9 _ (by omega)
    · exact u9 j a
