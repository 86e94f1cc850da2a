/-! ===== pure: rows that are kept; history ===== -/
theorem rb_95 {B : bk_T} {z z' : Nat → Int} (h : RB B z) (e : ∀ j, j < 3695 → z' j = z j) : RB B z' := by
  obtain ⟨a1, a2, ⟨a3, a3'⟩, a4, a5, a6, a7, a8, ⟨a9, a9'⟩, a10⟩ := h
  have eS : ∀ p, p ≤ bk_P B → rS z' p = rS z p := fun p hp => rS_c p fun j hj => e _ (by omega)
  refine ⟨a1, a2, ⟨a3, by rw [e 0 (by omega)]; exact a3'⟩, fun p hp => by rw [e _ (by omega)]; exact a4 p hp, fun p hp => by rw [e _ (by omega)]; exact a5 p hp, by rw [eS _ (Nat.le_refl _)]; exact a6, fun p hp k hk => ?_, fun p hp => by rw [eS p (by omega), e _ (by omega)]; exact a8 p hp, ⟨fun p hp => by rw [eS p (by omega)]; exact a9 p hp, a9'⟩, a10⟩
  rw [e _ (by omega)] at hk
  have := a5 p hp
  rw [eS p (by omega), e _ (by omega)]; exact a7 p hp k hk
theorem mr_lt {P : Nat} {z z' : Nat → Int} {M : mk_T} (hP : P ≤ 10) (h : MR P z M) (e : ∀ j, j < 3695 → z' j = z j) : MR P z' M := by
  obtain ⟨m1, m2, m3, m4, m5⟩ := h
  have eS : ∀ p, p ≤ P → rS z' p = rS z p := fun p hp => rS_c p fun j hj => e _ (by omega)
  have ps : ∀ {i : Nat} {x : Int}, i < 100 → PS z P i x → PS z' P i x := fun {i x} hi hx => by
    obtain ⟨q, h1, h2, h3, h4, h5⟩ := hx
    exact ⟨q, by rw [e i (by omega)]; exact h1, h2, by rw [e (i + 1) (by omega)]; exact h3, by rw [e (i + 1) (by omega), e (85 + q) (by omega)]; exact h4, by rw [eS q (by omega), e (i + 1) (by omega)]; exact h5⟩
  refine ⟨ps (by omega) m1, by rw [e 3 (by omega)]; exact m2, fun k hk => ?_, by rw [e 14 (by omega)]; exact m4, fun k hk => ?_⟩
  · rw [e 3 (by omega)] at hk; exact ps (by omega) (m3 k hk)
  · rw [e 14 (by omega)] at hk
    obtain ⟨q, h1, h2, h3, h4, h5, h6, h7⟩ := m5 k hk
    refine ⟨q, by rw [e _ (by omega)]; exact h1, h2, ?_, ?_, ?_, ?_, ?_⟩
    · rw [e (15 + 5 * k + 1) (by omega), e (15 + 5 * k + 2) (by omega), e (85 + q) (by omega)]; exact h3
    · rw [eS q (by omega), e (15 + 5 * k + 1) (by omega)]; exact h4
    · rw [eS q (by omega), e (15 + 5 * k + 2) (by omega)]; exact h5
    · rw [e (15 + 5 * k + 3) (by omega)]; exact h6
    · rw [e (15 + 5 * k + 4) (by omega), e (15 + 5 * k + 1) (by omega), e (15 + 5 * k + 2) (by omega)]; exact h7
theorem mr_M {P : Nat} {z : Nat → Int} {M M' : mk_T} (h : MR P z M) (e1 : M'.1 = M.1) (e2 : M'.2.1 = M.2.1) (e3 : M'.2.2.1 = M.2.2.1) (e4 : ∀ k : Nat, k < 5 → M'.2.2.2.1 k = M.2.2.2.1 k) (e5 : ∀ k : Nat, k < 12 → M'.2.2.2.2.1 k = M.2.2.2.2.1 k) (e6 : ∀ k : Nat, k < 12 → M'.2.2.2.2.2.1 k = M.2.2.2.2.2.1 k) (e7 : ∀ k : Nat, k < 12 → M'.2.2.2.2.2.2 k = M.2.2.2.2.2.2 k) : MR P z M' := by
  obtain ⟨m1, m2, m3, m4, m5⟩ := h
  refine ⟨by rw [e1]; exact m1, by rw [e2]; exact m2, fun k hk => by rw [e4 k (by omega)]; exact m3 k hk, by rw [e3]; exact m4, fun k hk => by rw [e5 k (by omega), e6 k (by omega), e7 k (by omega)]; exact m5 k hk⟩
theorem cpy_0 {S D : Nat → Int} {n k : Nat} (h : k < n) : va_cpy S D 0 0 n k = S k := by
  unfold va_cpy; rw [if_pos (by omega)]; exact congrArg _ (by omega)
theorem mr_cp {P : Nat} {z : Nat → Int} {S D : mk_T} (h : MR P z S) : MR P z (mk_cp D S) :=
  mr_M h rfl rfl rfl (fun _ hk => cpy_0 hk) (fun _ hk => cpy_0 hk) (fun _ hk => cpy_0 hk) (fun _ hk => cpy_0 hk)
theorem mo_w {b b' : Int} {M : mk_T} (h : mk_ok b M) (hb : b ≤ b') : mk_ok b' M := by
  obtain ⟨a1, a2, a3, a4, a5, a6⟩ := h
  exact ⟨by omega, a2, a3, fun i => by have := a4 i; omega, fun i => by have := a5 i; omega, fun i => by have := a6 i; omega⟩
theorem mo_cpy {b : Int} {S D : Nat → Int} {n : Nat} (hS : ∀ i, -b ≤ S i ∧ S i ≤ b) (hD : ∀ i, -b ≤ D i ∧ D i ≤ b) (i : Nat) : -b ≤ va_cpy S D 0 0 n i ∧ va_cpy S D 0 0 n i ≤ b := by
  unfold va_cpy; split
  · exact hS _
  · exact hD _
theorem mo_cp {b : Int} {S D : mk_T} (hS : mk_ok b S) (hD : mk_ok b D) : mk_ok b (mk_cp D S) := by
  obtain ⟨a1, a2, a3, a4, a5, a6⟩ := hS
  obtain ⟨_, _, _, b4, b5, b6⟩ := hD
  exact ⟨a1, a2, a3, mo_cpy a4 b4, mo_cpy a5 b5, mo_cpy a6 b6⟩
theorem mo_map {b : Int} {g o : Nat → Int} {n : Int} (hg : ∀ i, -b ≤ g i ∧ g i ≤ b) (ho : ∀ i, -b ≤ o i ∧ o i ≤ b) (i : Nat) : -b ≤ ji_map g o n i ∧ ji_map g o n i ≤ b := by
  unfold ji_map; split
  · exact hg _
  · exact ho _
theorem mo_og {b gap many : Int} {M : mk_T} (h : mk_ok b M) (hg : 0 ≤ gap ∧ gap ≤ b) (hm : 0 ≤ many ∧ many ≤ 101) : mk_ok (b + 101) (mk_og M gap many) := by
  obtain ⟨a1, a2, a3, a4, a5, a6⟩ := h
  have op : ∀ v, -b ≤ v ∧ v ≤ b → -(b + 101) ≤ mk_op v gap many ∧ mk_op v gap many ≤ b + 101 := fun v hv => by unfold mk_op; split <;> omega
  refine ⟨op _ a1, a2, a3, mo_map (fun i => op _ (a4 i)) fun i => ?_, mo_map (fun i => op _ (a5 i)) fun i => ?_, mo_map (fun i => ?_) fun i => ?_⟩
  · have := a4 i; omega
  · have := a5 i; omega
  · unfold mk_oT; split
    · omega
    · exact op _ (a6 i)
  · have := a6 i; omega
theorem mo_cg {b x y r : Int} {M : mk_T} (h : mk_ok b M) (hx : 0 ≤ x ∧ x ≤ y ∧ y ≤ b) (hr : -b ≤ r ∧ r ≤ b) : mk_ok b (mk_cg M x y r) := by
  obtain ⟨a1, a2, a3, a4, a5, a6⟩ := h
  have cl : ∀ v s, -b ≤ v ∧ v ≤ b → -b ≤ s ∧ s ≤ b → -b ≤ mk_cl v x y s ∧ mk_cl v x y s ≤ b := fun v s hv hs => by unfold mk_cl; split; omega; split <;> omega
  exact ⟨cl _ _ a1 hr, a2, a3, mo_map (fun i => cl _ _ (a4 i) hr) a4, mo_map (fun i => cl _ _ (a5 i) (by omega)) a5, mo_map (fun i => cl _ _ (a6 i) (by omega)) a6⟩
theorem mo_ct {b k : Int} {M : mk_T} (h : mk_ok b M) (hk : 1 ≤ k ∧ k ≤ b) : mk_ok b (mk_ct M k) := by
  obtain ⟨a1, a2, a3, a4, a5, a6⟩ := h
  have ct : ∀ v, -b ≤ v ∧ v ≤ b → -b ≤ mk_cut v k ∧ mk_cut v k ≤ b := fun v hv => by unfold mk_cut; split <;> omega
  refine ⟨ct _ a1, a2, a3, mo_map (fun i => ct _ (a4 i)) a4, a5, mo_map (fun i => ?_) a6⟩
  unfold mk_cT; split
  · omega
  · exact a6 i
/-- the row that is kept as number i -/
def hz (kp : Nat → Int) (i : Nat) : Nat → Int := fun j => if j < 3695 then kp (3695 * i + j) else 0
theorem hz_i {kp : Nat → Int} {i j : Nat} (h : j < 3695) : hz kp i j = kp (3695 * i + j) := if_pos h
theorem zx_hz {z kp : Nat → Int} {i : Nat} (h : ZX z) (e : ∀ j, j < 3695 → kp (3695 * i + j) = z j) : ZX (hz kp i) := by
  have e' : ∀ j, hz kp i j = z j ∨ (3695 ≤ j ∧ hz kp i j = 0) := fun j => by
    unfold hz
    by_cases c : j < 3695
    · rw [if_pos c, e j c]; exact Or.inl rfl
    · rw [if_neg c]; exact Or.inr ⟨by omega, rfl⟩
  refine ⟨fun j => ?_, fun j a b => ?_, fun j a b => ?_, fun j a => ?_⟩
  · rcases e' j with q | ⟨_, q⟩ <;> rw [q]
    · exact h.1 j
    · omega
  · rcases e' j with q | ⟨r, q⟩
    · rw [q]; exact h.2.1 j a b
    · omega
  · rcases e' j with q | ⟨r, q⟩
    · rw [q]; exact h.2.2.1 j a b
    · omega
  · rcases e' j with q | ⟨_, q⟩ <;> rw [q]
    · exact h.2.2.2 j a
    · omega
def SV (S : bk_T) (w : Nat → Int) (M : mk_T) : Prop := RB S w ∧ BX S ∧ ZX w ∧ MR (bk_P S) w M
def HR (H : hi_T) (SB : Nat → bk_T) (kp : Nat → Int) : Prop := ∀ i : Nat, (i : Int) < H.1 → SV (SB i) (hz kp i) (H.2.2.2 (H.2.2.1 i))
theorem sv_hz {S : bk_T} {z kp : Nat → Int} {M : mk_T} {i : Nat} (h : SV S z M) (e : ∀ j, j < 3695 → kp (3695 * i + j) = z j) : SV S (hz kp i) M := by
  obtain ⟨h1, h2, h3, h4⟩ := h
  have e' : ∀ j, j < 3695 → hz kp i j = z j := fun j hj => by rw [hz_i hj]; exact e j hj
  exact ⟨rb_95 h1 e', h2, zx_hz h3 e, mr_lt h1.2.2.1.1.2 h4 e'⟩
theorem sv_e {S : bk_T} {w w' : Nat → Int} {M : mk_T} (h : SV S w M) (e : w' = w) : SV S w' M := e ▸ h
theorem sv_cp {S : bk_T} {w : Nat → Int} {M D : mk_T} (h : SV S w M) : SV S w (mk_cp D M) := ⟨h.1, h.2.1, h.2.2.1, mr_cp h.2.2.2⟩
def hi_SB (H : hi_T) (SB : Nat → bk_T) (B : bk_T) : Nat → bk_T := if H.1 < 4 then va_up SB H.1.toNat B else fun i => if i < 3 then SB (i + 1) else B
theorem hr_k0 {H : hi_T} {SB : Nat → bk_T} {kp kp' z : Nat → Int} {B : bk_T} {M : mk_T} (hh : HR H SB kp) (h0 : 0 ≤ H.1 ∧ H.1 < 4) (hj : ∀ i j, i < 4 → j < 4 → H.2.2.1 i = H.2.2.1 j → i = j) (hS : SV B z M) (bk : Nat) (e1 : ∀ i j : Nat, (i : Int) < H.1 → j < 3695 → kp' (3695 * i + j) = kp (3695 * i + j)) (e2 : ∀ j, j < 3695 → kp' (3695 * H.1.toNat + j) = z j) : HR (hi_k0 H M bk) (va_up SB H.1.toNat B) kp' := by
  intro i hi
  have hi' : (i : Int) < H.1 + 1 := hi
  show SV (va_up SB H.1.toNat B i) (hz kp' i) (va_up H.2.2.2 (H.2.2.1 H.1.toNat) (mk_cp (H.2.2.2 (H.2.2.1 H.1.toNat)) M) (H.2.2.1 i))
  by_cases c : i = H.1.toNat
  · rw [c, va_up_self, va_up_self]
    exact sv_cp (sv_hz hS e2)
  · have hi2 : (i : Int) < H.1 := by omega
    rw [va_up_ne _ _ c, va_up_ne _ _ (fun q => c (hj i H.1.toNat (by omega) (by omega) q))]
    refine sv_e (hh i hi2) ?_
    funext j
    unfold hz
    by_cases d : j < 3695
    · rw [if_pos d, if_pos d, e1 i j hi2 d]
    · rw [if_neg d, if_neg d]
theorem hr_k {H : hi_T} {SB : Nat → bk_T} {kp z : Nat → Int} {B : bk_T} {M : mk_T} (hh : HR H SB kp) (h0 : 0 ≤ H.1 ∧ H.1 ≤ 4) (hj : ∀ i j, i < 4 → j < 4 → H.2.2.1 i = H.2.2.1 j → i = j) (hS : SV B z M) (bk : Nat) : HR (hi_k H M bk) (hi_SB H SB B) (rf_KP z kp H.1) ∧ (hi_k H M bk).1 = rf_KE H.1 := by
  unfold hi_k hi_SB rf_KP rf_KE
  by_cases c : H.1 < 4
  · rw [if_pos c, if_pos c, if_neg (show ¬ H.1 = 4 by omega), if_neg (show ¬ H.1 = 4 by omega)]
    refine ⟨hr_k0 hh ⟨h0.1, c⟩ hj hS bk (fun i j hi hj => ?_) (fun j hj => ?_), rfl⟩
    · unfold va_cpy; rw [if_neg (by omega)]
    · unfold va_cpy; rw [if_pos (by omega)]; exact congrArg _ (by omega)
  · have h4 : H.1 = 4 := by omega
    rw [if_neg c, if_neg c, if_pos h4, if_pos h4]
    have hf : HR (hi_fo H) (fun i => if i < 3 then SB (i + 1) else B) (va_cpy kp kp 3695 0 11085) := by
      intro i hi
      have hi' : (i : Int) < 3 := hi
      show SV (if i < 3 then SB (i + 1) else B) (hz (va_cpy kp kp 3695 0 11085) i) (H.2.2.2 (if i < 3 then H.2.2.1 (i + 1) else if i = 3 then H.2.2.1 0 else H.2.2.1 i))
      rw [if_pos (by omega), if_pos (by omega)]
      refine sv_e (hh (i + 1) (by omega)) ?_
      funext j
      unfold hz va_cpy
      by_cases d : j < 3695
      · rw [if_pos d, if_pos d, if_pos (by omega)]; exact congrArg _ (by omega)
      · rw [if_neg d, if_neg d]
    have := hr_k0 (kp' := va_cpy z (va_cpy kp kp 3695 0 11085) 0 (3695 * (H.1 - 1)).toNat 3695) hf ⟨show (0 : Int) ≤ 3 by omega, show (3 : Int) < 4 by omega⟩ (fun i j hi hj' q => ?_) hS bk (fun i j hi hj => ?_) (fun j hj => ?_)
    · refine ⟨?_, by rw [h4]; rfl⟩
      have e : va_up (fun i => if i < 3 then SB (i + 1) else B) (hi_fo H).1.toNat B = fun i => if i < 3 then SB (i + 1) else B := by
        funext i
        show va_up (fun i => if i < 3 then SB (i + 1) else B) 3 B i = _
        by_cases d : i = 3
        · rw [d, va_up_self, if_neg (by omega)]
        · rw [va_up_ne _ _ d]
      rw [e] at this; exact this
    · have q' : (if i < 3 then H.2.2.1 (i + 1) else if i = 3 then H.2.2.1 0 else H.2.2.1 i) = (if j < 3 then H.2.2.1 (j + 1) else if j = 3 then H.2.2.1 0 else H.2.2.1 j) := q
      by_cases c1 : i < 3
      · rw [if_pos c1] at q'
        by_cases c2 : j < 3
        · rw [if_pos c2] at q'
          have := hj (i + 1) (j + 1) (by omega) (by omega) q'; omega
        · rw [if_neg c2, if_pos (by omega)] at q'
          have := hj (i + 1) 0 (by omega) (by omega) q'; omega
      · rw [if_neg c1, if_pos (by omega)] at q'
        by_cases c2 : j < 3
        · rw [if_pos c2] at q'
          have := hj 0 (j + 1) (by omega) (by omega) q'; omega
        · omega
    · have hi' : (i : Int) < 3 := hi
      unfold va_cpy; rw [if_neg (by omega)]
    · show va_cpy z (va_cpy kp kp 3695 0 11085) 0 (3695 * (H.1 - 1)).toNat 3695 (3695 * 3 + j) = z j
      rw [h4]
      unfold va_cpy; rw [if_pos (by omega)]; exact congrArg _ (by omega)
theorem uz_v {z kp : Nat → Int} {ed : Int} (h : 0 < ed) (j : Nat) : rf_UZ z kp ed j = if j < 3695 then kp (3695 * (ed - 1).toNat + j) else z j := by
  unfold rf_UZ va_cpy
  by_cases c : j < 3695
  · rw [if_pos c, if_pos (by omega)]; exact congrArg _ (by omega)
  · rw [if_neg c, if_neg (by omega)]
theorem hr_u {H : hi_T} {SB : Nat → bk_T} {kp z : Nat → Int} {M : mk_T} (hh : HR H SB kp) (h0 : 0 < H.1) (hz' : ZX z) : SV (SB (H.1 - 1).toNat) (rf_UZ z kp H.1) (mk_cp M (H.2.2.2 (H.2.2.1 (H.1 - 1).toNat))) := by
  have h := hh (H.1 - 1).toNat (by omega)
  obtain ⟨h1, h2, h3, h4⟩ := h
  have e : ∀ j, j < 3695 → rf_UZ z kp H.1 j = hz kp (H.1 - 1).toNat j := fun j hj => by rw [uz_v h0, if_pos hj, hz_i hj]
  refine ⟨rb_95 h1 e, h2, ?_, mr_cp (mr_lt h1.2.2.1.1.2 h4 e)⟩
  have e' : ∀ j, 3695 ≤ j → rf_UZ z kp H.1 j = z j := fun j hj => by rw [uz_v h0, if_neg (by omega)]
  refine ⟨fun j => ?_, fun j a b => by rw [e j (by omega)]; exact h3.2.1 j a b, fun j a b => by rw [e j (by omega)]; exact h3.2.2.1 j a b, fun j a => ?_⟩
  · rcases Nat.lt_or_ge j 3695 with c | c
    · rw [e j c]; exact h3.1 j
    · rw [e' j c]; exact hz'.1 j
  · rcases Nat.lt_or_ge j 3695 with c | c
    · rw [e j c]; exact h3.2.2.2 j a
    · rw [e' j c]; exact hz'.2.2.2 j a
