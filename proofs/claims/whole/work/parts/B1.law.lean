/-! ===== the law's cases ===== -/
def LQ1 : ji_R → ji_H → Prop := fun r _ => r = .inl (some (.int (jI 1)))
abbrev LLo (i : Int) (o5 o6 o7 o8 : Option Value) : List (Option Value) := [some (.retAddr 1), some (.ref 0), some (.ref 60), some (.ref 71), some (.int (jI i)), o5, o6, o7, o8]
/-- what the law's loop does behind a case -/
def LN (G : ji_G) (b i : Int) (bc bs : Nat) : Prop := ∀ (K : Int) (n : Nat) (h : Nat → ji_C) (o5 o6 o7 o8 : Option Value) (bc2 bs2 : Nat), bc ≤ bc2 → bs ≤ bs2 → ST K b n h → (∃ g, h 71 = .inr (.long, 1, .inr (.inl g))) → JW G 13 mL_law 2162 (LLo i o5 o6 o7 o8) [] (n, h) bc2 bs2 LQ1
theorem sT_0 {K b : Int} {n : Nat} {h : Nat → ji_C} (hs : ST K b n h) : ∃ fs, h 0 = .inl (7, fs) := by
  obtain ⟨f, I, P, M, H, Y, Z, B, NT, SB, z, kp, nt, nl, bf, rs, rr, rq, rp, mm, ln, lo, lf, lt, co, ro, pg, pf, hsh, eh, hL⟩ := hs
  rw [eh]; exact ⟨_, cl_a0 rfl⟩
theorem st_60 {K b : Int} {n : Nat} {h : Nat → ji_C} (hs : ST K b n h) : ∃ fs, h 60 = .inl (8, fs) := by
  obtain ⟨f, I, P, M, H, Y, Z, B, NT, SB, z, kp, nt, nl, bf, rs, rr, rq, rp, mm, ln, lo, lf, lt, co, ro, pg, pf, hsh, eh, hL⟩ := hs
  rw [eh, cl_a60 (by omega)]; exact ⟨_, rfl⟩
theorem st_th {G : ji_G} {d : Nat} {K b : Int} {n : Nat} {h : Nat → ji_C} (hs : ST K b n h) : JR G d mX8_thrown [.ref 60] (n, h) 0 0 (some (.int (jI K))) (n, h) := by
  obtain ⟨f, I, P, M, H, Y, Z, B, NT, SB, z, kp, nt, nl, bf, rs, rr, rq, rp, mm, ln, lo, lf, lt, co, ro, pg, pf, hsh, eh, hL⟩ := hs
  rw [eh, crf]; exact r_thrown
theorem lgs (x : Int64) : lg_cmp x x = jI 0 := by
  unfold lg_cmp
  rw [if_neg (show ¬ x > x from Int64.lt_irrefl), if_pos rfl]; rfl
section CASES
variable {G : ji_G} {K b b' : Int} {n : Nat} {h : Nat → ji_C} {i : Int} {o5 o6 o7 o8 : Option Value} {bc bs bc' bs' : Nat}

theorem lc_append (hst : ST K b n h) (h71 : ∃ g, h 71 = .inr (.long, 1, .inr (.inl g))) (hb : b + 101 ≤ b' ∧ b' ≤ 800000) (hi : 0 ≤ i ∧ i + 5 ≤ (G.2.2.2.2.2.2.1 : Int) ∧ G.2.2.2.2.2.2.1 ≤ 2560) (hbc : bc' + 6 ≤ bc) (hbs : bs' + 8000 ≤ bs) (hn : LN G b' i bc' bs') : JW G 13 mL_law 184 (LLo i o5 o6 o7 o8) [] (n, h) bc bs LQ1 := by
  have h0 := sT_0 hst
  obtain ⟨f, I, P, M, H, Y, Z, B, NT, SB, z, kp, nt, nl, bf, rs, rr, rq, rp, mm, ln, lo, lf, lt, co, ro, pg, pf, hsh, eh, hL⟩ := hst
  obtain ⟨v, e_v, b_v⟩ := jI_of (G.2.2.2.2.2.2.2 (i + 1).toNat)
  have hw : WR G mL_append mX8_append [.int (jI v)] b' n h := by subst eh; exact w_append (p_append hL (by omega) b_v) h0 h71
  obtain ⟨bc2, bs2, c1, c2, hJ⟩ := hw
  refine ji_aload_n dL_law_184 rfl trivial ?_
  refine ji_aload_n dL_law_185 rfl trivial ?_
  refine ji_iload dL_law_186 rfl ?_
  refine ji_iconst dL_law_188 ?_
  refine ji_iadd dL_law_189 ?_
  refine ji_xld dL_law_190 (by omega) ?_
  rw [e_v]
  refine ji_aload_n dL_law_191 rfl trivial ?_
  refine ji_callST dL_law_192 hJ rfl wL_append sL_append lL_110 rfl (Nat.le_of_ble_eq_true rfl) rfl (by omega) (by omega) (fun r h9 hq => ?_) (fun E h9 hq => ?_)
  · obtain ⟨K9, a9, e1, hK9, ⟨g9, eg, ega⟩, ⟨fs9, e60⟩, hR⟩ := hq
    cases e1
    refine ji_istore dL_law_195 (by decide) rfl ?_
    refine ji_aload_n dL_law_197 rfl trivial ?_
    refine ji_aload_n dL_law_198 rfl trivial ?_
    refine ji_iload dL_law_199 rfl ?_
    refine ji_iconst dL_law_201 ?_
    refine ji_iadd dL_law_202 ?_
    refine ji_xld dL_law_203 (by omega) ?_
    rw [e_v]
    refine ji_callV dL_law_204 hR rfl e60 rfl rfl wX8_append vX8_append lL_115 rfl (Nat.le_of_ble_eq_true rfl) rfl (Nat.zero_le _) (Nat.zero_le _) (fun r2 h10 hq => ?_) (fun E h10 hq => ?_)
    · obtain ⟨v2, e3, hv2, e71, hs10⟩ := hq
      cases e3
      obtain ⟨fs10, e610⟩ := st_60 hs10
      refine ji_istore dL_law_207 (by decide) rfl ?_
      refine ji_aload_n dL_law_209 rfl trivial ?_
      refine ji_cV dL_law_210 (st_th hs10) rfl e610 rfl rfl wX8_thrown vX8_thrown lL_116 rfl (Nat.le_of_ble_eq_true rfl) rfl ?_
      refine ji_iload dL_law_213 rfl ?_
      refine ji_icmp_eq (tgt := 220) dL_law_215 rfl (by omega) (by omega) (fun _ => ?_) (fun q => absurd rfl q)
      refine ji_iload dL_law_220 rfl ?_
      refine ji_if_ne (tgt := 237) dL_law_222 rfl (by omega) (fun _ => ?_) (fun q => ?_)
      · refine ji_goto (tgt := 2162) dL_law_237 rfl ?_
        exact hn _ _ _ _ _ _ _ _ _ (by omega) (by omega) hs10 ⟨g9, e71.trans eg⟩
      · have hK0 : K9 = 0 := by omega
        refine ji_aload_n dL_law_225 rfl trivial ?_
        refine ji_iconst dL_law_226 ?_
        refine ji_laload dL_law_227 (e71.trans eg) (by omega) ?_
        refine ji_iload dL_law_228 rfl ?_
        refine ji_i2l dL_law_230 rfl ?_
        refine ji_lcmp dL_law_231 ?_
        have elc : lg_cmp (g9 (0 : Int).toNat) (jI v2).toInt64 = jI 0 := by rw [show g9 (0 : Int).toNat = (jI a9).toInt64 from ega hK0, hv2 hK0]; exact lgs _
        rw [elc]
        refine ji_if_eq (tgt := 237) dL_law_232 rfl (by omega) (fun _ => ?_) (fun q => absurd rfl q)
        refine ji_goto (tgt := 2162) dL_law_237 rfl ?_
        exact hn _ _ _ _ _ _ _ _ _ (by omega) (by omega) hs10 ⟨g9, e71.trans eg⟩
    · obtain ⟨v2, e3, _⟩ := hq; cases e3
  · obtain ⟨K9, a9, e1, _⟩ := hq; cases e1

theorem lc_clearInput (hst : ST K b n h) (h71 : ∃ g, h 71 = .inr (.long, 1, .inr (.inl g))) (hb : b + 101 ≤ b' ∧ b' ≤ 800000) (hi : 0 ≤ i ∧ i + 5 ≤ (G.2.2.2.2.2.2.1 : Int) ∧ G.2.2.2.2.2.2.1 ≤ 2560) (hbc : bc' + 6 ≤ bc) (hbs : bs' + 8000 ≤ bs) (hn : LN G b' i bc' bs') : JW G 13 mL_law 240 (LLo i o5 o6 o7 o8) [] (n, h) bc bs LQ1 := by
  have h0 := sT_0 hst
  obtain ⟨f, I, P, M, H, Y, Z, B, NT, SB, z, kp, nt, nl, bf, rs, rr, rq, rp, mm, ln, lo, lf, lt, co, ro, pg, pf, hsh, eh, hL⟩ := hst
  have hw : PR G 12 mX7_clearInput mX8_clearInput [] [] b' n h := by subst eh; exact p_clearInput hL (by omega) 
  obtain ⟨bc2, bs2, c1, c2, hJ⟩ := hw
  obtain ⟨fs0, h0⟩ := h0
  refine ji_aload_n dL_law_240 rfl trivial ?_
  refine ji_callV dL_law_241 hJ rfl h0 rfl rfl wX7_clearInput vX7_clearInput lL_119 rfl (Nat.le_of_ble_eq_true rfl) rfl (by omega) (by omega) (fun r h9 hq => ?_) (fun E h9 hq => ?_)
  · obtain ⟨K9, a9, hk, e971, ⟨fs9, e60⟩, hR⟩ := hq
    have hR2 := hR (h9.2 71)
    rw [va_up_id] at hR2
    rcases hk with ⟨e1, hK9⟩ | ⟨i9, E9, _, e1, _⟩
    · cases e1
      refine ji_aload_n dL_law_244 rfl trivial ?_
      refine ji_callV dL_law_245 hR2 rfl e60 rfl rfl wX8_clearInput vX8_clearInput lL_122 rfl (Nat.le_of_ble_eq_true rfl) rfl (Nat.zero_le _) (Nat.zero_le _) (fun r2 h10 hq => ?_) (fun E h10 hq => ?_)
      · obtain ⟨v2, e3, hv2, e71, hs10⟩ := hq
        cases e3
        rw [hv2 hK9]
        obtain ⟨w9, ew9, bw9⟩ := jI_of (jI a9)
        rw [ew9]
        obtain ⟨g, hg⟩ := h71
        exact ji_icmp_eq (tgt := 2162) dL_law_248 rfl bw9 bw9 (fun _ => hn _ _ _ _ _ _ _ _ _ (by omega) (by omega) hs10 ⟨g, e71.trans (e971.trans hg)⟩) (fun q => absurd rfl q)
      · obtain ⟨v2, e3, _⟩ := hq; cases e3
    · cases e1
  · obtain ⟨K9, a9, hk, _⟩ := hq
    rcases hk with ⟨e1, _⟩ | ⟨i9, E9, hi9, _, _⟩
    · cases e1
    · rw [List.getElem?_nil] at hi9; cases hi9

theorem lc_firstError (hst : ST K b n h) (h71 : ∃ g, h 71 = .inr (.long, 1, .inr (.inl g))) (hb : b + 101 ≤ b' ∧ b' ≤ 800000) (hi : 0 ≤ i ∧ i + 5 ≤ (G.2.2.2.2.2.2.1 : Int) ∧ G.2.2.2.2.2.2.1 ≤ 2560) (hbc : bc' + 6 ≤ bc) (hbs : bs' + 8000 ≤ bs) (hn : LN G b' i bc' bs') : JW G 13 mL_law 253 (LLo i o5 o6 o7 o8) [] (n, h) bc bs LQ1 := by
  have h0 := sT_0 hst
  obtain ⟨f, I, P, M, H, Y, Z, B, NT, SB, z, kp, nt, nl, bf, rs, rr, rq, rp, mm, ln, lo, lf, lt, co, ro, pg, pf, hsh, eh, hL⟩ := hst
  obtain ⟨v, e_v, b_v⟩ := jI_of (G.2.2.2.2.2.2.2 (i + 1).toNat)
  by_cases cz : v = 0
  · have hw : PR G 12 mX7_firstError mX8_firstError [.int (jI 0)] [] b' n h := by subst eh; exact p_firstError hL (by omega) (Or.inl rfl)
    obtain ⟨bc2, bs2, c1, c2, hJ⟩ := hw
    obtain ⟨fs0, h0⟩ := h0
    refine ji_aload_n dL_law_253 rfl trivial ?_
    refine ji_aload_n dL_law_254 rfl trivial ?_
    refine ji_iload dL_law_255 rfl ?_
    refine ji_iconst dL_law_257 ?_
    refine ji_iadd dL_law_258 ?_
    refine ji_xld dL_law_259 (by omega) ?_
    rw [e_v]
    refine ji_if_eq (tgt := 267) dL_law_260 rfl b_v (fun _ => ?_) (fun q => absurd cz q)
    refine ji_iconst dL_law_267 ?_
    refine ji_callV dL_law_268 hJ rfl h0 rfl rfl wX7_firstError vX7_firstError lL_123 rfl (Nat.le_of_ble_eq_true rfl) rfl (by omega) (by omega) (fun r h9 hq => ?_) (fun E h9 hq => ?_)
    · obtain ⟨K9, a9, hk, e971, ⟨fs9, e60⟩, hR⟩ := hq
      have hR2 := hR (h9.2 71)
      rw [va_up_id] at hR2
      rcases hk with ⟨e1, hK9⟩ | ⟨i9, E9, _, e1, _⟩
      · cases e1
        refine ji_aload_n dL_law_271 rfl trivial ?_
        refine ji_aload_n dL_law_272 rfl trivial ?_
        refine ji_iload dL_law_273 rfl ?_
        refine ji_iconst dL_law_275 ?_
        refine ji_iadd dL_law_276 ?_
        refine ji_xld dL_law_277 (by omega) ?_
        rw [e_v]
        refine ji_if_eq (tgt := 285) dL_law_278 rfl b_v (fun _ => ?_) (fun q => absurd cz q)
        refine ji_iconst dL_law_285 ?_
        refine ji_callV dL_law_286 hR2 rfl e60 rfl rfl wX8_firstError vX8_firstError lL_126 rfl (Nat.le_of_ble_eq_true rfl) rfl (Nat.zero_le _) (Nat.zero_le _) (fun r2 h10 hq => ?_) (fun E h10 hq => ?_)
        · obtain ⟨v2, e3, hv2, e71, hs10⟩ := hq
          cases e3
          rw [hv2 hK9]
          obtain ⟨w9, ew9, bw9⟩ := jI_of (jI a9)
          rw [ew9]
          obtain ⟨g, hg⟩ := h71
          exact ji_icmp_eq (tgt := 2162) dL_law_289 rfl bw9 bw9 (fun _ => hn _ _ _ _ _ _ _ _ _ (by omega) (by omega) hs10 ⟨g, e71.trans (e971.trans hg)⟩) (fun q => absurd rfl q)
        · obtain ⟨v2, e3, _⟩ := hq; cases e3
      · cases e1
    · obtain ⟨K9, a9, hk, _⟩ := hq
      rcases hk with ⟨e1, _⟩ | ⟨i9, E9, hi9, _, _⟩
      · cases e1
      · rw [List.getElem?_nil] at hi9; cases hi9
  · have hw : PR G 12 mX7_firstError mX8_firstError [.int (jI 1)] [] b' n h := by subst eh; exact p_firstError hL (by omega) (Or.inr rfl)
    obtain ⟨bc2, bs2, c1, c2, hJ⟩ := hw
    obtain ⟨fs0, h0⟩ := h0
    refine ji_aload_n dL_law_253 rfl trivial ?_
    refine ji_aload_n dL_law_254 rfl trivial ?_
    refine ji_iload dL_law_255 rfl ?_
    refine ji_iconst dL_law_257 ?_
    refine ji_iadd dL_law_258 ?_
    refine ji_xld dL_law_259 (by omega) ?_
    rw [e_v]
    refine ji_if_eq (tgt := 267) dL_law_260 rfl b_v (fun q => absurd q cz) (fun _ => ?_)
    refine ji_iconst dL_law_263 ?_
    refine ji_goto (tgt := 268) dL_law_264 rfl ?_
    refine ji_callV dL_law_268 hJ rfl h0 rfl rfl wX7_firstError vX7_firstError lL_123 rfl (Nat.le_of_ble_eq_true rfl) rfl (by omega) (by omega) (fun r h9 hq => ?_) (fun E h9 hq => ?_)
    · obtain ⟨K9, a9, hk, e971, ⟨fs9, e60⟩, hR⟩ := hq
      have hR2 := hR (h9.2 71)
      rw [va_up_id] at hR2
      rcases hk with ⟨e1, hK9⟩ | ⟨i9, E9, _, e1, _⟩
      · cases e1
        refine ji_aload_n dL_law_271 rfl trivial ?_
        refine ji_aload_n dL_law_272 rfl trivial ?_
        refine ji_iload dL_law_273 rfl ?_
        refine ji_iconst dL_law_275 ?_
        refine ji_iadd dL_law_276 ?_
        refine ji_xld dL_law_277 (by omega) ?_
        rw [e_v]
        refine ji_if_eq (tgt := 285) dL_law_278 rfl b_v (fun q => absurd q cz) (fun _ => ?_)
        refine ji_iconst dL_law_281 ?_
        refine ji_goto (tgt := 286) dL_law_282 rfl ?_
        refine ji_callV dL_law_286 hR2 rfl e60 rfl rfl wX8_firstError vX8_firstError lL_126 rfl (Nat.le_of_ble_eq_true rfl) rfl (Nat.zero_le _) (Nat.zero_le _) (fun r2 h10 hq => ?_) (fun E h10 hq => ?_)
        · obtain ⟨v2, e3, hv2, e71, hs10⟩ := hq
          cases e3
          rw [hv2 hK9]
          obtain ⟨w9, ew9, bw9⟩ := jI_of (jI a9)
          rw [ew9]
          obtain ⟨g, hg⟩ := h71
          exact ji_icmp_eq (tgt := 2162) dL_law_289 rfl bw9 bw9 (fun _ => hn _ _ _ _ _ _ _ _ _ (by omega) (by omega) hs10 ⟨g, e71.trans (e971.trans hg)⟩) (fun q => absurd rfl q)
        · obtain ⟨v2, e3, _⟩ := hq; cases e3
      · cases e1
    · obtain ⟨K9, a9, hk, _⟩ := hq
      rcases hk with ⟨e1, _⟩ | ⟨i9, E9, hi9, _, _⟩
      · cases e1
      · rw [List.getElem?_nil] at hi9; cases hi9

theorem lc_load (hst : ST K b n h) (h71 : ∃ g, h 71 = .inr (.long, 1, .inr (.inl g))) (hb : b + 101 ≤ b' ∧ b' ≤ 800000) (hi : 0 ≤ i ∧ i + 5 ≤ (G.2.2.2.2.2.2.1 : Int) ∧ G.2.2.2.2.2.2.1 ≤ 2560) (hbc : bc' + 6 ≤ bc) (hbs : bs' + 8000 ≤ bs) (hn : LN G b' i bc' bs') : JW G 13 mL_law 294 (LLo i o5 o6 o7 o8) [] (n, h) bc bs LQ1 := by
  have h0 := sT_0 hst
  obtain ⟨f, I, P, M, H, Y, Z, B, NT, SB, z, kp, nt, nl, bf, rs, rr, rq, rp, mm, ln, lo, lf, lt, co, ro, pg, pf, hsh, eh, hL⟩ := hst
  have hw : WR G mL_load mX8_load [] b' n h := by subst eh; exact w_load (p_load hL (by omega) ) h0 h71
  obtain ⟨bc2, bs2, c1, c2, hJ⟩ := hw
  refine ji_aload_n dL_law_294 rfl trivial ?_
  refine ji_aload_n dL_law_295 rfl trivial ?_
  refine ji_callST dL_law_296 hJ rfl wL_load sL_load lL_127 rfl (Nat.le_of_ble_eq_true rfl) rfl (by omega) (by omega) (fun r h9 hq => ?_) (fun E h9 hq => ?_)
  · obtain ⟨K9, a9, e1, hK9, ⟨g9, eg, ega⟩, ⟨fs9, e60⟩, hR⟩ := hq
    cases e1
    refine ji_istore dL_law_299 (by decide) rfl ?_
    refine ji_aload_n dL_law_301 rfl trivial ?_
    refine ji_callV dL_law_302 hR rfl e60 rfl rfl wX8_load vX8_load lL_130 rfl (Nat.le_of_ble_eq_true rfl) rfl (Nat.zero_le _) (Nat.zero_le _) (fun r2 h10 hq => ?_) (fun E h10 hq => ?_)
    · obtain ⟨v2, e3, hv2, e71, hs10⟩ := hq
      cases e3
      obtain ⟨fs10, e610⟩ := st_60 hs10
      refine ji_istore dL_law_305 (by decide) rfl ?_
      refine ji_aload_n dL_law_307 rfl trivial ?_
      refine ji_cV dL_law_308 (st_th hs10) rfl e610 rfl rfl wX8_thrown vX8_thrown lL_116 rfl (Nat.le_of_ble_eq_true rfl) rfl ?_
      refine ji_iload dL_law_311 rfl ?_
      refine ji_icmp_eq (tgt := 318) dL_law_313 rfl (by omega) (by omega) (fun _ => ?_) (fun q => absurd rfl q)
      refine ji_iload dL_law_318 rfl ?_
      refine ji_if_ne (tgt := 335) dL_law_320 rfl (by omega) (fun _ => ?_) (fun q => ?_)
      · refine ji_goto (tgt := 2162) dL_law_335 rfl ?_
        exact hn _ _ _ _ _ _ _ _ _ (by omega) (by omega) hs10 ⟨g9, e71.trans eg⟩
      · have hK0 : K9 = 0 := by omega
        refine ji_aload_n dL_law_323 rfl trivial ?_
        refine ji_iconst dL_law_324 ?_
        refine ji_laload dL_law_325 (e71.trans eg) (by omega) ?_
        refine ji_iload dL_law_326 rfl ?_
        refine ji_i2l dL_law_328 rfl ?_
        refine ji_lcmp dL_law_329 ?_
        have elc : lg_cmp (g9 (0 : Int).toNat) (jI v2).toInt64 = jI 0 := by rw [show g9 (0 : Int).toNat = (jI a9).toInt64 from ega hK0, hv2 hK0]; exact lgs _
        rw [elc]
        refine ji_if_eq (tgt := 335) dL_law_330 rfl (by omega) (fun _ => ?_) (fun q => absurd rfl q)
        refine ji_goto (tgt := 2162) dL_law_335 rfl ?_
        exact hn _ _ _ _ _ _ _ _ _ (by omega) (by omega) hs10 ⟨g9, e71.trans eg⟩
    · obtain ⟨v2, e3, _⟩ := hq; cases e3
  · obtain ⟨K9, a9, e1, _⟩ := hq; cases e1

theorem lc_setNote (hst : ST K b n h) (h71 : ∃ g, h 71 = .inr (.long, 1, .inr (.inl g))) (hb : b + 101 ≤ b' ∧ b' ≤ 800000) (hi : 0 ≤ i ∧ i + 5 ≤ (G.2.2.2.2.2.2.1 : Int) ∧ G.2.2.2.2.2.2.1 ≤ 2560) (hbc : bc' + 6 ≤ bc) (hbs : bs' + 8000 ≤ bs) (hn : LN G b' i bc' bs') : JW G 13 mL_law 338 (LLo i o5 o6 o7 o8) [] (n, h) bc bs LQ1 := by
  have h0 := sT_0 hst
  obtain ⟨f, I, P, M, H, Y, Z, B, NT, SB, z, kp, nt, nl, bf, rs, rr, rq, rp, mm, ln, lo, lf, lt, co, ro, pg, pf, hsh, eh, hL⟩ := hst
  obtain ⟨v, e_v, b_v⟩ := jI_of (G.2.2.2.2.2.2.2 (i + 1).toNat)
  have hw : WR G mL_setNote mX8_setNote [.int (jI v)] b' n h := by subst eh; exact w_setNote (p_setNote hL (by omega) b_v) h0 h71
  obtain ⟨bc2, bs2, c1, c2, hJ⟩ := hw
  refine ji_aload_n dL_law_338 rfl trivial ?_
  refine ji_aload_n dL_law_339 rfl trivial ?_
  refine ji_iload dL_law_340 rfl ?_
  refine ji_iconst dL_law_342 ?_
  refine ji_iadd dL_law_343 ?_
  refine ji_xld dL_law_344 (by omega) ?_
  rw [e_v]
  refine ji_aload_n dL_law_345 rfl trivial ?_
  refine ji_callST dL_law_346 hJ rfl wL_setNote sL_setNote lL_131 rfl (Nat.le_of_ble_eq_true rfl) rfl (by omega) (by omega) (fun r h9 hq => ?_) (fun E h9 hq => ?_)
  · obtain ⟨K9, a9, e1, hK9, ⟨g9, eg, ega⟩, ⟨fs9, e60⟩, hR⟩ := hq
    cases e1
    refine ji_istore dL_law_349 (by decide) rfl ?_
    refine ji_aload_n dL_law_351 rfl trivial ?_
    refine ji_aload_n dL_law_352 rfl trivial ?_
    refine ji_iload dL_law_353 rfl ?_
    refine ji_iconst dL_law_355 ?_
    refine ji_iadd dL_law_356 ?_
    refine ji_xld dL_law_357 (by omega) ?_
    rw [e_v]
    refine ji_callV dL_law_358 hR rfl e60 rfl rfl wX8_setNote vX8_setNote lL_133 rfl (Nat.le_of_ble_eq_true rfl) rfl (Nat.zero_le _) (Nat.zero_le _) (fun r2 h10 hq => ?_) (fun E h10 hq => ?_)
    · obtain ⟨v2, e3, hv2, e71, hs10⟩ := hq
      cases e3
      obtain ⟨fs10, e610⟩ := st_60 hs10
      refine ji_istore dL_law_361 (by decide) rfl ?_
      refine ji_aload_n dL_law_363 rfl trivial ?_
      refine ji_cV dL_law_364 (st_th hs10) rfl e610 rfl rfl wX8_thrown vX8_thrown lL_116 rfl (Nat.le_of_ble_eq_true rfl) rfl ?_
      refine ji_iload dL_law_367 rfl ?_
      refine ji_icmp_eq (tgt := 374) dL_law_369 rfl (by omega) (by omega) (fun _ => ?_) (fun q => absurd rfl q)
      refine ji_iload dL_law_374 rfl ?_
      refine ji_if_ne (tgt := 391) dL_law_376 rfl (by omega) (fun _ => ?_) (fun q => ?_)
      · refine ji_goto (tgt := 2162) dL_law_391 rfl ?_
        exact hn _ _ _ _ _ _ _ _ _ (by omega) (by omega) hs10 ⟨g9, e71.trans eg⟩
      · have hK0 : K9 = 0 := by omega
        refine ji_aload_n dL_law_379 rfl trivial ?_
        refine ji_iconst dL_law_380 ?_
        refine ji_laload dL_law_381 (e71.trans eg) (by omega) ?_
        refine ji_iload dL_law_382 rfl ?_
        refine ji_i2l dL_law_384 rfl ?_
        refine ji_lcmp dL_law_385 ?_
        have elc : lg_cmp (g9 (0 : Int).toNat) (jI v2).toInt64 = jI 0 := by rw [show g9 (0 : Int).toNat = (jI a9).toInt64 from ega hK0, hv2 hK0]; exact lgs _
        rw [elc]
        refine ji_if_eq (tgt := 391) dL_law_386 rfl (by omega) (fun _ => ?_) (fun q => absurd rfl q)
        refine ji_goto (tgt := 2162) dL_law_391 rfl ?_
        exact hn _ _ _ _ _ _ _ _ _ (by omega) (by omega) hs10 ⟨g9, e71.trans eg⟩
    · obtain ⟨v2, e3, _⟩ := hq; cases e3
  · obtain ⟨K9, a9, e1, _⟩ := hq; cases e1

theorem lc_removeNote (hst : ST K b n h) (h71 : ∃ g, h 71 = .inr (.long, 1, .inr (.inl g))) (hb : b + 101 ≤ b' ∧ b' ≤ 800000) (hi : 0 ≤ i ∧ i + 5 ≤ (G.2.2.2.2.2.2.1 : Int) ∧ G.2.2.2.2.2.2.1 ≤ 2560) (hbc : bc' + 6 ≤ bc) (hbs : bs' + 8000 ≤ bs) (hn : LN G b' i bc' bs') : JW G 13 mL_law 394 (LLo i o5 o6 o7 o8) [] (n, h) bc bs LQ1 := by
  have h0 := sT_0 hst
  obtain ⟨f, I, P, M, H, Y, Z, B, NT, SB, z, kp, nt, nl, bf, rs, rr, rq, rp, mm, ln, lo, lf, lt, co, ro, pg, pf, hsh, eh, hL⟩ := hst
  obtain ⟨v, e_v, b_v⟩ := jI_of (G.2.2.2.2.2.2.2 (i + 1).toNat)
  have hw : WR G mL_removeNote mX8_removeNote [.int (jI v)] b' n h := by subst eh; exact w_removeNote (p_removeNote hL (by omega) b_v) h0 h71
  obtain ⟨bc2, bs2, c1, c2, hJ⟩ := hw
  refine ji_aload_n dL_law_394 rfl trivial ?_
  refine ji_aload_n dL_law_395 rfl trivial ?_
  refine ji_iload dL_law_396 rfl ?_
  refine ji_iconst dL_law_398 ?_
  refine ji_iadd dL_law_399 ?_
  refine ji_xld dL_law_400 (by omega) ?_
  rw [e_v]
  refine ji_aload_n dL_law_401 rfl trivial ?_
  refine ji_callST dL_law_402 hJ rfl wL_removeNote sL_removeNote lL_134 rfl (Nat.le_of_ble_eq_true rfl) rfl (by omega) (by omega) (fun r h9 hq => ?_) (fun E h9 hq => ?_)
  · obtain ⟨K9, a9, e1, hK9, ⟨g9, eg, ega⟩, ⟨fs9, e60⟩, hR⟩ := hq
    cases e1
    refine ji_istore dL_law_405 (by decide) rfl ?_
    refine ji_aload_n dL_law_407 rfl trivial ?_
    refine ji_aload_n dL_law_408 rfl trivial ?_
    refine ji_iload dL_law_409 rfl ?_
    refine ji_iconst dL_law_411 ?_
    refine ji_iadd dL_law_412 ?_
    refine ji_xld dL_law_413 (by omega) ?_
    rw [e_v]
    refine ji_callV dL_law_414 hR rfl e60 rfl rfl wX8_removeNote vX8_removeNote lL_136 rfl (Nat.le_of_ble_eq_true rfl) rfl (Nat.zero_le _) (Nat.zero_le _) (fun r2 h10 hq => ?_) (fun E h10 hq => ?_)
    · obtain ⟨v2, e3, hv2, e71, hs10⟩ := hq
      cases e3
      obtain ⟨fs10, e610⟩ := st_60 hs10
      refine ji_istore dL_law_417 (by decide) rfl ?_
      refine ji_aload_n dL_law_419 rfl trivial ?_
      refine ji_cV dL_law_420 (st_th hs10) rfl e610 rfl rfl wX8_thrown vX8_thrown lL_116 rfl (Nat.le_of_ble_eq_true rfl) rfl ?_
      refine ji_iload dL_law_423 rfl ?_
      refine ji_icmp_eq (tgt := 430) dL_law_425 rfl (by omega) (by omega) (fun _ => ?_) (fun q => absurd rfl q)
      refine ji_iload dL_law_430 rfl ?_
      refine ji_if_ne (tgt := 447) dL_law_432 rfl (by omega) (fun _ => ?_) (fun q => ?_)
      · refine ji_goto (tgt := 2162) dL_law_447 rfl ?_
        exact hn _ _ _ _ _ _ _ _ _ (by omega) (by omega) hs10 ⟨g9, e71.trans eg⟩
      · have hK0 : K9 = 0 := by omega
        refine ji_aload_n dL_law_435 rfl trivial ?_
        refine ji_iconst dL_law_436 ?_
        refine ji_laload dL_law_437 (e71.trans eg) (by omega) ?_
        refine ji_iload dL_law_438 rfl ?_
        refine ji_i2l dL_law_440 rfl ?_
        refine ji_lcmp dL_law_441 ?_
        have elc : lg_cmp (g9 (0 : Int).toNat) (jI v2).toInt64 = jI 0 := by rw [show g9 (0 : Int).toNat = (jI a9).toInt64 from ega hK0, hv2 hK0]; exact lgs _
        rw [elc]
        refine ji_if_eq (tgt := 447) dL_law_442 rfl (by omega) (fun _ => ?_) (fun q => absurd rfl q)
        refine ji_goto (tgt := 2162) dL_law_447 rfl ?_
        exact hn _ _ _ _ _ _ _ _ _ (by omega) (by omega) hs10 ⟨g9, e71.trans eg⟩
    · obtain ⟨v2, e3, _⟩ := hq; cases e3
  · obtain ⟨K9, a9, e1, _⟩ := hq; cases e1

theorem lc_setSize (hst : ST K b n h) (h71 : ∃ g, h 71 = .inr (.long, 1, .inr (.inl g))) (hb : b + 101 ≤ b' ∧ b' ≤ 800000) (hi : 0 ≤ i ∧ i + 5 ≤ (G.2.2.2.2.2.2.1 : Int) ∧ G.2.2.2.2.2.2.1 ≤ 2560) (hbc : bc' + 6 ≤ bc) (hbs : bs' + 8000 ≤ bs) (hn : LN G b' i bc' bs') : JW G 13 mL_law 450 (LLo i o5 o6 o7 o8) [] (n, h) bc bs LQ1 := by
  have h0 := sT_0 hst
  obtain ⟨f, I, P, M, H, Y, Z, B, NT, SB, z, kp, nt, nl, bf, rs, rr, rq, rp, mm, ln, lo, lf, lt, co, ro, pg, pf, hsh, eh, hL⟩ := hst
  obtain ⟨v, e_v, b_v⟩ := jI_of (G.2.2.2.2.2.2.2 (i + 1).toNat)
  obtain ⟨m, e_m, b_m⟩ := jI_of (G.2.2.2.2.2.2.2 (i + 2).toNat)
  have hw : WR G mL_setSize mX8_setSize [.int (jI v), .int (jI m)] b' n h := by subst eh; exact w_setSize (p_setSize hL (by omega) b_v b_m) h0 h71
  obtain ⟨bc2, bs2, c1, c2, hJ⟩ := hw
  refine ji_aload_n dL_law_450 rfl trivial ?_
  refine ji_aload_n dL_law_451 rfl trivial ?_
  refine ji_iload dL_law_452 rfl ?_
  refine ji_iconst dL_law_454 ?_
  refine ji_iadd dL_law_455 ?_
  refine ji_xld dL_law_456 (by omega) ?_
  rw [e_v]
  refine ji_aload_n dL_law_457 rfl trivial ?_
  refine ji_iload dL_law_458 rfl ?_
  refine ji_iconst dL_law_460 ?_
  refine ji_iadd dL_law_461 ?_
  refine ji_xld dL_law_462 (by omega) ?_
  rw [e_m]
  refine ji_aload_n dL_law_463 rfl trivial ?_
  refine ji_callST dL_law_464 hJ rfl wL_setSize sL_setSize lL_137 rfl (Nat.le_of_ble_eq_true rfl) rfl (by omega) (by omega) (fun r h9 hq => ?_) (fun E h9 hq => ?_)
  · obtain ⟨K9, a9, e1, hK9, ⟨g9, eg, ega⟩, ⟨fs9, e60⟩, hR⟩ := hq
    cases e1
    refine ji_istore dL_law_467 (by decide) rfl ?_
    refine ji_aload_n dL_law_469 rfl trivial ?_
    refine ji_aload_n dL_law_470 rfl trivial ?_
    refine ji_iload dL_law_471 rfl ?_
    refine ji_iconst dL_law_473 ?_
    refine ji_iadd dL_law_474 ?_
    refine ji_xld dL_law_475 (by omega) ?_
    rw [e_v]
    refine ji_aload_n dL_law_476 rfl trivial ?_
    refine ji_iload dL_law_477 rfl ?_
    refine ji_iconst dL_law_479 ?_
    refine ji_iadd dL_law_480 ?_
    refine ji_xld dL_law_481 (by omega) ?_
    rw [e_m]
    refine ji_callV dL_law_482 hR rfl e60 rfl rfl wX8_setSize vX8_setSize lL_140 rfl (Nat.le_of_ble_eq_true rfl) rfl (Nat.zero_le _) (Nat.zero_le _) (fun r2 h10 hq => ?_) (fun E h10 hq => ?_)
    · obtain ⟨v2, e3, hv2, e71, hs10⟩ := hq
      cases e3
      obtain ⟨fs10, e610⟩ := st_60 hs10
      refine ji_istore dL_law_485 (by decide) rfl ?_
      refine ji_aload_n dL_law_487 rfl trivial ?_
      refine ji_cV dL_law_488 (st_th hs10) rfl e610 rfl rfl wX8_thrown vX8_thrown lL_116 rfl (Nat.le_of_ble_eq_true rfl) rfl ?_
      refine ji_iload dL_law_491 rfl ?_
      refine ji_icmp_eq (tgt := 498) dL_law_493 rfl (by omega) (by omega) (fun _ => ?_) (fun q => absurd rfl q)
      refine ji_iload dL_law_498 rfl ?_
      refine ji_if_ne (tgt := 515) dL_law_500 rfl (by omega) (fun _ => ?_) (fun q => ?_)
      · refine ji_goto (tgt := 2162) dL_law_515 rfl ?_
        exact hn _ _ _ _ _ _ _ _ _ (by omega) (by omega) hs10 ⟨g9, e71.trans eg⟩
      · have hK0 : K9 = 0 := by omega
        refine ji_aload_n dL_law_503 rfl trivial ?_
        refine ji_iconst dL_law_504 ?_
        refine ji_laload dL_law_505 (e71.trans eg) (by omega) ?_
        refine ji_iload dL_law_506 rfl ?_
        refine ji_i2l dL_law_508 rfl ?_
        refine ji_lcmp dL_law_509 ?_
        have elc : lg_cmp (g9 (0 : Int).toNat) (jI v2).toInt64 = jI 0 := by rw [show g9 (0 : Int).toNat = (jI a9).toInt64 from ega hK0, hv2 hK0]; exact lgs _
        rw [elc]
        refine ji_if_eq (tgt := 515) dL_law_510 rfl (by omega) (fun _ => ?_) (fun q => absurd rfl q)
        refine ji_goto (tgt := 2162) dL_law_515 rfl ?_
        exact hn _ _ _ _ _ _ _ _ _ (by omega) (by omega) hs10 ⟨g9, e71.trans eg⟩
    · obtain ⟨v2, e3, _⟩ := hq; cases e3
  · obtain ⟨K9, a9, e1, _⟩ := hq; cases e1

theorem lc_setStyle (hst : ST K b n h) (h71 : ∃ g, h 71 = .inr (.long, 1, .inr (.inl g))) (hb : b + 101 ≤ b' ∧ b' ≤ 800000) (hi : 0 ≤ i ∧ i + 5 ≤ (G.2.2.2.2.2.2.1 : Int) ∧ G.2.2.2.2.2.2.1 ≤ 2560) (hbc : bc' + 6 ≤ bc) (hbs : bs' + 8000 ≤ bs) (hn : LN G b' i bc' bs') : JW G 13 mL_law 518 (LLo i o5 o6 o7 o8) [] (n, h) bc bs LQ1 := by
  have h0 := sT_0 hst
  obtain ⟨f, I, P, M, H, Y, Z, B, NT, SB, z, kp, nt, nl, bf, rs, rr, rq, rp, mm, ln, lo, lf, lt, co, ro, pg, pf, hsh, eh, hL⟩ := hst
  obtain ⟨v, e_v, b_v⟩ := jI_of (G.2.2.2.2.2.2.2 (i + 1).toNat)
  obtain ⟨m, e_m, b_m⟩ := jI_of (G.2.2.2.2.2.2.2 (i + 2).toNat)
  have hw : WR G mL_setStyle mX8_setStyle [.int (jI v), .int (jI m)] b' n h := by subst eh; exact w_setStyle (p_setStyle hL (by omega) b_v b_m) h0 h71
  obtain ⟨bc2, bs2, c1, c2, hJ⟩ := hw
  refine ji_aload_n dL_law_518 rfl trivial ?_
  refine ji_aload_n dL_law_519 rfl trivial ?_
  refine ji_iload dL_law_520 rfl ?_
  refine ji_iconst dL_law_522 ?_
  refine ji_iadd dL_law_523 ?_
  refine ji_xld dL_law_524 (by omega) ?_
  rw [e_v]
  refine ji_aload_n dL_law_525 rfl trivial ?_
  refine ji_iload dL_law_526 rfl ?_
  refine ji_iconst dL_law_528 ?_
  refine ji_iadd dL_law_529 ?_
  refine ji_xld dL_law_530 (by omega) ?_
  rw [e_m]
  refine ji_aload_n dL_law_531 rfl trivial ?_
  refine ji_callST dL_law_532 hJ rfl wL_setStyle sL_setStyle lL_141 rfl (Nat.le_of_ble_eq_true rfl) rfl (by omega) (by omega) (fun r h9 hq => ?_) (fun E h9 hq => ?_)
  · obtain ⟨K9, a9, e1, hK9, ⟨g9, eg, ega⟩, ⟨fs9, e60⟩, hR⟩ := hq
    cases e1
    refine ji_istore dL_law_535 (by decide) rfl ?_
    refine ji_aload_n dL_law_537 rfl trivial ?_
    refine ji_aload_n dL_law_538 rfl trivial ?_
    refine ji_iload dL_law_539 rfl ?_
    refine ji_iconst dL_law_541 ?_
    refine ji_iadd dL_law_542 ?_
    refine ji_xld dL_law_543 (by omega) ?_
    rw [e_v]
    refine ji_aload_n dL_law_544 rfl trivial ?_
    refine ji_iload dL_law_545 rfl ?_
    refine ji_iconst dL_law_547 ?_
    refine ji_iadd dL_law_548 ?_
    refine ji_xld dL_law_549 (by omega) ?_
    rw [e_m]
    refine ji_callV dL_law_550 hR rfl e60 rfl rfl wX8_setStyle vX8_setStyle lL_143 rfl (Nat.le_of_ble_eq_true rfl) rfl (Nat.zero_le _) (Nat.zero_le _) (fun r2 h10 hq => ?_) (fun E h10 hq => ?_)
    · obtain ⟨v2, e3, hv2, e71, hs10⟩ := hq
      cases e3
      obtain ⟨fs10, e610⟩ := st_60 hs10
      refine ji_istore dL_law_553 (by decide) rfl ?_
      refine ji_aload_n dL_law_555 rfl trivial ?_
      refine ji_cV dL_law_556 (st_th hs10) rfl e610 rfl rfl wX8_thrown vX8_thrown lL_116 rfl (Nat.le_of_ble_eq_true rfl) rfl ?_
      refine ji_iload dL_law_559 rfl ?_
      refine ji_icmp_eq (tgt := 566) dL_law_561 rfl (by omega) (by omega) (fun _ => ?_) (fun q => absurd rfl q)
      refine ji_iload dL_law_566 rfl ?_
      refine ji_if_ne (tgt := 583) dL_law_568 rfl (by omega) (fun _ => ?_) (fun q => ?_)
      · refine ji_goto (tgt := 2162) dL_law_583 rfl ?_
        exact hn _ _ _ _ _ _ _ _ _ (by omega) (by omega) hs10 ⟨g9, e71.trans eg⟩
      · have hK0 : K9 = 0 := by omega
        refine ji_aload_n dL_law_571 rfl trivial ?_
        refine ji_iconst dL_law_572 ?_
        refine ji_laload dL_law_573 (e71.trans eg) (by omega) ?_
        refine ji_iload dL_law_574 rfl ?_
        refine ji_i2l dL_law_576 rfl ?_
        refine ji_lcmp dL_law_577 ?_
        have elc : lg_cmp (g9 (0 : Int).toNat) (jI v2).toInt64 = jI 0 := by rw [show g9 (0 : Int).toNat = (jI a9).toInt64 from ega hK0, hv2 hK0]; exact lgs _
        rw [elc]
        refine ji_if_eq (tgt := 583) dL_law_578 rfl (by omega) (fun _ => ?_) (fun q => absurd rfl q)
        refine ji_goto (tgt := 2162) dL_law_583 rfl ?_
        exact hn _ _ _ _ _ _ _ _ _ (by omega) (by omega) hs10 ⟨g9, e71.trans eg⟩
    · obtain ⟨v2, e3, _⟩ := hq; cases e3
  · obtain ⟨K9, a9, e1, _⟩ := hq; cases e1

theorem lc_page (hst : ST K b n h) (h71 : ∃ g, h 71 = .inr (.long, 1, .inr (.inl g))) (hb : b + 101 ≤ b' ∧ b' ≤ 800000) (hi : 0 ≤ i ∧ i + 5 ≤ (G.2.2.2.2.2.2.1 : Int) ∧ G.2.2.2.2.2.2.1 ≤ 2560) (hbc : bc' + 6 ≤ bc) (hbs : bs' + 8000 ≤ bs) (hn : LN G b' i bc' bs') : JW G 13 mL_law 586 (LLo i o5 o6 o7 o8) [] (n, h) bc bs LQ1 := by
  have h0 := sT_0 hst
  obtain ⟨f, I, P, M, H, Y, Z, B, NT, SB, z, kp, nt, nl, bf, rs, rr, rq, rp, mm, ln, lo, lf, lt, co, ro, pg, pf, hsh, eh, hL⟩ := hst
  obtain ⟨v, e_v, b_v⟩ := jI_of (G.2.2.2.2.2.2.2 (i + 1).toNat)
  obtain ⟨m, e_m, b_m⟩ := jI_of (G.2.2.2.2.2.2.2 (i + 2).toNat)
  have hw : WR G mL_page mX8_page [.int (jI v), .int (jI m)] b' n h := by subst eh; exact w_page (p_page hL (by omega) b_v b_m) h0 h71
  obtain ⟨bc2, bs2, c1, c2, hJ⟩ := hw
  refine ji_aload_n dL_law_586 rfl trivial ?_
  refine ji_aload_n dL_law_587 rfl trivial ?_
  refine ji_iload dL_law_588 rfl ?_
  refine ji_iconst dL_law_590 ?_
  refine ji_iadd dL_law_591 ?_
  refine ji_xld dL_law_592 (by omega) ?_
  rw [e_v]
  refine ji_aload_n dL_law_593 rfl trivial ?_
  refine ji_iload dL_law_594 rfl ?_
  refine ji_iconst dL_law_596 ?_
  refine ji_iadd dL_law_597 ?_
  refine ji_xld dL_law_598 (by omega) ?_
  rw [e_m]
  refine ji_aload_n dL_law_599 rfl trivial ?_
  refine ji_callST dL_law_600 hJ rfl wL_page sL_page lL_144 rfl (Nat.le_of_ble_eq_true rfl) rfl (by omega) (by omega) (fun r h9 hq => ?_) (fun E h9 hq => ?_)
  · obtain ⟨K9, a9, e1, hK9, ⟨g9, eg, ega⟩, ⟨fs9, e60⟩, hR⟩ := hq
    cases e1
    refine ji_istore dL_law_603 (by decide) rfl ?_
    refine ji_aload_n dL_law_605 rfl trivial ?_
    refine ji_aload_n dL_law_606 rfl trivial ?_
    refine ji_iload dL_law_607 rfl ?_
    refine ji_iconst dL_law_609 ?_
    refine ji_iadd dL_law_610 ?_
    refine ji_xld dL_law_611 (by omega) ?_
    rw [e_v]
    refine ji_aload_n dL_law_612 rfl trivial ?_
    refine ji_iload dL_law_613 rfl ?_
    refine ji_iconst dL_law_615 ?_
    refine ji_iadd dL_law_616 ?_
    refine ji_xld dL_law_617 (by omega) ?_
    rw [e_m]
    refine ji_callV dL_law_618 hR rfl e60 rfl rfl wX8_page vX8_page lL_146 rfl (Nat.le_of_ble_eq_true rfl) rfl (Nat.zero_le _) (Nat.zero_le _) (fun r2 h10 hq => ?_) (fun E h10 hq => ?_)
    · obtain ⟨v2, e3, hv2, e71, hs10⟩ := hq
      cases e3
      obtain ⟨fs10, e610⟩ := st_60 hs10
      refine ji_istore dL_law_621 (by decide) rfl ?_
      refine ji_aload_n dL_law_623 rfl trivial ?_
      refine ji_cV dL_law_624 (st_th hs10) rfl e610 rfl rfl wX8_thrown vX8_thrown lL_116 rfl (Nat.le_of_ble_eq_true rfl) rfl ?_
      refine ji_iload dL_law_627 rfl ?_
      refine ji_icmp_eq (tgt := 634) dL_law_629 rfl (by omega) (by omega) (fun _ => ?_) (fun q => absurd rfl q)
      refine ji_iload dL_law_634 rfl ?_
      refine ji_if_ne (tgt := 651) dL_law_636 rfl (by omega) (fun _ => ?_) (fun q => ?_)
      · refine ji_goto (tgt := 2162) dL_law_651 rfl ?_
        exact hn _ _ _ _ _ _ _ _ _ (by omega) (by omega) hs10 ⟨g9, e71.trans eg⟩
      · have hK0 : K9 = 0 := by omega
        refine ji_aload_n dL_law_639 rfl trivial ?_
        refine ji_iconst dL_law_640 ?_
        refine ji_laload dL_law_641 (e71.trans eg) (by omega) ?_
        refine ji_iload dL_law_642 rfl ?_
        refine ji_i2l dL_law_644 rfl ?_
        refine ji_lcmp dL_law_645 ?_
        have elc : lg_cmp (g9 (0 : Int).toNat) (jI v2).toInt64 = jI 0 := by rw [show g9 (0 : Int).toNat = (jI a9).toInt64 from ega hK0, hv2 hK0]; exact lgs _
        rw [elc]
        refine ji_if_eq (tgt := 651) dL_law_646 rfl (by omega) (fun _ => ?_) (fun q => absurd rfl q)
        refine ji_goto (tgt := 2162) dL_law_651 rfl ?_
        exact hn _ _ _ _ _ _ _ _ _ (by omega) (by omega) hs10 ⟨g9, e71.trans eg⟩
    · obtain ⟨v2, e3, _⟩ := hq; cases e3
  · obtain ⟨K9, a9, e1, _⟩ := hq; cases e1

theorem lc_line (hst : ST K b n h) (h71 : ∃ g, h 71 = .inr (.long, 1, .inr (.inl g))) (hb : b + 101 ≤ b' ∧ b' ≤ 800000) (hi : 0 ≤ i ∧ i + 5 ≤ (G.2.2.2.2.2.2.1 : Int) ∧ G.2.2.2.2.2.2.1 ≤ 2560) (hbc : bc' + 6 ≤ bc) (hbs : bs' + 8000 ≤ bs) (hn : LN G b' i bc' bs') : JW G 13 mL_law 654 (LLo i o5 o6 o7 o8) [] (n, h) bc bs LQ1 := by
  have h0 := sT_0 hst
  obtain ⟨f, I, P, M, H, Y, Z, B, NT, SB, z, kp, nt, nl, bf, rs, rr, rq, rp, mm, ln, lo, lf, lt, co, ro, pg, pf, hsh, eh, hL⟩ := hst
  obtain ⟨v, e_v, b_v⟩ := jI_of (G.2.2.2.2.2.2.2 (i + 1).toNat)
  obtain ⟨m, e_m, b_m⟩ := jI_of (G.2.2.2.2.2.2.2 (i + 2).toNat)
  have hw : WR G mL_line mX8_line [.int (jI v), .int (jI m)] b' n h := by subst eh; exact w_line (p_line hL (by omega) b_v b_m) h0 h71
  obtain ⟨bc2, bs2, c1, c2, hJ⟩ := hw
  refine ji_aload_n dL_law_654 rfl trivial ?_
  refine ji_aload_n dL_law_655 rfl trivial ?_
  refine ji_iload dL_law_656 rfl ?_
  refine ji_iconst dL_law_658 ?_
  refine ji_iadd dL_law_659 ?_
  refine ji_xld dL_law_660 (by omega) ?_
  rw [e_v]
  refine ji_aload_n dL_law_661 rfl trivial ?_
  refine ji_iload dL_law_662 rfl ?_
  refine ji_iconst dL_law_664 ?_
  refine ji_iadd dL_law_665 ?_
  refine ji_xld dL_law_666 (by omega) ?_
  rw [e_m]
  refine ji_aload_n dL_law_667 rfl trivial ?_
  refine ji_callST dL_law_668 hJ rfl wL_line sL_line lL_147 rfl (Nat.le_of_ble_eq_true rfl) rfl (by omega) (by omega) (fun r h9 hq => ?_) (fun E h9 hq => ?_)
  · obtain ⟨K9, a9, e1, hK9, ⟨g9, eg, ega⟩, ⟨fs9, e60⟩, hR⟩ := hq
    cases e1
    refine ji_istore dL_law_671 (by decide) rfl ?_
    refine ji_aload_n dL_law_673 rfl trivial ?_
    refine ji_aload_n dL_law_674 rfl trivial ?_
    refine ji_iload dL_law_675 rfl ?_
    refine ji_iconst dL_law_677 ?_
    refine ji_iadd dL_law_678 ?_
    refine ji_xld dL_law_679 (by omega) ?_
    rw [e_v]
    refine ji_aload_n dL_law_680 rfl trivial ?_
    refine ji_iload dL_law_681 rfl ?_
    refine ji_iconst dL_law_683 ?_
    refine ji_iadd dL_law_684 ?_
    refine ji_xld dL_law_685 (by omega) ?_
    rw [e_m]
    refine ji_callV dL_law_686 hR rfl e60 rfl rfl wX8_line vX8_line lL_149 rfl (Nat.le_of_ble_eq_true rfl) rfl (Nat.zero_le _) (Nat.zero_le _) (fun r2 h10 hq => ?_) (fun E h10 hq => ?_)
    · obtain ⟨v2, e3, hv2, e71, hs10⟩ := hq
      cases e3
      obtain ⟨fs10, e610⟩ := st_60 hs10
      refine ji_istore dL_law_689 (by decide) rfl ?_
      refine ji_aload_n dL_law_691 rfl trivial ?_
      refine ji_cV dL_law_692 (st_th hs10) rfl e610 rfl rfl wX8_thrown vX8_thrown lL_116 rfl (Nat.le_of_ble_eq_true rfl) rfl ?_
      refine ji_iload dL_law_695 rfl ?_
      refine ji_icmp_eq (tgt := 702) dL_law_697 rfl (by omega) (by omega) (fun _ => ?_) (fun q => absurd rfl q)
      refine ji_iload dL_law_702 rfl ?_
      refine ji_if_ne (tgt := 719) dL_law_704 rfl (by omega) (fun _ => ?_) (fun q => ?_)
      · refine ji_goto (tgt := 2162) dL_law_719 rfl ?_
        exact hn _ _ _ _ _ _ _ _ _ (by omega) (by omega) hs10 ⟨g9, e71.trans eg⟩
      · have hK0 : K9 = 0 := by omega
        refine ji_aload_n dL_law_707 rfl trivial ?_
        refine ji_iconst dL_law_708 ?_
        refine ji_laload dL_law_709 (e71.trans eg) (by omega) ?_
        refine ji_iload dL_law_710 rfl ?_
        refine ji_i2l dL_law_712 rfl ?_
        refine ji_lcmp dL_law_713 ?_
        have elc : lg_cmp (g9 (0 : Int).toNat) (jI v2).toInt64 = jI 0 := by rw [show g9 (0 : Int).toNat = (jI a9).toInt64 from ega hK0, hv2 hK0]; exact lgs _
        rw [elc]
        refine ji_if_eq (tgt := 719) dL_law_714 rfl (by omega) (fun _ => ?_) (fun q => absurd rfl q)
        refine ji_goto (tgt := 2162) dL_law_719 rfl ?_
        exact hn _ _ _ _ _ _ _ _ _ (by omega) (by omega) hs10 ⟨g9, e71.trans eg⟩
    · obtain ⟨v2, e3, _⟩ := hq; cases e3
  · obtain ⟨K9, a9, e1, _⟩ := hq; cases e1

theorem lc_shown (hst : ST K b n h) (h71 : ∃ g, h 71 = .inr (.long, 1, .inr (.inl g))) (hb : b + 101 ≤ b' ∧ b' ≤ 800000) (hi : 0 ≤ i ∧ i + 5 ≤ (G.2.2.2.2.2.2.1 : Int) ∧ G.2.2.2.2.2.2.1 ≤ 2560) (hbc : bc' + 6 ≤ bc) (hbs : bs' + 8000 ≤ bs) (hn : LN G b' i bc' bs') : JW G 13 mL_law 722 (LLo i o5 o6 o7 o8) [] (n, h) bc bs LQ1 := by
  have h0 := sT_0 hst
  obtain ⟨f, I, P, M, H, Y, Z, B, NT, SB, z, kp, nt, nl, bf, rs, rr, rq, rp, mm, ln, lo, lf, lt, co, ro, pg, pf, hsh, eh, hL⟩ := hst
  obtain ⟨v, e_v, b_v⟩ := jI_of (G.2.2.2.2.2.2.2 (i + 1).toNat)
  obtain ⟨m, e_m, b_m⟩ := jI_of (G.2.2.2.2.2.2.2 (i + 2).toNat)
  obtain ⟨o, e_o, b_o⟩ := jI_of (G.2.2.2.2.2.2.2 (i + 3).toNat)
  have hw : WR G mL_shown mX8_shown [.int (jI v), .int (jI m), .int (jI o)] b' n h := by subst eh; exact w_shown (p_shown hL (by omega) b_v b_m b_o) h0 h71
  obtain ⟨bc2, bs2, c1, c2, hJ⟩ := hw
  refine ji_aload_n dL_law_722 rfl trivial ?_
  refine ji_aload_n dL_law_723 rfl trivial ?_
  refine ji_iload dL_law_724 rfl ?_
  refine ji_iconst dL_law_726 ?_
  refine ji_iadd dL_law_727 ?_
  refine ji_xld dL_law_728 (by omega) ?_
  rw [e_v]
  refine ji_aload_n dL_law_729 rfl trivial ?_
  refine ji_iload dL_law_730 rfl ?_
  refine ji_iconst dL_law_732 ?_
  refine ji_iadd dL_law_733 ?_
  refine ji_xld dL_law_734 (by omega) ?_
  rw [e_m]
  refine ji_aload_n dL_law_735 rfl trivial ?_
  refine ji_iload dL_law_736 rfl ?_
  refine ji_iconst dL_law_738 ?_
  refine ji_iadd dL_law_739 ?_
  refine ji_xld dL_law_740 (by omega) ?_
  rw [e_o]
  refine ji_aload_n dL_law_741 rfl trivial ?_
  refine ji_callST dL_law_742 hJ rfl wL_shown sL_shown lL_150 rfl (Nat.le_of_ble_eq_true rfl) rfl (by omega) (by omega) (fun r h9 hq => ?_) (fun E h9 hq => ?_)
  · obtain ⟨K9, a9, e1, hK9, ⟨g9, eg, ega⟩, ⟨fs9, e60⟩, hR⟩ := hq
    cases e1
    refine ji_istore dL_law_745 (by decide) rfl ?_
    refine ji_aload_n dL_law_747 rfl trivial ?_
    refine ji_aload_n dL_law_748 rfl trivial ?_
    refine ji_iload dL_law_749 rfl ?_
    refine ji_iconst dL_law_751 ?_
    refine ji_iadd dL_law_752 ?_
    refine ji_xld dL_law_753 (by omega) ?_
    rw [e_v]
    refine ji_aload_n dL_law_754 rfl trivial ?_
    refine ji_iload dL_law_755 rfl ?_
    refine ji_iconst dL_law_757 ?_
    refine ji_iadd dL_law_758 ?_
    refine ji_xld dL_law_759 (by omega) ?_
    rw [e_m]
    refine ji_aload_n dL_law_760 rfl trivial ?_
    refine ji_iload dL_law_761 rfl ?_
    refine ji_iconst dL_law_763 ?_
    refine ji_iadd dL_law_764 ?_
    refine ji_xld dL_law_765 (by omega) ?_
    rw [e_o]
    refine ji_callV dL_law_766 hR rfl e60 rfl rfl wX8_shown vX8_shown lL_153 rfl (Nat.le_of_ble_eq_true rfl) rfl (Nat.zero_le _) (Nat.zero_le _) (fun r2 h10 hq => ?_) (fun E h10 hq => ?_)
    · obtain ⟨v2, e3, hv2, e71, hs10⟩ := hq
      cases e3
      obtain ⟨fs10, e610⟩ := st_60 hs10
      refine ji_istore dL_law_769 (by decide) rfl ?_
      refine ji_aload_n dL_law_771 rfl trivial ?_
      refine ji_cV dL_law_772 (st_th hs10) rfl e610 rfl rfl wX8_thrown vX8_thrown lL_116 rfl (Nat.le_of_ble_eq_true rfl) rfl ?_
      refine ji_iload dL_law_775 rfl ?_
      refine ji_icmp_eq (tgt := 782) dL_law_777 rfl (by omega) (by omega) (fun _ => ?_) (fun q => absurd rfl q)
      refine ji_iload dL_law_782 rfl ?_
      refine ji_if_ne (tgt := 799) dL_law_784 rfl (by omega) (fun _ => ?_) (fun q => ?_)
      · refine ji_goto (tgt := 2162) dL_law_799 rfl ?_
        exact hn _ _ _ _ _ _ _ _ _ (by omega) (by omega) hs10 ⟨g9, e71.trans eg⟩
      · have hK0 : K9 = 0 := by omega
        refine ji_aload_n dL_law_787 rfl trivial ?_
        refine ji_iconst dL_law_788 ?_
        refine ji_laload dL_law_789 (e71.trans eg) (by omega) ?_
        refine ji_iload dL_law_790 rfl ?_
        refine ji_i2l dL_law_792 rfl ?_
        refine ji_lcmp dL_law_793 ?_
        have elc : lg_cmp (g9 (0 : Int).toNat) (jI v2).toInt64 = jI 0 := by rw [show g9 (0 : Int).toNat = (jI a9).toInt64 from ega hK0, hv2 hK0]; exact lgs _
        rw [elc]
        refine ji_if_eq (tgt := 799) dL_law_794 rfl (by omega) (fun _ => ?_) (fun q => absurd rfl q)
        refine ji_goto (tgt := 2162) dL_law_799 rfl ?_
        exact hn _ _ _ _ _ _ _ _ _ (by omega) (by omega) hs10 ⟨g9, e71.trans eg⟩
    · obtain ⟨v2, e3, _⟩ := hq; cases e3
  · obtain ⟨K9, a9, e1, _⟩ := hq; cases e1

theorem lc_noteOn (hst : ST K b n h) (h71 : ∃ g, h 71 = .inr (.long, 1, .inr (.inl g))) (hb : b + 101 ≤ b' ∧ b' ≤ 800000) (hi : 0 ≤ i ∧ i + 5 ≤ (G.2.2.2.2.2.2.1 : Int) ∧ G.2.2.2.2.2.2.1 ≤ 2560) (hbc : bc' + 6 ≤ bc) (hbs : bs' + 8000 ≤ bs) (hn : LN G b' i bc' bs') : JW G 13 mL_law 802 (LLo i o5 o6 o7 o8) [] (n, h) bc bs LQ1 := by
  have h0 := sT_0 hst
  obtain ⟨f, I, P, M, H, Y, Z, B, NT, SB, z, kp, nt, nl, bf, rs, rr, rq, rp, mm, ln, lo, lf, lt, co, ro, pg, pf, hsh, eh, hL⟩ := hst
  obtain ⟨v, e_v, b_v⟩ := jI_of (G.2.2.2.2.2.2.2 (i + 1).toNat)
  obtain ⟨m, e_m, b_m⟩ := jI_of (G.2.2.2.2.2.2.2 (i + 2).toNat)
  have hw : WR G mL_noteOn mX8_noteOn [.int (jI v), .int (jI m)] b' n h := by subst eh; exact w_noteOn (p_noteOn hL (by omega) b_v b_m) h0 h71
  obtain ⟨bc2, bs2, c1, c2, hJ⟩ := hw
  refine ji_aload_n dL_law_802 rfl trivial ?_
  refine ji_aload_n dL_law_803 rfl trivial ?_
  refine ji_iload dL_law_804 rfl ?_
  refine ji_iconst dL_law_806 ?_
  refine ji_iadd dL_law_807 ?_
  refine ji_xld dL_law_808 (by omega) ?_
  rw [e_v]
  refine ji_aload_n dL_law_809 rfl trivial ?_
  refine ji_iload dL_law_810 rfl ?_
  refine ji_iconst dL_law_812 ?_
  refine ji_iadd dL_law_813 ?_
  refine ji_xld dL_law_814 (by omega) ?_
  rw [e_m]
  refine ji_aload_n dL_law_815 rfl trivial ?_
  refine ji_callST dL_law_816 hJ rfl wL_noteOn sL_noteOn lL_154 rfl (Nat.le_of_ble_eq_true rfl) rfl (by omega) (by omega) (fun r h9 hq => ?_) (fun E h9 hq => ?_)
  · obtain ⟨K9, a9, e1, hK9, ⟨g9, eg, ega⟩, ⟨fs9, e60⟩, hR⟩ := hq
    cases e1
    refine ji_istore dL_law_819 (by decide) rfl ?_
    refine ji_aload_n dL_law_821 rfl trivial ?_
    refine ji_aload_n dL_law_822 rfl trivial ?_
    refine ji_iload dL_law_823 rfl ?_
    refine ji_iconst dL_law_825 ?_
    refine ji_iadd dL_law_826 ?_
    refine ji_xld dL_law_827 (by omega) ?_
    rw [e_v]
    refine ji_aload_n dL_law_828 rfl trivial ?_
    refine ji_iload dL_law_829 rfl ?_
    refine ji_iconst dL_law_831 ?_
    refine ji_iadd dL_law_832 ?_
    refine ji_xld dL_law_833 (by omega) ?_
    rw [e_m]
    refine ji_callV dL_law_834 hR rfl e60 rfl rfl wX8_noteOn vX8_noteOn lL_156 rfl (Nat.le_of_ble_eq_true rfl) rfl (Nat.zero_le _) (Nat.zero_le _) (fun r2 h10 hq => ?_) (fun E h10 hq => ?_)
    · obtain ⟨v2, e3, hv2, e71, hs10⟩ := hq
      cases e3
      obtain ⟨fs10, e610⟩ := st_60 hs10
      refine ji_istore dL_law_837 (by decide) rfl ?_
      refine ji_aload_n dL_law_839 rfl trivial ?_
      refine ji_cV dL_law_840 (st_th hs10) rfl e610 rfl rfl wX8_thrown vX8_thrown lL_116 rfl (Nat.le_of_ble_eq_true rfl) rfl ?_
      refine ji_iload dL_law_843 rfl ?_
      refine ji_icmp_eq (tgt := 850) dL_law_845 rfl (by omega) (by omega) (fun _ => ?_) (fun q => absurd rfl q)
      refine ji_iload dL_law_850 rfl ?_
      refine ji_if_ne (tgt := 867) dL_law_852 rfl (by omega) (fun _ => ?_) (fun q => ?_)
      · refine ji_goto (tgt := 2162) dL_law_867 rfl ?_
        exact hn _ _ _ _ _ _ _ _ _ (by omega) (by omega) hs10 ⟨g9, e71.trans eg⟩
      · have hK0 : K9 = 0 := by omega
        refine ji_aload_n dL_law_855 rfl trivial ?_
        refine ji_iconst dL_law_856 ?_
        refine ji_laload dL_law_857 (e71.trans eg) (by omega) ?_
        refine ji_iload dL_law_858 rfl ?_
        refine ji_i2l dL_law_860 rfl ?_
        refine ji_lcmp dL_law_861 ?_
        have elc : lg_cmp (g9 (0 : Int).toNat) (jI v2).toInt64 = jI 0 := by rw [show g9 (0 : Int).toNat = (jI a9).toInt64 from ega hK0, hv2 hK0]; exact lgs _
        rw [elc]
        refine ji_if_eq (tgt := 867) dL_law_862 rfl (by omega) (fun _ => ?_) (fun q => absurd rfl q)
        refine ji_goto (tgt := 2162) dL_law_867 rfl ?_
        exact hn _ _ _ _ _ _ _ _ _ (by omega) (by omega) hs10 ⟨g9, e71.trans eg⟩
    · obtain ⟨v2, e3, _⟩ := hq; cases e3
  · obtain ⟨K9, a9, e1, _⟩ := hq; cases e1

theorem lc_pageOf (hst : ST K b n h) (h71 : ∃ g, h 71 = .inr (.long, 1, .inr (.inl g))) (hb : b + 101 ≤ b' ∧ b' ≤ 800000) (hi : 0 ≤ i ∧ i + 5 ≤ (G.2.2.2.2.2.2.1 : Int) ∧ G.2.2.2.2.2.2.1 ≤ 2560) (hbc : bc' + 6 ≤ bc) (hbs : bs' + 8000 ≤ bs) (hn : LN G b' i bc' bs') : JW G 13 mL_law 870 (LLo i o5 o6 o7 o8) [] (n, h) bc bs LQ1 := by
  have h0 := sT_0 hst
  obtain ⟨f, I, P, M, H, Y, Z, B, NT, SB, z, kp, nt, nl, bf, rs, rr, rq, rp, mm, ln, lo, lf, lt, co, ro, pg, pf, hsh, eh, hL⟩ := hst
  obtain ⟨v, e_v, b_v⟩ := jI_of (G.2.2.2.2.2.2.2 (i + 1).toNat)
  obtain ⟨m, e_m, b_m⟩ := jI_of (G.2.2.2.2.2.2.2 (i + 2).toNat)
  have hw : WR G mL_pageOf mX8_pageOf [.int (jI v), .int (jI m)] b' n h := by subst eh; exact w_pageOf (p_pageOf hL (by omega) b_v b_m) h0 h71
  obtain ⟨bc2, bs2, c1, c2, hJ⟩ := hw
  refine ji_aload_n dL_law_870 rfl trivial ?_
  refine ji_aload_n dL_law_871 rfl trivial ?_
  refine ji_iload dL_law_872 rfl ?_
  refine ji_iconst dL_law_874 ?_
  refine ji_iadd dL_law_875 ?_
  refine ji_xld dL_law_876 (by omega) ?_
  rw [e_v]
  refine ji_aload_n dL_law_877 rfl trivial ?_
  refine ji_iload dL_law_878 rfl ?_
  refine ji_iconst dL_law_880 ?_
  refine ji_iadd dL_law_881 ?_
  refine ji_xld dL_law_882 (by omega) ?_
  rw [e_m]
  refine ji_aload_n dL_law_883 rfl trivial ?_
  refine ji_callST dL_law_884 hJ rfl wL_pageOf sL_pageOf lL_157 rfl (Nat.le_of_ble_eq_true rfl) rfl (by omega) (by omega) (fun r h9 hq => ?_) (fun E h9 hq => ?_)
  · obtain ⟨K9, a9, e1, hK9, ⟨g9, eg, ega⟩, ⟨fs9, e60⟩, hR⟩ := hq
    cases e1
    refine ji_istore dL_law_887 (by decide) rfl ?_
    refine ji_aload_n dL_law_889 rfl trivial ?_
    refine ji_aload_n dL_law_890 rfl trivial ?_
    refine ji_iload dL_law_891 rfl ?_
    refine ji_iconst dL_law_893 ?_
    refine ji_iadd dL_law_894 ?_
    refine ji_xld dL_law_895 (by omega) ?_
    rw [e_v]
    refine ji_aload_n dL_law_896 rfl trivial ?_
    refine ji_iload dL_law_897 rfl ?_
    refine ji_iconst dL_law_899 ?_
    refine ji_iadd dL_law_900 ?_
    refine ji_xld dL_law_901 (by omega) ?_
    rw [e_m]
    refine ji_callV dL_law_902 hR rfl e60 rfl rfl wX8_pageOf vX8_pageOf lL_159 rfl (Nat.le_of_ble_eq_true rfl) rfl (Nat.zero_le _) (Nat.zero_le _) (fun r2 h10 hq => ?_) (fun E h10 hq => ?_)
    · obtain ⟨v2, e3, hv2, e71, hs10⟩ := hq
      cases e3
      obtain ⟨fs10, e610⟩ := st_60 hs10
      refine ji_istore dL_law_905 (by decide) rfl ?_
      refine ji_aload_n dL_law_907 rfl trivial ?_
      refine ji_cV dL_law_908 (st_th hs10) rfl e610 rfl rfl wX8_thrown vX8_thrown lL_116 rfl (Nat.le_of_ble_eq_true rfl) rfl ?_
      refine ji_iload dL_law_911 rfl ?_
      refine ji_icmp_eq (tgt := 918) dL_law_913 rfl (by omega) (by omega) (fun _ => ?_) (fun q => absurd rfl q)
      refine ji_iload dL_law_918 rfl ?_
      refine ji_if_ne (tgt := 935) dL_law_920 rfl (by omega) (fun _ => ?_) (fun q => ?_)
      · refine ji_goto (tgt := 2162) dL_law_935 rfl ?_
        exact hn _ _ _ _ _ _ _ _ _ (by omega) (by omega) hs10 ⟨g9, e71.trans eg⟩
      · have hK0 : K9 = 0 := by omega
        refine ji_aload_n dL_law_923 rfl trivial ?_
        refine ji_iconst dL_law_924 ?_
        refine ji_laload dL_law_925 (e71.trans eg) (by omega) ?_
        refine ji_iload dL_law_926 rfl ?_
        refine ji_i2l dL_law_928 rfl ?_
        refine ji_lcmp dL_law_929 ?_
        have elc : lg_cmp (g9 (0 : Int).toNat) (jI v2).toInt64 = jI 0 := by rw [show g9 (0 : Int).toNat = (jI a9).toInt64 from ega hK0, hv2 hK0]; exact lgs _
        rw [elc]
        refine ji_if_eq (tgt := 935) dL_law_930 rfl (by omega) (fun _ => ?_) (fun q => absurd rfl q)
        refine ji_goto (tgt := 2162) dL_law_935 rfl ?_
        exact hn _ _ _ _ _ _ _ _ _ (by omega) (by omega) hs10 ⟨g9, e71.trans eg⟩
    · obtain ⟨v2, e3, _⟩ := hq; cases e3
  · obtain ⟨K9, a9, e1, _⟩ := hq; cases e1

theorem lc_floating (hst : ST K b n h) (h71 : ∃ g, h 71 = .inr (.long, 1, .inr (.inl g))) (hb : b + 101 ≤ b' ∧ b' ≤ 800000) (hi : 0 ≤ i ∧ i + 5 ≤ (G.2.2.2.2.2.2.1 : Int) ∧ G.2.2.2.2.2.2.1 ≤ 2560) (hbc : bc' + 6 ≤ bc) (hbs : bs' + 8000 ≤ bs) (hn : LN G b' i bc' bs') : JW G 13 mL_law 938 (LLo i o5 o6 o7 o8) [] (n, h) bc bs LQ1 := by
  have h0 := sT_0 hst
  obtain ⟨f, I, P, M, H, Y, Z, B, NT, SB, z, kp, nt, nl, bf, rs, rr, rq, rp, mm, ln, lo, lf, lt, co, ro, pg, pf, hsh, eh, hL⟩ := hst
  obtain ⟨v, e_v, b_v⟩ := jI_of (G.2.2.2.2.2.2.2 (i + 1).toNat)
  obtain ⟨m, e_m, b_m⟩ := jI_of (G.2.2.2.2.2.2.2 (i + 2).toNat)
  by_cases cz : m = 0
  · have hw : WR G mL_floating mX8_floating [.int (jI v), .int (jI 0)] b' n h := by subst eh; exact w_floating (p_floating hL (by omega) b_v (Or.inl rfl)) h0 h71
    obtain ⟨bc2, bs2, c1, c2, hJ⟩ := hw
    refine ji_aload_n dL_law_938 rfl trivial ?_
    refine ji_aload_n dL_law_939 rfl trivial ?_
    refine ji_iload dL_law_940 rfl ?_
    refine ji_iconst dL_law_942 ?_
    refine ji_iadd dL_law_943 ?_
    refine ji_xld dL_law_944 (by omega) ?_
    rw [e_v]
    refine ji_aload_n dL_law_945 rfl trivial ?_
    refine ji_iload dL_law_946 rfl ?_
    refine ji_iconst dL_law_948 ?_
    refine ji_iadd dL_law_949 ?_
    refine ji_xld dL_law_950 (by omega) ?_
    rw [e_m]
    refine ji_if_eq (tgt := 958) dL_law_951 rfl b_m (fun _ => ?_) (fun q => absurd cz q)
    refine ji_iconst dL_law_958 ?_
    refine ji_aload_n dL_law_959 rfl trivial ?_
    refine ji_callST dL_law_960 hJ rfl wL_floating sL_floating lL_160 rfl (Nat.le_of_ble_eq_true rfl) rfl (by omega) (by omega) (fun r h9 hq => ?_) (fun E h9 hq => ?_)
    · obtain ⟨K9, a9, e1, hK9, ⟨g9, eg, ega⟩, ⟨fs9, e60⟩, hR⟩ := hq
      cases e1
      refine ji_istore dL_law_963 (by decide) rfl ?_
      refine ji_aload_n dL_law_965 rfl trivial ?_
      refine ji_aload_n dL_law_966 rfl trivial ?_
      refine ji_iload dL_law_967 rfl ?_
      refine ji_iconst dL_law_969 ?_
      refine ji_iadd dL_law_970 ?_
      refine ji_xld dL_law_971 (by omega) ?_
      rw [e_v]
      refine ji_aload_n dL_law_972 rfl trivial ?_
      refine ji_iload dL_law_973 rfl ?_
      refine ji_iconst dL_law_975 ?_
      refine ji_iadd dL_law_976 ?_
      refine ji_xld dL_law_977 (by omega) ?_
      rw [e_m]
      refine ji_if_eq (tgt := 985) dL_law_978 rfl b_m (fun _ => ?_) (fun q => absurd cz q)
      refine ji_iconst dL_law_985 ?_
      refine ji_callV dL_law_986 hR rfl e60 rfl rfl wX8_floating vX8_floating lL_163 rfl (Nat.le_of_ble_eq_true rfl) rfl (Nat.zero_le _) (Nat.zero_le _) (fun r2 h10 hq => ?_) (fun E h10 hq => ?_)
      · obtain ⟨v2, e3, hv2, e71, hs10⟩ := hq
        cases e3
        obtain ⟨fs10, e610⟩ := st_60 hs10
        refine ji_istore dL_law_989 (by decide) rfl ?_
        refine ji_aload_n dL_law_991 rfl trivial ?_
        refine ji_cV dL_law_992 (st_th hs10) rfl e610 rfl rfl wX8_thrown vX8_thrown lL_116 rfl (Nat.le_of_ble_eq_true rfl) rfl ?_
        refine ji_iload dL_law_995 rfl ?_
        refine ji_icmp_eq (tgt := 1002) dL_law_997 rfl (by omega) (by omega) (fun _ => ?_) (fun q => absurd rfl q)
        refine ji_iload dL_law_1002 rfl ?_
        refine ji_if_ne (tgt := 1019) dL_law_1004 rfl (by omega) (fun _ => ?_) (fun q => ?_)
        · refine ji_goto (tgt := 2162) dL_law_1019 rfl ?_
          exact hn _ _ _ _ _ _ _ _ _ (by omega) (by omega) hs10 ⟨g9, e71.trans eg⟩
        · have hK0 : K9 = 0 := by omega
          refine ji_aload_n dL_law_1007 rfl trivial ?_
          refine ji_iconst dL_law_1008 ?_
          refine ji_laload dL_law_1009 (e71.trans eg) (by omega) ?_
          refine ji_iload dL_law_1010 rfl ?_
          refine ji_i2l dL_law_1012 rfl ?_
          refine ji_lcmp dL_law_1013 ?_
          have elc : lg_cmp (g9 (0 : Int).toNat) (jI v2).toInt64 = jI 0 := by rw [show g9 (0 : Int).toNat = (jI a9).toInt64 from ega hK0, hv2 hK0]; exact lgs _
          rw [elc]
          refine ji_if_eq (tgt := 1019) dL_law_1014 rfl (by omega) (fun _ => ?_) (fun q => absurd rfl q)
          refine ji_goto (tgt := 2162) dL_law_1019 rfl ?_
          exact hn _ _ _ _ _ _ _ _ _ (by omega) (by omega) hs10 ⟨g9, e71.trans eg⟩
      · obtain ⟨v2, e3, _⟩ := hq; cases e3
    · obtain ⟨K9, a9, e1, _⟩ := hq; cases e1
  · have hw : WR G mL_floating mX8_floating [.int (jI v), .int (jI 1)] b' n h := by subst eh; exact w_floating (p_floating hL (by omega) b_v (Or.inr rfl)) h0 h71
    obtain ⟨bc2, bs2, c1, c2, hJ⟩ := hw
    refine ji_aload_n dL_law_938 rfl trivial ?_
    refine ji_aload_n dL_law_939 rfl trivial ?_
    refine ji_iload dL_law_940 rfl ?_
    refine ji_iconst dL_law_942 ?_
    refine ji_iadd dL_law_943 ?_
    refine ji_xld dL_law_944 (by omega) ?_
    rw [e_v]
    refine ji_aload_n dL_law_945 rfl trivial ?_
    refine ji_iload dL_law_946 rfl ?_
    refine ji_iconst dL_law_948 ?_
    refine ji_iadd dL_law_949 ?_
    refine ji_xld dL_law_950 (by omega) ?_
    rw [e_m]
    refine ji_if_eq (tgt := 958) dL_law_951 rfl b_m (fun q => absurd q cz) (fun _ => ?_)
    refine ji_iconst dL_law_954 ?_
    refine ji_goto (tgt := 959) dL_law_955 rfl ?_
    refine ji_aload_n dL_law_959 rfl trivial ?_
    refine ji_callST dL_law_960 hJ rfl wL_floating sL_floating lL_160 rfl (Nat.le_of_ble_eq_true rfl) rfl (by omega) (by omega) (fun r h9 hq => ?_) (fun E h9 hq => ?_)
    · obtain ⟨K9, a9, e1, hK9, ⟨g9, eg, ega⟩, ⟨fs9, e60⟩, hR⟩ := hq
      cases e1
      refine ji_istore dL_law_963 (by decide) rfl ?_
      refine ji_aload_n dL_law_965 rfl trivial ?_
      refine ji_aload_n dL_law_966 rfl trivial ?_
      refine ji_iload dL_law_967 rfl ?_
      refine ji_iconst dL_law_969 ?_
      refine ji_iadd dL_law_970 ?_
      refine ji_xld dL_law_971 (by omega) ?_
      rw [e_v]
      refine ji_aload_n dL_law_972 rfl trivial ?_
      refine ji_iload dL_law_973 rfl ?_
      refine ji_iconst dL_law_975 ?_
      refine ji_iadd dL_law_976 ?_
      refine ji_xld dL_law_977 (by omega) ?_
      rw [e_m]
      refine ji_if_eq (tgt := 985) dL_law_978 rfl b_m (fun q => absurd q cz) (fun _ => ?_)
      refine ji_iconst dL_law_981 ?_
      refine ji_goto (tgt := 986) dL_law_982 rfl ?_
      refine ji_callV dL_law_986 hR rfl e60 rfl rfl wX8_floating vX8_floating lL_163 rfl (Nat.le_of_ble_eq_true rfl) rfl (Nat.zero_le _) (Nat.zero_le _) (fun r2 h10 hq => ?_) (fun E h10 hq => ?_)
      · obtain ⟨v2, e3, hv2, e71, hs10⟩ := hq
        cases e3
        obtain ⟨fs10, e610⟩ := st_60 hs10
        refine ji_istore dL_law_989 (by decide) rfl ?_
        refine ji_aload_n dL_law_991 rfl trivial ?_
        refine ji_cV dL_law_992 (st_th hs10) rfl e610 rfl rfl wX8_thrown vX8_thrown lL_116 rfl (Nat.le_of_ble_eq_true rfl) rfl ?_
        refine ji_iload dL_law_995 rfl ?_
        refine ji_icmp_eq (tgt := 1002) dL_law_997 rfl (by omega) (by omega) (fun _ => ?_) (fun q => absurd rfl q)
        refine ji_iload dL_law_1002 rfl ?_
        refine ji_if_ne (tgt := 1019) dL_law_1004 rfl (by omega) (fun _ => ?_) (fun q => ?_)
        · refine ji_goto (tgt := 2162) dL_law_1019 rfl ?_
          exact hn _ _ _ _ _ _ _ _ _ (by omega) (by omega) hs10 ⟨g9, e71.trans eg⟩
        · have hK0 : K9 = 0 := by omega
          refine ji_aload_n dL_law_1007 rfl trivial ?_
          refine ji_iconst dL_law_1008 ?_
          refine ji_laload dL_law_1009 (e71.trans eg) (by omega) ?_
          refine ji_iload dL_law_1010 rfl ?_
          refine ji_i2l dL_law_1012 rfl ?_
          refine ji_lcmp dL_law_1013 ?_
          have elc : lg_cmp (g9 (0 : Int).toNat) (jI v2).toInt64 = jI 0 := by rw [show g9 (0 : Int).toNat = (jI a9).toInt64 from ega hK0, hv2 hK0]; exact lgs _
          rw [elc]
          refine ji_if_eq (tgt := 1019) dL_law_1014 rfl (by omega) (fun _ => ?_) (fun q => absurd rfl q)
          refine ji_goto (tgt := 2162) dL_law_1019 rfl ?_
          exact hn _ _ _ _ _ _ _ _ _ (by omega) (by omega) hs10 ⟨g9, e71.trans eg⟩
      · obtain ⟨v2, e3, _⟩ := hq; cases e3
    · obtain ⟨K9, a9, e1, _⟩ := hq; cases e1

theorem lc_go (hst : ST K b n h) (h71 : ∃ g, h 71 = .inr (.long, 1, .inr (.inl g))) (hb : b + 101 ≤ b' ∧ b' ≤ 800000) (hi : 0 ≤ i ∧ i + 5 ≤ (G.2.2.2.2.2.2.1 : Int) ∧ G.2.2.2.2.2.2.1 ≤ 2560) (hbc : bc' + 6 ≤ bc) (hbs : bs' + 8000 ≤ bs) (hn : LN G b' i bc' bs') : JW G 13 mL_law 1022 (LLo i o5 o6 o7 o8) [] (n, h) bc bs LQ1 := by
  have h0 := sT_0 hst
  obtain ⟨f, I, P, M, H, Y, Z, B, NT, SB, z, kp, nt, nl, bf, rs, rr, rq, rp, mm, ln, lo, lf, lt, co, ro, pg, pf, hsh, eh, hL⟩ := hst
  obtain ⟨v, e_v, b_v⟩ := jI_of (G.2.2.2.2.2.2.2 (i + 1).toNat)
  obtain ⟨m, e_m, b_m⟩ := jI_of (G.2.2.2.2.2.2.2 (i + 2).toNat)
  have hw : WR G mL_go mX8_go [.int (jI v), .int (jI m)] b' n h := by subst eh; exact w_go (p_go hL (by omega) b_v b_m) h0 h71
  obtain ⟨bc2, bs2, c1, c2, hJ⟩ := hw
  refine ji_aload_n dL_law_1022 rfl trivial ?_
  refine ji_aload_n dL_law_1023 rfl trivial ?_
  refine ji_iload dL_law_1024 rfl ?_
  refine ji_iconst dL_law_1026 ?_
  refine ji_iadd dL_law_1027 ?_
  refine ji_xld dL_law_1028 (by omega) ?_
  rw [e_v]
  refine ji_aload_n dL_law_1029 rfl trivial ?_
  refine ji_iload dL_law_1030 rfl ?_
  refine ji_iconst dL_law_1032 ?_
  refine ji_iadd dL_law_1033 ?_
  refine ji_xld dL_law_1034 (by omega) ?_
  rw [e_m]
  refine ji_aload_n dL_law_1035 rfl trivial ?_
  refine ji_callST dL_law_1036 hJ rfl wL_go sL_go lL_164 rfl (Nat.le_of_ble_eq_true rfl) rfl (by omega) (by omega) (fun r h9 hq => ?_) (fun E h9 hq => ?_)
  · obtain ⟨K9, a9, e1, hK9, ⟨g9, eg, ega⟩, ⟨fs9, e60⟩, hR⟩ := hq
    cases e1
    refine ji_istore dL_law_1039 (by decide) rfl ?_
    refine ji_aload_n dL_law_1041 rfl trivial ?_
    refine ji_aload_n dL_law_1042 rfl trivial ?_
    refine ji_iload dL_law_1043 rfl ?_
    refine ji_iconst dL_law_1045 ?_
    refine ji_iadd dL_law_1046 ?_
    refine ji_xld dL_law_1047 (by omega) ?_
    rw [e_v]
    refine ji_aload_n dL_law_1048 rfl trivial ?_
    refine ji_iload dL_law_1049 rfl ?_
    refine ji_iconst dL_law_1051 ?_
    refine ji_iadd dL_law_1052 ?_
    refine ji_xld dL_law_1053 (by omega) ?_
    rw [e_m]
    refine ji_callV dL_law_1054 hR rfl e60 rfl rfl wX8_go vX8_go lL_166 rfl (Nat.le_of_ble_eq_true rfl) rfl (Nat.zero_le _) (Nat.zero_le _) (fun r2 h10 hq => ?_) (fun E h10 hq => ?_)
    · obtain ⟨v2, e3, hv2, e71, hs10⟩ := hq
      cases e3
      obtain ⟨fs10, e610⟩ := st_60 hs10
      refine ji_istore dL_law_1057 (by decide) rfl ?_
      refine ji_aload_n dL_law_1059 rfl trivial ?_
      refine ji_cV dL_law_1060 (st_th hs10) rfl e610 rfl rfl wX8_thrown vX8_thrown lL_116 rfl (Nat.le_of_ble_eq_true rfl) rfl ?_
      refine ji_iload dL_law_1063 rfl ?_
      refine ji_icmp_eq (tgt := 1070) dL_law_1065 rfl (by omega) (by omega) (fun _ => ?_) (fun q => absurd rfl q)
      refine ji_iload dL_law_1070 rfl ?_
      refine ji_if_ne (tgt := 1087) dL_law_1072 rfl (by omega) (fun _ => ?_) (fun q => ?_)
      · refine ji_goto (tgt := 2162) dL_law_1087 rfl ?_
        exact hn _ _ _ _ _ _ _ _ _ (by omega) (by omega) hs10 ⟨g9, e71.trans eg⟩
      · have hK0 : K9 = 0 := by omega
        refine ji_aload_n dL_law_1075 rfl trivial ?_
        refine ji_iconst dL_law_1076 ?_
        refine ji_laload dL_law_1077 (e71.trans eg) (by omega) ?_
        refine ji_iload dL_law_1078 rfl ?_
        refine ji_i2l dL_law_1080 rfl ?_
        refine ji_lcmp dL_law_1081 ?_
        have elc : lg_cmp (g9 (0 : Int).toNat) (jI v2).toInt64 = jI 0 := by rw [show g9 (0 : Int).toNat = (jI a9).toInt64 from ega hK0, hv2 hK0]; exact lgs _
        rw [elc]
        refine ji_if_eq (tgt := 1087) dL_law_1082 rfl (by omega) (fun _ => ?_) (fun q => absurd rfl q)
        refine ji_goto (tgt := 2162) dL_law_1087 rfl ?_
        exact hn _ _ _ _ _ _ _ _ _ (by omega) (by omega) hs10 ⟨g9, e71.trans eg⟩
    · obtain ⟨v2, e3, _⟩ := hq; cases e3
  · obtain ⟨K9, a9, e1, _⟩ := hq; cases e1

theorem lc_turn (hst : ST K b n h) (h71 : ∃ g, h 71 = .inr (.long, 1, .inr (.inl g))) (hb : b + 101 ≤ b' ∧ b' ≤ 800000) (hi : 0 ≤ i ∧ i + 5 ≤ (G.2.2.2.2.2.2.1 : Int) ∧ G.2.2.2.2.2.2.1 ≤ 2560) (hbc : bc' + 6 ≤ bc) (hbs : bs' + 8000 ≤ bs) (hn : LN G b' i bc' bs') : JW G 13 mL_law 1090 (LLo i o5 o6 o7 o8) [] (n, h) bc bs LQ1 := by
  have h0 := sT_0 hst
  obtain ⟨f, I, P, M, H, Y, Z, B, NT, SB, z, kp, nt, nl, bf, rs, rr, rq, rp, mm, ln, lo, lf, lt, co, ro, pg, pf, hsh, eh, hL⟩ := hst
  obtain ⟨v, e_v, b_v⟩ := jI_of (G.2.2.2.2.2.2.2 (i + 1).toNat)
  by_cases cz : v = 0
  · have hw : PR G 12 mX7_turn mX8_turn [.int (jI 0)] [] b' n h := by subst eh; exact p_turn hL (by omega) (Or.inl rfl)
    obtain ⟨bc2, bs2, c1, c2, hJ⟩ := hw
    obtain ⟨fs0, h0⟩ := h0
    refine ji_aload_n dL_law_1090 rfl trivial ?_
    refine ji_aload_n dL_law_1091 rfl trivial ?_
    refine ji_iload dL_law_1092 rfl ?_
    refine ji_iconst dL_law_1094 ?_
    refine ji_iadd dL_law_1095 ?_
    refine ji_xld dL_law_1096 (by omega) ?_
    rw [e_v]
    refine ji_if_eq (tgt := 1104) dL_law_1097 rfl b_v (fun _ => ?_) (fun q => absurd cz q)
    refine ji_iconst dL_law_1104 ?_
    refine ji_callV dL_law_1105 hJ rfl h0 rfl rfl wX7_turn vX7_turn lL_167 rfl (Nat.le_of_ble_eq_true rfl) rfl (by omega) (by omega) (fun r h9 hq => ?_) (fun E h9 hq => ?_)
    · obtain ⟨K9, a9, hk, e971, ⟨fs9, e60⟩, hR⟩ := hq
      have hR2 := hR (h9.2 71)
      rw [va_up_id] at hR2
      rcases hk with ⟨e1, hK9⟩ | ⟨i9, E9, _, e1, _⟩
      · cases e1
        refine ji_aload_n dL_law_1108 rfl trivial ?_
        refine ji_aload_n dL_law_1109 rfl trivial ?_
        refine ji_iload dL_law_1110 rfl ?_
        refine ji_iconst dL_law_1112 ?_
        refine ji_iadd dL_law_1113 ?_
        refine ji_xld dL_law_1114 (by omega) ?_
        rw [e_v]
        refine ji_if_eq (tgt := 1122) dL_law_1115 rfl b_v (fun _ => ?_) (fun q => absurd cz q)
        refine ji_iconst dL_law_1122 ?_
        refine ji_callV dL_law_1123 hR2 rfl e60 rfl rfl wX8_turn vX8_turn lL_170 rfl (Nat.le_of_ble_eq_true rfl) rfl (Nat.zero_le _) (Nat.zero_le _) (fun r2 h10 hq => ?_) (fun E h10 hq => ?_)
        · obtain ⟨v2, e3, hv2, e71, hs10⟩ := hq
          cases e3
          rw [hv2 hK9]
          obtain ⟨w9, ew9, bw9⟩ := jI_of (jI a9)
          rw [ew9]
          obtain ⟨g, hg⟩ := h71
          exact ji_icmp_eq (tgt := 2162) dL_law_1126 rfl bw9 bw9 (fun _ => hn _ _ _ _ _ _ _ _ _ (by omega) (by omega) hs10 ⟨g, e71.trans (e971.trans hg)⟩) (fun q => absurd rfl q)
        · obtain ⟨v2, e3, _⟩ := hq; cases e3
      · cases e1
    · obtain ⟨K9, a9, hk, _⟩ := hq
      rcases hk with ⟨e1, _⟩ | ⟨i9, E9, hi9, _, _⟩
      · cases e1
      · rw [List.getElem?_nil] at hi9; cases hi9
  · have hw : PR G 12 mX7_turn mX8_turn [.int (jI 1)] [] b' n h := by subst eh; exact p_turn hL (by omega) (Or.inr rfl)
    obtain ⟨bc2, bs2, c1, c2, hJ⟩ := hw
    obtain ⟨fs0, h0⟩ := h0
    refine ji_aload_n dL_law_1090 rfl trivial ?_
    refine ji_aload_n dL_law_1091 rfl trivial ?_
    refine ji_iload dL_law_1092 rfl ?_
    refine ji_iconst dL_law_1094 ?_
    refine ji_iadd dL_law_1095 ?_
    refine ji_xld dL_law_1096 (by omega) ?_
    rw [e_v]
    refine ji_if_eq (tgt := 1104) dL_law_1097 rfl b_v (fun q => absurd q cz) (fun _ => ?_)
    refine ji_iconst dL_law_1100 ?_
    refine ji_goto (tgt := 1105) dL_law_1101 rfl ?_
    refine ji_callV dL_law_1105 hJ rfl h0 rfl rfl wX7_turn vX7_turn lL_167 rfl (Nat.le_of_ble_eq_true rfl) rfl (by omega) (by omega) (fun r h9 hq => ?_) (fun E h9 hq => ?_)
    · obtain ⟨K9, a9, hk, e971, ⟨fs9, e60⟩, hR⟩ := hq
      have hR2 := hR (h9.2 71)
      rw [va_up_id] at hR2
      rcases hk with ⟨e1, hK9⟩ | ⟨i9, E9, _, e1, _⟩
      · cases e1
        refine ji_aload_n dL_law_1108 rfl trivial ?_
        refine ji_aload_n dL_law_1109 rfl trivial ?_
        refine ji_iload dL_law_1110 rfl ?_
        refine ji_iconst dL_law_1112 ?_
        refine ji_iadd dL_law_1113 ?_
        refine ji_xld dL_law_1114 (by omega) ?_
        rw [e_v]
        refine ji_if_eq (tgt := 1122) dL_law_1115 rfl b_v (fun q => absurd q cz) (fun _ => ?_)
        refine ji_iconst dL_law_1118 ?_
        refine ji_goto (tgt := 1123) dL_law_1119 rfl ?_
        refine ji_callV dL_law_1123 hR2 rfl e60 rfl rfl wX8_turn vX8_turn lL_170 rfl (Nat.le_of_ble_eq_true rfl) rfl (Nat.zero_le _) (Nat.zero_le _) (fun r2 h10 hq => ?_) (fun E h10 hq => ?_)
        · obtain ⟨v2, e3, hv2, e71, hs10⟩ := hq
          cases e3
          rw [hv2 hK9]
          obtain ⟨w9, ew9, bw9⟩ := jI_of (jI a9)
          rw [ew9]
          obtain ⟨g, hg⟩ := h71
          exact ji_icmp_eq (tgt := 2162) dL_law_1126 rfl bw9 bw9 (fun _ => hn _ _ _ _ _ _ _ _ _ (by omega) (by omega) hs10 ⟨g, e71.trans (e971.trans hg)⟩) (fun q => absurd rfl q)
        · obtain ⟨v2, e3, _⟩ := hq; cases e3
      · cases e1
    · obtain ⟨K9, a9, hk, _⟩ := hq
      rcases hk with ⟨e1, _⟩ | ⟨i9, E9, hi9, _, _⟩
      · cases e1
      · rw [List.getElem?_nil] at hi9; cases hi9

theorem lc_back (hst : ST K b n h) (h71 : ∃ g, h 71 = .inr (.long, 1, .inr (.inl g))) (hb : b + 101 ≤ b' ∧ b' ≤ 800000) (hi : 0 ≤ i ∧ i + 5 ≤ (G.2.2.2.2.2.2.1 : Int) ∧ G.2.2.2.2.2.2.1 ≤ 2560) (hbc : bc' + 6 ≤ bc) (hbs : bs' + 8000 ≤ bs) (hn : LN G b' i bc' bs') : JW G 13 mL_law 1131 (LLo i o5 o6 o7 o8) [] (n, h) bc bs LQ1 := by
  have h0 := sT_0 hst
  obtain ⟨f, I, P, M, H, Y, Z, B, NT, SB, z, kp, nt, nl, bf, rs, rr, rq, rp, mm, ln, lo, lf, lt, co, ro, pg, pf, hsh, eh, hL⟩ := hst
  have hw : WR G mL_back mX8_back [] b' n h := by subst eh; exact w_back (p_back hL (by omega) ) h0 h71
  obtain ⟨bc2, bs2, c1, c2, hJ⟩ := hw
  refine ji_aload_n dL_law_1131 rfl trivial ?_
  refine ji_aload_n dL_law_1132 rfl trivial ?_
  refine ji_callST dL_law_1133 hJ rfl wL_back sL_back lL_171 rfl (Nat.le_of_ble_eq_true rfl) rfl (by omega) (by omega) (fun r h9 hq => ?_) (fun E h9 hq => ?_)
  · obtain ⟨K9, a9, e1, hK9, ⟨g9, eg, ega⟩, ⟨fs9, e60⟩, hR⟩ := hq
    cases e1
    refine ji_istore dL_law_1136 (by decide) rfl ?_
    refine ji_aload_n dL_law_1138 rfl trivial ?_
    refine ji_callV dL_law_1139 hR rfl e60 rfl rfl wX8_back vX8_back lL_173 rfl (Nat.le_of_ble_eq_true rfl) rfl (Nat.zero_le _) (Nat.zero_le _) (fun r2 h10 hq => ?_) (fun E h10 hq => ?_)
    · obtain ⟨v2, e3, hv2, e71, hs10⟩ := hq
      cases e3
      obtain ⟨fs10, e610⟩ := st_60 hs10
      refine ji_istore dL_law_1142 (by decide) rfl ?_
      refine ji_aload_n dL_law_1144 rfl trivial ?_
      refine ji_cV dL_law_1145 (st_th hs10) rfl e610 rfl rfl wX8_thrown vX8_thrown lL_116 rfl (Nat.le_of_ble_eq_true rfl) rfl ?_
      refine ji_iload dL_law_1148 rfl ?_
      refine ji_icmp_eq (tgt := 1155) dL_law_1150 rfl (by omega) (by omega) (fun _ => ?_) (fun q => absurd rfl q)
      refine ji_iload dL_law_1155 rfl ?_
      refine ji_if_ne (tgt := 1172) dL_law_1157 rfl (by omega) (fun _ => ?_) (fun q => ?_)
      · refine ji_goto (tgt := 2162) dL_law_1172 rfl ?_
        exact hn _ _ _ _ _ _ _ _ _ (by omega) (by omega) hs10 ⟨g9, e71.trans eg⟩
      · have hK0 : K9 = 0 := by omega
        refine ji_aload_n dL_law_1160 rfl trivial ?_
        refine ji_iconst dL_law_1161 ?_
        refine ji_laload dL_law_1162 (e71.trans eg) (by omega) ?_
        refine ji_iload dL_law_1163 rfl ?_
        refine ji_i2l dL_law_1165 rfl ?_
        refine ji_lcmp dL_law_1166 ?_
        have elc : lg_cmp (g9 (0 : Int).toNat) (jI v2).toInt64 = jI 0 := by rw [show g9 (0 : Int).toNat = (jI a9).toInt64 from ega hK0, hv2 hK0]; exact lgs _
        rw [elc]
        refine ji_if_eq (tgt := 1172) dL_law_1167 rfl (by omega) (fun _ => ?_) (fun q => absurd rfl q)
        refine ji_goto (tgt := 2162) dL_law_1172 rfl ?_
        exact hn _ _ _ _ _ _ _ _ _ (by omega) (by omega) hs10 ⟨g9, e71.trans eg⟩
    · obtain ⟨v2, e3, _⟩ := hq; cases e3
  · obtain ⟨K9, a9, e1, _⟩ := hq; cases e1

theorem lc_find (hst : ST K b n h) (h71 : ∃ g, h 71 = .inr (.long, 1, .inr (.inl g))) (hb : b + 101 ≤ b' ∧ b' ≤ 800000) (hi : 0 ≤ i ∧ i + 5 ≤ (G.2.2.2.2.2.2.1 : Int) ∧ G.2.2.2.2.2.2.1 ≤ 2560) (hbc : bc' + 6 ≤ bc) (hbs : bs' + 8000 ≤ bs) (hn : LN G b' i bc' bs') : JW G 13 mL_law 1175 (LLo i o5 o6 o7 o8) [] (n, h) bc bs LQ1 := by
  have h0 := sT_0 hst
  obtain ⟨f, I, P, M, H, Y, Z, B, NT, SB, z, kp, nt, nl, bf, rs, rr, rq, rp, mm, ln, lo, lf, lt, co, ro, pg, pf, hsh, eh, hL⟩ := hst
  obtain ⟨v, e_v, b_v⟩ := jI_of (G.2.2.2.2.2.2.2 (i + 1).toNat)
  by_cases cz : v = 0
  · have hw : WR G mL_find mX8_find [.int (jI 0)] b' n h := by subst eh; exact w_find (p_find hL (by omega) (Or.inl rfl)) h0 h71
    obtain ⟨bc2, bs2, c1, c2, hJ⟩ := hw
    refine ji_aload_n dL_law_1175 rfl trivial ?_
    refine ji_aload_n dL_law_1176 rfl trivial ?_
    refine ji_iload dL_law_1177 rfl ?_
    refine ji_iconst dL_law_1179 ?_
    refine ji_iadd dL_law_1180 ?_
    refine ji_xld dL_law_1181 (by omega) ?_
    rw [e_v]
    refine ji_if_eq (tgt := 1189) dL_law_1182 rfl b_v (fun _ => ?_) (fun q => absurd cz q)
    refine ji_iconst dL_law_1189 ?_
    refine ji_aload_n dL_law_1190 rfl trivial ?_
    refine ji_callST dL_law_1191 hJ rfl wL_find sL_find lL_174 rfl (Nat.le_of_ble_eq_true rfl) rfl (by omega) (by omega) (fun r h9 hq => ?_) (fun E h9 hq => ?_)
    · obtain ⟨K9, a9, e1, hK9, ⟨g9, eg, ega⟩, ⟨fs9, e60⟩, hR⟩ := hq
      cases e1
      refine ji_istore dL_law_1194 (by decide) rfl ?_
      refine ji_aload_n dL_law_1196 rfl trivial ?_
      refine ji_aload_n dL_law_1197 rfl trivial ?_
      refine ji_iload dL_law_1198 rfl ?_
      refine ji_iconst dL_law_1200 ?_
      refine ji_iadd dL_law_1201 ?_
      refine ji_xld dL_law_1202 (by omega) ?_
      rw [e_v]
      refine ji_if_eq (tgt := 1210) dL_law_1203 rfl b_v (fun _ => ?_) (fun q => absurd cz q)
      refine ji_iconst dL_law_1210 ?_
      refine ji_callV dL_law_1211 hR rfl e60 rfl rfl wX8_find vX8_find lL_177 rfl (Nat.le_of_ble_eq_true rfl) rfl (Nat.zero_le _) (Nat.zero_le _) (fun r2 h10 hq => ?_) (fun E h10 hq => ?_)
      · obtain ⟨v2, e3, hv2, e71, hs10⟩ := hq
        cases e3
        obtain ⟨fs10, e610⟩ := st_60 hs10
        refine ji_istore dL_law_1214 (by decide) rfl ?_
        refine ji_aload_n dL_law_1216 rfl trivial ?_
        refine ji_cV dL_law_1217 (st_th hs10) rfl e610 rfl rfl wX8_thrown vX8_thrown lL_116 rfl (Nat.le_of_ble_eq_true rfl) rfl ?_
        refine ji_iload dL_law_1220 rfl ?_
        refine ji_icmp_eq (tgt := 1227) dL_law_1222 rfl (by omega) (by omega) (fun _ => ?_) (fun q => absurd rfl q)
        refine ji_iload dL_law_1227 rfl ?_
        refine ji_if_ne (tgt := 1244) dL_law_1229 rfl (by omega) (fun _ => ?_) (fun q => ?_)
        · refine ji_goto (tgt := 2162) dL_law_1244 rfl ?_
          exact hn _ _ _ _ _ _ _ _ _ (by omega) (by omega) hs10 ⟨g9, e71.trans eg⟩
        · have hK0 : K9 = 0 := by omega
          refine ji_aload_n dL_law_1232 rfl trivial ?_
          refine ji_iconst dL_law_1233 ?_
          refine ji_laload dL_law_1234 (e71.trans eg) (by omega) ?_
          refine ji_iload dL_law_1235 rfl ?_
          refine ji_i2l dL_law_1237 rfl ?_
          refine ji_lcmp dL_law_1238 ?_
          have elc : lg_cmp (g9 (0 : Int).toNat) (jI v2).toInt64 = jI 0 := by rw [show g9 (0 : Int).toNat = (jI a9).toInt64 from ega hK0, hv2 hK0]; exact lgs _
          rw [elc]
          refine ji_if_eq (tgt := 1244) dL_law_1239 rfl (by omega) (fun _ => ?_) (fun q => absurd rfl q)
          refine ji_goto (tgt := 2162) dL_law_1244 rfl ?_
          exact hn _ _ _ _ _ _ _ _ _ (by omega) (by omega) hs10 ⟨g9, e71.trans eg⟩
      · obtain ⟨v2, e3, _⟩ := hq; cases e3
    · obtain ⟨K9, a9, e1, _⟩ := hq; cases e1
  · have hw : WR G mL_find mX8_find [.int (jI 1)] b' n h := by subst eh; exact w_find (p_find hL (by omega) (Or.inr rfl)) h0 h71
    obtain ⟨bc2, bs2, c1, c2, hJ⟩ := hw
    refine ji_aload_n dL_law_1175 rfl trivial ?_
    refine ji_aload_n dL_law_1176 rfl trivial ?_
    refine ji_iload dL_law_1177 rfl ?_
    refine ji_iconst dL_law_1179 ?_
    refine ji_iadd dL_law_1180 ?_
    refine ji_xld dL_law_1181 (by omega) ?_
    rw [e_v]
    refine ji_if_eq (tgt := 1189) dL_law_1182 rfl b_v (fun q => absurd q cz) (fun _ => ?_)
    refine ji_iconst dL_law_1185 ?_
    refine ji_goto (tgt := 1190) dL_law_1186 rfl ?_
    refine ji_aload_n dL_law_1190 rfl trivial ?_
    refine ji_callST dL_law_1191 hJ rfl wL_find sL_find lL_174 rfl (Nat.le_of_ble_eq_true rfl) rfl (by omega) (by omega) (fun r h9 hq => ?_) (fun E h9 hq => ?_)
    · obtain ⟨K9, a9, e1, hK9, ⟨g9, eg, ega⟩, ⟨fs9, e60⟩, hR⟩ := hq
      cases e1
      refine ji_istore dL_law_1194 (by decide) rfl ?_
      refine ji_aload_n dL_law_1196 rfl trivial ?_
      refine ji_aload_n dL_law_1197 rfl trivial ?_
      refine ji_iload dL_law_1198 rfl ?_
      refine ji_iconst dL_law_1200 ?_
      refine ji_iadd dL_law_1201 ?_
      refine ji_xld dL_law_1202 (by omega) ?_
      rw [e_v]
      refine ji_if_eq (tgt := 1210) dL_law_1203 rfl b_v (fun q => absurd q cz) (fun _ => ?_)
      refine ji_iconst dL_law_1206 ?_
      refine ji_goto (tgt := 1211) dL_law_1207 rfl ?_
      refine ji_callV dL_law_1211 hR rfl e60 rfl rfl wX8_find vX8_find lL_177 rfl (Nat.le_of_ble_eq_true rfl) rfl (Nat.zero_le _) (Nat.zero_le _) (fun r2 h10 hq => ?_) (fun E h10 hq => ?_)
      · obtain ⟨v2, e3, hv2, e71, hs10⟩ := hq
        cases e3
        obtain ⟨fs10, e610⟩ := st_60 hs10
        refine ji_istore dL_law_1214 (by decide) rfl ?_
        refine ji_aload_n dL_law_1216 rfl trivial ?_
        refine ji_cV dL_law_1217 (st_th hs10) rfl e610 rfl rfl wX8_thrown vX8_thrown lL_116 rfl (Nat.le_of_ble_eq_true rfl) rfl ?_
        refine ji_iload dL_law_1220 rfl ?_
        refine ji_icmp_eq (tgt := 1227) dL_law_1222 rfl (by omega) (by omega) (fun _ => ?_) (fun q => absurd rfl q)
        refine ji_iload dL_law_1227 rfl ?_
        refine ji_if_ne (tgt := 1244) dL_law_1229 rfl (by omega) (fun _ => ?_) (fun q => ?_)
        · refine ji_goto (tgt := 2162) dL_law_1244 rfl ?_
          exact hn _ _ _ _ _ _ _ _ _ (by omega) (by omega) hs10 ⟨g9, e71.trans eg⟩
        · have hK0 : K9 = 0 := by omega
          refine ji_aload_n dL_law_1232 rfl trivial ?_
          refine ji_iconst dL_law_1233 ?_
          refine ji_laload dL_law_1234 (e71.trans eg) (by omega) ?_
          refine ji_iload dL_law_1235 rfl ?_
          refine ji_i2l dL_law_1237 rfl ?_
          refine ji_lcmp dL_law_1238 ?_
          have elc : lg_cmp (g9 (0 : Int).toNat) (jI v2).toInt64 = jI 0 := by rw [show g9 (0 : Int).toNat = (jI a9).toInt64 from ega hK0, hv2 hK0]; exact lgs _
          rw [elc]
          refine ji_if_eq (tgt := 1244) dL_law_1239 rfl (by omega) (fun _ => ?_) (fun q => absurd rfl q)
          refine ji_goto (tgt := 2162) dL_law_1244 rfl ?_
          exact hn _ _ _ _ _ _ _ _ _ (by omega) (by omega) hs10 ⟨g9, e71.trans eg⟩
      · obtain ⟨v2, e3, _⟩ := hq; cases e3
    · obtain ⟨K9, a9, e1, _⟩ := hq; cases e1

theorem lc_count (hst : ST K b n h) (h71 : ∃ g, h 71 = .inr (.long, 1, .inr (.inl g))) (hb : b + 101 ≤ b' ∧ b' ≤ 800000) (hi : 0 ≤ i ∧ i + 5 ≤ (G.2.2.2.2.2.2.1 : Int) ∧ G.2.2.2.2.2.2.1 ≤ 2560) (hbc : bc' + 6 ≤ bc) (hbs : bs' + 8000 ≤ bs) (hn : LN G b' i bc' bs') : JW G 13 mL_law 1247 (LLo i o5 o6 o7 o8) [] (n, h) bc bs LQ1 := by
  have h0 := sT_0 hst
  obtain ⟨f, I, P, M, H, Y, Z, B, NT, SB, z, kp, nt, nl, bf, rs, rr, rq, rp, mm, ln, lo, lf, lt, co, ro, pg, pf, hsh, eh, hL⟩ := hst
  obtain ⟨v, e_v, b_v⟩ := jI_of (G.2.2.2.2.2.2.2 (i + 1).toNat)
  have hw : WR G mL_count mX8_count [.int (jI v)] b' n h := by subst eh; exact w_count (p_count hL (by omega) b_v) h0 h71
  obtain ⟨bc2, bs2, c1, c2, hJ⟩ := hw
  refine ji_aload_n dL_law_1247 rfl trivial ?_
  refine ji_aload_n dL_law_1248 rfl trivial ?_
  refine ji_iload dL_law_1249 rfl ?_
  refine ji_iconst dL_law_1251 ?_
  refine ji_iadd dL_law_1252 ?_
  refine ji_xld dL_law_1253 (by omega) ?_
  rw [e_v]
  refine ji_aload_n dL_law_1254 rfl trivial ?_
  refine ji_callST dL_law_1255 hJ rfl wL_count sL_count lL_178 rfl (Nat.le_of_ble_eq_true rfl) rfl (by omega) (by omega) (fun r h9 hq => ?_) (fun E h9 hq => ?_)
  · obtain ⟨K9, a9, e1, hK9, ⟨g9, eg, ega⟩, ⟨fs9, e60⟩, hR⟩ := hq
    cases e1
    refine ji_istore dL_law_1258 (by decide) rfl ?_
    refine ji_aload_n dL_law_1260 rfl trivial ?_
    refine ji_aload_n dL_law_1261 rfl trivial ?_
    refine ji_iload dL_law_1262 rfl ?_
    refine ji_iconst dL_law_1264 ?_
    refine ji_iadd dL_law_1265 ?_
    refine ji_xld dL_law_1266 (by omega) ?_
    rw [e_v]
    refine ji_callV dL_law_1267 hR rfl e60 rfl rfl wX8_count vX8_count lL_180 rfl (Nat.le_of_ble_eq_true rfl) rfl (Nat.zero_le _) (Nat.zero_le _) (fun r2 h10 hq => ?_) (fun E h10 hq => ?_)
    · obtain ⟨v2, e3, hv2, e71, hs10⟩ := hq
      cases e3
      obtain ⟨fs10, e610⟩ := st_60 hs10
      refine ji_istore dL_law_1270 (by decide) rfl ?_
      refine ji_aload_n dL_law_1272 rfl trivial ?_
      refine ji_cV dL_law_1273 (st_th hs10) rfl e610 rfl rfl wX8_thrown vX8_thrown lL_116 rfl (Nat.le_of_ble_eq_true rfl) rfl ?_
      refine ji_iload dL_law_1276 rfl ?_
      refine ji_icmp_eq (tgt := 1283) dL_law_1278 rfl (by omega) (by omega) (fun _ => ?_) (fun q => absurd rfl q)
      refine ji_iload dL_law_1283 rfl ?_
      refine ji_if_ne (tgt := 1300) dL_law_1285 rfl (by omega) (fun _ => ?_) (fun q => ?_)
      · refine ji_goto (tgt := 2162) dL_law_1300 rfl ?_
        exact hn _ _ _ _ _ _ _ _ _ (by omega) (by omega) hs10 ⟨g9, e71.trans eg⟩
      · have hK0 : K9 = 0 := by omega
        refine ji_aload_n dL_law_1288 rfl trivial ?_
        refine ji_iconst dL_law_1289 ?_
        refine ji_laload dL_law_1290 (e71.trans eg) (by omega) ?_
        refine ji_iload dL_law_1291 rfl ?_
        refine ji_i2l dL_law_1293 rfl ?_
        refine ji_lcmp dL_law_1294 ?_
        have elc : lg_cmp (g9 (0 : Int).toNat) (jI v2).toInt64 = jI 0 := by rw [show g9 (0 : Int).toNat = (jI a9).toInt64 from ega hK0, hv2 hK0]; exact lgs _
        rw [elc]
        refine ji_if_eq (tgt := 1300) dL_law_1295 rfl (by omega) (fun _ => ?_) (fun q => absurd rfl q)
        refine ji_goto (tgt := 2162) dL_law_1300 rfl ?_
        exact hn _ _ _ _ _ _ _ _ _ (by omega) (by omega) hs10 ⟨g9, e71.trans eg⟩
    · obtain ⟨v2, e3, _⟩ := hq; cases e3
  · obtain ⟨K9, a9, e1, _⟩ := hq; cases e1

theorem lc_paragraph (hst : ST K b n h) (h71 : ∃ g, h 71 = .inr (.long, 1, .inr (.inl g))) (hb : b + 101 ≤ b' ∧ b' ≤ 800000) (hi : 0 ≤ i ∧ i + 5 ≤ (G.2.2.2.2.2.2.1 : Int) ∧ G.2.2.2.2.2.2.1 ≤ 2560) (hbc : bc' + 6 ≤ bc) (hbs : bs' + 8000 ≤ bs) (hn : LN G b' i bc' bs') : JW G 13 mL_law 1303 (LLo i o5 o6 o7 o8) [] (n, h) bc bs LQ1 := by
  have h0 := sT_0 hst
  obtain ⟨f, I, P, M, H, Y, Z, B, NT, SB, z, kp, nt, nl, bf, rs, rr, rq, rp, mm, ln, lo, lf, lt, co, ro, pg, pf, hsh, eh, hL⟩ := hst
  obtain ⟨v, e_v, b_v⟩ := jI_of (G.2.2.2.2.2.2.2 (i + 1).toNat)
  obtain ⟨m, e_m, b_m⟩ := jI_of (G.2.2.2.2.2.2.2 (i + 2).toNat)
  have hw : WR G mL_paragraph mX8_paragraph [.int (jI v), .int (jI m)] b' n h := by subst eh; exact w_paragraph (p_paragraph hL (by omega) b_v b_m) h0 h71
  obtain ⟨bc2, bs2, c1, c2, hJ⟩ := hw
  refine ji_aload_n dL_law_1303 rfl trivial ?_
  refine ji_aload_n dL_law_1304 rfl trivial ?_
  refine ji_iload dL_law_1305 rfl ?_
  refine ji_iconst dL_law_1307 ?_
  refine ji_iadd dL_law_1308 ?_
  refine ji_xld dL_law_1309 (by omega) ?_
  rw [e_v]
  refine ji_aload_n dL_law_1310 rfl trivial ?_
  refine ji_iload dL_law_1311 rfl ?_
  refine ji_iconst dL_law_1313 ?_
  refine ji_iadd dL_law_1314 ?_
  refine ji_xld dL_law_1315 (by omega) ?_
  rw [e_m]
  refine ji_aload_n dL_law_1316 rfl trivial ?_
  refine ji_callST dL_law_1317 hJ rfl wL_paragraph sL_paragraph lL_181 rfl (Nat.le_of_ble_eq_true rfl) rfl (by omega) (by omega) (fun r h9 hq => ?_) (fun E h9 hq => ?_)
  · obtain ⟨K9, a9, e1, hK9, ⟨g9, eg, ega⟩, ⟨fs9, e60⟩, hR⟩ := hq
    cases e1
    refine ji_istore dL_law_1320 (by decide) rfl ?_
    refine ji_aload_n dL_law_1322 rfl trivial ?_
    refine ji_aload_n dL_law_1323 rfl trivial ?_
    refine ji_iload dL_law_1324 rfl ?_
    refine ji_iconst dL_law_1326 ?_
    refine ji_iadd dL_law_1327 ?_
    refine ji_xld dL_law_1328 (by omega) ?_
    rw [e_v]
    refine ji_aload_n dL_law_1329 rfl trivial ?_
    refine ji_iload dL_law_1330 rfl ?_
    refine ji_iconst dL_law_1332 ?_
    refine ji_iadd dL_law_1333 ?_
    refine ji_xld dL_law_1334 (by omega) ?_
    rw [e_m]
    refine ji_callV dL_law_1335 hR rfl e60 rfl rfl wX8_paragraph vX8_paragraph lL_183 rfl (Nat.le_of_ble_eq_true rfl) rfl (Nat.zero_le _) (Nat.zero_le _) (fun r2 h10 hq => ?_) (fun E h10 hq => ?_)
    · obtain ⟨v2, e3, hv2, e71, hs10⟩ := hq
      cases e3
      obtain ⟨fs10, e610⟩ := st_60 hs10
      refine ji_istore dL_law_1338 (by decide) rfl ?_
      refine ji_aload_n dL_law_1340 rfl trivial ?_
      refine ji_cV dL_law_1341 (st_th hs10) rfl e610 rfl rfl wX8_thrown vX8_thrown lL_116 rfl (Nat.le_of_ble_eq_true rfl) rfl ?_
      refine ji_iload dL_law_1344 rfl ?_
      refine ji_icmp_eq (tgt := 1351) dL_law_1346 rfl (by omega) (by omega) (fun _ => ?_) (fun q => absurd rfl q)
      refine ji_iload dL_law_1351 rfl ?_
      refine ji_if_ne (tgt := 1368) dL_law_1353 rfl (by omega) (fun _ => ?_) (fun q => ?_)
      · refine ji_goto (tgt := 2162) dL_law_1368 rfl ?_
        exact hn _ _ _ _ _ _ _ _ _ (by omega) (by omega) hs10 ⟨g9, e71.trans eg⟩
      · have hK0 : K9 = 0 := by omega
        refine ji_aload_n dL_law_1356 rfl trivial ?_
        refine ji_iconst dL_law_1357 ?_
        refine ji_laload dL_law_1358 (e71.trans eg) (by omega) ?_
        refine ji_iload dL_law_1359 rfl ?_
        refine ji_i2l dL_law_1361 rfl ?_
        refine ji_lcmp dL_law_1362 ?_
        have elc : lg_cmp (g9 (0 : Int).toNat) (jI v2).toInt64 = jI 0 := by rw [show g9 (0 : Int).toNat = (jI a9).toInt64 from ega hK0, hv2 hK0]; exact lgs _
        rw [elc]
        refine ji_if_eq (tgt := 1368) dL_law_1363 rfl (by omega) (fun _ => ?_) (fun q => absurd rfl q)
        refine ji_goto (tgt := 2162) dL_law_1368 rfl ?_
        exact hn _ _ _ _ _ _ _ _ _ (by omega) (by omega) hs10 ⟨g9, e71.trans eg⟩
    · obtain ⟨v2, e3, _⟩ := hq; cases e3
  · obtain ⟨K9, a9, e1, _⟩ := hq; cases e1

theorem lc_letter (hst : ST K b n h) (h71 : ∃ g, h 71 = .inr (.long, 1, .inr (.inl g))) (hb : b + 101 ≤ b' ∧ b' ≤ 800000) (hi : 0 ≤ i ∧ i + 5 ≤ (G.2.2.2.2.2.2.1 : Int) ∧ G.2.2.2.2.2.2.1 ≤ 2560) (hbc : bc' + 6 ≤ bc) (hbs : bs' + 8000 ≤ bs) (hn : LN G b' i bc' bs') : JW G 13 mL_law 1371 (LLo i o5 o6 o7 o8) [] (n, h) bc bs LQ1 := by
  have h0 := sT_0 hst
  obtain ⟨f, I, P, M, H, Y, Z, B, NT, SB, z, kp, nt, nl, bf, rs, rr, rq, rp, mm, ln, lo, lf, lt, co, ro, pg, pf, hsh, eh, hL⟩ := hst
  obtain ⟨v, e_v, b_v⟩ := jI_of (G.2.2.2.2.2.2.2 (i + 1).toNat)
  obtain ⟨m, e_m, b_m⟩ := jI_of (G.2.2.2.2.2.2.2 (i + 2).toNat)
  have hw : WR G mL_letter mX8_letter [.int (jI v), .int (jI m)] b' n h := by subst eh; exact w_letter (p_letter hL (by omega) b_v b_m) h0 h71
  obtain ⟨bc2, bs2, c1, c2, hJ⟩ := hw
  refine ji_aload_n dL_law_1371 rfl trivial ?_
  refine ji_aload_n dL_law_1372 rfl trivial ?_
  refine ji_iload dL_law_1373 rfl ?_
  refine ji_iconst dL_law_1375 ?_
  refine ji_iadd dL_law_1376 ?_
  refine ji_xld dL_law_1377 (by omega) ?_
  rw [e_v]
  refine ji_aload_n dL_law_1378 rfl trivial ?_
  refine ji_iload dL_law_1379 rfl ?_
  refine ji_iconst dL_law_1381 ?_
  refine ji_iadd dL_law_1382 ?_
  refine ji_xld dL_law_1383 (by omega) ?_
  rw [e_m]
  refine ji_aload_n dL_law_1384 rfl trivial ?_
  refine ji_callST dL_law_1385 hJ rfl wL_letter sL_letter lL_184 rfl (Nat.le_of_ble_eq_true rfl) rfl (by omega) (by omega) (fun r h9 hq => ?_) (fun E h9 hq => ?_)
  · obtain ⟨K9, a9, e1, hK9, ⟨g9, eg, ega⟩, ⟨fs9, e60⟩, hR⟩ := hq
    cases e1
    refine ji_istore dL_law_1388 (by decide) rfl ?_
    refine ji_aload_n dL_law_1390 rfl trivial ?_
    refine ji_aload_n dL_law_1391 rfl trivial ?_
    refine ji_iload dL_law_1392 rfl ?_
    refine ji_iconst dL_law_1394 ?_
    refine ji_iadd dL_law_1395 ?_
    refine ji_xld dL_law_1396 (by omega) ?_
    rw [e_v]
    refine ji_aload_n dL_law_1397 rfl trivial ?_
    refine ji_iload dL_law_1398 rfl ?_
    refine ji_iconst dL_law_1400 ?_
    refine ji_iadd dL_law_1401 ?_
    refine ji_xld dL_law_1402 (by omega) ?_
    rw [e_m]
    refine ji_callV dL_law_1403 hR rfl e60 rfl rfl wX8_letter vX8_letter lL_186 rfl (Nat.le_of_ble_eq_true rfl) rfl (Nat.zero_le _) (Nat.zero_le _) (fun r2 h10 hq => ?_) (fun E h10 hq => ?_)
    · obtain ⟨v2, e3, hv2, e71, hs10⟩ := hq
      cases e3
      obtain ⟨fs10, e610⟩ := st_60 hs10
      refine ji_istore dL_law_1406 (by decide) rfl ?_
      refine ji_aload_n dL_law_1408 rfl trivial ?_
      refine ji_cV dL_law_1409 (st_th hs10) rfl e610 rfl rfl wX8_thrown vX8_thrown lL_116 rfl (Nat.le_of_ble_eq_true rfl) rfl ?_
      refine ji_iload dL_law_1412 rfl ?_
      refine ji_icmp_eq (tgt := 1419) dL_law_1414 rfl (by omega) (by omega) (fun _ => ?_) (fun q => absurd rfl q)
      refine ji_iload dL_law_1419 rfl ?_
      refine ji_if_ne (tgt := 1436) dL_law_1421 rfl (by omega) (fun _ => ?_) (fun q => ?_)
      · refine ji_goto (tgt := 2162) dL_law_1436 rfl ?_
        exact hn _ _ _ _ _ _ _ _ _ (by omega) (by omega) hs10 ⟨g9, e71.trans eg⟩
      · have hK0 : K9 = 0 := by omega
        refine ji_aload_n dL_law_1424 rfl trivial ?_
        refine ji_iconst dL_law_1425 ?_
        refine ji_laload dL_law_1426 (e71.trans eg) (by omega) ?_
        refine ji_iload dL_law_1427 rfl ?_
        refine ji_i2l dL_law_1429 rfl ?_
        refine ji_lcmp dL_law_1430 ?_
        have elc : lg_cmp (g9 (0 : Int).toNat) (jI v2).toInt64 = jI 0 := by rw [show g9 (0 : Int).toNat = (jI a9).toInt64 from ega hK0, hv2 hK0]; exact lgs _
        rw [elc]
        refine ji_if_eq (tgt := 1436) dL_law_1431 rfl (by omega) (fun _ => ?_) (fun q => absurd rfl q)
        refine ji_goto (tgt := 2162) dL_law_1436 rfl ?_
        exact hn _ _ _ _ _ _ _ _ _ (by omega) (by omega) hs10 ⟨g9, e71.trans eg⟩
    · obtain ⟨v2, e3, _⟩ := hq; cases e3
  · obtain ⟨K9, a9, e1, _⟩ := hq; cases e1

theorem lc_annotate (hst : ST K b n h) (h71 : ∃ g, h 71 = .inr (.long, 1, .inr (.inl g))) (hb : b + 101 ≤ b' ∧ b' ≤ 800000) (hi : 0 ≤ i ∧ i + 5 ≤ (G.2.2.2.2.2.2.1 : Int) ∧ G.2.2.2.2.2.2.1 ≤ 2560) (hbc : bc' + 6 ≤ bc) (hbs : bs' + 8000 ≤ bs) (hn : LN G b' i bc' bs') : JW G 13 mL_law 1439 (LLo i o5 o6 o7 o8) [] (n, h) bc bs LQ1 := by
  have h0 := sT_0 hst
  obtain ⟨f, I, P, M, H, Y, Z, B, NT, SB, z, kp, nt, nl, bf, rs, rr, rq, rp, mm, ln, lo, lf, lt, co, ro, pg, pf, hsh, eh, hL⟩ := hst
  obtain ⟨v, e_v, b_v⟩ := jI_of (G.2.2.2.2.2.2.2 (i + 1).toNat)
  obtain ⟨m, e_m, b_m⟩ := jI_of (G.2.2.2.2.2.2.2 (i + 2).toNat)
  obtain ⟨o, e_o, b_o⟩ := jI_of (G.2.2.2.2.2.2.2 (i + 3).toNat)
  obtain ⟨c, e_c, b_c⟩ := jI_of (G.2.2.2.2.2.2.2 (i + 4).toNat)
  have hw : WR G mL_annotate mX8_annotate [.int (jI v), .int (jI m), .int (jI o), .int (jI c)] b' n h := by subst eh; exact w_annotate (p_annotate hL (by omega) b_v b_m b_o b_c) h0 h71
  obtain ⟨bc2, bs2, c1, c2, hJ⟩ := hw
  refine ji_aload_n dL_law_1439 rfl trivial ?_
  refine ji_aload_n dL_law_1440 rfl trivial ?_
  refine ji_iload dL_law_1441 rfl ?_
  refine ji_iconst dL_law_1443 ?_
  refine ji_iadd dL_law_1444 ?_
  refine ji_xld dL_law_1445 (by omega) ?_
  rw [e_v]
  refine ji_aload_n dL_law_1446 rfl trivial ?_
  refine ji_iload dL_law_1447 rfl ?_
  refine ji_iconst dL_law_1449 ?_
  refine ji_iadd dL_law_1450 ?_
  refine ji_xld dL_law_1451 (by omega) ?_
  rw [e_m]
  refine ji_aload_n dL_law_1452 rfl trivial ?_
  refine ji_iload dL_law_1453 rfl ?_
  refine ji_iconst dL_law_1455 ?_
  refine ji_iadd dL_law_1456 ?_
  refine ji_xld dL_law_1457 (by omega) ?_
  rw [e_o]
  refine ji_aload_n dL_law_1458 rfl trivial ?_
  refine ji_iload dL_law_1459 rfl ?_
  refine ji_iconst dL_law_1461 ?_
  refine ji_iadd dL_law_1462 ?_
  refine ji_xld dL_law_1463 (by omega) ?_
  rw [e_c]
  refine ji_aload_n dL_law_1464 rfl trivial ?_
  refine ji_callST dL_law_1465 hJ rfl wL_annotate sL_annotate lL_187 rfl (Nat.le_of_ble_eq_true rfl) rfl (by omega) (by omega) (fun r h9 hq => ?_) (fun E h9 hq => ?_)
  · obtain ⟨K9, a9, e1, hK9, ⟨g9, eg, ega⟩, ⟨fs9, e60⟩, hR⟩ := hq
    cases e1
    refine ji_istore dL_law_1468 (by decide) rfl ?_
    refine ji_aload_n dL_law_1470 rfl trivial ?_
    refine ji_aload_n dL_law_1471 rfl trivial ?_
    refine ji_iload dL_law_1472 rfl ?_
    refine ji_iconst dL_law_1474 ?_
    refine ji_iadd dL_law_1475 ?_
    refine ji_xld dL_law_1476 (by omega) ?_
    rw [e_v]
    refine ji_aload_n dL_law_1477 rfl trivial ?_
    refine ji_iload dL_law_1478 rfl ?_
    refine ji_iconst dL_law_1480 ?_
    refine ji_iadd dL_law_1481 ?_
    refine ji_xld dL_law_1482 (by omega) ?_
    rw [e_m]
    refine ji_aload_n dL_law_1483 rfl trivial ?_
    refine ji_iload dL_law_1484 rfl ?_
    refine ji_iconst dL_law_1486 ?_
    refine ji_iadd dL_law_1487 ?_
    refine ji_xld dL_law_1488 (by omega) ?_
    rw [e_o]
    refine ji_aload_n dL_law_1489 rfl trivial ?_
    refine ji_iload dL_law_1490 rfl ?_
    refine ji_iconst dL_law_1492 ?_
    refine ji_iadd dL_law_1493 ?_
    refine ji_xld dL_law_1494 (by omega) ?_
    rw [e_c]
    refine ji_callV dL_law_1495 hR rfl e60 rfl rfl wX8_annotate vX8_annotate lL_190 rfl (Nat.le_of_ble_eq_true rfl) rfl (Nat.zero_le _) (Nat.zero_le _) (fun r2 h10 hq => ?_) (fun E h10 hq => ?_)
    · obtain ⟨v2, e3, hv2, e71, hs10⟩ := hq
      cases e3
      obtain ⟨fs10, e610⟩ := st_60 hs10
      refine ji_istore dL_law_1498 (by decide) rfl ?_
      refine ji_aload_n dL_law_1500 rfl trivial ?_
      refine ji_cV dL_law_1501 (st_th hs10) rfl e610 rfl rfl wX8_thrown vX8_thrown lL_116 rfl (Nat.le_of_ble_eq_true rfl) rfl ?_
      refine ji_iload dL_law_1504 rfl ?_
      refine ji_icmp_eq (tgt := 1511) dL_law_1506 rfl (by omega) (by omega) (fun _ => ?_) (fun q => absurd rfl q)
      refine ji_iload dL_law_1511 rfl ?_
      refine ji_if_ne (tgt := 1528) dL_law_1513 rfl (by omega) (fun _ => ?_) (fun q => ?_)
      · refine ji_goto (tgt := 2162) dL_law_1528 rfl ?_
        exact hn _ _ _ _ _ _ _ _ _ (by omega) (by omega) hs10 ⟨g9, e71.trans eg⟩
      · have hK0 : K9 = 0 := by omega
        refine ji_aload_n dL_law_1516 rfl trivial ?_
        refine ji_iconst dL_law_1517 ?_
        refine ji_laload dL_law_1518 (e71.trans eg) (by omega) ?_
        refine ji_iload dL_law_1519 rfl ?_
        refine ji_i2l dL_law_1521 rfl ?_
        refine ji_lcmp dL_law_1522 ?_
        have elc : lg_cmp (g9 (0 : Int).toNat) (jI v2).toInt64 = jI 0 := by rw [show g9 (0 : Int).toNat = (jI a9).toInt64 from ega hK0, hv2 hK0]; exact lgs _
        rw [elc]
        refine ji_if_eq (tgt := 1528) dL_law_1523 rfl (by omega) (fun _ => ?_) (fun q => absurd rfl q)
        refine ji_goto (tgt := 2162) dL_law_1528 rfl ?_
        exact hn _ _ _ _ _ _ _ _ _ (by omega) (by omega) hs10 ⟨g9, e71.trans eg⟩
    · obtain ⟨v2, e3, _⟩ := hq; cases e3
  · obtain ⟨K9, a9, e1, _⟩ := hq; cases e1

theorem lc_annotation (hst : ST K b n h) (h71 : ∃ g, h 71 = .inr (.long, 1, .inr (.inl g))) (hb : b + 101 ≤ b' ∧ b' ≤ 800000) (hi : 0 ≤ i ∧ i + 5 ≤ (G.2.2.2.2.2.2.1 : Int) ∧ G.2.2.2.2.2.2.1 ≤ 2560) (hbc : bc' + 6 ≤ bc) (hbs : bs' + 8000 ≤ bs) (hn : LN G b' i bc' bs') : JW G 13 mL_law 1531 (LLo i o5 o6 o7 o8) [] (n, h) bc bs LQ1 := by
  have h0 := sT_0 hst
  obtain ⟨f, I, P, M, H, Y, Z, B, NT, SB, z, kp, nt, nl, bf, rs, rr, rq, rp, mm, ln, lo, lf, lt, co, ro, pg, pf, hsh, eh, hL⟩ := hst
  obtain ⟨v, e_v, b_v⟩ := jI_of (G.2.2.2.2.2.2.2 (i + 1).toNat)
  obtain ⟨m, e_m, b_m⟩ := jI_of (G.2.2.2.2.2.2.2 (i + 2).toNat)
  have hw : WR G mL_annotation mX8_annotation [.int (jI v), .int (jI m)] b' n h := by subst eh; exact w_annotation (p_annotation hL (by omega) b_v b_m) h0 h71
  obtain ⟨bc2, bs2, c1, c2, hJ⟩ := hw
  refine ji_aload_n dL_law_1531 rfl trivial ?_
  refine ji_aload_n dL_law_1532 rfl trivial ?_
  refine ji_iload dL_law_1533 rfl ?_
  refine ji_iconst dL_law_1535 ?_
  refine ji_iadd dL_law_1536 ?_
  refine ji_xld dL_law_1537 (by omega) ?_
  rw [e_v]
  refine ji_aload_n dL_law_1538 rfl trivial ?_
  refine ji_iload dL_law_1539 rfl ?_
  refine ji_iconst dL_law_1541 ?_
  refine ji_iadd dL_law_1542 ?_
  refine ji_xld dL_law_1543 (by omega) ?_
  rw [e_m]
  refine ji_aload_n dL_law_1544 rfl trivial ?_
  refine ji_callST dL_law_1545 hJ rfl wL_annotation sL_annotation lL_191 rfl (Nat.le_of_ble_eq_true rfl) rfl (by omega) (by omega) (fun r h9 hq => ?_) (fun E h9 hq => ?_)
  · obtain ⟨K9, a9, e1, hK9, ⟨g9, eg, ega⟩, ⟨fs9, e60⟩, hR⟩ := hq
    cases e1
    refine ji_istore dL_law_1548 (by decide) rfl ?_
    refine ji_aload_n dL_law_1550 rfl trivial ?_
    refine ji_aload_n dL_law_1551 rfl trivial ?_
    refine ji_iload dL_law_1552 rfl ?_
    refine ji_iconst dL_law_1554 ?_
    refine ji_iadd dL_law_1555 ?_
    refine ji_xld dL_law_1556 (by omega) ?_
    rw [e_v]
    refine ji_aload_n dL_law_1557 rfl trivial ?_
    refine ji_iload dL_law_1558 rfl ?_
    refine ji_iconst dL_law_1560 ?_
    refine ji_iadd dL_law_1561 ?_
    refine ji_xld dL_law_1562 (by omega) ?_
    rw [e_m]
    refine ji_callV dL_law_1563 hR rfl e60 rfl rfl wX8_annotation vX8_annotation lL_193 rfl (Nat.le_of_ble_eq_true rfl) rfl (Nat.zero_le _) (Nat.zero_le _) (fun r2 h10 hq => ?_) (fun E h10 hq => ?_)
    · obtain ⟨v2, e3, hv2, e71, hs10⟩ := hq
      cases e3
      obtain ⟨fs10, e610⟩ := st_60 hs10
      refine ji_istore dL_law_1566 (by decide) rfl ?_
      refine ji_aload_n dL_law_1568 rfl trivial ?_
      refine ji_cV dL_law_1569 (st_th hs10) rfl e610 rfl rfl wX8_thrown vX8_thrown lL_116 rfl (Nat.le_of_ble_eq_true rfl) rfl ?_
      refine ji_iload dL_law_1572 rfl ?_
      refine ji_icmp_eq (tgt := 1579) dL_law_1574 rfl (by omega) (by omega) (fun _ => ?_) (fun q => absurd rfl q)
      refine ji_iload dL_law_1579 rfl ?_
      refine ji_if_ne (tgt := 1596) dL_law_1581 rfl (by omega) (fun _ => ?_) (fun q => ?_)
      · refine ji_goto (tgt := 2162) dL_law_1596 rfl ?_
        exact hn _ _ _ _ _ _ _ _ _ (by omega) (by omega) hs10 ⟨g9, e71.trans eg⟩
      · have hK0 : K9 = 0 := by omega
        refine ji_aload_n dL_law_1584 rfl trivial ?_
        refine ji_iconst dL_law_1585 ?_
        refine ji_laload dL_law_1586 (e71.trans eg) (by omega) ?_
        refine ji_iload dL_law_1587 rfl ?_
        refine ji_i2l dL_law_1589 rfl ?_
        refine ji_lcmp dL_law_1590 ?_
        have elc : lg_cmp (g9 (0 : Int).toNat) (jI v2).toInt64 = jI 0 := by rw [show g9 (0 : Int).toNat = (jI a9).toInt64 from ega hK0, hv2 hK0]; exact lgs _
        rw [elc]
        refine ji_if_eq (tgt := 1596) dL_law_1591 rfl (by omega) (fun _ => ?_) (fun q => absurd rfl q)
        refine ji_goto (tgt := 2162) dL_law_1596 rfl ?_
        exact hn _ _ _ _ _ _ _ _ _ (by omega) (by omega) hs10 ⟨g9, e71.trans eg⟩
    · obtain ⟨v2, e3, _⟩ := hq; cases e3
  · obtain ⟨K9, a9, e1, _⟩ := hq; cases e1

theorem lc_removeAnnotation (hst : ST K b n h) (h71 : ∃ g, h 71 = .inr (.long, 1, .inr (.inl g))) (hb : b + 101 ≤ b' ∧ b' ≤ 800000) (hi : 0 ≤ i ∧ i + 5 ≤ (G.2.2.2.2.2.2.1 : Int) ∧ G.2.2.2.2.2.2.1 ≤ 2560) (hbc : bc' + 6 ≤ bc) (hbs : bs' + 8000 ≤ bs) (hn : LN G b' i bc' bs') : JW G 13 mL_law 1599 (LLo i o5 o6 o7 o8) [] (n, h) bc bs LQ1 := by
  have h0 := sT_0 hst
  obtain ⟨f, I, P, M, H, Y, Z, B, NT, SB, z, kp, nt, nl, bf, rs, rr, rq, rp, mm, ln, lo, lf, lt, co, ro, pg, pf, hsh, eh, hL⟩ := hst
  obtain ⟨v, e_v, b_v⟩ := jI_of (G.2.2.2.2.2.2.2 (i + 1).toNat)
  have hw : WR G mL_removeAnnotation mX8_removeAnnotation [.int (jI v)] b' n h := by subst eh; exact w_removeAnnotation (p_removeAnnotation hL (by omega) b_v) h0 h71
  obtain ⟨bc2, bs2, c1, c2, hJ⟩ := hw
  refine ji_aload_n dL_law_1599 rfl trivial ?_
  refine ji_aload_n dL_law_1600 rfl trivial ?_
  refine ji_iload dL_law_1601 rfl ?_
  refine ji_iconst dL_law_1603 ?_
  refine ji_iadd dL_law_1604 ?_
  refine ji_xld dL_law_1605 (by omega) ?_
  rw [e_v]
  refine ji_aload_n dL_law_1606 rfl trivial ?_
  refine ji_callST dL_law_1607 hJ rfl wL_removeAnnotation sL_removeAnnotation lL_194 rfl (Nat.le_of_ble_eq_true rfl) rfl (by omega) (by omega) (fun r h9 hq => ?_) (fun E h9 hq => ?_)
  · obtain ⟨K9, a9, e1, hK9, ⟨g9, eg, ega⟩, ⟨fs9, e60⟩, hR⟩ := hq
    cases e1
    refine ji_istore dL_law_1610 (by decide) rfl ?_
    refine ji_aload_n dL_law_1612 rfl trivial ?_
    refine ji_aload_n dL_law_1613 rfl trivial ?_
    refine ji_iload dL_law_1614 rfl ?_
    refine ji_iconst dL_law_1616 ?_
    refine ji_iadd dL_law_1617 ?_
    refine ji_xld dL_law_1618 (by omega) ?_
    rw [e_v]
    refine ji_callV dL_law_1619 hR rfl e60 rfl rfl wX8_removeAnnotation vX8_removeAnnotation lL_196 rfl (Nat.le_of_ble_eq_true rfl) rfl (Nat.zero_le _) (Nat.zero_le _) (fun r2 h10 hq => ?_) (fun E h10 hq => ?_)
    · obtain ⟨v2, e3, hv2, e71, hs10⟩ := hq
      cases e3
      obtain ⟨fs10, e610⟩ := st_60 hs10
      refine ji_istore dL_law_1622 (by decide) rfl ?_
      refine ji_aload_n dL_law_1624 rfl trivial ?_
      refine ji_cV dL_law_1625 (st_th hs10) rfl e610 rfl rfl wX8_thrown vX8_thrown lL_116 rfl (Nat.le_of_ble_eq_true rfl) rfl ?_
      refine ji_iload dL_law_1628 rfl ?_
      refine ji_icmp_eq (tgt := 1635) dL_law_1630 rfl (by omega) (by omega) (fun _ => ?_) (fun q => absurd rfl q)
      refine ji_iload dL_law_1635 rfl ?_
      refine ji_if_ne (tgt := 1652) dL_law_1637 rfl (by omega) (fun _ => ?_) (fun q => ?_)
      · refine ji_goto (tgt := 2162) dL_law_1652 rfl ?_
        exact hn _ _ _ _ _ _ _ _ _ (by omega) (by omega) hs10 ⟨g9, e71.trans eg⟩
      · have hK0 : K9 = 0 := by omega
        refine ji_aload_n dL_law_1640 rfl trivial ?_
        refine ji_iconst dL_law_1641 ?_
        refine ji_laload dL_law_1642 (e71.trans eg) (by omega) ?_
        refine ji_iload dL_law_1643 rfl ?_
        refine ji_i2l dL_law_1645 rfl ?_
        refine ji_lcmp dL_law_1646 ?_
        have elc : lg_cmp (g9 (0 : Int).toNat) (jI v2).toInt64 = jI 0 := by rw [show g9 (0 : Int).toNat = (jI a9).toInt64 from ega hK0, hv2 hK0]; exact lgs _
        rw [elc]
        refine ji_if_eq (tgt := 1652) dL_law_1647 rfl (by omega) (fun _ => ?_) (fun q => absurd rfl q)
        refine ji_goto (tgt := 2162) dL_law_1652 rfl ?_
        exact hn _ _ _ _ _ _ _ _ _ (by omega) (by omega) hs10 ⟨g9, e71.trans eg⟩
    · obtain ⟨v2, e3, _⟩ := hq; cases e3
  · obtain ⟨K9, a9, e1, _⟩ := hq; cases e1

theorem lc_insert (hst : ST K b n h) (h71 : ∃ g, h 71 = .inr (.long, 1, .inr (.inl g))) (hb : b + 101 ≤ b' ∧ b' ≤ 800000) (hi : 0 ≤ i ∧ i + 5 ≤ (G.2.2.2.2.2.2.1 : Int) ∧ G.2.2.2.2.2.2.1 ≤ 2560) (hbc : bc' + 6 ≤ bc) (hbs : bs' + 8000 ≤ bs) (hn : LN G b' i bc' bs') : JW G 13 mL_law 1655 (LLo i o5 o6 o7 o8) [] (n, h) bc bs LQ1 := by
  have h0 := sT_0 hst
  obtain ⟨f, I, P, M, H, Y, Z, B, NT, SB, z, kp, nt, nl, bf, rs, rr, rq, rp, mm, ln, lo, lf, lt, co, ro, pg, pf, hsh, eh, hL⟩ := hst
  obtain ⟨v, e_v, b_v⟩ := jI_of (G.2.2.2.2.2.2.2 (i + 1).toNat)
  obtain ⟨m, e_m, b_m⟩ := jI_of (G.2.2.2.2.2.2.2 (i + 2).toNat)
  have hw : WR G mL_insert mX8_insert [.int (jI v), .int (jI m)] b' n h := by subst eh; exact w_insert (p_insert hL ⟨hb.1, hb.2⟩ b_v b_m) h0 h71
  obtain ⟨bc2, bs2, c1, c2, hJ⟩ := hw
  refine ji_aload_n dL_law_1655 rfl trivial ?_
  refine ji_aload_n dL_law_1656 rfl trivial ?_
  refine ji_iload dL_law_1657 rfl ?_
  refine ji_iconst dL_law_1659 ?_
  refine ji_iadd dL_law_1660 ?_
  refine ji_xld dL_law_1661 (by omega) ?_
  rw [e_v]
  refine ji_aload_n dL_law_1662 rfl trivial ?_
  refine ji_iload dL_law_1663 rfl ?_
  refine ji_iconst dL_law_1665 ?_
  refine ji_iadd dL_law_1666 ?_
  refine ji_xld dL_law_1667 (by omega) ?_
  rw [e_m]
  refine ji_aload_n dL_law_1668 rfl trivial ?_
  refine ji_callST dL_law_1669 hJ rfl wL_insert sL_insert lL_197 rfl (Nat.le_of_ble_eq_true rfl) rfl (by omega) (by omega) (fun r h9 hq => ?_) (fun E h9 hq => ?_)
  · obtain ⟨K9, a9, e1, hK9, ⟨g9, eg, ega⟩, ⟨fs9, e60⟩, hR⟩ := hq
    cases e1
    refine ji_istore dL_law_1672 (by decide) rfl ?_
    refine ji_aload_n dL_law_1674 rfl trivial ?_
    refine ji_aload_n dL_law_1675 rfl trivial ?_
    refine ji_iload dL_law_1676 rfl ?_
    refine ji_iconst dL_law_1678 ?_
    refine ji_iadd dL_law_1679 ?_
    refine ji_xld dL_law_1680 (by omega) ?_
    rw [e_v]
    refine ji_aload_n dL_law_1681 rfl trivial ?_
    refine ji_iload dL_law_1682 rfl ?_
    refine ji_iconst dL_law_1684 ?_
    refine ji_iadd dL_law_1685 ?_
    refine ji_xld dL_law_1686 (by omega) ?_
    rw [e_m]
    refine ji_callV dL_law_1687 hR rfl e60 rfl rfl wX8_insert vX8_insert lL_199 rfl (Nat.le_of_ble_eq_true rfl) rfl (Nat.zero_le _) (Nat.zero_le _) (fun r2 h10 hq => ?_) (fun E h10 hq => ?_)
    · obtain ⟨v2, e3, hv2, e71, hs10⟩ := hq
      cases e3
      obtain ⟨fs10, e610⟩ := st_60 hs10
      refine ji_istore dL_law_1690 (by decide) rfl ?_
      refine ji_aload_n dL_law_1692 rfl trivial ?_
      refine ji_cV dL_law_1693 (st_th hs10) rfl e610 rfl rfl wX8_thrown vX8_thrown lL_116 rfl (Nat.le_of_ble_eq_true rfl) rfl ?_
      refine ji_iload dL_law_1696 rfl ?_
      refine ji_icmp_eq (tgt := 1703) dL_law_1698 rfl (by omega) (by omega) (fun _ => ?_) (fun q => absurd rfl q)
      refine ji_iload dL_law_1703 rfl ?_
      refine ji_if_ne (tgt := 1720) dL_law_1705 rfl (by omega) (fun _ => ?_) (fun q => ?_)
      · refine ji_goto (tgt := 2162) dL_law_1720 rfl ?_
        exact hn _ _ _ _ _ _ _ _ _ (by omega) (by omega) hs10 ⟨g9, e71.trans eg⟩
      · have hK0 : K9 = 0 := by omega
        refine ji_aload_n dL_law_1708 rfl trivial ?_
        refine ji_iconst dL_law_1709 ?_
        refine ji_laload dL_law_1710 (e71.trans eg) (by omega) ?_
        refine ji_iload dL_law_1711 rfl ?_
        refine ji_i2l dL_law_1713 rfl ?_
        refine ji_lcmp dL_law_1714 ?_
        have elc : lg_cmp (g9 (0 : Int).toNat) (jI v2).toInt64 = jI 0 := by rw [show g9 (0 : Int).toNat = (jI a9).toInt64 from ega hK0, hv2 hK0]; exact lgs _
        rw [elc]
        refine ji_if_eq (tgt := 1720) dL_law_1715 rfl (by omega) (fun _ => ?_) (fun q => absurd rfl q)
        refine ji_goto (tgt := 2162) dL_law_1720 rfl ?_
        exact hn _ _ _ _ _ _ _ _ _ (by omega) (by omega) hs10 ⟨g9, e71.trans eg⟩
    · obtain ⟨v2, e3, _⟩ := hq; cases e3
  · obtain ⟨K9, a9, e1, _⟩ := hq; cases e1

theorem lc_delete (hst : ST K b n h) (h71 : ∃ g, h 71 = .inr (.long, 1, .inr (.inl g))) (hb : b + 101 ≤ b' ∧ b' ≤ 800000) (hi : 0 ≤ i ∧ i + 5 ≤ (G.2.2.2.2.2.2.1 : Int) ∧ G.2.2.2.2.2.2.1 ≤ 2560) (hbc : bc' + 6 ≤ bc) (hbs : bs' + 8000 ≤ bs) (hn : LN G b' i bc' bs') : JW G 13 mL_law 1723 (LLo i o5 o6 o7 o8) [] (n, h) bc bs LQ1 := by
  have h0 := sT_0 hst
  obtain ⟨f, I, P, M, H, Y, Z, B, NT, SB, z, kp, nt, nl, bf, rs, rr, rq, rp, mm, ln, lo, lf, lt, co, ro, pg, pf, hsh, eh, hL⟩ := hst
  obtain ⟨v, e_v, b_v⟩ := jI_of (G.2.2.2.2.2.2.2 (i + 1).toNat)
  obtain ⟨m, e_m, b_m⟩ := jI_of (G.2.2.2.2.2.2.2 (i + 2).toNat)
  obtain ⟨o, e_o, b_o⟩ := jI_of (G.2.2.2.2.2.2.2 (i + 3).toNat)
  have hw : WR G mL_delete mX8_delete [.int (jI v), .int (jI m), .int (jI o)] b' n h := by subst eh; exact w_delete (p_delete hL (by omega) b_v b_m b_o) h0 h71
  obtain ⟨bc2, bs2, c1, c2, hJ⟩ := hw
  refine ji_aload_n dL_law_1723 rfl trivial ?_
  refine ji_aload_n dL_law_1724 rfl trivial ?_
  refine ji_iload dL_law_1725 rfl ?_
  refine ji_iconst dL_law_1727 ?_
  refine ji_iadd dL_law_1728 ?_
  refine ji_xld dL_law_1729 (by omega) ?_
  rw [e_v]
  refine ji_aload_n dL_law_1730 rfl trivial ?_
  refine ji_iload dL_law_1731 rfl ?_
  refine ji_iconst dL_law_1733 ?_
  refine ji_iadd dL_law_1734 ?_
  refine ji_xld dL_law_1735 (by omega) ?_
  rw [e_m]
  refine ji_aload_n dL_law_1736 rfl trivial ?_
  refine ji_iload dL_law_1737 rfl ?_
  refine ji_iconst dL_law_1739 ?_
  refine ji_iadd dL_law_1740 ?_
  refine ji_xld dL_law_1741 (by omega) ?_
  rw [e_o]
  refine ji_aload_n dL_law_1742 rfl trivial ?_
  refine ji_callST dL_law_1743 hJ rfl wL_delete sL_delete lL_200 rfl (Nat.le_of_ble_eq_true rfl) rfl (by omega) (by omega) (fun r h9 hq => ?_) (fun E h9 hq => ?_)
  · obtain ⟨K9, a9, e1, hK9, ⟨g9, eg, ega⟩, ⟨fs9, e60⟩, hR⟩ := hq
    cases e1
    refine ji_istore dL_law_1746 (by decide) rfl ?_
    refine ji_aload_n dL_law_1748 rfl trivial ?_
    refine ji_aload_n dL_law_1749 rfl trivial ?_
    refine ji_iload dL_law_1750 rfl ?_
    refine ji_iconst dL_law_1752 ?_
    refine ji_iadd dL_law_1753 ?_
    refine ji_xld dL_law_1754 (by omega) ?_
    rw [e_v]
    refine ji_aload_n dL_law_1755 rfl trivial ?_
    refine ji_iload dL_law_1756 rfl ?_
    refine ji_iconst dL_law_1758 ?_
    refine ji_iadd dL_law_1759 ?_
    refine ji_xld dL_law_1760 (by omega) ?_
    rw [e_m]
    refine ji_aload_n dL_law_1761 rfl trivial ?_
    refine ji_iload dL_law_1762 rfl ?_
    refine ji_iconst dL_law_1764 ?_
    refine ji_iadd dL_law_1765 ?_
    refine ji_xld dL_law_1766 (by omega) ?_
    rw [e_o]
    refine ji_callV dL_law_1767 hR rfl e60 rfl rfl wX8_delete vX8_delete lL_202 rfl (Nat.le_of_ble_eq_true rfl) rfl (Nat.zero_le _) (Nat.zero_le _) (fun r2 h10 hq => ?_) (fun E h10 hq => ?_)
    · obtain ⟨v2, e3, hv2, e71, hs10⟩ := hq
      cases e3
      obtain ⟨fs10, e610⟩ := st_60 hs10
      refine ji_istore dL_law_1770 (by decide) rfl ?_
      refine ji_aload_n dL_law_1772 rfl trivial ?_
      refine ji_cV dL_law_1773 (st_th hs10) rfl e610 rfl rfl wX8_thrown vX8_thrown lL_116 rfl (Nat.le_of_ble_eq_true rfl) rfl ?_
      refine ji_iload dL_law_1776 rfl ?_
      refine ji_icmp_eq (tgt := 1783) dL_law_1778 rfl (by omega) (by omega) (fun _ => ?_) (fun q => absurd rfl q)
      refine ji_iload dL_law_1783 rfl ?_
      refine ji_if_ne (tgt := 1800) dL_law_1785 rfl (by omega) (fun _ => ?_) (fun q => ?_)
      · refine ji_goto (tgt := 2162) dL_law_1800 rfl ?_
        exact hn _ _ _ _ _ _ _ _ _ (by omega) (by omega) hs10 ⟨g9, e71.trans eg⟩
      · have hK0 : K9 = 0 := by omega
        refine ji_aload_n dL_law_1788 rfl trivial ?_
        refine ji_iconst dL_law_1789 ?_
        refine ji_laload dL_law_1790 (e71.trans eg) (by omega) ?_
        refine ji_iload dL_law_1791 rfl ?_
        refine ji_i2l dL_law_1793 rfl ?_
        refine ji_lcmp dL_law_1794 ?_
        have elc : lg_cmp (g9 (0 : Int).toNat) (jI v2).toInt64 = jI 0 := by rw [show g9 (0 : Int).toNat = (jI a9).toInt64 from ega hK0, hv2 hK0]; exact lgs _
        rw [elc]
        refine ji_if_eq (tgt := 1800) dL_law_1795 rfl (by omega) (fun _ => ?_) (fun q => absurd rfl q)
        refine ji_goto (tgt := 2162) dL_law_1800 rfl ?_
        exact hn _ _ _ _ _ _ _ _ _ (by omega) (by omega) hs10 ⟨g9, e71.trans eg⟩
    · obtain ⟨v2, e3, _⟩ := hq; cases e3
  · obtain ⟨K9, a9, e1, _⟩ := hq; cases e1

theorem lc_split (hst : ST K b n h) (h71 : ∃ g, h 71 = .inr (.long, 1, .inr (.inl g))) (hb : b + 101 ≤ b' ∧ b' ≤ 800000) (hi : 0 ≤ i ∧ i + 5 ≤ (G.2.2.2.2.2.2.1 : Int) ∧ G.2.2.2.2.2.2.1 ≤ 2560) (hbc : bc' + 6 ≤ bc) (hbs : bs' + 8000 ≤ bs) (hn : LN G b' i bc' bs') : JW G 13 mL_law 1803 (LLo i o5 o6 o7 o8) [] (n, h) bc bs LQ1 := by
  have h0 := sT_0 hst
  obtain ⟨f, I, P, M, H, Y, Z, B, NT, SB, z, kp, nt, nl, bf, rs, rr, rq, rp, mm, ln, lo, lf, lt, co, ro, pg, pf, hsh, eh, hL⟩ := hst
  obtain ⟨v, e_v, b_v⟩ := jI_of (G.2.2.2.2.2.2.2 (i + 1).toNat)
  obtain ⟨m, e_m, b_m⟩ := jI_of (G.2.2.2.2.2.2.2 (i + 2).toNat)
  have hw : WR G mL_split mX8_split [.int (jI v), .int (jI m)] b' n h := by subst eh; exact w_split (p_split hL (by omega) b_v b_m) h0 h71
  obtain ⟨bc2, bs2, c1, c2, hJ⟩ := hw
  refine ji_aload_n dL_law_1803 rfl trivial ?_
  refine ji_aload_n dL_law_1804 rfl trivial ?_
  refine ji_iload dL_law_1805 rfl ?_
  refine ji_iconst dL_law_1807 ?_
  refine ji_iadd dL_law_1808 ?_
  refine ji_xld dL_law_1809 (by omega) ?_
  rw [e_v]
  refine ji_aload_n dL_law_1810 rfl trivial ?_
  refine ji_iload dL_law_1811 rfl ?_
  refine ji_iconst dL_law_1813 ?_
  refine ji_iadd dL_law_1814 ?_
  refine ji_xld dL_law_1815 (by omega) ?_
  rw [e_m]
  refine ji_aload_n dL_law_1816 rfl trivial ?_
  refine ji_callST dL_law_1817 hJ rfl wL_split sL_split lL_203 rfl (Nat.le_of_ble_eq_true rfl) rfl (by omega) (by omega) (fun r h9 hq => ?_) (fun E h9 hq => ?_)
  · obtain ⟨K9, a9, e1, hK9, ⟨g9, eg, ega⟩, ⟨fs9, e60⟩, hR⟩ := hq
    cases e1
    refine ji_istore dL_law_1820 (by decide) rfl ?_
    refine ji_aload_n dL_law_1822 rfl trivial ?_
    refine ji_aload_n dL_law_1823 rfl trivial ?_
    refine ji_iload dL_law_1824 rfl ?_
    refine ji_iconst dL_law_1826 ?_
    refine ji_iadd dL_law_1827 ?_
    refine ji_xld dL_law_1828 (by omega) ?_
    rw [e_v]
    refine ji_aload_n dL_law_1829 rfl trivial ?_
    refine ji_iload dL_law_1830 rfl ?_
    refine ji_iconst dL_law_1832 ?_
    refine ji_iadd dL_law_1833 ?_
    refine ji_xld dL_law_1834 (by omega) ?_
    rw [e_m]
    refine ji_callV dL_law_1835 hR rfl e60 rfl rfl wX8_split vX8_split lL_205 rfl (Nat.le_of_ble_eq_true rfl) rfl (Nat.zero_le _) (Nat.zero_le _) (fun r2 h10 hq => ?_) (fun E h10 hq => ?_)
    · obtain ⟨v2, e3, hv2, e71, hs10⟩ := hq
      cases e3
      obtain ⟨fs10, e610⟩ := st_60 hs10
      refine ji_istore dL_law_1838 (by decide) rfl ?_
      refine ji_aload_n dL_law_1840 rfl trivial ?_
      refine ji_cV dL_law_1841 (st_th hs10) rfl e610 rfl rfl wX8_thrown vX8_thrown lL_116 rfl (Nat.le_of_ble_eq_true rfl) rfl ?_
      refine ji_iload dL_law_1844 rfl ?_
      refine ji_icmp_eq (tgt := 1851) dL_law_1846 rfl (by omega) (by omega) (fun _ => ?_) (fun q => absurd rfl q)
      refine ji_iload dL_law_1851 rfl ?_
      refine ji_if_ne (tgt := 1868) dL_law_1853 rfl (by omega) (fun _ => ?_) (fun q => ?_)
      · refine ji_goto (tgt := 2162) dL_law_1868 rfl ?_
        exact hn _ _ _ _ _ _ _ _ _ (by omega) (by omega) hs10 ⟨g9, e71.trans eg⟩
      · have hK0 : K9 = 0 := by omega
        refine ji_aload_n dL_law_1856 rfl trivial ?_
        refine ji_iconst dL_law_1857 ?_
        refine ji_laload dL_law_1858 (e71.trans eg) (by omega) ?_
        refine ji_iload dL_law_1859 rfl ?_
        refine ji_i2l dL_law_1861 rfl ?_
        refine ji_lcmp dL_law_1862 ?_
        have elc : lg_cmp (g9 (0 : Int).toNat) (jI v2).toInt64 = jI 0 := by rw [show g9 (0 : Int).toNat = (jI a9).toInt64 from ega hK0, hv2 hK0]; exact lgs _
        rw [elc]
        refine ji_if_eq (tgt := 1868) dL_law_1863 rfl (by omega) (fun _ => ?_) (fun q => absurd rfl q)
        refine ji_goto (tgt := 2162) dL_law_1868 rfl ?_
        exact hn _ _ _ _ _ _ _ _ _ (by omega) (by omega) hs10 ⟨g9, e71.trans eg⟩
    · obtain ⟨v2, e3, _⟩ := hq; cases e3
  · obtain ⟨K9, a9, e1, _⟩ := hq; cases e1

theorem lc_join (hst : ST K b n h) (h71 : ∃ g, h 71 = .inr (.long, 1, .inr (.inl g))) (hb : b + 101 ≤ b' ∧ b' ≤ 800000) (hi : 0 ≤ i ∧ i + 5 ≤ (G.2.2.2.2.2.2.1 : Int) ∧ G.2.2.2.2.2.2.1 ≤ 2560) (hbc : bc' + 6 ≤ bc) (hbs : bs' + 8000 ≤ bs) (hn : LN G b' i bc' bs') : JW G 13 mL_law 1871 (LLo i o5 o6 o7 o8) [] (n, h) bc bs LQ1 := by
  have h0 := sT_0 hst
  obtain ⟨f, I, P, M, H, Y, Z, B, NT, SB, z, kp, nt, nl, bf, rs, rr, rq, rp, mm, ln, lo, lf, lt, co, ro, pg, pf, hsh, eh, hL⟩ := hst
  obtain ⟨v, e_v, b_v⟩ := jI_of (G.2.2.2.2.2.2.2 (i + 1).toNat)
  have hw : WR G mL_join mX8_join [.int (jI v)] b' n h := by subst eh; exact w_join (p_join hL (by omega) b_v) h0 h71
  obtain ⟨bc2, bs2, c1, c2, hJ⟩ := hw
  refine ji_aload_n dL_law_1871 rfl trivial ?_
  refine ji_aload_n dL_law_1872 rfl trivial ?_
  refine ji_iload dL_law_1873 rfl ?_
  refine ji_iconst dL_law_1875 ?_
  refine ji_iadd dL_law_1876 ?_
  refine ji_xld dL_law_1877 (by omega) ?_
  rw [e_v]
  refine ji_aload_n dL_law_1878 rfl trivial ?_
  refine ji_callST dL_law_1879 hJ rfl wL_join sL_join lL_206 rfl (Nat.le_of_ble_eq_true rfl) rfl (by omega) (by omega) (fun r h9 hq => ?_) (fun E h9 hq => ?_)
  · obtain ⟨K9, a9, e1, hK9, ⟨g9, eg, ega⟩, ⟨fs9, e60⟩, hR⟩ := hq
    cases e1
    refine ji_istore dL_law_1882 (by decide) rfl ?_
    refine ji_aload_n dL_law_1884 rfl trivial ?_
    refine ji_aload_n dL_law_1885 rfl trivial ?_
    refine ji_iload dL_law_1886 rfl ?_
    refine ji_iconst dL_law_1888 ?_
    refine ji_iadd dL_law_1889 ?_
    refine ji_xld dL_law_1890 (by omega) ?_
    rw [e_v]
    refine ji_callV dL_law_1891 hR rfl e60 rfl rfl wX8_join vX8_join lL_208 rfl (Nat.le_of_ble_eq_true rfl) rfl (Nat.zero_le _) (Nat.zero_le _) (fun r2 h10 hq => ?_) (fun E h10 hq => ?_)
    · obtain ⟨v2, e3, hv2, e71, hs10⟩ := hq
      cases e3
      obtain ⟨fs10, e610⟩ := st_60 hs10
      refine ji_istore dL_law_1894 (by decide) rfl ?_
      refine ji_aload_n dL_law_1896 rfl trivial ?_
      refine ji_cV dL_law_1897 (st_th hs10) rfl e610 rfl rfl wX8_thrown vX8_thrown lL_116 rfl (Nat.le_of_ble_eq_true rfl) rfl ?_
      refine ji_iload dL_law_1900 rfl ?_
      refine ji_icmp_eq (tgt := 1907) dL_law_1902 rfl (by omega) (by omega) (fun _ => ?_) (fun q => absurd rfl q)
      refine ji_iload dL_law_1907 rfl ?_
      refine ji_if_ne (tgt := 1924) dL_law_1909 rfl (by omega) (fun _ => ?_) (fun q => ?_)
      · refine ji_goto (tgt := 2162) dL_law_1924 rfl ?_
        exact hn _ _ _ _ _ _ _ _ _ (by omega) (by omega) hs10 ⟨g9, e71.trans eg⟩
      · have hK0 : K9 = 0 := by omega
        refine ji_aload_n dL_law_1912 rfl trivial ?_
        refine ji_iconst dL_law_1913 ?_
        refine ji_laload dL_law_1914 (e71.trans eg) (by omega) ?_
        refine ji_iload dL_law_1915 rfl ?_
        refine ji_i2l dL_law_1917 rfl ?_
        refine ji_lcmp dL_law_1918 ?_
        have elc : lg_cmp (g9 (0 : Int).toNat) (jI v2).toInt64 = jI 0 := by rw [show g9 (0 : Int).toNat = (jI a9).toInt64 from ega hK0, hv2 hK0]; exact lgs _
        rw [elc]
        refine ji_if_eq (tgt := 1924) dL_law_1919 rfl (by omega) (fun _ => ?_) (fun q => absurd rfl q)
        refine ji_goto (tgt := 2162) dL_law_1924 rfl ?_
        exact hn _ _ _ _ _ _ _ _ _ (by omega) (by omega) hs10 ⟨g9, e71.trans eg⟩
    · obtain ⟨v2, e3, _⟩ := hq; cases e3
  · obtain ⟨K9, a9, e1, _⟩ := hq; cases e1

theorem lc_undo (hst : ST K b n h) (h71 : ∃ g, h 71 = .inr (.long, 1, .inr (.inl g))) (hb : b + 101 ≤ b' ∧ b' ≤ 800000) (hi : 0 ≤ i ∧ i + 5 ≤ (G.2.2.2.2.2.2.1 : Int) ∧ G.2.2.2.2.2.2.1 ≤ 2560) (hbc : bc' + 6 ≤ bc) (hbs : bs' + 8000 ≤ bs) (hn : LN G b' i bc' bs') : JW G 13 mL_law 1927 (LLo i o5 o6 o7 o8) [] (n, h) bc bs LQ1 := by
  have h0 := sT_0 hst
  obtain ⟨f, I, P, M, H, Y, Z, B, NT, SB, z, kp, nt, nl, bf, rs, rr, rq, rp, mm, ln, lo, lf, lt, co, ro, pg, pf, hsh, eh, hL⟩ := hst
  have hw : WR G mL_undo mX8_undo [] b' n h := by subst eh; exact w_undo (p_undo hL (by omega) ) h0 h71
  obtain ⟨bc2, bs2, c1, c2, hJ⟩ := hw
  refine ji_aload_n dL_law_1927 rfl trivial ?_
  refine ji_aload_n dL_law_1928 rfl trivial ?_
  refine ji_callST dL_law_1929 hJ rfl wL_undo sL_undo lL_209 rfl (Nat.le_of_ble_eq_true rfl) rfl (by omega) (by omega) (fun r h9 hq => ?_) (fun E h9 hq => ?_)
  · obtain ⟨K9, a9, e1, hK9, ⟨g9, eg, ega⟩, ⟨fs9, e60⟩, hR⟩ := hq
    cases e1
    refine ji_istore dL_law_1932 (by decide) rfl ?_
    refine ji_aload_n dL_law_1934 rfl trivial ?_
    refine ji_callV dL_law_1935 hR rfl e60 rfl rfl wX8_undo vX8_undo lL_211 rfl (Nat.le_of_ble_eq_true rfl) rfl (Nat.zero_le _) (Nat.zero_le _) (fun r2 h10 hq => ?_) (fun E h10 hq => ?_)
    · obtain ⟨v2, e3, hv2, e71, hs10⟩ := hq
      cases e3
      obtain ⟨fs10, e610⟩ := st_60 hs10
      refine ji_istore dL_law_1938 (by decide) rfl ?_
      refine ji_aload_n dL_law_1940 rfl trivial ?_
      refine ji_cV dL_law_1941 (st_th hs10) rfl e610 rfl rfl wX8_thrown vX8_thrown lL_116 rfl (Nat.le_of_ble_eq_true rfl) rfl ?_
      refine ji_iload dL_law_1944 rfl ?_
      refine ji_icmp_eq (tgt := 1951) dL_law_1946 rfl (by omega) (by omega) (fun _ => ?_) (fun q => absurd rfl q)
      refine ji_iload dL_law_1951 rfl ?_
      refine ji_if_ne (tgt := 1968) dL_law_1953 rfl (by omega) (fun _ => ?_) (fun q => ?_)
      · refine ji_goto (tgt := 2162) dL_law_1968 rfl ?_
        exact hn _ _ _ _ _ _ _ _ _ (by omega) (by omega) hs10 ⟨g9, e71.trans eg⟩
      · have hK0 : K9 = 0 := by omega
        refine ji_aload_n dL_law_1956 rfl trivial ?_
        refine ji_iconst dL_law_1957 ?_
        refine ji_laload dL_law_1958 (e71.trans eg) (by omega) ?_
        refine ji_iload dL_law_1959 rfl ?_
        refine ji_i2l dL_law_1961 rfl ?_
        refine ji_lcmp dL_law_1962 ?_
        have elc : lg_cmp (g9 (0 : Int).toNat) (jI v2).toInt64 = jI 0 := by rw [show g9 (0 : Int).toNat = (jI a9).toInt64 from ega hK0, hv2 hK0]; exact lgs _
        rw [elc]
        refine ji_if_eq (tgt := 1968) dL_law_1963 rfl (by omega) (fun _ => ?_) (fun q => absurd rfl q)
        refine ji_goto (tgt := 2162) dL_law_1968 rfl ?_
        exact hn _ _ _ _ _ _ _ _ _ (by omega) (by omega) hs10 ⟨g9, e71.trans eg⟩
    · obtain ⟨v2, e3, _⟩ := hq; cases e3
  · obtain ⟨K9, a9, e1, _⟩ := hq; cases e1

theorem lc_ifSize (hst : ST K b n h) (h71 : ∃ g, h 71 = .inr (.long, 1, .inr (.inl g))) (hb : b + 101 ≤ b' ∧ b' ≤ 800000) (hi : 0 ≤ i ∧ i + 5 ≤ (G.2.2.2.2.2.2.1 : Int) ∧ G.2.2.2.2.2.2.1 ≤ 2560) (hbc : bc' + 6 ≤ bc) (hbs : bs' + 8000 ≤ bs) (hn : LN G b' i bc' bs') : JW G 13 mL_law 1971 (LLo i o5 o6 o7 o8) [] (n, h) bc bs LQ1 := by
  have h0 := sT_0 hst
  obtain ⟨f, I, P, M, H, Y, Z, B, NT, SB, z, kp, nt, nl, bf, rs, rr, rq, rp, mm, ln, lo, lf, lt, co, ro, pg, pf, hsh, eh, hL⟩ := hst
  obtain ⟨v, e_v, b_v⟩ := jI_of (G.2.2.2.2.2.2.2 (i + 1).toNat)
  obtain ⟨m, e_m, b_m⟩ := jI_of (G.2.2.2.2.2.2.2 (i + 2).toNat)
  obtain ⟨o, e_o, b_o⟩ := jI_of (G.2.2.2.2.2.2.2 (i + 3).toNat)
  have hw : WR G mL_ifSize mX8_ifSize [.int (jI v), .int (jI m), .int (jI o)] b' n h := by subst eh; exact w_ifSize (p_ifSize hL (by omega) b_v b_m b_o) h0 h71
  obtain ⟨bc2, bs2, c1, c2, hJ⟩ := hw
  refine ji_aload_n dL_law_1971 rfl trivial ?_
  refine ji_aload_n dL_law_1972 rfl trivial ?_
  refine ji_iload dL_law_1973 rfl ?_
  refine ji_iconst dL_law_1975 ?_
  refine ji_iadd dL_law_1976 ?_
  refine ji_xld dL_law_1977 (by omega) ?_
  rw [e_v]
  refine ji_aload_n dL_law_1978 rfl trivial ?_
  refine ji_iload dL_law_1979 rfl ?_
  refine ji_iconst dL_law_1981 ?_
  refine ji_iadd dL_law_1982 ?_
  refine ji_xld dL_law_1983 (by omega) ?_
  rw [e_m]
  refine ji_aload_n dL_law_1984 rfl trivial ?_
  refine ji_iload dL_law_1985 rfl ?_
  refine ji_iconst dL_law_1987 ?_
  refine ji_iadd dL_law_1988 ?_
  refine ji_xld dL_law_1989 (by omega) ?_
  rw [e_o]
  refine ji_aload_n dL_law_1990 rfl trivial ?_
  refine ji_callST dL_law_1991 hJ rfl wL_ifSize sL_ifSize lL_212 rfl (Nat.le_of_ble_eq_true rfl) rfl (by omega) (by omega) (fun r h9 hq => ?_) (fun E h9 hq => ?_)
  · obtain ⟨K9, a9, e1, hK9, ⟨g9, eg, ega⟩, ⟨fs9, e60⟩, hR⟩ := hq
    cases e1
    refine ji_istore dL_law_1994 (by decide) rfl ?_
    refine ji_aload_n dL_law_1996 rfl trivial ?_
    refine ji_aload_n dL_law_1997 rfl trivial ?_
    refine ji_iload dL_law_1998 rfl ?_
    refine ji_iconst dL_law_2000 ?_
    refine ji_iadd dL_law_2001 ?_
    refine ji_xld dL_law_2002 (by omega) ?_
    rw [e_v]
    refine ji_aload_n dL_law_2003 rfl trivial ?_
    refine ji_iload dL_law_2004 rfl ?_
    refine ji_iconst dL_law_2006 ?_
    refine ji_iadd dL_law_2007 ?_
    refine ji_xld dL_law_2008 (by omega) ?_
    rw [e_m]
    refine ji_aload_n dL_law_2009 rfl trivial ?_
    refine ji_iload dL_law_2010 rfl ?_
    refine ji_iconst dL_law_2012 ?_
    refine ji_iadd dL_law_2013 ?_
    refine ji_xld dL_law_2014 (by omega) ?_
    rw [e_o]
    refine ji_callV dL_law_2015 hR rfl e60 rfl rfl wX8_ifSize vX8_ifSize lL_214 rfl (Nat.le_of_ble_eq_true rfl) rfl (Nat.zero_le _) (Nat.zero_le _) (fun r2 h10 hq => ?_) (fun E h10 hq => ?_)
    · obtain ⟨v2, e3, hv2, e71, hs10⟩ := hq
      cases e3
      obtain ⟨fs10, e610⟩ := st_60 hs10
      refine ji_istore dL_law_2018 (by decide) rfl ?_
      refine ji_aload_n dL_law_2020 rfl trivial ?_
      refine ji_cV dL_law_2021 (st_th hs10) rfl e610 rfl rfl wX8_thrown vX8_thrown lL_116 rfl (Nat.le_of_ble_eq_true rfl) rfl ?_
      refine ji_iload dL_law_2024 rfl ?_
      refine ji_icmp_eq (tgt := 2031) dL_law_2026 rfl (by omega) (by omega) (fun _ => ?_) (fun q => absurd rfl q)
      refine ji_iload dL_law_2031 rfl ?_
      refine ji_if_ne (tgt := 2048) dL_law_2033 rfl (by omega) (fun _ => ?_) (fun q => ?_)
      · refine ji_goto (tgt := 2162) dL_law_2048 rfl ?_
        exact hn _ _ _ _ _ _ _ _ _ (by omega) (by omega) hs10 ⟨g9, e71.trans eg⟩
      · have hK0 : K9 = 0 := by omega
        refine ji_aload_n dL_law_2036 rfl trivial ?_
        refine ji_iconst dL_law_2037 ?_
        refine ji_laload dL_law_2038 (e71.trans eg) (by omega) ?_
        refine ji_iload dL_law_2039 rfl ?_
        refine ji_i2l dL_law_2041 rfl ?_
        refine ji_lcmp dL_law_2042 ?_
        have elc : lg_cmp (g9 (0 : Int).toNat) (jI v2).toInt64 = jI 0 := by rw [show g9 (0 : Int).toNat = (jI a9).toInt64 from ega hK0, hv2 hK0]; exact lgs _
        rw [elc]
        refine ji_if_eq (tgt := 2048) dL_law_2043 rfl (by omega) (fun _ => ?_) (fun q => absurd rfl q)
        refine ji_goto (tgt := 2162) dL_law_2048 rfl ?_
        exact hn _ _ _ _ _ _ _ _ _ (by omega) (by omega) hs10 ⟨g9, e71.trans eg⟩
    · obtain ⟨v2, e3, _⟩ := hq; cases e3
  · obtain ⟨K9, a9, e1, _⟩ := hq; cases e1

theorem lc_fit (hst : ST K b n h) (h71 : ∃ g, h 71 = .inr (.long, 1, .inr (.inl g))) (hb : b + 101 ≤ b' ∧ b' ≤ 800000) (hi : 0 ≤ i ∧ i + 5 ≤ (G.2.2.2.2.2.2.1 : Int) ∧ G.2.2.2.2.2.2.1 ≤ 2560) (hbc : bc' + 6 ≤ bc) (hbs : bs' + 8000 ≤ bs) (hn : LN G b' i bc' bs') : JW G 13 mL_law 2051 (LLo i o5 o6 o7 o8) [] (n, h) bc bs LQ1 := by
  have h0 := sT_0 hst
  obtain ⟨f, I, P, M, H, Y, Z, B, NT, SB, z, kp, nt, nl, bf, rs, rr, rq, rp, mm, ln, lo, lf, lt, co, ro, pg, pf, hsh, eh, hL⟩ := hst
  obtain ⟨v, e_v, b_v⟩ := jI_of (G.2.2.2.2.2.2.2 (i + 1).toNat)
  have hw : WR G mL_fit mX8_fit [.int (jI v)] b' n h := by subst eh; exact w_fit (p_fit hL (by omega) b_v) h0 h71
  obtain ⟨bc2, bs2, c1, c2, hJ⟩ := hw
  refine ji_aload_n dL_law_2051 rfl trivial ?_
  refine ji_aload_n dL_law_2052 rfl trivial ?_
  refine ji_iload dL_law_2053 rfl ?_
  refine ji_iconst dL_law_2055 ?_
  refine ji_iadd dL_law_2056 ?_
  refine ji_xld dL_law_2057 (by omega) ?_
  rw [e_v]
  refine ji_aload_n dL_law_2058 rfl trivial ?_
  refine ji_callST dL_law_2059 hJ rfl wL_fit sL_fit lL_215 rfl (Nat.le_of_ble_eq_true rfl) rfl (by omega) (by omega) (fun r h9 hq => ?_) (fun E h9 hq => ?_)
  · obtain ⟨K9, a9, e1, hK9, ⟨g9, eg, ega⟩, ⟨fs9, e60⟩, hR⟩ := hq
    cases e1
    refine ji_istore dL_law_2062 (by decide) rfl ?_
    refine ji_aload_n dL_law_2064 rfl trivial ?_
    refine ji_aload_n dL_law_2065 rfl trivial ?_
    refine ji_iload dL_law_2066 rfl ?_
    refine ji_iconst dL_law_2068 ?_
    refine ji_iadd dL_law_2069 ?_
    refine ji_xld dL_law_2070 (by omega) ?_
    rw [e_v]
    refine ji_callV dL_law_2071 hR rfl e60 rfl rfl wX8_fit vX8_fit lL_217 rfl (Nat.le_of_ble_eq_true rfl) rfl (Nat.zero_le _) (Nat.zero_le _) (fun r2 h10 hq => ?_) (fun E h10 hq => ?_)
    · obtain ⟨v2, e3, hv2, e71, hs10⟩ := hq
      cases e3
      obtain ⟨fs10, e610⟩ := st_60 hs10
      refine ji_istore dL_law_2074 (by decide) rfl ?_
      refine ji_aload_n dL_law_2076 rfl trivial ?_
      refine ji_cV dL_law_2077 (st_th hs10) rfl e610 rfl rfl wX8_thrown vX8_thrown lL_116 rfl (Nat.le_of_ble_eq_true rfl) rfl ?_
      refine ji_iload dL_law_2080 rfl ?_
      refine ji_icmp_eq (tgt := 2087) dL_law_2082 rfl (by omega) (by omega) (fun _ => ?_) (fun q => absurd rfl q)
      refine ji_iload dL_law_2087 rfl ?_
      refine ji_if_ne (tgt := 2104) dL_law_2089 rfl (by omega) (fun _ => ?_) (fun q => ?_)
      · refine ji_goto (tgt := 2162) dL_law_2104 rfl ?_
        exact hn _ _ _ _ _ _ _ _ _ (by omega) (by omega) hs10 ⟨g9, e71.trans eg⟩
      · have hK0 : K9 = 0 := by omega
        refine ji_aload_n dL_law_2092 rfl trivial ?_
        refine ji_iconst dL_law_2093 ?_
        refine ji_laload dL_law_2094 (e71.trans eg) (by omega) ?_
        refine ji_iload dL_law_2095 rfl ?_
        refine ji_i2l dL_law_2097 rfl ?_
        refine ji_lcmp dL_law_2098 ?_
        have elc : lg_cmp (g9 (0 : Int).toNat) (jI v2).toInt64 = jI 0 := by rw [show g9 (0 : Int).toNat = (jI a9).toInt64 from ega hK0, hv2 hK0]; exact lgs _
        rw [elc]
        refine ji_if_eq (tgt := 2104) dL_law_2099 rfl (by omega) (fun _ => ?_) (fun q => absurd rfl q)
        refine ji_goto (tgt := 2162) dL_law_2104 rfl ?_
        exact hn _ _ _ _ _ _ _ _ _ (by omega) (by omega) hs10 ⟨g9, e71.trans eg⟩
    · obtain ⟨v2, e3, _⟩ := hq; cases e3
  · obtain ⟨K9, a9, e1, _⟩ := hq; cases e1

theorem lc_fullness (hst : ST K b n h) (h71 : ∃ g, h 71 = .inr (.long, 1, .inr (.inl g))) (hb : b + 101 ≤ b' ∧ b' ≤ 800000) (hi : 0 ≤ i ∧ i + 5 ≤ (G.2.2.2.2.2.2.1 : Int) ∧ G.2.2.2.2.2.2.1 ≤ 2560) (hbc : bc' + 6 ≤ bc) (hbs : bs' + 8000 ≤ bs) (hn : LN G b' i bc' bs') : JW G 13 mL_law 2107 (LLo i o5 o6 o7 o8) [] (n, h) bc bs LQ1 := by
  have h0 := sT_0 hst
  obtain ⟨f, I, P, M, H, Y, Z, B, NT, SB, z, kp, nt, nl, bf, rs, rr, rq, rp, mm, ln, lo, lf, lt, co, ro, pg, pf, hsh, eh, hL⟩ := hst
  obtain ⟨x, hx, hv⟩ : ∃ x : UInt64, Jvm.FP.Core.dIsNaN x = false ∧ PV G mX7_fullness mX8_fullness (.double x) b' n h := by
    subst eh; exact p_fullness hL (by omega)
  obtain ⟨fs0, h0⟩ := h0
  have ed : Op.cmpValue (FP.dcmp x x) .l = jI 0 := by
    rw [show FP.dcmp x x = some .eq from Jvm.FP.Core.dcmp_self ((Jvm.FP.Core.notNaN_iff x).mp hx)]; rfl
  refine ji_aload_n dL_law_2107 rfl trivial ?_
  refine ji_callV dL_law_2108 hv rfl h0 rfl rfl wX7_fullness vX7_fullness lL_218 rfl (Nat.le_of_ble_eq_true rfl) rfl (Nat.zero_le _) (Nat.zero_le _) (fun r h9 hq => ?_) (fun E h9 hq => ?_)
  · obtain ⟨e1, ⟨fs9, e60⟩, hR⟩ := hq
    cases e1
    refine ji_dstore dL_law_2111 (by decide) rfl ?_
    refine ji_aload_n dL_law_2113 rfl trivial ?_
    refine ji_callV dL_law_2114 hR rfl e60 rfl rfl wX8_fullness vX8_fullness lL_222 rfl (Nat.le_of_ble_eq_true rfl) rfl (Nat.zero_le _) (Nat.zero_le _) (fun r2 h10 hq => ?_) (fun E h10 hq => ?_)
    · obtain ⟨e3, e71, hs10⟩ := hq
      cases e3
      refine ji_dstore dL_law_2117 (by decide) rfl ?_
      refine ji_dload dL_law_2119 rfl ?_
      refine ji_dload dL_law_2121 rfl ?_
      refine ji_dcmp dL_law_2123 ?_
      rw [ed]
      refine ji_if_eq (tgt := 2145) dL_law_2124 rfl (by omega) (fun _ => ?_) (fun q => absurd rfl q)
      refine ji_goto (tgt := 2162) dL_law_2145 rfl ?_
      obtain ⟨g, hg⟩ := h71
      exact hn _ _ _ _ _ _ _ _ _ (by omega) (by omega) hs10 ⟨g, e71.trans hg⟩
    · obtain ⟨e3, _⟩ := hq; cases e3
  · obtain ⟨e1, _⟩ := hq; cases e1

theorem lc_digest (hst : ST K b n h) (h71 : ∃ g, h 71 = .inr (.long, 1, .inr (.inl g))) (hb : b + 101 ≤ b' ∧ b' ≤ 800000) (hi : 0 ≤ i ∧ i + 5 ≤ (G.2.2.2.2.2.2.1 : Int) ∧ G.2.2.2.2.2.2.1 ≤ 2560) (hbc : bc' + 6 ≤ bc) (hbs : bs' + 8000 ≤ bs) (hn : LN G b' i bc' bs') : JW G 13 mL_law 2148 (LLo i o5 o6 o7 o8) [] (n, h) bc bs LQ1 := by
  have h0 := sT_0 hst
  obtain ⟨f, I, P, M, H, Y, Z, B, NT, SB, z, kp, nt, nl, bf, rs, rr, rq, rp, mm, ln, lo, lf, lt, co, ro, pg, pf, hsh, eh, hL⟩ := hst
  obtain ⟨x, hv⟩ : ∃ x : Int64, PV G mX7_digest mX8_digest (.long x) b' n h := by
    subst eh; exact p_digest hL (by omega)
  obtain ⟨fs0, h0⟩ := h0
  refine ji_aload_n dL_law_2148 rfl trivial ?_
  refine ji_callV dL_law_2149 hv rfl h0 rfl rfl wX7_digest vX7_digest lL_223 rfl (Nat.le_of_ble_eq_true rfl) rfl (Nat.zero_le _) (Nat.zero_le _) (fun r h9 hq => ?_) (fun E h9 hq => ?_)
  · obtain ⟨e1, ⟨fs9, e60⟩, hR⟩ := hq
    cases e1
    refine ji_aload_n dL_law_2152 rfl trivial ?_
    refine ji_callV dL_law_2153 hR rfl e60 rfl rfl wX8_digest vX8_digest lL_227 rfl (Nat.le_of_ble_eq_true rfl) rfl (Nat.zero_le _) (Nat.zero_le _) (fun r2 h10 hq => ?_) (fun E h10 hq => ?_)
    · obtain ⟨e3, e71, hs10⟩ := hq
      cases e3
      refine ji_lcmp dL_law_2156 ?_
      rw [lgs]
      refine ji_if_eq (tgt := 2162) dL_law_2157 rfl (by omega) (fun _ => ?_) (fun q => absurd rfl q)
      obtain ⟨g, hg⟩ := h71
      exact hn _ _ _ _ _ _ _ _ _ (by omega) (by omega) hs10 ⟨g, e71.trans hg⟩
    · obtain ⟨e3, _⟩ := hq; cases e3
  · obtain ⟨e1, _⟩ := hq; cases e1

end CASES
