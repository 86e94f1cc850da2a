/-! ===== the law's loop ===== -/
theorem and63 (x : Int32) : ∃ k : Int, x &&& jI 63 = jI k ∧ 0 ≤ k ∧ k ≤ 63 := by
  have h2 : (x &&& jI 63).toBitVec.toNat ≤ 63 := by
    rw [Int32.toBitVec_and, BitVec.toNat_and]
    exact Nat.le_trans Nat.and_le_right (by decide)
  have h3 : (x &&& jI 63).toInt = ((x &&& jI 63).toBitVec.toNat : Int) := BitVec.toInt_eq_toNat_of_lt (by omega)
  exact ⟨(x &&& jI 63).toInt, (Int32.ofInt_toInt _).symm, by omega, by omega⟩
theorem sT_w {K b b' : Int} {n : Nat} {h : Nat → ji_C} (hs : ST K b n h) (hb : b ≤ b' ∧ b' ≤ 800000) : ST K b' n h := by
  obtain ⟨f, I, P, M, H, Y, Z, B, NT, SB, z, kp, nt, nl, bf, rs, rr, rq, rp, mm, ln, lo, lf, lt, co, ro, pg, pf, hsh, eh, hL⟩ := hs
  exact ⟨f, I, P, M, H, Y, Z, B, NT, SB, z, kp, nt, nl, bf, rs, rr, rq, rp, mm, ln, lo, lf, lt, co, ro, pg, pf, hsh, eh, hL.w hb⟩
set_option maxHeartbeats 4000000 in
theorem l_loop {G : ji_G} (hlen : G.2.2.2.2.2.2.1 ≤ 2560) : ∀ (u : Nat) (K b : Int) (n : Nat) (h : Nat → ji_C) (i : Int) (o5 o6 o7 o8 : Option Value) (bc bs : Nat), ST K b n h → (∃ g, h 71 = .inr (.long, 1, .inr (.inl g))) → 0 ≤ i ∧ i ≤ 3000 ∧ (G.2.2.2.2.2.2.1 : Int) - i ≤ 5 * u + 4 → b + 101 * u ≤ 800000 → 6 * u ≤ bc → 8000 * u ≤ bs → JW G 13 mL_law 23 (LLo i o5 o6 o7 o8) [] (n, h) bc bs LQ1 := by
  intro u
  induction u with
  | zero =>
    intro K b n h i o5 o6 o7 o8 bc bs hst h71 hi hb hbc hbs
    refine ji_iload dL_law_23 rfl ?_
    refine ji_aload_n dL_law_25 rfl trivial ?_
    refine ji_xlen dL_law_26 ?_
    refine ji_iconst dL_law_27 ?_
    refine ji_isub dL_law_28 ?_
    refine ji_icmp_gt (tgt := 2168) dL_law_29 rfl (by omega) (by omega) (fun _ => ?_) (fun q => absurd (show i > (G.2.2.2.2.2.2.1 : Int) - 5 by omega) q)
    refine ji_iconst dL_law_2168 ?_
    exact ji_ireturn dL_law_2169 rfl rfl rfl
  | succ u ih =>
    intro K b n h i o5 o6 o7 o8 bc bs hst h71 hi hb hbc hbs
    refine ji_iload dL_law_23 rfl ?_
    refine ji_aload_n dL_law_25 rfl trivial ?_
    refine ji_xlen dL_law_26 ?_
    refine ji_iconst dL_law_27 ?_
    refine ji_isub dL_law_28 ?_
    refine ji_icmp_gt (tgt := 2168) dL_law_29 rfl (by omega) (by omega) (fun _ => ?_) (fun q => ?_)
    · refine ji_iconst dL_law_2168 ?_
      exact ji_ireturn dL_law_2169 rfl rfl rfl
    have hn : LN G (b + 101) i (6 * u) (8000 * u) := by
      intro K n h o5 o6 o7 o8 bc2 bs2 hc hs hst h71
      refine ji_iinc dL_law_2162 (by decide) rfl rfl ?_
      refine ji_goto (tgt := 23) dL_law_2165 rfl ?_
      exact ih K (b + 101) n h (i + 5) o5 o6 o7 o8 bc2 bs2 hst h71 (by omega) (by omega) hc hs
    have hb' : b + 101 ≤ b + 101 ∧ b + 101 ≤ 800000 := by omega
    have hi' : 0 ≤ i ∧ i + 5 ≤ (G.2.2.2.2.2.2.1 : Int) ∧ G.2.2.2.2.2.2.1 ≤ 2560 := by omega
    have hc' : 6 * u + 6 ≤ bc := by omega
    have hs' : 8000 * u + 8000 ≤ bs := by omega
    refine ji_aload_n dL_law_32 rfl trivial ?_
    refine ji_iload dL_law_33 rfl ?_
    refine ji_xld dL_law_35 (by omega) ?_
    refine ji_bipush dL_law_36 rfl ?_
    refine ji_iop dL_law_38 (Or.inl ⟨rfl, rfl⟩) ?_
    obtain ⟨k, ek, k0, k63⟩ := and63 (G.2.2.2.2.2.2.2 i.toNat)
    rw [ek]
    by_cases c : 33 ≤ k
    · refine ji_tswD (tgt := 2162) dL_law_39 (by omega) (Or.inr (by omega)) rfl ?_
      exact hn K n h _ _ _ _ _ _ (by omega) (by omega) (sT_w hst (by omega)) h71
    have hk : k = 0 ∨ k = 1 ∨ k = 2 ∨ k = 3 ∨ k = 4 ∨ k = 5 ∨ k = 6 ∨ k = 7 ∨ k = 8 ∨ k = 9 ∨ k = 10 ∨ k = 11 ∨ k = 12 ∨ k = 13 ∨ k = 14 ∨ k = 15 ∨ k = 16 ∨ k = 17 ∨ k = 18 ∨ k = 19 ∨ k = 20 ∨ k = 21 ∨ k = 22 ∨ k = 23 ∨ k = 24 ∨ k = 25 ∨ k = 26 ∨ k = 27 ∨ k = 28 ∨ k = 29 ∨ k = 30 ∨ k = 31 ∨ k = 32 := by omega
    rcases hk with rfl | rfl | rfl | rfl | rfl | rfl | rfl | rfl | rfl | rfl | rfl | rfl | rfl | rfl | rfl | rfl | rfl | rfl | rfl | rfl | rfl | rfl | rfl | rfl | rfl | rfl | rfl | rfl | rfl | rfl | rfl | rfl | rfl
    · exact ji_tsw (tgt := 184) dL_law_39 (by omega) (by omega) rfl rfl (lc_append hst h71 hb' hi' hc' hs' hn)
    · exact ji_tsw (tgt := 240) dL_law_39 (by omega) (by omega) rfl rfl (lc_clearInput hst h71 hb' hi' hc' hs' hn)
    · exact ji_tsw (tgt := 253) dL_law_39 (by omega) (by omega) rfl rfl (lc_firstError hst h71 hb' hi' hc' hs' hn)
    · exact ji_tsw (tgt := 294) dL_law_39 (by omega) (by omega) rfl rfl (lc_load hst h71 hb' hi' hc' hs' hn)
    · exact ji_tsw (tgt := 338) dL_law_39 (by omega) (by omega) rfl rfl (lc_setNote hst h71 hb' hi' hc' hs' hn)
    · exact ji_tsw (tgt := 394) dL_law_39 (by omega) (by omega) rfl rfl (lc_removeNote hst h71 hb' hi' hc' hs' hn)
    · exact ji_tsw (tgt := 450) dL_law_39 (by omega) (by omega) rfl rfl (lc_setSize hst h71 hb' hi' hc' hs' hn)
    · exact ji_tsw (tgt := 518) dL_law_39 (by omega) (by omega) rfl rfl (lc_setStyle hst h71 hb' hi' hc' hs' hn)
    · exact ji_tsw (tgt := 586) dL_law_39 (by omega) (by omega) rfl rfl (lc_page hst h71 hb' hi' hc' hs' hn)
    · exact ji_tsw (tgt := 654) dL_law_39 (by omega) (by omega) rfl rfl (lc_line hst h71 hb' hi' hc' hs' hn)
    · exact ji_tsw (tgt := 722) dL_law_39 (by omega) (by omega) rfl rfl (lc_shown hst h71 hb' hi' hc' hs' hn)
    · exact ji_tsw (tgt := 802) dL_law_39 (by omega) (by omega) rfl rfl (lc_noteOn hst h71 hb' hi' hc' hs' hn)
    · exact ji_tsw (tgt := 870) dL_law_39 (by omega) (by omega) rfl rfl (lc_pageOf hst h71 hb' hi' hc' hs' hn)
    · exact ji_tsw (tgt := 938) dL_law_39 (by omega) (by omega) rfl rfl (lc_floating hst h71 hb' hi' hc' hs' hn)
    · exact ji_tsw (tgt := 1022) dL_law_39 (by omega) (by omega) rfl rfl (lc_go hst h71 hb' hi' hc' hs' hn)
    · exact ji_tsw (tgt := 1090) dL_law_39 (by omega) (by omega) rfl rfl (lc_turn hst h71 hb' hi' hc' hs' hn)
    · exact ji_tsw (tgt := 1131) dL_law_39 (by omega) (by omega) rfl rfl (lc_back hst h71 hb' hi' hc' hs' hn)
    · exact ji_tsw (tgt := 1175) dL_law_39 (by omega) (by omega) rfl rfl (lc_find hst h71 hb' hi' hc' hs' hn)
    · exact ji_tsw (tgt := 1247) dL_law_39 (by omega) (by omega) rfl rfl (lc_count hst h71 hb' hi' hc' hs' hn)
    · exact ji_tsw (tgt := 1303) dL_law_39 (by omega) (by omega) rfl rfl (lc_paragraph hst h71 hb' hi' hc' hs' hn)
    · exact ji_tsw (tgt := 1371) dL_law_39 (by omega) (by omega) rfl rfl (lc_letter hst h71 hb' hi' hc' hs' hn)
    · exact ji_tsw (tgt := 1439) dL_law_39 (by omega) (by omega) rfl rfl (lc_annotate hst h71 hb' hi' hc' hs' hn)
    · exact ji_tsw (tgt := 1531) dL_law_39 (by omega) (by omega) rfl rfl (lc_annotation hst h71 hb' hi' hc' hs' hn)
    · exact ji_tsw (tgt := 1599) dL_law_39 (by omega) (by omega) rfl rfl (lc_removeAnnotation hst h71 hb' hi' hc' hs' hn)
    · exact ji_tsw (tgt := 1655) dL_law_39 (by omega) (by omega) rfl rfl (lc_insert hst h71 hb' hi' hc' hs' hn)
    · exact ji_tsw (tgt := 1723) dL_law_39 (by omega) (by omega) rfl rfl (lc_delete hst h71 hb' hi' hc' hs' hn)
    · exact ji_tsw (tgt := 1803) dL_law_39 (by omega) (by omega) rfl rfl (lc_split hst h71 hb' hi' hc' hs' hn)
    · exact ji_tsw (tgt := 1871) dL_law_39 (by omega) (by omega) rfl rfl (lc_join hst h71 hb' hi' hc' hs' hn)
    · exact ji_tsw (tgt := 1927) dL_law_39 (by omega) (by omega) rfl rfl (lc_undo hst h71 hb' hi' hc' hs' hn)
    · exact ji_tsw (tgt := 1971) dL_law_39 (by omega) (by omega) rfl rfl (lc_ifSize hst h71 hb' hi' hc' hs' hn)
    · exact ji_tsw (tgt := 2051) dL_law_39 (by omega) (by omega) rfl rfl (lc_fit hst h71 hb' hi' hc' hs' hn)
    · exact ji_tsw (tgt := 2107) dL_law_39 (by omega) (by omega) rfl rfl (lc_fullness hst h71 hb' hi' hc' hs' hn)
    · exact ji_tsw (tgt := 2148) dL_law_39 (by omega) (by omega) rfl rfl (lc_digest hst h71 hb' hi' hc' hs' hn)
