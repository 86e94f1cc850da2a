/-! ===== both sides, call by call: load, notes, undo, ifSize, fit ===== -/
section PAIRS
variable {G : ji_G} {n n2 : Nat} {f g : Nat → ji_C} {I : in_T} {P : pg_T} {M M' : mk_T} {H H' : hi_T} {Y Z : ly_T} {B B' : bk_T} {NT : nt_T} {SB SB' : Nat → bk_T}
variable {th rs rr rq rp mm ln co ro pg : Int} {z kp nt nl bf lo lf lt pf z' kp' : Nat → Int} {hsh : Int64} {b b' : Int}
/-- another book -/
theorem LK.bok (hL : LK b n f I P M H Y Z B NT SB z kp nt nl bf) (hb : b ≤ b' ∧ b' ≤ 800000) {b2 : Nat} (hk : ji_keep (n, f) (n2, g)) (hat : bk_at (n2, g) b2 B') (hS : SV B' z' M') (hM : mk_ok b' M') (hH : hi_ok n2 g H' SB') (hR : HR H' SB' kp') (hHm : ∀ i, mk_ok b' (H'.2.2.2 i)) : LK b' n2 g I (P.1, P.2.1, P.2.2.1, P.2.2.2.1, b2, 1) M' H' Y Z B' NT SB' z' kp' nt nl bf := by
  obtain ⟨hc, a2, a3, a4, a5, a6, a7, a8, a9, a10⟩ := hL.w hb
  obtain ⟨c1, c2, c3, c4, c5, c6, c7, c8, c9, c10, c11, c12⟩ := cl_ok_f hc hk
  exact ⟨⟨c1, c2, c3, c4, c5, ⟨hat, rb_ok hS.1 hS.2.1⟩, Or.inr rfl, mo_w hM (by omega), hH, c10, c11, fun q => absurd (show (1 : Int) = 0 from q) (by omega)⟩, hS, ⟨ntr_z a3.1, a3.2⟩, a4, a5, a6, hR, ⟨hM, hHm⟩, a9, a10⟩
theorem hio_f (h : hi_ok n f H SB) (hk : ji_keep (n, f) (n2, g)) : hi_ok n2 g H SB := by
  obtain ⟨h1, h2, h3, h4⟩ := h
  exact ⟨h1, h2, h3, fun i hi => by
    obtain ⟨b, r1, r2, r3⟩ := h4 i hi
    exact ⟨b, r1, r2.kept hk, r3⟩⟩
theorem hio_k0 {bk : Nat} (h : hi_ok n f H SB) (h4' : H.1 < 4) (hb : bk_at (n, f) bk B) (hB : bk_ok B ∧ bk_ne B) : hi_ok n f (hi_k0 H M bk) (va_up SB H.1.toNat B) := by
  obtain ⟨h1, h2, h3, h4⟩ := h
  refine ⟨by show 0 ≤ H.1 + 1 ∧ H.1 + 1 ≤ 4; omega, h2, h3, fun i hi => ?_⟩
  have hi' : (i : Int) < H.1 + 1 := hi
  show ∃ b, va_up H.2.1 H.1.toNat (some bk) i = some b ∧ bk_at (n, f) b (va_up SB H.1.toNat B i) ∧ bk_ok (va_up SB H.1.toNat B i) ∧ bk_ne (va_up SB H.1.toNat B i)
  by_cases c : i = H.1.toNat
  · rw [c, va_up_self, va_up_self]; exact ⟨bk, rfl, hb, hB⟩
  · rw [va_up_ne _ _ c, va_up_ne _ _ c]; exact h4 i (by omega)
theorem hio_k {bk : Nat} (h : hi_ok n f H SB) (hb : bk_at (n, f) bk B) (hB : bk_ok B ∧ bk_ne B) : hi_ok n f (hi_k H M bk) (hi_SB H SB B) := by
  unfold hi_k hi_SB
  by_cases c : H.1 < 4
  · rw [if_pos c, if_pos c]; exact hio_k0 h c hb hB
  · rw [if_neg c, if_neg c]
    obtain ⟨h1, h2, h3, h4⟩ := h
    have hf : hi_ok n f (hi_fo H) (fun i => if i < 3 then SB (i + 1) else B) := by
      refine ⟨by show (0 : Int) ≤ 3 ∧ (3 : Int) ≤ 4; omega, fun i hi => ?_, fun i j hi hj q => ?_, fun i hi => ?_⟩
      · show (if i < 3 then H.2.2.1 (i + 1) else if i = 3 then H.2.2.1 0 else H.2.2.1 i) < 4
        by_cases d : i < 3
        · rw [if_pos d]; exact h2 _ (by omega)
        · rw [if_neg d, if_pos (by omega)]; exact h2 _ (by omega)
      · have q' : (if i < 3 then H.2.2.1 (i + 1) else if i = 3 then H.2.2.1 0 else H.2.2.1 i) = (if j < 3 then H.2.2.1 (j + 1) else if j = 3 then H.2.2.1 0 else H.2.2.1 j) := q
        by_cases c1 : i < 3
        · rw [if_pos c1] at q'
          by_cases c2 : j < 3
          · rw [if_pos c2] at q'
            have := h3 (i + 1) (j + 1) (by omega) (by omega) q'; omega
          · rw [if_neg c2, if_pos (by omega)] at q'
            have := h3 (i + 1) 0 (by omega) (by omega) q'; omega
        · rw [if_neg c1, if_pos (by omega)] at q'
          by_cases c2 : j < 3
          · rw [if_pos c2] at q'
            have := h3 0 (j + 1) (by omega) (by omega) q'; omega
          · omega
      · have hi' : (i : Int) < 3 := hi
        show ∃ b, (if i < 3 then H.2.1 (i + 1) else H.2.1 i) = some b ∧ bk_at (n, f) b (if i < 3 then SB (i + 1) else B) ∧ bk_ok (if i < 3 then SB (i + 1) else B) ∧ bk_ne (if i < 3 then SB (i + 1) else B)
        rw [if_pos (by omega), if_pos (by omega)]; exact h4 (i + 1) (by omega)
    have := hio_k0 (M := M) (bk := bk) hf (show (3 : Int) < 4 by omega) hb hB
    have e : va_up (fun i => if i < 3 then SB (i + 1) else B) (hi_fo H).1.toNat B = fun i => if i < 3 then SB (i + 1) else B := by
      funext i
      show va_up (fun i => if i < 3 then SB (i + 1) else B) 3 B i = _
      by_cases d : i = 3
      · rw [d, va_up_self, if_neg (by omega)]
      · rw [va_up_ne _ _ d]
    rw [e] at this; exact this
theorem mo_hk {bk : Nat} (h : ∀ i, mk_ok b (H.2.2.2 i)) (hM : mk_ok b M) (i : Nat) : mk_ok b ((hi_k H M bk).2.2.2 i) := by
  have k0 : ∀ (H : hi_T), (∀ i, mk_ok b (H.2.2.2 i)) → ∀ i, mk_ok b ((hi_k0 H M bk).2.2.2 i) := fun H h i => by
    show mk_ok b (va_up H.2.2.2 (H.2.2.1 H.1.toNat) (mk_cp (H.2.2.2 (H.2.2.1 H.1.toNat)) M) i)
    by_cases c : i = H.2.2.1 H.1.toNat
    · rw [c, va_up_self]; exact mo_cp hM (h _)
    · rw [va_up_ne _ _ c]; exact h i
  unfold hi_k
  split
  · exact k0 H h i
  · exact k0 (hi_fo H) h i
/-- another book by an edit: the old one is kept -/
theorem LK.edi (hL : LK b n f I P M H Y Z B NT SB z kp nt nl bf) (hb : b ≤ b' ∧ b' ≤ 800000) {b2 : Nat} (hk : ji_keep (n, f) (n2, g)) (hat : bk_at (n2, g) b2 B') (hS : SV B' z' M') (hM : mk_ok b' M') : LK b' n2 g I (P.1, P.2.1, P.2.2.1, P.2.2.2.1, b2, 1) M' (hi_k H M P.2.2.2.2.1) Y Z B' NT (hi_SB H SB B) z' (rf_KP z kp H.1) nt nl bf ∧ (hi_k H M P.2.2.2.2.1).1 = rf_KE H.1 := by
  have hw := hL.w hb
  have h9 := hL.1.2.2.2.2.2.2.2.2.1
  obtain ⟨k1, k2⟩ := hr_k hL.2.2.2.2.2.2.1 h9.1 h9.2.2.1 hL.2.1 P.2.2.2.2.1
  exact ⟨hL.bok hb hk hat hS hM (hio_f (hio_k h9 hL.1.2.2.2.2.2.1.1 hL.1.2.2.2.2.2.1.2) hk) k1 (mo_hk hw.2.2.2.2.2.2.2.1.2 hw.2.2.2.2.2.2.2.1.1), k2⟩
theorem p_undo (hL : LK b n f I P M H Y Z B NT SB z kp nt nl bf) (hb : b ≤ b' ∧ b' ≤ 800000) : PR G 11 mX7_undo mX8_undo [] [eS] b' n (cl_f (rf_f f th z kp H.1 nt nl P.2.2.1 P.2.2.2.1 P.2.1 I.1 bf rs rr rq rp mm ln lo lf lt co ro pg pf hsh) I P M H Y Z) := by
  have hw := hL.w hb
  obtain ⟨h1, h2, h3, h4⟩ := hL.1.2.2.2.2.2.2.2.2.1
  by_cases c : H.1 = 0
  · exact pr_x (i := 0) rfl rfl (x_undo hL.ok c) (fun f' => r_undo1 c) hw
  · obtain ⟨b2, r1, r2, r3⟩ := h4 (H.1 - 1).toNat (by omega)
    have hS := hr_u (M := M) hL.2.2.2.2.2.2.1 (by omega) hL.2.1.2.2.1
    refine pr_1 hL.1.1 (k_undo hL.ok (by omega) r1) (fun f' => r_undo (by omega)) (hL.bok (H' := (H.1 - 1, H.2)) (SB' := SB) (kp' := kp) hb (ji_keep.refl _) r2 hS (mo_cp (hw.2.2.2.2.2.2.2.1.2 _) hw.2.2.2.2.2.2.2.1.1) ⟨by show 0 ≤ H.1 - 1 ∧ H.1 - 1 ≤ 4; omega, h2, h3, fun i hi => h4 i (by have hi' : (i : Int) < H.1 - 1 := hi; omega)⟩ (fun i hi => hL.2.2.2.2.2.2.1 i (by have hi' : (i : Int) < H.1 - 1 := hi; omega)) hw.2.2.2.2.2.2.2.1.2)
theorem p_load (hL : LK b n f I P M H Y Z B NT SB z kp nt nl bf) (hb : b ≤ b' ∧ b' ≤ 800000) : PR G 11 mX7_load mX8_load [] [eS] b' n (cl_f (rf_f f th z kp H.1 nt nl P.2.2.1 P.2.2.2.1 P.2.1 I.1 bf rs rr rq rp mm ln lo lf lt co ro pg pf hsh) I P M H Y Z) := by
  have hw := (ff_eq (b := 1) (Or.inr rfl) hL.1.2.1.1.1 hL.2.2.2.2.1).2
  rcases in_whole_b I.1 I.2.1 1 with c | c
  · exact pr_x (i := 0) rfl rfl (x_load hL.ok c) (fun f' => r_load1 hL.1.2.1.1 hL.2.2.2.2.2.1 (hw.symm.trans c)) ((hL.w hb).iw (v := 1))
  · obtain ⟨k1, k2, k3⟩ := load_rb hL.1.2.1.1 c hL.1.2.1.2 hL.2.2.2.2.1 z
    have hz := zx_lb hL.2.1.2.2.1 hL.2.2.2.2.2.1 I.1.toNat (by have := hL.1.2.1.1; omega) (k3 _ (by have := hL.1.2.1.1; omega))
    have hS : SV (tb_B I.1 I.2.1) (rf_lb (rf_lb0 z) bf I.1.toNat) (0, 0, 0, M.2.2.2) := ⟨k1, k2, hz.1, mr_0 k1 hz.2 _⟩
    have hbs : bk_P (tb_B I.1 I.2.1) = (in_tm I.2.1 124 I.1.toNat + 1).toNat ∧ bk_m (tb_B I.1 I.2.1) = (tb_z I.2.1 I.1.toNat).toNat ∧ bk_n (tb_B I.1 I.2.1) = wd_cnt (tb_X I.2.1 I.1.toNat) (tb_z I.2.1 I.1.toNat).toNat + 1 := ⟨rfl, rfl, rfl⟩
    have hP := k1.2.2.1
    have hm := rb_m k1
    have hn9 : bk_n (tb_B I.1 I.2.1) ≤ 3601 := by
      have := k1.1.1
      have h2 := wd_cnt_b (bk_tx (tb_B I.1 I.2.1)) (bk_m (tb_B I.1 I.2.1))
      omega
    have hMw := hL.w hb
    have h9 := hMw.2.2.2.2.2.2.2.2.1
    refine pr_m (B' := tb_B I.1 I.2.1) (NT' := NT) (SB' := SB) (P' := P) (P9 := fun b2 => (P.1, P.2.1, P.2.2.1, P.2.2.2.1, b2, 1)) (p9 := fun b2 g => bk_at (n + 6, g) b2 (tb_B I.1 I.2.1)) hL.1.1 (by omega) (by omega) (k_load hL.ok c (rb_ok k1 k2).1) (fun _ => ⟨rfl, rfl, rfl⟩) (fun f' => jr_e (r_load hL.1.2.1.1 hL.2.2.2.2.2.1 (hw.symm.trans c) k3) hP.2.symm) (fun g b2 hk hat => ?_)
    refine (hL.bok (H' := (0, H.2)) (SB' := SB) (kp' := kp) hb hk hat hS ?_ ?_ (fun i hi => absurd (show (i : Int) < 0 from hi) (by omega)) hMw.2.2.2.2.2.2.2.1.2).z0
    · obtain ⟨a1, a2, a3, a4, a5, a6⟩ := hMw.2.2.2.2.2.2.2.1.1
      exact ⟨by show -b' ≤ (0 : Int) ∧ (0 : Int) ≤ b'; omega, by show (0 : Int) ≤ 0 ∧ (0 : Int) ≤ 5; omega, by show (0 : Int) ≤ 0 ∧ (0 : Int) ≤ 12; omega, a4, a5, a6⟩
    · obtain ⟨h1, h2, h3, h4⟩ := hL.1.2.2.2.2.2.2.2.2.1
      exact ⟨by show (0 : Int) ≤ 0 ∧ (0 : Int) ≤ 4; omega, h2, h3, fun i hi => absurd (show (i : Int) < 0 from hi) (by omega)⟩
theorem p_setNote (hL : LK b n f I P M H Y Z B NT SB z kp nt nl bf) (hb : b ≤ b' ∧ b' ≤ 800000) {v : Int} (b_v : -2147483648 ≤ v ∧ v < 2147483648) : PR G 11 mX7_setNote mX8_setNote [.int (jI v)] [eI, eS] b' n (cl_f (rf_f f th z kp H.1 nt nl P.2.2.1 P.2.2.2.1 P.2.1 I.1 bf rs rr rq rp mm ln lo lf lt co ro pg pf hsh) I P M H Y Z) := by
  have hw := (ff_eq (b := 0) (Or.inl rfl) hL.1.2.1.1.1 hL.2.2.2.2.1).2
  by_cases c1 : v < 0 ∨ 10 ≤ v
  · exact pr_x (i := 0) rfl rfl (x_setNote1 hL.ok b_v c1) (fun f' => r_setNote1 b_v c1) (hL.w hb)
  rcases in_whole_b I.1 I.2.1 0 with c | c
  · exact pr_x (i := 1) rfl rfl (x_setNote2 hL.ok (by omega) c) (fun f' => r_setNote2 hL.1.2.1.1 hL.2.2.2.2.2.1 (by omega) (hw.symm.trans c)) ((hL.w hb).iw (v := 0))
  · obtain ⟨v9, rfl⟩ : ∃ k : Nat, v = k := ⟨v.toNat, by omega⟩
    have h0 := hL.1.2.1.1
    obtain ⟨t1, t2, t3⟩ := nt_tw (k := (v9 : Int)) h0 (by omega) c
    refine pr_m (B' := B) (NT' := va_up NT v9 (some ((2 + I.1 + 0).toNat, wd_cnt (in_nt I.1 I.2.1 v9) (2 + I.1 + 0).toNat + 1, in_nt I.1 I.2.1 v9, wd_starts (2 + I.1 + 0).toNat (in_nt I.1 I.2.1 v9)))) (SB' := SB) (P' := P) (P9 := fun w2 => (va_up P.1 (v9 : Int).toNat (some w2), P.2.1, P.2.2.1, P.2.2.2.1, P.2.2.2.2.1, 1)) (p9 := fun w2 g => wd_at (n + 3, g) w2 (2 + I.1 + 0).toNat (wd_cnt (in_nt I.1 I.2.1 v9) (2 + I.1 + 0).toNat + 1) (in_nt I.1 I.2.1 v9) (wd_starts (2 + I.1 + 0).toNat (in_nt I.1 I.2.1 v9))) hL.1.1 (by omega) (by omega) (k_setNote hL.ok (by omega) c) (fun _ => ⟨rfl, rfl, rfl⟩) (fun f' => jr_e (r_setNote h0 hL.2.2.2.2.2.1 hL.2.2.1.2 (by omega) (hw.symm.trans c)) (by rw [Int.toNat_natCast]; exact nw_eq hL.2.2.1.1 (by omega))) (fun g w2 hk hat => ?_)
    obtain ⟨hc, a2, a3, a4, a5, a6, a7, a8, a9, a10⟩ := hL.w hb
    obtain ⟨c1', c2, ⟨c3, c3'⟩, c4, c5, c6, c7, c8, c9, c10, c11, c12⟩ := cl_ok_f hc hk
    have hN := ntr_set a3.1 a3.2 h0 c a5 (k := v9) (by omega)
    have hn := nl_sn a3.2 a6 (k := v9) h0
    rw [Int.toNat_natCast]
    refine LK.z0 (I := I) ⟨⟨c1', c2, ⟨fun k hk9 => ?_, fun k m nn tx s q => ?_⟩, c4, c5, c6, Or.inr rfl, c8, c9, c10, c11, fun q => absurd (show (1 : Int) = 0 from q) (by omega)⟩, a2, ⟨hN, hn⟩, a4, a5, a6, a7, a8, a9, a10⟩
    · by_cases e : k = v9
      · refine Or.inr ⟨w2, _, _, _, _, by show va_up P.1 v9 (some w2) k = _; rw [e, va_up_self], by rw [e, va_up_self], hat, by omega, by omega, fun j => ?_, fun j => in_nt_b hL.1.2.1 (by omega) j⟩
        have := wd_starts_b (2 + I.1 + 0).toNat (in_nt I.1 I.2.1 v9) j
        omega
      · rcases c3 k hk9 with r | ⟨a, m, nn, tx, s, r1, r2, r3⟩
        · exact Or.inl ⟨by show va_up P.1 v9 (some w2) k = _; rw [va_up_ne _ _ e]; exact r.1, by rw [va_up_ne _ _ e]; exact r.2⟩
        · exact Or.inr ⟨a, m, nn, tx, s, by show va_up P.1 v9 (some w2) k = _; rw [va_up_ne _ _ e]; exact r1, by rw [va_up_ne _ _ e]; exact r2, r3⟩
    · by_cases e : k = v9
      · rw [e, va_up_self] at q
        cases q
        exact t2
      · rw [va_up_ne _ _ e] at q; exact c3' k m nn tx s q
theorem p_removeNote (hL : LK b n f I P M H Y Z B NT SB z kp nt nl bf) (hb : b ≤ b' ∧ b' ≤ 800000) {v : Int} (b_v : -2147483648 ≤ v ∧ v < 2147483648) : PR G 11 mX7_removeNote mX8_removeNote [.int (jI v)] [eI, eS] b' n (cl_f (rf_f f th z kp H.1 nt nl P.2.2.1 P.2.2.2.1 P.2.1 I.1 bf rs rr rq rp mm ln lo lf lt co ro pg pf hsh) I P M H Y Z) := by
  by_cases c1 : v < 0 ∨ 10 ≤ v
  · exact pr_x (i := 0) rfl rfl (x_removeNote1 hL.ok b_v c1) (fun f' => r_removeNote1 b_v c1) (hL.w hb)
  obtain ⟨v9, rfl⟩ : ∃ k : Nat, v = k := ⟨v.toNat, by omega⟩
  have hn := hL.2.2.1.1 v9 (by omega)
  have hm := hL.1.2.2.1.1 v9 (by omega)
  rcases hm with ⟨m1, m2⟩ | ⟨a, m, nn, tx, s, m1, m2, m3, m4⟩
  · rcases hn with ⟨_, n2⟩ | ⟨m', tx', n1, _⟩
    · exact pr_x (i := 1) rfl rfl (x_removeNote2 hL.ok (by omega) (by rw [Int.toNat_natCast]; exact m1)) (fun f' => r_removeNote2 hL.2.2.1.2 (by omega) (by rw [Int.toNat_natCast]; exact n2)) (hL.w hb)
    · rw [m2] at n1; cases n1
  · rcases hn with ⟨n1, _⟩ | ⟨m', tx', n1, n2, n3, _⟩
    · rw [m2] at n1; cases n1
    · refine pr_1 hL.1.1 (k_removeNote hL.ok (by omega) (a := a) (by rw [Int.toNat_natCast]; exact m1)) (fun f' => jr_e (r_removeNote hL.2.2.1.2 (by omega) (by rw [Int.toNat_natCast]; omega)) (by rw [Int.toNat_natCast]; exact nw_eq hL.2.2.1.1 (by omega))) (?_ : LK b' n f I (va_up P.1 (v9 : Int).toNat none, P.2.1, P.2.2.1, P.2.2.2.1, P.2.2.2.2.1, 1) M H Y Z B (va_up NT v9 none) SB z kp nt (va_up nl (v9 : Int).toNat 0) bf)
      obtain ⟨hc, a2, a3, a4, a5, a6, a7, a8, a9, a10⟩ := hL.w hb
      obtain ⟨c1', c2, ⟨c3, c3'⟩, c4, c5, c6, c7, c8, c9, c10, c11, c12⟩ := hc
      rw [Int.toNat_natCast]
      refine ⟨⟨c1', c2, ⟨fun k hk9 => ?_, fun k m nn tx s q => ?_⟩, c4, c5, c6, Or.inr rfl, c8, c9, c10, c11, fun q => absurd (show (1 : Int) = 0 from q) (by omega)⟩, a2, ⟨ntr_rem a3.1, ?_, a3.2.2⟩, a4, a5, a6, a7, a8, a9, a10⟩
      · by_cases e : k = v9
        · exact Or.inl ⟨by show va_up P.1 v9 none k = _; rw [e, va_up_self], by rw [e, va_up_self]⟩
        · rcases c3 k hk9 with r | ⟨a, m, nn, tx, s, r1, r2, r3⟩
          · exact Or.inl ⟨by show va_up P.1 v9 none k = _; rw [va_up_ne _ _ e]; exact r.1, by rw [va_up_ne _ _ e]; exact r.2⟩
          · exact Or.inr ⟨a, m, nn, tx, s, by show va_up P.1 v9 none k = _; rw [va_up_ne _ _ e]; exact r1, by rw [va_up_ne _ _ e]; exact r2, r3⟩
      · by_cases e : k = v9
        · rw [e, va_up_self] at q; cases q
        · rw [va_up_ne _ _ e] at q; exact c3' k m nn tx s q
      · intro j
        by_cases e : j = v9
        · rw [e, va_up_self]; omega
        · rw [va_up_ne _ _ e]; exact a3.2.1 j
theorem p_ifSize (hL : LK b n f I P M H Y Z B NT SB z kp nt nl bf) (hb : b ≤ b' ∧ b' ≤ 800000) {v m o : Int} (b_v : -2147483648 ≤ v ∧ v < 2147483648) (b_m : -2147483648 ≤ m ∧ m < 2147483648) (b_o : -2147483648 ≤ o ∧ o < 2147483648) : PR G 11 mX7_ifSize mX8_ifSize [.int (jI v), .int (jI m), .int (jI o)] [eA] b' n (cl_f (rf_f f th z kp H.1 nt nl P.2.2.1 P.2.2.2.1 P.2.1 I.1 bf rs rr rq rp mm ln lo lf lt co ro pg pf hsh) I P M H Y Z) := by
  have hw := hL.w hb
  by_cases c1 : (18 ≤ v ∧ v ≤ 60) ∧ 2 ≤ m ∧ m ≤ 20
  · by_cases c2 : o < 0 ∨ 3 ≤ o
    · exact pr_x (i := 0) rfl rfl (x_ifSize2 hL.ok b_v b_m b_o c1 c2) (fun f' => r_ifSize1 b_v b_m b_o (by omega)) hw
    · obtain ⟨l9, p9, e1, e2, e3, e4⟩ := lay_all hL.2.1.1 hL.2.2.1.1 hL.2.2.2.1 P.2.2.2.2.1 v m Z.2.2.2.2.2 lo lf lt pf
      refine pr_1 hL.1.1 (k_ifSize hL.ok b_v b_m c1 (by omega)) (fun f' => jr_e (r_ifSize hL.rf c1 (by omega)) ?_) ⟨cl_okZ hw.1 v m, hw.2⟩
      have this := if_eq hL.2.1.1 hL.2.1.2.2.2 e4 o
      rw [← e1, ← e3] at this
      exact this
  · exact pr_x (i := 0) rfl rfl (x_ifSize1 hL.ok b_v b_m c1) (fun f' => r_ifSize1 b_v b_m b_o (by omega)) hw
theorem p_fit (hL : LK b n f I P M H Y Z B NT SB z kp nt nl bf) (hb : b ≤ b' ∧ b' ≤ 800000) {v : Int} (b_v : -2147483648 ≤ v ∧ v < 2147483648) : PR G 11 mX7_fit mX8_fit [.int (jI v)] [eA] b' n (cl_f (rf_f f th z kp H.1 nt nl P.2.2.1 P.2.2.2.1 P.2.1 I.1 bf rs rr rq rp mm ln lo lf lt co ro pg pf hsh) I P M H Y Z) := by
  have hw := hL.w hb
  by_cases c1 : v < 1
  · exact pr_x (i := 0) rfl rfl (x_fit hL.ok b_v c1) (fun f' => r_fit1 b_v c1) hw
  · have hL2 : LK b' n f I P M H Y (cl_ft B P NT v 43 18 Z).2 B NT SB z kp nt nl bf := ⟨cl_okF v 43 18 Z hw.1, hw.2⟩
    have eq := ft_eq hL.2.1.1 hL.2.2.1.1 hL.2.2.2.1 v 43 18 Z
    refine ⟨0, 0, by omega, by omega, (k_fit (d := 6) hL.ok b_v (by omega)).mono fun r h9 hq => ?_⟩
    obtain ⟨e1, e2⟩ := hq
    subst e2
    refine ⟨0, (cl_ft B P NT v 43 18 Z).1, Or.inl ⟨e1, rfl⟩, ?_, ?_, fun c => ?_⟩
    · have a1 : cl_f (rf_f f th z kp H.1 nt nl P.2.2.1 P.2.2.2.1 P.2.1 I.1 bf rs rr rq rp mm ln lo lf lt co ro pg pf hsh) I P M H Y (cl_ft B P NT v 43 18 Z).2 71 = rf_f f th z kp H.1 nt nl P.2.2.1 P.2.2.2.1 P.2.1 I.1 bf rs rr rq rp mm ln lo lf lt co ro pg pf hsh 71 := cl_a60 (by omega)
      have a2 : cl_f (rf_f f th z kp H.1 nt nl P.2.2.1 P.2.2.2.1 P.2.1 I.1 bf rs rr rq rp mm ln lo lf lt co ro pg pf hsh) I P M H Y Z 71 = rf_f f th z kp H.1 nt nl P.2.2.1 P.2.2.2.1 P.2.1 I.1 bf rs rr rq rp mm ln lo lf lt co ro pg pf hsh 71 := cl_a60 (by omega)
      exact a1.trans a2.symm
    · have a1 : cl_f (rf_f f th z kp H.1 nt nl P.2.2.1 P.2.2.2.1 P.2.1 I.1 bf rs rr rq rp mm ln lo lf lt co ro pg pf hsh) I P M H Y (cl_ft B P NT v 43 18 Z).2 60 = rf_f f th z kp H.1 nt nl P.2.2.1 P.2.2.2.1 P.2.1 I.1 bf rs rr rq rp mm ln lo lf lt co ro pg pf hsh 60 := cl_a60 (by omega)
      exact ⟨_, a1.trans rfl⟩
    · show JM G 12 mX8_fit [.ref 60, .int (jI v)] (n, va_up (cl_f (rf_f f th z kp H.1 nt nl P.2.2.1 P.2.2.2.1 P.2.1 I.1 bf rs rr rq rp mm ln lo lf lt co ro pg pf hsh) I P M H Y (cl_ft B P NT v 43 18 Z).2) 71 c) 0 0 _
      rw [crf, rf_up71]
      refine (r_fit (d := 3) hL.rf (P9 := ft_P B P.2.2.2.1 P.2.1 NT) (fun w lo lf lt pf hw => ?_) b_v (by omega)).mono fun r2 h10 hq => ?_
      · exact ft_pg hL.2.1.1 hL.2.2.1.1 hL.2.2.2.1 0 w P.2.2.2.1 (fun _ _ => 0) lo lf lt pf
      · obtain ⟨ln9, co9, ro9, pg9, lo9, lf9, lt9, pf9, e3, e4⟩ := hq
        subst e4
        exact ⟨_, e3, fun _ => eq.symm, rf_71, st_i hL2⟩
end PAIRS
