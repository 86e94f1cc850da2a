/-! ===== both sides, call by call: input, size, style, page, line, shown, notes, places ===== -/
section PAIRS
variable {G : ji_G} {n : Nat} {f g : Nat → ji_C} {I : in_T} {P : pg_T} {M : mk_T} {H : hi_T} {Y Z : ly_T} {B : bk_T} {NT : nt_T} {SB : Nat → bk_T}
variable {th rs rr rq rp mm ln co ro pg : Int} {z kp nt nl bf lo lf lt pf : Nat → Int} {hsh : Int64} {b b' : Int}
theorem jr_e {d : Nat} {m : ji_M} {as : List Value} {h0 h2 : ji_H} {bc bs : Nat} {x y : Int} (h : JR G d m as h0 bc bs (some (.int (jI y))) h2) (e : x = y) : JR G d m as h0 bc bs (some (.int (jI x))) h2 := e ▸ h
theorem LK.w (hL : LK b n f I P M H Y Z B NT SB z kp nt nl bf) (hb : b ≤ b' ∧ b' ≤ 800000) : LK b' n f I P M H Y Z B NT SB z kp nt nl bf := by
  obtain ⟨a1, a2, a3, a4, a5, a6, a7, ⟨a8, a8'⟩, a9, a10⟩ := hL
  exact ⟨a1, a2, a3, a4, a5, a6, a7, ⟨mo_w a8 hb.1, fun i => mo_w (a8' i) hb.1⟩, by omega, hb.2⟩
theorem LK.rf (hL : LK b n f I P M H Y Z B NT SB z kp nt nl bf) : rf_ok P.2.2.1 P.2.2.2.1 z nl nt P.2.1 := rb_rf hL.2.1.1 hL.2.1.2.2.1 hL.2.1.2.2.2 hL.2.2.1.2 hL.1.2.2.2.1 hL.1.2.2.2.2.1
theorem LK.ref (hL : LK b n f I P M H Y Z B NT SB z kp nt nl bf) : LK b n f I (cl_RP P) M H (cl_RY P Y B NT) Z B NT SB z kp nt nl bf := ⟨(cl_fr_ok hL.1).2, hL.2⟩
theorem LK.inp {I' : in_T} {bf' : Nat → Int} (hL : LK b n f I P M H Y Z B NT SB z kp nt nl bf) (hi : in_ok I'.1 I'.2.1) (h1 : ∀ k : Nat, (k : Int) < I'.1 → I'.2.1 k = bf' k) (h2 : ∀ k, 0 ≤ bf' k ∧ bf' k < 128) : LK b n f I' P M H Y Z B NT SB z kp nt nl bf' := by
  obtain ⟨⟨c1, c2, c3⟩, a2, a3, a4, a5, a6, a7⟩ := hL
  exact ⟨⟨c1, hi, c3⟩, a2, a3, a4, h1, h2, a7⟩
theorem LK.lay (hL : LK b n f I P M H Y Z B NT SB z kp nt nl bf) (lo lf lt pf : Nat → Int) : ∃ ln pg : Nat, (rf_LL z nl nt P.2.1 P.2.2.1 lo lf lt).1 = ln ∧ (1 ≤ ln ∧ ln ≤ 240) ∧ (rf_PG z nl nt P.2.1 P.2.2.1 P.2.2.2.1 (rf_LL z nl nt P.2.1 P.2.2.1 lo lf lt).1 (rf_LL z nl nt P.2.1 P.2.2.1 lo lf lt).2.1 (rf_LL z nl nt P.2.1 P.2.2.1 lo lf lt).2.2.1 (rf_LL z nl nt P.2.1 P.2.2.1 lo lf lt).2.2.2 pf).1 = pg
    ∧ LAYR B z nl nt P.2.1 NT (cl_RY P Y B NT) (rf_LL z nl nt P.2.1 P.2.2.1 lo lf lt).2.1 (rf_LL z nl nt P.2.1 P.2.2.1 lo lf lt).2.2.1 (rf_LL z nl nt P.2.1 P.2.2.1 lo lf lt).2.2.2 ln pg (va_up (rf_PG z nl nt P.2.1 P.2.2.1 P.2.2.2.1 (rf_LL z nl nt P.2.1 P.2.2.1 lo lf lt).1 (rf_LL z nl nt P.2.1 P.2.2.1 lo lf lt).2.1 (rf_LL z nl nt P.2.1 P.2.2.1 lo lf lt).2.2.1 (rf_LL z nl nt P.2.1 P.2.2.1 lo lf lt).2.2.2 pf).2 (rf_PG z nl nt P.2.1 P.2.2.1 P.2.2.2.1 (rf_LL z nl nt P.2.1 P.2.2.1 lo lf lt).1 (rf_LL z nl nt P.2.1 P.2.2.1 lo lf lt).2.1 (rf_LL z nl nt P.2.1 P.2.2.1 lo lf lt).2.2.1 (rf_LL z nl nt P.2.1 P.2.2.1 lo lf lt).2.2.2 pf).1.toNat (rf_LL z nl nt P.2.1 P.2.2.1 lo lf lt).1)
    ∧ (cl_RY P Y B NT).2.1 = P.2.2.1 ∧ (cl_RY P Y B NT).2.2.1 = P.2.2.2.1 := by
  obtain ⟨A, _, hA⟩ := (cl_fr_ok hL.1).1
  obtain ⟨ln, pg, e1, e2, e3, e4⟩ := lay_all hL.2.1.1 hL.2.2.1.1 hL.2.2.2.1 P.2.2.2.2.1 P.2.2.1 P.2.2.2.1 A lo lf lt pf
  have hA' : cl_RY P Y B NT = ly_Y P.2.2.2.2.1 B P.2.2.1 P.2.2.2.1 P.2.1 NT A := hA
  rw [← hA'] at e4
  exact ⟨ln, pg, e1, e2, e3, e4, by rw [hA']; rfl, by rw [hA']; rfl⟩
theorem LK.ok (hL : LK b n f I P M H Y Z B NT SB z kp nt nl bf) : cl_ok n (rf_f f th z kp H.1 nt nl P.2.2.1 P.2.2.2.1 P.2.1 I.1 bf rs rr rq rp mm ln lo lf lt co ro pg pf hsh) I P M H Y Z B NT SB := cl_ok_f hL.1 rf_keep
theorem p_append (hL : LK b n f I P M H Y Z B NT SB z kp nt nl bf) (hb : b ≤ b' ∧ b' ≤ 800000) {v : Int} (b_v : -2147483648 ≤ v ∧ v < 2147483648) : PR G 11 mX7_append mX8_append [.int (jI v)] [eA, eS] b' n (cl_f (rf_f f th z kp H.1 nt nl P.2.2.1 P.2.2.2.1 P.2.1 I.1 bf rs rr rq rp mm ln lo lf lt co ro pg pf hsh) I P M H Y Z) := by
  have hz := hL.1.2.1.1
  by_cases c1 : v < 32 ∨ 126 < v
  · exact pr_x (i := 0) rfl rfl (x_append1 hL.ok b_v c1) (fun f' => r_append1 hz b_v c1) (hL.w hb)
  by_cases c2 : I.1 = 100
  · exact pr_x (i := 1) rfl rfl (x_append2 hL.ok (by omega) c2) (fun f' => r_append2 hz (by omega) c2) (hL.w hb)
  · refine pr_1 hL.1.1 (k_append hL.ok (by omega) (by omega)) (fun f' => r_append hz (by omega) (by omega)) ((hL.w hb).inp (I' := (I.1 + 1, va_up I.2.1 I.1.toNat v, I.2.2)) ⟨by show 0 ≤ I.1 + 1 ∧ I.1 + 1 ≤ 100; omega, fun k => ?_⟩ (fun k hk => ?_) fun k => ?_)
    · show 0 ≤ va_up I.2.1 I.1.toNat v k ∧ va_up I.2.1 I.1.toNat v k < 128
      by_cases c : k = I.1.toNat
      · rw [c, va_up_self]; omega
      · rw [va_up_ne _ _ c]; exact hL.1.2.1.2 k
    · show va_up I.2.1 I.1.toNat v k = va_up bf I.1.toNat v k
      have hk' : (k : Int) < I.1 + 1 := hk
      by_cases c : k = I.1.toNat
      · rw [c, va_up_self, va_up_self]
      · rw [va_up_ne _ _ c, va_up_ne _ _ c]; exact hL.2.2.2.2.1 k (by omega)
    · by_cases c : k = I.1.toNat
      · rw [c, va_up_self]; omega
      · rw [va_up_ne _ _ c]; exact hL.2.2.2.2.2.1 k
theorem LK.z0 {S : sy_T} (hL : LK b n f I P M H Y Z B NT SB z kp nt nl bf) : LK b n f (0, I.2.1, S) P M H Y Z B NT SB z kp nt nl bf := hL.inp (I' := (0, I.2.1, S)) ⟨by show (0 : Int) ≤ 0 ∧ (0 : Int) ≤ 100; omega, hL.1.2.1.2⟩ (fun k hk => absurd (show (k : Int) < 0 from hk) (by omega)) hL.2.2.2.2.2.1
theorem LK.iw {v : Int} (hL : LK b n f I P M H Y Z B NT SB z kp nt nl bf) : LK b n f (in_W I v) P M H Y Z B NT SB z kp nt nl bf := hL.inp (I' := in_W I v) hL.1.2.1 hL.2.2.2.2.1 hL.2.2.2.2.2.1
theorem p_clearInput (hL : LK b n f I P M H Y Z B NT SB z kp nt nl bf) (hb : b ≤ b' ∧ b' ≤ 800000) : PR G 12 mX7_clearInput mX8_clearInput [] [] b' n (cl_f (rf_f f th z kp H.1 nt nl P.2.2.1 P.2.2.2.1 P.2.1 I.1 bf rs rr rq rp mm ln lo lf lt co ro pg pf hsh) I P M H Y Z) :=
  pr_1 hL.1.1 (k_clearInput hL.ok) (fun f' => r_clearInput) ((hL.w hb).z0 (S := I.2.2))
theorem p_firstError (hL : LK b n f I P M H Y Z B NT SB z kp nt nl bf) (hb : b ≤ b' ∧ b' ≤ 800000) {v : Int} (hv : v = 0 ∨ v = 1) : PR G 12 mX7_firstError mX8_firstError [.int (jI v)] [] b' n (cl_f (rf_f f th z kp H.1 nt nl P.2.2.1 P.2.2.2.1 P.2.1 I.1 bf rs rr rq rp mm ln lo lf lt co ro pg pf hsh) I P M H Y Z) :=
  pr_1 hL.1.1 (k_firstError hL.ok hv) (fun f' => jr_e (r_firstError hv hL.1.2.1.1 hL.2.2.2.2.2.1) (ff_eq hv hL.1.2.1.1.1 hL.2.2.2.2.1).1) ((hL.w hb).iw (v := v))
theorem p_setStyle (hL : LK b n f I P M H Y Z B NT SB z kp nt nl bf) (hb : b ≤ b' ∧ b' ≤ 800000) {v m : Int} (b_v : -2147483648 ≤ v ∧ v < 2147483648) (b_m : -2147483648 ≤ m ∧ m < 2147483648) : PR G 11 mX7_setStyle mX8_setStyle [.int (jI v), .int (jI m)] [eA] b' n (cl_f (rf_f f th z kp H.1 nt nl P.2.2.1 P.2.2.2.1 P.2.1 I.1 bf rs rr rq rp mm ln lo lf lt co ro pg pf hsh) I P M H Y Z) := by
  by_cases c1 : v < 0 ∨ 5 ≤ v
  · exact pr_x (i := 0) rfl rfl (x_setStyle1 hL.ok b_v c1) (fun f' => r_setStyle1 b_v b_m (by omega)) (hL.w hb)
  by_cases c2 : m < 0 ∨ st_lim v < m
  · exact pr_x (i := 0) rfl rfl (x_setStyle2 hL.ok b_m (by omega) c2) (fun f' => r_setStyle1 b_v b_m (by omega)) (hL.w hb)
  · refine pr_1 hL.1.1 (k_setStyle hL.ok (by omega) (by omega)) (fun f' => r_setStyle (by omega) (by omega)) (?_ : LK b' n f I (P.1, va_up P.2.1 v.toNat m, P.2.2.1, P.2.2.2.1, P.2.2.2.2.1, 1) M H Y Z B NT SB z kp nt nl bf)
    obtain ⟨⟨d1, d2, d3, d4, d5, d6, d7, d8, d9, d10, d11, d12⟩, a2, a3, a4, a5, a6, a7, a8, a9, a10⟩ := hL.w hb
    have hl : st_lim v ≤ 4 ∧ (v = 4 → st_lim v ≤ 1) := by
      unfold st_lim
      have : v = 0 ∨ v = 1 ∨ v = 2 ∨ v = 3 ∨ v = 4 := by omega
      rcases this with rfl | rfl | rfl | rfl | rfl <;> decide
    refine ⟨⟨d1, d2, d3, fun k => ?_, d5, d6, Or.inr rfl, d8, d9, d10, d11, fun q => absurd (show (1 : Int) = 0 from q) (by omega)⟩, a2, a3, ?_, a5, a6, a7, a8, a9, a10⟩
    · show 0 ≤ va_up P.2.1 v.toNat m k ∧ va_up P.2.1 v.toNat m k ≤ 4
      by_cases c : k = v.toNat
      · rw [c, va_up_self]; omega
      · rw [va_up_ne _ _ c]; exact d4 k
    · show va_up P.2.1 v.toNat m 4 = 0 ∨ va_up P.2.1 v.toNat m 4 = 1
      by_cases c : 4 = v.toNat
      · have := hl.2 (by omega)
        rw [c, va_up_self]; omega
      · rw [va_up_ne _ _ c]; exact a4
theorem LK.siz {v m : Int} (hL : LK b n f I P M H Y Z B NT SB z kp nt nl bf) (hx : (18 ≤ v ∧ v ≤ 60) ∧ 2 ≤ m ∧ m ≤ 20) : LK b n f I (P.1, P.2.1, v, m, P.2.2.2.2.1, 1) M H Y Z B NT SB z kp nt nl bf := ⟨cl_okS hL.1 hx, hL.2⟩
theorem p_setSize (hL : LK b n f I P M H Y Z B NT SB z kp nt nl bf) (hb : b ≤ b' ∧ b' ≤ 800000) {v m : Int} (b_v : -2147483648 ≤ v ∧ v < 2147483648) (b_m : -2147483648 ≤ m ∧ m < 2147483648) : PR G 11 mX7_setSize mX8_setSize [.int (jI v), .int (jI m)] [eA] b' n (cl_f (rf_f f th z kp H.1 nt nl P.2.2.1 P.2.2.2.1 P.2.1 I.1 bf rs rr rq rp mm ln lo lf lt co ro pg pf hsh) I P M H Y Z) := by
  by_cases c1 : (18 ≤ v ∧ v ≤ 60) ∧ 2 ≤ m ∧ m ≤ 20
  · have h2 := (hL.w hb).siz c1
    obtain ⟨l9, p9, e1, e2, e3, hY, y1, y2⟩ := h2.lay lo lf lt pf
    refine pr_1 hL.1.1 (k_setSize hL.ok c1) (fun f' => jr_e (r_setSize hL.rf c1) ?_) h2.ref
    exact hY.2.1.trans e3.symm
  · exact pr_x (i := 0) rfl rfl (x_setSize hL.ok b_v b_m c1) (fun f' => r_setSize1 b_v b_m c1) (hL.w hb)
theorem p_page (hL : LK b n f I P M H Y Z B NT SB z kp nt nl bf) (hb : b ≤ b' ∧ b' ≤ 800000) {v m : Int} (b_v : -2147483648 ≤ v ∧ v < 2147483648) (b_m : -2147483648 ≤ m ∧ m < 2147483648) : PR G 11 mX7_page mX8_page [.int (jI v), .int (jI m)] [eI, eA] b' n (cl_f (rf_f f th z kp H.1 nt nl P.2.2.1 P.2.2.2.1 P.2.1 I.1 bf rs rr rq rp mm ln lo lf lt co ro pg pf hsh) I P M H Y Z) := by
  have hL' := (hL.w hb).ref
  obtain ⟨l9, p9, e1, e2, e3, hY, y1, y2⟩ := hL.lay lo lf lt pf
  have ep : (cl_RY P Y B NT).2.2.2.2.1 = p9 := hY.2.1
  by_cases c1 : v < 0 ∨ (p9 : Int) ≤ v
  · exact pr_x (i := 0) rfl rfl (x_page1 hL.ok b_v (by rw [ep]; exact c1)) (fun f' => r_page1 hL.rf b_v (by rw [e3]; exact c1)) hL'
  by_cases c2 : m < 0 ∨ 7 ≤ m
  · exact pr_x (i := 1) rfl rfl (x_page2 hL.ok b_v b_m (by rw [ep]; omega) c2) (fun f' => r_page2 hL.rf (by rw [e3]; omega) b_m c2) hL'
  · obtain ⟨v9, rfl⟩ : ∃ k : Nat, v = k := ⟨v.toNat, by omega⟩
    refine pr_1 hL.1.1 (k_page hL.ok b_v b_m (by rw [ep]; omega) (by omega)) (fun f' => jr_e (r_page hL.rf (by rw [e3]; omega) (by omega)) ?_) hL'
    have := pgq_eq hL.2.1.1 hL.2.1.2.2.2 hY (P := cl_RP P) rfl (q := v9) (by omega) (v := m) (by omega)
    rw [this, y1, e1]
theorem p_line (hL : LK b n f I P M H Y Z B NT SB z kp nt nl bf) (hb : b ≤ b' ∧ b' ≤ 800000) {v m : Int} (b_v : -2147483648 ≤ v ∧ v < 2147483648) (b_m : -2147483648 ≤ m ∧ m < 2147483648) : PR G 11 mX7_line mX8_line [.int (jI v), .int (jI m)] [eI, eA] b' n (cl_f (rf_f f th z kp H.1 nt nl P.2.2.1 P.2.2.2.1 P.2.1 I.1 bf rs rr rq rp mm ln lo lf lt co ro pg pf hsh) I P M H Y Z) := by
  have hL' := (hL.w hb).ref
  obtain ⟨l9, p9, e1, e2, e3, hY, y1, y2⟩ := hL.lay lo lf lt pf
  have ep : (cl_RY P Y B NT).2.2.2.1 = l9 := hY.1
  by_cases c1 : v < 0 ∨ (l9 : Int) ≤ v
  · exact pr_x (i := 0) rfl rfl (x_line1 hL.ok b_v (by rw [ep]; exact c1)) (fun f' => r_line1 hL.rf b_v (by rw [e1]; exact c1)) hL'
  by_cases c2 : m < 0 ∨ 6 ≤ m
  · exact pr_x (i := 1) rfl rfl (x_line2 hL.ok b_v b_m (by rw [ep]; omega) c2) (fun f' => r_line2 hL.rf (by rw [e1]; omega) b_m c2) hL'
  · obtain ⟨v9, rfl⟩ : ∃ k : Nat, v = k := ⟨v.toNat, by omega⟩
    refine pr_1 hL.1.1 (k_line hL.ok b_v b_m (by rw [ep]; omega) (by omega)) (fun f' => jr_e (r_line hL.rf (by rw [e1]; omega) (by omega)) ?_) hL'
    have := lnp_eq hL.2.1.1 hY (l := v9) (by omega) m
    rw [this, e3]
theorem p_shown (hL : LK b n f I P M H Y Z B NT SB z kp nt nl bf) (hb : b ≤ b' ∧ b' ≤ 800000) {v m o : Int} (b_v : -2147483648 ≤ v ∧ v < 2147483648) (b_m : -2147483648 ≤ m ∧ m < 2147483648) (b_o : -2147483648 ≤ o ∧ o < 2147483648) : PR G 11 mX7_shown mX8_shown [.int (jI v), .int (jI m), .int (jI o)] [eI, eA] b' n (cl_f (rf_f f th z kp H.1 nt nl P.2.2.1 P.2.2.2.1 P.2.1 I.1 bf rs rr rq rp mm ln lo lf lt co ro pg pf hsh) I P M H Y Z) := by
  have hL' := (hL.w hb).ref
  obtain ⟨l9, p9, e1, e2, e3, hY, y1, y2⟩ := hL.lay lo lf lt pf
  have ep : (cl_RY P Y B NT).2.2.2.2.1 = p9 := hY.2.1
  by_cases c1 : v < 0 ∨ (p9 : Int) ≤ v
  · exact pr_x (i := 0) rfl rfl (x_shown1 hL.ok b_v (by rw [ep]; exact c1)) (fun f' => r_shown1 hL.rf b_v (by rw [e3]; exact c1)) hL'
  by_cases c2 : (0 ≤ m ∧ m < P.2.2.2.1) ∧ 0 ≤ o ∧ o < P.2.2.1
  · obtain ⟨v9, rfl⟩ : ∃ k : Nat, v = k := ⟨v.toNat, by omega⟩
    refine pr_1 hL.1.1 (k_shown hL.ok b_v b_m b_o (by rw [ep]; omega) c2) (fun f' => jr_e (r_shown hL.rf (by rw [e3]; omega) c2) ?_) hL'
    have := shown_eq hL.2.1.1 hY (P := cl_RP P) rfl (q := v9) (by omega) (row := m) (col := o) (by rw [y2]; exact c2.1)
    rw [this, y1, y2, e3]
  · exact pr_x (i := 1) rfl rfl (x_shown2 hL.ok b_v b_m b_o (by rw [ep]; omega) c2) (fun f' => r_shown2 hL.rf (by rw [e3]; omega) b_m b_o c2) hL'
theorem p_noteOn (hL : LK b n f I P M H Y Z B NT SB z kp nt nl bf) (hb : b ≤ b' ∧ b' ≤ 800000) {v m : Int} (b_v : -2147483648 ≤ v ∧ v < 2147483648) (b_m : -2147483648 ≤ m ∧ m < 2147483648) : PR G 11 mX7_noteOn mX8_noteOn [.int (jI v), .int (jI m)] [eI] b' n (cl_f (rf_f f th z kp H.1 nt nl P.2.2.1 P.2.2.2.1 P.2.1 I.1 bf rs rr rq rp mm ln lo lf lt co ro pg pf hsh) I P M H Y Z) := by
  have hL' := (hL.w hb).ref
  obtain ⟨l9, p9, e1, e2, e3, hY, y1, y2⟩ := hL.lay lo lf lt pf
  have ep : (cl_RY P Y B NT).2.2.2.2.1 = p9 := hY.2.1
  by_cases c1 : v < 0 ∨ (p9 : Int) ≤ v
  · exact pr_x (i := 0) rfl rfl (x_noteOn1 hL.ok b_v (by rw [ep]; exact c1)) (fun f' => r_noteOn1 hL.rf b_v (by rw [e3]; exact c1)) hL'
  obtain ⟨v9, rfl⟩ : ∃ k : Nat, v = k := ⟨v.toNat, by omega⟩
  have q := no_eq hY (q := v9) (by omega)
  have t1 : (v9 : Int).toNat = v9 := by omega
  have t2 : ((v9 : Int) + 1).toNat = v9 + 1 := by omega
  by_cases c2 : m < 0 ∨ ly_no (cl_np (cl_RY P Y B NT) v9) 10 0 m = -1
  · exact pr_x (i := 0) rfl rfl (x_noteOn2 hL.ok b_v b_m (by rw [ep]; omega) c2) (fun f' => r_noteOn2 hL.rf (by rw [e3]; omega) b_m (by rw [t1, t2, ← q]; exact c2)) hL'
  · have c3 : 0 ≤ m ∧ ¬ ly_no (cl_np (cl_RY P Y B NT) v9) 10 0 m = -1 := ⟨by omega, fun w => c2 (Or.inr w)⟩
    refine pr_1 hL.1.1 (k_noteOn hL.ok b_v b_m (by rw [ep]; omega) c3) (fun f' => jr_e (r_noteOn hL.rf (by rw [e3]; omega) b_m (by rw [t1, t2, ← q]; exact c3)) ?_) hL'
    rw [q, t1, t2]
theorem p_floating (hL : LK b n f I P M H Y Z B NT SB z kp nt nl bf) (hb : b ≤ b' ∧ b' ≤ 800000) {v m : Int} (b_v : -2147483648 ≤ v ∧ v < 2147483648) (hm : m = 0 ∨ m = 1) : PR G 11 mX7_floating mX8_floating [.int (jI v), .int (jI m)] [eI] b' n (cl_f (rf_f f th z kp H.1 nt nl P.2.2.1 P.2.2.2.1 P.2.1 I.1 bf rs rr rq rp mm ln lo lf lt co ro pg pf hsh) I P M H Y Z) := by
  have hL' := (hL.w hb).ref
  obtain ⟨l9, p9, e1, e2, e3, hY, y1, y2⟩ := hL.lay lo lf lt pf
  have ep : (cl_RY P Y B NT).2.2.2.1 = l9 := hY.1
  by_cases c1 : v < 0 ∨ (l9 : Int) ≤ v
  · exact pr_x (i := 0) rfl rfl (x_floating hL.ok b_v (by rw [ep]; exact c1)) (fun f' => r_floating1 hL.rf b_v (by rw [e1]; exact c1)) hL'
  obtain ⟨v9, rfl⟩ : ∃ k : Nat, v = k := ⟨v.toNat, by omega⟩
  rcases hm with rfl | rfl
  · refine pr_1 hL.1.1 (k_floating0 hL.ok b_v (by rw [ep]; omega)) (fun f' => jr_e (r_floatingB hL.rf (by rw [e1]; omega)) ?_) hL'
    have := back_eq hY hL.rf.2.2.1 P.2.2.2.1 (by have := hL.1.2.2.2.2.1; omega) (l := v9) (by omega)
    rw [y2]
    rw [y1] at this
    rw [e1]
    exact this
  · refine pr_1 hL.1.1 (k_floating1 hL.ok b_v (by rw [ep]; omega)) (fun f' => jr_e (r_floatingF hL.rf (by rw [e1]; omega)) ?_) hL'
    have := bo_eq hY P.2.2.2.1 (x := v9) (by omega)
    rw [y2]
    rw [y1] at this
    rw [e1]
    exact this
end PAIRS
