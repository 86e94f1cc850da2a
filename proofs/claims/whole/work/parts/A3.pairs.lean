/-! ===== both sides, call by call: places, find, properties, annotations ===== -/
section PAIRS
variable {G : ji_G} {n : Nat} {f g : Nat → ji_C} {I : in_T} {P : pg_T} {M : mk_T} {H : hi_T} {Y Z : ly_T} {B : bk_T} {NT : nt_T} {SB : Nat → bk_T}
variable {th rs rr rq rp mm ln co ro pg : Int} {z kp nt nl bf lo lf lt pf : Nat → Int} {hsh : Int64} {b b' : Int}
theorem LK.mar {M' : mk_T} {z' : Nat → Int} (hL : LK b n f I P M H Y Z B NT SB z kp nt nl bf) (hm : MR (bk_P B) z' M') (e : ∀ j, (j = 0 ∨ 75 ≤ j) → z' j = z j) (hb : ∀ j, -10000 ≤ z' j ∧ z' j ≤ 10000) (ho : mk_ok b M') : LK b n f I P M' H Y Z B NT SB z' kp nt nl bf := by
  obtain ⟨c, ⟨v1, v2, v3, v4⟩, a3, a4, a5, a6, a7, ⟨a8, a8'⟩, a9, a10⟩ := hL
  exact ⟨cl_okM c (mo_w ho (by omega)), ⟨rb_low v1 e, v2, zx_low v3 (fun j hj => e j (Or.inr hj)) (fun j _ => hb j), hm⟩, ⟨ntr_z a3.1, a3.2⟩, a4, a5, a6, a7, ⟨ho, a8'⟩, a9, a10⟩
theorem LK.P0 (hL : LK b n f I P M H Y Z B NT SB z kp nt nl bf) : z 0 = bk_P B := hL.2.1.1.2.2.1.2
theorem LK.en (hL : LK b n f I P M H Y Z B NT SB z kp nt nl bf) {p : Nat} (hp : p < bk_P B) : bk_end B (p : Int) - bk_start B (p : Int) = z (85 + p) := by
  rw [bk_end_e hL.2.1.1 hp, bk_start_e hL.2.1.1 (by omega)]; omega
theorem LK.le (hL : LK b n f I P M H Y Z B NT SB z kp nt nl bf) {p : Nat} (hp : p < bk_P B) : (rS z p : Int) + z (85 + p) ≤ 3601 ∧ 1 ≤ z (85 + p) ∧ z (85 + p) ≤ 359 ∧ p < 10 := by
  have h := hL.2.1.1
  have h1 := rb_m h
  have h2 := rS_m z (show p + 1 ≤ bk_P B by omega)
  rw [rS_s] at h2
  have h3 := h.2.2.2.2.2.1
  have h4 := h.2.2.2.2.1 p hp
  have h5 := h.2.2.1.1
  omega
theorem t85 (p : Nat) : (85 + (p : Int)).toNat = 85 + p := by omega
theorem p_pageOf (hL : LK b n f I P M H Y Z B NT SB z kp nt nl bf) (hb : b ≤ b' ∧ b' ≤ 800000) {v o : Int} (b_v : -2147483648 ≤ v ∧ v < 2147483648) (b_o : -2147483648 ≤ o ∧ o < 2147483648) : PR G 11 mX7_pageOf mX8_pageOf [.int (jI v), .int (jI o)] [eI] b' n (cl_f (rf_f f th z kp H.1 nt nl P.2.2.1 P.2.2.2.1 P.2.1 I.1 bf rs rr rq rp mm ln lo lf lt co ro pg pf hsh) I P M H Y Z) := by
  have hL' := (hL.w hb).ref
  obtain ⟨l9, p9, e1, e2, e3, hY, y1, y2⟩ := hL.lay lo lf lt pf
  have hP := hL.P0
  by_cases c1 : v < 0 ∨ bk_P B ≤ v
  · exact pr_x (i := 0) rfl rfl (x_pageOf0 hL.ok b_v c1) (fun f' => r_pageOf1 hL.rf b_v b_o (by omega)) (hL.w hb)
  obtain ⟨v9, rfl⟩ : ∃ k : Nat, v = k := ⟨v.toNat, by omega⟩
  have q := hL.en (p := v9) (by omega)
  by_cases c2 : o < 0 ∨ z (85 + v9) ≤ o
  · exact pr_x (i := 0) rfl rfl (x_pageOf1 hL.ok b_v b_o (by omega) (by rw [q]; exact c2)) (fun f' => r_pageOf1 hL.rf b_v b_o (by rw [t85]; omega)) (hL.w hb)
  · refine pr_1 hL.1.1 (k_pageOf hL.ok b_v b_o (by omega) (by rw [q]; omega)) (fun f' => jr_e (r_pageOf hL.rf (by rw [t85]; omega)) ?_) hL'
    have this := at_page hL.2.1.1 hY (q := v9) (o := o) (by omega) (by omega)
    rw [← e1, ← e3] at this
    rw [bk_start_e hL.2.1.1 (by omega), this]
theorem p_letter (hL : LK b n f I P M H Y Z B NT SB z kp nt nl bf) (hb : b ≤ b' ∧ b' ≤ 800000) {v o : Int} (b_v : -2147483648 ≤ v ∧ v < 2147483648) (b_o : -2147483648 ≤ o ∧ o < 2147483648) : PR G 11 mX7_letter mX8_letter [.int (jI v), .int (jI o)] [eI] b' n (cl_f (rf_f f th z kp H.1 nt nl P.2.2.1 P.2.2.2.1 P.2.1 I.1 bf rs rr rq rp mm ln lo lf lt co ro pg pf hsh) I P M H Y Z) := by
  have hP := hL.P0
  by_cases c1 : v < 0 ∨ bk_P B ≤ v
  · exact pr_x (i := 0) rfl rfl (x_letter0 hL.ok b_v c1) (fun f' => r_letter1 hL.rf b_v b_o (by omega)) (hL.w hb)
  obtain ⟨v9, rfl⟩ : ∃ k : Nat, v = k := ⟨v.toNat, by omega⟩
  have q := hL.en (p := v9) (by omega)
  by_cases c2 : o < 0 ∨ z (85 + v9) ≤ o
  · exact pr_x (i := 0) rfl rfl (x_letter1 hL.ok b_v b_o (by omega) (by rw [q]; exact c2)) (fun f' => r_letter1 hL.rf b_v b_o (by rw [t85]; omega)) (hL.w hb)
  · exact pr_1 hL.1.1 (k_letter hL.ok b_v b_o (by omega) (by rw [q]; omega)) (fun f' => jr_e (r_letter hL.rf (by rw [t85]; omega)) (letter_eq hL.2.1.1 nt (by omega) (by omega))) (hL.w hb)
theorem jt_1 (M : mk_T) (v : Int) : mk_jt M v = (v, (mk_jt M v).2) := by unfold mk_jt; split <;> rfl
theorem mo_jt {M : mk_T} {v : Int} (h : mk_ok b M) (hv : -b ≤ v ∧ v ≤ b) : mk_ok b (mk_jt M v) := by
  obtain ⟨a1, a2, a3, a4, a5, a6⟩ := h
  unfold mk_jt
  split
  · refine ⟨hv, by show 0 ≤ M.2.1 + 1 ∧ M.2.1 + 1 ≤ 5; omega, a3, fun i => ?_, a5, a6⟩
    show -b ≤ va_up M.2.2.2.1 M.2.1.toNat M.1 i ∧ va_up M.2.2.2.1 M.2.1.toNat M.1 i ≤ b
    by_cases c : i = M.2.1.toNat
    · rw [c, va_up_self]; exact a1
    · rw [va_up_ne _ _ c]; exact a4 i
  · refine ⟨hv, by show (0 : Int) ≤ 4 + 1 ∧ (4 : Int) + 1 ≤ 5; omega, a3, fun i => ?_, a5, a6⟩
    show -b ≤ va_up (va_cpy M.2.2.2.1 M.2.2.2.1 1 0 4) 4 M.1 i ∧ va_up (va_cpy M.2.2.2.1 M.2.2.2.1 1 0 4) 4 M.1 i ≤ b
    by_cases c : i = 4
    · rw [c, va_up_self]; exact a1
    · rw [va_up_ne _ _ c]; unfold va_cpy; split
      · exact a4 _
      · exact a4 _
theorem p_go (hL : LK b n f I P M H Y Z B NT SB z kp nt nl bf) (hb : b ≤ b' ∧ b' ≤ 800000) {v o : Int} (b_v : -2147483648 ≤ v ∧ v < 2147483648) (b_o : -2147483648 ≤ o ∧ o < 2147483648) : PR G 11 mX7_go mX8_go [.int (jI v), .int (jI o)] [eI] b' n (cl_f (rf_f f th z kp H.1 nt nl P.2.2.1 P.2.2.2.1 P.2.1 I.1 bf rs rr rq rp mm ln lo lf lt co ro pg pf hsh) I P M H Y Z) := by
  have hP := hL.P0
  by_cases c1 : v < 0 ∨ bk_P B ≤ v
  · exact pr_x (i := 0) rfl rfl (x_go0 hL.ok b_v c1) (fun f' => r_go1 hL.rf b_v b_o (by omega)) (hL.w hb)
  obtain ⟨v9, rfl⟩ : ∃ k : Nat, v = k := ⟨v.toNat, by omega⟩
  have q := hL.en (p := v9) (by omega)
  by_cases c2 : o < 0 ∨ z (85 + v9) ≤ o
  · exact pr_x (i := 0) rfl rfl (x_go1 hL.ok b_v b_o (by omega) (by rw [q]; exact c2)) (fun f' => r_go1 hL.rf b_v b_o (by rw [t85]; omega)) (hL.w hb)
  · have hw := hL.w hb
    obtain ⟨k1, k2, k3⟩ := mr_kj hL.2.1.2.2.2 ((rS z v9 : Int) + o)
    have hle := hL.le (p := v9) (by omega)
    have m1 := mr_mv k1 (q := v9) (o := o) (by omega) (by rw [k2 _ (by omega)]; omega)
    rw [rS_c (z := z) (z' := rf_kj z) v9 (fun j _ => k2 _ (by omega))] at m1
    have hM : MR (bk_P B) (rf_mv (rf_kj z) v9 o) (mk_jt M (bk_start B (v9 : Int) + o)) := by
      rw [bk_start_e hL.2.1.1 (by omega), jt_1]; exact m1
    have h2 : LK b' n f I P (mk_jt M (bk_start B (v9 : Int) + o)) H Y Z B NT SB (rf_mv (rf_kj z) v9 o) kp nt nl bf := by
      refine hw.mar hM (fun j hj => ?_) (fun j => ?_) ?_
      · rw [mv_e, if_neg (by omega), if_neg (by omega)]; exact k2 j (by omega)
      · have := k3 10000 (by omega) hL.2.1.2.2.1.1 j
        rw [mv_e]
        split
        · omega
        · split
          · omega
          · exact this
      · have := hw.2.2.2.2.2.2.2.2.1
        exact mo_jt hw.2.2.2.2.2.2.2.1.1 (by rw [bk_start_e hL.2.1.1 (by omega)]; omega)
    obtain ⟨l9, p9, e1, e2, e3, hY, y1, y2⟩ := h2.lay lo lf lt pf
    refine pr_1 hL.1.1 (k_go hL.ok b_v b_o (by omega) (by rw [q]; omega)) (fun f' => jr_e (r_go hL.rf (by rw [t85]; omega) rfl h2.rf) ?_) h2.ref
    have e8 : rf_mv (rf_kj z) v9 o (85 + v9) = z (85 + v9) := by rw [mv_e, if_neg (by omega), if_neg (by omega)]; exact k2 _ (by omega)
    have := at_page h2.2.1.1 hY (q := v9) (o := o) (by omega) (by rw [e8]; omega)
    rw [rS_c (z := z) (z' := rf_mv (rf_kj z) v9 o) v9 (fun j _ => by rw [mv_e, if_neg (by omega), if_neg (by omega)]; exact k2 _ (by omega))] at this
    rw [← e1, ← e3] at this
    have u1 : rf_mv (rf_kj z) v9 o 1 = v9 := by rw [mv_e, if_neg (by omega), if_pos rfl]
    have u2 : rf_mv (rf_kj z) v9 o 2 = o := by rw [mv_e, if_pos rfl]
    rw [bk_start_e hL.2.1.1 (by omega), this, u1, u2]
theorem mo_jb {M : mk_T} (h : mk_ok b M) (h0 : 0 < M.2.1) : mk_ok b (mk_jb M) := by
  obtain ⟨a1, a2, a3, a4, a5, a6⟩ := h
  exact ⟨a4 _, by show 0 ≤ M.2.1 - 1 ∧ M.2.1 - 1 ≤ 5; omega, a3, a4, a5, a6⟩
theorem p_back (hL : LK b n f I P M H Y Z B NT SB z kp nt nl bf) (hb : b ≤ b' ∧ b' ≤ 800000) : PR G 11 mX7_back mX8_back [] [eS] b' n (cl_f (rf_f f th z kp H.1 nt nl P.2.2.1 P.2.2.2.1 P.2.1 I.1 bf rs rr rq rp mm ln lo lf lt co ro pg pf hsh) I P M H Y Z) := by
  have hm := hL.2.1.2.2.2
  by_cases c1 : M.2.1 = 0
  · exact pr_x (i := 0) rfl rfl (x_back hL.ok c1) (fun f' => r_back1 (hm.2.1.1.symm.trans c1)) (hL.w hb)
  · have hw := hL.w hb
    have h3 := hm.2.1
    obtain ⟨k1, k2, q, o, k3, k4, k5, k6, k7⟩ := mr_bk hm (by omega)
    have h2 : LK b' n f I P (mk_jb M) H Y Z B NT SB (rf_bk z) kp nt nl bf := by
      refine hw.mar k1 (fun j hj => k2 j (by omega)) (fun j => ?_) (mo_jb hw.2.2.2.2.2.2.2.1.1 (by omega))
      have hle := hL.le k3
      by_cases c : j = 0 ∨ 4 ≤ j
      · rw [k2 j c]; exact hL.2.1.2.2.1.1 j
      · have : j = 1 ∨ j = 2 ∨ j = 3 := by omega
        rcases this with rfl | rfl | rfl
        · rw [k5]; omega
        · rw [k6]; omega
        · have := k1.2.1; omega
    obtain ⟨l9, p9, e1, e2, e3, hY, y1, y2⟩ := h2.lay lo lf lt pf
    refine pr_1 hL.1.1 (k_back hL.ok (by omega)) (fun f' => jr_e (r_back (by omega) rfl h2.rf) ?_) h2.ref
    have e8 : rf_bk z (85 + q) = z (85 + q) := k2 _ (by omega)
    have := at_page h2.2.1.1 hY (q := q) (o := o) k3 (by rw [e8]; omega)
    rw [rS_c (z := z) (z' := rf_bk z) q (fun j _ => k2 _ (by omega))] at this
    rw [← e1, ← e3] at this
    rw [k7, this, k5, k6]
theorem turn_x (hL : LK b n f I P M H Y Z B NT SB z kp nt nl bf) (hb : b ≤ b' ∧ b' ≤ 800000) {w l9 p9 : Nat} {lo lf lt pf : Nat → Int} (hY : LAYR B z nl nt P.2.1 NT (cl_RY P Y B NT) lo lf lt l9 p9 pf) (hw : w < p9) : LK b' n f I (cl_RP P) (cl_pl B (cl_RY P Y B NT) w, M.2) H (cl_RY P Y B NT) Z B NT SB (rf_mv z (lo (pf w).toNat) (lf (pf w).toNat)) kp nt nl bf := by
  obtain ⟨p, x, q1, q2, q3, q4, q5, q6, q7⟩ := pl_eq hL.2.1.1 hY hw
  obtain ⟨_, _, c3, c4, _⟩ := hY.2.2.1.1.2.1.bp hL.2.1.1 q2
  rw [q4, Int.toNat_natCast] at c4
  have hle := hL.le q3
  rw [q1, Int.toNat_natCast, q4, q5]
  have hw := hL.w hb
  refine hw.ref.mar (mr_mv hL.2.1.2.2.2 q3 (by omega)) (fun j hj => by rw [mv_e, if_neg (by omega), if_neg (by omega)]) (fun j => ?_) ?_
  · have := hL.2.1.2.2.1.1 j
    rw [mv_e]
    split
    · omega
    · split
      · omega
      · exact this
  · have h9 := hw.2.2.2.2.2.2.2.2.1
    obtain ⟨a1, a2, a3, a4, a5, a6⟩ := hw.2.2.2.2.2.2.2.1.1
    exact ⟨by show -b' ≤ (rS z p : Int) + lf x ∧ (rS z p : Int) + lf x ≤ b'; omega, a2, a3, a4, a5, a6⟩
theorem p_turn (hL : LK b n f I P M H Y Z B NT SB z kp nt nl bf) (hb : b ≤ b' ∧ b' ≤ 800000) {v : Int} (hv : v = 0 ∨ v = 1) : PR G 12 mX7_turn mX8_turn [.int (jI v)] [] b' n (cl_f (rf_f f th z kp H.1 nt nl P.2.2.1 P.2.2.2.1 P.2.1 I.1 bf rs rr rq rp mm ln lo lf lt co ro pg pf hsh) I P M H Y Z) := by
  have hL' := (hL.w hb).ref
  obtain ⟨l9, p9, e1, e2, e3, hY, y1, y2⟩ := hL.lay lo lf lt pf
  have ep : (cl_RY P Y B NT).2.2.2.2.1 = p9 := hY.2.1
  obtain ⟨q, h1, h2, h3, h4, h5⟩ := hL.2.1.2.2.2.1
  have hat := at_page hL.2.1.1 hY (q := q) (o := z 2) h2 ⟨h3, Int.le_of_lt h4⟩
  rw [← h5] at hat
  have hpw := hat
  rw [← e1, ← e3, ← h1] at hpw
  rcases hv with rfl | rfl
  · by_cases c : cl_at B (cl_RY P Y B NT) M.1 + -1 < 0 ∨ (p9 : Int) ≤ cl_at B (cl_RY P Y B NT) M.1 + -1
    · exact pr_1 hL.1.1 (k_turn0N hL.ok (by rw [ep]; exact c)) (fun f' => r_turn0N hL.rf (by rw [← hpw, e3]; exact c)) hL'
    · obtain ⟨w, hw⟩ : ∃ w : Nat, cl_at B (cl_RY P Y B NT) M.1 + -1 = w := ⟨(cl_at B (cl_RY P Y B NT) M.1 + -1).toNat, by omega⟩
      refine pr_1 (B' := B) (NT' := NT) (SB' := SB) hL.1.1 (k_turn0 hL.ok (by rw [ep]; omega)) (fun f' => jr_e (r_turn0 hL.rf (by rw [← hpw, e3]; omega)) (by rw [← hpw])) ?_
      rw [← hpw, hw, Int.toNat_natCast]
      exact turn_x hL hb hY (by omega)
  · by_cases c : cl_at B (cl_RY P Y B NT) M.1 + 1 < 0 ∨ (p9 : Int) ≤ cl_at B (cl_RY P Y B NT) M.1 + 1
    · exact pr_1 hL.1.1 (k_turn1N hL.ok (by rw [ep]; exact c)) (fun f' => r_turn1N hL.rf (by rw [← hpw, e3]; exact c)) hL'
    · obtain ⟨w, hw⟩ : ∃ w : Nat, cl_at B (cl_RY P Y B NT) M.1 + 1 = w := ⟨(cl_at B (cl_RY P Y B NT) M.1 + 1).toNat, by omega⟩
      refine pr_1 (B' := B) (NT' := NT) (SB' := SB) hL.1.1 (k_turn1 hL.ok (by rw [ep]; omega)) (fun f' => jr_e (r_turn1 hL.rf (by rw [← hpw, e3]; omega)) (by rw [← hpw])) ?_
      rw [← hpw, hw, Int.toNat_natCast]
      exact turn_x hL hb hY (by omega)
theorem p_find (hL : LK b n f I P M H Y Z B NT SB z kp nt nl bf) (hb : b ≤ b' ∧ b' ≤ 800000) {v : Int} (hv : v = 0 ∨ v = 1) : PR G 11 mX7_find mX8_find [.int (jI v)] [eS] b' n (cl_f (rf_f f th z kp H.1 nt nl P.2.2.1 P.2.2.2.1 P.2.1 I.1 bf rs rr rq rp mm ln lo lf lt co ro pg pf hsh) I P M H Y Z) := by
  have hw := (ff_eq (b := 0) (Or.inl rfl) hL.1.2.1.1.1 hL.2.2.2.2.1).2
  have hL' := (hL.w hb).iw (v := 0)
  rcases in_whole_b I.1 I.2.1 0 with c | c
  · exact pr_x (i := 0) rfl rfl (x_find hL.ok c) (fun f' => r_find1 hL.1.2.1.1 hL.2.2.2.2.2.1 (hw.symm.trans c)) hL'
  · have q := find_eq (I := in_W I 0) hL.2.1.1 hL.2.1.2.2.2 hL.1.2.1.1.1 hL.2.2.2.2.1 nl nt
    rcases hv with rfl | rfl
    · exact pr_1 hL.1.1 (k_find0 hL.ok c) (fun f' => jr_e (r_find (Or.inl rfl) hL.rf.1 hL.2.2.1.2 hL.1.2.1.1 hL.2.2.2.2.2.1 (hw.symm.trans c)) q.2) hL'
    · exact pr_1 hL.1.1 (k_find1 hL.ok c) (fun f' => jr_e (r_find (Or.inr rfl) hL.rf.1 hL.2.2.1.2 hL.1.2.1.1 hL.2.2.2.2.2.1 (hw.symm.trans c)) q.1) hL'
theorem rS_ge {z : Nat → Int} : ∀ p : Nat, p ≤ rS z p
  | 0 => Nat.zero_le _
  | p + 1 => by have := rS_ge (z := z) p; show p + 1 ≤ rS z p + (z (85 + p)).toNat + 1; omega
theorem rS_ge2 {z : Nat → Int} : ∀ p : Nat, (∀ j, j < p → 1 ≤ z (85 + j)) → 2 * p ≤ rS z p
  | 0, _ => Nat.zero_le _
  | p + 1, h => by
    have h1 := rS_ge2 (z := z) p fun j hj => h j (by omega)
    have h2 := h p (by omega)
    show 2 * (p + 1) ≤ rS z p + (z (85 + p)).toNat + 1; omega
theorem LK.rd (hL : LK b n f I P M H Y Z B NT SB z kp nt nl bf) : (9 ≤ M.1 ∨ bk_PA B M.1 ≤ M.1) ∧ (0 ≤ z 1 ∧ z 1 ≤ 9) ∧ 0 ≤ z 2 ∧ 1 ≤ rf_lt z (z 0).toNat := by
  obtain ⟨q, h1, h2, h3, h4, h5⟩ := hL.2.1.2.2.2.1
  have hP := hL.P0
  have hB := hL.2.1.1
  have h10 := hB.2.2.1.1
  refine ⟨Or.inr ?_, by omega, h3, ?_⟩
  · rw [h5, pa_at hB h2 ⟨h3, Int.le_of_lt h4⟩]
    have h3' : 0 ≤ z 2 := h3
    have := rS_ge (z := z) q; omega
  · have := rS_ge2 (z := z) (bk_P B) fun j hj => (hB.2.2.2.2.1 j hj).1
    have e := rb_lt hB (Nat.le_refl _)
    rw [hP, Int.toNat_natCast]; omega
theorem p_count (hL : LK b n f I P M H Y Z B NT SB z kp nt nl bf) (hb : b ≤ b' ∧ b' ≤ 800000) {v : Int} (b_v : -2147483648 ≤ v ∧ v < 2147483648) : PR G 11 mX7_count mX8_count [.int (jI v)] [eA] b' n (cl_f (rf_f f th z kp H.1 nt nl P.2.2.1 P.2.2.2.1 P.2.1 I.1 bf rs rr rq rp mm ln lo lf lt co ro pg pf hsh) I P M H Y Z) := by
  have hL' := (hL.w hb).ref
  obtain ⟨l9, p9, e1, e2, e3, hY, y1, y2⟩ := hL.lay lo lf lt pf
  obtain ⟨h1, h2, h3, h4⟩ := hL.rd
  by_cases c : v < 0 ∨ 12 ≤ v
  · exact pr_x (i := 0) rfl rfl (x_count hL.ok b_v c) (fun f' => r_count1 hL.rf b_v c) (hL.w hb)
  · refine pr_1 hL.1.1 (k_count hL.ok (by omega) h1) (fun f' => jr_e (r_count hL.rf h2 h3 h4 (by omega)) ?_) hL'
    have this := cnt_eq hL.2.1.1 hL.2.1.2.2.2 hY H.1 (v := v) (by omega)
    rw [← e1, ← e3] at this
    exact this
theorem p_paragraph (hL : LK b n f I P M H Y Z B NT SB z kp nt nl bf) (hb : b ≤ b' ∧ b' ≤ 800000) {v m : Int} (b_v : -2147483648 ≤ v ∧ v < 2147483648) (b_m : -2147483648 ≤ m ∧ m < 2147483648) : PR G 11 mX7_paragraph mX8_paragraph [.int (jI v), .int (jI m)] [eI, eA] b' n (cl_f (rf_f f th z kp H.1 nt nl P.2.2.1 P.2.2.2.1 P.2.1 I.1 bf rs rr rq rp mm ln lo lf lt co ro pg pf hsh) I P M H Y Z) := by
  have hL' := (hL.w hb).ref
  obtain ⟨l9, p9, e1, e2, e3, hY, y1, y2⟩ := hL.lay lo lf lt pf
  have hP := hL.P0
  by_cases c1 : v < 0 ∨ bk_P B ≤ v
  · exact pr_x (i := 0) rfl rfl (x_paragraph1 hL.ok b_v c1) (fun f' => r_paragraph1 hL.rf b_v (by omega)) (hL.w hb)
  by_cases c2 : m < 0 ∨ 5 ≤ m
  · exact pr_x (i := 1) rfl rfl (x_paragraph2 hL.ok b_v b_m (by omega) c2) (fun f' => r_paragraph2 hL.rf (by omega) b_m c2) (hL.w hb)
  · obtain ⟨v9, rfl⟩ : ∃ k : Nat, v = k := ⟨v.toNat, by omega⟩
    refine pr_1 hL.1.1 (k_paragraph hL.ok b_v b_m (by omega) (by omega)) (fun f' => jr_e (r_paragraph hL.rf (by omega) (by omega)) ?_) hL'
    have this := pp_eq hL.2.1.1 hY (p := v9) (by omega) (v := m) (by omega)
    rw [← e1, ← e3] at this
    exact this
theorem p_annotation (hL : LK b n f I P M H Y Z B NT SB z kp nt nl bf) (hb : b ≤ b' ∧ b' ≤ 800000) {v m : Int} (b_v : -2147483648 ≤ v ∧ v < 2147483648) (b_m : -2147483648 ≤ m ∧ m < 2147483648) : PR G 11 mX7_annotation mX8_annotation [.int (jI v), .int (jI m)] [eI, eA] b' n (cl_f (rf_f f th z kp H.1 nt nl P.2.2.1 P.2.2.2.1 P.2.1 I.1 bf rs rr rq rp mm ln lo lf lt co ro pg pf hsh) I P M H Y Z) := by
  have hL' := (hL.w hb).ref
  obtain ⟨l9, p9, e1, e2, e3, hY, y1, y2⟩ := hL.lay lo lf lt pf
  have hm := hL.2.1.2.2.2
  have h14 := hm.2.2.2.1
  by_cases c1 : v < 0 ∨ M.2.2.1 ≤ v
  · exact pr_x (i := 0) rfl rfl (x_annotation1 hL.ok b_v c1) (fun f' => r_annotation1 hL.rf b_v (by omega)) (hL.w hb)
  by_cases c2 : m < 0 ∨ 6 ≤ m
  · exact pr_x (i := 1) rfl rfl (x_annotation2 hL.ok b_v b_m (by omega) c2) (fun f' => r_annotation2 hL.rf (by omega) b_m c2) (hL.w hb)
  · obtain ⟨v9, rfl⟩ : ∃ k : Nat, v = k := ⟨v.toNat, by omega⟩
    refine pr_1 hL.1.1 (k_annotation hL.ok b_v b_m (by omega) (by omega)) (fun f' => jr_e (r_annotation hL.rf (by omega) (by omega)) ?_) hL'
    have this := anp_eq hL.2.1.1 hm hY (k := v9) (by omega) (v := m) (by omega)
    rw [← e1, ← e3] at this
    exact this
theorem mo_cpy2 {S D : Nat → Int} {i0 j0 n0 : Nat} (hS : ∀ i, -b ≤ S i ∧ S i ≤ b) (hD : ∀ i, -b ≤ D i ∧ D i ≤ b) (i : Nat) : -b ≤ va_cpy S D i0 j0 n0 i ∧ va_cpy S D i0 j0 n0 i ≤ b := by
  unfold va_cpy; split
  · exact hS _
  · exact hD _
theorem p_removeAnnotation (hL : LK b n f I P M H Y Z B NT SB z kp nt nl bf) (hb : b ≤ b' ∧ b' ≤ 800000) {v : Int} (b_v : -2147483648 ≤ v ∧ v < 2147483648) : PR G 11 mX7_removeAnnotation mX8_removeAnnotation [.int (jI v)] [eI] b' n (cl_f (rf_f f th z kp H.1 nt nl P.2.2.1 P.2.2.2.1 P.2.1 I.1 bf rs rr rq rp mm ln lo lf lt co ro pg pf hsh) I P M H Y Z) := by
  have hw := hL.w hb
  have hm := hL.2.1.2.2.2
  have h14 := hm.2.2.2.1
  by_cases c1 : v < 0 ∨ M.2.2.1 ≤ v
  · exact pr_x (i := 0) rfl rfl (x_removeAnnotation hL.ok b_v c1) (fun f' => r_removeAnnotation1 h14.2 b_v (by omega)) hw
  · obtain ⟨v9, rfl⟩ : ∃ k : Nat, v = k := ⟨v.toNat, by omega⟩
    obtain ⟨k1, k2, k3, k4⟩ := mr_rm hm (v := v9) (by omega)
    refine pr_1 hL.1.1 (k_removeAnnotation hL.ok (by omega)) (fun f' => jr_e (r_removeAnnotation h14.2 (by omega)) (by rw [k3, h14.1])) (hw.mar k1 (fun j hj => k2 j (by omega)) (k4 10000 (by omega) hL.2.1.2.2.1.1) ?_)
    obtain ⟨a1, a2, a3, a4, a5, a6⟩ := hw.2.2.2.2.2.2.2.1.1
    exact ⟨a1, a2, by show 0 ≤ M.2.2.1 - 1 ∧ M.2.2.1 - 1 ≤ 12; omega, a4, mo_cpy2 a5 a5, mo_cpy2 a6 a6⟩
theorem p_annotate (hL : LK b n f I P M H Y Z B NT SB z kp nt nl bf) (hb : b ≤ b' ∧ b' ≤ 800000) {v o m c : Int} (b_v : -2147483648 ≤ v ∧ v < 2147483648) (b_o : -2147483648 ≤ o ∧ o < 2147483648) (b_m : -2147483648 ≤ m ∧ m < 2147483648) (b_c : -2147483648 ≤ c ∧ c < 2147483648) : PR G 11 mX7_annotate mX8_annotate [.int (jI v), .int (jI o), .int (jI m), .int (jI c)] [eI, eA, eS] b' n (cl_f (rf_f f th z kp H.1 nt nl P.2.2.1 P.2.2.2.1 P.2.1 I.1 bf rs rr rq rp mm ln lo lf lt co ro pg pf hsh) I P M H Y Z) := by
  have hw := hL.w hb
  have hP := hL.P0
  have hm := hL.2.1.2.2.2
  have h14 := hm.2.2.2.1
  by_cases c1 : v < 0 ∨ bk_P B ≤ v
  · exact pr_x (i := 0) rfl rfl (x_annotate0 hL.ok b_v c1) (fun f' => r_annotate1 hL.rf b_v b_o b_m (by omega)) hw
  obtain ⟨v9, rfl⟩ : ∃ k : Nat, v = k := ⟨v.toNat, by omega⟩
  have q := hL.en (p := v9) (by omega)
  have hle := hL.le (p := v9) (by omega)
  by_cases c2 : o < 0 ∨ z (85 + v9) ≤ o
  · exact pr_x (i := 0) rfl rfl (x_annotate1 hL.ok b_v b_o (by omega) (by rw [q]; exact c2)) (fun f' => r_annotate1 hL.rf b_v b_o b_m (by rw [t85]; omega)) hw
  by_cases c3 : m ≤ o ∨ z (85 + v9) < m
  · exact pr_x (i := 0) rfl rfl (x_annotate2 hL.ok b_v b_o b_m b_c (by omega) (by rw [q]; omega) (by rw [q]; exact c3)) (fun f' => r_annotate1 hL.rf b_v b_o b_m (by rw [t85]; omega)) hw
  by_cases c4 : c < 0 ∨ 8 ≤ c
  · exact pr_x (i := 1) rfl rfl (x_annotate3 hL.ok b_v b_o b_m b_c (by omega) (by rw [q]; omega) (by rw [q]; omega) c4) (fun f' => r_annotate2 hL.rf (by rw [t85]; omega) (by rw [t85]; omega) b_c c4) hw
  by_cases c5 : M.2.2.1 = 12
  · exact pr_x (i := 2) rfl rfl (x_annotate4 hL.ok b_v b_o b_m b_c (by omega) (by rw [q]; omega) (by rw [q]; omega) (by omega) c5) (fun f' => r_annotate3 hL.rf (by rw [t85]; omega) (by rw [t85]; omega) (by omega) (by omega)) hw
  · obtain ⟨k1, k2, k3, k4⟩ := mr_at hm (q := v9) (x := o) (y := m) (c := c) (by omega) (by omega) (by omega) (by omega)
    rw [← bk_start_e hL.2.1.1 (show v9 ≤ bk_P B by omega)] at k1
    refine pr_1 hL.1.1 (k_annotate hL.ok b_v b_o b_m b_c (by omega) (by rw [q]; omega) (by rw [q]; omega) (by omega) (by omega)) (fun f' => jr_e (r_annotate hL.rf (by rw [t85]; omega) (by rw [t85]; omega) (by omega) (by omega)) (by rw [k3, h14.1]; omega)) (hw.mar k1 (fun j hj => k2 j (by omega)) (k4 10000 (by omega) (by omega) (by omega) hL.2.1.2.2.1.1) ?_)
    have h9 := hw.2.2.2.2.2.2.2.2.1
    obtain ⟨a1, a2, a3, a4, a5, a6⟩ := hw.2.2.2.2.2.2.2.1.1
    have up : ∀ (F : Nat → Int) (k : Nat) (x : Int), (∀ i, -b' ≤ F i ∧ F i ≤ b') → -b' ≤ x ∧ x ≤ b' → ∀ i, -b' ≤ va_up F k x i ∧ va_up F k x i ≤ b' := fun F k x hF hx i => by
      by_cases e : i = k
      · rw [e, va_up_self]; exact hx
      · rw [va_up_ne _ _ e]; exact hF i
    rw [bk_start_e hL.2.1.1 (show v9 ≤ bk_P B by omega)]
    exact ⟨a1, a2, by show 0 ≤ M.2.2.1 + 1 ∧ M.2.2.1 + 1 ≤ 12; omega, a4, up _ _ _ a5 (by omega), up _ _ _ a6 (by omega)⟩
end PAIRS
