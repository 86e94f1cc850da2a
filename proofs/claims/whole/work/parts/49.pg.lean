/-! ===== public methods: notes, edits, load ===== -/
def mk_og (M : mk_T) (gap many : Int) : mk_T := (mk_op M.1 gap many, M.2.1, M.2.2.1, ji_map (fun k => mk_op (M.2.2.2.1 k) gap many) M.2.2.2.1 5, ji_map (fun k => mk_op (M.2.2.2.2.1 k) gap many) M.2.2.2.2.1 12, ji_map (mk_oT M.2.2.2.2.1 M.2.2.2.2.2.1 gap many) M.2.2.2.2.2.1 12, M.2.2.2.2.2.2)
def mk_cg (M : mk_T) (xa ya refuge : Int) : mk_T := (mk_cl M.1 xa ya refuge, M.2.1, M.2.2.1, ji_map (fun k => mk_cl (M.2.2.2.1 k) xa ya refuge) M.2.2.2.1 5, ji_map (fun k => mk_cl (M.2.2.2.2.1 k) xa ya xa) M.2.2.2.2.1 12, ji_map (fun k => mk_cl (M.2.2.2.2.2.1 k) xa ya xa) M.2.2.2.2.2.1 12, M.2.2.2.2.2.2)
def mk_ct (M : mk_T) (blank : Int) : mk_T := (mk_cut M.1 blank, M.2.1, M.2.2.1, ji_map (fun k => mk_cut (M.2.2.2.1 k) blank) M.2.2.2.1 5, M.2.2.2.2.1, ji_map (mk_cT M.2.2.2.2.1 M.2.2.2.2.2.1 blank) M.2.2.2.2.2.1 12, M.2.2.2.2.2.2)
def in_pd (I : in_T) (x1 x2 : Int) : Nat → Int := ji_fill (fun k => in_sign I.1 I.2.1 (k - x1)) (x1 + I.1 + x2)
section PG
variable {G : ji_G} {d n : Nat} {f : Nat → ji_C} {I : in_T} {P : pg_T} {M : mk_T} {H : hi_T} {Y Z : ly_T} {B : bk_T} {NT : nt_T} {SB : Nat → bk_T}

theorem cl_nw {c : ji_C} (h72 : 72 ≤ n) : va_up (cl_f f I P M H Y Z) n c = cl_f (va_up f n c) I P M H Y Z := by
  funext x
  by_cases hx : x = n
  · subst hx; rw [va_up_self, cl_d (Or.inl (Or.inr h72)), va_up_self]
  · rw [va_up_ne _ _ hx]
    by_cases hd : ji_dy x ∨ 60 ≤ x
    · rw [cl_d hd, cl_d hd, va_up_ne _ _ hx]
    · exact cl_xf ⟨fun q => hd (Or.inl q), by omega⟩
def cl_kp (h h' : ji_H) : Prop := ji_keep h h' ∧ ∀ a, 60 ≤ a → a < h.1 → h'.2 a = h.2 a
theorem cl_kp.trans {h1 h2 h3 : ji_H} (a : cl_kp h1 h2) (b : cl_kp h2 h3) : cl_kp h1 h3 := ⟨a.1.trans b.1, fun q hq hl => (b.2 q hq (Nat.lt_of_lt_of_le hl a.1.1)).trans (a.2 q hq hl)⟩
theorem cl_keepX {g : Nat → ji_C} {k : Nat} (hx : ji_ext (n, cl_f f I P M H Y Z) (n + k, cl_f g I P M H Y Z) k) : cl_kp (n, f) (n + k, g) := by
  have hh : ∀ a, ji_dy a ∨ 60 ≤ a → a < n → g a = f a := fun a ha hl => by
    have h2 : cl_f g I P M H Y Z a = cl_f f I P M H Y Z a := hx.2 a hl
    rw [cl_d ha, cl_d ha] at h2
    exact h2
  exact ⟨⟨by show n ≤ n + k; omega, fun a ha hl => hh a (Or.inl ha) hl⟩, fun a ha hl => hh a (Or.inr ha) hl⟩
theorem cl_extE {h' : ji_H} {k : Nat} (h72 : 72 ≤ n) (hx : ji_ext (n, cl_f f I P M H Y Z) h' k) : ∃ g, h' = (n + k, cl_f g I P M H Y Z) ∧ cl_kp (n, f) (n + k, g) := by
  have e := cl_ext h72 hx
  refine ⟨h'.2, e, ?_⟩
  rw [e] at hx
  exact cl_keepX hx
theorem cl_up {c : ji_C} : cl_kp (n, f) (n + 1, va_up f n c) := ⟨⟨by show n ≤ n + 1; omega, fun a _ hl => va_up_ne _ _ (by have : a < n := hl; omega)⟩, fun a _ hl => va_up_ne _ _ (by have : a < n := hl; omega)⟩
theorem c_padded (h72 : 72 ≤ n) {x1 x2 : Int} (hk : in_ok I.1 I.2.1) (h1 : 0 ≤ x1 ∧ x1 ≤ 10) (h2 : 0 ≤ x2 ∧ x2 ≤ 10) : JM G (d + 1) mX2_padded [.ref 1, .int (jI x1), .int (jI x2)] (n, cl_f f I P M H Y Z) 1 (x1 + I.1 + x2).toNat (fun r9 h9 => r9 = .inl (some (.ref n)) ∧ h9 = (n + 1, cl_f (va_up f n (.inr (.char, (x1 + I.1 + x2).toNat, .inl (in_pd I x1 x2)))) I P M H Y Z)) := by
  have k := k_Input_padded (G := G) (d := d) (q := 1) (n := n) (f := cl_f f I P M H Y Z) (len := I.1) (g := I.2.1) (S := I.2.2) hk h1 h2 (by omega)
  have e1 : in_h 1 n (cl_f f I P M H Y Z) I.1 I.2.1 I.2.2 = (n, cl_f f I P M H Y Z) := cl_in
  rw [e1] at k
  refine k.mono (fun r h9 hq => ⟨hq.1, hq.2.trans ?_⟩)
  show in_h 1 (n + 1) (va_up (cl_f f I P M H Y Z) n _) I.1 I.2.1 I.2.2 = _
  rw [cl_nw h72]
  exact cl_in
theorem k_Book_endOf_x {h : ji_H} {b : Nat} (hat : bk_at h b B) (hk : bk_ok B) {q xa : Int} (hp : -10000 ≤ q ∧ q ≤ 10000) (e : bk_end B q = xa) : JR G (d + 1) mX0_endOf [.ref b, .int (jI q)] h 0 0 (some (.int (jI xa))) h := e ▸ k_Book_endOf hat hk hp
set_option maxHeartbeats 4000000 in
set_option maxRecDepth 100000 in
theorem x_setNote1 (hok : cl_ok n f I P M H Y Z B NT SB) {v : Int} (b_v : -2147483648 ≤ v ∧ v < 2147483648) (hx : v < 0 ∨ 10 ≤ v) : JX G (d + 7) mX7_setNote [.ref 0, .int (jI (v))] (n, cl_f f I P M H Y Z) 1 6 eI (n, cl_f f I P M H Y Z) := by
  obtain ⟨c1, c2, c3, c4, c5, c6, c7, c8, c9, c10, c11, c12⟩ := id hok
  obtain ⟨⟨hm1, hm1'⟩, hm2, hm3, hmJ, hmF, hmT⟩ := id c8
  obtain ⟨hbat, hbok, hbne⟩ := id c6
  obtain ⟨bw, bkq, bfq, hb0, hb1, hb2, hbw, ⟨hbd, -, -⟩, -⟩ := id hbat
  obtain ⟨⟨hw1, hw2⟩, hh1, hh2⟩ := id c5
  refine ji_ent (by decide) rfl (Nat.le_of_ble_eq_true rfl) rfl ?_
  refine ji_iload_n dX7_setNote_0 rfl ?_
  exact ji_cSx dX7_setNote_1 (x_checkNote b_v hx) rfl wX7_checkNote sX7_checkNote lX7_125 rfl (Nat.le_of_ble_eq_true rfl) rfl (by omega) (by omega)

set_option maxHeartbeats 4000000 in
set_option maxRecDepth 100000 in
theorem x_setNote2 (hok : cl_ok n f I P M H Y Z B NT SB) {v : Int} (hv : 0 ≤ v ∧ v < 10) (hx : in_whole I.1 I.2.1 0 = 0) : JX G (d + 7) mX7_setNote [.ref 0, .int (jI (v))] (n, cl_f f I P M H Y Z) 1 6 eS (n, cl_f f (in_W I 0) P M H Y Z) := by
  obtain ⟨c1, c2, c3, c4, c5, c6, c7, c8, c9, c10, c11, c12⟩ := id hok
  obtain ⟨⟨hm1, hm1'⟩, hm2, hm3, hmJ, hmF, hmT⟩ := id c8
  obtain ⟨hbat, hbok, hbne⟩ := id c6
  obtain ⟨bw, bkq, bfq, hb0, hb1, hb2, hbw, ⟨hbd, -, -⟩, -⟩ := id hbat
  obtain ⟨⟨hw1, hw2⟩, hh1, hh2⟩ := id c5
  refine ji_ent (by decide) rfl (Nat.le_of_ble_eq_true rfl) rfl ?_
  refine ji_iload_n dX7_setNote_0 rfl ?_
  refine ji_cSv dX7_setNote_1 (k_checkNote (by omega) hv) rfl wX7_checkNote sX7_checkNote lX7_125 rfl (Nat.le_of_ble_eq_true rfl) rfl ?_
  refine ji_aload_n dX7_setNote_4 rfl trivial ?_
  exact ji_cVx dX7_setNote_5 (x_checkWordList hok hx) rfl (cl_0h) rfl rfl wX7_checkWordList vX7_checkWordList lX7_129 rfl (Nat.le_of_ble_eq_true rfl) rfl (by omega) (by omega)

set_option maxHeartbeats 4000000 in
set_option maxRecDepth 100000 in
theorem x_removeNote1 (hok : cl_ok n f I P M H Y Z B NT SB) {v : Int} (b_v : -2147483648 ≤ v ∧ v < 2147483648) (hx : v < 0 ∨ 10 ≤ v) : JX G (d + 7) mX7_removeNote [.ref 0, .int (jI (v))] (n, cl_f f I P M H Y Z) 1 6 eI (n, cl_f f I P M H Y Z) := by
  obtain ⟨c1, c2, c3, c4, c5, c6, c7, c8, c9, c10, c11, c12⟩ := id hok
  obtain ⟨⟨hm1, hm1'⟩, hm2, hm3, hmJ, hmF, hmT⟩ := id c8
  obtain ⟨hbat, hbok, hbne⟩ := id c6
  obtain ⟨bw, bkq, bfq, hb0, hb1, hb2, hbw, ⟨hbd, -, -⟩, -⟩ := id hbat
  obtain ⟨⟨hw1, hw2⟩, hh1, hh2⟩ := id c5
  refine ji_ent (by decide) rfl (Nat.le_of_ble_eq_true rfl) rfl ?_
  refine ji_iload_n dX7_removeNote_0 rfl ?_
  exact ji_cSx dX7_removeNote_1 (x_checkNote b_v hx) rfl wX7_checkNote sX7_checkNote lX7_125 rfl (Nat.le_of_ble_eq_true rfl) rfl (by omega) (by omega)

set_option maxHeartbeats 4000000 in
set_option maxRecDepth 100000 in
theorem x_removeNote2 (hok : cl_ok n f I P M H Y Z B NT SB) {v : Int} (hv : 0 ≤ v ∧ v < 10) (hx : P.1 v.toNat = none) : JX G (d + 7) mX7_removeNote [.ref 0, .int (jI (v))] (n, cl_f f I P M H Y Z) 1 6 eS (n, cl_f f I P M H Y Z) := by
  obtain ⟨c1, c2, c3, c4, c5, c6, c7, c8, c9, c10, c11, c12⟩ := id hok
  obtain ⟨⟨hm1, hm1'⟩, hm2, hm3, hmJ, hmF, hmT⟩ := id c8
  obtain ⟨hbat, hbok, hbne⟩ := id c6
  obtain ⟨bw, bkq, bfq, hb0, hb1, hb2, hbw, ⟨hbd, -, -⟩, -⟩ := id hbat
  obtain ⟨⟨hw1, hw2⟩, hh1, hh2⟩ := id c5
  refine ji_ent (by decide) rfl (Nat.le_of_ble_eq_true rfl) rfl ?_
  refine ji_iload_n dX7_removeNote_0 rfl ?_
  refine ji_cSv dX7_removeNote_1 (k_checkNote (by omega) hv) rfl wX7_checkNote sX7_checkNote lX7_125 rfl (Nat.le_of_ble_eq_true rfl) rfl ?_
  refine ji_aload_n dX7_removeNote_4 rfl trivial ?_
  refine ji_get (ci := 7) (k := 1) rfl dX7_removeNote_5 lX7_18 (by decide) (cl_0h) rfl ?_
  refine ji_iload_n dX7_removeNote_8 rfl ?_
  refine ji_aaloadN dX7_removeNote_9 (cl_4h) (fun cy => rfl) (by omega) (hx) ?_
  refine ji_ifnonnullN dX7_removeNote_10 ?_
  exact ji_throw (text := "the note has no text") ji_thrS rfl (by decide) rfl dX7_removeNote_13 dX7_removeNote_16 dX7_removeNote_17 dX7_removeNote_19 dX7_removeNote_22 (by omega) (by omega) (Nat.le_of_ble_eq_true rfl) ⟨rfl, rfl⟩

theorem cl_s4 {nf : Nat → Option Nat} : ((n, cl_f f I P M H Y Z).1, va_up (n, cl_f f I P M H Y Z).2 4 (.inr (.object RX6, 10, .inr (.inr nf)))) = (n, cl_f f I (nf, P.2) M H Y Z) := congrArg (Prod.mk n) cl_nt
theorem ji_aastoreW {mm : ji_M} {pc : Nat} {L : List (Option Value)} {st : List Value} {bc bs : Nat} {Q : ji_R → ji_H → Prop} {a : Nat} {fs : List Value} {i : Int} (hd : decode mm.2.1 pc = .ok (.aastore, 1)) (hi : 0 ≤ i ∧ i < 10) (ha : ji_dy a) (ho : f a = .inl (6, fs))
    (kk : JW G d mm (pc + 1) L st (n, cl_f f I (va_up P.1 i.toNat (some a), P.2) M H Y Z) bc bs Q) : JW G d mm pc L (.ref a :: .int (jI i) :: .ref 4 :: st) (n, cl_f f I P M H Y Z) bc bs Q :=
  ji_aastore (C := RX6) (T := TX6) (N := 2) hd cl_4h (fun cy => rfl) (by omega) rfl ((cl_dh ha).trans ho) (by rw [cl_s4]; exact kk)
theorem ji_aastoreWN {mm : ji_M} {pc : Nat} {L : List (Option Value)} {st : List Value} {bc bs : Nat} {Q : ji_R → ji_H → Prop} {i : Int} (hd : decode mm.2.1 pc = .ok (.aastore, 1)) (hi : 0 ≤ i ∧ i < 10)
    (kk : JW G d mm (pc + 1) L st (n, cl_f f I (va_up P.1 i.toNat none, P.2) M H Y Z) bc bs Q) : JW G d mm pc L (.null :: .int (jI i) :: .ref 4 :: st) (n, cl_f f I P M H Y Z) bc bs Q :=
  ji_aastoreN hd cl_4h (fun cy => rfl) (by omega) (by rw [cl_s4]; exact kk)
set_option maxHeartbeats 4000000 in
set_option maxRecDepth 100000 in
theorem k_removeNote (hok : cl_ok n f I P M H Y Z B NT SB) {v : Int} (hv : 0 ≤ v ∧ v < 10) {a : Nat} (hx : P.1 v.toNat = some a) : JR G (d + 2) mX7_removeNote [.ref 0, .int (jI (v))] (n, cl_f f I P M H Y Z) 0 0 (some (.int (jI (nt_wd NT v.toNat)))) (n, cl_f f I (va_up P.1 v.toNat none, P.2.1, P.2.2.1, P.2.2.2.1, P.2.2.2.2.1, 1) M H Y Z) := by
  obtain ⟨c1, c2, c3, c4, c5, c6, c7, c8, c9, c10, c11, c12⟩ := id hok
  obtain ⟨⟨hm1, hm1'⟩, hm2, hm3, hmJ, hmF, hmT⟩ := id c8
  obtain ⟨hbat, hbok, hbne⟩ := id c6
  obtain ⟨bw, bkq, bfq, hb0, hb1, hb2, hbw, ⟨hbd, -, -⟩, -⟩ := id hbat
  obtain ⟨⟨hw1, hw2⟩, hh1, hh2⟩ := id c5
  refine ji_ent (by decide) rfl (Nat.le_of_ble_eq_true rfl) rfl ?_
  refine ji_iload_n dX7_removeNote_0 rfl ?_
  refine ji_cSv dX7_removeNote_1 (k_checkNote (by omega) hv) rfl wX7_checkNote sX7_checkNote lX7_125 rfl (Nat.le_of_ble_eq_true rfl) rfl ?_
  refine ji_aload_n dX7_removeNote_4 rfl trivial ?_
  refine ji_get (ci := 7) (k := 1) rfl dX7_removeNote_5 lX7_18 (by decide) (cl_0h) rfl ?_
  refine ji_iload_n dX7_removeNote_8 rfl ?_
  refine ji_aaloadS dX7_removeNote_9 (cl_4h) (fun cy => rfl) (by omega) (hx) ?_
  refine ji_ifnonnull (tgt := 23) dX7_removeNote_10 rfl ?_
  refine ji_aload_n dX7_removeNote_23 rfl trivial ?_
  refine ji_iload_n dX7_removeNote_24 rfl ?_
  refine ji_cV dX7_removeNote_25 (k_wordsOfNote hok hv) rfl (cl_0h) rfl rfl wX7_wordsOfNote vX7_wordsOfNote lX7_132 rfl (Nat.le_of_ble_eq_true rfl) rfl ?_
  refine ji_istore_n dX7_removeNote_28 (by decide) rfl ?_
  refine ji_aload_n dX7_removeNote_29 rfl trivial ?_
  refine ji_get (ci := 7) (k := 1) rfl dX7_removeNote_30 lX7_18 (by decide) (cl_0h) rfl ?_
  refine ji_iload_n dX7_removeNote_33 rfl ?_
  refine ji_null dX7_removeNote_34 ?_
  refine ji_aastoreWN dX7_removeNote_35 (by omega) ?_
  refine ji_aload_n dX7_removeNote_36 rfl trivial ?_
  refine ji_iconst dX7_removeNote_37 ?_
  refine ji_putE (ci := 7) (k := 10) rfl dX7_removeNote_38 lX7_71 (by decide) (cl_0h) (by simp [cl_c0]) (ji_fitZ (by first | omega | decide)) rfl (cl_ps) ?_
  refine ji_iload_n dX7_removeNote_41 rfl ?_
  exact ji_ireturn dX7_removeNote_42 rfl (rfl) ⟨jr_i (by first | rfl | omega), rfl⟩

theorem c_toNote (h72 : 72 ≤ n) {k : Int} (hn : 0 ≤ k ∧ k ≤ 9) (hk : in_ok I.1 I.2.1) : JM G (d + 2) mX2_toNote [.ref 1, .int (jI k)] (n, cl_f f I P M H Y Z) 3 ((2 + I.1 + 0).toNat + 2 + (wd_cnt (in_nt I.1 I.2.1 k) (2 + I.1 + 0).toNat + 2)) (fun r9 h9 => ∃ w9, r9 = .inl (some (.ref w9)) ∧ ji_ext (n, cl_f f I P M H Y Z) h9 3 ∧ wd_at h9 w9 (2 + I.1 + 0).toNat (wd_cnt (in_nt I.1 I.2.1 k) (2 + I.1 + 0).toNat + 1) (in_nt I.1 I.2.1 k) (wd_starts (2 + I.1 + 0).toNat (in_nt I.1 I.2.1 k))) := by
  have kk := k_Input_toNote (G := G) (d := d) (q := 1) (n := n) (f := cl_f f I P M H Y Z) (len := I.1) (g := I.2.1) (S := I.2.2) hn hk (by omega) h72
  have e1 : in_h 1 n (cl_f f I P M H Y Z) I.1 I.2.1 I.2.2 = (n, cl_f f I P M H Y Z) := cl_in
  rw [e1] at kk; exact kk
theorem c_toBook (h72 : 72 ≤ n) (hk : in_ok I.1 I.2.1) : JM G (d + 2) mX2_toBook [.ref 1] (n, cl_f f I P M H Y Z) 6 ((in_tm I.2.1 124 I.1.toNat + 1).toNat + ((in_tm I.2.1 124 I.1.toNat + 1).toNat + 1) + (tb_z I.2.1 I.1.toNat).toNat + (3 + 2 + (wd_cnt (tb_X I.2.1 I.1.toNat) (tb_z I.2.1 I.1.toNat).toNat + 2))) (fun r9 h9 => ∃ b9, r9 = .inl (some (.ref b9)) ∧ ji_ext (n, cl_f f I P M H Y Z) h9 6 ∧ bk_at h9 b9 (tb_B I.1 I.2.1)) := by
  have kk := k_Input_toBook (G := G) (d := d) (q := 1) (n := n) (f := cl_f f I P M H Y Z) (len := I.1) (g := I.2.1) (S := I.2.2) hk (by omega) h72
  have e1 : in_h 1 n (cl_f f I P M H Y Z) I.1 I.2.1 I.2.2 = (n, cl_f f I P M H Y Z) := cl_in
  rw [e1] at kk; exact kk
set_option maxHeartbeats 4000000 in
set_option maxRecDepth 100000 in
theorem k_setNote (hok : cl_ok n f I P M H Y Z B NT SB) {v : Int} (hv : 0 ≤ v ∧ v < 10) (hx : in_whole I.1 I.2.1 0 = 1) : JM G (d + 6) mX7_setNote [.ref 0, .int (jI (v))] (n, cl_f f I P M H Y Z) 3 ((2 + I.1 + 0).toNat + 2 + (wd_cnt (in_nt I.1 I.2.1 v) (2 + I.1 + 0).toNat + 2)) (fun r9 h9 => ∃ g w2, r9 = .inl (some (.int (jI (nt_wd NT v.toNat)))) ∧ h9 = (n + 3, cl_f g (0, (in_W I 0).2) (va_up P.1 v.toNat (some w2), P.2.1, P.2.2.1, P.2.2.2.1, P.2.2.2.2.1, 1) M H Y Z) ∧ cl_kp (n, f) (n + 3, g) ∧ wd_at (n + 3, g) w2 (2 + I.1 + 0).toNat (wd_cnt (in_nt I.1 I.2.1 v) (2 + I.1 + 0).toNat + 1) (in_nt I.1 I.2.1 v) (wd_starts (2 + I.1 + 0).toNat (in_nt I.1 I.2.1 v))) := by
  obtain ⟨c1, c2, c3, c4, c5, c6, c7, c8, c9, c10, c11, c12⟩ := id hok
  obtain ⟨⟨hm1, hm1'⟩, hm2, hm3, hmJ, hmF, hmT⟩ := id c8
  obtain ⟨hbat, hbok, hbne⟩ := id c6
  obtain ⟨bw, bkq, bfq, hb0, hb1, hb2, hbw, ⟨hbd, -, -⟩, -⟩ := id hbat
  obtain ⟨⟨hw1, hw2⟩, hh1, hh2⟩ := id c5
  refine ji_ent (by decide) rfl (Nat.le_of_ble_eq_true rfl) rfl ?_
  refine ji_iload_n dX7_setNote_0 rfl ?_
  refine ji_cSv dX7_setNote_1 (k_checkNote (by omega) hv) rfl wX7_checkNote sX7_checkNote lX7_125 rfl (Nat.le_of_ble_eq_true rfl) rfl ?_
  refine ji_aload_n dX7_setNote_4 rfl trivial ?_
  refine ji_cVv dX7_setNote_5 (k_checkWordList hok hx) rfl (cl_0h) rfl rfl wX7_checkWordList vX7_checkWordList lX7_129 rfl (Nat.le_of_ble_eq_true rfl) rfl ?_
  refine ji_aload_n dX7_setNote_8 rfl trivial ?_
  refine ji_iload_n dX7_setNote_9 rfl ?_
  refine ji_cV dX7_setNote_10 (k_wordsOfNote (I := in_W I 0) hok hv) rfl (cl_0h) rfl rfl wX7_wordsOfNote vX7_wordsOfNote lX7_132 rfl (Nat.le_of_ble_eq_true rfl) rfl ?_
  refine ji_istore_n dX7_setNote_13 (by decide) rfl ?_
  refine ji_aload_n dX7_setNote_14 rfl trivial ?_
  refine ji_get (ci := 7) (k := 1) rfl dX7_setNote_15 lX7_18 (by decide) (cl_0h) rfl ?_
  refine ji_iload_n dX7_setNote_18 rfl ?_
  refine ji_aload_n dX7_setNote_19 rfl trivial ?_
  refine ji_get (ci := 7) (k := 0) rfl dX7_setNote_20 lX7_12 (by decide) (cl_0h) rfl ?_
  refine ji_iload_n dX7_setNote_23 rfl ?_
  refine ji_callV dX7_setNote_24 (c_toNote (I := in_W I 0) c1 (by omega) c2) rfl (cl_1h) rfl rfl wX2_toNote vX2_toNote lX7_136 rfl (Nat.le_of_ble_eq_true rfl) rfl (by omega) (by first | omega | exact Nat.le_refl _) (fun r8 h8 hq8 => ?_) (fun E8 h8 hq8 => by obtain ⟨w9, q, -⟩ := hq8; cases q)
  obtain ⟨w2, hq1, hext, hwn⟩ := hq8
  cases hq1
  obtain ⟨g, e9, hkp⟩ := cl_extE c1 hext
  subst e9
  have hwn2 := hwn.kept cl_fk
  obtain ⟨wt, wq, hn0', -, -, ⟨hnd, -, -⟩, -⟩ := id hwn2
  refine ji_aastoreW dX7_setNote_27 (by omega) hnd hn0' ?_
  refine ji_aload_n dX7_setNote_28 rfl trivial ?_
  refine ji_get (ci := 7) (k := 0) rfl dX7_setNote_29 lX7_12 (by decide) (cl_0h) rfl ?_
  refine ji_cVv dX7_setNote_32 (cl_jI (0, (in_W I 0).2) k_Input_empty) rfl (cl_1h) rfl rfl wX2_empty vX2_empty lX7_99 rfl (Nat.le_of_ble_eq_true rfl) rfl ?_
  refine ji_aload_n dX7_setNote_35 rfl trivial ?_
  refine ji_iconst dX7_setNote_36 ?_
  refine ji_putE (ci := 7) (k := 10) rfl dX7_setNote_37 lX7_71 (by decide) (cl_0h) (by simp [cl_c0]) (ji_fitZ (by first | omega | decide)) rfl (cl_ps) ?_
  refine ji_iload_n dX7_setNote_40 rfl ?_
  exact ji_ireturn dX7_setNote_41 rfl (rfl) ⟨g, w2, rfl, rfl, hkp, hwn2⟩

set_option maxHeartbeats 4000000 in
set_option maxRecDepth 100000 in
theorem x_load (hok : cl_ok n f I P M H Y Z B NT SB) (hx : in_whole I.1 I.2.1 1 = 0) : JX G (d + 6) mX7_load [.ref 0] (n, cl_f f I P M H Y Z) 1 6 eS (n, cl_f f (in_W I 1) P M H Y Z) := by
  obtain ⟨c1, c2, c3, c4, c5, c6, c7, c8, c9, c10, c11, c12⟩ := id hok
  obtain ⟨⟨hm1, hm1'⟩, hm2, hm3, hmJ, hmF, hmT⟩ := id c8
  obtain ⟨hbat, hbok, hbne⟩ := id c6
  obtain ⟨bw, bkq, bfq, hb0, hb1, hb2, hbw, ⟨hbd, -, -⟩, -⟩ := id hbat
  obtain ⟨⟨hw1, hw2⟩, hh1, hh2⟩ := id c5
  refine ji_ent (by decide) rfl (Nat.le_of_ble_eq_true rfl) rfl ?_
  refine ji_aload_n dX7_load_0 rfl trivial ?_
  refine ji_get (ci := 7) (k := 0) rfl dX7_load_1 lX7_12 (by decide) (cl_0h) rfl ?_
  refine ji_iconst dX7_load_4 ?_
  refine ji_cV dX7_load_5 (cl_jI (in_W I 1) (k_Input_isWhole (Or.inr rfl) c2)) rfl (cl_1h) rfl rfl wX2_isWhole vX2_isWhole lX7_106 rfl (Nat.le_of_ble_eq_true rfl) rfl ?_
  refine ji_if_ne (tgt := 21) dX7_load_8 rfl (by omega) (fun c8 => ?_) (fun c8 => ?_)
  · try (exfalso; omega)
    all_goals
      refine ji_aload_n dX7_load_21 rfl trivial ?_
      refine ji_aload_n dX7_load_22 rfl trivial ?_
      refine ji_get (ci := 7) (k := 0) rfl dX7_load_23 lX7_12 (by decide) (cl_0h) rfl ?_
      fail "no contract for Input.toBook at 26"
  · try (exfalso; omega)
    all_goals
      exact ji_throw (text := "the buffer is not a book") ji_thrS rfl (by decide) rfl dX7_load_11 dX7_load_14 dX7_load_15 dX7_load_17 dX7_load_20 (by omega) (by omega) (Nat.le_of_ble_eq_true rfl) ⟨rfl, rfl⟩

set_option maxHeartbeats 4000000 in
set_option maxRecDepth 100000 in
theorem k_load (hok : cl_ok n f I P M H Y Z B NT SB) (hx : in_whole I.1 I.2.1 1 = 1) (hB : bk_ok (tb_B I.1 I.2.1)) : JM G (d + 6) mX7_load [.ref 0] (n, cl_f f I P M H Y Z) 6 ((in_tm I.2.1 124 I.1.toNat + 1).toNat + ((in_tm I.2.1 124 I.1.toNat + 1).toNat + 1) + (tb_z I.2.1 I.1.toNat).toNat + (3 + 2 + (wd_cnt (tb_X I.2.1 I.1.toNat) (tb_z I.2.1 I.1.toNat).toNat + 2))) (fun r9 h9 => ∃ g b2, r9 = .inl (some (.int (jI (bk_P (tb_B I.1 I.2.1))))) ∧ h9 = (n + 6, cl_f g (0, (in_W I 1).2) (P.1, P.2.1, P.2.2.1, P.2.2.2.1, b2, 1) (0, 0, 0, M.2.2.2) (0, H.2) Y Z) ∧ cl_kp (n, f) (n + 6, g) ∧ bk_at (n + 6, g) b2 (tb_B I.1 I.2.1)) := by
  obtain ⟨c1, c2, c3, c4, c5, c6, c7, c8, c9, c10, c11, c12⟩ := id hok
  obtain ⟨⟨hm1, hm1'⟩, hm2, hm3, hmJ, hmF, hmT⟩ := id c8
  obtain ⟨hbat, hbok, hbne⟩ := id c6
  obtain ⟨bw, bkq, bfq, hb0, hb1, hb2, hbw, ⟨hbd, -, -⟩, -⟩ := id hbat
  obtain ⟨⟨hw1, hw2⟩, hh1, hh2⟩ := id c5
  refine ji_ent (by decide) rfl (Nat.le_of_ble_eq_true rfl) rfl ?_
  refine ji_aload_n dX7_load_0 rfl trivial ?_
  refine ji_get (ci := 7) (k := 0) rfl dX7_load_1 lX7_12 (by decide) (cl_0h) rfl ?_
  refine ji_iconst dX7_load_4 ?_
  refine ji_cV dX7_load_5 (cl_jI (in_W I 1) (k_Input_isWhole (Or.inr rfl) c2)) rfl (cl_1h) rfl rfl wX2_isWhole vX2_isWhole lX7_106 rfl (Nat.le_of_ble_eq_true rfl) rfl ?_
  refine ji_if_ne (tgt := 21) dX7_load_8 rfl (by omega) (fun c8 => ?_) (fun c8 => ?_)
  · try (exfalso; omega)
    all_goals
      refine ji_aload_n dX7_load_21 rfl trivial ?_
      refine ji_aload_n dX7_load_22 rfl trivial ?_
      refine ji_get (ci := 7) (k := 0) rfl dX7_load_23 lX7_12 (by decide) (cl_0h) rfl ?_
      refine ji_callV dX7_load_26 (c_toBook (I := in_W I 1) c1 c2) rfl (cl_1h) rfl rfl wX2_toBook vX2_toBook lX7_112 rfl (Nat.le_of_ble_eq_true rfl) rfl (by omega) (by first | omega | exact Nat.le_refl _) (fun r8 h8 hq8 => ?_) (fun E8 h8 hq8 => by obtain ⟨w9, q, -⟩ := hq8; cases q)
      obtain ⟨b2, hq1, hext, hbn⟩ := hq8
      cases hq1
      obtain ⟨g, e9, hkp⟩ := cl_extE c1 hext
      subst e9
      have hbn2 := hbn.kept cl_fk
      obtain ⟨bw2, bkq2, bfq2, hb0', -, -, -, ⟨hbd', -, -⟩, -⟩ := id hbn2
      refine ji_putE (ci := 7) (k := 5) rfl dX7_load_29 lX7_41 (by decide) (cl_0h) (by simp [cl_c0]) (ji_fitO _ trivial) rfl (cl_pb) ?_
      refine ji_aload_n dX7_load_32 rfl trivial ?_
      refine ji_get (ci := 7) (k := 0) rfl dX7_load_33 lX7_12 (by decide) (cl_0h) rfl ?_
      refine ji_cVv dX7_load_36 (cl_jI (0, (in_W I 1).2) k_Input_empty) rfl (cl_1h) rfl rfl wX2_empty vX2_empty lX7_99 rfl (Nat.le_of_ble_eq_true rfl) rfl ?_
      refine ji_aload_n dX7_load_39 rfl trivial ?_
      refine ji_get (ci := 7) (k := 6) rfl dX7_load_40 lX7_48 (by decide) (cl_0h) rfl ?_
      refine ji_cVv dX7_load_43 (cl_jM (0, 0, 0, M.2.2.2) k_Marks_reset) rfl (cl_12h) rfl rfl wX4_reset vX4_reset lX7_116 rfl (Nat.le_of_ble_eq_true rfl) rfl ?_
      refine ji_aload_n dX7_load_46 rfl trivial ?_
      refine ji_get (ci := 7) (k := 7) rfl dX7_load_47 lX7_55 (by decide) (cl_0h) rfl ?_
      refine ji_cVv dX7_load_50 (cl_jH 0 H.2.1 H.2.2.1 k_History_forget) rfl (cl_17h) rfl rfl wX1_forget vX1_forget lX7_119 rfl (Nat.le_of_ble_eq_true rfl) rfl ?_
      refine ji_aload_n dX7_load_53 rfl trivial ?_
      refine ji_iconst dX7_load_54 ?_
      refine ji_putE (ci := 7) (k := 10) rfl dX7_load_55 lX7_71 (by decide) (cl_0h) (by simp [cl_c0]) (ji_fitZ (by first | omega | decide)) rfl (cl_ps) ?_
      refine ji_aload_n dX7_load_58 rfl trivial ?_
      refine ji_get (ci := 7) (k := 5) rfl dX7_load_59 lX7_41 (by decide) (cl_0h) rfl ?_
      refine ji_cV dX7_load_62 (k_Book_paragraphs (hbn2.kept cl_kf) hB) rfl ((cl_dh hbd').trans hb0') rfl rfl wX0_paragraphs vX0_paragraphs lX7_122 rfl (Nat.le_of_ble_eq_true rfl) rfl ?_
      exact ji_ireturn dX7_load_65 rfl (rfl) ⟨g, b2, rfl, rfl, hkp, hbn2⟩
  · try (exfalso; omega)
    all_goals
      exact ji_throw (text := "the buffer is not a book") ji_thrS rfl (by decide) rfl dX7_load_11 dX7_load_14 dX7_load_15 dX7_load_17 dX7_load_20 (by omega) (by omega) (Nat.le_of_ble_eq_true rfl) ⟨g, b2, rfl, rfl, hkp, hbn2⟩

set_option maxHeartbeats 4000000 in
set_option maxRecDepth 100000 in
theorem x_split0 (hok : cl_ok n f I P M H Y Z B NT SB) {v m : Int} (b_v : -2147483648 ≤ v ∧ v < 2147483648) (hx : v < 0 ∨ bk_P B ≤ v) : JX G (d + 7) mX7_split [.ref 0, .int (jI (v)), .int (jI (m))] (n, cl_f f I P M H Y Z) 1 6 eI (n, cl_f f I P M H Y Z) := by
  obtain ⟨c1, c2, c3, c4, c5, c6, c7, c8, c9, c10, c11, c12⟩ := id hok
  obtain ⟨⟨hm1, hm1'⟩, hm2, hm3, hmJ, hmF, hmT⟩ := id c8
  obtain ⟨hbat, hbok, hbne⟩ := id c6
  obtain ⟨bw, bkq, bfq, hb0, hb1, hb2, hbw, ⟨hbd, -, -⟩, -⟩ := id hbat
  obtain ⟨⟨hw1, hw2⟩, hh1, hh2⟩ := id c5
  have hP10 := hbok.2.1
  refine ji_ent (by decide) rfl (Nat.le_of_ble_eq_true rfl) rfl ?_
  refine ji_aload_n dX7_split_0 rfl trivial ?_
  refine ji_iload_n dX7_split_1 rfl ?_
  exact ji_cVx dX7_split_2 (x_checkParagraph hok b_v hx) rfl (cl_0h) rfl rfl wX7_checkParagraph vX7_checkParagraph lX7_241 rfl (Nat.le_of_ble_eq_true rfl) rfl (by omega) (by omega)

set_option maxHeartbeats 4000000 in
set_option maxRecDepth 100000 in
theorem x_split1 (hok : cl_ok n f I P M H Y Z B NT SB) {v m : Int} (b_m : -2147483648 ≤ m ∧ m < 2147483648) (hv : 0 ≤ v ∧ v < bk_P B) (hx : m < 1 ∨ (bk_fw B (v + 1) - bk_fw B v) ≤ m) : JX G (d + 6) mX7_split [.ref 0, .int (jI (v)), .int (jI (m))] (n, cl_f f I P M H Y Z) 1 6 eI (n, cl_f f I P M H Y Z) := by
  obtain ⟨c1, c2, c3, c4, c5, c6, c7, c8, c9, c10, c11, c12⟩ := id hok
  obtain ⟨⟨hm1, hm1'⟩, hm2, hm3, hmJ, hmF, hmT⟩ := id c8
  obtain ⟨hbat, hbok, hbne⟩ := id c6
  obtain ⟨bw, bkq, bfq, hb0, hb1, hb2, hbw, ⟨hbd, -, -⟩, -⟩ := id hbat
  obtain ⟨⟨hw1, hw2⟩, hh1, hh2⟩ := id c5
  have hP10 := hbok.2.1
  have wf0 := bk_fw_b hbok v
  have wf1 := bk_fw_b hbok (v + 1)
  refine ji_ent (by decide) rfl (Nat.le_of_ble_eq_true rfl) rfl ?_
  refine ji_aload_n dX7_split_0 rfl trivial ?_
  refine ji_iload_n dX7_split_1 rfl ?_
  refine ji_cVv dX7_split_2 (k_checkParagraph hok (by omega) hv) rfl (cl_0h) rfl rfl wX7_checkParagraph vX7_checkParagraph lX7_241 rfl (Nat.le_of_ble_eq_true rfl) rfl ?_
  refine ji_iload_n dX7_split_5 rfl ?_
  refine ji_iconst dX7_split_6 ?_
  refine ji_icmp_lt (tgt := 22) dX7_split_7 rfl (by omega) (by omega) (fun c7 => ?_) (fun c7 => ?_)
  · try (exfalso; omega)
    all_goals
      exact ji_throwW (text := "the word does not exist, or is 0") ji_thrI rfl (by decide) rfl dX7_split_22 dX7_split_25 dX7_split_26 dX7_split_29 dX7_split_32 (by omega) (by omega) (Nat.le_of_ble_eq_true rfl) ⟨rfl, rfl⟩
  · try (exfalso; omega)
    all_goals
      refine ji_iload_n dX7_split_10 rfl ?_
      refine ji_aload_n dX7_split_11 rfl trivial ?_
      refine ji_get (ci := 7) (k := 5) rfl dX7_split_12 lX7_41 (by decide) (cl_0h) rfl ?_
      refine ji_iload_n dX7_split_15 rfl ?_
      refine ji_cV dX7_split_16 (k_Book_wordsOf (hbat.kept cl_kf) hbok (by omega)) rfl ((cl_dh hbd).trans hb0) rfl rfl wX0_wordsOf vX0_wordsOf lX7_273 rfl (Nat.le_of_ble_eq_true rfl) rfl ?_
      refine ji_icmp_lt (tgt := 33) dX7_split_19 rfl (by omega) (by omega) (fun c19 => ?_) (fun c19 => ?_)
      · try (exfalso; omega)
        all_goals
          refine ji_aload_n dX7_split_33 rfl trivial ?_
          refine ji_get (ci := 7) (k := 5) rfl dX7_split_34 lX7_41 (by decide) (cl_0h) rfl ?_
          refine ji_cV dX7_split_37 (k_Book_paragraphs (hbat.kept cl_kf) hbok) rfl ((cl_dh hbd).trans hb0) rfl rfl wX0_paragraphs vX0_paragraphs lX7_122 rfl (Nat.le_of_ble_eq_true rfl) rfl ?_
          refine ji_bipush dX7_split_40 rfl ?_
          refine ji_icmp_lt (tgt := 56) dX7_split_42 rfl (by omega) (by omega) (fun c42 => ?_) (fun c42 => ?_)
          · try (exfalso; omega)
            all_goals
              refine ji_aload_n dX7_split_56 rfl trivial ?_
              refine ji_get (ci := 7) (k := 7) rfl dX7_split_57 lX7_55 (by decide) (cl_0h) rfl ?_
              refine ji_aload_n dX7_split_60 rfl trivial ?_
              refine ji_get (ci := 7) (k := 5) rfl dX7_split_61 lX7_41 (by decide) (cl_0h) rfl ?_
              refine ji_aload_n dX7_split_64 rfl trivial ?_
              refine ji_get (ci := 7) (k := 6) rfl dX7_split_65 lX7_48 (by decide) (cl_0h) rfl ?_
              fail "no contract for History.keep at 68"
          · try (exfalso; omega)
            all_goals
              exact ji_throwW (text := "there are 10 paragraphs") ji_thrS rfl (by decide) rfl dX7_split_45 dX7_split_48 dX7_split_49 dX7_split_52 dX7_split_55 (by omega) (by omega) (Nat.le_of_ble_eq_true rfl) ⟨rfl, rfl⟩
      · try (exfalso; omega)
        all_goals
          exact ji_throwW (text := "the word does not exist, or is 0") ji_thrI rfl (by decide) rfl dX7_split_22 dX7_split_25 dX7_split_26 dX7_split_29 dX7_split_32 (by omega) (by omega) (Nat.le_of_ble_eq_true rfl) ⟨rfl, rfl⟩

set_option maxHeartbeats 4000000 in
set_option maxRecDepth 100000 in
theorem x_split2 (hok : cl_ok n f I P M H Y Z B NT SB) {v m : Int} (hv : 0 ≤ v ∧ v < bk_P B) (hm : 1 ≤ m ∧ m < (bk_fw B (v + 1) - bk_fw B v)) (hx : bk_P B = 10) : JX G (d + 6) mX7_split [.ref 0, .int (jI (v)), .int (jI (m))] (n, cl_f f I P M H Y Z) 1 6 eS (n, cl_f f I P M H Y Z) := by
  obtain ⟨c1, c2, c3, c4, c5, c6, c7, c8, c9, c10, c11, c12⟩ := id hok
  obtain ⟨⟨hm1, hm1'⟩, hm2, hm3, hmJ, hmF, hmT⟩ := id c8
  obtain ⟨hbat, hbok, hbne⟩ := id c6
  obtain ⟨bw, bkq, bfq, hb0, hb1, hb2, hbw, ⟨hbd, -, -⟩, -⟩ := id hbat
  obtain ⟨⟨hw1, hw2⟩, hh1, hh2⟩ := id c5
  have hP10 := hbok.2.1
  have wf0 := bk_fw_b hbok v
  have wf1 := bk_fw_b hbok (v + 1)
  refine ji_ent (by decide) rfl (Nat.le_of_ble_eq_true rfl) rfl ?_
  refine ji_aload_n dX7_split_0 rfl trivial ?_
  refine ji_iload_n dX7_split_1 rfl ?_
  refine ji_cVv dX7_split_2 (k_checkParagraph hok (by omega) hv) rfl (cl_0h) rfl rfl wX7_checkParagraph vX7_checkParagraph lX7_241 rfl (Nat.le_of_ble_eq_true rfl) rfl ?_
  refine ji_iload_n dX7_split_5 rfl ?_
  refine ji_iconst dX7_split_6 ?_
  refine ji_icmp_lt (tgt := 22) dX7_split_7 rfl (by omega) (by omega) (fun c7 => ?_) (fun c7 => ?_)
  · try (exfalso; omega)
    all_goals
      exact ji_throwW (text := "the word does not exist, or is 0") ji_thrI rfl (by decide) rfl dX7_split_22 dX7_split_25 dX7_split_26 dX7_split_29 dX7_split_32 (by omega) (by omega) (Nat.le_of_ble_eq_true rfl) ⟨rfl, rfl⟩
  · try (exfalso; omega)
    all_goals
      refine ji_iload_n dX7_split_10 rfl ?_
      refine ji_aload_n dX7_split_11 rfl trivial ?_
      refine ji_get (ci := 7) (k := 5) rfl dX7_split_12 lX7_41 (by decide) (cl_0h) rfl ?_
      refine ji_iload_n dX7_split_15 rfl ?_
      refine ji_cV dX7_split_16 (k_Book_wordsOf (hbat.kept cl_kf) hbok (by omega)) rfl ((cl_dh hbd).trans hb0) rfl rfl wX0_wordsOf vX0_wordsOf lX7_273 rfl (Nat.le_of_ble_eq_true rfl) rfl ?_
      refine ji_icmp_lt (tgt := 33) dX7_split_19 rfl (by omega) (by omega) (fun c19 => ?_) (fun c19 => ?_)
      · try (exfalso; omega)
        all_goals
          refine ji_aload_n dX7_split_33 rfl trivial ?_
          refine ji_get (ci := 7) (k := 5) rfl dX7_split_34 lX7_41 (by decide) (cl_0h) rfl ?_
          refine ji_cV dX7_split_37 (k_Book_paragraphs (hbat.kept cl_kf) hbok) rfl ((cl_dh hbd).trans hb0) rfl rfl wX0_paragraphs vX0_paragraphs lX7_122 rfl (Nat.le_of_ble_eq_true rfl) rfl ?_
          refine ji_bipush dX7_split_40 rfl ?_
          refine ji_icmp_lt (tgt := 56) dX7_split_42 rfl (by omega) (by omega) (fun c42 => ?_) (fun c42 => ?_)
          · try (exfalso; omega)
            all_goals
              refine ji_aload_n dX7_split_56 rfl trivial ?_
              refine ji_get (ci := 7) (k := 7) rfl dX7_split_57 lX7_55 (by decide) (cl_0h) rfl ?_
              refine ji_aload_n dX7_split_60 rfl trivial ?_
              refine ji_get (ci := 7) (k := 5) rfl dX7_split_61 lX7_41 (by decide) (cl_0h) rfl ?_
              refine ji_aload_n dX7_split_64 rfl trivial ?_
              refine ji_get (ci := 7) (k := 6) rfl dX7_split_65 lX7_48 (by decide) (cl_0h) rfl ?_
              fail "no contract for History.keep at 68"
          · try (exfalso; omega)
            all_goals
              exact ji_throwW (text := "there are 10 paragraphs") ji_thrS rfl (by decide) rfl dX7_split_45 dX7_split_48 dX7_split_49 dX7_split_52 dX7_split_55 (by omega) (by omega) (Nat.le_of_ble_eq_true rfl) ⟨rfl, rfl⟩
      · try (exfalso; omega)
        all_goals
          exact ji_throwW (text := "the word does not exist, or is 0") ji_thrI rfl (by decide) rfl dX7_split_22 dX7_split_25 dX7_split_26 dX7_split_29 dX7_split_32 (by omega) (by omega) (Nat.le_of_ble_eq_true rfl) ⟨rfl, rfl⟩

set_option maxHeartbeats 4000000 in
set_option maxRecDepth 100000 in
theorem k_split (hok : cl_ok n f I P M H Y Z B NT SB) {p : Nat} {m : Int} (hv : p < bk_P B) (hm : 1 ≤ m ∧ m < bk_fw B ((p : Int) + 1) - bk_fw B p) (hx : bk_P B < 10) (hB : bk_ok (bk_split B p m)) : JM G (d + 4) mX7_split [.ref 0, .int (jI ((p : Int))), .int (jI (m))] (n, cl_f f I P M H Y Z) 3 (bk_P B + 1 + (bk_P B + 2) + 3) (fun r9 h9 => ∃ g b2, r9 = .inl (some (.int (jI (bk_P (bk_split B p m))))) ∧ h9 = (n + 3, cl_f g I (P.1, P.2.1, P.2.2.1, P.2.2.2.1, b2, 1) (mk_ct M (bk_ws B (bk_fw B p + m) - 1)) (hi_k H M P.2.2.2.2.1) Y Z) ∧ cl_kp (n, f) (n + 3, g) ∧ bk_at (n + 3, g) b2 (bk_split B p m)) := by
  obtain ⟨c1, c2, c3, c4, c5, c6, c7, c8, c9, c10, c11, c12⟩ := id hok
  obtain ⟨⟨hm1, hm1'⟩, hm2, hm3, hmJ, hmF, hmT⟩ := id c8
  obtain ⟨hbat, hbok, hbne⟩ := id c6
  obtain ⟨bw, bkq, bfq, hb0, hb1, hb2, hbw, ⟨hbd, -, -⟩, -⟩ := id hbat
  obtain ⟨⟨hw1, hw2⟩, hh1, hh2⟩ := id c5
  have hP10 := hbok.2.1
  have wf0 := bk_fw_b hbok (p : Int)
  have wf1 := bk_fw_b hbok ((p : Int) + 1)
  have hr9 : -1000000 ≤ M.1 ∧ M.1 ≤ 1000000 := by omega
  have hJ9 : ∀ i, -1000000 ≤ M.2.2.2.1 i ∧ M.2.2.2.1 i ≤ 1000000 := fun i => by have := hmJ i; omega
  have hF9 : ∀ i, -1000000 ≤ M.2.2.2.2.1 i ∧ M.2.2.2.2.1 i ≤ 1000000 := fun i => by have := hmF i; omega
  have hT9 : ∀ i, -1000000 ≤ M.2.2.2.2.2.1 i ∧ M.2.2.2.2.2.1 i ≤ 1000000 := fun i => by have := hmT i; omega
  have wws := bk_ws_b hbok (bk_fw B p + m)
  refine ji_ent (by decide) rfl (Nat.le_of_ble_eq_true rfl) rfl ?_
  refine ji_aload_n dX7_split_0 rfl trivial ?_
  refine ji_iload_n dX7_split_1 rfl ?_
  refine ji_cVv dX7_split_2 (k_checkParagraph hok (by omega) (by omega)) rfl (cl_0h) rfl rfl wX7_checkParagraph vX7_checkParagraph lX7_241 rfl (Nat.le_of_ble_eq_true rfl) rfl ?_
  refine ji_iload_n dX7_split_5 rfl ?_
  refine ji_iconst dX7_split_6 ?_
  refine ji_icmp_lt (tgt := 22) dX7_split_7 rfl (by omega) (by omega) (fun c7 => ?_) (fun c7 => ?_)
  · try (exfalso; omega)
    all_goals
      exact ji_throwW (text := "the word does not exist, or is 0") ji_thrI rfl (by decide) rfl dX7_split_22 dX7_split_25 dX7_split_26 dX7_split_29 dX7_split_32 (by omega) (by omega) (Nat.le_of_ble_eq_true rfl) ⟨g, b2, rfl, rfl, hkp, hbn2⟩
  · try (exfalso; omega)
    all_goals
      refine ji_iload_n dX7_split_10 rfl ?_
      refine ji_aload_n dX7_split_11 rfl trivial ?_
      refine ji_get (ci := 7) (k := 5) rfl dX7_split_12 lX7_41 (by decide) (cl_0h) rfl ?_
      refine ji_iload_n dX7_split_15 rfl ?_
      refine ji_cV dX7_split_16 (k_Book_wordsOf (hbat.kept cl_kf) hbok (by omega)) rfl ((cl_dh hbd).trans hb0) rfl rfl wX0_wordsOf vX0_wordsOf lX7_273 rfl (Nat.le_of_ble_eq_true rfl) rfl ?_
      refine ji_icmp_lt (tgt := 33) dX7_split_19 rfl (by omega) (by omega) (fun c19 => ?_) (fun c19 => ?_)
      · try (exfalso; omega)
        all_goals
          refine ji_aload_n dX7_split_33 rfl trivial ?_
          refine ji_get (ci := 7) (k := 5) rfl dX7_split_34 lX7_41 (by decide) (cl_0h) rfl ?_
          refine ji_cV dX7_split_37 (k_Book_paragraphs (hbat.kept cl_kf) hbok) rfl ((cl_dh hbd).trans hb0) rfl rfl wX0_paragraphs vX0_paragraphs lX7_122 rfl (Nat.le_of_ble_eq_true rfl) rfl ?_
          refine ji_bipush dX7_split_40 rfl ?_
          refine ji_icmp_lt (tgt := 56) dX7_split_42 rfl (by omega) (by omega) (fun c42 => ?_) (fun c42 => ?_)
          · try (exfalso; omega)
            all_goals
              refine ji_aload_n dX7_split_56 rfl trivial ?_
              refine ji_get (ci := 7) (k := 7) rfl dX7_split_57 lX7_55 (by decide) (cl_0h) rfl ?_
              refine ji_aload_n dX7_split_60 rfl trivial ?_
              refine ji_get (ci := 7) (k := 5) rfl dX7_split_61 lX7_41 (by decide) (cl_0h) rfl ?_
              refine ji_aload_n dX7_split_64 rfl trivial ?_
              refine ji_get (ci := 7) (k := 6) rfl dX7_split_65 lX7_48 (by decide) (cl_0h) rfl ?_
              refine ji_cVv dX7_split_68 (c_keep c9 hb0 hbd) rfl (cl_17h) rfl rfl wX1_keep vX1_keep lX7_283 rfl (Nat.le_of_ble_eq_true rfl) rfl ?_
              refine ji_aload_n dX7_split_71 rfl trivial ?_
              refine ji_get (ci := 7) (k := 6) rfl dX7_split_72 lX7_48 (by decide) (cl_0h) rfl ?_
              refine ji_aload_n dX7_split_75 rfl trivial ?_
              refine ji_get (ci := 7) (k := 5) rfl dX7_split_76 lX7_41 (by decide) (cl_0h) rfl ?_
              refine ji_iload_n dX7_split_79 rfl ?_
              refine ji_iload_n dX7_split_80 rfl ?_
              refine ji_cV dX7_split_81 (k_Book_placeOfWord (hbat.kept cl_kf) hbok (by omega) (by omega)) rfl ((cl_dh hbd).trans hb0) rfl rfl wX0_placeOfWord vX0_placeOfWord lX7_290 rfl (Nat.le_of_ble_eq_true rfl) rfl ?_
              refine ji_iconst dX7_split_84 ?_
              refine ji_isub dX7_split_85 ?_
              refine ji_cVv dX7_split_86 (cl_jM (mk_ct M (bk_ws B (bk_fw B p + m) - 1)) (k_Marks_cutAt (by omega) hr9 hJ9 hF9 hT9)) rfl (cl_12h) rfl rfl wX4_cutAt vX4_cutAt lX7_320 rfl (Nat.le_of_ble_eq_true rfl) rfl ?_
              refine ji_aload_n dX7_split_89 rfl trivial ?_
              refine ji_aload_n dX7_split_90 rfl trivial ?_
              refine ji_get (ci := 7) (k := 5) rfl dX7_split_91 lX7_41 (by decide) (cl_0h) rfl ?_
              refine ji_iload_n dX7_split_94 rfl ?_
              refine ji_iload_n dX7_split_95 rfl ?_
              refine ji_callV dX7_split_96 (k_Book_withSplit (hbat.kept cl_kf) hbok hv c1) rfl ((cl_dh hbd).trans hb0) rfl rfl wX0_withSplit vX0_withSplit lX7_323 rfl (Nat.le_of_ble_eq_true rfl) rfl (by omega) (by first | omega | exact Nat.le_refl _) (fun r8 h8 hq8 => ?_) (fun E8 h8 hq8 => by obtain ⟨w9, q, -⟩ := hq8; cases q)
              obtain ⟨b2, hq1, hext, hbn⟩ := hq8
              cases hq1
              obtain ⟨g, e9, hkp⟩ := cl_extE c1 hext
              subst e9
              have hbn2 := hbn.kept cl_fk
              obtain ⟨bw2, bkq2, bfq2, hb0', -, -, -, ⟨hbd', -, -⟩, -⟩ := id hbn2
              refine ji_putE (ci := 7) (k := 5) rfl dX7_split_99 lX7_41 (by decide) (cl_0h) (by simp [cl_c0]) (ji_fitO _ trivial) rfl (cl_pb) ?_
              refine ji_aload_n dX7_split_102 rfl trivial ?_
              refine ji_iconst dX7_split_103 ?_
              refine ji_putE (ci := 7) (k := 10) rfl dX7_split_104 lX7_71 (by decide) (cl_0h) (by simp [cl_c0]) (ji_fitZ (by first | omega | decide)) rfl (cl_ps) ?_
              refine ji_aload_n dX7_split_107 rfl trivial ?_
              refine ji_get (ci := 7) (k := 5) rfl dX7_split_108 lX7_41 (by decide) (cl_0h) rfl ?_
              refine ji_cV dX7_split_111 (k_Book_paragraphs (hbn2.kept cl_kf) hB) rfl ((cl_dh hbd').trans hb0') rfl rfl wX0_paragraphs vX0_paragraphs lX7_122 rfl (Nat.le_of_ble_eq_true rfl) rfl ?_
              exact ji_ireturn dX7_split_114 rfl (rfl) ⟨g, b2, rfl, rfl, hkp, hbn2⟩
          · try (exfalso; omega)
            all_goals
              exact ji_throwW (text := "there are 10 paragraphs") ji_thrS rfl (by decide) rfl dX7_split_45 dX7_split_48 dX7_split_49 dX7_split_52 dX7_split_55 (by omega) (by omega) (Nat.le_of_ble_eq_true rfl) ⟨g, b2, rfl, rfl, hkp, hbn2⟩
      · try (exfalso; omega)
        all_goals
          exact ji_throwW (text := "the word does not exist, or is 0") ji_thrI rfl (by decide) rfl dX7_split_22 dX7_split_25 dX7_split_26 dX7_split_29 dX7_split_32 (by omega) (by omega) (Nat.le_of_ble_eq_true rfl) ⟨g, b2, rfl, rfl, hkp, hbn2⟩

set_option maxHeartbeats 4000000 in
set_option maxRecDepth 100000 in
theorem x_join0 (hok : cl_ok n f I P M H Y Z B NT SB) {v : Int} (b_v : -2147483648 ≤ v ∧ v < 2147483648) (hx : v < 0 ∨ bk_P B ≤ v) : JX G (d + 7) mX7_join [.ref 0, .int (jI (v))] (n, cl_f f I P M H Y Z) 1 6 eI (n, cl_f f I P M H Y Z) := by
  obtain ⟨c1, c2, c3, c4, c5, c6, c7, c8, c9, c10, c11, c12⟩ := id hok
  obtain ⟨⟨hm1, hm1'⟩, hm2, hm3, hmJ, hmF, hmT⟩ := id c8
  obtain ⟨hbat, hbok, hbne⟩ := id c6
  obtain ⟨bw, bkq, bfq, hb0, hb1, hb2, hbw, ⟨hbd, -, -⟩, -⟩ := id hbat
  obtain ⟨⟨hw1, hw2⟩, hh1, hh2⟩ := id c5
  have hP10 := hbok.2.1
  refine ji_ent (by decide) rfl (Nat.le_of_ble_eq_true rfl) rfl ?_
  refine ji_aload_n dX7_join_0 rfl trivial ?_
  refine ji_iload_n dX7_join_1 rfl ?_
  exact ji_cVx dX7_join_2 (x_checkParagraph hok b_v hx) rfl (cl_0h) rfl rfl wX7_checkParagraph vX7_checkParagraph lX7_241 rfl (Nat.le_of_ble_eq_true rfl) rfl (by omega) (by omega)

set_option maxHeartbeats 4000000 in
set_option maxRecDepth 100000 in
theorem x_join1 (hok : cl_ok n f I P M H Y Z B NT SB) {v : Int} (hx : v + 1 = bk_P B) : JX G (d + 6) mX7_join [.ref 0, .int (jI (v))] (n, cl_f f I P M H Y Z) 1 6 eI (n, cl_f f I P M H Y Z) := by
  obtain ⟨c1, c2, c3, c4, c5, c6, c7, c8, c9, c10, c11, c12⟩ := id hok
  obtain ⟨⟨hm1, hm1'⟩, hm2, hm3, hmJ, hmF, hmT⟩ := id c8
  obtain ⟨hbat, hbok, hbne⟩ := id c6
  obtain ⟨bw, bkq, bfq, hb0, hb1, hb2, hbw, ⟨hbd, -, -⟩, -⟩ := id hbat
  obtain ⟨⟨hw1, hw2⟩, hh1, hh2⟩ := id c5
  have hP10 := hbok.2.1
  refine ji_ent (by decide) rfl (Nat.le_of_ble_eq_true rfl) rfl ?_
  refine ji_aload_n dX7_join_0 rfl trivial ?_
  refine ji_iload_n dX7_join_1 rfl ?_
  refine ji_cVv dX7_join_2 (k_checkParagraph hok (by omega) (by omega)) rfl (cl_0h) rfl rfl wX7_checkParagraph vX7_checkParagraph lX7_241 rfl (Nat.le_of_ble_eq_true rfl) rfl ?_
  refine ji_iload_n dX7_join_5 rfl ?_
  refine ji_iconst dX7_join_6 ?_
  refine ji_iadd dX7_join_7 ?_
  refine ji_aload_n dX7_join_8 rfl trivial ?_
  refine ji_get (ci := 7) (k := 5) rfl dX7_join_9 lX7_41 (by decide) (cl_0h) rfl ?_
  refine ji_cV dX7_join_12 (k_Book_paragraphs (hbat.kept cl_kf) hbok) rfl ((cl_dh hbd).trans hb0) rfl rfl wX0_paragraphs vX0_paragraphs lX7_122 rfl (Nat.le_of_ble_eq_true rfl) rfl ?_
  refine ji_icmp_lt (tgt := 29) dX7_join_15 rfl (by omega) (by omega) (fun c15 => ?_) (fun c15 => ?_)
  · try (exfalso; omega)
    all_goals
      refine ji_aload_n dX7_join_29 rfl trivial ?_
      refine ji_get (ci := 7) (k := 5) rfl dX7_join_30 lX7_41 (by decide) (cl_0h) rfl ?_
      refine ji_iload_n dX7_join_33 rfl ?_
      refine ji_cV dX7_join_34 (k_Book_wordsOf (hbat.kept cl_kf) hbok (by omega)) rfl ((cl_dh hbd).trans hb0) rfl rfl wX0_wordsOf vX0_wordsOf lX7_273 rfl (Nat.le_of_ble_eq_true rfl) rfl ?_
      refine ji_aload_n dX7_join_37 rfl trivial ?_
      refine ji_get (ci := 7) (k := 5) rfl dX7_join_38 lX7_41 (by decide) (cl_0h) rfl ?_
      refine ji_iload_n dX7_join_41 rfl ?_
      refine ji_iconst dX7_join_42 ?_
      refine ji_iadd dX7_join_43 ?_
      refine ji_cV dX7_join_44 (k_Book_wordsOf (hbat.kept cl_kf) hbok (by omega)) rfl ((cl_dh hbd).trans hb0) rfl rfl wX0_wordsOf vX0_wordsOf lX7_273 rfl (Nat.le_of_ble_eq_true rfl) rfl ?_
      refine ji_iadd dX7_join_47 ?_
      refine ji_bipush dX7_join_48 rfl ?_
      refine ji_icmp_le (tgt := 64) dX7_join_50 rfl (by omega) (by omega) (fun c50 => ?_) (fun c50 => ?_)
      · try (exfalso; omega)
        all_goals
          refine ji_aload_n dX7_join_64 rfl trivial ?_
          refine ji_get (ci := 7) (k := 7) rfl dX7_join_65 lX7_55 (by decide) (cl_0h) rfl ?_
          refine ji_aload_n dX7_join_68 rfl trivial ?_
          refine ji_get (ci := 7) (k := 5) rfl dX7_join_69 lX7_41 (by decide) (cl_0h) rfl ?_
          refine ji_aload_n dX7_join_72 rfl trivial ?_
          refine ji_get (ci := 7) (k := 6) rfl dX7_join_73 lX7_48 (by decide) (cl_0h) rfl ?_
          fail "no contract for History.keep at 76"
      · try (exfalso; omega)
        all_goals
          exact ji_throwW (text := "the paragraph would have more than 24 words") ji_thrS rfl (by decide) rfl dX7_join_53 dX7_join_56 dX7_join_57 dX7_join_60 dX7_join_63 (by omega) (by omega) (Nat.le_of_ble_eq_true rfl) ⟨rfl, rfl⟩
  · try (exfalso; omega)
    all_goals
      exact ji_throwW (text := "the next paragraph does not exist") ji_thrI rfl (by decide) rfl dX7_join_18 dX7_join_21 dX7_join_22 dX7_join_25 dX7_join_28 (by omega) (by omega) (Nat.le_of_ble_eq_true rfl) ⟨rfl, rfl⟩

set_option maxHeartbeats 4000000 in
set_option maxRecDepth 100000 in
theorem x_join2 (hok : cl_ok n f I P M H Y Z B NT SB) {v : Int} (hv : 0 ≤ v ∧ v + 1 < bk_P B) (hx : 24 < (bk_fw B (v + 1) - bk_fw B v) + (bk_fw B (v + 1 + 1) - bk_fw B (v + 1))) : JX G (d + 6) mX7_join [.ref 0, .int (jI (v))] (n, cl_f f I P M H Y Z) 1 6 eS (n, cl_f f I P M H Y Z) := by
  obtain ⟨c1, c2, c3, c4, c5, c6, c7, c8, c9, c10, c11, c12⟩ := id hok
  obtain ⟨⟨hm1, hm1'⟩, hm2, hm3, hmJ, hmF, hmT⟩ := id c8
  obtain ⟨hbat, hbok, hbne⟩ := id c6
  obtain ⟨bw, bkq, bfq, hb0, hb1, hb2, hbw, ⟨hbd, -, -⟩, -⟩ := id hbat
  obtain ⟨⟨hw1, hw2⟩, hh1, hh2⟩ := id c5
  have hP10 := hbok.2.1
  have wf0 := bk_fw_b hbok v
  have wf1 := bk_fw_b hbok (v + 1)
  have wf2 := bk_fw_b hbok (v + 1 + 1)
  refine ji_ent (by decide) rfl (Nat.le_of_ble_eq_true rfl) rfl ?_
  refine ji_aload_n dX7_join_0 rfl trivial ?_
  refine ji_iload_n dX7_join_1 rfl ?_
  refine ji_cVv dX7_join_2 (k_checkParagraph hok (by omega) (by omega)) rfl (cl_0h) rfl rfl wX7_checkParagraph vX7_checkParagraph lX7_241 rfl (Nat.le_of_ble_eq_true rfl) rfl ?_
  refine ji_iload_n dX7_join_5 rfl ?_
  refine ji_iconst dX7_join_6 ?_
  refine ji_iadd dX7_join_7 ?_
  refine ji_aload_n dX7_join_8 rfl trivial ?_
  refine ji_get (ci := 7) (k := 5) rfl dX7_join_9 lX7_41 (by decide) (cl_0h) rfl ?_
  refine ji_cV dX7_join_12 (k_Book_paragraphs (hbat.kept cl_kf) hbok) rfl ((cl_dh hbd).trans hb0) rfl rfl wX0_paragraphs vX0_paragraphs lX7_122 rfl (Nat.le_of_ble_eq_true rfl) rfl ?_
  refine ji_icmp_lt (tgt := 29) dX7_join_15 rfl (by omega) (by omega) (fun c15 => ?_) (fun c15 => ?_)
  · try (exfalso; omega)
    all_goals
      refine ji_aload_n dX7_join_29 rfl trivial ?_
      refine ji_get (ci := 7) (k := 5) rfl dX7_join_30 lX7_41 (by decide) (cl_0h) rfl ?_
      refine ji_iload_n dX7_join_33 rfl ?_
      refine ji_cV dX7_join_34 (k_Book_wordsOf (hbat.kept cl_kf) hbok (by omega)) rfl ((cl_dh hbd).trans hb0) rfl rfl wX0_wordsOf vX0_wordsOf lX7_273 rfl (Nat.le_of_ble_eq_true rfl) rfl ?_
      refine ji_aload_n dX7_join_37 rfl trivial ?_
      refine ji_get (ci := 7) (k := 5) rfl dX7_join_38 lX7_41 (by decide) (cl_0h) rfl ?_
      refine ji_iload_n dX7_join_41 rfl ?_
      refine ji_iconst dX7_join_42 ?_
      refine ji_iadd dX7_join_43 ?_
      refine ji_cV dX7_join_44 (k_Book_wordsOf (hbat.kept cl_kf) hbok (by omega)) rfl ((cl_dh hbd).trans hb0) rfl rfl wX0_wordsOf vX0_wordsOf lX7_273 rfl (Nat.le_of_ble_eq_true rfl) rfl ?_
      refine ji_iadd dX7_join_47 ?_
      refine ji_bipush dX7_join_48 rfl ?_
      refine ji_icmp_le (tgt := 64) dX7_join_50 rfl (by omega) (by omega) (fun c50 => ?_) (fun c50 => ?_)
      · try (exfalso; omega)
        all_goals
          refine ji_aload_n dX7_join_64 rfl trivial ?_
          refine ji_get (ci := 7) (k := 7) rfl dX7_join_65 lX7_55 (by decide) (cl_0h) rfl ?_
          refine ji_aload_n dX7_join_68 rfl trivial ?_
          refine ji_get (ci := 7) (k := 5) rfl dX7_join_69 lX7_41 (by decide) (cl_0h) rfl ?_
          refine ji_aload_n dX7_join_72 rfl trivial ?_
          refine ji_get (ci := 7) (k := 6) rfl dX7_join_73 lX7_48 (by decide) (cl_0h) rfl ?_
          fail "no contract for History.keep at 76"
      · try (exfalso; omega)
        all_goals
          exact ji_throwW (text := "the paragraph would have more than 24 words") ji_thrS rfl (by decide) rfl dX7_join_53 dX7_join_56 dX7_join_57 dX7_join_60 dX7_join_63 (by omega) (by omega) (Nat.le_of_ble_eq_true rfl) ⟨rfl, rfl⟩
  · try (exfalso; omega)
    all_goals
      exact ji_throwW (text := "the next paragraph does not exist") ji_thrI rfl (by decide) rfl dX7_join_18 dX7_join_21 dX7_join_22 dX7_join_25 dX7_join_28 (by omega) (by omega) (Nat.le_of_ble_eq_true rfl) ⟨rfl, rfl⟩

set_option maxHeartbeats 4000000 in
set_option maxRecDepth 100000 in
theorem k_join (hok : cl_ok n f I P M H Y Z B NT SB) {p : Nat} (hv : p + 1 < bk_P B) (hx : (bk_fw B ((p : Int) + 1) - bk_fw B p) + (bk_fw B ((p : Int) + 1 + 1) - bk_fw B ((p : Int) + 1)) ≤ 24) (hB : bk_ok (bk_join B p)) : JM G (d + 4) mX7_join [.ref 0, .int (jI ((p : Int)))] (n, cl_f f I P M H Y Z) 3 (bk_P B + bk_P B + 3) (fun r9 h9 => ∃ g b2, r9 = .inl (some (.int (jI (bk_fw (bk_join B p) ((p : Int) + 1) - bk_fw (bk_join B p) p)))) ∧ h9 = (n + 3, cl_f g I (P.1, P.2.1, P.2.2.1, P.2.2.2.1, b2, 1) M (hi_k H M P.2.2.2.2.1) Y Z) ∧ cl_kp (n, f) (n + 3, g) ∧ bk_at (n + 3, g) b2 (bk_join B p)) := by
  obtain ⟨c1, c2, c3, c4, c5, c6, c7, c8, c9, c10, c11, c12⟩ := id hok
  obtain ⟨⟨hm1, hm1'⟩, hm2, hm3, hmJ, hmF, hmT⟩ := id c8
  obtain ⟨hbat, hbok, hbne⟩ := id c6
  obtain ⟨bw, bkq, bfq, hb0, hb1, hb2, hbw, ⟨hbd, -, -⟩, -⟩ := id hbat
  obtain ⟨⟨hw1, hw2⟩, hh1, hh2⟩ := id c5
  have hP10 := hbok.2.1
  have wf0 := bk_fw_b hbok (p : Int)
  have wf1 := bk_fw_b hbok ((p : Int) + 1)
  have wf2 := bk_fw_b hbok ((p : Int) + 1 + 1)
  refine ji_ent (by decide) rfl (Nat.le_of_ble_eq_true rfl) rfl ?_
  refine ji_aload_n dX7_join_0 rfl trivial ?_
  refine ji_iload_n dX7_join_1 rfl ?_
  refine ji_cVv dX7_join_2 (k_checkParagraph hok (by omega) (by omega)) rfl (cl_0h) rfl rfl wX7_checkParagraph vX7_checkParagraph lX7_241 rfl (Nat.le_of_ble_eq_true rfl) rfl ?_
  refine ji_iload_n dX7_join_5 rfl ?_
  refine ji_iconst dX7_join_6 ?_
  refine ji_iadd dX7_join_7 ?_
  refine ji_aload_n dX7_join_8 rfl trivial ?_
  refine ji_get (ci := 7) (k := 5) rfl dX7_join_9 lX7_41 (by decide) (cl_0h) rfl ?_
  refine ji_cV dX7_join_12 (k_Book_paragraphs (hbat.kept cl_kf) hbok) rfl ((cl_dh hbd).trans hb0) rfl rfl wX0_paragraphs vX0_paragraphs lX7_122 rfl (Nat.le_of_ble_eq_true rfl) rfl ?_
  refine ji_icmp_lt (tgt := 29) dX7_join_15 rfl (by omega) (by omega) (fun c15 => ?_) (fun c15 => ?_)
  · try (exfalso; omega)
    all_goals
      refine ji_aload_n dX7_join_29 rfl trivial ?_
      refine ji_get (ci := 7) (k := 5) rfl dX7_join_30 lX7_41 (by decide) (cl_0h) rfl ?_
      refine ji_iload_n dX7_join_33 rfl ?_
      refine ji_cV dX7_join_34 (k_Book_wordsOf (hbat.kept cl_kf) hbok (by omega)) rfl ((cl_dh hbd).trans hb0) rfl rfl wX0_wordsOf vX0_wordsOf lX7_273 rfl (Nat.le_of_ble_eq_true rfl) rfl ?_
      refine ji_aload_n dX7_join_37 rfl trivial ?_
      refine ji_get (ci := 7) (k := 5) rfl dX7_join_38 lX7_41 (by decide) (cl_0h) rfl ?_
      refine ji_iload_n dX7_join_41 rfl ?_
      refine ji_iconst dX7_join_42 ?_
      refine ji_iadd dX7_join_43 ?_
      refine ji_cV dX7_join_44 (k_Book_wordsOf (hbat.kept cl_kf) hbok (by omega)) rfl ((cl_dh hbd).trans hb0) rfl rfl wX0_wordsOf vX0_wordsOf lX7_273 rfl (Nat.le_of_ble_eq_true rfl) rfl ?_
      refine ji_iadd dX7_join_47 ?_
      refine ji_bipush dX7_join_48 rfl ?_
      refine ji_icmp_le (tgt := 64) dX7_join_50 rfl (by omega) (by omega) (fun c50 => ?_) (fun c50 => ?_)
      · try (exfalso; omega)
        all_goals
          refine ji_aload_n dX7_join_64 rfl trivial ?_
          refine ji_get (ci := 7) (k := 7) rfl dX7_join_65 lX7_55 (by decide) (cl_0h) rfl ?_
          refine ji_aload_n dX7_join_68 rfl trivial ?_
          refine ji_get (ci := 7) (k := 5) rfl dX7_join_69 lX7_41 (by decide) (cl_0h) rfl ?_
          refine ji_aload_n dX7_join_72 rfl trivial ?_
          refine ji_get (ci := 7) (k := 6) rfl dX7_join_73 lX7_48 (by decide) (cl_0h) rfl ?_
          refine ji_cVv dX7_join_76 (c_keep c9 hb0 hbd) rfl (cl_17h) rfl rfl wX1_keep vX1_keep lX7_283 rfl (Nat.le_of_ble_eq_true rfl) rfl ?_
          refine ji_aload_n dX7_join_79 rfl trivial ?_
          refine ji_aload_n dX7_join_80 rfl trivial ?_
          refine ji_get (ci := 7) (k := 5) rfl dX7_join_81 lX7_41 (by decide) (cl_0h) rfl ?_
          refine ji_iload_n dX7_join_84 rfl ?_
          refine ji_callV dX7_join_85 (k_Book_withJoined (hbat.kept cl_kf) hbok hv c1) rfl ((cl_dh hbd).trans hb0) rfl rfl wX0_withJoined vX0_withJoined lX7_329 rfl (Nat.le_of_ble_eq_true rfl) rfl (by omega) (by first | omega | exact Nat.le_refl _) (fun r8 h8 hq8 => ?_) (fun E8 h8 hq8 => by obtain ⟨w9, q, -⟩ := hq8; cases q)
          obtain ⟨b2, hq1, hext, hbn⟩ := hq8
          cases hq1
          obtain ⟨g, e9, hkp⟩ := cl_extE c1 hext
          subst e9
          have hbn2 := hbn.kept cl_fk
          obtain ⟨bw2, bkq2, bfq2, hb0', -, -, -, ⟨hbd', -, -⟩, -⟩ := id hbn2
          refine ji_putE (ci := 7) (k := 5) rfl dX7_join_88 lX7_41 (by decide) (cl_0h) (by simp [cl_c0]) (ji_fitO _ trivial) rfl (cl_pb) ?_
          refine ji_aload_n dX7_join_91 rfl trivial ?_
          refine ji_iconst dX7_join_92 ?_
          refine ji_putE (ci := 7) (k := 10) rfl dX7_join_93 lX7_71 (by decide) (cl_0h) (by simp [cl_c0]) (ji_fitZ (by first | omega | decide)) rfl (cl_ps) ?_
          refine ji_aload_n dX7_join_96 rfl trivial ?_
          refine ji_get (ci := 7) (k := 5) rfl dX7_join_97 lX7_41 (by decide) (cl_0h) rfl ?_
          refine ji_iload_n dX7_join_100 rfl ?_
          refine ji_cV dX7_join_101 (k_Book_wordsOf (hbn2.kept cl_kf) hB (by omega)) rfl ((cl_dh hbd').trans hb0') rfl rfl wX0_wordsOf vX0_wordsOf lX7_273 rfl (Nat.le_of_ble_eq_true rfl) rfl ?_
          exact ji_ireturn dX7_join_104 rfl (rfl) ⟨g, b2, rfl, rfl, hkp, hbn2⟩
      · try (exfalso; omega)
        all_goals
          exact ji_throwW (text := "the paragraph would have more than 24 words") ji_thrS rfl (by decide) rfl dX7_join_53 dX7_join_56 dX7_join_57 dX7_join_60 dX7_join_63 (by omega) (by omega) (Nat.le_of_ble_eq_true rfl) ⟨g, b2, rfl, rfl, hkp, hbn2⟩
  · try (exfalso; omega)
    all_goals
      exact ji_throwW (text := "the next paragraph does not exist") ji_thrI rfl (by decide) rfl dX7_join_18 dX7_join_21 dX7_join_22 dX7_join_25 dX7_join_28 (by omega) (by omega) (Nat.le_of_ble_eq_true rfl) ⟨g, b2, rfl, rfl, hkp, hbn2⟩

set_option maxHeartbeats 4000000 in
set_option maxRecDepth 100000 in
theorem x_delete0 (hok : cl_ok n f I P M H Y Z B NT SB) {v m o : Int} (b_v : -2147483648 ≤ v ∧ v < 2147483648) (hx : v < 0 ∨ bk_P B ≤ v) : JX G (d + 7) mX7_delete [.ref 0, .int (jI (v)), .int (jI (m)), .int (jI (o))] (n, cl_f f I P M H Y Z) 1 6 eI (n, cl_f f I P M H Y Z) := by
  obtain ⟨c1, c2, c3, c4, c5, c6, c7, c8, c9, c10, c11, c12⟩ := id hok
  obtain ⟨⟨hm1, hm1'⟩, hm2, hm3, hmJ, hmF, hmT⟩ := id c8
  obtain ⟨hbat, hbok, hbne⟩ := id c6
  obtain ⟨bw, bkq, bfq, hb0, hb1, hb2, hbw, ⟨hbd, -, -⟩, -⟩ := id hbat
  obtain ⟨⟨hw1, hw2⟩, hh1, hh2⟩ := id c5
  have hP10 := hbok.2.1
  refine ji_ent (by decide) rfl (Nat.le_of_ble_eq_true rfl) rfl ?_
  refine ji_aload_n dX7_delete_0 rfl trivial ?_
  refine ji_iload_n dX7_delete_1 rfl ?_
  exact ji_cVx dX7_delete_2 (x_checkParagraph hok b_v hx) rfl (cl_0h) rfl rfl wX7_checkParagraph vX7_checkParagraph lX7_241 rfl (Nat.le_of_ble_eq_true rfl) rfl (by omega) (by omega)

set_option maxHeartbeats 4000000 in
set_option maxRecDepth 100000 in
theorem x_delete1 (hok : cl_ok n f I P M H Y Z B NT SB) {v m o : Int} (b_m : -2147483648 ≤ m ∧ m < 2147483648) (b_o : -2147483648 ≤ o ∧ o < 2147483648) (hv : 0 ≤ v ∧ v < bk_P B) (hx : m < 0 ∨ (bk_fw B (v + 1) - bk_fw B v) ≤ m ∨ o < 1 ∨ (bk_fw B (v + 1) - bk_fw B v) - m < o) : JX G (d + 6) mX7_delete [.ref 0, .int (jI (v)), .int (jI (m)), .int (jI (o))] (n, cl_f f I P M H Y Z) 1 6 eI (n, cl_f f I P M H Y Z) := by
  obtain ⟨c1, c2, c3, c4, c5, c6, c7, c8, c9, c10, c11, c12⟩ := id hok
  obtain ⟨⟨hm1, hm1'⟩, hm2, hm3, hmJ, hmF, hmT⟩ := id c8
  obtain ⟨hbat, hbok, hbne⟩ := id c6
  obtain ⟨bw, bkq, bfq, hb0, hb1, hb2, hbw, ⟨hbd, -, -⟩, -⟩ := id hbat
  obtain ⟨⟨hw1, hw2⟩, hh1, hh2⟩ := id c5
  have hP10 := hbok.2.1
  have wf0 := bk_fw_b hbok v
  have wf1 := bk_fw_b hbok (v + 1)
  refine ji_ent (by decide) rfl (Nat.le_of_ble_eq_true rfl) rfl ?_
  refine ji_aload_n dX7_delete_0 rfl trivial ?_
  refine ji_iload_n dX7_delete_1 rfl ?_
  refine ji_cVv dX7_delete_2 (k_checkParagraph hok (by omega) hv) rfl (cl_0h) rfl rfl wX7_checkParagraph vX7_checkParagraph lX7_241 rfl (Nat.le_of_ble_eq_true rfl) rfl ?_
  refine ji_aload_n dX7_delete_5 rfl trivial ?_
  refine ji_get (ci := 7) (k := 5) rfl dX7_delete_6 lX7_41 (by decide) (cl_0h) rfl ?_
  refine ji_iload_n dX7_delete_9 rfl ?_
  refine ji_cV dX7_delete_10 (k_Book_wordsOf (hbat.kept cl_kf) hbok (by omega)) rfl ((cl_dh hbd).trans hb0) rfl rfl wX0_wordsOf vX0_wordsOf lX7_273 rfl (Nat.le_of_ble_eq_true rfl) rfl ?_
  refine ji_istore dX7_delete_13 (by decide) rfl ?_
  refine ji_iload_n dX7_delete_15 rfl ?_
  refine ji_if_lt (tgt := 38) dX7_delete_16 rfl (by omega) (fun c16 => ?_) (fun c16 => ?_)
  · try (exfalso; omega)
    all_goals
      exact ji_throwW (text := "a word does not exist, or many is less than 1") ji_thrI rfl (by decide) rfl dX7_delete_38 dX7_delete_41 dX7_delete_42 dX7_delete_45 dX7_delete_48 (by omega) (by omega) (Nat.le_of_ble_eq_true rfl) ⟨rfl, rfl⟩
  · try (exfalso; omega)
    all_goals
      refine ji_iload_n dX7_delete_19 rfl ?_
      refine ji_iload dX7_delete_20 rfl ?_
      refine ji_icmp_ge (tgt := 38) dX7_delete_22 rfl (by omega) (by omega) (fun c22 => ?_) (fun c22 => ?_)
      · try (exfalso; omega)
        all_goals
          exact ji_throwW (text := "a word does not exist, or many is less than 1") ji_thrI rfl (by decide) rfl dX7_delete_38 dX7_delete_41 dX7_delete_42 dX7_delete_45 dX7_delete_48 (by omega) (by omega) (Nat.le_of_ble_eq_true rfl) ⟨rfl, rfl⟩
      · try (exfalso; omega)
        all_goals
          refine ji_iload_n dX7_delete_25 rfl ?_
          refine ji_iconst dX7_delete_26 ?_
          refine ji_icmp_lt (tgt := 38) dX7_delete_27 rfl (by omega) (by omega) (fun c27 => ?_) (fun c27 => ?_)
          · try (exfalso; omega)
            all_goals
              exact ji_throwW (text := "a word does not exist, or many is less than 1") ji_thrI rfl (by decide) rfl dX7_delete_38 dX7_delete_41 dX7_delete_42 dX7_delete_45 dX7_delete_48 (by omega) (by omega) (Nat.le_of_ble_eq_true rfl) ⟨rfl, rfl⟩
          · try (exfalso; omega)
            all_goals
              refine ji_iload_n dX7_delete_30 rfl ?_
              refine ji_iload dX7_delete_31 rfl ?_
              refine ji_iload_n dX7_delete_33 rfl ?_
              refine ji_isub dX7_delete_34 ?_
              refine ji_icmp_le (tgt := 49) dX7_delete_35 rfl (by omega) (by omega) (fun c35 => ?_) (fun c35 => ?_)
              · try (exfalso; omega)
                all_goals
                  refine ji_iload_n dX7_delete_49 rfl ?_
                  refine ji_iload dX7_delete_50 rfl ?_
                  refine ji_icmp_ne (tgt := 66) dX7_delete_52 rfl (by omega) (by omega) (fun c52 => ?_) (fun c52 => ?_)
                  · try (exfalso; omega)
                    all_goals
                      refine ji_aload_n dX7_delete_66 rfl trivial ?_
                      refine ji_get (ci := 7) (k := 7) rfl dX7_delete_67 lX7_55 (by decide) (cl_0h) rfl ?_
                      refine ji_aload_n dX7_delete_70 rfl trivial ?_
                      refine ji_get (ci := 7) (k := 5) rfl dX7_delete_71 lX7_41 (by decide) (cl_0h) rfl ?_
                      refine ji_aload_n dX7_delete_74 rfl trivial ?_
                      refine ji_get (ci := 7) (k := 6) rfl dX7_delete_75 lX7_48 (by decide) (cl_0h) rfl ?_
                      fail "no contract for History.keep at 78"
                  · try (exfalso; omega)
                    all_goals
                      exact ji_throwW (text := "no word would be left") ji_thrS rfl (by decide) rfl dX7_delete_55 dX7_delete_58 dX7_delete_59 dX7_delete_62 dX7_delete_65 (by omega) (by omega) (Nat.le_of_ble_eq_true rfl) ⟨rfl, rfl⟩
              · try (exfalso; omega)
                all_goals
                  exact ji_throwW (text := "a word does not exist, or many is less than 1") ji_thrI rfl (by decide) rfl dX7_delete_38 dX7_delete_41 dX7_delete_42 dX7_delete_45 dX7_delete_48 (by omega) (by omega) (Nat.le_of_ble_eq_true rfl) ⟨rfl, rfl⟩

set_option maxHeartbeats 4000000 in
set_option maxRecDepth 100000 in
theorem x_delete2 (hok : cl_ok n f I P M H Y Z B NT SB) {v m o : Int} (hv : 0 ≤ v ∧ v < bk_P B) (hm : 0 ≤ m ∧ m < (bk_fw B (v + 1) - bk_fw B v) ∧ 1 ≤ o ∧ o ≤ (bk_fw B (v + 1) - bk_fw B v) - m) (hx : o = (bk_fw B (v + 1) - bk_fw B v)) : JX G (d + 6) mX7_delete [.ref 0, .int (jI (v)), .int (jI (m)), .int (jI (o))] (n, cl_f f I P M H Y Z) 1 6 eS (n, cl_f f I P M H Y Z) := by
  obtain ⟨c1, c2, c3, c4, c5, c6, c7, c8, c9, c10, c11, c12⟩ := id hok
  obtain ⟨⟨hm1, hm1'⟩, hm2, hm3, hmJ, hmF, hmT⟩ := id c8
  obtain ⟨hbat, hbok, hbne⟩ := id c6
  obtain ⟨bw, bkq, bfq, hb0, hb1, hb2, hbw, ⟨hbd, -, -⟩, -⟩ := id hbat
  obtain ⟨⟨hw1, hw2⟩, hh1, hh2⟩ := id c5
  have hP10 := hbok.2.1
  have wf0 := bk_fw_b hbok v
  have wf1 := bk_fw_b hbok (v + 1)
  refine ji_ent (by decide) rfl (Nat.le_of_ble_eq_true rfl) rfl ?_
  refine ji_aload_n dX7_delete_0 rfl trivial ?_
  refine ji_iload_n dX7_delete_1 rfl ?_
  refine ji_cVv dX7_delete_2 (k_checkParagraph hok (by omega) hv) rfl (cl_0h) rfl rfl wX7_checkParagraph vX7_checkParagraph lX7_241 rfl (Nat.le_of_ble_eq_true rfl) rfl ?_
  refine ji_aload_n dX7_delete_5 rfl trivial ?_
  refine ji_get (ci := 7) (k := 5) rfl dX7_delete_6 lX7_41 (by decide) (cl_0h) rfl ?_
  refine ji_iload_n dX7_delete_9 rfl ?_
  refine ji_cV dX7_delete_10 (k_Book_wordsOf (hbat.kept cl_kf) hbok (by omega)) rfl ((cl_dh hbd).trans hb0) rfl rfl wX0_wordsOf vX0_wordsOf lX7_273 rfl (Nat.le_of_ble_eq_true rfl) rfl ?_
  refine ji_istore dX7_delete_13 (by decide) rfl ?_
  refine ji_iload_n dX7_delete_15 rfl ?_
  refine ji_if_lt (tgt := 38) dX7_delete_16 rfl (by omega) (fun c16 => ?_) (fun c16 => ?_)
  · try (exfalso; omega)
    all_goals
      exact ji_throwW (text := "a word does not exist, or many is less than 1") ji_thrI rfl (by decide) rfl dX7_delete_38 dX7_delete_41 dX7_delete_42 dX7_delete_45 dX7_delete_48 (by omega) (by omega) (Nat.le_of_ble_eq_true rfl) ⟨rfl, rfl⟩
  · try (exfalso; omega)
    all_goals
      refine ji_iload_n dX7_delete_19 rfl ?_
      refine ji_iload dX7_delete_20 rfl ?_
      refine ji_icmp_ge (tgt := 38) dX7_delete_22 rfl (by omega) (by omega) (fun c22 => ?_) (fun c22 => ?_)
      · try (exfalso; omega)
        all_goals
          exact ji_throwW (text := "a word does not exist, or many is less than 1") ji_thrI rfl (by decide) rfl dX7_delete_38 dX7_delete_41 dX7_delete_42 dX7_delete_45 dX7_delete_48 (by omega) (by omega) (Nat.le_of_ble_eq_true rfl) ⟨rfl, rfl⟩
      · try (exfalso; omega)
        all_goals
          refine ji_iload_n dX7_delete_25 rfl ?_
          refine ji_iconst dX7_delete_26 ?_
          refine ji_icmp_lt (tgt := 38) dX7_delete_27 rfl (by omega) (by omega) (fun c27 => ?_) (fun c27 => ?_)
          · try (exfalso; omega)
            all_goals
              exact ji_throwW (text := "a word does not exist, or many is less than 1") ji_thrI rfl (by decide) rfl dX7_delete_38 dX7_delete_41 dX7_delete_42 dX7_delete_45 dX7_delete_48 (by omega) (by omega) (Nat.le_of_ble_eq_true rfl) ⟨rfl, rfl⟩
          · try (exfalso; omega)
            all_goals
              refine ji_iload_n dX7_delete_30 rfl ?_
              refine ji_iload dX7_delete_31 rfl ?_
              refine ji_iload_n dX7_delete_33 rfl ?_
              refine ji_isub dX7_delete_34 ?_
              refine ji_icmp_le (tgt := 49) dX7_delete_35 rfl (by omega) (by omega) (fun c35 => ?_) (fun c35 => ?_)
              · try (exfalso; omega)
                all_goals
                  refine ji_iload_n dX7_delete_49 rfl ?_
                  refine ji_iload dX7_delete_50 rfl ?_
                  refine ji_icmp_ne (tgt := 66) dX7_delete_52 rfl (by omega) (by omega) (fun c52 => ?_) (fun c52 => ?_)
                  · try (exfalso; omega)
                    all_goals
                      refine ji_aload_n dX7_delete_66 rfl trivial ?_
                      refine ji_get (ci := 7) (k := 7) rfl dX7_delete_67 lX7_55 (by decide) (cl_0h) rfl ?_
                      refine ji_aload_n dX7_delete_70 rfl trivial ?_
                      refine ji_get (ci := 7) (k := 5) rfl dX7_delete_71 lX7_41 (by decide) (cl_0h) rfl ?_
                      refine ji_aload_n dX7_delete_74 rfl trivial ?_
                      refine ji_get (ci := 7) (k := 6) rfl dX7_delete_75 lX7_48 (by decide) (cl_0h) rfl ?_
                      fail "no contract for History.keep at 78"
                  · try (exfalso; omega)
                    all_goals
                      exact ji_throwW (text := "no word would be left") ji_thrS rfl (by decide) rfl dX7_delete_55 dX7_delete_58 dX7_delete_59 dX7_delete_62 dX7_delete_65 (by omega) (by omega) (Nat.le_of_ble_eq_true rfl) ⟨rfl, rfl⟩
              · try (exfalso; omega)
                all_goals
                  exact ji_throwW (text := "a word does not exist, or many is less than 1") ji_thrI rfl (by decide) rfl dX7_delete_38 dX7_delete_41 dX7_delete_42 dX7_delete_45 dX7_delete_48 (by omega) (by omega) (Nat.le_of_ble_eq_true rfl) ⟨rfl, rfl⟩

set_option maxHeartbeats 4000000 in
set_option maxRecDepth 100000 in
theorem k_deleteL (hok : cl_ok n f I P M H Y Z B NT SB) {p xa ya : Nat} {m o : Int} (hv : p < bk_P B) (hm : 0 ≤ m ∧ m < (bk_fw B ((p : Int) + 1) - bk_fw B p) ∧ 1 ≤ o ∧ o ≤ (bk_fw B ((p : Int) + 1) - bk_fw B p) - m) (hx : o < (bk_fw B ((p : Int) + 1) - bk_fw B p)) (hl : m + o = (bk_fw B ((p : Int) + 1) - bk_fw B p)) (hx1 : bk_ws B (bk_fw B p + m) - 1 = xa) (hy1 : bk_end B p = ya) (hxy : xa ≤ ya) (hym : ya ≤ bk_m B) (h99 : bk_m B ≤ 9999) (hB : bk_ok (bk_spl B p xa ya (fun _ => 0) 0)) : JM G (d + 5) mX7_delete [.ref 0, .int (jI ((p : Int))), .int (jI (m)), .int (jI (o))] (n, cl_f f I P M H Y Z) 6 (bk_m B - (ya - xa) + 0 + 2 + (wd_cnt (wd_spl (bk_m B) (bk_tx B) (fun _ => 0) xa ya 0) (bk_m B - (ya - xa) + 0) + 2) + (bk_P B + 1 + 3)) (fun r9 h9 => ∃ g b2, r9 = .inl (some (.int (jI (bk_fw (bk_spl B p xa ya (fun _ => 0) 0) ((p : Int) + 1) - bk_fw (bk_spl B p xa ya (fun _ => 0) 0) p)))) ∧ h9 = (n + 6, cl_f g I (P.1, P.2.1, P.2.2.1, P.2.2.2.1, b2, 1) (mk_cg M (bk_ws B (bk_fw B p + m) - 1) (bk_end B p) (bk_ws B (bk_fw B p + m) - 1 - 1)) (hi_k H M P.2.2.2.2.1) Y Z) ∧ cl_kp (n, f) (n + 6, g) ∧ bk_at (n + 6, g) b2 (bk_spl B p xa ya (fun _ => 0) 0)) := by
  obtain ⟨c1, c2, c3, c4, c5, c6, c7, c8, c9, c10, c11, c12⟩ := id hok
  obtain ⟨⟨hm1, hm1'⟩, hm2, hm3, hmJ, hmF, hmT⟩ := id c8
  obtain ⟨hbat, hbok, hbne⟩ := id c6
  obtain ⟨bw, bkq, bfq, hb0, hb1, hb2, hbw, ⟨hbd, -, -⟩, -⟩ := id hbat
  obtain ⟨⟨hw1, hw2⟩, hh1, hh2⟩ := id c5
  have hP10 := hbok.2.1
  have wf0 := bk_fw_b hbok (p : Int)
  have wf1 := bk_fw_b hbok ((p : Int) + 1)
  have hr9 : -1000000 ≤ M.1 ∧ M.1 ≤ 1000000 := by omega
  have hJ9 : ∀ i, -1000000 ≤ M.2.2.2.1 i ∧ M.2.2.2.1 i ≤ 1000000 := fun i => by have := hmJ i; omega
  have hF9 : ∀ i, -1000000 ≤ M.2.2.2.2.1 i ∧ M.2.2.2.2.1 i ≤ 1000000 := fun i => by have := hmF i; omega
  have hT9 : ∀ i, -1000000 ≤ M.2.2.2.2.2.1 i ∧ M.2.2.2.2.2.1 i ≤ 1000000 := fun i => by have := hmT i; omega
  have hm9 := hbok.1.1
  have ww1 := bk_ws_b hbok (bk_fw B p + m)
  have ww2 := bk_ws_b hbok (bk_fw B p + (m + o))
  have ww3 := bk_en_b hbok (p : Int)
  refine ji_ent (by decide) rfl (Nat.le_of_ble_eq_true rfl) rfl ?_
  refine ji_aload_n dX7_delete_0 rfl trivial ?_
  refine ji_iload_n dX7_delete_1 rfl ?_
  refine ji_cVv dX7_delete_2 (k_checkParagraph hok (by omega) (by omega)) rfl (cl_0h) rfl rfl wX7_checkParagraph vX7_checkParagraph lX7_241 rfl (Nat.le_of_ble_eq_true rfl) rfl ?_
  refine ji_aload_n dX7_delete_5 rfl trivial ?_
  refine ji_get (ci := 7) (k := 5) rfl dX7_delete_6 lX7_41 (by decide) (cl_0h) rfl ?_
  refine ji_iload_n dX7_delete_9 rfl ?_
  refine ji_cV dX7_delete_10 (k_Book_wordsOf (hbat.kept cl_kf) hbok (by omega)) rfl ((cl_dh hbd).trans hb0) rfl rfl wX0_wordsOf vX0_wordsOf lX7_273 rfl (Nat.le_of_ble_eq_true rfl) rfl ?_
  refine ji_istore dX7_delete_13 (by decide) rfl ?_
  refine ji_iload_n dX7_delete_15 rfl ?_
  refine ji_if_lt (tgt := 38) dX7_delete_16 rfl (by omega) (fun c16 => ?_) (fun c16 => ?_)
  · try (exfalso; omega)
    all_goals
      exact ji_throwW (text := "a word does not exist, or many is less than 1") ji_thrI rfl (by decide) rfl dX7_delete_38 dX7_delete_41 dX7_delete_42 dX7_delete_45 dX7_delete_48 (by omega) (by omega) (Nat.le_of_ble_eq_true rfl) ⟨g, b2, rfl, rfl, hkp, hbn2⟩
  · try (exfalso; omega)
    all_goals
      refine ji_iload_n dX7_delete_19 rfl ?_
      refine ji_iload dX7_delete_20 rfl ?_
      refine ji_icmp_ge (tgt := 38) dX7_delete_22 rfl (by omega) (by omega) (fun c22 => ?_) (fun c22 => ?_)
      · try (exfalso; omega)
        all_goals
          exact ji_throwW (text := "a word does not exist, or many is less than 1") ji_thrI rfl (by decide) rfl dX7_delete_38 dX7_delete_41 dX7_delete_42 dX7_delete_45 dX7_delete_48 (by omega) (by omega) (Nat.le_of_ble_eq_true rfl) ⟨g, b2, rfl, rfl, hkp, hbn2⟩
      · try (exfalso; omega)
        all_goals
          refine ji_iload_n dX7_delete_25 rfl ?_
          refine ji_iconst dX7_delete_26 ?_
          refine ji_icmp_lt (tgt := 38) dX7_delete_27 rfl (by omega) (by omega) (fun c27 => ?_) (fun c27 => ?_)
          · try (exfalso; omega)
            all_goals
              exact ji_throwW (text := "a word does not exist, or many is less than 1") ji_thrI rfl (by decide) rfl dX7_delete_38 dX7_delete_41 dX7_delete_42 dX7_delete_45 dX7_delete_48 (by omega) (by omega) (Nat.le_of_ble_eq_true rfl) ⟨g, b2, rfl, rfl, hkp, hbn2⟩
          · try (exfalso; omega)
            all_goals
              refine ji_iload_n dX7_delete_30 rfl ?_
              refine ji_iload dX7_delete_31 rfl ?_
              refine ji_iload_n dX7_delete_33 rfl ?_
              refine ji_isub dX7_delete_34 ?_
              refine ji_icmp_le (tgt := 49) dX7_delete_35 rfl (by omega) (by omega) (fun c35 => ?_) (fun c35 => ?_)
              · try (exfalso; omega)
                all_goals
                  refine ji_iload_n dX7_delete_49 rfl ?_
                  refine ji_iload dX7_delete_50 rfl ?_
                  refine ji_icmp_ne (tgt := 66) dX7_delete_52 rfl (by omega) (by omega) (fun c52 => ?_) (fun c52 => ?_)
                  · try (exfalso; omega)
                    all_goals
                      refine ji_aload_n dX7_delete_66 rfl trivial ?_
                      refine ji_get (ci := 7) (k := 7) rfl dX7_delete_67 lX7_55 (by decide) (cl_0h) rfl ?_
                      refine ji_aload_n dX7_delete_70 rfl trivial ?_
                      refine ji_get (ci := 7) (k := 5) rfl dX7_delete_71 lX7_41 (by decide) (cl_0h) rfl ?_
                      refine ji_aload_n dX7_delete_74 rfl trivial ?_
                      refine ji_get (ci := 7) (k := 6) rfl dX7_delete_75 lX7_48 (by decide) (cl_0h) rfl ?_
                      refine ji_cVv dX7_delete_78 (c_keep c9 hb0 hbd) rfl (cl_17h) rfl rfl wX1_keep vX1_keep lX7_283 rfl (Nat.le_of_ble_eq_true rfl) rfl ?_
                      refine ji_iload_n dX7_delete_81 rfl ?_
                      refine ji_iload_n dX7_delete_82 rfl ?_
                      refine ji_iadd dX7_delete_83 ?_
                      refine ji_iload dX7_delete_84 rfl ?_
                      refine ji_icmp_ne (tgt := 93) dX7_delete_86 rfl (by omega) (by omega) (fun c86 => ?_) (fun c86 => ?_)
                      · try (exfalso; omega)
                        all_goals
                          refine ji_iconst dX7_delete_93 ?_
                          refine ji_istore dX7_delete_94 (by decide) rfl ?_
                          refine ji_iload dX7_delete_96 rfl ?_
                          refine ji_if_eq (tgt := 115) dX7_delete_98 rfl (by omega) (fun c98 => ?_) (fun c98 => ?_)
                          · try (exfalso; omega)
                            all_goals
                              refine ji_aload_n dX7_delete_115 rfl trivial ?_
                              refine ji_get (ci := 7) (k := 5) rfl dX7_delete_116 lX7_41 (by decide) (cl_0h) rfl ?_
                              refine ji_iload_n dX7_delete_119 rfl ?_
                              refine ji_iload_n dX7_delete_120 rfl ?_
                              refine ji_cV dX7_delete_121 (k_Book_placeOfWord (hbat.kept cl_kf) hbok (by omega) (by omega)) rfl ((cl_dh hbd).trans hb0) rfl rfl wX0_placeOfWord vX0_placeOfWord lX7_290 rfl (Nat.le_of_ble_eq_true rfl) rfl ?_
                              refine ji_istore dX7_delete_124 (by decide) rfl ?_
                              refine ji_iload dX7_delete_126 rfl ?_
                              refine ji_if_eq (tgt := 142) dX7_delete_128 rfl (by omega) (fun c128 => ?_) (fun c128 => ?_)
                              · try (exfalso; omega)
                                all_goals
                                  refine ji_aload_n dX7_delete_142 rfl trivial ?_
                                  refine ji_get (ci := 7) (k := 5) rfl dX7_delete_143 lX7_41 (by decide) (cl_0h) rfl ?_
                                  refine ji_iload_n dX7_delete_146 rfl ?_
                                  refine ji_iload_n dX7_delete_147 rfl ?_
                                  refine ji_iload_n dX7_delete_148 rfl ?_
                                  refine ji_iadd dX7_delete_149 ?_
                                  refine ji_cV dX7_delete_150 (k_Book_placeOfWord (hbat.kept cl_kf) hbok (by omega) (by omega)) rfl ((cl_dh hbd).trans hb0) rfl rfl wX0_placeOfWord vX0_placeOfWord lX7_290 rfl (Nat.le_of_ble_eq_true rfl) rfl ?_
                                  refine ji_istore dX7_delete_153 (by decide) rfl ?_
                                  refine ji_aload_n dX7_delete_155 rfl trivial ?_
                                  refine ji_aload_n dX7_delete_156 rfl trivial ?_
                                  refine ji_get (ci := 7) (k := 5) rfl dX7_delete_157 lX7_41 (by decide) (cl_0h) rfl ?_
                                  refine ji_iload_n dX7_delete_160 rfl ?_
                                  refine ji_iload dX7_delete_161 rfl ?_
                                  refine ji_iload dX7_delete_163 rfl ?_
                                  refine ji_callV dX7_delete_165 (k_Book_withDeleted (xa := xa) (ya := ya) (hbat.kept cl_kf) hbok hv hxy hym (by omega) c1) (by rw [hx1, hy1]; rfl) ((cl_dh hbd).trans hb0) rfl rfl wX0_withDeleted vX0_withDeleted lX7_308 rfl (Nat.le_of_ble_eq_true rfl) rfl (by omega) (by first | omega | exact Nat.le_refl _) (fun r8 h8 hq8 => ?_) (fun E8 h8 hq8 => by obtain ⟨w9, q, -⟩ := hq8; cases q)
                                  obtain ⟨b2, hq1, hext, hbn⟩ := hq8
                                  cases hq1
                                  obtain ⟨g, e9, hkp⟩ := cl_extE c1 hext
                                  subst e9
                                  have hbn2 := hbn.kept cl_fk
                                  obtain ⟨bw2, bkq2, bfq2, hb0', -, -, -, ⟨hbd', -, -⟩, -⟩ := id hbn2
                                  refine ji_putE (ci := 7) (k := 5) rfl dX7_delete_168 lX7_41 (by decide) (cl_0h) (by simp [cl_c0]) (ji_fitO _ trivial) rfl (cl_pb) ?_
                                  refine ji_aload_n dX7_delete_171 rfl trivial ?_
                                  refine ji_get (ci := 7) (k := 6) rfl dX7_delete_172 lX7_48 (by decide) (cl_0h) rfl ?_
                                  refine ji_iload dX7_delete_175 rfl ?_
                                  refine ji_iload dX7_delete_177 rfl ?_
                                  refine ji_iload dX7_delete_179 rfl ?_
                                  refine ji_if_eq (tgt := 191) dX7_delete_181 rfl (by omega) (fun c181 => ?_) (fun c181 => ?_)
                                  · try (exfalso; omega)
                                    all_goals
                                      refine ji_iload dX7_delete_191 rfl ?_
                                      refine ji_cVv dX7_delete_193 (cl_jM (mk_cg M (bk_ws B (bk_fw B p + m) - 1) (bk_end B p) (bk_ws B (bk_fw B p + m) - 1 - 1)) (k_Marks_closeGap (by omega) (by omega) hr9 hJ9 hF9 hT9)) rfl (cl_12h) rfl rfl wX4_closeGap vX4_closeGap lX7_312 rfl (Nat.le_of_ble_eq_true rfl) rfl ?_
                                      refine ji_aload_n dX7_delete_196 rfl trivial ?_
                                      refine ji_iconst dX7_delete_197 ?_
                                      refine ji_putE (ci := 7) (k := 10) rfl dX7_delete_198 lX7_71 (by decide) (cl_0h) (by simp [cl_c0]) (ji_fitZ (by first | omega | decide)) rfl (cl_ps) ?_
                                      refine ji_aload_n dX7_delete_201 rfl trivial ?_
                                      refine ji_get (ci := 7) (k := 5) rfl dX7_delete_202 lX7_41 (by decide) (cl_0h) rfl ?_
                                      refine ji_iload_n dX7_delete_205 rfl ?_
                                      refine ji_cV dX7_delete_206 (k_Book_wordsOf (hbn2.kept cl_kf) hB (by omega)) rfl ((cl_dh hbd').trans hb0') rfl rfl wX0_wordsOf vX0_wordsOf lX7_273 rfl (Nat.le_of_ble_eq_true rfl) rfl ?_
                                      exact ji_ireturn dX7_delete_209 rfl (rfl) ⟨g, b2, rfl, rfl, hkp, hbn2⟩
                                  · try (exfalso; omega)
                                    all_goals
                                      refine ji_iload dX7_delete_184 rfl ?_
                                      refine ji_iconst dX7_delete_186 ?_
                                      refine ji_isub dX7_delete_187 ?_
                                      refine ji_goto (tgt := 193) dX7_delete_188 rfl ?_
                                      refine ji_cVv dX7_delete_193 (cl_jM (mk_cg M (bk_ws B (bk_fw B p + m) - 1) (bk_end B p) (bk_ws B (bk_fw B p + m) - 1 - 1)) (k_Marks_closeGap (by omega) (by omega) hr9 hJ9 hF9 hT9)) rfl (cl_12h) rfl rfl wX4_closeGap vX4_closeGap lX7_312 rfl (Nat.le_of_ble_eq_true rfl) rfl ?_
                                      refine ji_aload_n dX7_delete_196 rfl trivial ?_
                                      refine ji_iconst dX7_delete_197 ?_
                                      refine ji_putE (ci := 7) (k := 10) rfl dX7_delete_198 lX7_71 (by decide) (cl_0h) (by simp [cl_c0]) (ji_fitZ (by first | omega | decide)) rfl (cl_ps) ?_
                                      refine ji_aload_n dX7_delete_201 rfl trivial ?_
                                      refine ji_get (ci := 7) (k := 5) rfl dX7_delete_202 lX7_41 (by decide) (cl_0h) rfl ?_
                                      refine ji_iload_n dX7_delete_205 rfl ?_
                                      refine ji_cV dX7_delete_206 (k_Book_wordsOf (hbn2.kept cl_kf) hB (by omega)) rfl ((cl_dh hbd').trans hb0') rfl rfl wX0_wordsOf vX0_wordsOf lX7_273 rfl (Nat.le_of_ble_eq_true rfl) rfl ?_
                                      exact ji_ireturn dX7_delete_209 rfl (rfl) ⟨g, b2, rfl, rfl, hkp, hbn2⟩
                              · try (exfalso; omega)
                                all_goals
                                  refine ji_aload_n dX7_delete_131 rfl trivial ?_
                                  refine ji_get (ci := 7) (k := 5) rfl dX7_delete_132 lX7_41 (by decide) (cl_0h) rfl ?_
                                  refine ji_iload_n dX7_delete_135 rfl ?_
                                  refine ji_cV dX7_delete_136 (k_Book_endOf (hbat.kept cl_kf) hbok (by omega)) rfl ((cl_dh hbd).trans hb0) rfl rfl wX0_endOf vX0_endOf lX7_287 rfl (Nat.le_of_ble_eq_true rfl) rfl ?_
                                  refine ji_goto (tgt := 153) dX7_delete_139 rfl ?_
                                  refine ji_istore dX7_delete_153 (by decide) rfl ?_
                                  refine ji_aload_n dX7_delete_155 rfl trivial ?_
                                  refine ji_aload_n dX7_delete_156 rfl trivial ?_
                                  refine ji_get (ci := 7) (k := 5) rfl dX7_delete_157 lX7_41 (by decide) (cl_0h) rfl ?_
                                  refine ji_iload_n dX7_delete_160 rfl ?_
                                  refine ji_iload dX7_delete_161 rfl ?_
                                  refine ji_iload dX7_delete_163 rfl ?_
                                  refine ji_callV dX7_delete_165 (k_Book_withDeleted (xa := xa) (ya := ya) (hbat.kept cl_kf) hbok hv hxy hym (by omega) c1) (by rw [hx1, hy1]; rfl) ((cl_dh hbd).trans hb0) rfl rfl wX0_withDeleted vX0_withDeleted lX7_308 rfl (Nat.le_of_ble_eq_true rfl) rfl (by omega) (by first | omega | exact Nat.le_refl _) (fun r8 h8 hq8 => ?_) (fun E8 h8 hq8 => by obtain ⟨w9, q, -⟩ := hq8; cases q)
                                  obtain ⟨b2, hq1, hext, hbn⟩ := hq8
                                  cases hq1
                                  obtain ⟨g, e9, hkp⟩ := cl_extE c1 hext
                                  subst e9
                                  have hbn2 := hbn.kept cl_fk
                                  obtain ⟨bw2, bkq2, bfq2, hb0', -, -, -, ⟨hbd', -, -⟩, -⟩ := id hbn2
                                  refine ji_putE (ci := 7) (k := 5) rfl dX7_delete_168 lX7_41 (by decide) (cl_0h) (by simp [cl_c0]) (ji_fitO _ trivial) rfl (cl_pb) ?_
                                  refine ji_aload_n dX7_delete_171 rfl trivial ?_
                                  refine ji_get (ci := 7) (k := 6) rfl dX7_delete_172 lX7_48 (by decide) (cl_0h) rfl ?_
                                  refine ji_iload dX7_delete_175 rfl ?_
                                  refine ji_iload dX7_delete_177 rfl ?_
                                  refine ji_iload dX7_delete_179 rfl ?_
                                  refine ji_if_eq (tgt := 191) dX7_delete_181 rfl (by omega) (fun c181 => ?_) (fun c181 => ?_)
                                  · try (exfalso; omega)
                                    all_goals
                                      refine ji_iload dX7_delete_191 rfl ?_
                                      refine ji_cVv dX7_delete_193 (cl_jM (mk_cg M (bk_ws B (bk_fw B p + m) - 1) (bk_end B p) (bk_ws B (bk_fw B p + m) - 1 - 1)) (k_Marks_closeGap (by omega) (by omega) hr9 hJ9 hF9 hT9)) rfl (cl_12h) rfl rfl wX4_closeGap vX4_closeGap lX7_312 rfl (Nat.le_of_ble_eq_true rfl) rfl ?_
                                      refine ji_aload_n dX7_delete_196 rfl trivial ?_
                                      refine ji_iconst dX7_delete_197 ?_
                                      refine ji_putE (ci := 7) (k := 10) rfl dX7_delete_198 lX7_71 (by decide) (cl_0h) (by simp [cl_c0]) (ji_fitZ (by first | omega | decide)) rfl (cl_ps) ?_
                                      refine ji_aload_n dX7_delete_201 rfl trivial ?_
                                      refine ji_get (ci := 7) (k := 5) rfl dX7_delete_202 lX7_41 (by decide) (cl_0h) rfl ?_
                                      refine ji_iload_n dX7_delete_205 rfl ?_
                                      refine ji_cV dX7_delete_206 (k_Book_wordsOf (hbn2.kept cl_kf) hB (by omega)) rfl ((cl_dh hbd').trans hb0') rfl rfl wX0_wordsOf vX0_wordsOf lX7_273 rfl (Nat.le_of_ble_eq_true rfl) rfl ?_
                                      exact ji_ireturn dX7_delete_209 rfl (rfl) ⟨g, b2, rfl, rfl, hkp, hbn2⟩
                                  · try (exfalso; omega)
                                    all_goals
                                      refine ji_iload dX7_delete_184 rfl ?_
                                      refine ji_iconst dX7_delete_186 ?_
                                      refine ji_isub dX7_delete_187 ?_
                                      refine ji_goto (tgt := 193) dX7_delete_188 rfl ?_
                                      refine ji_cVv dX7_delete_193 (cl_jM (mk_cg M (bk_ws B (bk_fw B p + m) - 1) (bk_end B p) (bk_ws B (bk_fw B p + m) - 1 - 1)) (k_Marks_closeGap (by omega) (by omega) hr9 hJ9 hF9 hT9)) rfl (cl_12h) rfl rfl wX4_closeGap vX4_closeGap lX7_312 rfl (Nat.le_of_ble_eq_true rfl) rfl ?_
                                      refine ji_aload_n dX7_delete_196 rfl trivial ?_
                                      refine ji_iconst dX7_delete_197 ?_
                                      refine ji_putE (ci := 7) (k := 10) rfl dX7_delete_198 lX7_71 (by decide) (cl_0h) (by simp [cl_c0]) (ji_fitZ (by first | omega | decide)) rfl (cl_ps) ?_
                                      refine ji_aload_n dX7_delete_201 rfl trivial ?_
                                      refine ji_get (ci := 7) (k := 5) rfl dX7_delete_202 lX7_41 (by decide) (cl_0h) rfl ?_
                                      refine ji_iload_n dX7_delete_205 rfl ?_
                                      refine ji_cV dX7_delete_206 (k_Book_wordsOf (hbn2.kept cl_kf) hB (by omega)) rfl ((cl_dh hbd').trans hb0') rfl rfl wX0_wordsOf vX0_wordsOf lX7_273 rfl (Nat.le_of_ble_eq_true rfl) rfl ?_
                                      exact ji_ireturn dX7_delete_209 rfl (rfl) ⟨g, b2, rfl, rfl, hkp, hbn2⟩
                          · try (exfalso; omega)
                            all_goals
                              refine ji_aload_n dX7_delete_101 rfl trivial ?_
                              refine ji_get (ci := 7) (k := 5) rfl dX7_delete_102 lX7_41 (by decide) (cl_0h) rfl ?_
                              refine ji_iload_n dX7_delete_105 rfl ?_
                              refine ji_iload_n dX7_delete_106 rfl ?_
                              refine ji_cV dX7_delete_107 (k_Book_placeOfWord (hbat.kept cl_kf) hbok (by omega) (by omega)) rfl ((cl_dh hbd).trans hb0) rfl rfl wX0_placeOfWord vX0_placeOfWord lX7_290 rfl (Nat.le_of_ble_eq_true rfl) rfl ?_
                              refine ji_iconst dX7_delete_110 ?_
                              refine ji_isub dX7_delete_111 ?_
                              refine ji_goto (tgt := 124) dX7_delete_112 rfl ?_
                              refine ji_istore dX7_delete_124 (by decide) rfl ?_
                              refine ji_iload dX7_delete_126 rfl ?_
                              refine ji_if_eq (tgt := 142) dX7_delete_128 rfl (by omega) (fun c128 => ?_) (fun c128 => ?_)
                              · try (exfalso; omega)
                                all_goals
                                  refine ji_aload_n dX7_delete_142 rfl trivial ?_
                                  refine ji_get (ci := 7) (k := 5) rfl dX7_delete_143 lX7_41 (by decide) (cl_0h) rfl ?_
                                  refine ji_iload_n dX7_delete_146 rfl ?_
                                  refine ji_iload_n dX7_delete_147 rfl ?_
                                  refine ji_iload_n dX7_delete_148 rfl ?_
                                  refine ji_iadd dX7_delete_149 ?_
                                  refine ji_cV dX7_delete_150 (k_Book_placeOfWord (hbat.kept cl_kf) hbok (by omega) (by omega)) rfl ((cl_dh hbd).trans hb0) rfl rfl wX0_placeOfWord vX0_placeOfWord lX7_290 rfl (Nat.le_of_ble_eq_true rfl) rfl ?_
                                  refine ji_istore dX7_delete_153 (by decide) rfl ?_
                                  refine ji_aload_n dX7_delete_155 rfl trivial ?_
                                  refine ji_aload_n dX7_delete_156 rfl trivial ?_
                                  refine ji_get (ci := 7) (k := 5) rfl dX7_delete_157 lX7_41 (by decide) (cl_0h) rfl ?_
                                  refine ji_iload_n dX7_delete_160 rfl ?_
                                  refine ji_iload dX7_delete_161 rfl ?_
                                  refine ji_iload dX7_delete_163 rfl ?_
                                  refine ji_callV dX7_delete_165 (k_Book_withDeleted (xa := xa) (ya := ya) (hbat.kept cl_kf) hbok hv hxy hym (by omega) c1) (by rw [hx1, hy1]; rfl) ((cl_dh hbd).trans hb0) rfl rfl wX0_withDeleted vX0_withDeleted lX7_308 rfl (Nat.le_of_ble_eq_true rfl) rfl (by omega) (by first | omega | exact Nat.le_refl _) (fun r8 h8 hq8 => ?_) (fun E8 h8 hq8 => by obtain ⟨w9, q, -⟩ := hq8; cases q)
                                  obtain ⟨b2, hq1, hext, hbn⟩ := hq8
                                  cases hq1
                                  obtain ⟨g, e9, hkp⟩ := cl_extE c1 hext
                                  subst e9
                                  have hbn2 := hbn.kept cl_fk
                                  obtain ⟨bw2, bkq2, bfq2, hb0', -, -, -, ⟨hbd', -, -⟩, -⟩ := id hbn2
                                  refine ji_putE (ci := 7) (k := 5) rfl dX7_delete_168 lX7_41 (by decide) (cl_0h) (by simp [cl_c0]) (ji_fitO _ trivial) rfl (cl_pb) ?_
                                  refine ji_aload_n dX7_delete_171 rfl trivial ?_
                                  refine ji_get (ci := 7) (k := 6) rfl dX7_delete_172 lX7_48 (by decide) (cl_0h) rfl ?_
                                  refine ji_iload dX7_delete_175 rfl ?_
                                  refine ji_iload dX7_delete_177 rfl ?_
                                  refine ji_iload dX7_delete_179 rfl ?_
                                  refine ji_if_eq (tgt := 191) dX7_delete_181 rfl (by omega) (fun c181 => ?_) (fun c181 => ?_)
                                  · try (exfalso; omega)
                                    all_goals
                                      refine ji_iload dX7_delete_191 rfl ?_
                                      refine ji_cVv dX7_delete_193 (cl_jM (mk_cg M (bk_ws B (bk_fw B p + m) - 1) (bk_end B p) (bk_ws B (bk_fw B p + m) - 1 - 1)) (k_Marks_closeGap (by omega) (by omega) hr9 hJ9 hF9 hT9)) rfl (cl_12h) rfl rfl wX4_closeGap vX4_closeGap lX7_312 rfl (Nat.le_of_ble_eq_true rfl) rfl ?_
                                      refine ji_aload_n dX7_delete_196 rfl trivial ?_
                                      refine ji_iconst dX7_delete_197 ?_
                                      refine ji_putE (ci := 7) (k := 10) rfl dX7_delete_198 lX7_71 (by decide) (cl_0h) (by simp [cl_c0]) (ji_fitZ (by first | omega | decide)) rfl (cl_ps) ?_
                                      refine ji_aload_n dX7_delete_201 rfl trivial ?_
                                      refine ji_get (ci := 7) (k := 5) rfl dX7_delete_202 lX7_41 (by decide) (cl_0h) rfl ?_
                                      refine ji_iload_n dX7_delete_205 rfl ?_
                                      refine ji_cV dX7_delete_206 (k_Book_wordsOf (hbn2.kept cl_kf) hB (by omega)) rfl ((cl_dh hbd').trans hb0') rfl rfl wX0_wordsOf vX0_wordsOf lX7_273 rfl (Nat.le_of_ble_eq_true rfl) rfl ?_
                                      exact ji_ireturn dX7_delete_209 rfl (rfl) ⟨g, b2, rfl, rfl, hkp, hbn2⟩
                                  · try (exfalso; omega)
                                    all_goals
                                      refine ji_iload dX7_delete_184 rfl ?_
                                      refine ji_iconst dX7_delete_186 ?_
                                      refine ji_isub dX7_delete_187 ?_
                                      refine ji_goto (tgt := 193) dX7_delete_188 rfl ?_
                                      refine ji_cVv dX7_delete_193 (cl_jM (mk_cg M (bk_ws B (bk_fw B p + m) - 1) (bk_end B p) (bk_ws B (bk_fw B p + m) - 1 - 1)) (k_Marks_closeGap (by omega) (by omega) hr9 hJ9 hF9 hT9)) rfl (cl_12h) rfl rfl wX4_closeGap vX4_closeGap lX7_312 rfl (Nat.le_of_ble_eq_true rfl) rfl ?_
                                      refine ji_aload_n dX7_delete_196 rfl trivial ?_
                                      refine ji_iconst dX7_delete_197 ?_
                                      refine ji_putE (ci := 7) (k := 10) rfl dX7_delete_198 lX7_71 (by decide) (cl_0h) (by simp [cl_c0]) (ji_fitZ (by first | omega | decide)) rfl (cl_ps) ?_
                                      refine ji_aload_n dX7_delete_201 rfl trivial ?_
                                      refine ji_get (ci := 7) (k := 5) rfl dX7_delete_202 lX7_41 (by decide) (cl_0h) rfl ?_
                                      refine ji_iload_n dX7_delete_205 rfl ?_
                                      refine ji_cV dX7_delete_206 (k_Book_wordsOf (hbn2.kept cl_kf) hB (by omega)) rfl ((cl_dh hbd').trans hb0') rfl rfl wX0_wordsOf vX0_wordsOf lX7_273 rfl (Nat.le_of_ble_eq_true rfl) rfl ?_
                                      exact ji_ireturn dX7_delete_209 rfl (rfl) ⟨g, b2, rfl, rfl, hkp, hbn2⟩
                              · try (exfalso; omega)
                                all_goals
                                  refine ji_aload_n dX7_delete_131 rfl trivial ?_
                                  refine ji_get (ci := 7) (k := 5) rfl dX7_delete_132 lX7_41 (by decide) (cl_0h) rfl ?_
                                  refine ji_iload_n dX7_delete_135 rfl ?_
                                  refine ji_cV dX7_delete_136 (k_Book_endOf (hbat.kept cl_kf) hbok (by omega)) rfl ((cl_dh hbd).trans hb0) rfl rfl wX0_endOf vX0_endOf lX7_287 rfl (Nat.le_of_ble_eq_true rfl) rfl ?_
                                  refine ji_goto (tgt := 153) dX7_delete_139 rfl ?_
                                  refine ji_istore dX7_delete_153 (by decide) rfl ?_
                                  refine ji_aload_n dX7_delete_155 rfl trivial ?_
                                  refine ji_aload_n dX7_delete_156 rfl trivial ?_
                                  refine ji_get (ci := 7) (k := 5) rfl dX7_delete_157 lX7_41 (by decide) (cl_0h) rfl ?_
                                  refine ji_iload_n dX7_delete_160 rfl ?_
                                  refine ji_iload dX7_delete_161 rfl ?_
                                  refine ji_iload dX7_delete_163 rfl ?_
                                  refine ji_callV dX7_delete_165 (k_Book_withDeleted (xa := xa) (ya := ya) (hbat.kept cl_kf) hbok hv hxy hym (by omega) c1) (by rw [hx1, hy1]; rfl) ((cl_dh hbd).trans hb0) rfl rfl wX0_withDeleted vX0_withDeleted lX7_308 rfl (Nat.le_of_ble_eq_true rfl) rfl (by omega) (by first | omega | exact Nat.le_refl _) (fun r8 h8 hq8 => ?_) (fun E8 h8 hq8 => by obtain ⟨w9, q, -⟩ := hq8; cases q)
                                  obtain ⟨b2, hq1, hext, hbn⟩ := hq8
                                  cases hq1
                                  obtain ⟨g, e9, hkp⟩ := cl_extE c1 hext
                                  subst e9
                                  have hbn2 := hbn.kept cl_fk
                                  obtain ⟨bw2, bkq2, bfq2, hb0', -, -, -, ⟨hbd', -, -⟩, -⟩ := id hbn2
                                  refine ji_putE (ci := 7) (k := 5) rfl dX7_delete_168 lX7_41 (by decide) (cl_0h) (by simp [cl_c0]) (ji_fitO _ trivial) rfl (cl_pb) ?_
                                  refine ji_aload_n dX7_delete_171 rfl trivial ?_
                                  refine ji_get (ci := 7) (k := 6) rfl dX7_delete_172 lX7_48 (by decide) (cl_0h) rfl ?_
                                  refine ji_iload dX7_delete_175 rfl ?_
                                  refine ji_iload dX7_delete_177 rfl ?_
                                  refine ji_iload dX7_delete_179 rfl ?_
                                  refine ji_if_eq (tgt := 191) dX7_delete_181 rfl (by omega) (fun c181 => ?_) (fun c181 => ?_)
                                  · try (exfalso; omega)
                                    all_goals
                                      refine ji_iload dX7_delete_191 rfl ?_
                                      refine ji_cVv dX7_delete_193 (cl_jM (mk_cg M (bk_ws B (bk_fw B p + m) - 1) (bk_end B p) (bk_ws B (bk_fw B p + m) - 1 - 1)) (k_Marks_closeGap (by omega) (by omega) hr9 hJ9 hF9 hT9)) rfl (cl_12h) rfl rfl wX4_closeGap vX4_closeGap lX7_312 rfl (Nat.le_of_ble_eq_true rfl) rfl ?_
                                      refine ji_aload_n dX7_delete_196 rfl trivial ?_
                                      refine ji_iconst dX7_delete_197 ?_
                                      refine ji_putE (ci := 7) (k := 10) rfl dX7_delete_198 lX7_71 (by decide) (cl_0h) (by simp [cl_c0]) (ji_fitZ (by first | omega | decide)) rfl (cl_ps) ?_
                                      refine ji_aload_n dX7_delete_201 rfl trivial ?_
                                      refine ji_get (ci := 7) (k := 5) rfl dX7_delete_202 lX7_41 (by decide) (cl_0h) rfl ?_
                                      refine ji_iload_n dX7_delete_205 rfl ?_
                                      refine ji_cV dX7_delete_206 (k_Book_wordsOf (hbn2.kept cl_kf) hB (by omega)) rfl ((cl_dh hbd').trans hb0') rfl rfl wX0_wordsOf vX0_wordsOf lX7_273 rfl (Nat.le_of_ble_eq_true rfl) rfl ?_
                                      exact ji_ireturn dX7_delete_209 rfl (rfl) ⟨g, b2, rfl, rfl, hkp, hbn2⟩
                                  · try (exfalso; omega)
                                    all_goals
                                      refine ji_iload dX7_delete_184 rfl ?_
                                      refine ji_iconst dX7_delete_186 ?_
                                      refine ji_isub dX7_delete_187 ?_
                                      refine ji_goto (tgt := 193) dX7_delete_188 rfl ?_
                                      refine ji_cVv dX7_delete_193 (cl_jM (mk_cg M (bk_ws B (bk_fw B p + m) - 1) (bk_end B p) (bk_ws B (bk_fw B p + m) - 1 - 1)) (k_Marks_closeGap (by omega) (by omega) hr9 hJ9 hF9 hT9)) rfl (cl_12h) rfl rfl wX4_closeGap vX4_closeGap lX7_312 rfl (Nat.le_of_ble_eq_true rfl) rfl ?_
                                      refine ji_aload_n dX7_delete_196 rfl trivial ?_
                                      refine ji_iconst dX7_delete_197 ?_
                                      refine ji_putE (ci := 7) (k := 10) rfl dX7_delete_198 lX7_71 (by decide) (cl_0h) (by simp [cl_c0]) (ji_fitZ (by first | omega | decide)) rfl (cl_ps) ?_
                                      refine ji_aload_n dX7_delete_201 rfl trivial ?_
                                      refine ji_get (ci := 7) (k := 5) rfl dX7_delete_202 lX7_41 (by decide) (cl_0h) rfl ?_
                                      refine ji_iload_n dX7_delete_205 rfl ?_
                                      refine ji_cV dX7_delete_206 (k_Book_wordsOf (hbn2.kept cl_kf) hB (by omega)) rfl ((cl_dh hbd').trans hb0') rfl rfl wX0_wordsOf vX0_wordsOf lX7_273 rfl (Nat.le_of_ble_eq_true rfl) rfl ?_
                                      exact ji_ireturn dX7_delete_209 rfl (rfl) ⟨g, b2, rfl, rfl, hkp, hbn2⟩
                      · try (exfalso; omega)
                        all_goals
                          refine ji_iconst dX7_delete_89 ?_
                          refine ji_goto (tgt := 94) dX7_delete_90 rfl ?_
                          refine ji_istore dX7_delete_94 (by decide) rfl ?_
                          refine ji_iload dX7_delete_96 rfl ?_
                          refine ji_if_eq (tgt := 115) dX7_delete_98 rfl (by omega) (fun c98 => ?_) (fun c98 => ?_)
                          · try (exfalso; omega)
                            all_goals
                              refine ji_aload_n dX7_delete_115 rfl trivial ?_
                              refine ji_get (ci := 7) (k := 5) rfl dX7_delete_116 lX7_41 (by decide) (cl_0h) rfl ?_
                              refine ji_iload_n dX7_delete_119 rfl ?_
                              refine ji_iload_n dX7_delete_120 rfl ?_
                              refine ji_cV dX7_delete_121 (k_Book_placeOfWord (hbat.kept cl_kf) hbok (by omega) (by omega)) rfl ((cl_dh hbd).trans hb0) rfl rfl wX0_placeOfWord vX0_placeOfWord lX7_290 rfl (Nat.le_of_ble_eq_true rfl) rfl ?_
                              refine ji_istore dX7_delete_124 (by decide) rfl ?_
                              refine ji_iload dX7_delete_126 rfl ?_
                              refine ji_if_eq (tgt := 142) dX7_delete_128 rfl (by omega) (fun c128 => ?_) (fun c128 => ?_)
                              · try (exfalso; omega)
                                all_goals
                                  refine ji_aload_n dX7_delete_142 rfl trivial ?_
                                  refine ji_get (ci := 7) (k := 5) rfl dX7_delete_143 lX7_41 (by decide) (cl_0h) rfl ?_
                                  refine ji_iload_n dX7_delete_146 rfl ?_
                                  refine ji_iload_n dX7_delete_147 rfl ?_
                                  refine ji_iload_n dX7_delete_148 rfl ?_
                                  refine ji_iadd dX7_delete_149 ?_
                                  refine ji_cV dX7_delete_150 (k_Book_placeOfWord (hbat.kept cl_kf) hbok (by omega) (by omega)) rfl ((cl_dh hbd).trans hb0) rfl rfl wX0_placeOfWord vX0_placeOfWord lX7_290 rfl (Nat.le_of_ble_eq_true rfl) rfl ?_
                                  refine ji_istore dX7_delete_153 (by decide) rfl ?_
                                  refine ji_aload_n dX7_delete_155 rfl trivial ?_
                                  refine ji_aload_n dX7_delete_156 rfl trivial ?_
                                  refine ji_get (ci := 7) (k := 5) rfl dX7_delete_157 lX7_41 (by decide) (cl_0h) rfl ?_
                                  refine ji_iload_n dX7_delete_160 rfl ?_
                                  refine ji_iload dX7_delete_161 rfl ?_
                                  refine ji_iload dX7_delete_163 rfl ?_
                                  refine ji_callV dX7_delete_165 (k_Book_withDeleted (xa := xa) (ya := ya) (hbat.kept cl_kf) hbok hv hxy hym (by omega) c1) (by rw [hx1, hy1]; rfl) ((cl_dh hbd).trans hb0) rfl rfl wX0_withDeleted vX0_withDeleted lX7_308 rfl (Nat.le_of_ble_eq_true rfl) rfl (by omega) (by first | omega | exact Nat.le_refl _) (fun r8 h8 hq8 => ?_) (fun E8 h8 hq8 => by obtain ⟨w9, q, -⟩ := hq8; cases q)
                                  obtain ⟨b2, hq1, hext, hbn⟩ := hq8
                                  cases hq1
                                  obtain ⟨g, e9, hkp⟩ := cl_extE c1 hext
                                  subst e9
                                  have hbn2 := hbn.kept cl_fk
                                  obtain ⟨bw2, bkq2, bfq2, hb0', -, -, -, ⟨hbd', -, -⟩, -⟩ := id hbn2
                                  refine ji_putE (ci := 7) (k := 5) rfl dX7_delete_168 lX7_41 (by decide) (cl_0h) (by simp [cl_c0]) (ji_fitO _ trivial) rfl (cl_pb) ?_
                                  refine ji_aload_n dX7_delete_171 rfl trivial ?_
                                  refine ji_get (ci := 7) (k := 6) rfl dX7_delete_172 lX7_48 (by decide) (cl_0h) rfl ?_
                                  refine ji_iload dX7_delete_175 rfl ?_
                                  refine ji_iload dX7_delete_177 rfl ?_
                                  refine ji_iload dX7_delete_179 rfl ?_
                                  refine ji_if_eq (tgt := 191) dX7_delete_181 rfl (by omega) (fun c181 => ?_) (fun c181 => ?_)
                                  · try (exfalso; omega)
                                    all_goals
                                      refine ji_iload dX7_delete_191 rfl ?_
                                      refine ji_cVv dX7_delete_193 (cl_jM (mk_cg M (bk_ws B (bk_fw B p + m) - 1) (bk_end B p) (bk_ws B (bk_fw B p + m) - 1 - 1)) (k_Marks_closeGap (by omega) (by omega) hr9 hJ9 hF9 hT9)) rfl (cl_12h) rfl rfl wX4_closeGap vX4_closeGap lX7_312 rfl (Nat.le_of_ble_eq_true rfl) rfl ?_
                                      refine ji_aload_n dX7_delete_196 rfl trivial ?_
                                      refine ji_iconst dX7_delete_197 ?_
                                      refine ji_putE (ci := 7) (k := 10) rfl dX7_delete_198 lX7_71 (by decide) (cl_0h) (by simp [cl_c0]) (ji_fitZ (by first | omega | decide)) rfl (cl_ps) ?_
                                      refine ji_aload_n dX7_delete_201 rfl trivial ?_
                                      refine ji_get (ci := 7) (k := 5) rfl dX7_delete_202 lX7_41 (by decide) (cl_0h) rfl ?_
                                      refine ji_iload_n dX7_delete_205 rfl ?_
                                      refine ji_cV dX7_delete_206 (k_Book_wordsOf (hbn2.kept cl_kf) hB (by omega)) rfl ((cl_dh hbd').trans hb0') rfl rfl wX0_wordsOf vX0_wordsOf lX7_273 rfl (Nat.le_of_ble_eq_true rfl) rfl ?_
                                      exact ji_ireturn dX7_delete_209 rfl (rfl) ⟨g, b2, rfl, rfl, hkp, hbn2⟩
                                  · try (exfalso; omega)
                                    all_goals
                                      refine ji_iload dX7_delete_184 rfl ?_
                                      refine ji_iconst dX7_delete_186 ?_
                                      refine ji_isub dX7_delete_187 ?_
                                      refine ji_goto (tgt := 193) dX7_delete_188 rfl ?_
                                      refine ji_cVv dX7_delete_193 (cl_jM (mk_cg M (bk_ws B (bk_fw B p + m) - 1) (bk_end B p) (bk_ws B (bk_fw B p + m) - 1 - 1)) (k_Marks_closeGap (by omega) (by omega) hr9 hJ9 hF9 hT9)) rfl (cl_12h) rfl rfl wX4_closeGap vX4_closeGap lX7_312 rfl (Nat.le_of_ble_eq_true rfl) rfl ?_
                                      refine ji_aload_n dX7_delete_196 rfl trivial ?_
                                      refine ji_iconst dX7_delete_197 ?_
                                      refine ji_putE (ci := 7) (k := 10) rfl dX7_delete_198 lX7_71 (by decide) (cl_0h) (by simp [cl_c0]) (ji_fitZ (by first | omega | decide)) rfl (cl_ps) ?_
                                      refine ji_aload_n dX7_delete_201 rfl trivial ?_
                                      refine ji_get (ci := 7) (k := 5) rfl dX7_delete_202 lX7_41 (by decide) (cl_0h) rfl ?_
                                      refine ji_iload_n dX7_delete_205 rfl ?_
                                      refine ji_cV dX7_delete_206 (k_Book_wordsOf (hbn2.kept cl_kf) hB (by omega)) rfl ((cl_dh hbd').trans hb0') rfl rfl wX0_wordsOf vX0_wordsOf lX7_273 rfl (Nat.le_of_ble_eq_true rfl) rfl ?_
                                      exact ji_ireturn dX7_delete_209 rfl (rfl) ⟨g, b2, rfl, rfl, hkp, hbn2⟩
                              · try (exfalso; omega)
                                all_goals
                                  refine ji_aload_n dX7_delete_131 rfl trivial ?_
                                  refine ji_get (ci := 7) (k := 5) rfl dX7_delete_132 lX7_41 (by decide) (cl_0h) rfl ?_
                                  refine ji_iload_n dX7_delete_135 rfl ?_
                                  refine ji_cV dX7_delete_136 (k_Book_endOf (hbat.kept cl_kf) hbok (by omega)) rfl ((cl_dh hbd).trans hb0) rfl rfl wX0_endOf vX0_endOf lX7_287 rfl (Nat.le_of_ble_eq_true rfl) rfl ?_
                                  refine ji_goto (tgt := 153) dX7_delete_139 rfl ?_
                                  refine ji_istore dX7_delete_153 (by decide) rfl ?_
                                  refine ji_aload_n dX7_delete_155 rfl trivial ?_
                                  refine ji_aload_n dX7_delete_156 rfl trivial ?_
                                  refine ji_get (ci := 7) (k := 5) rfl dX7_delete_157 lX7_41 (by decide) (cl_0h) rfl ?_
                                  refine ji_iload_n dX7_delete_160 rfl ?_
                                  refine ji_iload dX7_delete_161 rfl ?_
                                  refine ji_iload dX7_delete_163 rfl ?_
                                  refine ji_callV dX7_delete_165 (k_Book_withDeleted (xa := xa) (ya := ya) (hbat.kept cl_kf) hbok hv hxy hym (by omega) c1) (by rw [hx1, hy1]; rfl) ((cl_dh hbd).trans hb0) rfl rfl wX0_withDeleted vX0_withDeleted lX7_308 rfl (Nat.le_of_ble_eq_true rfl) rfl (by omega) (by first | omega | exact Nat.le_refl _) (fun r8 h8 hq8 => ?_) (fun E8 h8 hq8 => by obtain ⟨w9, q, -⟩ := hq8; cases q)
                                  obtain ⟨b2, hq1, hext, hbn⟩ := hq8
                                  cases hq1
                                  obtain ⟨g, e9, hkp⟩ := cl_extE c1 hext
                                  subst e9
                                  have hbn2 := hbn.kept cl_fk
                                  obtain ⟨bw2, bkq2, bfq2, hb0', -, -, -, ⟨hbd', -, -⟩, -⟩ := id hbn2
                                  refine ji_putE (ci := 7) (k := 5) rfl dX7_delete_168 lX7_41 (by decide) (cl_0h) (by simp [cl_c0]) (ji_fitO _ trivial) rfl (cl_pb) ?_
                                  refine ji_aload_n dX7_delete_171 rfl trivial ?_
                                  refine ji_get (ci := 7) (k := 6) rfl dX7_delete_172 lX7_48 (by decide) (cl_0h) rfl ?_
                                  refine ji_iload dX7_delete_175 rfl ?_
                                  refine ji_iload dX7_delete_177 rfl ?_
                                  refine ji_iload dX7_delete_179 rfl ?_
                                  refine ji_if_eq (tgt := 191) dX7_delete_181 rfl (by omega) (fun c181 => ?_) (fun c181 => ?_)
                                  · try (exfalso; omega)
                                    all_goals
                                      refine ji_iload dX7_delete_191 rfl ?_
                                      refine ji_cVv dX7_delete_193 (cl_jM (mk_cg M (bk_ws B (bk_fw B p + m) - 1) (bk_end B p) (bk_ws B (bk_fw B p + m) - 1 - 1)) (k_Marks_closeGap (by omega) (by omega) hr9 hJ9 hF9 hT9)) rfl (cl_12h) rfl rfl wX4_closeGap vX4_closeGap lX7_312 rfl (Nat.le_of_ble_eq_true rfl) rfl ?_
                                      refine ji_aload_n dX7_delete_196 rfl trivial ?_
                                      refine ji_iconst dX7_delete_197 ?_
                                      refine ji_putE (ci := 7) (k := 10) rfl dX7_delete_198 lX7_71 (by decide) (cl_0h) (by simp [cl_c0]) (ji_fitZ (by first | omega | decide)) rfl (cl_ps) ?_
                                      refine ji_aload_n dX7_delete_201 rfl trivial ?_
                                      refine ji_get (ci := 7) (k := 5) rfl dX7_delete_202 lX7_41 (by decide) (cl_0h) rfl ?_
                                      refine ji_iload_n dX7_delete_205 rfl ?_
                                      refine ji_cV dX7_delete_206 (k_Book_wordsOf (hbn2.kept cl_kf) hB (by omega)) rfl ((cl_dh hbd').trans hb0') rfl rfl wX0_wordsOf vX0_wordsOf lX7_273 rfl (Nat.le_of_ble_eq_true rfl) rfl ?_
                                      exact ji_ireturn dX7_delete_209 rfl (rfl) ⟨g, b2, rfl, rfl, hkp, hbn2⟩
                                  · try (exfalso; omega)
                                    all_goals
                                      refine ji_iload dX7_delete_184 rfl ?_
                                      refine ji_iconst dX7_delete_186 ?_
                                      refine ji_isub dX7_delete_187 ?_
                                      refine ji_goto (tgt := 193) dX7_delete_188 rfl ?_
                                      refine ji_cVv dX7_delete_193 (cl_jM (mk_cg M (bk_ws B (bk_fw B p + m) - 1) (bk_end B p) (bk_ws B (bk_fw B p + m) - 1 - 1)) (k_Marks_closeGap (by omega) (by omega) hr9 hJ9 hF9 hT9)) rfl (cl_12h) rfl rfl wX4_closeGap vX4_closeGap lX7_312 rfl (Nat.le_of_ble_eq_true rfl) rfl ?_
                                      refine ji_aload_n dX7_delete_196 rfl trivial ?_
                                      refine ji_iconst dX7_delete_197 ?_
                                      refine ji_putE (ci := 7) (k := 10) rfl dX7_delete_198 lX7_71 (by decide) (cl_0h) (by simp [cl_c0]) (ji_fitZ (by first | omega | decide)) rfl (cl_ps) ?_
                                      refine ji_aload_n dX7_delete_201 rfl trivial ?_
                                      refine ji_get (ci := 7) (k := 5) rfl dX7_delete_202 lX7_41 (by decide) (cl_0h) rfl ?_
                                      refine ji_iload_n dX7_delete_205 rfl ?_
                                      refine ji_cV dX7_delete_206 (k_Book_wordsOf (hbn2.kept cl_kf) hB (by omega)) rfl ((cl_dh hbd').trans hb0') rfl rfl wX0_wordsOf vX0_wordsOf lX7_273 rfl (Nat.le_of_ble_eq_true rfl) rfl ?_
                                      exact ji_ireturn dX7_delete_209 rfl (rfl) ⟨g, b2, rfl, rfl, hkp, hbn2⟩
                          · try (exfalso; omega)
                            all_goals
                              refine ji_aload_n dX7_delete_101 rfl trivial ?_
                              refine ji_get (ci := 7) (k := 5) rfl dX7_delete_102 lX7_41 (by decide) (cl_0h) rfl ?_
                              refine ji_iload_n dX7_delete_105 rfl ?_
                              refine ji_iload_n dX7_delete_106 rfl ?_
                              refine ji_cV dX7_delete_107 (k_Book_placeOfWord (hbat.kept cl_kf) hbok (by omega) (by omega)) rfl ((cl_dh hbd).trans hb0) rfl rfl wX0_placeOfWord vX0_placeOfWord lX7_290 rfl (Nat.le_of_ble_eq_true rfl) rfl ?_
                              refine ji_iconst dX7_delete_110 ?_
                              refine ji_isub dX7_delete_111 ?_
                              refine ji_goto (tgt := 124) dX7_delete_112 rfl ?_
                              refine ji_istore dX7_delete_124 (by decide) rfl ?_
                              refine ji_iload dX7_delete_126 rfl ?_
                              refine ji_if_eq (tgt := 142) dX7_delete_128 rfl (by omega) (fun c128 => ?_) (fun c128 => ?_)
                              · try (exfalso; omega)
                                all_goals
                                  refine ji_aload_n dX7_delete_142 rfl trivial ?_
                                  refine ji_get (ci := 7) (k := 5) rfl dX7_delete_143 lX7_41 (by decide) (cl_0h) rfl ?_
                                  refine ji_iload_n dX7_delete_146 rfl ?_
                                  refine ji_iload_n dX7_delete_147 rfl ?_
                                  refine ji_iload_n dX7_delete_148 rfl ?_
                                  refine ji_iadd dX7_delete_149 ?_
                                  refine ji_cV dX7_delete_150 (k_Book_placeOfWord (hbat.kept cl_kf) hbok (by omega) (by omega)) rfl ((cl_dh hbd).trans hb0) rfl rfl wX0_placeOfWord vX0_placeOfWord lX7_290 rfl (Nat.le_of_ble_eq_true rfl) rfl ?_
                                  refine ji_istore dX7_delete_153 (by decide) rfl ?_
                                  refine ji_aload_n dX7_delete_155 rfl trivial ?_
                                  refine ji_aload_n dX7_delete_156 rfl trivial ?_
                                  refine ji_get (ci := 7) (k := 5) rfl dX7_delete_157 lX7_41 (by decide) (cl_0h) rfl ?_
                                  refine ji_iload_n dX7_delete_160 rfl ?_
                                  refine ji_iload dX7_delete_161 rfl ?_
                                  refine ji_iload dX7_delete_163 rfl ?_
                                  refine ji_callV dX7_delete_165 (k_Book_withDeleted (xa := xa) (ya := ya) (hbat.kept cl_kf) hbok hv hxy hym (by omega) c1) (by rw [hx1, hy1]; rfl) ((cl_dh hbd).trans hb0) rfl rfl wX0_withDeleted vX0_withDeleted lX7_308 rfl (Nat.le_of_ble_eq_true rfl) rfl (by omega) (by first | omega | exact Nat.le_refl _) (fun r8 h8 hq8 => ?_) (fun E8 h8 hq8 => by obtain ⟨w9, q, -⟩ := hq8; cases q)
                                  obtain ⟨b2, hq1, hext, hbn⟩ := hq8
                                  cases hq1
                                  obtain ⟨g, e9, hkp⟩ := cl_extE c1 hext
                                  subst e9
                                  have hbn2 := hbn.kept cl_fk
                                  obtain ⟨bw2, bkq2, bfq2, hb0', -, -, -, ⟨hbd', -, -⟩, -⟩ := id hbn2
                                  refine ji_putE (ci := 7) (k := 5) rfl dX7_delete_168 lX7_41 (by decide) (cl_0h) (by simp [cl_c0]) (ji_fitO _ trivial) rfl (cl_pb) ?_
                                  refine ji_aload_n dX7_delete_171 rfl trivial ?_
                                  refine ji_get (ci := 7) (k := 6) rfl dX7_delete_172 lX7_48 (by decide) (cl_0h) rfl ?_
                                  refine ji_iload dX7_delete_175 rfl ?_
                                  refine ji_iload dX7_delete_177 rfl ?_
                                  refine ji_iload dX7_delete_179 rfl ?_
                                  refine ji_if_eq (tgt := 191) dX7_delete_181 rfl (by omega) (fun c181 => ?_) (fun c181 => ?_)
                                  · try (exfalso; omega)
                                    all_goals
                                      refine ji_iload dX7_delete_191 rfl ?_
                                      refine ji_cVv dX7_delete_193 (cl_jM (mk_cg M (bk_ws B (bk_fw B p + m) - 1) (bk_end B p) (bk_ws B (bk_fw B p + m) - 1 - 1)) (k_Marks_closeGap (by omega) (by omega) hr9 hJ9 hF9 hT9)) rfl (cl_12h) rfl rfl wX4_closeGap vX4_closeGap lX7_312 rfl (Nat.le_of_ble_eq_true rfl) rfl ?_
                                      refine ji_aload_n dX7_delete_196 rfl trivial ?_
                                      refine ji_iconst dX7_delete_197 ?_
                                      refine ji_putE (ci := 7) (k := 10) rfl dX7_delete_198 lX7_71 (by decide) (cl_0h) (by simp [cl_c0]) (ji_fitZ (by first | omega | decide)) rfl (cl_ps) ?_
                                      refine ji_aload_n dX7_delete_201 rfl trivial ?_
                                      refine ji_get (ci := 7) (k := 5) rfl dX7_delete_202 lX7_41 (by decide) (cl_0h) rfl ?_
                                      refine ji_iload_n dX7_delete_205 rfl ?_
                                      refine ji_cV dX7_delete_206 (k_Book_wordsOf (hbn2.kept cl_kf) hB (by omega)) rfl ((cl_dh hbd').trans hb0') rfl rfl wX0_wordsOf vX0_wordsOf lX7_273 rfl (Nat.le_of_ble_eq_true rfl) rfl ?_
                                      exact ji_ireturn dX7_delete_209 rfl (rfl) ⟨g, b2, rfl, rfl, hkp, hbn2⟩
                                  · try (exfalso; omega)
                                    all_goals
                                      refine ji_iload dX7_delete_184 rfl ?_
                                      refine ji_iconst dX7_delete_186 ?_
                                      refine ji_isub dX7_delete_187 ?_
                                      refine ji_goto (tgt := 193) dX7_delete_188 rfl ?_
                                      refine ji_cVv dX7_delete_193 (cl_jM (mk_cg M (bk_ws B (bk_fw B p + m) - 1) (bk_end B p) (bk_ws B (bk_fw B p + m) - 1 - 1)) (k_Marks_closeGap (by omega) (by omega) hr9 hJ9 hF9 hT9)) rfl (cl_12h) rfl rfl wX4_closeGap vX4_closeGap lX7_312 rfl (Nat.le_of_ble_eq_true rfl) rfl ?_
                                      refine ji_aload_n dX7_delete_196 rfl trivial ?_
                                      refine ji_iconst dX7_delete_197 ?_
                                      refine ji_putE (ci := 7) (k := 10) rfl dX7_delete_198 lX7_71 (by decide) (cl_0h) (by simp [cl_c0]) (ji_fitZ (by first | omega | decide)) rfl (cl_ps) ?_
                                      refine ji_aload_n dX7_delete_201 rfl trivial ?_
                                      refine ji_get (ci := 7) (k := 5) rfl dX7_delete_202 lX7_41 (by decide) (cl_0h) rfl ?_
                                      refine ji_iload_n dX7_delete_205 rfl ?_
                                      refine ji_cV dX7_delete_206 (k_Book_wordsOf (hbn2.kept cl_kf) hB (by omega)) rfl ((cl_dh hbd').trans hb0') rfl rfl wX0_wordsOf vX0_wordsOf lX7_273 rfl (Nat.le_of_ble_eq_true rfl) rfl ?_
                                      exact ji_ireturn dX7_delete_209 rfl (rfl) ⟨g, b2, rfl, rfl, hkp, hbn2⟩
                              · try (exfalso; omega)
                                all_goals
                                  refine ji_aload_n dX7_delete_131 rfl trivial ?_
                                  refine ji_get (ci := 7) (k := 5) rfl dX7_delete_132 lX7_41 (by decide) (cl_0h) rfl ?_
                                  refine ji_iload_n dX7_delete_135 rfl ?_
                                  refine ji_cV dX7_delete_136 (k_Book_endOf (hbat.kept cl_kf) hbok (by omega)) rfl ((cl_dh hbd).trans hb0) rfl rfl wX0_endOf vX0_endOf lX7_287 rfl (Nat.le_of_ble_eq_true rfl) rfl ?_
                                  refine ji_goto (tgt := 153) dX7_delete_139 rfl ?_
                                  refine ji_istore dX7_delete_153 (by decide) rfl ?_
                                  refine ji_aload_n dX7_delete_155 rfl trivial ?_
                                  refine ji_aload_n dX7_delete_156 rfl trivial ?_
                                  refine ji_get (ci := 7) (k := 5) rfl dX7_delete_157 lX7_41 (by decide) (cl_0h) rfl ?_
                                  refine ji_iload_n dX7_delete_160 rfl ?_
                                  refine ji_iload dX7_delete_161 rfl ?_
                                  refine ji_iload dX7_delete_163 rfl ?_
                                  refine ji_callV dX7_delete_165 (k_Book_withDeleted (xa := xa) (ya := ya) (hbat.kept cl_kf) hbok hv hxy hym (by omega) c1) (by rw [hx1, hy1]; rfl) ((cl_dh hbd).trans hb0) rfl rfl wX0_withDeleted vX0_withDeleted lX7_308 rfl (Nat.le_of_ble_eq_true rfl) rfl (by omega) (by first | omega | exact Nat.le_refl _) (fun r8 h8 hq8 => ?_) (fun E8 h8 hq8 => by obtain ⟨w9, q, -⟩ := hq8; cases q)
                                  obtain ⟨b2, hq1, hext, hbn⟩ := hq8
                                  cases hq1
                                  obtain ⟨g, e9, hkp⟩ := cl_extE c1 hext
                                  subst e9
                                  have hbn2 := hbn.kept cl_fk
                                  obtain ⟨bw2, bkq2, bfq2, hb0', -, -, -, ⟨hbd', -, -⟩, -⟩ := id hbn2
                                  refine ji_putE (ci := 7) (k := 5) rfl dX7_delete_168 lX7_41 (by decide) (cl_0h) (by simp [cl_c0]) (ji_fitO _ trivial) rfl (cl_pb) ?_
                                  refine ji_aload_n dX7_delete_171 rfl trivial ?_
                                  refine ji_get (ci := 7) (k := 6) rfl dX7_delete_172 lX7_48 (by decide) (cl_0h) rfl ?_
                                  refine ji_iload dX7_delete_175 rfl ?_
                                  refine ji_iload dX7_delete_177 rfl ?_
                                  refine ji_iload dX7_delete_179 rfl ?_
                                  refine ji_if_eq (tgt := 191) dX7_delete_181 rfl (by omega) (fun c181 => ?_) (fun c181 => ?_)
                                  · try (exfalso; omega)
                                    all_goals
                                      refine ji_iload dX7_delete_191 rfl ?_
                                      refine ji_cVv dX7_delete_193 (cl_jM (mk_cg M (bk_ws B (bk_fw B p + m) - 1) (bk_end B p) (bk_ws B (bk_fw B p + m) - 1 - 1)) (k_Marks_closeGap (by omega) (by omega) hr9 hJ9 hF9 hT9)) rfl (cl_12h) rfl rfl wX4_closeGap vX4_closeGap lX7_312 rfl (Nat.le_of_ble_eq_true rfl) rfl ?_
                                      refine ji_aload_n dX7_delete_196 rfl trivial ?_
                                      refine ji_iconst dX7_delete_197 ?_
                                      refine ji_putE (ci := 7) (k := 10) rfl dX7_delete_198 lX7_71 (by decide) (cl_0h) (by simp [cl_c0]) (ji_fitZ (by first | omega | decide)) rfl (cl_ps) ?_
                                      refine ji_aload_n dX7_delete_201 rfl trivial ?_
                                      refine ji_get (ci := 7) (k := 5) rfl dX7_delete_202 lX7_41 (by decide) (cl_0h) rfl ?_
                                      refine ji_iload_n dX7_delete_205 rfl ?_
                                      refine ji_cV dX7_delete_206 (k_Book_wordsOf (hbn2.kept cl_kf) hB (by omega)) rfl ((cl_dh hbd').trans hb0') rfl rfl wX0_wordsOf vX0_wordsOf lX7_273 rfl (Nat.le_of_ble_eq_true rfl) rfl ?_
                                      exact ji_ireturn dX7_delete_209 rfl (rfl) ⟨g, b2, rfl, rfl, hkp, hbn2⟩
                                  · try (exfalso; omega)
                                    all_goals
                                      refine ji_iload dX7_delete_184 rfl ?_
                                      refine ji_iconst dX7_delete_186 ?_
                                      refine ji_isub dX7_delete_187 ?_
                                      refine ji_goto (tgt := 193) dX7_delete_188 rfl ?_
                                      refine ji_cVv dX7_delete_193 (cl_jM (mk_cg M (bk_ws B (bk_fw B p + m) - 1) (bk_end B p) (bk_ws B (bk_fw B p + m) - 1 - 1)) (k_Marks_closeGap (by omega) (by omega) hr9 hJ9 hF9 hT9)) rfl (cl_12h) rfl rfl wX4_closeGap vX4_closeGap lX7_312 rfl (Nat.le_of_ble_eq_true rfl) rfl ?_
                                      refine ji_aload_n dX7_delete_196 rfl trivial ?_
                                      refine ji_iconst dX7_delete_197 ?_
                                      refine ji_putE (ci := 7) (k := 10) rfl dX7_delete_198 lX7_71 (by decide) (cl_0h) (by simp [cl_c0]) (ji_fitZ (by first | omega | decide)) rfl (cl_ps) ?_
                                      refine ji_aload_n dX7_delete_201 rfl trivial ?_
                                      refine ji_get (ci := 7) (k := 5) rfl dX7_delete_202 lX7_41 (by decide) (cl_0h) rfl ?_
                                      refine ji_iload_n dX7_delete_205 rfl ?_
                                      refine ji_cV dX7_delete_206 (k_Book_wordsOf (hbn2.kept cl_kf) hB (by omega)) rfl ((cl_dh hbd').trans hb0') rfl rfl wX0_wordsOf vX0_wordsOf lX7_273 rfl (Nat.le_of_ble_eq_true rfl) rfl ?_
                                      exact ji_ireturn dX7_delete_209 rfl (rfl) ⟨g, b2, rfl, rfl, hkp, hbn2⟩
                  · try (exfalso; omega)
                    all_goals
                      exact ji_throwW (text := "no word would be left") ji_thrS rfl (by decide) rfl dX7_delete_55 dX7_delete_58 dX7_delete_59 dX7_delete_62 dX7_delete_65 (by omega) (by omega) (Nat.le_of_ble_eq_true rfl) ⟨g, b2, rfl, rfl, hkp, hbn2⟩
              · try (exfalso; omega)
                all_goals
                  exact ji_throwW (text := "a word does not exist, or many is less than 1") ji_thrI rfl (by decide) rfl dX7_delete_38 dX7_delete_41 dX7_delete_42 dX7_delete_45 dX7_delete_48 (by omega) (by omega) (Nat.le_of_ble_eq_true rfl) ⟨g, b2, rfl, rfl, hkp, hbn2⟩

set_option maxHeartbeats 4000000 in
set_option maxRecDepth 100000 in
theorem k_deleteM (hok : cl_ok n f I P M H Y Z B NT SB) {p xa ya : Nat} {m o : Int} (hv : p < bk_P B) (hm : 0 ≤ m ∧ m < (bk_fw B ((p : Int) + 1) - bk_fw B p) ∧ 1 ≤ o ∧ o ≤ (bk_fw B ((p : Int) + 1) - bk_fw B p) - m) (hx : o < (bk_fw B ((p : Int) + 1) - bk_fw B p)) (hl : ¬ m + o = (bk_fw B ((p : Int) + 1) - bk_fw B p)) (hx1 : bk_ws B (bk_fw B p + m) = xa) (hy1 : bk_ws B (bk_fw B p + (m + o)) = ya) (hxy : xa ≤ ya) (hym : ya ≤ bk_m B) (h99 : bk_m B ≤ 9999) (hB : bk_ok (bk_spl B p xa ya (fun _ => 0) 0)) : JM G (d + 5) mX7_delete [.ref 0, .int (jI ((p : Int))), .int (jI (m)), .int (jI (o))] (n, cl_f f I P M H Y Z) 6 (bk_m B - (ya - xa) + 0 + 2 + (wd_cnt (wd_spl (bk_m B) (bk_tx B) (fun _ => 0) xa ya 0) (bk_m B - (ya - xa) + 0) + 2) + (bk_P B + 1 + 3)) (fun r9 h9 => ∃ g b2, r9 = .inl (some (.int (jI (bk_fw (bk_spl B p xa ya (fun _ => 0) 0) ((p : Int) + 1) - bk_fw (bk_spl B p xa ya (fun _ => 0) 0) p)))) ∧ h9 = (n + 6, cl_f g I (P.1, P.2.1, P.2.2.1, P.2.2.2.1, b2, 1) (mk_cg M (bk_ws B (bk_fw B p + m)) (bk_ws B (bk_fw B p + (m + o))) (bk_ws B (bk_fw B p + m))) (hi_k H M P.2.2.2.2.1) Y Z) ∧ cl_kp (n, f) (n + 6, g) ∧ bk_at (n + 6, g) b2 (bk_spl B p xa ya (fun _ => 0) 0)) := by
  obtain ⟨c1, c2, c3, c4, c5, c6, c7, c8, c9, c10, c11, c12⟩ := id hok
  obtain ⟨⟨hm1, hm1'⟩, hm2, hm3, hmJ, hmF, hmT⟩ := id c8
  obtain ⟨hbat, hbok, hbne⟩ := id c6
  obtain ⟨bw, bkq, bfq, hb0, hb1, hb2, hbw, ⟨hbd, -, -⟩, -⟩ := id hbat
  obtain ⟨⟨hw1, hw2⟩, hh1, hh2⟩ := id c5
  have hP10 := hbok.2.1
  have wf0 := bk_fw_b hbok (p : Int)
  have wf1 := bk_fw_b hbok ((p : Int) + 1)
  have hr9 : -1000000 ≤ M.1 ∧ M.1 ≤ 1000000 := by omega
  have hJ9 : ∀ i, -1000000 ≤ M.2.2.2.1 i ∧ M.2.2.2.1 i ≤ 1000000 := fun i => by have := hmJ i; omega
  have hF9 : ∀ i, -1000000 ≤ M.2.2.2.2.1 i ∧ M.2.2.2.2.1 i ≤ 1000000 := fun i => by have := hmF i; omega
  have hT9 : ∀ i, -1000000 ≤ M.2.2.2.2.2.1 i ∧ M.2.2.2.2.2.1 i ≤ 1000000 := fun i => by have := hmT i; omega
  have hm9 := hbok.1.1
  have ww1 := bk_ws_b hbok (bk_fw B p + m)
  have ww2 := bk_ws_b hbok (bk_fw B p + (m + o))
  have ww3 := bk_en_b hbok (p : Int)
  refine ji_ent (by decide) rfl (Nat.le_of_ble_eq_true rfl) rfl ?_
  refine ji_aload_n dX7_delete_0 rfl trivial ?_
  refine ji_iload_n dX7_delete_1 rfl ?_
  refine ji_cVv dX7_delete_2 (k_checkParagraph hok (by omega) (by omega)) rfl (cl_0h) rfl rfl wX7_checkParagraph vX7_checkParagraph lX7_241 rfl (Nat.le_of_ble_eq_true rfl) rfl ?_
  refine ji_aload_n dX7_delete_5 rfl trivial ?_
  refine ji_get (ci := 7) (k := 5) rfl dX7_delete_6 lX7_41 (by decide) (cl_0h) rfl ?_
  refine ji_iload_n dX7_delete_9 rfl ?_
  refine ji_cV dX7_delete_10 (k_Book_wordsOf (hbat.kept cl_kf) hbok (by omega)) rfl ((cl_dh hbd).trans hb0) rfl rfl wX0_wordsOf vX0_wordsOf lX7_273 rfl (Nat.le_of_ble_eq_true rfl) rfl ?_
  refine ji_istore dX7_delete_13 (by decide) rfl ?_
  refine ji_iload_n dX7_delete_15 rfl ?_
  refine ji_if_lt (tgt := 38) dX7_delete_16 rfl (by omega) (fun c16 => ?_) (fun c16 => ?_)
  · try (exfalso; omega)
    all_goals
      exact ji_throwW (text := "a word does not exist, or many is less than 1") ji_thrI rfl (by decide) rfl dX7_delete_38 dX7_delete_41 dX7_delete_42 dX7_delete_45 dX7_delete_48 (by omega) (by omega) (Nat.le_of_ble_eq_true rfl) ⟨g, b2, rfl, rfl, hkp, hbn2⟩
  · try (exfalso; omega)
    all_goals
      refine ji_iload_n dX7_delete_19 rfl ?_
      refine ji_iload dX7_delete_20 rfl ?_
      refine ji_icmp_ge (tgt := 38) dX7_delete_22 rfl (by omega) (by omega) (fun c22 => ?_) (fun c22 => ?_)
      · try (exfalso; omega)
        all_goals
          exact ji_throwW (text := "a word does not exist, or many is less than 1") ji_thrI rfl (by decide) rfl dX7_delete_38 dX7_delete_41 dX7_delete_42 dX7_delete_45 dX7_delete_48 (by omega) (by omega) (Nat.le_of_ble_eq_true rfl) ⟨g, b2, rfl, rfl, hkp, hbn2⟩
      · try (exfalso; omega)
        all_goals
          refine ji_iload_n dX7_delete_25 rfl ?_
          refine ji_iconst dX7_delete_26 ?_
          refine ji_icmp_lt (tgt := 38) dX7_delete_27 rfl (by omega) (by omega) (fun c27 => ?_) (fun c27 => ?_)
          · try (exfalso; omega)
            all_goals
              exact ji_throwW (text := "a word does not exist, or many is less than 1") ji_thrI rfl (by decide) rfl dX7_delete_38 dX7_delete_41 dX7_delete_42 dX7_delete_45 dX7_delete_48 (by omega) (by omega) (Nat.le_of_ble_eq_true rfl) ⟨g, b2, rfl, rfl, hkp, hbn2⟩
          · try (exfalso; omega)
            all_goals
              refine ji_iload_n dX7_delete_30 rfl ?_
              refine ji_iload dX7_delete_31 rfl ?_
              refine ji_iload_n dX7_delete_33 rfl ?_
              refine ji_isub dX7_delete_34 ?_
              refine ji_icmp_le (tgt := 49) dX7_delete_35 rfl (by omega) (by omega) (fun c35 => ?_) (fun c35 => ?_)
              · try (exfalso; omega)
                all_goals
                  refine ji_iload_n dX7_delete_49 rfl ?_
                  refine ji_iload dX7_delete_50 rfl ?_
                  refine ji_icmp_ne (tgt := 66) dX7_delete_52 rfl (by omega) (by omega) (fun c52 => ?_) (fun c52 => ?_)
                  · try (exfalso; omega)
                    all_goals
                      refine ji_aload_n dX7_delete_66 rfl trivial ?_
                      refine ji_get (ci := 7) (k := 7) rfl dX7_delete_67 lX7_55 (by decide) (cl_0h) rfl ?_
                      refine ji_aload_n dX7_delete_70 rfl trivial ?_
                      refine ji_get (ci := 7) (k := 5) rfl dX7_delete_71 lX7_41 (by decide) (cl_0h) rfl ?_
                      refine ji_aload_n dX7_delete_74 rfl trivial ?_
                      refine ji_get (ci := 7) (k := 6) rfl dX7_delete_75 lX7_48 (by decide) (cl_0h) rfl ?_
                      refine ji_cVv dX7_delete_78 (c_keep c9 hb0 hbd) rfl (cl_17h) rfl rfl wX1_keep vX1_keep lX7_283 rfl (Nat.le_of_ble_eq_true rfl) rfl ?_
                      refine ji_iload_n dX7_delete_81 rfl ?_
                      refine ji_iload_n dX7_delete_82 rfl ?_
                      refine ji_iadd dX7_delete_83 ?_
                      refine ji_iload dX7_delete_84 rfl ?_
                      refine ji_icmp_ne (tgt := 93) dX7_delete_86 rfl (by omega) (by omega) (fun c86 => ?_) (fun c86 => ?_)
                      · try (exfalso; omega)
                        all_goals
                          refine ji_iconst dX7_delete_93 ?_
                          refine ji_istore dX7_delete_94 (by decide) rfl ?_
                          refine ji_iload dX7_delete_96 rfl ?_
                          refine ji_if_eq (tgt := 115) dX7_delete_98 rfl (by omega) (fun c98 => ?_) (fun c98 => ?_)
                          · try (exfalso; omega)
                            all_goals
                              refine ji_aload_n dX7_delete_115 rfl trivial ?_
                              refine ji_get (ci := 7) (k := 5) rfl dX7_delete_116 lX7_41 (by decide) (cl_0h) rfl ?_
                              refine ji_iload_n dX7_delete_119 rfl ?_
                              refine ji_iload_n dX7_delete_120 rfl ?_
                              refine ji_cV dX7_delete_121 (k_Book_placeOfWord (hbat.kept cl_kf) hbok (by omega) (by omega)) rfl ((cl_dh hbd).trans hb0) rfl rfl wX0_placeOfWord vX0_placeOfWord lX7_290 rfl (Nat.le_of_ble_eq_true rfl) rfl ?_
                              refine ji_istore dX7_delete_124 (by decide) rfl ?_
                              refine ji_iload dX7_delete_126 rfl ?_
                              refine ji_if_eq (tgt := 142) dX7_delete_128 rfl (by omega) (fun c128 => ?_) (fun c128 => ?_)
                              · try (exfalso; omega)
                                all_goals
                                  refine ji_aload_n dX7_delete_142 rfl trivial ?_
                                  refine ji_get (ci := 7) (k := 5) rfl dX7_delete_143 lX7_41 (by decide) (cl_0h) rfl ?_
                                  refine ji_iload_n dX7_delete_146 rfl ?_
                                  refine ji_iload_n dX7_delete_147 rfl ?_
                                  refine ji_iload_n dX7_delete_148 rfl ?_
                                  refine ji_iadd dX7_delete_149 ?_
                                  refine ji_cV dX7_delete_150 (k_Book_placeOfWord (hbat.kept cl_kf) hbok (by omega) (by omega)) rfl ((cl_dh hbd).trans hb0) rfl rfl wX0_placeOfWord vX0_placeOfWord lX7_290 rfl (Nat.le_of_ble_eq_true rfl) rfl ?_
                                  refine ji_istore dX7_delete_153 (by decide) rfl ?_
                                  refine ji_aload_n dX7_delete_155 rfl trivial ?_
                                  refine ji_aload_n dX7_delete_156 rfl trivial ?_
                                  refine ji_get (ci := 7) (k := 5) rfl dX7_delete_157 lX7_41 (by decide) (cl_0h) rfl ?_
                                  refine ji_iload_n dX7_delete_160 rfl ?_
                                  refine ji_iload dX7_delete_161 rfl ?_
                                  refine ji_iload dX7_delete_163 rfl ?_
                                  refine ji_callV dX7_delete_165 (k_Book_withDeleted (xa := xa) (ya := ya) (hbat.kept cl_kf) hbok hv hxy hym (by omega) c1) (by rw [hx1, hy1]; rfl) ((cl_dh hbd).trans hb0) rfl rfl wX0_withDeleted vX0_withDeleted lX7_308 rfl (Nat.le_of_ble_eq_true rfl) rfl (by omega) (by first | omega | exact Nat.le_refl _) (fun r8 h8 hq8 => ?_) (fun E8 h8 hq8 => by obtain ⟨w9, q, -⟩ := hq8; cases q)
                                  obtain ⟨b2, hq1, hext, hbn⟩ := hq8
                                  cases hq1
                                  obtain ⟨g, e9, hkp⟩ := cl_extE c1 hext
                                  subst e9
                                  have hbn2 := hbn.kept cl_fk
                                  obtain ⟨bw2, bkq2, bfq2, hb0', -, -, -, ⟨hbd', -, -⟩, -⟩ := id hbn2
                                  refine ji_putE (ci := 7) (k := 5) rfl dX7_delete_168 lX7_41 (by decide) (cl_0h) (by simp [cl_c0]) (ji_fitO _ trivial) rfl (cl_pb) ?_
                                  refine ji_aload_n dX7_delete_171 rfl trivial ?_
                                  refine ji_get (ci := 7) (k := 6) rfl dX7_delete_172 lX7_48 (by decide) (cl_0h) rfl ?_
                                  refine ji_iload dX7_delete_175 rfl ?_
                                  refine ji_iload dX7_delete_177 rfl ?_
                                  refine ji_iload dX7_delete_179 rfl ?_
                                  refine ji_if_eq (tgt := 191) dX7_delete_181 rfl (by omega) (fun c181 => ?_) (fun c181 => ?_)
                                  · try (exfalso; omega)
                                    all_goals
                                      refine ji_iload dX7_delete_191 rfl ?_
                                      refine ji_cVv dX7_delete_193 (cl_jM (mk_cg M (bk_ws B (bk_fw B p + m)) (bk_ws B (bk_fw B p + (m + o))) (bk_ws B (bk_fw B p + m))) (k_Marks_closeGap (by omega) (by omega) hr9 hJ9 hF9 hT9)) rfl (cl_12h) rfl rfl wX4_closeGap vX4_closeGap lX7_312 rfl (Nat.le_of_ble_eq_true rfl) rfl ?_
                                      refine ji_aload_n dX7_delete_196 rfl trivial ?_
                                      refine ji_iconst dX7_delete_197 ?_
                                      refine ji_putE (ci := 7) (k := 10) rfl dX7_delete_198 lX7_71 (by decide) (cl_0h) (by simp [cl_c0]) (ji_fitZ (by first | omega | decide)) rfl (cl_ps) ?_
                                      refine ji_aload_n dX7_delete_201 rfl trivial ?_
                                      refine ji_get (ci := 7) (k := 5) rfl dX7_delete_202 lX7_41 (by decide) (cl_0h) rfl ?_
                                      refine ji_iload_n dX7_delete_205 rfl ?_
                                      refine ji_cV dX7_delete_206 (k_Book_wordsOf (hbn2.kept cl_kf) hB (by omega)) rfl ((cl_dh hbd').trans hb0') rfl rfl wX0_wordsOf vX0_wordsOf lX7_273 rfl (Nat.le_of_ble_eq_true rfl) rfl ?_
                                      exact ji_ireturn dX7_delete_209 rfl (rfl) ⟨g, b2, rfl, rfl, hkp, hbn2⟩
                                  · try (exfalso; omega)
                                    all_goals
                                      refine ji_iload dX7_delete_184 rfl ?_
                                      refine ji_iconst dX7_delete_186 ?_
                                      refine ji_isub dX7_delete_187 ?_
                                      refine ji_goto (tgt := 193) dX7_delete_188 rfl ?_
                                      refine ji_cVv dX7_delete_193 (cl_jM (mk_cg M (bk_ws B (bk_fw B p + m)) (bk_ws B (bk_fw B p + (m + o))) (bk_ws B (bk_fw B p + m))) (k_Marks_closeGap (by omega) (by omega) hr9 hJ9 hF9 hT9)) rfl (cl_12h) rfl rfl wX4_closeGap vX4_closeGap lX7_312 rfl (Nat.le_of_ble_eq_true rfl) rfl ?_
                                      refine ji_aload_n dX7_delete_196 rfl trivial ?_
                                      refine ji_iconst dX7_delete_197 ?_
                                      refine ji_putE (ci := 7) (k := 10) rfl dX7_delete_198 lX7_71 (by decide) (cl_0h) (by simp [cl_c0]) (ji_fitZ (by first | omega | decide)) rfl (cl_ps) ?_
                                      refine ji_aload_n dX7_delete_201 rfl trivial ?_
                                      refine ji_get (ci := 7) (k := 5) rfl dX7_delete_202 lX7_41 (by decide) (cl_0h) rfl ?_
                                      refine ji_iload_n dX7_delete_205 rfl ?_
                                      refine ji_cV dX7_delete_206 (k_Book_wordsOf (hbn2.kept cl_kf) hB (by omega)) rfl ((cl_dh hbd').trans hb0') rfl rfl wX0_wordsOf vX0_wordsOf lX7_273 rfl (Nat.le_of_ble_eq_true rfl) rfl ?_
                                      exact ji_ireturn dX7_delete_209 rfl (rfl) ⟨g, b2, rfl, rfl, hkp, hbn2⟩
                              · try (exfalso; omega)
                                all_goals
                                  refine ji_aload_n dX7_delete_131 rfl trivial ?_
                                  refine ji_get (ci := 7) (k := 5) rfl dX7_delete_132 lX7_41 (by decide) (cl_0h) rfl ?_
                                  refine ji_iload_n dX7_delete_135 rfl ?_
                                  refine ji_cV dX7_delete_136 (k_Book_endOf (hbat.kept cl_kf) hbok (by omega)) rfl ((cl_dh hbd).trans hb0) rfl rfl wX0_endOf vX0_endOf lX7_287 rfl (Nat.le_of_ble_eq_true rfl) rfl ?_
                                  refine ji_goto (tgt := 153) dX7_delete_139 rfl ?_
                                  refine ji_istore dX7_delete_153 (by decide) rfl ?_
                                  refine ji_aload_n dX7_delete_155 rfl trivial ?_
                                  refine ji_aload_n dX7_delete_156 rfl trivial ?_
                                  refine ji_get (ci := 7) (k := 5) rfl dX7_delete_157 lX7_41 (by decide) (cl_0h) rfl ?_
                                  refine ji_iload_n dX7_delete_160 rfl ?_
                                  refine ji_iload dX7_delete_161 rfl ?_
                                  refine ji_iload dX7_delete_163 rfl ?_
                                  refine ji_callV dX7_delete_165 (k_Book_withDeleted (xa := xa) (ya := ya) (hbat.kept cl_kf) hbok hv hxy hym (by omega) c1) (by rw [hx1, hy1]; rfl) ((cl_dh hbd).trans hb0) rfl rfl wX0_withDeleted vX0_withDeleted lX7_308 rfl (Nat.le_of_ble_eq_true rfl) rfl (by omega) (by first | omega | exact Nat.le_refl _) (fun r8 h8 hq8 => ?_) (fun E8 h8 hq8 => by obtain ⟨w9, q, -⟩ := hq8; cases q)
                                  obtain ⟨b2, hq1, hext, hbn⟩ := hq8
                                  cases hq1
                                  obtain ⟨g, e9, hkp⟩ := cl_extE c1 hext
                                  subst e9
                                  have hbn2 := hbn.kept cl_fk
                                  obtain ⟨bw2, bkq2, bfq2, hb0', -, -, -, ⟨hbd', -, -⟩, -⟩ := id hbn2
                                  refine ji_putE (ci := 7) (k := 5) rfl dX7_delete_168 lX7_41 (by decide) (cl_0h) (by simp [cl_c0]) (ji_fitO _ trivial) rfl (cl_pb) ?_
                                  refine ji_aload_n dX7_delete_171 rfl trivial ?_
                                  refine ji_get (ci := 7) (k := 6) rfl dX7_delete_172 lX7_48 (by decide) (cl_0h) rfl ?_
                                  refine ji_iload dX7_delete_175 rfl ?_
                                  refine ji_iload dX7_delete_177 rfl ?_
                                  refine ji_iload dX7_delete_179 rfl ?_
                                  refine ji_if_eq (tgt := 191) dX7_delete_181 rfl (by omega) (fun c181 => ?_) (fun c181 => ?_)
                                  · try (exfalso; omega)
                                    all_goals
                                      refine ji_iload dX7_delete_191 rfl ?_
                                      refine ji_cVv dX7_delete_193 (cl_jM (mk_cg M (bk_ws B (bk_fw B p + m)) (bk_ws B (bk_fw B p + (m + o))) (bk_ws B (bk_fw B p + m))) (k_Marks_closeGap (by omega) (by omega) hr9 hJ9 hF9 hT9)) rfl (cl_12h) rfl rfl wX4_closeGap vX4_closeGap lX7_312 rfl (Nat.le_of_ble_eq_true rfl) rfl ?_
                                      refine ji_aload_n dX7_delete_196 rfl trivial ?_
                                      refine ji_iconst dX7_delete_197 ?_
                                      refine ji_putE (ci := 7) (k := 10) rfl dX7_delete_198 lX7_71 (by decide) (cl_0h) (by simp [cl_c0]) (ji_fitZ (by first | omega | decide)) rfl (cl_ps) ?_
                                      refine ji_aload_n dX7_delete_201 rfl trivial ?_
                                      refine ji_get (ci := 7) (k := 5) rfl dX7_delete_202 lX7_41 (by decide) (cl_0h) rfl ?_
                                      refine ji_iload_n dX7_delete_205 rfl ?_
                                      refine ji_cV dX7_delete_206 (k_Book_wordsOf (hbn2.kept cl_kf) hB (by omega)) rfl ((cl_dh hbd').trans hb0') rfl rfl wX0_wordsOf vX0_wordsOf lX7_273 rfl (Nat.le_of_ble_eq_true rfl) rfl ?_
                                      exact ji_ireturn dX7_delete_209 rfl (rfl) ⟨g, b2, rfl, rfl, hkp, hbn2⟩
                                  · try (exfalso; omega)
                                    all_goals
                                      refine ji_iload dX7_delete_184 rfl ?_
                                      refine ji_iconst dX7_delete_186 ?_
                                      refine ji_isub dX7_delete_187 ?_
                                      refine ji_goto (tgt := 193) dX7_delete_188 rfl ?_
                                      refine ji_cVv dX7_delete_193 (cl_jM (mk_cg M (bk_ws B (bk_fw B p + m)) (bk_ws B (bk_fw B p + (m + o))) (bk_ws B (bk_fw B p + m))) (k_Marks_closeGap (by omega) (by omega) hr9 hJ9 hF9 hT9)) rfl (cl_12h) rfl rfl wX4_closeGap vX4_closeGap lX7_312 rfl (Nat.le_of_ble_eq_true rfl) rfl ?_
                                      refine ji_aload_n dX7_delete_196 rfl trivial ?_
                                      refine ji_iconst dX7_delete_197 ?_
                                      refine ji_putE (ci := 7) (k := 10) rfl dX7_delete_198 lX7_71 (by decide) (cl_0h) (by simp [cl_c0]) (ji_fitZ (by first | omega | decide)) rfl (cl_ps) ?_
                                      refine ji_aload_n dX7_delete_201 rfl trivial ?_
                                      refine ji_get (ci := 7) (k := 5) rfl dX7_delete_202 lX7_41 (by decide) (cl_0h) rfl ?_
                                      refine ji_iload_n dX7_delete_205 rfl ?_
                                      refine ji_cV dX7_delete_206 (k_Book_wordsOf (hbn2.kept cl_kf) hB (by omega)) rfl ((cl_dh hbd').trans hb0') rfl rfl wX0_wordsOf vX0_wordsOf lX7_273 rfl (Nat.le_of_ble_eq_true rfl) rfl ?_
                                      exact ji_ireturn dX7_delete_209 rfl (rfl) ⟨g, b2, rfl, rfl, hkp, hbn2⟩
                          · try (exfalso; omega)
                            all_goals
                              refine ji_aload_n dX7_delete_101 rfl trivial ?_
                              refine ji_get (ci := 7) (k := 5) rfl dX7_delete_102 lX7_41 (by decide) (cl_0h) rfl ?_
                              refine ji_iload_n dX7_delete_105 rfl ?_
                              refine ji_iload_n dX7_delete_106 rfl ?_
                              refine ji_cV dX7_delete_107 (k_Book_placeOfWord (hbat.kept cl_kf) hbok (by omega) (by omega)) rfl ((cl_dh hbd).trans hb0) rfl rfl wX0_placeOfWord vX0_placeOfWord lX7_290 rfl (Nat.le_of_ble_eq_true rfl) rfl ?_
                              refine ji_iconst dX7_delete_110 ?_
                              refine ji_isub dX7_delete_111 ?_
                              refine ji_goto (tgt := 124) dX7_delete_112 rfl ?_
                              refine ji_istore dX7_delete_124 (by decide) rfl ?_
                              refine ji_iload dX7_delete_126 rfl ?_
                              refine ji_if_eq (tgt := 142) dX7_delete_128 rfl (by omega) (fun c128 => ?_) (fun c128 => ?_)
                              · try (exfalso; omega)
                                all_goals
                                  refine ji_aload_n dX7_delete_142 rfl trivial ?_
                                  refine ji_get (ci := 7) (k := 5) rfl dX7_delete_143 lX7_41 (by decide) (cl_0h) rfl ?_
                                  refine ji_iload_n dX7_delete_146 rfl ?_
                                  refine ji_iload_n dX7_delete_147 rfl ?_
                                  refine ji_iload_n dX7_delete_148 rfl ?_
                                  refine ji_iadd dX7_delete_149 ?_
                                  refine ji_cV dX7_delete_150 (k_Book_placeOfWord (hbat.kept cl_kf) hbok (by omega) (by omega)) rfl ((cl_dh hbd).trans hb0) rfl rfl wX0_placeOfWord vX0_placeOfWord lX7_290 rfl (Nat.le_of_ble_eq_true rfl) rfl ?_
                                  refine ji_istore dX7_delete_153 (by decide) rfl ?_
                                  refine ji_aload_n dX7_delete_155 rfl trivial ?_
                                  refine ji_aload_n dX7_delete_156 rfl trivial ?_
                                  refine ji_get (ci := 7) (k := 5) rfl dX7_delete_157 lX7_41 (by decide) (cl_0h) rfl ?_
                                  refine ji_iload_n dX7_delete_160 rfl ?_
                                  refine ji_iload dX7_delete_161 rfl ?_
                                  refine ji_iload dX7_delete_163 rfl ?_
                                  refine ji_callV dX7_delete_165 (k_Book_withDeleted (xa := xa) (ya := ya) (hbat.kept cl_kf) hbok hv hxy hym (by omega) c1) (by rw [hx1, hy1]; rfl) ((cl_dh hbd).trans hb0) rfl rfl wX0_withDeleted vX0_withDeleted lX7_308 rfl (Nat.le_of_ble_eq_true rfl) rfl (by omega) (by first | omega | exact Nat.le_refl _) (fun r8 h8 hq8 => ?_) (fun E8 h8 hq8 => by obtain ⟨w9, q, -⟩ := hq8; cases q)
                                  obtain ⟨b2, hq1, hext, hbn⟩ := hq8
                                  cases hq1
                                  obtain ⟨g, e9, hkp⟩ := cl_extE c1 hext
                                  subst e9
                                  have hbn2 := hbn.kept cl_fk
                                  obtain ⟨bw2, bkq2, bfq2, hb0', -, -, -, ⟨hbd', -, -⟩, -⟩ := id hbn2
                                  refine ji_putE (ci := 7) (k := 5) rfl dX7_delete_168 lX7_41 (by decide) (cl_0h) (by simp [cl_c0]) (ji_fitO _ trivial) rfl (cl_pb) ?_
                                  refine ji_aload_n dX7_delete_171 rfl trivial ?_
                                  refine ji_get (ci := 7) (k := 6) rfl dX7_delete_172 lX7_48 (by decide) (cl_0h) rfl ?_
                                  refine ji_iload dX7_delete_175 rfl ?_
                                  refine ji_iload dX7_delete_177 rfl ?_
                                  refine ji_iload dX7_delete_179 rfl ?_
                                  refine ji_if_eq (tgt := 191) dX7_delete_181 rfl (by omega) (fun c181 => ?_) (fun c181 => ?_)
                                  · try (exfalso; omega)
                                    all_goals
                                      refine ji_iload dX7_delete_191 rfl ?_
                                      refine ji_cVv dX7_delete_193 (cl_jM (mk_cg M (bk_ws B (bk_fw B p + m)) (bk_ws B (bk_fw B p + (m + o))) (bk_ws B (bk_fw B p + m))) (k_Marks_closeGap (by omega) (by omega) hr9 hJ9 hF9 hT9)) rfl (cl_12h) rfl rfl wX4_closeGap vX4_closeGap lX7_312 rfl (Nat.le_of_ble_eq_true rfl) rfl ?_
                                      refine ji_aload_n dX7_delete_196 rfl trivial ?_
                                      refine ji_iconst dX7_delete_197 ?_
                                      refine ji_putE (ci := 7) (k := 10) rfl dX7_delete_198 lX7_71 (by decide) (cl_0h) (by simp [cl_c0]) (ji_fitZ (by first | omega | decide)) rfl (cl_ps) ?_
                                      refine ji_aload_n dX7_delete_201 rfl trivial ?_
                                      refine ji_get (ci := 7) (k := 5) rfl dX7_delete_202 lX7_41 (by decide) (cl_0h) rfl ?_
                                      refine ji_iload_n dX7_delete_205 rfl ?_
                                      refine ji_cV dX7_delete_206 (k_Book_wordsOf (hbn2.kept cl_kf) hB (by omega)) rfl ((cl_dh hbd').trans hb0') rfl rfl wX0_wordsOf vX0_wordsOf lX7_273 rfl (Nat.le_of_ble_eq_true rfl) rfl ?_
                                      exact ji_ireturn dX7_delete_209 rfl (rfl) ⟨g, b2, rfl, rfl, hkp, hbn2⟩
                                  · try (exfalso; omega)
                                    all_goals
                                      refine ji_iload dX7_delete_184 rfl ?_
                                      refine ji_iconst dX7_delete_186 ?_
                                      refine ji_isub dX7_delete_187 ?_
                                      refine ji_goto (tgt := 193) dX7_delete_188 rfl ?_
                                      refine ji_cVv dX7_delete_193 (cl_jM (mk_cg M (bk_ws B (bk_fw B p + m)) (bk_ws B (bk_fw B p + (m + o))) (bk_ws B (bk_fw B p + m))) (k_Marks_closeGap (by omega) (by omega) hr9 hJ9 hF9 hT9)) rfl (cl_12h) rfl rfl wX4_closeGap vX4_closeGap lX7_312 rfl (Nat.le_of_ble_eq_true rfl) rfl ?_
                                      refine ji_aload_n dX7_delete_196 rfl trivial ?_
                                      refine ji_iconst dX7_delete_197 ?_
                                      refine ji_putE (ci := 7) (k := 10) rfl dX7_delete_198 lX7_71 (by decide) (cl_0h) (by simp [cl_c0]) (ji_fitZ (by first | omega | decide)) rfl (cl_ps) ?_
                                      refine ji_aload_n dX7_delete_201 rfl trivial ?_
                                      refine ji_get (ci := 7) (k := 5) rfl dX7_delete_202 lX7_41 (by decide) (cl_0h) rfl ?_
                                      refine ji_iload_n dX7_delete_205 rfl ?_
                                      refine ji_cV dX7_delete_206 (k_Book_wordsOf (hbn2.kept cl_kf) hB (by omega)) rfl ((cl_dh hbd').trans hb0') rfl rfl wX0_wordsOf vX0_wordsOf lX7_273 rfl (Nat.le_of_ble_eq_true rfl) rfl ?_
                                      exact ji_ireturn dX7_delete_209 rfl (rfl) ⟨g, b2, rfl, rfl, hkp, hbn2⟩
                              · try (exfalso; omega)
                                all_goals
                                  refine ji_aload_n dX7_delete_131 rfl trivial ?_
                                  refine ji_get (ci := 7) (k := 5) rfl dX7_delete_132 lX7_41 (by decide) (cl_0h) rfl ?_
                                  refine ji_iload_n dX7_delete_135 rfl ?_
                                  refine ji_cV dX7_delete_136 (k_Book_endOf (hbat.kept cl_kf) hbok (by omega)) rfl ((cl_dh hbd).trans hb0) rfl rfl wX0_endOf vX0_endOf lX7_287 rfl (Nat.le_of_ble_eq_true rfl) rfl ?_
                                  refine ji_goto (tgt := 153) dX7_delete_139 rfl ?_
                                  refine ji_istore dX7_delete_153 (by decide) rfl ?_
                                  refine ji_aload_n dX7_delete_155 rfl trivial ?_
                                  refine ji_aload_n dX7_delete_156 rfl trivial ?_
                                  refine ji_get (ci := 7) (k := 5) rfl dX7_delete_157 lX7_41 (by decide) (cl_0h) rfl ?_
                                  refine ji_iload_n dX7_delete_160 rfl ?_
                                  refine ji_iload dX7_delete_161 rfl ?_
                                  refine ji_iload dX7_delete_163 rfl ?_
                                  refine ji_callV dX7_delete_165 (k_Book_withDeleted (xa := xa) (ya := ya) (hbat.kept cl_kf) hbok hv hxy hym (by omega) c1) (by rw [hx1, hy1]; rfl) ((cl_dh hbd).trans hb0) rfl rfl wX0_withDeleted vX0_withDeleted lX7_308 rfl (Nat.le_of_ble_eq_true rfl) rfl (by omega) (by first | omega | exact Nat.le_refl _) (fun r8 h8 hq8 => ?_) (fun E8 h8 hq8 => by obtain ⟨w9, q, -⟩ := hq8; cases q)
                                  obtain ⟨b2, hq1, hext, hbn⟩ := hq8
                                  cases hq1
                                  obtain ⟨g, e9, hkp⟩ := cl_extE c1 hext
                                  subst e9
                                  have hbn2 := hbn.kept cl_fk
                                  obtain ⟨bw2, bkq2, bfq2, hb0', -, -, -, ⟨hbd', -, -⟩, -⟩ := id hbn2
                                  refine ji_putE (ci := 7) (k := 5) rfl dX7_delete_168 lX7_41 (by decide) (cl_0h) (by simp [cl_c0]) (ji_fitO _ trivial) rfl (cl_pb) ?_
                                  refine ji_aload_n dX7_delete_171 rfl trivial ?_
                                  refine ji_get (ci := 7) (k := 6) rfl dX7_delete_172 lX7_48 (by decide) (cl_0h) rfl ?_
                                  refine ji_iload dX7_delete_175 rfl ?_
                                  refine ji_iload dX7_delete_177 rfl ?_
                                  refine ji_iload dX7_delete_179 rfl ?_
                                  refine ji_if_eq (tgt := 191) dX7_delete_181 rfl (by omega) (fun c181 => ?_) (fun c181 => ?_)
                                  · try (exfalso; omega)
                                    all_goals
                                      refine ji_iload dX7_delete_191 rfl ?_
                                      refine ji_cVv dX7_delete_193 (cl_jM (mk_cg M (bk_ws B (bk_fw B p + m)) (bk_ws B (bk_fw B p + (m + o))) (bk_ws B (bk_fw B p + m))) (k_Marks_closeGap (by omega) (by omega) hr9 hJ9 hF9 hT9)) rfl (cl_12h) rfl rfl wX4_closeGap vX4_closeGap lX7_312 rfl (Nat.le_of_ble_eq_true rfl) rfl ?_
                                      refine ji_aload_n dX7_delete_196 rfl trivial ?_
                                      refine ji_iconst dX7_delete_197 ?_
                                      refine ji_putE (ci := 7) (k := 10) rfl dX7_delete_198 lX7_71 (by decide) (cl_0h) (by simp [cl_c0]) (ji_fitZ (by first | omega | decide)) rfl (cl_ps) ?_
                                      refine ji_aload_n dX7_delete_201 rfl trivial ?_
                                      refine ji_get (ci := 7) (k := 5) rfl dX7_delete_202 lX7_41 (by decide) (cl_0h) rfl ?_
                                      refine ji_iload_n dX7_delete_205 rfl ?_
                                      refine ji_cV dX7_delete_206 (k_Book_wordsOf (hbn2.kept cl_kf) hB (by omega)) rfl ((cl_dh hbd').trans hb0') rfl rfl wX0_wordsOf vX0_wordsOf lX7_273 rfl (Nat.le_of_ble_eq_true rfl) rfl ?_
                                      exact ji_ireturn dX7_delete_209 rfl (rfl) ⟨g, b2, rfl, rfl, hkp, hbn2⟩
                                  · try (exfalso; omega)
                                    all_goals
                                      refine ji_iload dX7_delete_184 rfl ?_
                                      refine ji_iconst dX7_delete_186 ?_
                                      refine ji_isub dX7_delete_187 ?_
                                      refine ji_goto (tgt := 193) dX7_delete_188 rfl ?_
                                      refine ji_cVv dX7_delete_193 (cl_jM (mk_cg M (bk_ws B (bk_fw B p + m)) (bk_ws B (bk_fw B p + (m + o))) (bk_ws B (bk_fw B p + m))) (k_Marks_closeGap (by omega) (by omega) hr9 hJ9 hF9 hT9)) rfl (cl_12h) rfl rfl wX4_closeGap vX4_closeGap lX7_312 rfl (Nat.le_of_ble_eq_true rfl) rfl ?_
                                      refine ji_aload_n dX7_delete_196 rfl trivial ?_
                                      refine ji_iconst dX7_delete_197 ?_
                                      refine ji_putE (ci := 7) (k := 10) rfl dX7_delete_198 lX7_71 (by decide) (cl_0h) (by simp [cl_c0]) (ji_fitZ (by first | omega | decide)) rfl (cl_ps) ?_
                                      refine ji_aload_n dX7_delete_201 rfl trivial ?_
                                      refine ji_get (ci := 7) (k := 5) rfl dX7_delete_202 lX7_41 (by decide) (cl_0h) rfl ?_
                                      refine ji_iload_n dX7_delete_205 rfl ?_
                                      refine ji_cV dX7_delete_206 (k_Book_wordsOf (hbn2.kept cl_kf) hB (by omega)) rfl ((cl_dh hbd').trans hb0') rfl rfl wX0_wordsOf vX0_wordsOf lX7_273 rfl (Nat.le_of_ble_eq_true rfl) rfl ?_
                                      exact ji_ireturn dX7_delete_209 rfl (rfl) ⟨g, b2, rfl, rfl, hkp, hbn2⟩
                      · try (exfalso; omega)
                        all_goals
                          refine ji_iconst dX7_delete_89 ?_
                          refine ji_goto (tgt := 94) dX7_delete_90 rfl ?_
                          refine ji_istore dX7_delete_94 (by decide) rfl ?_
                          refine ji_iload dX7_delete_96 rfl ?_
                          refine ji_if_eq (tgt := 115) dX7_delete_98 rfl (by omega) (fun c98 => ?_) (fun c98 => ?_)
                          · try (exfalso; omega)
                            all_goals
                              refine ji_aload_n dX7_delete_115 rfl trivial ?_
                              refine ji_get (ci := 7) (k := 5) rfl dX7_delete_116 lX7_41 (by decide) (cl_0h) rfl ?_
                              refine ji_iload_n dX7_delete_119 rfl ?_
                              refine ji_iload_n dX7_delete_120 rfl ?_
                              refine ji_cV dX7_delete_121 (k_Book_placeOfWord (hbat.kept cl_kf) hbok (by omega) (by omega)) rfl ((cl_dh hbd).trans hb0) rfl rfl wX0_placeOfWord vX0_placeOfWord lX7_290 rfl (Nat.le_of_ble_eq_true rfl) rfl ?_
                              refine ji_istore dX7_delete_124 (by decide) rfl ?_
                              refine ji_iload dX7_delete_126 rfl ?_
                              refine ji_if_eq (tgt := 142) dX7_delete_128 rfl (by omega) (fun c128 => ?_) (fun c128 => ?_)
                              · try (exfalso; omega)
                                all_goals
                                  refine ji_aload_n dX7_delete_142 rfl trivial ?_
                                  refine ji_get (ci := 7) (k := 5) rfl dX7_delete_143 lX7_41 (by decide) (cl_0h) rfl ?_
                                  refine ji_iload_n dX7_delete_146 rfl ?_
                                  refine ji_iload_n dX7_delete_147 rfl ?_
                                  refine ji_iload_n dX7_delete_148 rfl ?_
                                  refine ji_iadd dX7_delete_149 ?_
                                  refine ji_cV dX7_delete_150 (k_Book_placeOfWord (hbat.kept cl_kf) hbok (by omega) (by omega)) rfl ((cl_dh hbd).trans hb0) rfl rfl wX0_placeOfWord vX0_placeOfWord lX7_290 rfl (Nat.le_of_ble_eq_true rfl) rfl ?_
                                  refine ji_istore dX7_delete_153 (by decide) rfl ?_
                                  refine ji_aload_n dX7_delete_155 rfl trivial ?_
                                  refine ji_aload_n dX7_delete_156 rfl trivial ?_
                                  refine ji_get (ci := 7) (k := 5) rfl dX7_delete_157 lX7_41 (by decide) (cl_0h) rfl ?_
                                  refine ji_iload_n dX7_delete_160 rfl ?_
                                  refine ji_iload dX7_delete_161 rfl ?_
                                  refine ji_iload dX7_delete_163 rfl ?_
                                  refine ji_callV dX7_delete_165 (k_Book_withDeleted (xa := xa) (ya := ya) (hbat.kept cl_kf) hbok hv hxy hym (by omega) c1) (by rw [hx1, hy1]; rfl) ((cl_dh hbd).trans hb0) rfl rfl wX0_withDeleted vX0_withDeleted lX7_308 rfl (Nat.le_of_ble_eq_true rfl) rfl (by omega) (by first | omega | exact Nat.le_refl _) (fun r8 h8 hq8 => ?_) (fun E8 h8 hq8 => by obtain ⟨w9, q, -⟩ := hq8; cases q)
                                  obtain ⟨b2, hq1, hext, hbn⟩ := hq8
                                  cases hq1
                                  obtain ⟨g, e9, hkp⟩ := cl_extE c1 hext
                                  subst e9
                                  have hbn2 := hbn.kept cl_fk
                                  obtain ⟨bw2, bkq2, bfq2, hb0', -, -, -, ⟨hbd', -, -⟩, -⟩ := id hbn2
                                  refine ji_putE (ci := 7) (k := 5) rfl dX7_delete_168 lX7_41 (by decide) (cl_0h) (by simp [cl_c0]) (ji_fitO _ trivial) rfl (cl_pb) ?_
                                  refine ji_aload_n dX7_delete_171 rfl trivial ?_
                                  refine ji_get (ci := 7) (k := 6) rfl dX7_delete_172 lX7_48 (by decide) (cl_0h) rfl ?_
                                  refine ji_iload dX7_delete_175 rfl ?_
                                  refine ji_iload dX7_delete_177 rfl ?_
                                  refine ji_iload dX7_delete_179 rfl ?_
                                  refine ji_if_eq (tgt := 191) dX7_delete_181 rfl (by omega) (fun c181 => ?_) (fun c181 => ?_)
                                  · try (exfalso; omega)
                                    all_goals
                                      refine ji_iload dX7_delete_191 rfl ?_
                                      refine ji_cVv dX7_delete_193 (cl_jM (mk_cg M (bk_ws B (bk_fw B p + m)) (bk_ws B (bk_fw B p + (m + o))) (bk_ws B (bk_fw B p + m))) (k_Marks_closeGap (by omega) (by omega) hr9 hJ9 hF9 hT9)) rfl (cl_12h) rfl rfl wX4_closeGap vX4_closeGap lX7_312 rfl (Nat.le_of_ble_eq_true rfl) rfl ?_
                                      refine ji_aload_n dX7_delete_196 rfl trivial ?_
                                      refine ji_iconst dX7_delete_197 ?_
                                      refine ji_putE (ci := 7) (k := 10) rfl dX7_delete_198 lX7_71 (by decide) (cl_0h) (by simp [cl_c0]) (ji_fitZ (by first | omega | decide)) rfl (cl_ps) ?_
                                      refine ji_aload_n dX7_delete_201 rfl trivial ?_
                                      refine ji_get (ci := 7) (k := 5) rfl dX7_delete_202 lX7_41 (by decide) (cl_0h) rfl ?_
                                      refine ji_iload_n dX7_delete_205 rfl ?_
                                      refine ji_cV dX7_delete_206 (k_Book_wordsOf (hbn2.kept cl_kf) hB (by omega)) rfl ((cl_dh hbd').trans hb0') rfl rfl wX0_wordsOf vX0_wordsOf lX7_273 rfl (Nat.le_of_ble_eq_true rfl) rfl ?_
                                      exact ji_ireturn dX7_delete_209 rfl (rfl) ⟨g, b2, rfl, rfl, hkp, hbn2⟩
                                  · try (exfalso; omega)
                                    all_goals
                                      refine ji_iload dX7_delete_184 rfl ?_
                                      refine ji_iconst dX7_delete_186 ?_
                                      refine ji_isub dX7_delete_187 ?_
                                      refine ji_goto (tgt := 193) dX7_delete_188 rfl ?_
                                      refine ji_cVv dX7_delete_193 (cl_jM (mk_cg M (bk_ws B (bk_fw B p + m)) (bk_ws B (bk_fw B p + (m + o))) (bk_ws B (bk_fw B p + m))) (k_Marks_closeGap (by omega) (by omega) hr9 hJ9 hF9 hT9)) rfl (cl_12h) rfl rfl wX4_closeGap vX4_closeGap lX7_312 rfl (Nat.le_of_ble_eq_true rfl) rfl ?_
                                      refine ji_aload_n dX7_delete_196 rfl trivial ?_
                                      refine ji_iconst dX7_delete_197 ?_
                                      refine ji_putE (ci := 7) (k := 10) rfl dX7_delete_198 lX7_71 (by decide) (cl_0h) (by simp [cl_c0]) (ji_fitZ (by first | omega | decide)) rfl (cl_ps) ?_
                                      refine ji_aload_n dX7_delete_201 rfl trivial ?_
                                      refine ji_get (ci := 7) (k := 5) rfl dX7_delete_202 lX7_41 (by decide) (cl_0h) rfl ?_
                                      refine ji_iload_n dX7_delete_205 rfl ?_
                                      refine ji_cV dX7_delete_206 (k_Book_wordsOf (hbn2.kept cl_kf) hB (by omega)) rfl ((cl_dh hbd').trans hb0') rfl rfl wX0_wordsOf vX0_wordsOf lX7_273 rfl (Nat.le_of_ble_eq_true rfl) rfl ?_
                                      exact ji_ireturn dX7_delete_209 rfl (rfl) ⟨g, b2, rfl, rfl, hkp, hbn2⟩
                              · try (exfalso; omega)
                                all_goals
                                  refine ji_aload_n dX7_delete_131 rfl trivial ?_
                                  refine ji_get (ci := 7) (k := 5) rfl dX7_delete_132 lX7_41 (by decide) (cl_0h) rfl ?_
                                  refine ji_iload_n dX7_delete_135 rfl ?_
                                  refine ji_cV dX7_delete_136 (k_Book_endOf (hbat.kept cl_kf) hbok (by omega)) rfl ((cl_dh hbd).trans hb0) rfl rfl wX0_endOf vX0_endOf lX7_287 rfl (Nat.le_of_ble_eq_true rfl) rfl ?_
                                  refine ji_goto (tgt := 153) dX7_delete_139 rfl ?_
                                  refine ji_istore dX7_delete_153 (by decide) rfl ?_
                                  refine ji_aload_n dX7_delete_155 rfl trivial ?_
                                  refine ji_aload_n dX7_delete_156 rfl trivial ?_
                                  refine ji_get (ci := 7) (k := 5) rfl dX7_delete_157 lX7_41 (by decide) (cl_0h) rfl ?_
                                  refine ji_iload_n dX7_delete_160 rfl ?_
                                  refine ji_iload dX7_delete_161 rfl ?_
                                  refine ji_iload dX7_delete_163 rfl ?_
                                  refine ji_callV dX7_delete_165 (k_Book_withDeleted (xa := xa) (ya := ya) (hbat.kept cl_kf) hbok hv hxy hym (by omega) c1) (by rw [hx1, hy1]; rfl) ((cl_dh hbd).trans hb0) rfl rfl wX0_withDeleted vX0_withDeleted lX7_308 rfl (Nat.le_of_ble_eq_true rfl) rfl (by omega) (by first | omega | exact Nat.le_refl _) (fun r8 h8 hq8 => ?_) (fun E8 h8 hq8 => by obtain ⟨w9, q, -⟩ := hq8; cases q)
                                  obtain ⟨b2, hq1, hext, hbn⟩ := hq8
                                  cases hq1
                                  obtain ⟨g, e9, hkp⟩ := cl_extE c1 hext
                                  subst e9
                                  have hbn2 := hbn.kept cl_fk
                                  obtain ⟨bw2, bkq2, bfq2, hb0', -, -, -, ⟨hbd', -, -⟩, -⟩ := id hbn2
                                  refine ji_putE (ci := 7) (k := 5) rfl dX7_delete_168 lX7_41 (by decide) (cl_0h) (by simp [cl_c0]) (ji_fitO _ trivial) rfl (cl_pb) ?_
                                  refine ji_aload_n dX7_delete_171 rfl trivial ?_
                                  refine ji_get (ci := 7) (k := 6) rfl dX7_delete_172 lX7_48 (by decide) (cl_0h) rfl ?_
                                  refine ji_iload dX7_delete_175 rfl ?_
                                  refine ji_iload dX7_delete_177 rfl ?_
                                  refine ji_iload dX7_delete_179 rfl ?_
                                  refine ji_if_eq (tgt := 191) dX7_delete_181 rfl (by omega) (fun c181 => ?_) (fun c181 => ?_)
                                  · try (exfalso; omega)
                                    all_goals
                                      refine ji_iload dX7_delete_191 rfl ?_
                                      refine ji_cVv dX7_delete_193 (cl_jM (mk_cg M (bk_ws B (bk_fw B p + m)) (bk_ws B (bk_fw B p + (m + o))) (bk_ws B (bk_fw B p + m))) (k_Marks_closeGap (by omega) (by omega) hr9 hJ9 hF9 hT9)) rfl (cl_12h) rfl rfl wX4_closeGap vX4_closeGap lX7_312 rfl (Nat.le_of_ble_eq_true rfl) rfl ?_
                                      refine ji_aload_n dX7_delete_196 rfl trivial ?_
                                      refine ji_iconst dX7_delete_197 ?_
                                      refine ji_putE (ci := 7) (k := 10) rfl dX7_delete_198 lX7_71 (by decide) (cl_0h) (by simp [cl_c0]) (ji_fitZ (by first | omega | decide)) rfl (cl_ps) ?_
                                      refine ji_aload_n dX7_delete_201 rfl trivial ?_
                                      refine ji_get (ci := 7) (k := 5) rfl dX7_delete_202 lX7_41 (by decide) (cl_0h) rfl ?_
                                      refine ji_iload_n dX7_delete_205 rfl ?_
                                      refine ji_cV dX7_delete_206 (k_Book_wordsOf (hbn2.kept cl_kf) hB (by omega)) rfl ((cl_dh hbd').trans hb0') rfl rfl wX0_wordsOf vX0_wordsOf lX7_273 rfl (Nat.le_of_ble_eq_true rfl) rfl ?_
                                      exact ji_ireturn dX7_delete_209 rfl (rfl) ⟨g, b2, rfl, rfl, hkp, hbn2⟩
                                  · try (exfalso; omega)
                                    all_goals
                                      refine ji_iload dX7_delete_184 rfl ?_
                                      refine ji_iconst dX7_delete_186 ?_
                                      refine ji_isub dX7_delete_187 ?_
                                      refine ji_goto (tgt := 193) dX7_delete_188 rfl ?_
                                      refine ji_cVv dX7_delete_193 (cl_jM (mk_cg M (bk_ws B (bk_fw B p + m)) (bk_ws B (bk_fw B p + (m + o))) (bk_ws B (bk_fw B p + m))) (k_Marks_closeGap (by omega) (by omega) hr9 hJ9 hF9 hT9)) rfl (cl_12h) rfl rfl wX4_closeGap vX4_closeGap lX7_312 rfl (Nat.le_of_ble_eq_true rfl) rfl ?_
                                      refine ji_aload_n dX7_delete_196 rfl trivial ?_
                                      refine ji_iconst dX7_delete_197 ?_
                                      refine ji_putE (ci := 7) (k := 10) rfl dX7_delete_198 lX7_71 (by decide) (cl_0h) (by simp [cl_c0]) (ji_fitZ (by first | omega | decide)) rfl (cl_ps) ?_
                                      refine ji_aload_n dX7_delete_201 rfl trivial ?_
                                      refine ji_get (ci := 7) (k := 5) rfl dX7_delete_202 lX7_41 (by decide) (cl_0h) rfl ?_
                                      refine ji_iload_n dX7_delete_205 rfl ?_
                                      refine ji_cV dX7_delete_206 (k_Book_wordsOf (hbn2.kept cl_kf) hB (by omega)) rfl ((cl_dh hbd').trans hb0') rfl rfl wX0_wordsOf vX0_wordsOf lX7_273 rfl (Nat.le_of_ble_eq_true rfl) rfl ?_
                                      exact ji_ireturn dX7_delete_209 rfl (rfl) ⟨g, b2, rfl, rfl, hkp, hbn2⟩
                          · try (exfalso; omega)
                            all_goals
                              refine ji_aload_n dX7_delete_101 rfl trivial ?_
                              refine ji_get (ci := 7) (k := 5) rfl dX7_delete_102 lX7_41 (by decide) (cl_0h) rfl ?_
                              refine ji_iload_n dX7_delete_105 rfl ?_
                              refine ji_iload_n dX7_delete_106 rfl ?_
                              refine ji_cV dX7_delete_107 (k_Book_placeOfWord (hbat.kept cl_kf) hbok (by omega) (by omega)) rfl ((cl_dh hbd).trans hb0) rfl rfl wX0_placeOfWord vX0_placeOfWord lX7_290 rfl (Nat.le_of_ble_eq_true rfl) rfl ?_
                              refine ji_iconst dX7_delete_110 ?_
                              refine ji_isub dX7_delete_111 ?_
                              refine ji_goto (tgt := 124) dX7_delete_112 rfl ?_
                              refine ji_istore dX7_delete_124 (by decide) rfl ?_
                              refine ji_iload dX7_delete_126 rfl ?_
                              refine ji_if_eq (tgt := 142) dX7_delete_128 rfl (by omega) (fun c128 => ?_) (fun c128 => ?_)
                              · try (exfalso; omega)
                                all_goals
                                  refine ji_aload_n dX7_delete_142 rfl trivial ?_
                                  refine ji_get (ci := 7) (k := 5) rfl dX7_delete_143 lX7_41 (by decide) (cl_0h) rfl ?_
                                  refine ji_iload_n dX7_delete_146 rfl ?_
                                  refine ji_iload_n dX7_delete_147 rfl ?_
                                  refine ji_iload_n dX7_delete_148 rfl ?_
                                  refine ji_iadd dX7_delete_149 ?_
                                  refine ji_cV dX7_delete_150 (k_Book_placeOfWord (hbat.kept cl_kf) hbok (by omega) (by omega)) rfl ((cl_dh hbd).trans hb0) rfl rfl wX0_placeOfWord vX0_placeOfWord lX7_290 rfl (Nat.le_of_ble_eq_true rfl) rfl ?_
                                  refine ji_istore dX7_delete_153 (by decide) rfl ?_
                                  refine ji_aload_n dX7_delete_155 rfl trivial ?_
                                  refine ji_aload_n dX7_delete_156 rfl trivial ?_
                                  refine ji_get (ci := 7) (k := 5) rfl dX7_delete_157 lX7_41 (by decide) (cl_0h) rfl ?_
                                  refine ji_iload_n dX7_delete_160 rfl ?_
                                  refine ji_iload dX7_delete_161 rfl ?_
                                  refine ji_iload dX7_delete_163 rfl ?_
                                  refine ji_callV dX7_delete_165 (k_Book_withDeleted (xa := xa) (ya := ya) (hbat.kept cl_kf) hbok hv hxy hym (by omega) c1) (by rw [hx1, hy1]; rfl) ((cl_dh hbd).trans hb0) rfl rfl wX0_withDeleted vX0_withDeleted lX7_308 rfl (Nat.le_of_ble_eq_true rfl) rfl (by omega) (by first | omega | exact Nat.le_refl _) (fun r8 h8 hq8 => ?_) (fun E8 h8 hq8 => by obtain ⟨w9, q, -⟩ := hq8; cases q)
                                  obtain ⟨b2, hq1, hext, hbn⟩ := hq8
                                  cases hq1
                                  obtain ⟨g, e9, hkp⟩ := cl_extE c1 hext
                                  subst e9
                                  have hbn2 := hbn.kept cl_fk
                                  obtain ⟨bw2, bkq2, bfq2, hb0', -, -, -, ⟨hbd', -, -⟩, -⟩ := id hbn2
                                  refine ji_putE (ci := 7) (k := 5) rfl dX7_delete_168 lX7_41 (by decide) (cl_0h) (by simp [cl_c0]) (ji_fitO _ trivial) rfl (cl_pb) ?_
                                  refine ji_aload_n dX7_delete_171 rfl trivial ?_
                                  refine ji_get (ci := 7) (k := 6) rfl dX7_delete_172 lX7_48 (by decide) (cl_0h) rfl ?_
                                  refine ji_iload dX7_delete_175 rfl ?_
                                  refine ji_iload dX7_delete_177 rfl ?_
                                  refine ji_iload dX7_delete_179 rfl ?_
                                  refine ji_if_eq (tgt := 191) dX7_delete_181 rfl (by omega) (fun c181 => ?_) (fun c181 => ?_)
                                  · try (exfalso; omega)
                                    all_goals
                                      refine ji_iload dX7_delete_191 rfl ?_
                                      refine ji_cVv dX7_delete_193 (cl_jM (mk_cg M (bk_ws B (bk_fw B p + m)) (bk_ws B (bk_fw B p + (m + o))) (bk_ws B (bk_fw B p + m))) (k_Marks_closeGap (by omega) (by omega) hr9 hJ9 hF9 hT9)) rfl (cl_12h) rfl rfl wX4_closeGap vX4_closeGap lX7_312 rfl (Nat.le_of_ble_eq_true rfl) rfl ?_
                                      refine ji_aload_n dX7_delete_196 rfl trivial ?_
                                      refine ji_iconst dX7_delete_197 ?_
                                      refine ji_putE (ci := 7) (k := 10) rfl dX7_delete_198 lX7_71 (by decide) (cl_0h) (by simp [cl_c0]) (ji_fitZ (by first | omega | decide)) rfl (cl_ps) ?_
                                      refine ji_aload_n dX7_delete_201 rfl trivial ?_
                                      refine ji_get (ci := 7) (k := 5) rfl dX7_delete_202 lX7_41 (by decide) (cl_0h) rfl ?_
                                      refine ji_iload_n dX7_delete_205 rfl ?_
                                      refine ji_cV dX7_delete_206 (k_Book_wordsOf (hbn2.kept cl_kf) hB (by omega)) rfl ((cl_dh hbd').trans hb0') rfl rfl wX0_wordsOf vX0_wordsOf lX7_273 rfl (Nat.le_of_ble_eq_true rfl) rfl ?_
                                      exact ji_ireturn dX7_delete_209 rfl (rfl) ⟨g, b2, rfl, rfl, hkp, hbn2⟩
                                  · try (exfalso; omega)
                                    all_goals
                                      refine ji_iload dX7_delete_184 rfl ?_
                                      refine ji_iconst dX7_delete_186 ?_
                                      refine ji_isub dX7_delete_187 ?_
                                      refine ji_goto (tgt := 193) dX7_delete_188 rfl ?_
                                      refine ji_cVv dX7_delete_193 (cl_jM (mk_cg M (bk_ws B (bk_fw B p + m)) (bk_ws B (bk_fw B p + (m + o))) (bk_ws B (bk_fw B p + m))) (k_Marks_closeGap (by omega) (by omega) hr9 hJ9 hF9 hT9)) rfl (cl_12h) rfl rfl wX4_closeGap vX4_closeGap lX7_312 rfl (Nat.le_of_ble_eq_true rfl) rfl ?_
                                      refine ji_aload_n dX7_delete_196 rfl trivial ?_
                                      refine ji_iconst dX7_delete_197 ?_
                                      refine ji_putE (ci := 7) (k := 10) rfl dX7_delete_198 lX7_71 (by decide) (cl_0h) (by simp [cl_c0]) (ji_fitZ (by first | omega | decide)) rfl (cl_ps) ?_
                                      refine ji_aload_n dX7_delete_201 rfl trivial ?_
                                      refine ji_get (ci := 7) (k := 5) rfl dX7_delete_202 lX7_41 (by decide) (cl_0h) rfl ?_
                                      refine ji_iload_n dX7_delete_205 rfl ?_
                                      refine ji_cV dX7_delete_206 (k_Book_wordsOf (hbn2.kept cl_kf) hB (by omega)) rfl ((cl_dh hbd').trans hb0') rfl rfl wX0_wordsOf vX0_wordsOf lX7_273 rfl (Nat.le_of_ble_eq_true rfl) rfl ?_
                                      exact ji_ireturn dX7_delete_209 rfl (rfl) ⟨g, b2, rfl, rfl, hkp, hbn2⟩
                              · try (exfalso; omega)
                                all_goals
                                  refine ji_aload_n dX7_delete_131 rfl trivial ?_
                                  refine ji_get (ci := 7) (k := 5) rfl dX7_delete_132 lX7_41 (by decide) (cl_0h) rfl ?_
                                  refine ji_iload_n dX7_delete_135 rfl ?_
                                  refine ji_cV dX7_delete_136 (k_Book_endOf (hbat.kept cl_kf) hbok (by omega)) rfl ((cl_dh hbd).trans hb0) rfl rfl wX0_endOf vX0_endOf lX7_287 rfl (Nat.le_of_ble_eq_true rfl) rfl ?_
                                  refine ji_goto (tgt := 153) dX7_delete_139 rfl ?_
                                  refine ji_istore dX7_delete_153 (by decide) rfl ?_
                                  refine ji_aload_n dX7_delete_155 rfl trivial ?_
                                  refine ji_aload_n dX7_delete_156 rfl trivial ?_
                                  refine ji_get (ci := 7) (k := 5) rfl dX7_delete_157 lX7_41 (by decide) (cl_0h) rfl ?_
                                  refine ji_iload_n dX7_delete_160 rfl ?_
                                  refine ji_iload dX7_delete_161 rfl ?_
                                  refine ji_iload dX7_delete_163 rfl ?_
                                  refine ji_callV dX7_delete_165 (k_Book_withDeleted (xa := xa) (ya := ya) (hbat.kept cl_kf) hbok hv hxy hym (by omega) c1) (by rw [hx1, hy1]; rfl) ((cl_dh hbd).trans hb0) rfl rfl wX0_withDeleted vX0_withDeleted lX7_308 rfl (Nat.le_of_ble_eq_true rfl) rfl (by omega) (by first | omega | exact Nat.le_refl _) (fun r8 h8 hq8 => ?_) (fun E8 h8 hq8 => by obtain ⟨w9, q, -⟩ := hq8; cases q)
                                  obtain ⟨b2, hq1, hext, hbn⟩ := hq8
                                  cases hq1
                                  obtain ⟨g, e9, hkp⟩ := cl_extE c1 hext
                                  subst e9
                                  have hbn2 := hbn.kept cl_fk
                                  obtain ⟨bw2, bkq2, bfq2, hb0', -, -, -, ⟨hbd', -, -⟩, -⟩ := id hbn2
                                  refine ji_putE (ci := 7) (k := 5) rfl dX7_delete_168 lX7_41 (by decide) (cl_0h) (by simp [cl_c0]) (ji_fitO _ trivial) rfl (cl_pb) ?_
                                  refine ji_aload_n dX7_delete_171 rfl trivial ?_
                                  refine ji_get (ci := 7) (k := 6) rfl dX7_delete_172 lX7_48 (by decide) (cl_0h) rfl ?_
                                  refine ji_iload dX7_delete_175 rfl ?_
                                  refine ji_iload dX7_delete_177 rfl ?_
                                  refine ji_iload dX7_delete_179 rfl ?_
                                  refine ji_if_eq (tgt := 191) dX7_delete_181 rfl (by omega) (fun c181 => ?_) (fun c181 => ?_)
                                  · try (exfalso; omega)
                                    all_goals
                                      refine ji_iload dX7_delete_191 rfl ?_
                                      refine ji_cVv dX7_delete_193 (cl_jM (mk_cg M (bk_ws B (bk_fw B p + m)) (bk_ws B (bk_fw B p + (m + o))) (bk_ws B (bk_fw B p + m))) (k_Marks_closeGap (by omega) (by omega) hr9 hJ9 hF9 hT9)) rfl (cl_12h) rfl rfl wX4_closeGap vX4_closeGap lX7_312 rfl (Nat.le_of_ble_eq_true rfl) rfl ?_
                                      refine ji_aload_n dX7_delete_196 rfl trivial ?_
                                      refine ji_iconst dX7_delete_197 ?_
                                      refine ji_putE (ci := 7) (k := 10) rfl dX7_delete_198 lX7_71 (by decide) (cl_0h) (by simp [cl_c0]) (ji_fitZ (by first | omega | decide)) rfl (cl_ps) ?_
                                      refine ji_aload_n dX7_delete_201 rfl trivial ?_
                                      refine ji_get (ci := 7) (k := 5) rfl dX7_delete_202 lX7_41 (by decide) (cl_0h) rfl ?_
                                      refine ji_iload_n dX7_delete_205 rfl ?_
                                      refine ji_cV dX7_delete_206 (k_Book_wordsOf (hbn2.kept cl_kf) hB (by omega)) rfl ((cl_dh hbd').trans hb0') rfl rfl wX0_wordsOf vX0_wordsOf lX7_273 rfl (Nat.le_of_ble_eq_true rfl) rfl ?_
                                      exact ji_ireturn dX7_delete_209 rfl (rfl) ⟨g, b2, rfl, rfl, hkp, hbn2⟩
                                  · try (exfalso; omega)
                                    all_goals
                                      refine ji_iload dX7_delete_184 rfl ?_
                                      refine ji_iconst dX7_delete_186 ?_
                                      refine ji_isub dX7_delete_187 ?_
                                      refine ji_goto (tgt := 193) dX7_delete_188 rfl ?_
                                      refine ji_cVv dX7_delete_193 (cl_jM (mk_cg M (bk_ws B (bk_fw B p + m)) (bk_ws B (bk_fw B p + (m + o))) (bk_ws B (bk_fw B p + m))) (k_Marks_closeGap (by omega) (by omega) hr9 hJ9 hF9 hT9)) rfl (cl_12h) rfl rfl wX4_closeGap vX4_closeGap lX7_312 rfl (Nat.le_of_ble_eq_true rfl) rfl ?_
                                      refine ji_aload_n dX7_delete_196 rfl trivial ?_
                                      refine ji_iconst dX7_delete_197 ?_
                                      refine ji_putE (ci := 7) (k := 10) rfl dX7_delete_198 lX7_71 (by decide) (cl_0h) (by simp [cl_c0]) (ji_fitZ (by first | omega | decide)) rfl (cl_ps) ?_
                                      refine ji_aload_n dX7_delete_201 rfl trivial ?_
                                      refine ji_get (ci := 7) (k := 5) rfl dX7_delete_202 lX7_41 (by decide) (cl_0h) rfl ?_
                                      refine ji_iload_n dX7_delete_205 rfl ?_
                                      refine ji_cV dX7_delete_206 (k_Book_wordsOf (hbn2.kept cl_kf) hB (by omega)) rfl ((cl_dh hbd').trans hb0') rfl rfl wX0_wordsOf vX0_wordsOf lX7_273 rfl (Nat.le_of_ble_eq_true rfl) rfl ?_
                                      exact ji_ireturn dX7_delete_209 rfl (rfl) ⟨g, b2, rfl, rfl, hkp, hbn2⟩
                  · try (exfalso; omega)
                    all_goals
                      exact ji_throwW (text := "no word would be left") ji_thrS rfl (by decide) rfl dX7_delete_55 dX7_delete_58 dX7_delete_59 dX7_delete_62 dX7_delete_65 (by omega) (by omega) (Nat.le_of_ble_eq_true rfl) ⟨g, b2, rfl, rfl, hkp, hbn2⟩
              · try (exfalso; omega)
                all_goals
                  exact ji_throwW (text := "a word does not exist, or many is less than 1") ji_thrI rfl (by decide) rfl dX7_delete_38 dX7_delete_41 dX7_delete_42 dX7_delete_45 dX7_delete_48 (by omega) (by omega) (Nat.le_of_ble_eq_true rfl) ⟨g, b2, rfl, rfl, hkp, hbn2⟩

theorem in_pd_b {x1 x2 : Int} (hk : in_ok I.1 I.2.1) (j : Nat) : 0 ≤ in_pd I x1 x2 j ∧ in_pd I x1 x2 j < 128 := by
  unfold in_pd ji_fill
  split
  · exact in_sign_b hk _
  · omega
set_option maxHeartbeats 4000000 in
set_option maxRecDepth 100000 in
theorem x_insert0 (hok : cl_ok n f I P M H Y Z B NT SB) {v m : Int} (b_v : -2147483648 ≤ v ∧ v < 2147483648) (hx : v < 0 ∨ bk_P B ≤ v) : JX G (d + 7) mX7_insert [.ref 0, .int (jI (v)), .int (jI (m))] (n, cl_f f I P M H Y Z) 1 6 eI (n, cl_f f I P M H Y Z) := by
  obtain ⟨c1, c2, c3, c4, c5, c6, c7, c8, c9, c10, c11, c12⟩ := id hok
  obtain ⟨⟨hm1, hm1'⟩, hm2, hm3, hmJ, hmF, hmT⟩ := id c8
  obtain ⟨hbat, hbok, hbne⟩ := id c6
  obtain ⟨bw, bkq, bfq, hb0, hb1, hb2, hbw, ⟨hbd, -, -⟩, -⟩ := id hbat
  obtain ⟨⟨hw1, hw2⟩, hh1, hh2⟩ := id c5
  have hP10 := hbok.2.1
  refine ji_ent (by decide) rfl (Nat.le_of_ble_eq_true rfl) rfl ?_
  refine ji_aload_n dX7_insert_0 rfl trivial ?_
  refine ji_iload_n dX7_insert_1 rfl ?_
  exact ji_cVx dX7_insert_2 (x_checkParagraph hok b_v hx) rfl (cl_0h) rfl rfl wX7_checkParagraph vX7_checkParagraph lX7_241 rfl (Nat.le_of_ble_eq_true rfl) rfl (by omega) (by omega)

set_option maxHeartbeats 4000000 in
set_option maxRecDepth 100000 in
theorem x_insert1 (hok : cl_ok n f I P M H Y Z B NT SB) {v m : Int} (b_m : -2147483648 ≤ m ∧ m < 2147483648) (hv : 0 ≤ v ∧ v < bk_P B) (hx : m < 0 ∨ (bk_fw B (v + 1) - bk_fw B v) < m) : JX G (d + 6) mX7_insert [.ref 0, .int (jI (v)), .int (jI (m))] (n, cl_f f I P M H Y Z) 1 6 eI (n, cl_f f I P M H Y Z) := by
  obtain ⟨c1, c2, c3, c4, c5, c6, c7, c8, c9, c10, c11, c12⟩ := id hok
  obtain ⟨⟨hm1, hm1'⟩, hm2, hm3, hmJ, hmF, hmT⟩ := id c8
  obtain ⟨hbat, hbok, hbne⟩ := id c6
  obtain ⟨bw, bkq, bfq, hb0, hb1, hb2, hbw, ⟨hbd, -, -⟩, -⟩ := id hbat
  obtain ⟨⟨hw1, hw2⟩, hh1, hh2⟩ := id c5
  have hP10 := hbok.2.1
  have wf0 := bk_fw_b hbok v
  have wf1 := bk_fw_b hbok (v + 1)
  refine ji_ent (by decide) rfl (Nat.le_of_ble_eq_true rfl) rfl ?_
  refine ji_aload_n dX7_insert_0 rfl trivial ?_
  refine ji_iload_n dX7_insert_1 rfl ?_
  refine ji_cVv dX7_insert_2 (k_checkParagraph hok (by omega) hv) rfl (cl_0h) rfl rfl wX7_checkParagraph vX7_checkParagraph lX7_241 rfl (Nat.le_of_ble_eq_true rfl) rfl ?_
  refine ji_aload_n dX7_insert_5 rfl trivial ?_
  refine ji_get (ci := 7) (k := 5) rfl dX7_insert_6 lX7_41 (by decide) (cl_0h) rfl ?_
  refine ji_iload_n dX7_insert_9 rfl ?_
  refine ji_cV dX7_insert_10 (k_Book_wordsOf (hbat.kept cl_kf) hbok (by omega)) rfl ((cl_dh hbd).trans hb0) rfl rfl wX0_wordsOf vX0_wordsOf lX7_273 rfl (Nat.le_of_ble_eq_true rfl) rfl ?_
  refine ji_istore_n dX7_insert_13 (by decide) rfl ?_
  refine ji_iload_n dX7_insert_14 rfl ?_
  refine ji_if_lt (tgt := 23) dX7_insert_15 rfl (by omega) (fun c15 => ?_) (fun c15 => ?_)
  · try (exfalso; omega)
    all_goals
      exact ji_throwW (text := "word is out of range") ji_thrI rfl (by decide) rfl dX7_insert_23 dX7_insert_26 dX7_insert_27 dX7_insert_30 dX7_insert_33 (by omega) (by omega) (Nat.le_of_ble_eq_true rfl) ⟨rfl, rfl⟩
  · try (exfalso; omega)
    all_goals
      refine ji_iload_n dX7_insert_18 rfl ?_
      refine ji_iload_n dX7_insert_19 rfl ?_
      refine ji_icmp_le (tgt := 34) dX7_insert_20 rfl (by omega) (by omega) (fun c20 => ?_) (fun c20 => ?_)
      · try (exfalso; omega)
        all_goals
          refine ji_aload_n dX7_insert_34 rfl trivial ?_
          fail "no contract for BookPager.checkWordList at 35"
      · try (exfalso; omega)
        all_goals
          exact ji_throwW (text := "word is out of range") ji_thrI rfl (by decide) rfl dX7_insert_23 dX7_insert_26 dX7_insert_27 dX7_insert_30 dX7_insert_33 (by omega) (by omega) (Nat.le_of_ble_eq_true rfl) ⟨rfl, rfl⟩

set_option maxHeartbeats 4000000 in
set_option maxRecDepth 100000 in
theorem x_insert2 (hok : cl_ok n f I P M H Y Z B NT SB) {v m : Int} (hv : 0 ≤ v ∧ v < bk_P B) (hm : 0 ≤ m ∧ m ≤ (bk_fw B (v + 1) - bk_fw B v)) (hx : in_whole I.1 I.2.1 0 = 0) : JX G (d + 7) mX7_insert [.ref 0, .int (jI (v)), .int (jI (m))] (n, cl_f f I P M H Y Z) 1 6 eS (n, cl_f f (in_W I 0) P M H Y Z) := by
  obtain ⟨c1, c2, c3, c4, c5, c6, c7, c8, c9, c10, c11, c12⟩ := id hok
  obtain ⟨⟨hm1, hm1'⟩, hm2, hm3, hmJ, hmF, hmT⟩ := id c8
  obtain ⟨hbat, hbok, hbne⟩ := id c6
  obtain ⟨bw, bkq, bfq, hb0, hb1, hb2, hbw, ⟨hbd, -, -⟩, -⟩ := id hbat
  obtain ⟨⟨hw1, hw2⟩, hh1, hh2⟩ := id c5
  have hP10 := hbok.2.1
  have wf0 := bk_fw_b hbok v
  have wf1 := bk_fw_b hbok (v + 1)
  refine ji_ent (by decide) rfl (Nat.le_of_ble_eq_true rfl) rfl ?_
  refine ji_aload_n dX7_insert_0 rfl trivial ?_
  refine ji_iload_n dX7_insert_1 rfl ?_
  refine ji_cVv dX7_insert_2 (k_checkParagraph hok (by omega) hv) rfl (cl_0h) rfl rfl wX7_checkParagraph vX7_checkParagraph lX7_241 rfl (Nat.le_of_ble_eq_true rfl) rfl ?_
  refine ji_aload_n dX7_insert_5 rfl trivial ?_
  refine ji_get (ci := 7) (k := 5) rfl dX7_insert_6 lX7_41 (by decide) (cl_0h) rfl ?_
  refine ji_iload_n dX7_insert_9 rfl ?_
  refine ji_cV dX7_insert_10 (k_Book_wordsOf (hbat.kept cl_kf) hbok (by omega)) rfl ((cl_dh hbd).trans hb0) rfl rfl wX0_wordsOf vX0_wordsOf lX7_273 rfl (Nat.le_of_ble_eq_true rfl) rfl ?_
  refine ji_istore_n dX7_insert_13 (by decide) rfl ?_
  refine ji_iload_n dX7_insert_14 rfl ?_
  refine ji_if_lt (tgt := 23) dX7_insert_15 rfl (by omega) (fun c15 => ?_) (fun c15 => ?_)
  · try (exfalso; omega)
    all_goals
      exact ji_throwW (text := "word is out of range") ji_thrI rfl (by decide) rfl dX7_insert_23 dX7_insert_26 dX7_insert_27 dX7_insert_30 dX7_insert_33 (by omega) (by omega) (Nat.le_of_ble_eq_true rfl) ⟨rfl, rfl⟩
  · try (exfalso; omega)
    all_goals
      refine ji_iload_n dX7_insert_18 rfl ?_
      refine ji_iload_n dX7_insert_19 rfl ?_
      refine ji_icmp_le (tgt := 34) dX7_insert_20 rfl (by omega) (by omega) (fun c20 => ?_) (fun c20 => ?_)
      · try (exfalso; omega)
        all_goals
          refine ji_aload_n dX7_insert_34 rfl trivial ?_
          exact ji_cVx dX7_insert_35 (x_checkWordList hok hx) rfl (cl_0h) rfl rfl wX7_checkWordList vX7_checkWordList lX7_129 rfl (Nat.le_of_ble_eq_true rfl) rfl (by omega) (by omega)
      · try (exfalso; omega)
        all_goals
          exact ji_throwW (text := "word is out of range") ji_thrI rfl (by decide) rfl dX7_insert_23 dX7_insert_26 dX7_insert_27 dX7_insert_30 dX7_insert_33 (by omega) (by omega) (Nat.le_of_ble_eq_true rfl) ⟨rfl, rfl⟩

set_option maxHeartbeats 4000000 in
set_option maxRecDepth 100000 in
theorem x_insert3 (hok : cl_ok n f I P M H Y Z B NT SB) {v m : Int} (hv : 0 ≤ v ∧ v < bk_P B) (hm : 0 ≤ m ∧ m ≤ (bk_fw B (v + 1) - bk_fw B v)) (hy : in_whole I.1 I.2.1 0 = 1) (hx : 24 < (bk_fw B (v + 1) - bk_fw B v) + (in_tm I.2.1 32 I.1.toNat + 1)) : JX G (d + 6) mX7_insert [.ref 0, .int (jI (v)), .int (jI (m))] (n, cl_f f I P M H Y Z) 1 6 eS (n, cl_f f (in_W I 0) P M H Y Z) := by
  obtain ⟨c1, c2, c3, c4, c5, c6, c7, c8, c9, c10, c11, c12⟩ := id hok
  obtain ⟨⟨hm1, hm1'⟩, hm2, hm3, hmJ, hmF, hmT⟩ := id c8
  obtain ⟨hbat, hbok, hbne⟩ := id c6
  obtain ⟨bw, bkq, bfq, hb0, hb1, hb2, hbw, ⟨hbd, -, -⟩, -⟩ := id hbat
  obtain ⟨⟨hw1, hw2⟩, hh1, hh2⟩ := id c5
  have hP10 := hbok.2.1
  have wf0 := bk_fw_b hbok v
  have wf1 := bk_fw_b hbok (v + 1)
  have htm := in_tm_b I.2.1 32 I.1.toNat
  have hlen := c2.1
  have htm2 : in_tm (in_W I 0).2.1 32 (in_W I 0).1.toNat = in_tm I.2.1 32 I.1.toNat := rfl
  have hl9 : (in_W I 0).1 = I.1 := rfl
  refine ji_ent (by decide) rfl (Nat.le_of_ble_eq_true rfl) rfl ?_
  refine ji_aload_n dX7_insert_0 rfl trivial ?_
  refine ji_iload_n dX7_insert_1 rfl ?_
  refine ji_cVv dX7_insert_2 (k_checkParagraph hok (by omega) hv) rfl (cl_0h) rfl rfl wX7_checkParagraph vX7_checkParagraph lX7_241 rfl (Nat.le_of_ble_eq_true rfl) rfl ?_
  refine ji_aload_n dX7_insert_5 rfl trivial ?_
  refine ji_get (ci := 7) (k := 5) rfl dX7_insert_6 lX7_41 (by decide) (cl_0h) rfl ?_
  refine ji_iload_n dX7_insert_9 rfl ?_
  refine ji_cV dX7_insert_10 (k_Book_wordsOf (hbat.kept cl_kf) hbok (by omega)) rfl ((cl_dh hbd).trans hb0) rfl rfl wX0_wordsOf vX0_wordsOf lX7_273 rfl (Nat.le_of_ble_eq_true rfl) rfl ?_
  refine ji_istore_n dX7_insert_13 (by decide) rfl ?_
  refine ji_iload_n dX7_insert_14 rfl ?_
  refine ji_if_lt (tgt := 23) dX7_insert_15 rfl (by omega) (fun c15 => ?_) (fun c15 => ?_)
  · try (exfalso; omega)
    all_goals
      exact ji_throwW (text := "word is out of range") ji_thrI rfl (by decide) rfl dX7_insert_23 dX7_insert_26 dX7_insert_27 dX7_insert_30 dX7_insert_33 (by omega) (by omega) (Nat.le_of_ble_eq_true rfl) ⟨rfl, rfl⟩
  · try (exfalso; omega)
    all_goals
      refine ji_iload_n dX7_insert_18 rfl ?_
      refine ji_iload_n dX7_insert_19 rfl ?_
      refine ji_icmp_le (tgt := 34) dX7_insert_20 rfl (by omega) (by omega) (fun c20 => ?_) (fun c20 => ?_)
      · try (exfalso; omega)
        all_goals
          refine ji_aload_n dX7_insert_34 rfl trivial ?_
          refine ji_cVv dX7_insert_35 (k_checkWordList hok hy) rfl (cl_0h) rfl rfl wX7_checkWordList vX7_checkWordList lX7_129 rfl (Nat.le_of_ble_eq_true rfl) rfl ?_
          refine ji_iload_n dX7_insert_38 rfl ?_
          refine ji_aload_n dX7_insert_39 rfl trivial ?_
          refine ji_get (ci := 7) (k := 0) rfl dX7_insert_40 lX7_12 (by decide) (cl_0h) rfl ?_
          refine ji_cV dX7_insert_43 (cl_jIs (I := in_W I 0) (k_Input_wordsOfList c2)) rfl (cl_1h) rfl rfl wX2_wordsOfList vX2_wordsOfList lX7_278 rfl (Nat.le_of_ble_eq_true rfl) rfl ?_
          refine ji_iadd dX7_insert_46 ?_
          refine ji_bipush dX7_insert_47 rfl ?_
          refine ji_icmp_le (tgt := 63) dX7_insert_49 rfl (by omega) (by omega) (fun c49 => ?_) (fun c49 => ?_)
          · try (exfalso; omega)
            all_goals
              refine ji_aload_n dX7_insert_63 rfl trivial ?_
              refine ji_get (ci := 7) (k := 7) rfl dX7_insert_64 lX7_55 (by decide) (cl_0h) rfl ?_
              refine ji_aload_n dX7_insert_67 rfl trivial ?_
              refine ji_get (ci := 7) (k := 5) rfl dX7_insert_68 lX7_41 (by decide) (cl_0h) rfl ?_
              refine ji_aload_n dX7_insert_71 rfl trivial ?_
              refine ji_get (ci := 7) (k := 6) rfl dX7_insert_72 lX7_48 (by decide) (cl_0h) rfl ?_
              fail "no contract for History.keep at 75"
          · try (exfalso; omega)
            all_goals
              exact ji_throwW (text := "the paragraph would have more than 24 words") ji_thrS rfl (by decide) rfl dX7_insert_52 dX7_insert_55 dX7_insert_56 dX7_insert_59 dX7_insert_62 (by omega) (by omega) (Nat.le_of_ble_eq_true rfl) ⟨rfl, rfl⟩
      · try (exfalso; omega)
        all_goals
          exact ji_throwW (text := "word is out of range") ji_thrI rfl (by decide) rfl dX7_insert_23 dX7_insert_26 dX7_insert_27 dX7_insert_30 dX7_insert_33 (by omega) (by omega) (Nat.le_of_ble_eq_true rfl) ⟨rfl, rfl⟩

set_option maxHeartbeats 4000000 in
set_option maxRecDepth 100000 in
theorem k_insertB (hok : cl_ok n f I P M H Y Z B NT SB) {p xa : Nat} {m : Int} (hv : p < bk_P B) (hy : in_whole I.1 I.2.1 0 = 1) (hx : (bk_fw B ((p : Int) + 1) - bk_fw B p) + (in_tm I.2.1 32 I.1.toNat + 1) ≤ 24) (hm : 0 ≤ m ∧ m = (bk_fw B ((p : Int) + 1) - bk_fw B p)) (hx1 : bk_end B p = xa) (hym : xa ≤ bk_m B) (h99 : bk_m B + 101 ≤ 9999) (hB : bk_ok (bk_spl B p xa xa (in_pd (in_W I 0) 1 0) (1 + I.1 + 0).toNat)) : JM G (d + 6) mX7_insert [.ref 0, .int (jI ((p : Int))), .int (jI (m))] (n, cl_f f I P M H Y Z) 6 ((1 + I.1 + 0).toNat + (bk_m B - (xa - xa) + (1 + I.1 + 0).toNat + 2 + (wd_cnt (wd_spl (bk_m B) (bk_tx B) (in_pd (in_W I 0) 1 0) xa xa (1 + I.1 + 0).toNat) (bk_m B - (xa - xa) + (1 + I.1 + 0).toNat) + 2) + (bk_P B + 1 + 3))) (fun r9 h9 => ∃ g b2, r9 = .inl (some (.int (jI (bk_fw (bk_spl B p xa xa (in_pd (in_W I 0) 1 0) (1 + I.1 + 0).toNat) ((p : Int) + 1) - bk_fw (bk_spl B p xa xa (in_pd (in_W I 0) 1 0) (1 + I.1 + 0).toNat) p)))) ∧ h9 = (n + 1 + 5, cl_f g (0, (in_W I 0).2) (P.1, P.2.1, P.2.2.1, P.2.2.2.1, b2, 1) (mk_og M (bk_end B p) (((1 + I.1 + 0).toNat : Nat) : Int)) (hi_k H M P.2.2.2.2.1) Y Z) ∧ cl_kp (n, f) (n + 1 + 5, g) ∧ bk_at (n + 1 + 5, g) b2 (bk_spl B p xa xa (in_pd (in_W I 0) 1 0) (1 + I.1 + 0).toNat)) := by
  obtain ⟨c1, c2, c3, c4, c5, c6, c7, c8, c9, c10, c11, c12⟩ := id hok
  obtain ⟨⟨hm1, hm1'⟩, hm2, hm3, hmJ, hmF, hmT⟩ := id c8
  obtain ⟨hbat, hbok, hbne⟩ := id c6
  obtain ⟨bw, bkq, bfq, hb0, hb1, hb2, hbw, ⟨hbd, -, -⟩, -⟩ := id hbat
  obtain ⟨⟨hw1, hw2⟩, hh1, hh2⟩ := id c5
  have hP10 := hbok.2.1
  have wf0 := bk_fw_b hbok (p : Int)
  have wf1 := bk_fw_b hbok ((p : Int) + 1)
  have hr9 : -1000000 ≤ M.1 ∧ M.1 ≤ 1000000 := by omega
  have hJ9 : ∀ i, -1000000 ≤ M.2.2.2.1 i ∧ M.2.2.2.1 i ≤ 1000000 := fun i => by have := hmJ i; omega
  have hF9 : ∀ i, -1000000 ≤ M.2.2.2.2.1 i ∧ M.2.2.2.2.1 i ≤ 1000000 := fun i => by have := hmF i; omega
  have hT9 : ∀ i, -1000000 ≤ M.2.2.2.2.2.1 i ∧ M.2.2.2.2.2.1 i ≤ 1000000 := fun i => by have := hmT i; omega
  have htm := in_tm_b I.2.1 32 I.1.toNat
  have hlen := c2.1
  have htm2 : in_tm (in_W I 0).2.1 32 (in_W I 0).1.toNat = in_tm I.2.1 32 I.1.toNat := rfl
  have hl9 : (in_W I 0).1 = I.1 := rfl
  have hm9 := hbok.1.1
  have ww1 := bk_ws_b hbok (bk_fw B p + m)
  have ww3 := bk_en_b hbok (p : Int)
  have hblt : P.2.2.2.2.1 < n := by obtain ⟨_, _, _, _, _, _, _, _, q, _⟩ := hbat; exact q
  have hb01 : (va_up f n (.inr (.char, (1 + I.1 + 0).toNat, .inl (in_pd (in_W I 0) 1 0)))) P.2.2.2.2.1 = .inl (0, [.ref bw, .ref bkq, .ref bfq]) := (va_up_ne _ _ (by omega)).trans hb0
  refine ji_ent (by decide) rfl (Nat.le_of_ble_eq_true rfl) rfl ?_
  refine ji_aload_n dX7_insert_0 rfl trivial ?_
  refine ji_iload_n dX7_insert_1 rfl ?_
  refine ji_cVv dX7_insert_2 (k_checkParagraph hok (by omega) (by omega)) rfl (cl_0h) rfl rfl wX7_checkParagraph vX7_checkParagraph lX7_241 rfl (Nat.le_of_ble_eq_true rfl) rfl ?_
  refine ji_aload_n dX7_insert_5 rfl trivial ?_
  refine ji_get (ci := 7) (k := 5) rfl dX7_insert_6 lX7_41 (by decide) (cl_0h) rfl ?_
  refine ji_iload_n dX7_insert_9 rfl ?_
  refine ji_cV dX7_insert_10 (k_Book_wordsOf (hbat.kept cl_kf) hbok (by omega)) rfl ((cl_dh hbd).trans hb0) rfl rfl wX0_wordsOf vX0_wordsOf lX7_273 rfl (Nat.le_of_ble_eq_true rfl) rfl ?_
  refine ji_istore_n dX7_insert_13 (by decide) rfl ?_
  refine ji_iload_n dX7_insert_14 rfl ?_
  refine ji_if_lt (tgt := 23) dX7_insert_15 rfl (by omega) (fun c15 => ?_) (fun c15 => ?_)
  · try (exfalso; omega)
    all_goals
      exact ji_throwW (text := "word is out of range") ji_thrI rfl (by decide) rfl dX7_insert_23 dX7_insert_26 dX7_insert_27 dX7_insert_30 dX7_insert_33 (by omega) (by omega) (Nat.le_of_ble_eq_true rfl) ⟨g, b2, rfl, rfl, cl_up.trans hkp, hbn2⟩
  · try (exfalso; omega)
    all_goals
      refine ji_iload_n dX7_insert_18 rfl ?_
      refine ji_iload_n dX7_insert_19 rfl ?_
      refine ji_icmp_le (tgt := 34) dX7_insert_20 rfl (by omega) (by omega) (fun c20 => ?_) (fun c20 => ?_)
      · try (exfalso; omega)
        all_goals
          refine ji_aload_n dX7_insert_34 rfl trivial ?_
          refine ji_cVv dX7_insert_35 (k_checkWordList hok hy) rfl (cl_0h) rfl rfl wX7_checkWordList vX7_checkWordList lX7_129 rfl (Nat.le_of_ble_eq_true rfl) rfl ?_
          refine ji_iload_n dX7_insert_38 rfl ?_
          refine ji_aload_n dX7_insert_39 rfl trivial ?_
          refine ji_get (ci := 7) (k := 0) rfl dX7_insert_40 lX7_12 (by decide) (cl_0h) rfl ?_
          refine ji_cV dX7_insert_43 (cl_jIs (I := in_W I 0) (k_Input_wordsOfList c2)) rfl (cl_1h) rfl rfl wX2_wordsOfList vX2_wordsOfList lX7_278 rfl (Nat.le_of_ble_eq_true rfl) rfl ?_
          refine ji_iadd dX7_insert_46 ?_
          refine ji_bipush dX7_insert_47 rfl ?_
          refine ji_icmp_le (tgt := 63) dX7_insert_49 rfl (by omega) (by omega) (fun c49 => ?_) (fun c49 => ?_)
          · try (exfalso; omega)
            all_goals
              refine ji_aload_n dX7_insert_63 rfl trivial ?_
              refine ji_get (ci := 7) (k := 7) rfl dX7_insert_64 lX7_55 (by decide) (cl_0h) rfl ?_
              refine ji_aload_n dX7_insert_67 rfl trivial ?_
              refine ji_get (ci := 7) (k := 5) rfl dX7_insert_68 lX7_41 (by decide) (cl_0h) rfl ?_
              refine ji_aload_n dX7_insert_71 rfl trivial ?_
              refine ji_get (ci := 7) (k := 6) rfl dX7_insert_72 lX7_48 (by decide) (cl_0h) rfl ?_
              refine ji_cVv dX7_insert_75 (c_keep c9 hb0 hbd) rfl (cl_17h) rfl rfl wX1_keep vX1_keep lX7_283 rfl (Nat.le_of_ble_eq_true rfl) rfl ?_
              refine ji_iload_n dX7_insert_78 rfl ?_
              refine ji_iload_n dX7_insert_79 rfl ?_
              refine ji_icmp_ne (tgt := 87) dX7_insert_80 rfl (by omega) (by omega) (fun c80 => ?_) (fun c80 => ?_)
              · try (exfalso; omega)
                all_goals
                  refine ji_iconst dX7_insert_87 ?_
                  refine ji_istore dX7_insert_88 (by decide) rfl ?_
                  refine ji_iload dX7_insert_90 rfl ?_
                  refine ji_if_eq (tgt := 106) dX7_insert_92 rfl (by omega) (fun c92 => ?_) (fun c92 => ?_)
                  · try (exfalso; omega)
                    all_goals
                      refine ji_aload_n dX7_insert_106 rfl trivial ?_
                      refine ji_get (ci := 7) (k := 5) rfl dX7_insert_107 lX7_41 (by decide) (cl_0h) rfl ?_
                      refine ji_iload_n dX7_insert_110 rfl ?_
                      refine ji_iload_n dX7_insert_111 rfl ?_
                      refine ji_cV dX7_insert_112 (k_Book_placeOfWord (hbat.kept cl_kf) hbok (by omega) (by omega)) rfl ((cl_dh hbd).trans hb0) rfl rfl wX0_placeOfWord vX0_placeOfWord lX7_290 rfl (Nat.le_of_ble_eq_true rfl) rfl ?_
                      refine ji_istore dX7_insert_115 (by decide) rfl ?_
                      refine ji_iload dX7_insert_117 rfl ?_
                      refine ji_if_eq (tgt := 134) dX7_insert_119 rfl (by omega) (fun c119 => ?_) (fun c119 => ?_)
                      · try (exfalso; omega)
                        all_goals
                          refine ji_aload_n dX7_insert_134 rfl trivial ?_
                          refine ji_get (ci := 7) (k := 0) rfl dX7_insert_135 lX7_12 (by decide) (cl_0h) rfl ?_
                          refine ji_iconst dX7_insert_138 ?_
                          refine ji_iconst dX7_insert_139 ?_
                          refine ji_callV dX7_insert_140 (c_padded (I := in_W I 0) c1 c2 (by omega) (by omega)) rfl (cl_1h) rfl rfl wX2_padded vX2_padded lX7_293 rfl (Nat.le_of_ble_eq_true rfl) rfl (by omega) (by first | omega | exact Nat.le_refl _) (fun r8 h8 hq8 => ?_) (fun E8 h8 hq8 => by cases hq8.1)
                          obtain ⟨hq1, e9⟩ := hq8
                          cases hq1
                          subst e9
                          refine ji_astore dX7_insert_143 (by decide) trivial rfl ?_
                          refine ji_aload_n dX7_insert_145 rfl trivial ?_
                          refine ji_aload_n dX7_insert_146 rfl trivial ?_
                          refine ji_get (ci := 7) (k := 5) rfl dX7_insert_147 lX7_41 (by decide) (cl_0h) rfl ?_
                          refine ji_iload_n dX7_insert_150 rfl ?_
                          refine ji_iload dX7_insert_151 rfl ?_
                          refine ji_aload dX7_insert_153 rfl trivial ?_
                          refine ji_callV dX7_insert_155 (k_Book_withInserted (xa := xa) (c := (1 + I.1 + 0).toNat) (co := (in_pd (in_W I 0) 1 0)) ((hbat.kept cl_up.1).kept cl_kf) hbok hv ((cl_dh (Or.inr c1)).trans (va_up_self _ _ _)) (show n < n + 1 by omega) (fun j => in_pd_b c2 j) (Nat.le_refl _) hym (by omega) (show 72 ≤ n + 1 by omega)) (by rw [hx1]; rfl) ((cl_dh hbd).trans hb01) rfl rfl wX0_withInserted vX0_withInserted lX7_297 rfl (Nat.le_of_ble_eq_true rfl) rfl (by omega) (by first | omega | exact Nat.le_refl _) (fun r8 h8 hq8 => ?_) (fun E8 h8 hq8 => by obtain ⟨w9, q, -⟩ := hq8; cases q)
                          obtain ⟨b2, hq1, hext, hbn⟩ := hq8
                          cases hq1
                          obtain ⟨g, e9, hkp⟩ := cl_extE (show 72 ≤ n + 1 by omega) hext
                          subst e9
                          have hbn2 := hbn.kept cl_fk
                          obtain ⟨bw2, bkq2, bfq2, hb0', -, -, -, ⟨hbd', -, -⟩, -⟩ := id hbn2
                          have hgn : g n = (.inr (.char, (1 + I.1 + 0).toNat, .inl (in_pd (in_W I 0) 1 0))) := (hkp.1.2 n (Or.inr c1) (show n < n + 1 by omega)).trans (va_up_self _ _ _)
                          refine ji_putE (ci := 7) (k := 5) rfl dX7_insert_158 lX7_41 (by decide) (cl_0h) (by simp [cl_c0]) (ji_fitO _ trivial) rfl (cl_pb) ?_
                          refine ji_aload_n dX7_insert_161 rfl trivial ?_
                          refine ji_get (ci := 7) (k := 6) rfl dX7_insert_162 lX7_48 (by decide) (cl_0h) rfl ?_
                          refine ji_iload dX7_insert_165 rfl ?_
                          refine ji_aload dX7_insert_167 rfl trivial ?_
                          refine ji_alen dX7_insert_169 ((cl_dh (Or.inr c1)).trans hgn) (fun cy => rfl) ?_
                          refine ji_cVv dX7_insert_170 (cl_jM (mk_og M (bk_end B p) (((1 + I.1 + 0).toNat : Nat) : Int)) (k_Marks_openGap (by omega) hr9 hJ9 hF9 hT9)) rfl (cl_12h) rfl rfl wX4_openGap vX4_openGap lX7_301 rfl (Nat.le_of_ble_eq_true rfl) rfl ?_
                          refine ji_aload_n dX7_insert_173 rfl trivial ?_
                          refine ji_get (ci := 7) (k := 0) rfl dX7_insert_174 lX7_12 (by decide) (cl_0h) rfl ?_
                          refine ji_cVv dX7_insert_177 (cl_jI (0, (in_W I 0).2) k_Input_empty) rfl (cl_1h) rfl rfl wX2_empty vX2_empty lX7_99 rfl (Nat.le_of_ble_eq_true rfl) rfl ?_
                          refine ji_aload_n dX7_insert_180 rfl trivial ?_
                          refine ji_iconst dX7_insert_181 ?_
                          refine ji_putE (ci := 7) (k := 10) rfl dX7_insert_182 lX7_71 (by decide) (cl_0h) (by simp [cl_c0]) (ji_fitZ (by first | omega | decide)) rfl (cl_ps) ?_
                          refine ji_aload_n dX7_insert_185 rfl trivial ?_
                          refine ji_get (ci := 7) (k := 5) rfl dX7_insert_186 lX7_41 (by decide) (cl_0h) rfl ?_
                          refine ji_iload_n dX7_insert_189 rfl ?_
                          refine ji_cV dX7_insert_190 (k_Book_wordsOf (hbn2.kept cl_kf) hB (by omega)) rfl ((cl_dh hbd').trans hb0') rfl rfl wX0_wordsOf vX0_wordsOf lX7_273 rfl (Nat.le_of_ble_eq_true rfl) rfl ?_
                          exact ji_ireturn dX7_insert_193 rfl (rfl) ⟨g, b2, rfl, rfl, cl_up.trans hkp, hbn2⟩
                      · try (exfalso; omega)
                        all_goals
                          refine ji_aload_n dX7_insert_122 rfl trivial ?_
                          refine ji_get (ci := 7) (k := 0) rfl dX7_insert_123 lX7_12 (by decide) (cl_0h) rfl ?_
                          refine ji_iconst dX7_insert_126 ?_
                          refine ji_iconst dX7_insert_127 ?_
                          refine ji_callV dX7_insert_128 (c_padded (I := in_W I 0) c1 c2 (by omega) (by omega)) rfl (cl_1h) rfl rfl wX2_padded vX2_padded lX7_293 rfl (Nat.le_of_ble_eq_true rfl) rfl (by omega) (by first | omega | exact Nat.le_refl _) (fun r8 h8 hq8 => ?_) (fun E8 h8 hq8 => by cases hq8.1)
                          obtain ⟨hq1, e9⟩ := hq8
                          cases hq1
                          subst e9
                          refine ji_goto (tgt := 143) dX7_insert_131 rfl ?_
                          refine ji_astore dX7_insert_143 (by decide) trivial rfl ?_
                          refine ji_aload_n dX7_insert_145 rfl trivial ?_
                          refine ji_aload_n dX7_insert_146 rfl trivial ?_
                          refine ji_get (ci := 7) (k := 5) rfl dX7_insert_147 lX7_41 (by decide) (cl_0h) rfl ?_
                          refine ji_iload_n dX7_insert_150 rfl ?_
                          refine ji_iload dX7_insert_151 rfl ?_
                          refine ji_aload dX7_insert_153 rfl trivial ?_
                          refine ji_callV dX7_insert_155 (k_Book_withInserted (xa := xa) (c := (1 + I.1 + 0).toNat) (co := (in_pd (in_W I 0) 1 0)) ((hbat.kept cl_up.1).kept cl_kf) hbok hv ((cl_dh (Or.inr c1)).trans (va_up_self _ _ _)) (show n < n + 1 by omega) (fun j => in_pd_b c2 j) (Nat.le_refl _) hym (by omega) (show 72 ≤ n + 1 by omega)) (by rw [hx1]; rfl) ((cl_dh hbd).trans hb01) rfl rfl wX0_withInserted vX0_withInserted lX7_297 rfl (Nat.le_of_ble_eq_true rfl) rfl (by omega) (by first | omega | exact Nat.le_refl _) (fun r8 h8 hq8 => ?_) (fun E8 h8 hq8 => by obtain ⟨w9, q, -⟩ := hq8; cases q)
                          obtain ⟨b2, hq1, hext, hbn⟩ := hq8
                          cases hq1
                          obtain ⟨g, e9, hkp⟩ := cl_extE (show 72 ≤ n + 1 by omega) hext
                          subst e9
                          have hbn2 := hbn.kept cl_fk
                          obtain ⟨bw2, bkq2, bfq2, hb0', -, -, -, ⟨hbd', -, -⟩, -⟩ := id hbn2
                          have hgn : g n = (.inr (.char, (1 + I.1 + 0).toNat, .inl (in_pd (in_W I 0) 1 0))) := (hkp.1.2 n (Or.inr c1) (show n < n + 1 by omega)).trans (va_up_self _ _ _)
                          refine ji_putE (ci := 7) (k := 5) rfl dX7_insert_158 lX7_41 (by decide) (cl_0h) (by simp [cl_c0]) (ji_fitO _ trivial) rfl (cl_pb) ?_
                          refine ji_aload_n dX7_insert_161 rfl trivial ?_
                          refine ji_get (ci := 7) (k := 6) rfl dX7_insert_162 lX7_48 (by decide) (cl_0h) rfl ?_
                          refine ji_iload dX7_insert_165 rfl ?_
                          refine ji_aload dX7_insert_167 rfl trivial ?_
                          refine ji_alen dX7_insert_169 ((cl_dh (Or.inr c1)).trans hgn) (fun cy => rfl) ?_
                          refine ji_cVv dX7_insert_170 (cl_jM (mk_og M (bk_end B p) (((1 + I.1 + 0).toNat : Nat) : Int)) (k_Marks_openGap (by omega) hr9 hJ9 hF9 hT9)) rfl (cl_12h) rfl rfl wX4_openGap vX4_openGap lX7_301 rfl (Nat.le_of_ble_eq_true rfl) rfl ?_
                          refine ji_aload_n dX7_insert_173 rfl trivial ?_
                          refine ji_get (ci := 7) (k := 0) rfl dX7_insert_174 lX7_12 (by decide) (cl_0h) rfl ?_
                          refine ji_cVv dX7_insert_177 (cl_jI (0, (in_W I 0).2) k_Input_empty) rfl (cl_1h) rfl rfl wX2_empty vX2_empty lX7_99 rfl (Nat.le_of_ble_eq_true rfl) rfl ?_
                          refine ji_aload_n dX7_insert_180 rfl trivial ?_
                          refine ji_iconst dX7_insert_181 ?_
                          refine ji_putE (ci := 7) (k := 10) rfl dX7_insert_182 lX7_71 (by decide) (cl_0h) (by simp [cl_c0]) (ji_fitZ (by first | omega | decide)) rfl (cl_ps) ?_
                          refine ji_aload_n dX7_insert_185 rfl trivial ?_
                          refine ji_get (ci := 7) (k := 5) rfl dX7_insert_186 lX7_41 (by decide) (cl_0h) rfl ?_
                          refine ji_iload_n dX7_insert_189 rfl ?_
                          refine ji_cV dX7_insert_190 (k_Book_wordsOf (hbn2.kept cl_kf) hB (by omega)) rfl ((cl_dh hbd').trans hb0') rfl rfl wX0_wordsOf vX0_wordsOf lX7_273 rfl (Nat.le_of_ble_eq_true rfl) rfl ?_
                          exact ji_ireturn dX7_insert_193 rfl (rfl) ⟨g, b2, rfl, rfl, cl_up.trans hkp, hbn2⟩
                  · try (exfalso; omega)
                    all_goals
                      refine ji_aload_n dX7_insert_95 rfl trivial ?_
                      refine ji_get (ci := 7) (k := 5) rfl dX7_insert_96 lX7_41 (by decide) (cl_0h) rfl ?_
                      refine ji_iload_n dX7_insert_99 rfl ?_
                      refine ji_cV dX7_insert_100 (k_Book_endOf (hbat.kept cl_kf) hbok (by omega)) rfl ((cl_dh hbd).trans hb0) rfl rfl wX0_endOf vX0_endOf lX7_287 rfl (Nat.le_of_ble_eq_true rfl) rfl ?_
                      refine ji_goto (tgt := 115) dX7_insert_103 rfl ?_
                      refine ji_istore dX7_insert_115 (by decide) rfl ?_
                      refine ji_iload dX7_insert_117 rfl ?_
                      refine ji_if_eq (tgt := 134) dX7_insert_119 rfl (by omega) (fun c119 => ?_) (fun c119 => ?_)
                      · try (exfalso; omega)
                        all_goals
                          refine ji_aload_n dX7_insert_134 rfl trivial ?_
                          refine ji_get (ci := 7) (k := 0) rfl dX7_insert_135 lX7_12 (by decide) (cl_0h) rfl ?_
                          refine ji_iconst dX7_insert_138 ?_
                          refine ji_iconst dX7_insert_139 ?_
                          refine ji_callV dX7_insert_140 (c_padded (I := in_W I 0) c1 c2 (by omega) (by omega)) rfl (cl_1h) rfl rfl wX2_padded vX2_padded lX7_293 rfl (Nat.le_of_ble_eq_true rfl) rfl (by omega) (by first | omega | exact Nat.le_refl _) (fun r8 h8 hq8 => ?_) (fun E8 h8 hq8 => by cases hq8.1)
                          obtain ⟨hq1, e9⟩ := hq8
                          cases hq1
                          subst e9
                          refine ji_astore dX7_insert_143 (by decide) trivial rfl ?_
                          refine ji_aload_n dX7_insert_145 rfl trivial ?_
                          refine ji_aload_n dX7_insert_146 rfl trivial ?_
                          refine ji_get (ci := 7) (k := 5) rfl dX7_insert_147 lX7_41 (by decide) (cl_0h) rfl ?_
                          refine ji_iload_n dX7_insert_150 rfl ?_
                          refine ji_iload dX7_insert_151 rfl ?_
                          refine ji_aload dX7_insert_153 rfl trivial ?_
                          refine ji_callV dX7_insert_155 (k_Book_withInserted (xa := xa) (c := (1 + I.1 + 0).toNat) (co := (in_pd (in_W I 0) 1 0)) ((hbat.kept cl_up.1).kept cl_kf) hbok hv ((cl_dh (Or.inr c1)).trans (va_up_self _ _ _)) (show n < n + 1 by omega) (fun j => in_pd_b c2 j) (Nat.le_refl _) hym (by omega) (show 72 ≤ n + 1 by omega)) (by rw [hx1]; rfl) ((cl_dh hbd).trans hb01) rfl rfl wX0_withInserted vX0_withInserted lX7_297 rfl (Nat.le_of_ble_eq_true rfl) rfl (by omega) (by first | omega | exact Nat.le_refl _) (fun r8 h8 hq8 => ?_) (fun E8 h8 hq8 => by obtain ⟨w9, q, -⟩ := hq8; cases q)
                          obtain ⟨b2, hq1, hext, hbn⟩ := hq8
                          cases hq1
                          obtain ⟨g, e9, hkp⟩ := cl_extE (show 72 ≤ n + 1 by omega) hext
                          subst e9
                          have hbn2 := hbn.kept cl_fk
                          obtain ⟨bw2, bkq2, bfq2, hb0', -, -, -, ⟨hbd', -, -⟩, -⟩ := id hbn2
                          have hgn : g n = (.inr (.char, (1 + I.1 + 0).toNat, .inl (in_pd (in_W I 0) 1 0))) := (hkp.1.2 n (Or.inr c1) (show n < n + 1 by omega)).trans (va_up_self _ _ _)
                          refine ji_putE (ci := 7) (k := 5) rfl dX7_insert_158 lX7_41 (by decide) (cl_0h) (by simp [cl_c0]) (ji_fitO _ trivial) rfl (cl_pb) ?_
                          refine ji_aload_n dX7_insert_161 rfl trivial ?_
                          refine ji_get (ci := 7) (k := 6) rfl dX7_insert_162 lX7_48 (by decide) (cl_0h) rfl ?_
                          refine ji_iload dX7_insert_165 rfl ?_
                          refine ji_aload dX7_insert_167 rfl trivial ?_
                          refine ji_alen dX7_insert_169 ((cl_dh (Or.inr c1)).trans hgn) (fun cy => rfl) ?_
                          refine ji_cVv dX7_insert_170 (cl_jM (mk_og M (bk_end B p) (((1 + I.1 + 0).toNat : Nat) : Int)) (k_Marks_openGap (by omega) hr9 hJ9 hF9 hT9)) rfl (cl_12h) rfl rfl wX4_openGap vX4_openGap lX7_301 rfl (Nat.le_of_ble_eq_true rfl) rfl ?_
                          refine ji_aload_n dX7_insert_173 rfl trivial ?_
                          refine ji_get (ci := 7) (k := 0) rfl dX7_insert_174 lX7_12 (by decide) (cl_0h) rfl ?_
                          refine ji_cVv dX7_insert_177 (cl_jI (0, (in_W I 0).2) k_Input_empty) rfl (cl_1h) rfl rfl wX2_empty vX2_empty lX7_99 rfl (Nat.le_of_ble_eq_true rfl) rfl ?_
                          refine ji_aload_n dX7_insert_180 rfl trivial ?_
                          refine ji_iconst dX7_insert_181 ?_
                          refine ji_putE (ci := 7) (k := 10) rfl dX7_insert_182 lX7_71 (by decide) (cl_0h) (by simp [cl_c0]) (ji_fitZ (by first | omega | decide)) rfl (cl_ps) ?_
                          refine ji_aload_n dX7_insert_185 rfl trivial ?_
                          refine ji_get (ci := 7) (k := 5) rfl dX7_insert_186 lX7_41 (by decide) (cl_0h) rfl ?_
                          refine ji_iload_n dX7_insert_189 rfl ?_
                          refine ji_cV dX7_insert_190 (k_Book_wordsOf (hbn2.kept cl_kf) hB (by omega)) rfl ((cl_dh hbd').trans hb0') rfl rfl wX0_wordsOf vX0_wordsOf lX7_273 rfl (Nat.le_of_ble_eq_true rfl) rfl ?_
                          exact ji_ireturn dX7_insert_193 rfl (rfl) ⟨g, b2, rfl, rfl, cl_up.trans hkp, hbn2⟩
                      · try (exfalso; omega)
                        all_goals
                          refine ji_aload_n dX7_insert_122 rfl trivial ?_
                          refine ji_get (ci := 7) (k := 0) rfl dX7_insert_123 lX7_12 (by decide) (cl_0h) rfl ?_
                          refine ji_iconst dX7_insert_126 ?_
                          refine ji_iconst dX7_insert_127 ?_
                          refine ji_callV dX7_insert_128 (c_padded (I := in_W I 0) c1 c2 (by omega) (by omega)) rfl (cl_1h) rfl rfl wX2_padded vX2_padded lX7_293 rfl (Nat.le_of_ble_eq_true rfl) rfl (by omega) (by first | omega | exact Nat.le_refl _) (fun r8 h8 hq8 => ?_) (fun E8 h8 hq8 => by cases hq8.1)
                          obtain ⟨hq1, e9⟩ := hq8
                          cases hq1
                          subst e9
                          refine ji_goto (tgt := 143) dX7_insert_131 rfl ?_
                          refine ji_astore dX7_insert_143 (by decide) trivial rfl ?_
                          refine ji_aload_n dX7_insert_145 rfl trivial ?_
                          refine ji_aload_n dX7_insert_146 rfl trivial ?_
                          refine ji_get (ci := 7) (k := 5) rfl dX7_insert_147 lX7_41 (by decide) (cl_0h) rfl ?_
                          refine ji_iload_n dX7_insert_150 rfl ?_
                          refine ji_iload dX7_insert_151 rfl ?_
                          refine ji_aload dX7_insert_153 rfl trivial ?_
                          refine ji_callV dX7_insert_155 (k_Book_withInserted (xa := xa) (c := (1 + I.1 + 0).toNat) (co := (in_pd (in_W I 0) 1 0)) ((hbat.kept cl_up.1).kept cl_kf) hbok hv ((cl_dh (Or.inr c1)).trans (va_up_self _ _ _)) (show n < n + 1 by omega) (fun j => in_pd_b c2 j) (Nat.le_refl _) hym (by omega) (show 72 ≤ n + 1 by omega)) (by rw [hx1]; rfl) ((cl_dh hbd).trans hb01) rfl rfl wX0_withInserted vX0_withInserted lX7_297 rfl (Nat.le_of_ble_eq_true rfl) rfl (by omega) (by first | omega | exact Nat.le_refl _) (fun r8 h8 hq8 => ?_) (fun E8 h8 hq8 => by obtain ⟨w9, q, -⟩ := hq8; cases q)
                          obtain ⟨b2, hq1, hext, hbn⟩ := hq8
                          cases hq1
                          obtain ⟨g, e9, hkp⟩ := cl_extE (show 72 ≤ n + 1 by omega) hext
                          subst e9
                          have hbn2 := hbn.kept cl_fk
                          obtain ⟨bw2, bkq2, bfq2, hb0', -, -, -, ⟨hbd', -, -⟩, -⟩ := id hbn2
                          have hgn : g n = (.inr (.char, (1 + I.1 + 0).toNat, .inl (in_pd (in_W I 0) 1 0))) := (hkp.1.2 n (Or.inr c1) (show n < n + 1 by omega)).trans (va_up_self _ _ _)
                          refine ji_putE (ci := 7) (k := 5) rfl dX7_insert_158 lX7_41 (by decide) (cl_0h) (by simp [cl_c0]) (ji_fitO _ trivial) rfl (cl_pb) ?_
                          refine ji_aload_n dX7_insert_161 rfl trivial ?_
                          refine ji_get (ci := 7) (k := 6) rfl dX7_insert_162 lX7_48 (by decide) (cl_0h) rfl ?_
                          refine ji_iload dX7_insert_165 rfl ?_
                          refine ji_aload dX7_insert_167 rfl trivial ?_
                          refine ji_alen dX7_insert_169 ((cl_dh (Or.inr c1)).trans hgn) (fun cy => rfl) ?_
                          refine ji_cVv dX7_insert_170 (cl_jM (mk_og M (bk_end B p) (((1 + I.1 + 0).toNat : Nat) : Int)) (k_Marks_openGap (by omega) hr9 hJ9 hF9 hT9)) rfl (cl_12h) rfl rfl wX4_openGap vX4_openGap lX7_301 rfl (Nat.le_of_ble_eq_true rfl) rfl ?_
                          refine ji_aload_n dX7_insert_173 rfl trivial ?_
                          refine ji_get (ci := 7) (k := 0) rfl dX7_insert_174 lX7_12 (by decide) (cl_0h) rfl ?_
                          refine ji_cVv dX7_insert_177 (cl_jI (0, (in_W I 0).2) k_Input_empty) rfl (cl_1h) rfl rfl wX2_empty vX2_empty lX7_99 rfl (Nat.le_of_ble_eq_true rfl) rfl ?_
                          refine ji_aload_n dX7_insert_180 rfl trivial ?_
                          refine ji_iconst dX7_insert_181 ?_
                          refine ji_putE (ci := 7) (k := 10) rfl dX7_insert_182 lX7_71 (by decide) (cl_0h) (by simp [cl_c0]) (ji_fitZ (by first | omega | decide)) rfl (cl_ps) ?_
                          refine ji_aload_n dX7_insert_185 rfl trivial ?_
                          refine ji_get (ci := 7) (k := 5) rfl dX7_insert_186 lX7_41 (by decide) (cl_0h) rfl ?_
                          refine ji_iload_n dX7_insert_189 rfl ?_
                          refine ji_cV dX7_insert_190 (k_Book_wordsOf (hbn2.kept cl_kf) hB (by omega)) rfl ((cl_dh hbd').trans hb0') rfl rfl wX0_wordsOf vX0_wordsOf lX7_273 rfl (Nat.le_of_ble_eq_true rfl) rfl ?_
                          exact ji_ireturn dX7_insert_193 rfl (rfl) ⟨g, b2, rfl, rfl, cl_up.trans hkp, hbn2⟩
              · try (exfalso; omega)
                all_goals
                  refine ji_iconst dX7_insert_83 ?_
                  refine ji_goto (tgt := 88) dX7_insert_84 rfl ?_
                  refine ji_istore dX7_insert_88 (by decide) rfl ?_
                  refine ji_iload dX7_insert_90 rfl ?_
                  refine ji_if_eq (tgt := 106) dX7_insert_92 rfl (by omega) (fun c92 => ?_) (fun c92 => ?_)
                  · try (exfalso; omega)
                    all_goals
                      refine ji_aload_n dX7_insert_106 rfl trivial ?_
                      refine ji_get (ci := 7) (k := 5) rfl dX7_insert_107 lX7_41 (by decide) (cl_0h) rfl ?_
                      refine ji_iload_n dX7_insert_110 rfl ?_
                      refine ji_iload_n dX7_insert_111 rfl ?_
                      refine ji_cV dX7_insert_112 (k_Book_placeOfWord (hbat.kept cl_kf) hbok (by omega) (by omega)) rfl ((cl_dh hbd).trans hb0) rfl rfl wX0_placeOfWord vX0_placeOfWord lX7_290 rfl (Nat.le_of_ble_eq_true rfl) rfl ?_
                      refine ji_istore dX7_insert_115 (by decide) rfl ?_
                      refine ji_iload dX7_insert_117 rfl ?_
                      refine ji_if_eq (tgt := 134) dX7_insert_119 rfl (by omega) (fun c119 => ?_) (fun c119 => ?_)
                      · try (exfalso; omega)
                        all_goals
                          refine ji_aload_n dX7_insert_134 rfl trivial ?_
                          refine ji_get (ci := 7) (k := 0) rfl dX7_insert_135 lX7_12 (by decide) (cl_0h) rfl ?_
                          refine ji_iconst dX7_insert_138 ?_
                          refine ji_iconst dX7_insert_139 ?_
                          refine ji_callV dX7_insert_140 (c_padded (I := in_W I 0) c1 c2 (by omega) (by omega)) rfl (cl_1h) rfl rfl wX2_padded vX2_padded lX7_293 rfl (Nat.le_of_ble_eq_true rfl) rfl (by omega) (by first | omega | exact Nat.le_refl _) (fun r8 h8 hq8 => ?_) (fun E8 h8 hq8 => by cases hq8.1)
                          obtain ⟨hq1, e9⟩ := hq8
                          cases hq1
                          subst e9
                          refine ji_astore dX7_insert_143 (by decide) trivial rfl ?_
                          refine ji_aload_n dX7_insert_145 rfl trivial ?_
                          refine ji_aload_n dX7_insert_146 rfl trivial ?_
                          refine ji_get (ci := 7) (k := 5) rfl dX7_insert_147 lX7_41 (by decide) (cl_0h) rfl ?_
                          refine ji_iload_n dX7_insert_150 rfl ?_
                          refine ji_iload dX7_insert_151 rfl ?_
                          refine ji_aload dX7_insert_153 rfl trivial ?_
                          refine ji_callV dX7_insert_155 (k_Book_withInserted (xa := xa) (c := (1 + I.1 + 0).toNat) (co := (in_pd (in_W I 0) 1 0)) ((hbat.kept cl_up.1).kept cl_kf) hbok hv ((cl_dh (Or.inr c1)).trans (va_up_self _ _ _)) (show n < n + 1 by omega) (fun j => in_pd_b c2 j) (Nat.le_refl _) hym (by omega) (show 72 ≤ n + 1 by omega)) (by rw [hx1]; rfl) ((cl_dh hbd).trans hb01) rfl rfl wX0_withInserted vX0_withInserted lX7_297 rfl (Nat.le_of_ble_eq_true rfl) rfl (by omega) (by first | omega | exact Nat.le_refl _) (fun r8 h8 hq8 => ?_) (fun E8 h8 hq8 => by obtain ⟨w9, q, -⟩ := hq8; cases q)
                          obtain ⟨b2, hq1, hext, hbn⟩ := hq8
                          cases hq1
                          obtain ⟨g, e9, hkp⟩ := cl_extE (show 72 ≤ n + 1 by omega) hext
                          subst e9
                          have hbn2 := hbn.kept cl_fk
                          obtain ⟨bw2, bkq2, bfq2, hb0', -, -, -, ⟨hbd', -, -⟩, -⟩ := id hbn2
                          have hgn : g n = (.inr (.char, (1 + I.1 + 0).toNat, .inl (in_pd (in_W I 0) 1 0))) := (hkp.1.2 n (Or.inr c1) (show n < n + 1 by omega)).trans (va_up_self _ _ _)
                          refine ji_putE (ci := 7) (k := 5) rfl dX7_insert_158 lX7_41 (by decide) (cl_0h) (by simp [cl_c0]) (ji_fitO _ trivial) rfl (cl_pb) ?_
                          refine ji_aload_n dX7_insert_161 rfl trivial ?_
                          refine ji_get (ci := 7) (k := 6) rfl dX7_insert_162 lX7_48 (by decide) (cl_0h) rfl ?_
                          refine ji_iload dX7_insert_165 rfl ?_
                          refine ji_aload dX7_insert_167 rfl trivial ?_
                          refine ji_alen dX7_insert_169 ((cl_dh (Or.inr c1)).trans hgn) (fun cy => rfl) ?_
                          refine ji_cVv dX7_insert_170 (cl_jM (mk_og M (bk_end B p) (((1 + I.1 + 0).toNat : Nat) : Int)) (k_Marks_openGap (by omega) hr9 hJ9 hF9 hT9)) rfl (cl_12h) rfl rfl wX4_openGap vX4_openGap lX7_301 rfl (Nat.le_of_ble_eq_true rfl) rfl ?_
                          refine ji_aload_n dX7_insert_173 rfl trivial ?_
                          refine ji_get (ci := 7) (k := 0) rfl dX7_insert_174 lX7_12 (by decide) (cl_0h) rfl ?_
                          refine ji_cVv dX7_insert_177 (cl_jI (0, (in_W I 0).2) k_Input_empty) rfl (cl_1h) rfl rfl wX2_empty vX2_empty lX7_99 rfl (Nat.le_of_ble_eq_true rfl) rfl ?_
                          refine ji_aload_n dX7_insert_180 rfl trivial ?_
                          refine ji_iconst dX7_insert_181 ?_
                          refine ji_putE (ci := 7) (k := 10) rfl dX7_insert_182 lX7_71 (by decide) (cl_0h) (by simp [cl_c0]) (ji_fitZ (by first | omega | decide)) rfl (cl_ps) ?_
                          refine ji_aload_n dX7_insert_185 rfl trivial ?_
                          refine ji_get (ci := 7) (k := 5) rfl dX7_insert_186 lX7_41 (by decide) (cl_0h) rfl ?_
                          refine ji_iload_n dX7_insert_189 rfl ?_
                          refine ji_cV dX7_insert_190 (k_Book_wordsOf (hbn2.kept cl_kf) hB (by omega)) rfl ((cl_dh hbd').trans hb0') rfl rfl wX0_wordsOf vX0_wordsOf lX7_273 rfl (Nat.le_of_ble_eq_true rfl) rfl ?_
                          exact ji_ireturn dX7_insert_193 rfl (rfl) ⟨g, b2, rfl, rfl, cl_up.trans hkp, hbn2⟩
                      · try (exfalso; omega)
                        all_goals
                          refine ji_aload_n dX7_insert_122 rfl trivial ?_
                          refine ji_get (ci := 7) (k := 0) rfl dX7_insert_123 lX7_12 (by decide) (cl_0h) rfl ?_
                          refine ji_iconst dX7_insert_126 ?_
                          refine ji_iconst dX7_insert_127 ?_
                          refine ji_callV dX7_insert_128 (c_padded (I := in_W I 0) c1 c2 (by omega) (by omega)) rfl (cl_1h) rfl rfl wX2_padded vX2_padded lX7_293 rfl (Nat.le_of_ble_eq_true rfl) rfl (by omega) (by first | omega | exact Nat.le_refl _) (fun r8 h8 hq8 => ?_) (fun E8 h8 hq8 => by cases hq8.1)
                          obtain ⟨hq1, e9⟩ := hq8
                          cases hq1
                          subst e9
                          refine ji_goto (tgt := 143) dX7_insert_131 rfl ?_
                          refine ji_astore dX7_insert_143 (by decide) trivial rfl ?_
                          refine ji_aload_n dX7_insert_145 rfl trivial ?_
                          refine ji_aload_n dX7_insert_146 rfl trivial ?_
                          refine ji_get (ci := 7) (k := 5) rfl dX7_insert_147 lX7_41 (by decide) (cl_0h) rfl ?_
                          refine ji_iload_n dX7_insert_150 rfl ?_
                          refine ji_iload dX7_insert_151 rfl ?_
                          refine ji_aload dX7_insert_153 rfl trivial ?_
                          refine ji_callV dX7_insert_155 (k_Book_withInserted (xa := xa) (c := (1 + I.1 + 0).toNat) (co := (in_pd (in_W I 0) 1 0)) ((hbat.kept cl_up.1).kept cl_kf) hbok hv ((cl_dh (Or.inr c1)).trans (va_up_self _ _ _)) (show n < n + 1 by omega) (fun j => in_pd_b c2 j) (Nat.le_refl _) hym (by omega) (show 72 ≤ n + 1 by omega)) (by rw [hx1]; rfl) ((cl_dh hbd).trans hb01) rfl rfl wX0_withInserted vX0_withInserted lX7_297 rfl (Nat.le_of_ble_eq_true rfl) rfl (by omega) (by first | omega | exact Nat.le_refl _) (fun r8 h8 hq8 => ?_) (fun E8 h8 hq8 => by obtain ⟨w9, q, -⟩ := hq8; cases q)
                          obtain ⟨b2, hq1, hext, hbn⟩ := hq8
                          cases hq1
                          obtain ⟨g, e9, hkp⟩ := cl_extE (show 72 ≤ n + 1 by omega) hext
                          subst e9
                          have hbn2 := hbn.kept cl_fk
                          obtain ⟨bw2, bkq2, bfq2, hb0', -, -, -, ⟨hbd', -, -⟩, -⟩ := id hbn2
                          have hgn : g n = (.inr (.char, (1 + I.1 + 0).toNat, .inl (in_pd (in_W I 0) 1 0))) := (hkp.1.2 n (Or.inr c1) (show n < n + 1 by omega)).trans (va_up_self _ _ _)
                          refine ji_putE (ci := 7) (k := 5) rfl dX7_insert_158 lX7_41 (by decide) (cl_0h) (by simp [cl_c0]) (ji_fitO _ trivial) rfl (cl_pb) ?_
                          refine ji_aload_n dX7_insert_161 rfl trivial ?_
                          refine ji_get (ci := 7) (k := 6) rfl dX7_insert_162 lX7_48 (by decide) (cl_0h) rfl ?_
                          refine ji_iload dX7_insert_165 rfl ?_
                          refine ji_aload dX7_insert_167 rfl trivial ?_
                          refine ji_alen dX7_insert_169 ((cl_dh (Or.inr c1)).trans hgn) (fun cy => rfl) ?_
                          refine ji_cVv dX7_insert_170 (cl_jM (mk_og M (bk_end B p) (((1 + I.1 + 0).toNat : Nat) : Int)) (k_Marks_openGap (by omega) hr9 hJ9 hF9 hT9)) rfl (cl_12h) rfl rfl wX4_openGap vX4_openGap lX7_301 rfl (Nat.le_of_ble_eq_true rfl) rfl ?_
                          refine ji_aload_n dX7_insert_173 rfl trivial ?_
                          refine ji_get (ci := 7) (k := 0) rfl dX7_insert_174 lX7_12 (by decide) (cl_0h) rfl ?_
                          refine ji_cVv dX7_insert_177 (cl_jI (0, (in_W I 0).2) k_Input_empty) rfl (cl_1h) rfl rfl wX2_empty vX2_empty lX7_99 rfl (Nat.le_of_ble_eq_true rfl) rfl ?_
                          refine ji_aload_n dX7_insert_180 rfl trivial ?_
                          refine ji_iconst dX7_insert_181 ?_
                          refine ji_putE (ci := 7) (k := 10) rfl dX7_insert_182 lX7_71 (by decide) (cl_0h) (by simp [cl_c0]) (ji_fitZ (by first | omega | decide)) rfl (cl_ps) ?_
                          refine ji_aload_n dX7_insert_185 rfl trivial ?_
                          refine ji_get (ci := 7) (k := 5) rfl dX7_insert_186 lX7_41 (by decide) (cl_0h) rfl ?_
                          refine ji_iload_n dX7_insert_189 rfl ?_
                          refine ji_cV dX7_insert_190 (k_Book_wordsOf (hbn2.kept cl_kf) hB (by omega)) rfl ((cl_dh hbd').trans hb0') rfl rfl wX0_wordsOf vX0_wordsOf lX7_273 rfl (Nat.le_of_ble_eq_true rfl) rfl ?_
                          exact ji_ireturn dX7_insert_193 rfl (rfl) ⟨g, b2, rfl, rfl, cl_up.trans hkp, hbn2⟩
                  · try (exfalso; omega)
                    all_goals
                      refine ji_aload_n dX7_insert_95 rfl trivial ?_
                      refine ji_get (ci := 7) (k := 5) rfl dX7_insert_96 lX7_41 (by decide) (cl_0h) rfl ?_
                      refine ji_iload_n dX7_insert_99 rfl ?_
                      refine ji_cV dX7_insert_100 (k_Book_endOf (hbat.kept cl_kf) hbok (by omega)) rfl ((cl_dh hbd).trans hb0) rfl rfl wX0_endOf vX0_endOf lX7_287 rfl (Nat.le_of_ble_eq_true rfl) rfl ?_
                      refine ji_goto (tgt := 115) dX7_insert_103 rfl ?_
                      refine ji_istore dX7_insert_115 (by decide) rfl ?_
                      refine ji_iload dX7_insert_117 rfl ?_
                      refine ji_if_eq (tgt := 134) dX7_insert_119 rfl (by omega) (fun c119 => ?_) (fun c119 => ?_)
                      · try (exfalso; omega)
                        all_goals
                          refine ji_aload_n dX7_insert_134 rfl trivial ?_
                          refine ji_get (ci := 7) (k := 0) rfl dX7_insert_135 lX7_12 (by decide) (cl_0h) rfl ?_
                          refine ji_iconst dX7_insert_138 ?_
                          refine ji_iconst dX7_insert_139 ?_
                          refine ji_callV dX7_insert_140 (c_padded (I := in_W I 0) c1 c2 (by omega) (by omega)) rfl (cl_1h) rfl rfl wX2_padded vX2_padded lX7_293 rfl (Nat.le_of_ble_eq_true rfl) rfl (by omega) (by first | omega | exact Nat.le_refl _) (fun r8 h8 hq8 => ?_) (fun E8 h8 hq8 => by cases hq8.1)
                          obtain ⟨hq1, e9⟩ := hq8
                          cases hq1
                          subst e9
                          refine ji_astore dX7_insert_143 (by decide) trivial rfl ?_
                          refine ji_aload_n dX7_insert_145 rfl trivial ?_
                          refine ji_aload_n dX7_insert_146 rfl trivial ?_
                          refine ji_get (ci := 7) (k := 5) rfl dX7_insert_147 lX7_41 (by decide) (cl_0h) rfl ?_
                          refine ji_iload_n dX7_insert_150 rfl ?_
                          refine ji_iload dX7_insert_151 rfl ?_
                          refine ji_aload dX7_insert_153 rfl trivial ?_
                          refine ji_callV dX7_insert_155 (k_Book_withInserted (xa := xa) (c := (1 + I.1 + 0).toNat) (co := (in_pd (in_W I 0) 1 0)) ((hbat.kept cl_up.1).kept cl_kf) hbok hv ((cl_dh (Or.inr c1)).trans (va_up_self _ _ _)) (show n < n + 1 by omega) (fun j => in_pd_b c2 j) (Nat.le_refl _) hym (by omega) (show 72 ≤ n + 1 by omega)) (by rw [hx1]; rfl) ((cl_dh hbd).trans hb01) rfl rfl wX0_withInserted vX0_withInserted lX7_297 rfl (Nat.le_of_ble_eq_true rfl) rfl (by omega) (by first | omega | exact Nat.le_refl _) (fun r8 h8 hq8 => ?_) (fun E8 h8 hq8 => by obtain ⟨w9, q, -⟩ := hq8; cases q)
                          obtain ⟨b2, hq1, hext, hbn⟩ := hq8
                          cases hq1
                          obtain ⟨g, e9, hkp⟩ := cl_extE (show 72 ≤ n + 1 by omega) hext
                          subst e9
                          have hbn2 := hbn.kept cl_fk
                          obtain ⟨bw2, bkq2, bfq2, hb0', -, -, -, ⟨hbd', -, -⟩, -⟩ := id hbn2
                          have hgn : g n = (.inr (.char, (1 + I.1 + 0).toNat, .inl (in_pd (in_W I 0) 1 0))) := (hkp.1.2 n (Or.inr c1) (show n < n + 1 by omega)).trans (va_up_self _ _ _)
                          refine ji_putE (ci := 7) (k := 5) rfl dX7_insert_158 lX7_41 (by decide) (cl_0h) (by simp [cl_c0]) (ji_fitO _ trivial) rfl (cl_pb) ?_
                          refine ji_aload_n dX7_insert_161 rfl trivial ?_
                          refine ji_get (ci := 7) (k := 6) rfl dX7_insert_162 lX7_48 (by decide) (cl_0h) rfl ?_
                          refine ji_iload dX7_insert_165 rfl ?_
                          refine ji_aload dX7_insert_167 rfl trivial ?_
                          refine ji_alen dX7_insert_169 ((cl_dh (Or.inr c1)).trans hgn) (fun cy => rfl) ?_
                          refine ji_cVv dX7_insert_170 (cl_jM (mk_og M (bk_end B p) (((1 + I.1 + 0).toNat : Nat) : Int)) (k_Marks_openGap (by omega) hr9 hJ9 hF9 hT9)) rfl (cl_12h) rfl rfl wX4_openGap vX4_openGap lX7_301 rfl (Nat.le_of_ble_eq_true rfl) rfl ?_
                          refine ji_aload_n dX7_insert_173 rfl trivial ?_
                          refine ji_get (ci := 7) (k := 0) rfl dX7_insert_174 lX7_12 (by decide) (cl_0h) rfl ?_
                          refine ji_cVv dX7_insert_177 (cl_jI (0, (in_W I 0).2) k_Input_empty) rfl (cl_1h) rfl rfl wX2_empty vX2_empty lX7_99 rfl (Nat.le_of_ble_eq_true rfl) rfl ?_
                          refine ji_aload_n dX7_insert_180 rfl trivial ?_
                          refine ji_iconst dX7_insert_181 ?_
                          refine ji_putE (ci := 7) (k := 10) rfl dX7_insert_182 lX7_71 (by decide) (cl_0h) (by simp [cl_c0]) (ji_fitZ (by first | omega | decide)) rfl (cl_ps) ?_
                          refine ji_aload_n dX7_insert_185 rfl trivial ?_
                          refine ji_get (ci := 7) (k := 5) rfl dX7_insert_186 lX7_41 (by decide) (cl_0h) rfl ?_
                          refine ji_iload_n dX7_insert_189 rfl ?_
                          refine ji_cV dX7_insert_190 (k_Book_wordsOf (hbn2.kept cl_kf) hB (by omega)) rfl ((cl_dh hbd').trans hb0') rfl rfl wX0_wordsOf vX0_wordsOf lX7_273 rfl (Nat.le_of_ble_eq_true rfl) rfl ?_
                          exact ji_ireturn dX7_insert_193 rfl (rfl) ⟨g, b2, rfl, rfl, cl_up.trans hkp, hbn2⟩
                      · try (exfalso; omega)
                        all_goals
                          refine ji_aload_n dX7_insert_122 rfl trivial ?_
                          refine ji_get (ci := 7) (k := 0) rfl dX7_insert_123 lX7_12 (by decide) (cl_0h) rfl ?_
                          refine ji_iconst dX7_insert_126 ?_
                          refine ji_iconst dX7_insert_127 ?_
                          refine ji_callV dX7_insert_128 (c_padded (I := in_W I 0) c1 c2 (by omega) (by omega)) rfl (cl_1h) rfl rfl wX2_padded vX2_padded lX7_293 rfl (Nat.le_of_ble_eq_true rfl) rfl (by omega) (by first | omega | exact Nat.le_refl _) (fun r8 h8 hq8 => ?_) (fun E8 h8 hq8 => by cases hq8.1)
                          obtain ⟨hq1, e9⟩ := hq8
                          cases hq1
                          subst e9
                          refine ji_goto (tgt := 143) dX7_insert_131 rfl ?_
                          refine ji_astore dX7_insert_143 (by decide) trivial rfl ?_
                          refine ji_aload_n dX7_insert_145 rfl trivial ?_
                          refine ji_aload_n dX7_insert_146 rfl trivial ?_
                          refine ji_get (ci := 7) (k := 5) rfl dX7_insert_147 lX7_41 (by decide) (cl_0h) rfl ?_
                          refine ji_iload_n dX7_insert_150 rfl ?_
                          refine ji_iload dX7_insert_151 rfl ?_
                          refine ji_aload dX7_insert_153 rfl trivial ?_
                          refine ji_callV dX7_insert_155 (k_Book_withInserted (xa := xa) (c := (1 + I.1 + 0).toNat) (co := (in_pd (in_W I 0) 1 0)) ((hbat.kept cl_up.1).kept cl_kf) hbok hv ((cl_dh (Or.inr c1)).trans (va_up_self _ _ _)) (show n < n + 1 by omega) (fun j => in_pd_b c2 j) (Nat.le_refl _) hym (by omega) (show 72 ≤ n + 1 by omega)) (by rw [hx1]; rfl) ((cl_dh hbd).trans hb01) rfl rfl wX0_withInserted vX0_withInserted lX7_297 rfl (Nat.le_of_ble_eq_true rfl) rfl (by omega) (by first | omega | exact Nat.le_refl _) (fun r8 h8 hq8 => ?_) (fun E8 h8 hq8 => by obtain ⟨w9, q, -⟩ := hq8; cases q)
                          obtain ⟨b2, hq1, hext, hbn⟩ := hq8
                          cases hq1
                          obtain ⟨g, e9, hkp⟩ := cl_extE (show 72 ≤ n + 1 by omega) hext
                          subst e9
                          have hbn2 := hbn.kept cl_fk
                          obtain ⟨bw2, bkq2, bfq2, hb0', -, -, -, ⟨hbd', -, -⟩, -⟩ := id hbn2
                          have hgn : g n = (.inr (.char, (1 + I.1 + 0).toNat, .inl (in_pd (in_W I 0) 1 0))) := (hkp.1.2 n (Or.inr c1) (show n < n + 1 by omega)).trans (va_up_self _ _ _)
                          refine ji_putE (ci := 7) (k := 5) rfl dX7_insert_158 lX7_41 (by decide) (cl_0h) (by simp [cl_c0]) (ji_fitO _ trivial) rfl (cl_pb) ?_
                          refine ji_aload_n dX7_insert_161 rfl trivial ?_
                          refine ji_get (ci := 7) (k := 6) rfl dX7_insert_162 lX7_48 (by decide) (cl_0h) rfl ?_
                          refine ji_iload dX7_insert_165 rfl ?_
                          refine ji_aload dX7_insert_167 rfl trivial ?_
                          refine ji_alen dX7_insert_169 ((cl_dh (Or.inr c1)).trans hgn) (fun cy => rfl) ?_
                          refine ji_cVv dX7_insert_170 (cl_jM (mk_og M (bk_end B p) (((1 + I.1 + 0).toNat : Nat) : Int)) (k_Marks_openGap (by omega) hr9 hJ9 hF9 hT9)) rfl (cl_12h) rfl rfl wX4_openGap vX4_openGap lX7_301 rfl (Nat.le_of_ble_eq_true rfl) rfl ?_
                          refine ji_aload_n dX7_insert_173 rfl trivial ?_
                          refine ji_get (ci := 7) (k := 0) rfl dX7_insert_174 lX7_12 (by decide) (cl_0h) rfl ?_
                          refine ji_cVv dX7_insert_177 (cl_jI (0, (in_W I 0).2) k_Input_empty) rfl (cl_1h) rfl rfl wX2_empty vX2_empty lX7_99 rfl (Nat.le_of_ble_eq_true rfl) rfl ?_
                          refine ji_aload_n dX7_insert_180 rfl trivial ?_
                          refine ji_iconst dX7_insert_181 ?_
                          refine ji_putE (ci := 7) (k := 10) rfl dX7_insert_182 lX7_71 (by decide) (cl_0h) (by simp [cl_c0]) (ji_fitZ (by first | omega | decide)) rfl (cl_ps) ?_
                          refine ji_aload_n dX7_insert_185 rfl trivial ?_
                          refine ji_get (ci := 7) (k := 5) rfl dX7_insert_186 lX7_41 (by decide) (cl_0h) rfl ?_
                          refine ji_iload_n dX7_insert_189 rfl ?_
                          refine ji_cV dX7_insert_190 (k_Book_wordsOf (hbn2.kept cl_kf) hB (by omega)) rfl ((cl_dh hbd').trans hb0') rfl rfl wX0_wordsOf vX0_wordsOf lX7_273 rfl (Nat.le_of_ble_eq_true rfl) rfl ?_
                          exact ji_ireturn dX7_insert_193 rfl (rfl) ⟨g, b2, rfl, rfl, cl_up.trans hkp, hbn2⟩
          · try (exfalso; omega)
            all_goals
              exact ji_throwW (text := "the paragraph would have more than 24 words") ji_thrS rfl (by decide) rfl dX7_insert_52 dX7_insert_55 dX7_insert_56 dX7_insert_59 dX7_insert_62 (by omega) (by omega) (Nat.le_of_ble_eq_true rfl) ⟨g, b2, rfl, rfl, cl_up.trans hkp, hbn2⟩
      · try (exfalso; omega)
        all_goals
          exact ji_throwW (text := "word is out of range") ji_thrI rfl (by decide) rfl dX7_insert_23 dX7_insert_26 dX7_insert_27 dX7_insert_30 dX7_insert_33 (by omega) (by omega) (Nat.le_of_ble_eq_true rfl) ⟨g, b2, rfl, rfl, cl_up.trans hkp, hbn2⟩

set_option maxHeartbeats 4000000 in
set_option maxRecDepth 100000 in
theorem k_insertF (hok : cl_ok n f I P M H Y Z B NT SB) {p xa : Nat} {m : Int} (hv : p < bk_P B) (hy : in_whole I.1 I.2.1 0 = 1) (hx : (bk_fw B ((p : Int) + 1) - bk_fw B p) + (in_tm I.2.1 32 I.1.toNat + 1) ≤ 24) (hm : 0 ≤ m ∧ m < (bk_fw B ((p : Int) + 1) - bk_fw B p)) (hx1 : bk_ws B (bk_fw B p + m) = xa) (hym : xa ≤ bk_m B) (h99 : bk_m B + 101 ≤ 9999) (hB : bk_ok (bk_spl B p xa xa (in_pd (in_W I 0) 0 1) (0 + I.1 + 1).toNat)) : JM G (d + 6) mX7_insert [.ref 0, .int (jI ((p : Int))), .int (jI (m))] (n, cl_f f I P M H Y Z) 6 ((0 + I.1 + 1).toNat + (bk_m B - (xa - xa) + (0 + I.1 + 1).toNat + 2 + (wd_cnt (wd_spl (bk_m B) (bk_tx B) (in_pd (in_W I 0) 0 1) xa xa (0 + I.1 + 1).toNat) (bk_m B - (xa - xa) + (0 + I.1 + 1).toNat) + 2) + (bk_P B + 1 + 3))) (fun r9 h9 => ∃ g b2, r9 = .inl (some (.int (jI (bk_fw (bk_spl B p xa xa (in_pd (in_W I 0) 0 1) (0 + I.1 + 1).toNat) ((p : Int) + 1) - bk_fw (bk_spl B p xa xa (in_pd (in_W I 0) 0 1) (0 + I.1 + 1).toNat) p)))) ∧ h9 = (n + 1 + 5, cl_f g (0, (in_W I 0).2) (P.1, P.2.1, P.2.2.1, P.2.2.2.1, b2, 1) (mk_og M (bk_ws B (bk_fw B p + m)) (((0 + I.1 + 1).toNat : Nat) : Int)) (hi_k H M P.2.2.2.2.1) Y Z) ∧ cl_kp (n, f) (n + 1 + 5, g) ∧ bk_at (n + 1 + 5, g) b2 (bk_spl B p xa xa (in_pd (in_W I 0) 0 1) (0 + I.1 + 1).toNat)) := by
  obtain ⟨c1, c2, c3, c4, c5, c6, c7, c8, c9, c10, c11, c12⟩ := id hok
  obtain ⟨⟨hm1, hm1'⟩, hm2, hm3, hmJ, hmF, hmT⟩ := id c8
  obtain ⟨hbat, hbok, hbne⟩ := id c6
  obtain ⟨bw, bkq, bfq, hb0, hb1, hb2, hbw, ⟨hbd, -, -⟩, -⟩ := id hbat
  obtain ⟨⟨hw1, hw2⟩, hh1, hh2⟩ := id c5
  have hP10 := hbok.2.1
  have wf0 := bk_fw_b hbok (p : Int)
  have wf1 := bk_fw_b hbok ((p : Int) + 1)
  have hr9 : -1000000 ≤ M.1 ∧ M.1 ≤ 1000000 := by omega
  have hJ9 : ∀ i, -1000000 ≤ M.2.2.2.1 i ∧ M.2.2.2.1 i ≤ 1000000 := fun i => by have := hmJ i; omega
  have hF9 : ∀ i, -1000000 ≤ M.2.2.2.2.1 i ∧ M.2.2.2.2.1 i ≤ 1000000 := fun i => by have := hmF i; omega
  have hT9 : ∀ i, -1000000 ≤ M.2.2.2.2.2.1 i ∧ M.2.2.2.2.2.1 i ≤ 1000000 := fun i => by have := hmT i; omega
  have htm := in_tm_b I.2.1 32 I.1.toNat
  have hlen := c2.1
  have htm2 : in_tm (in_W I 0).2.1 32 (in_W I 0).1.toNat = in_tm I.2.1 32 I.1.toNat := rfl
  have hl9 : (in_W I 0).1 = I.1 := rfl
  have hm9 := hbok.1.1
  have ww1 := bk_ws_b hbok (bk_fw B p + m)
  have ww3 := bk_en_b hbok (p : Int)
  have hblt : P.2.2.2.2.1 < n := by obtain ⟨_, _, _, _, _, _, _, _, q, _⟩ := hbat; exact q
  have hb01 : (va_up f n (.inr (.char, (0 + I.1 + 1).toNat, .inl (in_pd (in_W I 0) 0 1)))) P.2.2.2.2.1 = .inl (0, [.ref bw, .ref bkq, .ref bfq]) := (va_up_ne _ _ (by omega)).trans hb0
  refine ji_ent (by decide) rfl (Nat.le_of_ble_eq_true rfl) rfl ?_
  refine ji_aload_n dX7_insert_0 rfl trivial ?_
  refine ji_iload_n dX7_insert_1 rfl ?_
  refine ji_cVv dX7_insert_2 (k_checkParagraph hok (by omega) (by omega)) rfl (cl_0h) rfl rfl wX7_checkParagraph vX7_checkParagraph lX7_241 rfl (Nat.le_of_ble_eq_true rfl) rfl ?_
  refine ji_aload_n dX7_insert_5 rfl trivial ?_
  refine ji_get (ci := 7) (k := 5) rfl dX7_insert_6 lX7_41 (by decide) (cl_0h) rfl ?_
  refine ji_iload_n dX7_insert_9 rfl ?_
  refine ji_cV dX7_insert_10 (k_Book_wordsOf (hbat.kept cl_kf) hbok (by omega)) rfl ((cl_dh hbd).trans hb0) rfl rfl wX0_wordsOf vX0_wordsOf lX7_273 rfl (Nat.le_of_ble_eq_true rfl) rfl ?_
  refine ji_istore_n dX7_insert_13 (by decide) rfl ?_
  refine ji_iload_n dX7_insert_14 rfl ?_
  refine ji_if_lt (tgt := 23) dX7_insert_15 rfl (by omega) (fun c15 => ?_) (fun c15 => ?_)
  · try (exfalso; omega)
    all_goals
      exact ji_throwW (text := "word is out of range") ji_thrI rfl (by decide) rfl dX7_insert_23 dX7_insert_26 dX7_insert_27 dX7_insert_30 dX7_insert_33 (by omega) (by omega) (Nat.le_of_ble_eq_true rfl) ⟨g, b2, rfl, rfl, cl_up.trans hkp, hbn2⟩
  · try (exfalso; omega)
    all_goals
      refine ji_iload_n dX7_insert_18 rfl ?_
      refine ji_iload_n dX7_insert_19 rfl ?_
      refine ji_icmp_le (tgt := 34) dX7_insert_20 rfl (by omega) (by omega) (fun c20 => ?_) (fun c20 => ?_)
      · try (exfalso; omega)
        all_goals
          refine ji_aload_n dX7_insert_34 rfl trivial ?_
          refine ji_cVv dX7_insert_35 (k_checkWordList hok hy) rfl (cl_0h) rfl rfl wX7_checkWordList vX7_checkWordList lX7_129 rfl (Nat.le_of_ble_eq_true rfl) rfl ?_
          refine ji_iload_n dX7_insert_38 rfl ?_
          refine ji_aload_n dX7_insert_39 rfl trivial ?_
          refine ji_get (ci := 7) (k := 0) rfl dX7_insert_40 lX7_12 (by decide) (cl_0h) rfl ?_
          refine ji_cV dX7_insert_43 (cl_jIs (I := in_W I 0) (k_Input_wordsOfList c2)) rfl (cl_1h) rfl rfl wX2_wordsOfList vX2_wordsOfList lX7_278 rfl (Nat.le_of_ble_eq_true rfl) rfl ?_
          refine ji_iadd dX7_insert_46 ?_
          refine ji_bipush dX7_insert_47 rfl ?_
          refine ji_icmp_le (tgt := 63) dX7_insert_49 rfl (by omega) (by omega) (fun c49 => ?_) (fun c49 => ?_)
          · try (exfalso; omega)
            all_goals
              refine ji_aload_n dX7_insert_63 rfl trivial ?_
              refine ji_get (ci := 7) (k := 7) rfl dX7_insert_64 lX7_55 (by decide) (cl_0h) rfl ?_
              refine ji_aload_n dX7_insert_67 rfl trivial ?_
              refine ji_get (ci := 7) (k := 5) rfl dX7_insert_68 lX7_41 (by decide) (cl_0h) rfl ?_
              refine ji_aload_n dX7_insert_71 rfl trivial ?_
              refine ji_get (ci := 7) (k := 6) rfl dX7_insert_72 lX7_48 (by decide) (cl_0h) rfl ?_
              refine ji_cVv dX7_insert_75 (c_keep c9 hb0 hbd) rfl (cl_17h) rfl rfl wX1_keep vX1_keep lX7_283 rfl (Nat.le_of_ble_eq_true rfl) rfl ?_
              refine ji_iload_n dX7_insert_78 rfl ?_
              refine ji_iload_n dX7_insert_79 rfl ?_
              refine ji_icmp_ne (tgt := 87) dX7_insert_80 rfl (by omega) (by omega) (fun c80 => ?_) (fun c80 => ?_)
              · try (exfalso; omega)
                all_goals
                  refine ji_iconst dX7_insert_87 ?_
                  refine ji_istore dX7_insert_88 (by decide) rfl ?_
                  refine ji_iload dX7_insert_90 rfl ?_
                  refine ji_if_eq (tgt := 106) dX7_insert_92 rfl (by omega) (fun c92 => ?_) (fun c92 => ?_)
                  · try (exfalso; omega)
                    all_goals
                      refine ji_aload_n dX7_insert_106 rfl trivial ?_
                      refine ji_get (ci := 7) (k := 5) rfl dX7_insert_107 lX7_41 (by decide) (cl_0h) rfl ?_
                      refine ji_iload_n dX7_insert_110 rfl ?_
                      refine ji_iload_n dX7_insert_111 rfl ?_
                      refine ji_cV dX7_insert_112 (k_Book_placeOfWord (hbat.kept cl_kf) hbok (by omega) (by omega)) rfl ((cl_dh hbd).trans hb0) rfl rfl wX0_placeOfWord vX0_placeOfWord lX7_290 rfl (Nat.le_of_ble_eq_true rfl) rfl ?_
                      refine ji_istore dX7_insert_115 (by decide) rfl ?_
                      refine ji_iload dX7_insert_117 rfl ?_
                      refine ji_if_eq (tgt := 134) dX7_insert_119 rfl (by omega) (fun c119 => ?_) (fun c119 => ?_)
                      · try (exfalso; omega)
                        all_goals
                          refine ji_aload_n dX7_insert_134 rfl trivial ?_
                          refine ji_get (ci := 7) (k := 0) rfl dX7_insert_135 lX7_12 (by decide) (cl_0h) rfl ?_
                          refine ji_iconst dX7_insert_138 ?_
                          refine ji_iconst dX7_insert_139 ?_
                          refine ji_callV dX7_insert_140 (c_padded (I := in_W I 0) c1 c2 (by omega) (by omega)) rfl (cl_1h) rfl rfl wX2_padded vX2_padded lX7_293 rfl (Nat.le_of_ble_eq_true rfl) rfl (by omega) (by first | omega | exact Nat.le_refl _) (fun r8 h8 hq8 => ?_) (fun E8 h8 hq8 => by cases hq8.1)
                          obtain ⟨hq1, e9⟩ := hq8
                          cases hq1
                          subst e9
                          refine ji_astore dX7_insert_143 (by decide) trivial rfl ?_
                          refine ji_aload_n dX7_insert_145 rfl trivial ?_
                          refine ji_aload_n dX7_insert_146 rfl trivial ?_
                          refine ji_get (ci := 7) (k := 5) rfl dX7_insert_147 lX7_41 (by decide) (cl_0h) rfl ?_
                          refine ji_iload_n dX7_insert_150 rfl ?_
                          refine ji_iload dX7_insert_151 rfl ?_
                          refine ji_aload dX7_insert_153 rfl trivial ?_
                          refine ji_callV dX7_insert_155 (k_Book_withInserted (xa := xa) (c := (0 + I.1 + 1).toNat) (co := (in_pd (in_W I 0) 0 1)) ((hbat.kept cl_up.1).kept cl_kf) hbok hv ((cl_dh (Or.inr c1)).trans (va_up_self _ _ _)) (show n < n + 1 by omega) (fun j => in_pd_b c2 j) (Nat.le_refl _) hym (by omega) (show 72 ≤ n + 1 by omega)) (by rw [hx1]; rfl) ((cl_dh hbd).trans hb01) rfl rfl wX0_withInserted vX0_withInserted lX7_297 rfl (Nat.le_of_ble_eq_true rfl) rfl (by omega) (by first | omega | exact Nat.le_refl _) (fun r8 h8 hq8 => ?_) (fun E8 h8 hq8 => by obtain ⟨w9, q, -⟩ := hq8; cases q)
                          obtain ⟨b2, hq1, hext, hbn⟩ := hq8
                          cases hq1
                          obtain ⟨g, e9, hkp⟩ := cl_extE (show 72 ≤ n + 1 by omega) hext
                          subst e9
                          have hbn2 := hbn.kept cl_fk
                          obtain ⟨bw2, bkq2, bfq2, hb0', -, -, -, ⟨hbd', -, -⟩, -⟩ := id hbn2
                          have hgn : g n = (.inr (.char, (0 + I.1 + 1).toNat, .inl (in_pd (in_W I 0) 0 1))) := (hkp.1.2 n (Or.inr c1) (show n < n + 1 by omega)).trans (va_up_self _ _ _)
                          refine ji_putE (ci := 7) (k := 5) rfl dX7_insert_158 lX7_41 (by decide) (cl_0h) (by simp [cl_c0]) (ji_fitO _ trivial) rfl (cl_pb) ?_
                          refine ji_aload_n dX7_insert_161 rfl trivial ?_
                          refine ji_get (ci := 7) (k := 6) rfl dX7_insert_162 lX7_48 (by decide) (cl_0h) rfl ?_
                          refine ji_iload dX7_insert_165 rfl ?_
                          refine ji_aload dX7_insert_167 rfl trivial ?_
                          refine ji_alen dX7_insert_169 ((cl_dh (Or.inr c1)).trans hgn) (fun cy => rfl) ?_
                          refine ji_cVv dX7_insert_170 (cl_jM (mk_og M (bk_ws B (bk_fw B p + m)) (((0 + I.1 + 1).toNat : Nat) : Int)) (k_Marks_openGap (by omega) hr9 hJ9 hF9 hT9)) rfl (cl_12h) rfl rfl wX4_openGap vX4_openGap lX7_301 rfl (Nat.le_of_ble_eq_true rfl) rfl ?_
                          refine ji_aload_n dX7_insert_173 rfl trivial ?_
                          refine ji_get (ci := 7) (k := 0) rfl dX7_insert_174 lX7_12 (by decide) (cl_0h) rfl ?_
                          refine ji_cVv dX7_insert_177 (cl_jI (0, (in_W I 0).2) k_Input_empty) rfl (cl_1h) rfl rfl wX2_empty vX2_empty lX7_99 rfl (Nat.le_of_ble_eq_true rfl) rfl ?_
                          refine ji_aload_n dX7_insert_180 rfl trivial ?_
                          refine ji_iconst dX7_insert_181 ?_
                          refine ji_putE (ci := 7) (k := 10) rfl dX7_insert_182 lX7_71 (by decide) (cl_0h) (by simp [cl_c0]) (ji_fitZ (by first | omega | decide)) rfl (cl_ps) ?_
                          refine ji_aload_n dX7_insert_185 rfl trivial ?_
                          refine ji_get (ci := 7) (k := 5) rfl dX7_insert_186 lX7_41 (by decide) (cl_0h) rfl ?_
                          refine ji_iload_n dX7_insert_189 rfl ?_
                          refine ji_cV dX7_insert_190 (k_Book_wordsOf (hbn2.kept cl_kf) hB (by omega)) rfl ((cl_dh hbd').trans hb0') rfl rfl wX0_wordsOf vX0_wordsOf lX7_273 rfl (Nat.le_of_ble_eq_true rfl) rfl ?_
                          exact ji_ireturn dX7_insert_193 rfl (rfl) ⟨g, b2, rfl, rfl, cl_up.trans hkp, hbn2⟩
                      · try (exfalso; omega)
                        all_goals
                          refine ji_aload_n dX7_insert_122 rfl trivial ?_
                          refine ji_get (ci := 7) (k := 0) rfl dX7_insert_123 lX7_12 (by decide) (cl_0h) rfl ?_
                          refine ji_iconst dX7_insert_126 ?_
                          refine ji_iconst dX7_insert_127 ?_
                          refine ji_callV dX7_insert_128 (c_padded (I := in_W I 0) c1 c2 (by omega) (by omega)) rfl (cl_1h) rfl rfl wX2_padded vX2_padded lX7_293 rfl (Nat.le_of_ble_eq_true rfl) rfl (by omega) (by first | omega | exact Nat.le_refl _) (fun r8 h8 hq8 => ?_) (fun E8 h8 hq8 => by cases hq8.1)
                          obtain ⟨hq1, e9⟩ := hq8
                          cases hq1
                          subst e9
                          refine ji_goto (tgt := 143) dX7_insert_131 rfl ?_
                          refine ji_astore dX7_insert_143 (by decide) trivial rfl ?_
                          refine ji_aload_n dX7_insert_145 rfl trivial ?_
                          refine ji_aload_n dX7_insert_146 rfl trivial ?_
                          refine ji_get (ci := 7) (k := 5) rfl dX7_insert_147 lX7_41 (by decide) (cl_0h) rfl ?_
                          refine ji_iload_n dX7_insert_150 rfl ?_
                          refine ji_iload dX7_insert_151 rfl ?_
                          refine ji_aload dX7_insert_153 rfl trivial ?_
                          refine ji_callV dX7_insert_155 (k_Book_withInserted (xa := xa) (c := (0 + I.1 + 1).toNat) (co := (in_pd (in_W I 0) 0 1)) ((hbat.kept cl_up.1).kept cl_kf) hbok hv ((cl_dh (Or.inr c1)).trans (va_up_self _ _ _)) (show n < n + 1 by omega) (fun j => in_pd_b c2 j) (Nat.le_refl _) hym (by omega) (show 72 ≤ n + 1 by omega)) (by rw [hx1]; rfl) ((cl_dh hbd).trans hb01) rfl rfl wX0_withInserted vX0_withInserted lX7_297 rfl (Nat.le_of_ble_eq_true rfl) rfl (by omega) (by first | omega | exact Nat.le_refl _) (fun r8 h8 hq8 => ?_) (fun E8 h8 hq8 => by obtain ⟨w9, q, -⟩ := hq8; cases q)
                          obtain ⟨b2, hq1, hext, hbn⟩ := hq8
                          cases hq1
                          obtain ⟨g, e9, hkp⟩ := cl_extE (show 72 ≤ n + 1 by omega) hext
                          subst e9
                          have hbn2 := hbn.kept cl_fk
                          obtain ⟨bw2, bkq2, bfq2, hb0', -, -, -, ⟨hbd', -, -⟩, -⟩ := id hbn2
                          have hgn : g n = (.inr (.char, (0 + I.1 + 1).toNat, .inl (in_pd (in_W I 0) 0 1))) := (hkp.1.2 n (Or.inr c1) (show n < n + 1 by omega)).trans (va_up_self _ _ _)
                          refine ji_putE (ci := 7) (k := 5) rfl dX7_insert_158 lX7_41 (by decide) (cl_0h) (by simp [cl_c0]) (ji_fitO _ trivial) rfl (cl_pb) ?_
                          refine ji_aload_n dX7_insert_161 rfl trivial ?_
                          refine ji_get (ci := 7) (k := 6) rfl dX7_insert_162 lX7_48 (by decide) (cl_0h) rfl ?_
                          refine ji_iload dX7_insert_165 rfl ?_
                          refine ji_aload dX7_insert_167 rfl trivial ?_
                          refine ji_alen dX7_insert_169 ((cl_dh (Or.inr c1)).trans hgn) (fun cy => rfl) ?_
                          refine ji_cVv dX7_insert_170 (cl_jM (mk_og M (bk_ws B (bk_fw B p + m)) (((0 + I.1 + 1).toNat : Nat) : Int)) (k_Marks_openGap (by omega) hr9 hJ9 hF9 hT9)) rfl (cl_12h) rfl rfl wX4_openGap vX4_openGap lX7_301 rfl (Nat.le_of_ble_eq_true rfl) rfl ?_
                          refine ji_aload_n dX7_insert_173 rfl trivial ?_
                          refine ji_get (ci := 7) (k := 0) rfl dX7_insert_174 lX7_12 (by decide) (cl_0h) rfl ?_
                          refine ji_cVv dX7_insert_177 (cl_jI (0, (in_W I 0).2) k_Input_empty) rfl (cl_1h) rfl rfl wX2_empty vX2_empty lX7_99 rfl (Nat.le_of_ble_eq_true rfl) rfl ?_
                          refine ji_aload_n dX7_insert_180 rfl trivial ?_
                          refine ji_iconst dX7_insert_181 ?_
                          refine ji_putE (ci := 7) (k := 10) rfl dX7_insert_182 lX7_71 (by decide) (cl_0h) (by simp [cl_c0]) (ji_fitZ (by first | omega | decide)) rfl (cl_ps) ?_
                          refine ji_aload_n dX7_insert_185 rfl trivial ?_
                          refine ji_get (ci := 7) (k := 5) rfl dX7_insert_186 lX7_41 (by decide) (cl_0h) rfl ?_
                          refine ji_iload_n dX7_insert_189 rfl ?_
                          refine ji_cV dX7_insert_190 (k_Book_wordsOf (hbn2.kept cl_kf) hB (by omega)) rfl ((cl_dh hbd').trans hb0') rfl rfl wX0_wordsOf vX0_wordsOf lX7_273 rfl (Nat.le_of_ble_eq_true rfl) rfl ?_
                          exact ji_ireturn dX7_insert_193 rfl (rfl) ⟨g, b2, rfl, rfl, cl_up.trans hkp, hbn2⟩
                  · try (exfalso; omega)
                    all_goals
                      refine ji_aload_n dX7_insert_95 rfl trivial ?_
                      refine ji_get (ci := 7) (k := 5) rfl dX7_insert_96 lX7_41 (by decide) (cl_0h) rfl ?_
                      refine ji_iload_n dX7_insert_99 rfl ?_
                      refine ji_cV dX7_insert_100 (k_Book_endOf (hbat.kept cl_kf) hbok (by omega)) rfl ((cl_dh hbd).trans hb0) rfl rfl wX0_endOf vX0_endOf lX7_287 rfl (Nat.le_of_ble_eq_true rfl) rfl ?_
                      refine ji_goto (tgt := 115) dX7_insert_103 rfl ?_
                      refine ji_istore dX7_insert_115 (by decide) rfl ?_
                      refine ji_iload dX7_insert_117 rfl ?_
                      refine ji_if_eq (tgt := 134) dX7_insert_119 rfl (by omega) (fun c119 => ?_) (fun c119 => ?_)
                      · try (exfalso; omega)
                        all_goals
                          refine ji_aload_n dX7_insert_134 rfl trivial ?_
                          refine ji_get (ci := 7) (k := 0) rfl dX7_insert_135 lX7_12 (by decide) (cl_0h) rfl ?_
                          refine ji_iconst dX7_insert_138 ?_
                          refine ji_iconst dX7_insert_139 ?_
                          refine ji_callV dX7_insert_140 (c_padded (I := in_W I 0) c1 c2 (by omega) (by omega)) rfl (cl_1h) rfl rfl wX2_padded vX2_padded lX7_293 rfl (Nat.le_of_ble_eq_true rfl) rfl (by omega) (by first | omega | exact Nat.le_refl _) (fun r8 h8 hq8 => ?_) (fun E8 h8 hq8 => by cases hq8.1)
                          obtain ⟨hq1, e9⟩ := hq8
                          cases hq1
                          subst e9
                          refine ji_astore dX7_insert_143 (by decide) trivial rfl ?_
                          refine ji_aload_n dX7_insert_145 rfl trivial ?_
                          refine ji_aload_n dX7_insert_146 rfl trivial ?_
                          refine ji_get (ci := 7) (k := 5) rfl dX7_insert_147 lX7_41 (by decide) (cl_0h) rfl ?_
                          refine ji_iload_n dX7_insert_150 rfl ?_
                          refine ji_iload dX7_insert_151 rfl ?_
                          refine ji_aload dX7_insert_153 rfl trivial ?_
                          refine ji_callV dX7_insert_155 (k_Book_withInserted (xa := xa) (c := (0 + I.1 + 1).toNat) (co := (in_pd (in_W I 0) 0 1)) ((hbat.kept cl_up.1).kept cl_kf) hbok hv ((cl_dh (Or.inr c1)).trans (va_up_self _ _ _)) (show n < n + 1 by omega) (fun j => in_pd_b c2 j) (Nat.le_refl _) hym (by omega) (show 72 ≤ n + 1 by omega)) (by rw [hx1]; rfl) ((cl_dh hbd).trans hb01) rfl rfl wX0_withInserted vX0_withInserted lX7_297 rfl (Nat.le_of_ble_eq_true rfl) rfl (by omega) (by first | omega | exact Nat.le_refl _) (fun r8 h8 hq8 => ?_) (fun E8 h8 hq8 => by obtain ⟨w9, q, -⟩ := hq8; cases q)
                          obtain ⟨b2, hq1, hext, hbn⟩ := hq8
                          cases hq1
                          obtain ⟨g, e9, hkp⟩ := cl_extE (show 72 ≤ n + 1 by omega) hext
                          subst e9
                          have hbn2 := hbn.kept cl_fk
                          obtain ⟨bw2, bkq2, bfq2, hb0', -, -, -, ⟨hbd', -, -⟩, -⟩ := id hbn2
                          have hgn : g n = (.inr (.char, (0 + I.1 + 1).toNat, .inl (in_pd (in_W I 0) 0 1))) := (hkp.1.2 n (Or.inr c1) (show n < n + 1 by omega)).trans (va_up_self _ _ _)
                          refine ji_putE (ci := 7) (k := 5) rfl dX7_insert_158 lX7_41 (by decide) (cl_0h) (by simp [cl_c0]) (ji_fitO _ trivial) rfl (cl_pb) ?_
                          refine ji_aload_n dX7_insert_161 rfl trivial ?_
                          refine ji_get (ci := 7) (k := 6) rfl dX7_insert_162 lX7_48 (by decide) (cl_0h) rfl ?_
                          refine ji_iload dX7_insert_165 rfl ?_
                          refine ji_aload dX7_insert_167 rfl trivial ?_
                          refine ji_alen dX7_insert_169 ((cl_dh (Or.inr c1)).trans hgn) (fun cy => rfl) ?_
                          refine ji_cVv dX7_insert_170 (cl_jM (mk_og M (bk_ws B (bk_fw B p + m)) (((0 + I.1 + 1).toNat : Nat) : Int)) (k_Marks_openGap (by omega) hr9 hJ9 hF9 hT9)) rfl (cl_12h) rfl rfl wX4_openGap vX4_openGap lX7_301 rfl (Nat.le_of_ble_eq_true rfl) rfl ?_
                          refine ji_aload_n dX7_insert_173 rfl trivial ?_
                          refine ji_get (ci := 7) (k := 0) rfl dX7_insert_174 lX7_12 (by decide) (cl_0h) rfl ?_
                          refine ji_cVv dX7_insert_177 (cl_jI (0, (in_W I 0).2) k_Input_empty) rfl (cl_1h) rfl rfl wX2_empty vX2_empty lX7_99 rfl (Nat.le_of_ble_eq_true rfl) rfl ?_
                          refine ji_aload_n dX7_insert_180 rfl trivial ?_
                          refine ji_iconst dX7_insert_181 ?_
                          refine ji_putE (ci := 7) (k := 10) rfl dX7_insert_182 lX7_71 (by decide) (cl_0h) (by simp [cl_c0]) (ji_fitZ (by first | omega | decide)) rfl (cl_ps) ?_
                          refine ji_aload_n dX7_insert_185 rfl trivial ?_
                          refine ji_get (ci := 7) (k := 5) rfl dX7_insert_186 lX7_41 (by decide) (cl_0h) rfl ?_
                          refine ji_iload_n dX7_insert_189 rfl ?_
                          refine ji_cV dX7_insert_190 (k_Book_wordsOf (hbn2.kept cl_kf) hB (by omega)) rfl ((cl_dh hbd').trans hb0') rfl rfl wX0_wordsOf vX0_wordsOf lX7_273 rfl (Nat.le_of_ble_eq_true rfl) rfl ?_
                          exact ji_ireturn dX7_insert_193 rfl (rfl) ⟨g, b2, rfl, rfl, cl_up.trans hkp, hbn2⟩
                      · try (exfalso; omega)
                        all_goals
                          refine ji_aload_n dX7_insert_122 rfl trivial ?_
                          refine ji_get (ci := 7) (k := 0) rfl dX7_insert_123 lX7_12 (by decide) (cl_0h) rfl ?_
                          refine ji_iconst dX7_insert_126 ?_
                          refine ji_iconst dX7_insert_127 ?_
                          refine ji_callV dX7_insert_128 (c_padded (I := in_W I 0) c1 c2 (by omega) (by omega)) rfl (cl_1h) rfl rfl wX2_padded vX2_padded lX7_293 rfl (Nat.le_of_ble_eq_true rfl) rfl (by omega) (by first | omega | exact Nat.le_refl _) (fun r8 h8 hq8 => ?_) (fun E8 h8 hq8 => by cases hq8.1)
                          obtain ⟨hq1, e9⟩ := hq8
                          cases hq1
                          subst e9
                          refine ji_goto (tgt := 143) dX7_insert_131 rfl ?_
                          refine ji_astore dX7_insert_143 (by decide) trivial rfl ?_
                          refine ji_aload_n dX7_insert_145 rfl trivial ?_
                          refine ji_aload_n dX7_insert_146 rfl trivial ?_
                          refine ji_get (ci := 7) (k := 5) rfl dX7_insert_147 lX7_41 (by decide) (cl_0h) rfl ?_
                          refine ji_iload_n dX7_insert_150 rfl ?_
                          refine ji_iload dX7_insert_151 rfl ?_
                          refine ji_aload dX7_insert_153 rfl trivial ?_
                          refine ji_callV dX7_insert_155 (k_Book_withInserted (xa := xa) (c := (0 + I.1 + 1).toNat) (co := (in_pd (in_W I 0) 0 1)) ((hbat.kept cl_up.1).kept cl_kf) hbok hv ((cl_dh (Or.inr c1)).trans (va_up_self _ _ _)) (show n < n + 1 by omega) (fun j => in_pd_b c2 j) (Nat.le_refl _) hym (by omega) (show 72 ≤ n + 1 by omega)) (by rw [hx1]; rfl) ((cl_dh hbd).trans hb01) rfl rfl wX0_withInserted vX0_withInserted lX7_297 rfl (Nat.le_of_ble_eq_true rfl) rfl (by omega) (by first | omega | exact Nat.le_refl _) (fun r8 h8 hq8 => ?_) (fun E8 h8 hq8 => by obtain ⟨w9, q, -⟩ := hq8; cases q)
                          obtain ⟨b2, hq1, hext, hbn⟩ := hq8
                          cases hq1
                          obtain ⟨g, e9, hkp⟩ := cl_extE (show 72 ≤ n + 1 by omega) hext
                          subst e9
                          have hbn2 := hbn.kept cl_fk
                          obtain ⟨bw2, bkq2, bfq2, hb0', -, -, -, ⟨hbd', -, -⟩, -⟩ := id hbn2
                          have hgn : g n = (.inr (.char, (0 + I.1 + 1).toNat, .inl (in_pd (in_W I 0) 0 1))) := (hkp.1.2 n (Or.inr c1) (show n < n + 1 by omega)).trans (va_up_self _ _ _)
                          refine ji_putE (ci := 7) (k := 5) rfl dX7_insert_158 lX7_41 (by decide) (cl_0h) (by simp [cl_c0]) (ji_fitO _ trivial) rfl (cl_pb) ?_
                          refine ji_aload_n dX7_insert_161 rfl trivial ?_
                          refine ji_get (ci := 7) (k := 6) rfl dX7_insert_162 lX7_48 (by decide) (cl_0h) rfl ?_
                          refine ji_iload dX7_insert_165 rfl ?_
                          refine ji_aload dX7_insert_167 rfl trivial ?_
                          refine ji_alen dX7_insert_169 ((cl_dh (Or.inr c1)).trans hgn) (fun cy => rfl) ?_
                          refine ji_cVv dX7_insert_170 (cl_jM (mk_og M (bk_ws B (bk_fw B p + m)) (((0 + I.1 + 1).toNat : Nat) : Int)) (k_Marks_openGap (by omega) hr9 hJ9 hF9 hT9)) rfl (cl_12h) rfl rfl wX4_openGap vX4_openGap lX7_301 rfl (Nat.le_of_ble_eq_true rfl) rfl ?_
                          refine ji_aload_n dX7_insert_173 rfl trivial ?_
                          refine ji_get (ci := 7) (k := 0) rfl dX7_insert_174 lX7_12 (by decide) (cl_0h) rfl ?_
                          refine ji_cVv dX7_insert_177 (cl_jI (0, (in_W I 0).2) k_Input_empty) rfl (cl_1h) rfl rfl wX2_empty vX2_empty lX7_99 rfl (Nat.le_of_ble_eq_true rfl) rfl ?_
                          refine ji_aload_n dX7_insert_180 rfl trivial ?_
                          refine ji_iconst dX7_insert_181 ?_
                          refine ji_putE (ci := 7) (k := 10) rfl dX7_insert_182 lX7_71 (by decide) (cl_0h) (by simp [cl_c0]) (ji_fitZ (by first | omega | decide)) rfl (cl_ps) ?_
                          refine ji_aload_n dX7_insert_185 rfl trivial ?_
                          refine ji_get (ci := 7) (k := 5) rfl dX7_insert_186 lX7_41 (by decide) (cl_0h) rfl ?_
                          refine ji_iload_n dX7_insert_189 rfl ?_
                          refine ji_cV dX7_insert_190 (k_Book_wordsOf (hbn2.kept cl_kf) hB (by omega)) rfl ((cl_dh hbd').trans hb0') rfl rfl wX0_wordsOf vX0_wordsOf lX7_273 rfl (Nat.le_of_ble_eq_true rfl) rfl ?_
                          exact ji_ireturn dX7_insert_193 rfl (rfl) ⟨g, b2, rfl, rfl, cl_up.trans hkp, hbn2⟩
              · try (exfalso; omega)
                all_goals
                  refine ji_iconst dX7_insert_83 ?_
                  refine ji_goto (tgt := 88) dX7_insert_84 rfl ?_
                  refine ji_istore dX7_insert_88 (by decide) rfl ?_
                  refine ji_iload dX7_insert_90 rfl ?_
                  refine ji_if_eq (tgt := 106) dX7_insert_92 rfl (by omega) (fun c92 => ?_) (fun c92 => ?_)
                  · try (exfalso; omega)
                    all_goals
                      refine ji_aload_n dX7_insert_106 rfl trivial ?_
                      refine ji_get (ci := 7) (k := 5) rfl dX7_insert_107 lX7_41 (by decide) (cl_0h) rfl ?_
                      refine ji_iload_n dX7_insert_110 rfl ?_
                      refine ji_iload_n dX7_insert_111 rfl ?_
                      refine ji_cV dX7_insert_112 (k_Book_placeOfWord (hbat.kept cl_kf) hbok (by omega) (by omega)) rfl ((cl_dh hbd).trans hb0) rfl rfl wX0_placeOfWord vX0_placeOfWord lX7_290 rfl (Nat.le_of_ble_eq_true rfl) rfl ?_
                      refine ji_istore dX7_insert_115 (by decide) rfl ?_
                      refine ji_iload dX7_insert_117 rfl ?_
                      refine ji_if_eq (tgt := 134) dX7_insert_119 rfl (by omega) (fun c119 => ?_) (fun c119 => ?_)
                      · try (exfalso; omega)
                        all_goals
                          refine ji_aload_n dX7_insert_134 rfl trivial ?_
                          refine ji_get (ci := 7) (k := 0) rfl dX7_insert_135 lX7_12 (by decide) (cl_0h) rfl ?_
                          refine ji_iconst dX7_insert_138 ?_
                          refine ji_iconst dX7_insert_139 ?_
                          refine ji_callV dX7_insert_140 (c_padded (I := in_W I 0) c1 c2 (by omega) (by omega)) rfl (cl_1h) rfl rfl wX2_padded vX2_padded lX7_293 rfl (Nat.le_of_ble_eq_true rfl) rfl (by omega) (by first | omega | exact Nat.le_refl _) (fun r8 h8 hq8 => ?_) (fun E8 h8 hq8 => by cases hq8.1)
                          obtain ⟨hq1, e9⟩ := hq8
                          cases hq1
                          subst e9
                          refine ji_astore dX7_insert_143 (by decide) trivial rfl ?_
                          refine ji_aload_n dX7_insert_145 rfl trivial ?_
                          refine ji_aload_n dX7_insert_146 rfl trivial ?_
                          refine ji_get (ci := 7) (k := 5) rfl dX7_insert_147 lX7_41 (by decide) (cl_0h) rfl ?_
                          refine ji_iload_n dX7_insert_150 rfl ?_
                          refine ji_iload dX7_insert_151 rfl ?_
                          refine ji_aload dX7_insert_153 rfl trivial ?_
                          refine ji_callV dX7_insert_155 (k_Book_withInserted (xa := xa) (c := (0 + I.1 + 1).toNat) (co := (in_pd (in_W I 0) 0 1)) ((hbat.kept cl_up.1).kept cl_kf) hbok hv ((cl_dh (Or.inr c1)).trans (va_up_self _ _ _)) (show n < n + 1 by omega) (fun j => in_pd_b c2 j) (Nat.le_refl _) hym (by omega) (show 72 ≤ n + 1 by omega)) (by rw [hx1]; rfl) ((cl_dh hbd).trans hb01) rfl rfl wX0_withInserted vX0_withInserted lX7_297 rfl (Nat.le_of_ble_eq_true rfl) rfl (by omega) (by first | omega | exact Nat.le_refl _) (fun r8 h8 hq8 => ?_) (fun E8 h8 hq8 => by obtain ⟨w9, q, -⟩ := hq8; cases q)
                          obtain ⟨b2, hq1, hext, hbn⟩ := hq8
                          cases hq1
                          obtain ⟨g, e9, hkp⟩ := cl_extE (show 72 ≤ n + 1 by omega) hext
                          subst e9
                          have hbn2 := hbn.kept cl_fk
                          obtain ⟨bw2, bkq2, bfq2, hb0', -, -, -, ⟨hbd', -, -⟩, -⟩ := id hbn2
                          have hgn : g n = (.inr (.char, (0 + I.1 + 1).toNat, .inl (in_pd (in_W I 0) 0 1))) := (hkp.1.2 n (Or.inr c1) (show n < n + 1 by omega)).trans (va_up_self _ _ _)
                          refine ji_putE (ci := 7) (k := 5) rfl dX7_insert_158 lX7_41 (by decide) (cl_0h) (by simp [cl_c0]) (ji_fitO _ trivial) rfl (cl_pb) ?_
                          refine ji_aload_n dX7_insert_161 rfl trivial ?_
                          refine ji_get (ci := 7) (k := 6) rfl dX7_insert_162 lX7_48 (by decide) (cl_0h) rfl ?_
                          refine ji_iload dX7_insert_165 rfl ?_
                          refine ji_aload dX7_insert_167 rfl trivial ?_
                          refine ji_alen dX7_insert_169 ((cl_dh (Or.inr c1)).trans hgn) (fun cy => rfl) ?_
                          refine ji_cVv dX7_insert_170 (cl_jM (mk_og M (bk_ws B (bk_fw B p + m)) (((0 + I.1 + 1).toNat : Nat) : Int)) (k_Marks_openGap (by omega) hr9 hJ9 hF9 hT9)) rfl (cl_12h) rfl rfl wX4_openGap vX4_openGap lX7_301 rfl (Nat.le_of_ble_eq_true rfl) rfl ?_
                          refine ji_aload_n dX7_insert_173 rfl trivial ?_
                          refine ji_get (ci := 7) (k := 0) rfl dX7_insert_174 lX7_12 (by decide) (cl_0h) rfl ?_
                          refine ji_cVv dX7_insert_177 (cl_jI (0, (in_W I 0).2) k_Input_empty) rfl (cl_1h) rfl rfl wX2_empty vX2_empty lX7_99 rfl (Nat.le_of_ble_eq_true rfl) rfl ?_
                          refine ji_aload_n dX7_insert_180 rfl trivial ?_
                          refine ji_iconst dX7_insert_181 ?_
                          refine ji_putE (ci := 7) (k := 10) rfl dX7_insert_182 lX7_71 (by decide) (cl_0h) (by simp [cl_c0]) (ji_fitZ (by first | omega | decide)) rfl (cl_ps) ?_
                          refine ji_aload_n dX7_insert_185 rfl trivial ?_
                          refine ji_get (ci := 7) (k := 5) rfl dX7_insert_186 lX7_41 (by decide) (cl_0h) rfl ?_
                          refine ji_iload_n dX7_insert_189 rfl ?_
                          refine ji_cV dX7_insert_190 (k_Book_wordsOf (hbn2.kept cl_kf) hB (by omega)) rfl ((cl_dh hbd').trans hb0') rfl rfl wX0_wordsOf vX0_wordsOf lX7_273 rfl (Nat.le_of_ble_eq_true rfl) rfl ?_
                          exact ji_ireturn dX7_insert_193 rfl (rfl) ⟨g, b2, rfl, rfl, cl_up.trans hkp, hbn2⟩
                      · try (exfalso; omega)
                        all_goals
                          refine ji_aload_n dX7_insert_122 rfl trivial ?_
                          refine ji_get (ci := 7) (k := 0) rfl dX7_insert_123 lX7_12 (by decide) (cl_0h) rfl ?_
                          refine ji_iconst dX7_insert_126 ?_
                          refine ji_iconst dX7_insert_127 ?_
                          refine ji_callV dX7_insert_128 (c_padded (I := in_W I 0) c1 c2 (by omega) (by omega)) rfl (cl_1h) rfl rfl wX2_padded vX2_padded lX7_293 rfl (Nat.le_of_ble_eq_true rfl) rfl (by omega) (by first | omega | exact Nat.le_refl _) (fun r8 h8 hq8 => ?_) (fun E8 h8 hq8 => by cases hq8.1)
                          obtain ⟨hq1, e9⟩ := hq8
                          cases hq1
                          subst e9
                          refine ji_goto (tgt := 143) dX7_insert_131 rfl ?_
                          refine ji_astore dX7_insert_143 (by decide) trivial rfl ?_
                          refine ji_aload_n dX7_insert_145 rfl trivial ?_
                          refine ji_aload_n dX7_insert_146 rfl trivial ?_
                          refine ji_get (ci := 7) (k := 5) rfl dX7_insert_147 lX7_41 (by decide) (cl_0h) rfl ?_
                          refine ji_iload_n dX7_insert_150 rfl ?_
                          refine ji_iload dX7_insert_151 rfl ?_
                          refine ji_aload dX7_insert_153 rfl trivial ?_
                          refine ji_callV dX7_insert_155 (k_Book_withInserted (xa := xa) (c := (0 + I.1 + 1).toNat) (co := (in_pd (in_W I 0) 0 1)) ((hbat.kept cl_up.1).kept cl_kf) hbok hv ((cl_dh (Or.inr c1)).trans (va_up_self _ _ _)) (show n < n + 1 by omega) (fun j => in_pd_b c2 j) (Nat.le_refl _) hym (by omega) (show 72 ≤ n + 1 by omega)) (by rw [hx1]; rfl) ((cl_dh hbd).trans hb01) rfl rfl wX0_withInserted vX0_withInserted lX7_297 rfl (Nat.le_of_ble_eq_true rfl) rfl (by omega) (by first | omega | exact Nat.le_refl _) (fun r8 h8 hq8 => ?_) (fun E8 h8 hq8 => by obtain ⟨w9, q, -⟩ := hq8; cases q)
                          obtain ⟨b2, hq1, hext, hbn⟩ := hq8
                          cases hq1
                          obtain ⟨g, e9, hkp⟩ := cl_extE (show 72 ≤ n + 1 by omega) hext
                          subst e9
                          have hbn2 := hbn.kept cl_fk
                          obtain ⟨bw2, bkq2, bfq2, hb0', -, -, -, ⟨hbd', -, -⟩, -⟩ := id hbn2
                          have hgn : g n = (.inr (.char, (0 + I.1 + 1).toNat, .inl (in_pd (in_W I 0) 0 1))) := (hkp.1.2 n (Or.inr c1) (show n < n + 1 by omega)).trans (va_up_self _ _ _)
                          refine ji_putE (ci := 7) (k := 5) rfl dX7_insert_158 lX7_41 (by decide) (cl_0h) (by simp [cl_c0]) (ji_fitO _ trivial) rfl (cl_pb) ?_
                          refine ji_aload_n dX7_insert_161 rfl trivial ?_
                          refine ji_get (ci := 7) (k := 6) rfl dX7_insert_162 lX7_48 (by decide) (cl_0h) rfl ?_
                          refine ji_iload dX7_insert_165 rfl ?_
                          refine ji_aload dX7_insert_167 rfl trivial ?_
                          refine ji_alen dX7_insert_169 ((cl_dh (Or.inr c1)).trans hgn) (fun cy => rfl) ?_
                          refine ji_cVv dX7_insert_170 (cl_jM (mk_og M (bk_ws B (bk_fw B p + m)) (((0 + I.1 + 1).toNat : Nat) : Int)) (k_Marks_openGap (by omega) hr9 hJ9 hF9 hT9)) rfl (cl_12h) rfl rfl wX4_openGap vX4_openGap lX7_301 rfl (Nat.le_of_ble_eq_true rfl) rfl ?_
                          refine ji_aload_n dX7_insert_173 rfl trivial ?_
                          refine ji_get (ci := 7) (k := 0) rfl dX7_insert_174 lX7_12 (by decide) (cl_0h) rfl ?_
                          refine ji_cVv dX7_insert_177 (cl_jI (0, (in_W I 0).2) k_Input_empty) rfl (cl_1h) rfl rfl wX2_empty vX2_empty lX7_99 rfl (Nat.le_of_ble_eq_true rfl) rfl ?_
                          refine ji_aload_n dX7_insert_180 rfl trivial ?_
                          refine ji_iconst dX7_insert_181 ?_
                          refine ji_putE (ci := 7) (k := 10) rfl dX7_insert_182 lX7_71 (by decide) (cl_0h) (by simp [cl_c0]) (ji_fitZ (by first | omega | decide)) rfl (cl_ps) ?_
                          refine ji_aload_n dX7_insert_185 rfl trivial ?_
                          refine ji_get (ci := 7) (k := 5) rfl dX7_insert_186 lX7_41 (by decide) (cl_0h) rfl ?_
                          refine ji_iload_n dX7_insert_189 rfl ?_
                          refine ji_cV dX7_insert_190 (k_Book_wordsOf (hbn2.kept cl_kf) hB (by omega)) rfl ((cl_dh hbd').trans hb0') rfl rfl wX0_wordsOf vX0_wordsOf lX7_273 rfl (Nat.le_of_ble_eq_true rfl) rfl ?_
                          exact ji_ireturn dX7_insert_193 rfl (rfl) ⟨g, b2, rfl, rfl, cl_up.trans hkp, hbn2⟩
                  · try (exfalso; omega)
                    all_goals
                      refine ji_aload_n dX7_insert_95 rfl trivial ?_
                      refine ji_get (ci := 7) (k := 5) rfl dX7_insert_96 lX7_41 (by decide) (cl_0h) rfl ?_
                      refine ji_iload_n dX7_insert_99 rfl ?_
                      refine ji_cV dX7_insert_100 (k_Book_endOf (hbat.kept cl_kf) hbok (by omega)) rfl ((cl_dh hbd).trans hb0) rfl rfl wX0_endOf vX0_endOf lX7_287 rfl (Nat.le_of_ble_eq_true rfl) rfl ?_
                      refine ji_goto (tgt := 115) dX7_insert_103 rfl ?_
                      refine ji_istore dX7_insert_115 (by decide) rfl ?_
                      refine ji_iload dX7_insert_117 rfl ?_
                      refine ji_if_eq (tgt := 134) dX7_insert_119 rfl (by omega) (fun c119 => ?_) (fun c119 => ?_)
                      · try (exfalso; omega)
                        all_goals
                          refine ji_aload_n dX7_insert_134 rfl trivial ?_
                          refine ji_get (ci := 7) (k := 0) rfl dX7_insert_135 lX7_12 (by decide) (cl_0h) rfl ?_
                          refine ji_iconst dX7_insert_138 ?_
                          refine ji_iconst dX7_insert_139 ?_
                          refine ji_callV dX7_insert_140 (c_padded (I := in_W I 0) c1 c2 (by omega) (by omega)) rfl (cl_1h) rfl rfl wX2_padded vX2_padded lX7_293 rfl (Nat.le_of_ble_eq_true rfl) rfl (by omega) (by first | omega | exact Nat.le_refl _) (fun r8 h8 hq8 => ?_) (fun E8 h8 hq8 => by cases hq8.1)
                          obtain ⟨hq1, e9⟩ := hq8
                          cases hq1
                          subst e9
                          refine ji_astore dX7_insert_143 (by decide) trivial rfl ?_
                          refine ji_aload_n dX7_insert_145 rfl trivial ?_
                          refine ji_aload_n dX7_insert_146 rfl trivial ?_
                          refine ji_get (ci := 7) (k := 5) rfl dX7_insert_147 lX7_41 (by decide) (cl_0h) rfl ?_
                          refine ji_iload_n dX7_insert_150 rfl ?_
                          refine ji_iload dX7_insert_151 rfl ?_
                          refine ji_aload dX7_insert_153 rfl trivial ?_
                          refine ji_callV dX7_insert_155 (k_Book_withInserted (xa := xa) (c := (0 + I.1 + 1).toNat) (co := (in_pd (in_W I 0) 0 1)) ((hbat.kept cl_up.1).kept cl_kf) hbok hv ((cl_dh (Or.inr c1)).trans (va_up_self _ _ _)) (show n < n + 1 by omega) (fun j => in_pd_b c2 j) (Nat.le_refl _) hym (by omega) (show 72 ≤ n + 1 by omega)) (by rw [hx1]; rfl) ((cl_dh hbd).trans hb01) rfl rfl wX0_withInserted vX0_withInserted lX7_297 rfl (Nat.le_of_ble_eq_true rfl) rfl (by omega) (by first | omega | exact Nat.le_refl _) (fun r8 h8 hq8 => ?_) (fun E8 h8 hq8 => by obtain ⟨w9, q, -⟩ := hq8; cases q)
                          obtain ⟨b2, hq1, hext, hbn⟩ := hq8
                          cases hq1
                          obtain ⟨g, e9, hkp⟩ := cl_extE (show 72 ≤ n + 1 by omega) hext
                          subst e9
                          have hbn2 := hbn.kept cl_fk
                          obtain ⟨bw2, bkq2, bfq2, hb0', -, -, -, ⟨hbd', -, -⟩, -⟩ := id hbn2
                          have hgn : g n = (.inr (.char, (0 + I.1 + 1).toNat, .inl (in_pd (in_W I 0) 0 1))) := (hkp.1.2 n (Or.inr c1) (show n < n + 1 by omega)).trans (va_up_self _ _ _)
                          refine ji_putE (ci := 7) (k := 5) rfl dX7_insert_158 lX7_41 (by decide) (cl_0h) (by simp [cl_c0]) (ji_fitO _ trivial) rfl (cl_pb) ?_
                          refine ji_aload_n dX7_insert_161 rfl trivial ?_
                          refine ji_get (ci := 7) (k := 6) rfl dX7_insert_162 lX7_48 (by decide) (cl_0h) rfl ?_
                          refine ji_iload dX7_insert_165 rfl ?_
                          refine ji_aload dX7_insert_167 rfl trivial ?_
                          refine ji_alen dX7_insert_169 ((cl_dh (Or.inr c1)).trans hgn) (fun cy => rfl) ?_
                          refine ji_cVv dX7_insert_170 (cl_jM (mk_og M (bk_ws B (bk_fw B p + m)) (((0 + I.1 + 1).toNat : Nat) : Int)) (k_Marks_openGap (by omega) hr9 hJ9 hF9 hT9)) rfl (cl_12h) rfl rfl wX4_openGap vX4_openGap lX7_301 rfl (Nat.le_of_ble_eq_true rfl) rfl ?_
                          refine ji_aload_n dX7_insert_173 rfl trivial ?_
                          refine ji_get (ci := 7) (k := 0) rfl dX7_insert_174 lX7_12 (by decide) (cl_0h) rfl ?_
                          refine ji_cVv dX7_insert_177 (cl_jI (0, (in_W I 0).2) k_Input_empty) rfl (cl_1h) rfl rfl wX2_empty vX2_empty lX7_99 rfl (Nat.le_of_ble_eq_true rfl) rfl ?_
                          refine ji_aload_n dX7_insert_180 rfl trivial ?_
                          refine ji_iconst dX7_insert_181 ?_
                          refine ji_putE (ci := 7) (k := 10) rfl dX7_insert_182 lX7_71 (by decide) (cl_0h) (by simp [cl_c0]) (ji_fitZ (by first | omega | decide)) rfl (cl_ps) ?_
                          refine ji_aload_n dX7_insert_185 rfl trivial ?_
                          refine ji_get (ci := 7) (k := 5) rfl dX7_insert_186 lX7_41 (by decide) (cl_0h) rfl ?_
                          refine ji_iload_n dX7_insert_189 rfl ?_
                          refine ji_cV dX7_insert_190 (k_Book_wordsOf (hbn2.kept cl_kf) hB (by omega)) rfl ((cl_dh hbd').trans hb0') rfl rfl wX0_wordsOf vX0_wordsOf lX7_273 rfl (Nat.le_of_ble_eq_true rfl) rfl ?_
                          exact ji_ireturn dX7_insert_193 rfl (rfl) ⟨g, b2, rfl, rfl, cl_up.trans hkp, hbn2⟩
                      · try (exfalso; omega)
                        all_goals
                          refine ji_aload_n dX7_insert_122 rfl trivial ?_
                          refine ji_get (ci := 7) (k := 0) rfl dX7_insert_123 lX7_12 (by decide) (cl_0h) rfl ?_
                          refine ji_iconst dX7_insert_126 ?_
                          refine ji_iconst dX7_insert_127 ?_
                          refine ji_callV dX7_insert_128 (c_padded (I := in_W I 0) c1 c2 (by omega) (by omega)) rfl (cl_1h) rfl rfl wX2_padded vX2_padded lX7_293 rfl (Nat.le_of_ble_eq_true rfl) rfl (by omega) (by first | omega | exact Nat.le_refl _) (fun r8 h8 hq8 => ?_) (fun E8 h8 hq8 => by cases hq8.1)
                          obtain ⟨hq1, e9⟩ := hq8
                          cases hq1
                          subst e9
                          refine ji_goto (tgt := 143) dX7_insert_131 rfl ?_
                          refine ji_astore dX7_insert_143 (by decide) trivial rfl ?_
                          refine ji_aload_n dX7_insert_145 rfl trivial ?_
                          refine ji_aload_n dX7_insert_146 rfl trivial ?_
                          refine ji_get (ci := 7) (k := 5) rfl dX7_insert_147 lX7_41 (by decide) (cl_0h) rfl ?_
                          refine ji_iload_n dX7_insert_150 rfl ?_
                          refine ji_iload dX7_insert_151 rfl ?_
                          refine ji_aload dX7_insert_153 rfl trivial ?_
                          refine ji_callV dX7_insert_155 (k_Book_withInserted (xa := xa) (c := (0 + I.1 + 1).toNat) (co := (in_pd (in_W I 0) 0 1)) ((hbat.kept cl_up.1).kept cl_kf) hbok hv ((cl_dh (Or.inr c1)).trans (va_up_self _ _ _)) (show n < n + 1 by omega) (fun j => in_pd_b c2 j) (Nat.le_refl _) hym (by omega) (show 72 ≤ n + 1 by omega)) (by rw [hx1]; rfl) ((cl_dh hbd).trans hb01) rfl rfl wX0_withInserted vX0_withInserted lX7_297 rfl (Nat.le_of_ble_eq_true rfl) rfl (by omega) (by first | omega | exact Nat.le_refl _) (fun r8 h8 hq8 => ?_) (fun E8 h8 hq8 => by obtain ⟨w9, q, -⟩ := hq8; cases q)
                          obtain ⟨b2, hq1, hext, hbn⟩ := hq8
                          cases hq1
                          obtain ⟨g, e9, hkp⟩ := cl_extE (show 72 ≤ n + 1 by omega) hext
                          subst e9
                          have hbn2 := hbn.kept cl_fk
                          obtain ⟨bw2, bkq2, bfq2, hb0', -, -, -, ⟨hbd', -, -⟩, -⟩ := id hbn2
                          have hgn : g n = (.inr (.char, (0 + I.1 + 1).toNat, .inl (in_pd (in_W I 0) 0 1))) := (hkp.1.2 n (Or.inr c1) (show n < n + 1 by omega)).trans (va_up_self _ _ _)
                          refine ji_putE (ci := 7) (k := 5) rfl dX7_insert_158 lX7_41 (by decide) (cl_0h) (by simp [cl_c0]) (ji_fitO _ trivial) rfl (cl_pb) ?_
                          refine ji_aload_n dX7_insert_161 rfl trivial ?_
                          refine ji_get (ci := 7) (k := 6) rfl dX7_insert_162 lX7_48 (by decide) (cl_0h) rfl ?_
                          refine ji_iload dX7_insert_165 rfl ?_
                          refine ji_aload dX7_insert_167 rfl trivial ?_
                          refine ji_alen dX7_insert_169 ((cl_dh (Or.inr c1)).trans hgn) (fun cy => rfl) ?_
                          refine ji_cVv dX7_insert_170 (cl_jM (mk_og M (bk_ws B (bk_fw B p + m)) (((0 + I.1 + 1).toNat : Nat) : Int)) (k_Marks_openGap (by omega) hr9 hJ9 hF9 hT9)) rfl (cl_12h) rfl rfl wX4_openGap vX4_openGap lX7_301 rfl (Nat.le_of_ble_eq_true rfl) rfl ?_
                          refine ji_aload_n dX7_insert_173 rfl trivial ?_
                          refine ji_get (ci := 7) (k := 0) rfl dX7_insert_174 lX7_12 (by decide) (cl_0h) rfl ?_
                          refine ji_cVv dX7_insert_177 (cl_jI (0, (in_W I 0).2) k_Input_empty) rfl (cl_1h) rfl rfl wX2_empty vX2_empty lX7_99 rfl (Nat.le_of_ble_eq_true rfl) rfl ?_
                          refine ji_aload_n dX7_insert_180 rfl trivial ?_
                          refine ji_iconst dX7_insert_181 ?_
                          refine ji_putE (ci := 7) (k := 10) rfl dX7_insert_182 lX7_71 (by decide) (cl_0h) (by simp [cl_c0]) (ji_fitZ (by first | omega | decide)) rfl (cl_ps) ?_
                          refine ji_aload_n dX7_insert_185 rfl trivial ?_
                          refine ji_get (ci := 7) (k := 5) rfl dX7_insert_186 lX7_41 (by decide) (cl_0h) rfl ?_
                          refine ji_iload_n dX7_insert_189 rfl ?_
                          refine ji_cV dX7_insert_190 (k_Book_wordsOf (hbn2.kept cl_kf) hB (by omega)) rfl ((cl_dh hbd').trans hb0') rfl rfl wX0_wordsOf vX0_wordsOf lX7_273 rfl (Nat.le_of_ble_eq_true rfl) rfl ?_
                          exact ji_ireturn dX7_insert_193 rfl (rfl) ⟨g, b2, rfl, rfl, cl_up.trans hkp, hbn2⟩
          · try (exfalso; omega)
            all_goals
              exact ji_throwW (text := "the paragraph would have more than 24 words") ji_thrS rfl (by decide) rfl dX7_insert_52 dX7_insert_55 dX7_insert_56 dX7_insert_59 dX7_insert_62 (by omega) (by omega) (Nat.le_of_ble_eq_true rfl) ⟨g, b2, rfl, rfl, cl_up.trans hkp, hbn2⟩
      · try (exfalso; omega)
        all_goals
          exact ji_throwW (text := "word is out of range") ji_thrI rfl (by decide) rfl dX7_insert_23 dX7_insert_26 dX7_insert_27 dX7_insert_30 dX7_insert_33 (by omega) (by omega) (Nat.le_of_ble_eq_true rfl) ⟨g, b2, rfl, rfl, cl_up.trans hkp, hbn2⟩


end PG
