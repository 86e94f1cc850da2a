/-! ===== the reference: the reader and annotations ===== -/
def rf_js (z : Nat → Int) : Nat → Nat → Int
  | 0 => z
  | i + 1 => va_up (rf_js z i) (4 + i) (rf_js z i (6 + i))
def rf_k1 (z : Nat → Int) : Nat → Int := if z 3 = 5 then va_up (rf_js z 8) 3 (rf_js z 8 3 - 1) else z
def rf_k2 (z : Nat → Int) : Nat → Int := va_up z (4 + 2 * z 3).toNat (z 1)
def rf_k3 (z : Nat → Int) : Nat → Int := va_up z (4 + 2 * z 3 + 1).toNat (z 2)
def rf_k4 (z : Nat → Int) : Nat → Int := va_up z 3 (z 3 + 1)
def rf_kj (z : Nat → Int) : Nat → Int := rf_k4 (rf_k3 (rf_k2 (rf_k1 z)))
def rf_mv (z : Nat → Int) (q o : Int) : Nat → Int := va_up (va_up z 1 q) 2 o
def rf_b0 (z : Nat → Int) : Nat → Int := va_up z 3 (z 3 - 1)
def rf_bk (z : Nat → Int) : Nat → Int := rf_mv (rf_b0 z) (rf_b0 z (4 + 2 * rf_b0 z 3).toNat) (rf_b0 z (4 + 2 * rf_b0 z 3 + 1).toNat)
theorem rf_js_3 (z : Nat → Int) : ∀ i : Nat, rf_js z i 3 = z 3
  | 0 => rfl
  | i + 1 => by show va_up (rf_js z i) (4 + i) _ 3 = z 3; rw [va_up_ne _ _ (by omega)]; exact rf_js_3 z i
def rf_w1 (S : Int) (C : Int → Int) (bf : Nat → Int) (x : Int) : Nat → Int → Int
  | 0, k => k
  | u + 1, k => if bf k.toNat = 32 then k else if x + k < S ∧ C (x + k) = bf k.toNat then rf_w1 S C bf x u (k + 1) else -1
def rf_IW (S : Int) (C : Int → Int) (sz : Int) (bf : Nat → Int) (x : Int) : Int := if ¬ rf_w1 S C bf x sz.toNat 0 = -1 ∧ rf_WE S C x = x + rf_w1 S C bf x sz.toNat 0 then 1 else 0
theorem rf_IW_b (S : Int) (C : Int → Int) (sz : Int) (bf : Nat → Int) (x : Int) : rf_IW S C sz bf x = 0 ∨ rf_IW S C sz bf x = 1 := by unfold rf_IW; split <;> omega
theorem rf_w1_b (S : Int) (C : Int → Int) (bf : Nat → Int) (x : Int) : ∀ (u : Nat) (k : Int), rf_w1 S C bf x u k = -1 ∨ (k ≤ rf_w1 S C bf x u k ∧ rf_w1 S C bf x u k ≤ k + u)
  | 0, k => by unfold rf_w1; omega
  | u + 1, k => by have := rf_w1_b S C bf x u (k + 1); unfold rf_w1; split; omega; split <;> omega
def rf_f1 (S : Int) (C : Int → Int) (sz : Int) (bf : Nat → Int) (b now q : Int) : Nat → Int → Int → Int
  | 0, _, x => x
  | u + 1, k, x => if k < S then rf_f1 S C sz bf b now q u (rf_WE S C k + 1) (if rf_IW S C sz bf k = 1 ∧ (¬ b = 0 ∧ now < 1000 * q + k ∧ x = -1 ∨ b = 0 ∧ 1000 * q + k < now) then 1000 * q + k else x) else x
def rf_f2 (z nl nt : Nat → Int) (sz : Int) (bf : Nat → Int) (b now : Int) : Nat → Int → Int → Int
  | 0, _, x => x
  | u + 1, q, x => rf_f2 z nl nt sz bf b now u (q + 1) (rf_f1 (rf_sz z nl q) (rf_ch z nt q) sz bf b now q (z (85 + q).toNat).toNat 0 x)
def rf_FN (z nl nt : Nat → Int) (sz : Int) (bf : Nat → Int) (b : Int) : Int := rf_f2 z nl nt sz bf b (1000 * z 1 + z 2) (z 0).toNat 0 (-1)
theorem rf_f1_b {S : Int} (hS : S ≤ 359) (C : Int → Int) (sz : Int) (bf : Nat → Int) (b now : Int) {q : Int} (hq : 0 ≤ q ∧ q ≤ 9) : ∀ (u : Nat) (k x : Int), 0 ≤ k → (-1 ≤ x ∧ x ≤ 100000) → -1 ≤ rf_f1 S C sz bf b now q u k x ∧ rf_f1 S C sz bf b now q u k x ≤ 100000
  | 0, k, x, _, h => h
  | u + 1, k, x, hk, h => by
    have h1 := rf_WE_b S C k
    unfold rf_f1
    split
    · exact rf_f1_b hS C sz bf b now hq u _ _ (by omega) (by split <;> omega)
    · exact h
def rf_aw (z nt : Nat → Int) : Nat → Int
  | 0 => 0
  | i + 1 => rf_aw z nt i + rf_WO z nt i
def rf_lt (z : Nat → Int) : Nat → Int
  | 0 => 0
  | i + 1 => rf_lt z i + z (85 + i)
theorem rf_lt_b {z : Nat → Int} (hz : rz_ok z) : ∀ i : Nat, i ≤ 10 → 0 ≤ rf_lt z i ∧ rf_lt z i ≤ 359 * i
  | 0, _ => by simp [rf_lt]
  | i + 1, h => by have h1 := rf_lt_b hz i (by omega); have h2 := hz.2.2.1 (85 + i) (by omega) (by omega); unfold rf_lt; omega
def rf_ls (z : Nat → Int) : Nat → Int
  | 0 => 0
  | i + 1 => rf_ls z i + z (15 + 5 * i + 4)
def rf_CN (z nl nt : Nat → Int) (ed ln : Int) (lo lf : Nat → Int) (pg : Int) (pf : Nat → Int) (v : Int) : Int :=
  if v = 0 then z 0 else if v = 1 then rf_aw z nt (z 0).toNat else if v = 2 then rf_lt z (z 0).toNat else if v = 3 then ln else if v = 4 then pg else if v = 5 then rf_PW ln lo lf pg pf (z 1) (z 2) else if v = 6 then 1000 * z 1 + z 2 else if v = 7 then z 14
  else if v = 8 then rf_ls z (z 14).toNat else if v = 9 then z 3 else if v = 10 then ed else 1000 * (rf_lt z (z 1).toNat + z 2) / rf_lt z (z 0).toNat
def rf_li (lo : Nat → Int) (q : Int) : Nat → Int
  | 0 => 0
  | i + 1 => rf_li lo q i + (if lo i = q then 1 else 0)
def rf_PP (z nt : Nat → Int) (ln : Int) (lo lf : Nat → Int) (pg : Int) (pf : Nat → Int) (q v : Int) : Int :=
  if v = 0 then z (75 + q).toNat else if v = 1 then rf_WO z nt q else if v = 2 then z (85 + q).toNat else if v = 3 then rf_li lo q ln.toNat else rf_PW ln lo lf pg pf q 0
def rf_AT (z : Nat → Int) (q x y c : Int) : Nat → Int :=
  va_up (va_up (va_up (va_up (va_up z (15 + 5 * z 14).toNat q) (15 + 5 * z 14 + 1).toNat x) (15 + 5 * z 14 + 2).toNat y) (15 + 5 * z 14 + 3).toNat c) (15 + 5 * z 14 + 4).toNat 0
def rf_AN (z : Nat → Int) (ln : Int) (lo lf : Nat → Int) (pg : Int) (pf : Nat → Int) (k v : Int) : Int :=
  if v < 5 then z (15 + 5 * k + v).toNat else if z (15 + 5 * k + 4).toNat = 1 then -1 else rf_PW ln lo lf pg pf (z (15 + 5 * k).toNat) (z (15 + 5 * k + 1).toNat)
def rf_rm (z : Nat → Int) (s : Int) : Nat → Nat → Int
  | 0 => z
  | i + 1 => va_up (rf_rm z s i) (s + i).toNat (rf_rm z s i (s + i + 5).toNat)
theorem rf_rm_14 (z : Nat → Int) {s : Int} (hs : 15 ≤ s) : ∀ i : Nat, rf_rm z s i 14 = z 14
  | 0 => rfl
  | i + 1 => by show va_up (rf_rm z s i) (s + i).toNat _ 14 = z 14; rw [va_up_ne _ _ (by omega)]; exact rf_rm_14 z hs i
def rf_RM (z : Nat → Int) (k : Int) : Nat → Int := va_up (rf_rm z (15 + 5 * k) (5 * z 14 - 5 - 5 * k).toNat) 14 (rf_rm z (15 + 5 * k) (5 * z 14 - 5 - 5 * k).toNat 14 - 1)
section RF
variable {G : ji_G} {d n : Nat} {f : Nat → ji_C} {th ed wi ht sz rs rr rq rp mm ln co ro pg : Int} {z kp nt nl sy bf lo lf lt pf : Nat → Int} {hsh : Int64}
set_option maxHeartbeats 4000000 in
set_option maxRecDepth 100000 in
theorem r_move {q o : Int} : JR G d mX8_move [.ref 60, .int (jI q), .int (jI o)] (n, rf_f f th z kp ed nt nl wi ht sy sz bf rs rr rq rp mm ln lo lf lt co ro pg pf hsh) 0 0 none (n, rf_f f th (rf_mv z q o) kp ed nt nl wi ht sy sz bf rs rr rq rp mm ln lo lf lt co ro pg pf hsh) := by
  refine ji_ent (by decide) rfl (Nat.le_of_ble_eq_true rfl) rfl ?_
  refine ji_aload_n dX8_move_0 rfl trivial ?_
  refine ji_get (ci := 8) (k := 1) rfl dX8_move_1 lX8_7 (by decide) (rf_60) rfl ?_
  refine ji_iconst dX8_move_4 ?_
  refine ji_iload_n dX8_move_5 rfl ?_
  refine ji_iastoreK (k := 1) dX8_move_6 (rf_61) rfl (by decide) (rf_s61) ?_
  refine ji_aload_n dX8_move_7 rfl trivial ?_
  refine ji_get (ci := 8) (k := 1) rfl dX8_move_8 lX8_7 (by decide) (rf_60) rfl ?_
  refine ji_iconst dX8_move_11 ?_
  refine ji_iload_n dX8_move_12 rfl ?_
  refine ji_iastoreK (k := 2) dX8_move_13 (rf_61) rfl (by decide) (rf_s61) ?_
  exact ji_return dX8_move_14 rfl ⟨rfl, rfl⟩

set_option maxHeartbeats 4000000 in
set_option maxRecDepth 100000 in
theorem r_keepJump_l {bc bs : Nat} {Q : ji_R → ji_H → Prop} (kk : ∀ k, JW G d mX8_keepJump 42 [some (.ref 60), some (.int (jI k))] [] (n, rf_f f th (rf_js z 8) kp ed nt nl wi ht sy sz bf rs rr rq rp mm ln lo lf lt co ro pg pf hsh) bc bs Q) : ∀ (u : Nat) (k : Int), 2 ≤ k ∧ k + u = 10 →
    JW G d mX8_keepJump 12 [some (.ref 60), some (.int (jI k))] [] (n, rf_f f th (rf_js z (k - 2).toNat) kp ed nt nl wi ht sy sz bf rs rr rq rp mm ln lo lf lt co ro pg pf hsh) bc bs Q := by
  intro u
  induction u with
  | zero =>
    intro k hk
    refine ji_iload_n dX8_keepJump_12 rfl ?_
    refine ji_bipush dX8_keepJump_13 rfl ?_
    refine ji_icmp_ge (tgt := 42) dX8_keepJump_15 rfl (by omega) (by omega) (fun c15 => ?_) (fun c15 => absurd c15 (by omega))
    exact ji_eqv (kk k) rfl rfl (by rw [show (k - 2).toNat = 8 by omega])
  | succ u ih =>
    intro k hk
    refine ji_iload_n dX8_keepJump_12 rfl ?_
    refine ji_bipush dX8_keepJump_13 rfl ?_
    refine ji_icmp_ge (tgt := 42) dX8_keepJump_15 rfl (by omega) (by omega) (fun c15 => absurd c15 (by omega)) (fun c15 => ?_)
    refine ji_aload_n dX8_keepJump_18 rfl trivial ?_
    refine ji_get (ci := 8) (k := 1) rfl dX8_keepJump_19 lX8_7 (by decide) (rf_60) rfl ?_
    refine ji_iconst dX8_keepJump_22 ?_
    refine ji_iload_n dX8_keepJump_23 rfl ?_
    refine ji_iadd dX8_keepJump_24 ?_
    refine ji_iconst dX8_keepJump_25 ?_
    refine ji_isub dX8_keepJump_26 ?_
    refine ji_aload_n dX8_keepJump_27 rfl trivial ?_
    refine ji_get (ci := 8) (k := 1) rfl dX8_keepJump_28 lX8_7 (by decide) (rf_60) rfl ?_
    refine ji_iconst dX8_keepJump_31 ?_
    refine ji_iload_n dX8_keepJump_32 rfl ?_
    refine ji_iadd dX8_keepJump_33 ?_
    refine ji_iaload dX8_keepJump_34 (rf_61) (by omega) ?_
    refine ji_iastoreE dX8_keepJump_35 (rf_61) (by omega) (rf_s61) ?_
    refine ji_iinc dX8_keepJump_36 (by decide) rfl rfl ?_
    refine ji_goto (tgt := 12) dX8_keepJump_39 rfl ?_
    exact ji_eqv (ih (k + 1) (by omega)) rfl rfl (by rw [show (k + 1 - 2).toNat = (k - 2).toNat + 1 by omega, rf_js, show (4 + k - 2).toNat = 4 + (k - 2).toNat by omega, show (4 + k).toNat = 6 + (k - 2).toNat by omega])

set_option maxHeartbeats 4000000 in
set_option maxRecDepth 100000 in
theorem r_keepJump_t {bc bs : Nat} {Z : Nat → Int} {o1 : Option Value} (h3 : 0 ≤ Z 3 ∧ Z 3 ≤ 4) : JW G d mX8_keepJump 52 [some (.ref 60), o1] [] (n, rf_f f th Z kp ed nt nl wi ht sy sz bf rs rr rq rp mm ln lo lf lt co ro pg pf hsh) bc bs (fun r9 h9 => r9 = .inl none ∧ h9 = (n, rf_f f th (rf_k4 (rf_k3 (rf_k2 Z))) kp ed nt nl wi ht sy sz bf rs rr rq rp mm ln lo lf lt co ro pg pf hsh)) := by
  have e2 : va_up Z (4 + 2 * Z 3).toNat (Z 1) 3 = Z 3 := va_up_ne _ _ (by omega)
  refine ji_aload_n dX8_keepJump_52 rfl trivial ?_
  refine ji_get (ci := 8) (k := 1) rfl dX8_keepJump_53 lX8_7 (by decide) (rf_60) rfl ?_
  refine ji_iconst dX8_keepJump_56 ?_
  refine ji_iconst dX8_keepJump_57 ?_
  refine ji_aload_n dX8_keepJump_58 rfl trivial ?_
  refine ji_get (ci := 8) (k := 1) rfl dX8_keepJump_59 lX8_7 (by decide) (rf_60) rfl ?_
  refine ji_iconst dX8_keepJump_62 ?_
  refine ji_ialoadK (k := 3) dX8_keepJump_63 (rf_61) rfl (by decide) ?_
  refine ji_imul dX8_keepJump_64 ?_
  refine ji_iadd dX8_keepJump_65 ?_
  refine ji_aload_n dX8_keepJump_66 rfl trivial ?_
  refine ji_get (ci := 8) (k := 1) rfl dX8_keepJump_67 lX8_7 (by decide) (rf_60) rfl ?_
  refine ji_iconst dX8_keepJump_70 ?_
  refine ji_ialoadK (k := 1) dX8_keepJump_71 (rf_61) rfl (by decide) ?_
  refine ji_iastoreE dX8_keepJump_72 (rf_61) (by omega) (rf_s61) ?_
  refine ji_aload_n dX8_keepJump_73 rfl trivial ?_
  refine ji_get (ci := 8) (k := 1) rfl dX8_keepJump_74 lX8_7 (by decide) (rf_60) rfl ?_
  refine ji_iconst dX8_keepJump_77 ?_
  refine ji_iconst dX8_keepJump_78 ?_
  refine ji_aload_n dX8_keepJump_79 rfl trivial ?_
  refine ji_get (ci := 8) (k := 1) rfl dX8_keepJump_80 lX8_7 (by decide) (rf_60) rfl ?_
  refine ji_iconst dX8_keepJump_83 ?_
  refine ji_ialoadK (k := 3) dX8_keepJump_84 (rf_61) rfl (by decide) ?_
  refine ji_imul dX8_keepJump_85 ?_
  refine ji_iadd dX8_keepJump_86 ?_
  refine ji_iconst dX8_keepJump_87 ?_
  refine ji_iadd dX8_keepJump_88 ?_
  refine ji_aload_n dX8_keepJump_89 rfl trivial ?_
  refine ji_get (ci := 8) (k := 1) rfl dX8_keepJump_90 lX8_7 (by decide) (rf_60) rfl ?_
  refine ji_iconst dX8_keepJump_93 ?_
  refine ji_ialoadK (k := 2) dX8_keepJump_94 (rf_61) rfl (by decide) ?_
  refine ji_iastoreE dX8_keepJump_95 (rf_61) (by omega) (rf_s61) ?_
  refine ji_aload_n dX8_keepJump_96 rfl trivial ?_
  refine ji_get (ci := 8) (k := 1) rfl dX8_keepJump_97 lX8_7 (by decide) (rf_60) rfl ?_
  refine ji_iconst dX8_keepJump_100 ?_
  refine ji_dup2 dX8_keepJump_101 rfl rfl ?_
  refine ji_ialoadK (k := 3) dX8_keepJump_102 (rf_61) rfl (by decide) ?_
  refine ji_iconst dX8_keepJump_103 ?_
  refine ji_iadd dX8_keepJump_104 ?_
  refine ji_iastoreK (k := 3) dX8_keepJump_105 (rf_61) rfl (by decide) (rf_s61) ?_
  exact ji_return dX8_keepJump_106 rfl ⟨rfl, rfl⟩

set_option maxHeartbeats 4000000 in
set_option maxRecDepth 100000 in
theorem r_keepJump (hj3 : 0 ≤ z 3 ∧ z 3 ≤ 5) : JR G d mX8_keepJump [.ref 60] (n, rf_f f th z kp ed nt nl wi ht sy sz bf rs rr rq rp mm ln lo lf lt co ro pg pf hsh) 0 0 none (n, rf_f f th (rf_kj z) kp ed nt nl wi ht sy sz bf rs rr rq rp mm ln lo lf lt co ro pg pf hsh) := by
  have e3 := rf_js_3 z 8
  have ek : rf_kj z = rf_k4 (rf_k3 (rf_k2 (rf_k1 z))) := rfl
  refine ji_ent (by decide) rfl (Nat.le_of_ble_eq_true rfl) rfl ?_
  refine ji_aload_n dX8_keepJump_0 rfl trivial ?_
  refine ji_get (ci := 8) (k := 1) rfl dX8_keepJump_1 lX8_7 (by decide) (rf_60) rfl ?_
  refine ji_iconst dX8_keepJump_4 ?_
  refine ji_ialoadK (k := 3) dX8_keepJump_5 (rf_61) rfl (by decide) ?_
  refine ji_iconst dX8_keepJump_6 ?_
  refine ji_icmp_ne (tgt := 52) dX8_keepJump_7 rfl (by omega) (by omega) (fun c7 => ?_) (fun c7 => ?_)
  · try (exfalso; omega)
    all_goals
      first | (rw [ek, show rf_k1 z = z from if_neg (by omega)]; exact r_keepJump_t (by omega)) | (rw [ek, show rf_k1 z = va_up (rf_js z 8) 3 (rf_js z 8 3 - 1) from if_pos (by omega)]; exact r_keepJump_t (by rw [va_up_self]; omega))
  · try (exfalso; omega)
    all_goals
      refine ji_iconst dX8_keepJump_10 ?_
      refine ji_istore_n dX8_keepJump_11 (by decide) rfl ?_
      refine ji_eqv (h2 := (n, rf_f f th (rf_js z ((2 : Int) - 2).toNat) kp ed nt nl wi ht sy sz bf rs rr rq rp mm ln lo lf lt co ro pg pf hsh)) (r_keepJump_l (fun k => ?_) 8 2 (by omega)) rfl rfl rfl
      refine ji_aload_n dX8_keepJump_42 rfl trivial ?_
      refine ji_get (ci := 8) (k := 1) rfl dX8_keepJump_43 lX8_7 (by decide) (rf_60) rfl ?_
      refine ji_iconst dX8_keepJump_46 ?_
      refine ji_dup2 dX8_keepJump_47 rfl rfl ?_
      refine ji_ialoadK (k := 3) dX8_keepJump_48 (rf_61) rfl (by decide) ?_
      refine ji_iconst dX8_keepJump_49 ?_
      refine ji_isub dX8_keepJump_50 ?_
      refine ji_iastoreK (k := 3) dX8_keepJump_51 (rf_61) rfl (by decide) (rf_s61) ?_
      first | (rw [ek, show rf_k1 z = z from if_neg (by omega)]; exact r_keepJump_t (by omega)) | (rw [ek, show rf_k1 z = va_up (rf_js z 8) 3 (rf_js z 8 3 - 1) from if_pos (by omega)]; exact r_keepJump_t (by rw [va_up_self]; omega))

set_option maxHeartbeats 4000000 in
set_option maxRecDepth 100000 in
theorem r_go1 (hrf : rf_ok wi ht z nl nt sy) {q o : Int} (b_q : -2147483648 ≤ q ∧ q < 2147483648) (b_o : -2147483648 ≤ o ∧ o < 2147483648) (hx : ¬ ((0 ≤ q ∧ q < z 0) ∧ 0 ≤ o ∧ o < z (85 + q).toNat)) : JR G (d + 9) mX8_go [.ref 60, .int (jI q), .int (jI o)] (n, rf_f f th z kp ed nt nl wi ht sy sz bf rs rr rq rp mm ln lo lf lt co ro pg pf hsh) 0 0 (some (.int (jI 0))) (n, rf_f f 1 z kp ed nt nl wi ht sy sz bf rs rr rq rp mm ln lo lf lt co ro pg pf hsh) := by
  obtain ⟨hz, hn, hk, hrc, ⟨hw9, hh9⟩, ⟨hm9, hj9⟩, hll⟩ := id hrf
  have zb := hz.2.1
  have wip := rf_IP_d z q o
  refine ji_ent (by decide) rfl (Nat.le_of_ble_eq_true rfl) rfl ?_
  refine ji_aload_n dX8_go_0 rfl trivial ?_
  refine ji_aload_n dX8_go_1 rfl trivial ?_
  refine ji_iload_n dX8_go_2 rfl ?_
  refine ji_iload_n dX8_go_3 rfl ?_
  refine ji_cV dX8_go_4 (r_isPosition hz (by omega) (by omega)) rfl (rf_60) rfl rfl wX8_isPosition vX8_isPosition lX8_238 rfl (Nat.le_of_ble_eq_true rfl) rfl ?_
  refine ji_if_eq (tgt := 14) dX8_go_7 rfl (by omega) (fun c7 => ?_) (fun c7 => ?_)
  · try (exfalso; omega)
    all_goals
      refine ji_iconst dX8_go_14 ?_
      refine ji_putE (ci := 8) (k := 0) rfl dX8_go_15 lX8_47 (by decide) (rf_60) (by simp [rf_c]) (ji_fitI _) rfl (rf_pth) ?_
      refine ji_aload_n dX8_go_18 rfl trivial ?_
      refine ji_get (ci := 8) (k := 0) rfl dX8_go_19 lX8_47 (by decide) (rf_60) rfl ?_
      refine ji_if_le (tgt := 27) dX8_go_22 rfl (by omega) (fun c22 => ?_) (fun c22 => ?_)
      · try (exfalso; omega)
        all_goals
          refine ji_aload_n dX8_go_27 rfl trivial ?_
          refine ji_cVv dX8_go_28 (r_keepJump (by omega)) rfl (rf_60) rfl rfl wX8_keepJump vX8_keepJump lX8_244 rfl (Nat.le_of_ble_eq_true rfl) rfl ?_
          refine ji_aload_n dX8_go_31 rfl trivial ?_
          refine ji_iload_n dX8_go_32 rfl ?_
          refine ji_iload_n dX8_go_33 rfl ?_
          refine ji_cVv dX8_go_34 (r_move) rfl (rf_60) rfl rfl wX8_move vX8_move lX8_247 rfl (Nat.le_of_ble_eq_true rfl) rfl ?_
          refine ji_aload_n dX8_go_37 rfl trivial ?_
          exfalso; omega
      · try (exfalso; omega)
        all_goals
          refine ji_iconst dX8_go_25 ?_
          exact ji_ireturn dX8_go_26 rfl (rfl) ⟨jr_i (by first | rfl | omega), rfl⟩
  · try (exfalso; omega)
    all_goals
      refine ji_iconst dX8_go_10 ?_
      refine ji_goto (tgt := 15) dX8_go_11 rfl ?_
      refine ji_putE (ci := 8) (k := 0) rfl dX8_go_15 lX8_47 (by decide) (rf_60) (by simp [rf_c]) (ji_fitI _) rfl (rf_pth) ?_
      refine ji_aload_n dX8_go_18 rfl trivial ?_
      refine ji_get (ci := 8) (k := 0) rfl dX8_go_19 lX8_47 (by decide) (rf_60) rfl ?_
      refine ji_if_le (tgt := 27) dX8_go_22 rfl (by omega) (fun c22 => ?_) (fun c22 => ?_)
      · try (exfalso; omega)
        all_goals
          refine ji_aload_n dX8_go_27 rfl trivial ?_
          refine ji_cVv dX8_go_28 (r_keepJump (by omega)) rfl (rf_60) rfl rfl wX8_keepJump vX8_keepJump lX8_244 rfl (Nat.le_of_ble_eq_true rfl) rfl ?_
          refine ji_aload_n dX8_go_31 rfl trivial ?_
          refine ji_iload_n dX8_go_32 rfl ?_
          refine ji_iload_n dX8_go_33 rfl ?_
          refine ji_cVv dX8_go_34 (r_move) rfl (rf_60) rfl rfl wX8_move vX8_move lX8_247 rfl (Nat.le_of_ble_eq_true rfl) rfl ?_
          refine ji_aload_n dX8_go_37 rfl trivial ?_
          exfalso; omega
      · try (exfalso; omega)
        all_goals
          refine ji_iconst dX8_go_25 ?_
          exact ji_ireturn dX8_go_26 rfl (rfl) ⟨jr_i (by first | rfl | omega), rfl⟩

set_option maxHeartbeats 4000000 in
set_option maxRecDepth 100000 in
theorem r_go (hrf : rf_ok wi ht z nl nt sy) {q o : Int} (hx : (0 ≤ q ∧ q < z 0) ∧ 0 ≤ o ∧ o < z (85 + q).toNat) {z9 : Nat → Int} (ez : z9 = rf_mv (rf_kj z) q o) (hrf2 : rf_ok wi ht z9 nl nt sy) : JR G (d + 9) mX8_go [.ref 60, .int (jI q), .int (jI o)] (n, rf_f f th z kp ed nt nl wi ht sy sz bf rs rr rq rp mm ln lo lf lt co ro pg pf hsh) 0 0 (some (.int (jI (rf_PW ((rf_LL z9 nl nt sy wi lo lf lt).1) ((rf_LL z9 nl nt sy wi lo lf lt).2.1) ((rf_LL z9 nl nt sy wi lo lf lt).2.2.1) ((rf_PG z9 nl nt sy wi ht (rf_LL z9 nl nt sy wi lo lf lt).1 (rf_LL z9 nl nt sy wi lo lf lt).2.1 (rf_LL z9 nl nt sy wi lo lf lt).2.2.1 (rf_LL z9 nl nt sy wi lo lf lt).2.2.2 pf).1) (va_up (rf_PG z9 nl nt sy wi ht (rf_LL z9 nl nt sy wi lo lf lt).1 (rf_LL z9 nl nt sy wi lo lf lt).2.1 (rf_LL z9 nl nt sy wi lo lf lt).2.2.1 (rf_LL z9 nl nt sy wi lo lf lt).2.2.2 pf).2 (rf_PG z9 nl nt sy wi ht (rf_LL z9 nl nt sy wi lo lf lt).1 (rf_LL z9 nl nt sy wi lo lf lt).2.1 (rf_LL z9 nl nt sy wi lo lf lt).2.2.1 (rf_LL z9 nl nt sy wi lo lf lt).2.2.2 pf).1.toNat (rf_LL z9 nl nt sy wi lo lf lt).1) (z9 1) (z9 2))))) (n, rf_f f 0 z9 kp ed nt nl wi ht sy sz bf rs rr rq rp mm ((rf_LL z9 nl nt sy wi lo lf lt).1) ((rf_LL z9 nl nt sy wi lo lf lt).2.1) ((rf_LL z9 nl nt sy wi lo lf lt).2.2.1) ((rf_LL z9 nl nt sy wi lo lf lt).2.2.2) wi ht ((rf_PG z9 nl nt sy wi ht (rf_LL z9 nl nt sy wi lo lf lt).1 (rf_LL z9 nl nt sy wi lo lf lt).2.1 (rf_LL z9 nl nt sy wi lo lf lt).2.2.1 (rf_LL z9 nl nt sy wi lo lf lt).2.2.2 pf).1) (va_up (rf_PG z9 nl nt sy wi ht (rf_LL z9 nl nt sy wi lo lf lt).1 (rf_LL z9 nl nt sy wi lo lf lt).2.1 (rf_LL z9 nl nt sy wi lo lf lt).2.2.1 (rf_LL z9 nl nt sy wi lo lf lt).2.2.2 pf).2 (rf_PG z9 nl nt sy wi ht (rf_LL z9 nl nt sy wi lo lf lt).1 (rf_LL z9 nl nt sy wi lo lf lt).2.1 (rf_LL z9 nl nt sy wi lo lf lt).2.2.1 (rf_LL z9 nl nt sy wi lo lf lt).2.2.2 pf).1.toNat (rf_LL z9 nl nt sy wi lo lf lt).1) hsh) := by
  obtain ⟨hz, hn, hk, hrc, ⟨hw9, hh9⟩, ⟨hm9, hj9⟩, hll⟩ := id hrf
  have zb := hz.2.1
  have wip := rf_IP_d z q o
  have zq := hz.2.2.1 (85 + q).toNat (by omega) (by omega)
  clear hll hrc hk hn hw9 hh9 hm9
  obtain ⟨hz0, hj0, zb0⟩ : rz_ok z ∧ (0 ≤ z 3 ∧ z 3 ≤ 5) ∧ (1 ≤ z 0 ∧ z 0 ≤ 10) := ⟨hz, hj9, zb⟩
  clear hz hj9 zb
  subst ez
  obtain ⟨hz, hn, hk, hrc, ⟨hw9, hh9⟩, ⟨hm9, hj9⟩, hll⟩ := id hrf2
  have zb := hz.2.1
  have hF := (hll wi lo lf lt (by omega)).2
  have hl1 := (hll wi lo lf lt (by omega)).1
  have hc9 : 0 ≤ wi ∧ wi ≤ 100 := by omega
  have hro : 0 ≤ ht ∧ ht ≤ 100 := by omega
  have hrl := rf_LL_ok hz hF
  have hpk := rf_PG_ok (rf_mv (rf_kj z) q o) nl nt sy wi ht (rf_LL (rf_mv (rf_kj z) q o) nl nt sy wi lo lf lt).2.1 (rf_LL (rf_mv (rf_kj z) q o) nl nt sy wi lo lf lt).2.2.1 (rf_LL (rf_mv (rf_kj z) q o) nl nt sy wi lo lf lt).2.2.2 pf (ln := (rf_LL (rf_mv (rf_kj z) q o) nl nt sy wi lo lf lt).1) (by omega)
  have hpp := hpk.pos (by omega)
  have hpl := hpk.1
  refine ji_ent (by decide) rfl (Nat.le_of_ble_eq_true rfl) rfl ?_
  refine ji_aload_n dX8_go_0 rfl trivial ?_
  refine ji_aload_n dX8_go_1 rfl trivial ?_
  refine ji_iload_n dX8_go_2 rfl ?_
  refine ji_iload_n dX8_go_3 rfl ?_
  refine ji_cV dX8_go_4 (r_isPosition hz0 (by omega) (by omega)) rfl (rf_60) rfl rfl wX8_isPosition vX8_isPosition lX8_238 rfl (Nat.le_of_ble_eq_true rfl) rfl ?_
  refine ji_if_eq (tgt := 14) dX8_go_7 rfl (by omega) (fun c7 => ?_) (fun c7 => ?_)
  · try (exfalso; omega)
    all_goals
      refine ji_iconst dX8_go_14 ?_
      refine ji_putE (ci := 8) (k := 0) rfl dX8_go_15 lX8_47 (by decide) (rf_60) (by simp [rf_c]) (ji_fitI _) rfl (rf_pth) ?_
      refine ji_aload_n dX8_go_18 rfl trivial ?_
      refine ji_get (ci := 8) (k := 0) rfl dX8_go_19 lX8_47 (by decide) (rf_60) rfl ?_
      refine ji_if_le (tgt := 27) dX8_go_22 rfl (by omega) (fun c22 => ?_) (fun c22 => ?_)
      · try (exfalso; omega)
        all_goals
          refine ji_aload_n dX8_go_27 rfl trivial ?_
          refine ji_cVv dX8_go_28 (r_keepJump (by omega)) rfl (rf_60) rfl rfl wX8_keepJump vX8_keepJump lX8_244 rfl (Nat.le_of_ble_eq_true rfl) rfl ?_
          refine ji_aload_n dX8_go_31 rfl trivial ?_
          refine ji_iload_n dX8_go_32 rfl ?_
          refine ji_iload_n dX8_go_33 rfl ?_
          refine ji_cVv dX8_go_34 (r_move) rfl (rf_60) rfl rfl wX8_move vX8_move lX8_247 rfl (Nat.le_of_ble_eq_true rfl) rfl ?_
          refine ji_aload_n dX8_go_37 rfl trivial ?_
          refine ji_cVv dX8_go_38 (r_layAll hz hn hk hrc (by omega) (by omega) hF) rfl (rf_60) rfl rfl wX8_layAll vX8_layAll lX8_189 rfl (Nat.le_of_ble_eq_true rfl) rfl ?_
          refine ji_aload_n dX8_go_41 rfl trivial ?_
          refine ji_cV dX8_go_42 (r_here hz hrl hpk hl1) rfl (rf_60) rfl rfl wX8_here vX8_here lX8_250 rfl (Nat.le_of_ble_eq_true rfl) rfl ?_
          exact ji_ireturn dX8_go_45 rfl (rfl) ⟨rfl, rfl⟩
      · try (exfalso; omega)
        all_goals
          refine ji_iconst dX8_go_25 ?_
          exact ji_ireturn dX8_go_26 rfl (rfl) ⟨rfl, rfl⟩
  · try (exfalso; omega)
    all_goals
      refine ji_iconst dX8_go_10 ?_
      refine ji_goto (tgt := 15) dX8_go_11 rfl ?_
      refine ji_putE (ci := 8) (k := 0) rfl dX8_go_15 lX8_47 (by decide) (rf_60) (by simp [rf_c]) (ji_fitI _) rfl (rf_pth) ?_
      refine ji_aload_n dX8_go_18 rfl trivial ?_
      refine ji_get (ci := 8) (k := 0) rfl dX8_go_19 lX8_47 (by decide) (rf_60) rfl ?_
      refine ji_if_le (tgt := 27) dX8_go_22 rfl (by omega) (fun c22 => ?_) (fun c22 => ?_)
      · try (exfalso; omega)
        all_goals
          refine ji_aload_n dX8_go_27 rfl trivial ?_
          refine ji_cVv dX8_go_28 (r_keepJump (by omega)) rfl (rf_60) rfl rfl wX8_keepJump vX8_keepJump lX8_244 rfl (Nat.le_of_ble_eq_true rfl) rfl ?_
          refine ji_aload_n dX8_go_31 rfl trivial ?_
          refine ji_iload_n dX8_go_32 rfl ?_
          refine ji_iload_n dX8_go_33 rfl ?_
          refine ji_cVv dX8_go_34 (r_move) rfl (rf_60) rfl rfl wX8_move vX8_move lX8_247 rfl (Nat.le_of_ble_eq_true rfl) rfl ?_
          refine ji_aload_n dX8_go_37 rfl trivial ?_
          refine ji_cVv dX8_go_38 (r_layAll hz hn hk hrc (by omega) (by omega) hF) rfl (rf_60) rfl rfl wX8_layAll vX8_layAll lX8_189 rfl (Nat.le_of_ble_eq_true rfl) rfl ?_
          refine ji_aload_n dX8_go_41 rfl trivial ?_
          refine ji_cV dX8_go_42 (r_here hz hrl hpk hl1) rfl (rf_60) rfl rfl wX8_here vX8_here lX8_250 rfl (Nat.le_of_ble_eq_true rfl) rfl ?_
          exact ji_ireturn dX8_go_45 rfl (rfl) ⟨rfl, rfl⟩
      · try (exfalso; omega)
        all_goals
          refine ji_iconst dX8_go_25 ?_
          exact ji_ireturn dX8_go_26 rfl (rfl) ⟨rfl, rfl⟩

set_option maxHeartbeats 4000000 in
set_option maxRecDepth 100000 in
theorem r_turn1N (hrf : rf_ok wi ht z nl nt sy) (hx : ((rf_PW ((rf_LL z nl nt sy wi lo lf lt).1) ((rf_LL z nl nt sy wi lo lf lt).2.1) ((rf_LL z nl nt sy wi lo lf lt).2.2.1) ((rf_PG z nl nt sy wi ht (rf_LL z nl nt sy wi lo lf lt).1 (rf_LL z nl nt sy wi lo lf lt).2.1 (rf_LL z nl nt sy wi lo lf lt).2.2.1 (rf_LL z nl nt sy wi lo lf lt).2.2.2 pf).1) (va_up (rf_PG z nl nt sy wi ht (rf_LL z nl nt sy wi lo lf lt).1 (rf_LL z nl nt sy wi lo lf lt).2.1 (rf_LL z nl nt sy wi lo lf lt).2.2.1 (rf_LL z nl nt sy wi lo lf lt).2.2.2 pf).2 (rf_PG z nl nt sy wi ht (rf_LL z nl nt sy wi lo lf lt).1 (rf_LL z nl nt sy wi lo lf lt).2.1 (rf_LL z nl nt sy wi lo lf lt).2.2.1 (rf_LL z nl nt sy wi lo lf lt).2.2.2 pf).1.toNat (rf_LL z nl nt sy wi lo lf lt).1) (z 1) (z 2)) + 1) < 0 ∨ (rf_PG z nl nt sy wi ht (rf_LL z nl nt sy wi lo lf lt).1 (rf_LL z nl nt sy wi lo lf lt).2.1 (rf_LL z nl nt sy wi lo lf lt).2.2.1 (rf_LL z nl nt sy wi lo lf lt).2.2.2 pf).1 ≤ ((rf_PW ((rf_LL z nl nt sy wi lo lf lt).1) ((rf_LL z nl nt sy wi lo lf lt).2.1) ((rf_LL z nl nt sy wi lo lf lt).2.2.1) ((rf_PG z nl nt sy wi ht (rf_LL z nl nt sy wi lo lf lt).1 (rf_LL z nl nt sy wi lo lf lt).2.1 (rf_LL z nl nt sy wi lo lf lt).2.2.1 (rf_LL z nl nt sy wi lo lf lt).2.2.2 pf).1) (va_up (rf_PG z nl nt sy wi ht (rf_LL z nl nt sy wi lo lf lt).1 (rf_LL z nl nt sy wi lo lf lt).2.1 (rf_LL z nl nt sy wi lo lf lt).2.2.1 (rf_LL z nl nt sy wi lo lf lt).2.2.2 pf).2 (rf_PG z nl nt sy wi ht (rf_LL z nl nt sy wi lo lf lt).1 (rf_LL z nl nt sy wi lo lf lt).2.1 (rf_LL z nl nt sy wi lo lf lt).2.2.1 (rf_LL z nl nt sy wi lo lf lt).2.2.2 pf).1.toNat (rf_LL z nl nt sy wi lo lf lt).1) (z 1) (z 2)) + 1)) : JR G (d + 9) mX8_turn [.ref 60, .int (jI 1)] (n, rf_f f th z kp ed nt nl wi ht sy sz bf rs rr rq rp mm ln lo lf lt co ro pg pf hsh) 0 0 (some (.int (jI (-1)))) (n, rf_f f 0 z kp ed nt nl wi ht sy sz bf rs rr rq rp mm ((rf_LL z nl nt sy wi lo lf lt).1) ((rf_LL z nl nt sy wi lo lf lt).2.1) ((rf_LL z nl nt sy wi lo lf lt).2.2.1) ((rf_LL z nl nt sy wi lo lf lt).2.2.2) wi ht ((rf_PG z nl nt sy wi ht (rf_LL z nl nt sy wi lo lf lt).1 (rf_LL z nl nt sy wi lo lf lt).2.1 (rf_LL z nl nt sy wi lo lf lt).2.2.1 (rf_LL z nl nt sy wi lo lf lt).2.2.2 pf).1) (va_up (rf_PG z nl nt sy wi ht (rf_LL z nl nt sy wi lo lf lt).1 (rf_LL z nl nt sy wi lo lf lt).2.1 (rf_LL z nl nt sy wi lo lf lt).2.2.1 (rf_LL z nl nt sy wi lo lf lt).2.2.2 pf).2 (rf_PG z nl nt sy wi ht (rf_LL z nl nt sy wi lo lf lt).1 (rf_LL z nl nt sy wi lo lf lt).2.1 (rf_LL z nl nt sy wi lo lf lt).2.2.1 (rf_LL z nl nt sy wi lo lf lt).2.2.2 pf).1.toNat (rf_LL z nl nt sy wi lo lf lt).1) hsh) := by
  obtain ⟨hz, hn, hk, hrc, ⟨hw9, hh9⟩, ⟨hm9, hj9⟩, hll⟩ := id hrf
  have zb := hz.2.1
  have hF := (hll wi lo lf lt (by omega)).2
  have hl1 := (hll wi lo lf lt (by omega)).1
  have hc9 : 0 ≤ wi ∧ wi ≤ 100 := by omega
  have hro : 0 ≤ ht ∧ ht ≤ 100 := by omega
  have hrl := rf_LL_ok hz hF
  have hpk := rf_PG_ok z nl nt sy wi ht (rf_LL z nl nt sy wi lo lf lt).2.1 (rf_LL z nl nt sy wi lo lf lt).2.2.1 (rf_LL z nl nt sy wi lo lf lt).2.2.2 pf (ln := (rf_LL z nl nt sy wi lo lf lt).1) (by omega)
  have hpp := hpk.pos (by omega)
  have hpl := hpk.1
  have wla := rf_LA_b ((rf_LL z nl nt sy wi lo lf lt).2.1) ((rf_LL z nl nt sy wi lo lf lt).2.2.1) (z 1) (z 2) (ln := (rf_LL z nl nt sy wi lo lf lt).1) (by omega)
  have wpw := rf_PA_b hpk wla
  have whe : (rf_PW ((rf_LL z nl nt sy wi lo lf lt).1) ((rf_LL z nl nt sy wi lo lf lt).2.1) ((rf_LL z nl nt sy wi lo lf lt).2.2.1) ((rf_PG z nl nt sy wi ht (rf_LL z nl nt sy wi lo lf lt).1 (rf_LL z nl nt sy wi lo lf lt).2.1 (rf_LL z nl nt sy wi lo lf lt).2.2.1 (rf_LL z nl nt sy wi lo lf lt).2.2.2 pf).1) (va_up (rf_PG z nl nt sy wi ht (rf_LL z nl nt sy wi lo lf lt).1 (rf_LL z nl nt sy wi lo lf lt).2.1 (rf_LL z nl nt sy wi lo lf lt).2.2.1 (rf_LL z nl nt sy wi lo lf lt).2.2.2 pf).2 (rf_PG z nl nt sy wi ht (rf_LL z nl nt sy wi lo lf lt).1 (rf_LL z nl nt sy wi lo lf lt).2.1 (rf_LL z nl nt sy wi lo lf lt).2.2.1 (rf_LL z nl nt sy wi lo lf lt).2.2.2 pf).1.toNat (rf_LL z nl nt sy wi lo lf lt).1) (z 1) (z 2)) = rf_PA ((rf_PG z nl nt sy wi ht (rf_LL z nl nt sy wi lo lf lt).1 (rf_LL z nl nt sy wi lo lf lt).2.1 (rf_LL z nl nt sy wi lo lf lt).2.2.1 (rf_LL z nl nt sy wi lo lf lt).2.2.2 pf).1) (va_up (rf_PG z nl nt sy wi ht (rf_LL z nl nt sy wi lo lf lt).1 (rf_LL z nl nt sy wi lo lf lt).2.1 (rf_LL z nl nt sy wi lo lf lt).2.2.1 (rf_LL z nl nt sy wi lo lf lt).2.2.2 pf).2 (rf_PG z nl nt sy wi ht (rf_LL z nl nt sy wi lo lf lt).1 (rf_LL z nl nt sy wi lo lf lt).2.1 (rf_LL z nl nt sy wi lo lf lt).2.2.1 (rf_LL z nl nt sy wi lo lf lt).2.2.2 pf).1.toNat (rf_LL z nl nt sy wi lo lf lt).1) (rf_LA ((rf_LL z nl nt sy wi lo lf lt).1) ((rf_LL z nl nt sy wi lo lf lt).2.1) ((rf_LL z nl nt sy wi lo lf lt).2.2.1) (z 1) (z 2)) := rfl
  have wt := rf_in_d ((rf_PW ((rf_LL z nl nt sy wi lo lf lt).1) ((rf_LL z nl nt sy wi lo lf lt).2.1) ((rf_LL z nl nt sy wi lo lf lt).2.2.1) ((rf_PG z nl nt sy wi ht (rf_LL z nl nt sy wi lo lf lt).1 (rf_LL z nl nt sy wi lo lf lt).2.1 (rf_LL z nl nt sy wi lo lf lt).2.2.1 (rf_LL z nl nt sy wi lo lf lt).2.2.2 pf).1) (va_up (rf_PG z nl nt sy wi ht (rf_LL z nl nt sy wi lo lf lt).1 (rf_LL z nl nt sy wi lo lf lt).2.1 (rf_LL z nl nt sy wi lo lf lt).2.2.1 (rf_LL z nl nt sy wi lo lf lt).2.2.2 pf).2 (rf_PG z nl nt sy wi ht (rf_LL z nl nt sy wi lo lf lt).1 (rf_LL z nl nt sy wi lo lf lt).2.1 (rf_LL z nl nt sy wi lo lf lt).2.2.1 (rf_LL z nl nt sy wi lo lf lt).2.2.2 pf).1.toNat (rf_LL z nl nt sy wi lo lf lt).1) (z 1) (z 2)) + 1) 0 ((rf_PG z nl nt sy wi ht (rf_LL z nl nt sy wi lo lf lt).1 (rf_LL z nl nt sy wi lo lf lt).2.1 (rf_LL z nl nt sy wi lo lf lt).2.2.1 (rf_LL z nl nt sy wi lo lf lt).2.2.2 pf).1 - 1)
  refine ji_ent (by decide) rfl (Nat.le_of_ble_eq_true rfl) rfl ?_
  refine ji_aload_n dX8_turn_0 rfl trivial ?_
  refine ji_iconst dX8_turn_1 ?_
  refine ji_putE (ci := 8) (k := 0) rfl dX8_turn_2 lX8_47 (by decide) (rf_60) (by simp [rf_c]) (ji_fitI _) rfl (rf_pth) ?_
  refine ji_aload_n dX8_turn_5 rfl trivial ?_
  refine ji_cVv dX8_turn_6 (r_layAll hz hn hk hrc (by omega) (by omega) hF) rfl (rf_60) rfl rfl wX8_layAll vX8_layAll lX8_189 rfl (Nat.le_of_ble_eq_true rfl) rfl ?_
  refine ji_aload_n dX8_turn_9 rfl trivial ?_
  refine ji_cV dX8_turn_10 (r_here hz hrl hpk hl1) rfl (rf_60) rfl rfl wX8_here vX8_here lX8_250 rfl (Nat.le_of_ble_eq_true rfl) rfl ?_
  refine ji_iload_n dX8_turn_13 rfl ?_
  refine ji_if_eq (tgt := 21) dX8_turn_14 rfl (by omega) (fun c14 => ?_) (fun c14 => ?_)
  · try (exfalso; omega)
    all_goals
      refine ji_iconst dX8_turn_21 ?_
      refine ji_iadd dX8_turn_22 ?_
      refine ji_istore_n dX8_turn_23 (by decide) rfl ?_
      refine ji_iload_n dX8_turn_24 rfl ?_
      refine ji_iconst dX8_turn_25 ?_
      refine ji_aload_n dX8_turn_26 rfl trivial ?_
      refine ji_get (ci := 8) (k := 22) rfl dX8_turn_27 lX8_170 (by decide) (rf_60) rfl ?_
      refine ji_iconst dX8_turn_30 ?_
      refine ji_isub dX8_turn_31 ?_
      refine ji_cS dX8_turn_32 (r_within (by omega) (by omega) (by omega)) rfl wX8_within sX8_within lX8_50 rfl (Nat.le_of_ble_eq_true rfl) rfl ?_
      refine ji_if_ne (tgt := 40) dX8_turn_35 rfl (by omega) (fun c35 => ?_) (fun c35 => ?_)
      · try (exfalso; omega)
        all_goals
          refine ji_aload_n dX8_turn_40 rfl trivial ?_
          refine ji_aload_n dX8_turn_41 rfl trivial ?_
          refine ji_get (ci := 8) (k := 17) rfl dX8_turn_42 lX8_35 (by decide) (rf_60) rfl ?_
          refine ji_aload_n dX8_turn_45 rfl trivial ?_
          refine ji_get (ci := 8) (k := 23) rfl dX8_turn_46 lX8_44 (by decide) (rf_60) rfl ?_
          refine ji_iload_n dX8_turn_49 rfl ?_
          refine ji_iaload dX8_turn_50 (rf_70) (by omega) ?_
          refine ji_iaload dX8_turn_51 (rf_67) (by omega) ?_
          refine ji_aload_n dX8_turn_52 rfl trivial ?_
          refine ji_get (ci := 8) (k := 18) rfl dX8_turn_53 lX8_38 (by decide) (rf_60) rfl ?_
          refine ji_aload_n dX8_turn_56 rfl trivial ?_
          refine ji_get (ci := 8) (k := 23) rfl dX8_turn_57 lX8_44 (by decide) (rf_60) rfl ?_
          refine ji_iload_n dX8_turn_60 rfl ?_
          refine ji_iaload dX8_turn_61 (rf_70) (by omega) ?_
          refine ji_iaload dX8_turn_62 (rf_68) (by omega) ?_
          exfalso; omega
      · try (exfalso; omega)
        all_goals
          refine ji_iconst dX8_turn_38 ?_
          exact ji_ireturn dX8_turn_39 rfl (rfl) ⟨jr_i (by first | rfl | omega), rfl⟩
  · try (exfalso; omega)
    all_goals
      refine ji_iconst dX8_turn_17 ?_
      refine ji_goto (tgt := 22) dX8_turn_18 rfl ?_
      refine ji_iadd dX8_turn_22 ?_
      refine ji_istore_n dX8_turn_23 (by decide) rfl ?_
      refine ji_iload_n dX8_turn_24 rfl ?_
      refine ji_iconst dX8_turn_25 ?_
      refine ji_aload_n dX8_turn_26 rfl trivial ?_
      refine ji_get (ci := 8) (k := 22) rfl dX8_turn_27 lX8_170 (by decide) (rf_60) rfl ?_
      refine ji_iconst dX8_turn_30 ?_
      refine ji_isub dX8_turn_31 ?_
      refine ji_cS dX8_turn_32 (r_within (by omega) (by omega) (by omega)) rfl wX8_within sX8_within lX8_50 rfl (Nat.le_of_ble_eq_true rfl) rfl ?_
      refine ji_if_ne (tgt := 40) dX8_turn_35 rfl (by omega) (fun c35 => ?_) (fun c35 => ?_)
      · try (exfalso; omega)
        all_goals
          refine ji_aload_n dX8_turn_40 rfl trivial ?_
          refine ji_aload_n dX8_turn_41 rfl trivial ?_
          refine ji_get (ci := 8) (k := 17) rfl dX8_turn_42 lX8_35 (by decide) (rf_60) rfl ?_
          refine ji_aload_n dX8_turn_45 rfl trivial ?_
          refine ji_get (ci := 8) (k := 23) rfl dX8_turn_46 lX8_44 (by decide) (rf_60) rfl ?_
          refine ji_iload_n dX8_turn_49 rfl ?_
          refine ji_iaload dX8_turn_50 (rf_70) (by omega) ?_
          refine ji_iaload dX8_turn_51 (rf_67) (by omega) ?_
          refine ji_aload_n dX8_turn_52 rfl trivial ?_
          refine ji_get (ci := 8) (k := 18) rfl dX8_turn_53 lX8_38 (by decide) (rf_60) rfl ?_
          refine ji_aload_n dX8_turn_56 rfl trivial ?_
          refine ji_get (ci := 8) (k := 23) rfl dX8_turn_57 lX8_44 (by decide) (rf_60) rfl ?_
          refine ji_iload_n dX8_turn_60 rfl ?_
          refine ji_iaload dX8_turn_61 (rf_70) (by omega) ?_
          refine ji_iaload dX8_turn_62 (rf_68) (by omega) ?_
          exfalso; omega
      · try (exfalso; omega)
        all_goals
          refine ji_iconst dX8_turn_38 ?_
          exact ji_ireturn dX8_turn_39 rfl (rfl) ⟨jr_i (by first | rfl | omega), rfl⟩

set_option maxHeartbeats 4000000 in
set_option maxRecDepth 100000 in
theorem r_turn1 (hrf : rf_ok wi ht z nl nt sy) (hx : 0 ≤ ((rf_PW ((rf_LL z nl nt sy wi lo lf lt).1) ((rf_LL z nl nt sy wi lo lf lt).2.1) ((rf_LL z nl nt sy wi lo lf lt).2.2.1) ((rf_PG z nl nt sy wi ht (rf_LL z nl nt sy wi lo lf lt).1 (rf_LL z nl nt sy wi lo lf lt).2.1 (rf_LL z nl nt sy wi lo lf lt).2.2.1 (rf_LL z nl nt sy wi lo lf lt).2.2.2 pf).1) (va_up (rf_PG z nl nt sy wi ht (rf_LL z nl nt sy wi lo lf lt).1 (rf_LL z nl nt sy wi lo lf lt).2.1 (rf_LL z nl nt sy wi lo lf lt).2.2.1 (rf_LL z nl nt sy wi lo lf lt).2.2.2 pf).2 (rf_PG z nl nt sy wi ht (rf_LL z nl nt sy wi lo lf lt).1 (rf_LL z nl nt sy wi lo lf lt).2.1 (rf_LL z nl nt sy wi lo lf lt).2.2.1 (rf_LL z nl nt sy wi lo lf lt).2.2.2 pf).1.toNat (rf_LL z nl nt sy wi lo lf lt).1) (z 1) (z 2)) + 1) ∧ ((rf_PW ((rf_LL z nl nt sy wi lo lf lt).1) ((rf_LL z nl nt sy wi lo lf lt).2.1) ((rf_LL z nl nt sy wi lo lf lt).2.2.1) ((rf_PG z nl nt sy wi ht (rf_LL z nl nt sy wi lo lf lt).1 (rf_LL z nl nt sy wi lo lf lt).2.1 (rf_LL z nl nt sy wi lo lf lt).2.2.1 (rf_LL z nl nt sy wi lo lf lt).2.2.2 pf).1) (va_up (rf_PG z nl nt sy wi ht (rf_LL z nl nt sy wi lo lf lt).1 (rf_LL z nl nt sy wi lo lf lt).2.1 (rf_LL z nl nt sy wi lo lf lt).2.2.1 (rf_LL z nl nt sy wi lo lf lt).2.2.2 pf).2 (rf_PG z nl nt sy wi ht (rf_LL z nl nt sy wi lo lf lt).1 (rf_LL z nl nt sy wi lo lf lt).2.1 (rf_LL z nl nt sy wi lo lf lt).2.2.1 (rf_LL z nl nt sy wi lo lf lt).2.2.2 pf).1.toNat (rf_LL z nl nt sy wi lo lf lt).1) (z 1) (z 2)) + 1) < (rf_PG z nl nt sy wi ht (rf_LL z nl nt sy wi lo lf lt).1 (rf_LL z nl nt sy wi lo lf lt).2.1 (rf_LL z nl nt sy wi lo lf lt).2.2.1 (rf_LL z nl nt sy wi lo lf lt).2.2.2 pf).1) : JR G (d + 9) mX8_turn [.ref 60, .int (jI 1)] (n, rf_f f th z kp ed nt nl wi ht sy sz bf rs rr rq rp mm ln lo lf lt co ro pg pf hsh) 0 0 (some (.int (jI ((rf_PW ((rf_LL z nl nt sy wi lo lf lt).1) ((rf_LL z nl nt sy wi lo lf lt).2.1) ((rf_LL z nl nt sy wi lo lf lt).2.2.1) ((rf_PG z nl nt sy wi ht (rf_LL z nl nt sy wi lo lf lt).1 (rf_LL z nl nt sy wi lo lf lt).2.1 (rf_LL z nl nt sy wi lo lf lt).2.2.1 (rf_LL z nl nt sy wi lo lf lt).2.2.2 pf).1) (va_up (rf_PG z nl nt sy wi ht (rf_LL z nl nt sy wi lo lf lt).1 (rf_LL z nl nt sy wi lo lf lt).2.1 (rf_LL z nl nt sy wi lo lf lt).2.2.1 (rf_LL z nl nt sy wi lo lf lt).2.2.2 pf).2 (rf_PG z nl nt sy wi ht (rf_LL z nl nt sy wi lo lf lt).1 (rf_LL z nl nt sy wi lo lf lt).2.1 (rf_LL z nl nt sy wi lo lf lt).2.2.1 (rf_LL z nl nt sy wi lo lf lt).2.2.2 pf).1.toNat (rf_LL z nl nt sy wi lo lf lt).1) (z 1) (z 2)) + 1)))) (n, rf_f f 0 (rf_mv z (((rf_LL z nl nt sy wi lo lf lt).2.1) ((va_up (rf_PG z nl nt sy wi ht (rf_LL z nl nt sy wi lo lf lt).1 (rf_LL z nl nt sy wi lo lf lt).2.1 (rf_LL z nl nt sy wi lo lf lt).2.2.1 (rf_LL z nl nt sy wi lo lf lt).2.2.2 pf).2 (rf_PG z nl nt sy wi ht (rf_LL z nl nt sy wi lo lf lt).1 (rf_LL z nl nt sy wi lo lf lt).2.1 (rf_LL z nl nt sy wi lo lf lt).2.2.1 (rf_LL z nl nt sy wi lo lf lt).2.2.2 pf).1.toNat (rf_LL z nl nt sy wi lo lf lt).1) ((rf_PW ((rf_LL z nl nt sy wi lo lf lt).1) ((rf_LL z nl nt sy wi lo lf lt).2.1) ((rf_LL z nl nt sy wi lo lf lt).2.2.1) ((rf_PG z nl nt sy wi ht (rf_LL z nl nt sy wi lo lf lt).1 (rf_LL z nl nt sy wi lo lf lt).2.1 (rf_LL z nl nt sy wi lo lf lt).2.2.1 (rf_LL z nl nt sy wi lo lf lt).2.2.2 pf).1) (va_up (rf_PG z nl nt sy wi ht (rf_LL z nl nt sy wi lo lf lt).1 (rf_LL z nl nt sy wi lo lf lt).2.1 (rf_LL z nl nt sy wi lo lf lt).2.2.1 (rf_LL z nl nt sy wi lo lf lt).2.2.2 pf).2 (rf_PG z nl nt sy wi ht (rf_LL z nl nt sy wi lo lf lt).1 (rf_LL z nl nt sy wi lo lf lt).2.1 (rf_LL z nl nt sy wi lo lf lt).2.2.1 (rf_LL z nl nt sy wi lo lf lt).2.2.2 pf).1.toNat (rf_LL z nl nt sy wi lo lf lt).1) (z 1) (z 2)) + 1).toNat).toNat) (((rf_LL z nl nt sy wi lo lf lt).2.2.1) ((va_up (rf_PG z nl nt sy wi ht (rf_LL z nl nt sy wi lo lf lt).1 (rf_LL z nl nt sy wi lo lf lt).2.1 (rf_LL z nl nt sy wi lo lf lt).2.2.1 (rf_LL z nl nt sy wi lo lf lt).2.2.2 pf).2 (rf_PG z nl nt sy wi ht (rf_LL z nl nt sy wi lo lf lt).1 (rf_LL z nl nt sy wi lo lf lt).2.1 (rf_LL z nl nt sy wi lo lf lt).2.2.1 (rf_LL z nl nt sy wi lo lf lt).2.2.2 pf).1.toNat (rf_LL z nl nt sy wi lo lf lt).1) ((rf_PW ((rf_LL z nl nt sy wi lo lf lt).1) ((rf_LL z nl nt sy wi lo lf lt).2.1) ((rf_LL z nl nt sy wi lo lf lt).2.2.1) ((rf_PG z nl nt sy wi ht (rf_LL z nl nt sy wi lo lf lt).1 (rf_LL z nl nt sy wi lo lf lt).2.1 (rf_LL z nl nt sy wi lo lf lt).2.2.1 (rf_LL z nl nt sy wi lo lf lt).2.2.2 pf).1) (va_up (rf_PG z nl nt sy wi ht (rf_LL z nl nt sy wi lo lf lt).1 (rf_LL z nl nt sy wi lo lf lt).2.1 (rf_LL z nl nt sy wi lo lf lt).2.2.1 (rf_LL z nl nt sy wi lo lf lt).2.2.2 pf).2 (rf_PG z nl nt sy wi ht (rf_LL z nl nt sy wi lo lf lt).1 (rf_LL z nl nt sy wi lo lf lt).2.1 (rf_LL z nl nt sy wi lo lf lt).2.2.1 (rf_LL z nl nt sy wi lo lf lt).2.2.2 pf).1.toNat (rf_LL z nl nt sy wi lo lf lt).1) (z 1) (z 2)) + 1).toNat).toNat)) kp ed nt nl wi ht sy sz bf rs rr rq rp mm ((rf_LL z nl nt sy wi lo lf lt).1) ((rf_LL z nl nt sy wi lo lf lt).2.1) ((rf_LL z nl nt sy wi lo lf lt).2.2.1) ((rf_LL z nl nt sy wi lo lf lt).2.2.2) wi ht ((rf_PG z nl nt sy wi ht (rf_LL z nl nt sy wi lo lf lt).1 (rf_LL z nl nt sy wi lo lf lt).2.1 (rf_LL z nl nt sy wi lo lf lt).2.2.1 (rf_LL z nl nt sy wi lo lf lt).2.2.2 pf).1) (va_up (rf_PG z nl nt sy wi ht (rf_LL z nl nt sy wi lo lf lt).1 (rf_LL z nl nt sy wi lo lf lt).2.1 (rf_LL z nl nt sy wi lo lf lt).2.2.1 (rf_LL z nl nt sy wi lo lf lt).2.2.2 pf).2 (rf_PG z nl nt sy wi ht (rf_LL z nl nt sy wi lo lf lt).1 (rf_LL z nl nt sy wi lo lf lt).2.1 (rf_LL z nl nt sy wi lo lf lt).2.2.1 (rf_LL z nl nt sy wi lo lf lt).2.2.2 pf).1.toNat (rf_LL z nl nt sy wi lo lf lt).1) hsh) := by
  obtain ⟨hz, hn, hk, hrc, ⟨hw9, hh9⟩, ⟨hm9, hj9⟩, hll⟩ := id hrf
  have zb := hz.2.1
  have hF := (hll wi lo lf lt (by omega)).2
  have hl1 := (hll wi lo lf lt (by omega)).1
  have hc9 : 0 ≤ wi ∧ wi ≤ 100 := by omega
  have hro : 0 ≤ ht ∧ ht ≤ 100 := by omega
  have hrl := rf_LL_ok hz hF
  have hpk := rf_PG_ok z nl nt sy wi ht (rf_LL z nl nt sy wi lo lf lt).2.1 (rf_LL z nl nt sy wi lo lf lt).2.2.1 (rf_LL z nl nt sy wi lo lf lt).2.2.2 pf (ln := (rf_LL z nl nt sy wi lo lf lt).1) (by omega)
  have hpp := hpk.pos (by omega)
  have hpl := hpk.1
  have wla := rf_LA_b ((rf_LL z nl nt sy wi lo lf lt).2.1) ((rf_LL z nl nt sy wi lo lf lt).2.2.1) (z 1) (z 2) (ln := (rf_LL z nl nt sy wi lo lf lt).1) (by omega)
  have wpw := rf_PA_b hpk wla
  have whe : (rf_PW ((rf_LL z nl nt sy wi lo lf lt).1) ((rf_LL z nl nt sy wi lo lf lt).2.1) ((rf_LL z nl nt sy wi lo lf lt).2.2.1) ((rf_PG z nl nt sy wi ht (rf_LL z nl nt sy wi lo lf lt).1 (rf_LL z nl nt sy wi lo lf lt).2.1 (rf_LL z nl nt sy wi lo lf lt).2.2.1 (rf_LL z nl nt sy wi lo lf lt).2.2.2 pf).1) (va_up (rf_PG z nl nt sy wi ht (rf_LL z nl nt sy wi lo lf lt).1 (rf_LL z nl nt sy wi lo lf lt).2.1 (rf_LL z nl nt sy wi lo lf lt).2.2.1 (rf_LL z nl nt sy wi lo lf lt).2.2.2 pf).2 (rf_PG z nl nt sy wi ht (rf_LL z nl nt sy wi lo lf lt).1 (rf_LL z nl nt sy wi lo lf lt).2.1 (rf_LL z nl nt sy wi lo lf lt).2.2.1 (rf_LL z nl nt sy wi lo lf lt).2.2.2 pf).1.toNat (rf_LL z nl nt sy wi lo lf lt).1) (z 1) (z 2)) = rf_PA ((rf_PG z nl nt sy wi ht (rf_LL z nl nt sy wi lo lf lt).1 (rf_LL z nl nt sy wi lo lf lt).2.1 (rf_LL z nl nt sy wi lo lf lt).2.2.1 (rf_LL z nl nt sy wi lo lf lt).2.2.2 pf).1) (va_up (rf_PG z nl nt sy wi ht (rf_LL z nl nt sy wi lo lf lt).1 (rf_LL z nl nt sy wi lo lf lt).2.1 (rf_LL z nl nt sy wi lo lf lt).2.2.1 (rf_LL z nl nt sy wi lo lf lt).2.2.2 pf).2 (rf_PG z nl nt sy wi ht (rf_LL z nl nt sy wi lo lf lt).1 (rf_LL z nl nt sy wi lo lf lt).2.1 (rf_LL z nl nt sy wi lo lf lt).2.2.1 (rf_LL z nl nt sy wi lo lf lt).2.2.2 pf).1.toNat (rf_LL z nl nt sy wi lo lf lt).1) (rf_LA ((rf_LL z nl nt sy wi lo lf lt).1) ((rf_LL z nl nt sy wi lo lf lt).2.1) ((rf_LL z nl nt sy wi lo lf lt).2.2.1) (z 1) (z 2)) := rfl
  have wt := rf_in_d ((rf_PW ((rf_LL z nl nt sy wi lo lf lt).1) ((rf_LL z nl nt sy wi lo lf lt).2.1) ((rf_LL z nl nt sy wi lo lf lt).2.2.1) ((rf_PG z nl nt sy wi ht (rf_LL z nl nt sy wi lo lf lt).1 (rf_LL z nl nt sy wi lo lf lt).2.1 (rf_LL z nl nt sy wi lo lf lt).2.2.1 (rf_LL z nl nt sy wi lo lf lt).2.2.2 pf).1) (va_up (rf_PG z nl nt sy wi ht (rf_LL z nl nt sy wi lo lf lt).1 (rf_LL z nl nt sy wi lo lf lt).2.1 (rf_LL z nl nt sy wi lo lf lt).2.2.1 (rf_LL z nl nt sy wi lo lf lt).2.2.2 pf).2 (rf_PG z nl nt sy wi ht (rf_LL z nl nt sy wi lo lf lt).1 (rf_LL z nl nt sy wi lo lf lt).2.1 (rf_LL z nl nt sy wi lo lf lt).2.2.1 (rf_LL z nl nt sy wi lo lf lt).2.2.2 pf).1.toNat (rf_LL z nl nt sy wi lo lf lt).1) (z 1) (z 2)) + 1) 0 ((rf_PG z nl nt sy wi ht (rf_LL z nl nt sy wi lo lf lt).1 (rf_LL z nl nt sy wi lo lf lt).2.1 (rf_LL z nl nt sy wi lo lf lt).2.2.1 (rf_LL z nl nt sy wi lo lf lt).2.2.2 pf).1 - 1)
  have w2 := hpk.2.1 ((rf_PW ((rf_LL z nl nt sy wi lo lf lt).1) ((rf_LL z nl nt sy wi lo lf lt).2.1) ((rf_LL z nl nt sy wi lo lf lt).2.2.1) ((rf_PG z nl nt sy wi ht (rf_LL z nl nt sy wi lo lf lt).1 (rf_LL z nl nt sy wi lo lf lt).2.1 (rf_LL z nl nt sy wi lo lf lt).2.2.1 (rf_LL z nl nt sy wi lo lf lt).2.2.2 pf).1) (va_up (rf_PG z nl nt sy wi ht (rf_LL z nl nt sy wi lo lf lt).1 (rf_LL z nl nt sy wi lo lf lt).2.1 (rf_LL z nl nt sy wi lo lf lt).2.2.1 (rf_LL z nl nt sy wi lo lf lt).2.2.2 pf).2 (rf_PG z nl nt sy wi ht (rf_LL z nl nt sy wi lo lf lt).1 (rf_LL z nl nt sy wi lo lf lt).2.1 (rf_LL z nl nt sy wi lo lf lt).2.2.1 (rf_LL z nl nt sy wi lo lf lt).2.2.2 pf).1.toNat (rf_LL z nl nt sy wi lo lf lt).1) (z 1) (z 2)) + 1).toNat (by omega)
  have w3 := hpk.2.2.1 ((rf_PW ((rf_LL z nl nt sy wi lo lf lt).1) ((rf_LL z nl nt sy wi lo lf lt).2.1) ((rf_LL z nl nt sy wi lo lf lt).2.2.1) ((rf_PG z nl nt sy wi ht (rf_LL z nl nt sy wi lo lf lt).1 (rf_LL z nl nt sy wi lo lf lt).2.1 (rf_LL z nl nt sy wi lo lf lt).2.2.1 (rf_LL z nl nt sy wi lo lf lt).2.2.2 pf).1) (va_up (rf_PG z nl nt sy wi ht (rf_LL z nl nt sy wi lo lf lt).1 (rf_LL z nl nt sy wi lo lf lt).2.1 (rf_LL z nl nt sy wi lo lf lt).2.2.1 (rf_LL z nl nt sy wi lo lf lt).2.2.2 pf).2 (rf_PG z nl nt sy wi ht (rf_LL z nl nt sy wi lo lf lt).1 (rf_LL z nl nt sy wi lo lf lt).2.1 (rf_LL z nl nt sy wi lo lf lt).2.2.1 (rf_LL z nl nt sy wi lo lf lt).2.2.2 pf).1.toNat (rf_LL z nl nt sy wi lo lf lt).1) (z 1) (z 2)) + 1).toNat (by omega)
  have w4 := hpk.2.2.1 (((rf_PW ((rf_LL z nl nt sy wi lo lf lt).1) ((rf_LL z nl nt sy wi lo lf lt).2.1) ((rf_LL z nl nt sy wi lo lf lt).2.2.1) ((rf_PG z nl nt sy wi ht (rf_LL z nl nt sy wi lo lf lt).1 (rf_LL z nl nt sy wi lo lf lt).2.1 (rf_LL z nl nt sy wi lo lf lt).2.2.1 (rf_LL z nl nt sy wi lo lf lt).2.2.2 pf).1) (va_up (rf_PG z nl nt sy wi ht (rf_LL z nl nt sy wi lo lf lt).1 (rf_LL z nl nt sy wi lo lf lt).2.1 (rf_LL z nl nt sy wi lo lf lt).2.2.1 (rf_LL z nl nt sy wi lo lf lt).2.2.2 pf).2 (rf_PG z nl nt sy wi ht (rf_LL z nl nt sy wi lo lf lt).1 (rf_LL z nl nt sy wi lo lf lt).2.1 (rf_LL z nl nt sy wi lo lf lt).2.2.1 (rf_LL z nl nt sy wi lo lf lt).2.2.2 pf).1.toNat (rf_LL z nl nt sy wi lo lf lt).1) (z 1) (z 2)) + 1).toNat + 1) (by omega)
  refine ji_ent (by decide) rfl (Nat.le_of_ble_eq_true rfl) rfl ?_
  refine ji_aload_n dX8_turn_0 rfl trivial ?_
  refine ji_iconst dX8_turn_1 ?_
  refine ji_putE (ci := 8) (k := 0) rfl dX8_turn_2 lX8_47 (by decide) (rf_60) (by simp [rf_c]) (ji_fitI _) rfl (rf_pth) ?_
  refine ji_aload_n dX8_turn_5 rfl trivial ?_
  refine ji_cVv dX8_turn_6 (r_layAll hz hn hk hrc (by omega) (by omega) hF) rfl (rf_60) rfl rfl wX8_layAll vX8_layAll lX8_189 rfl (Nat.le_of_ble_eq_true rfl) rfl ?_
  refine ji_aload_n dX8_turn_9 rfl trivial ?_
  refine ji_cV dX8_turn_10 (r_here hz hrl hpk hl1) rfl (rf_60) rfl rfl wX8_here vX8_here lX8_250 rfl (Nat.le_of_ble_eq_true rfl) rfl ?_
  refine ji_iload_n dX8_turn_13 rfl ?_
  refine ji_if_eq (tgt := 21) dX8_turn_14 rfl (by omega) (fun c14 => ?_) (fun c14 => ?_)
  · try (exfalso; omega)
    all_goals
      refine ji_iconst dX8_turn_21 ?_
      refine ji_iadd dX8_turn_22 ?_
      refine ji_istore_n dX8_turn_23 (by decide) rfl ?_
      refine ji_iload_n dX8_turn_24 rfl ?_
      refine ji_iconst dX8_turn_25 ?_
      refine ji_aload_n dX8_turn_26 rfl trivial ?_
      refine ji_get (ci := 8) (k := 22) rfl dX8_turn_27 lX8_170 (by decide) (rf_60) rfl ?_
      refine ji_iconst dX8_turn_30 ?_
      refine ji_isub dX8_turn_31 ?_
      refine ji_cS dX8_turn_32 (r_within (by omega) (by omega) (by omega)) rfl wX8_within sX8_within lX8_50 rfl (Nat.le_of_ble_eq_true rfl) rfl ?_
      refine ji_if_ne (tgt := 40) dX8_turn_35 rfl (by omega) (fun c35 => ?_) (fun c35 => ?_)
      · try (exfalso; omega)
        all_goals
          refine ji_aload_n dX8_turn_40 rfl trivial ?_
          refine ji_aload_n dX8_turn_41 rfl trivial ?_
          refine ji_get (ci := 8) (k := 17) rfl dX8_turn_42 lX8_35 (by decide) (rf_60) rfl ?_
          refine ji_aload_n dX8_turn_45 rfl trivial ?_
          refine ji_get (ci := 8) (k := 23) rfl dX8_turn_46 lX8_44 (by decide) (rf_60) rfl ?_
          refine ji_iload_n dX8_turn_49 rfl ?_
          refine ji_iaload dX8_turn_50 (rf_70) (by omega) ?_
          refine ji_iaload dX8_turn_51 (rf_67) (by omega) ?_
          refine ji_aload_n dX8_turn_52 rfl trivial ?_
          refine ji_get (ci := 8) (k := 18) rfl dX8_turn_53 lX8_38 (by decide) (rf_60) rfl ?_
          refine ji_aload_n dX8_turn_56 rfl trivial ?_
          refine ji_get (ci := 8) (k := 23) rfl dX8_turn_57 lX8_44 (by decide) (rf_60) rfl ?_
          refine ji_iload_n dX8_turn_60 rfl ?_
          refine ji_iaload dX8_turn_61 (rf_70) (by omega) ?_
          refine ji_iaload dX8_turn_62 (rf_68) (by omega) ?_
          refine ji_cVv dX8_turn_63 (r_move) rfl (rf_60) rfl rfl wX8_move vX8_move lX8_247 rfl (Nat.le_of_ble_eq_true rfl) rfl ?_
          refine ji_iload_n dX8_turn_66 rfl ?_
          exact ji_ireturn dX8_turn_67 rfl (rfl) ⟨rfl, rfl⟩
      · try (exfalso; omega)
        all_goals
          refine ji_iconst dX8_turn_38 ?_
          exact ji_ireturn dX8_turn_39 rfl (rfl) ⟨rfl, rfl⟩
  · try (exfalso; omega)
    all_goals
      refine ji_iconst dX8_turn_17 ?_
      refine ji_goto (tgt := 22) dX8_turn_18 rfl ?_
      refine ji_iadd dX8_turn_22 ?_
      refine ji_istore_n dX8_turn_23 (by decide) rfl ?_
      refine ji_iload_n dX8_turn_24 rfl ?_
      refine ji_iconst dX8_turn_25 ?_
      refine ji_aload_n dX8_turn_26 rfl trivial ?_
      refine ji_get (ci := 8) (k := 22) rfl dX8_turn_27 lX8_170 (by decide) (rf_60) rfl ?_
      refine ji_iconst dX8_turn_30 ?_
      refine ji_isub dX8_turn_31 ?_
      refine ji_cS dX8_turn_32 (r_within (by omega) (by omega) (by omega)) rfl wX8_within sX8_within lX8_50 rfl (Nat.le_of_ble_eq_true rfl) rfl ?_
      refine ji_if_ne (tgt := 40) dX8_turn_35 rfl (by omega) (fun c35 => ?_) (fun c35 => ?_)
      · try (exfalso; omega)
        all_goals
          refine ji_aload_n dX8_turn_40 rfl trivial ?_
          refine ji_aload_n dX8_turn_41 rfl trivial ?_
          refine ji_get (ci := 8) (k := 17) rfl dX8_turn_42 lX8_35 (by decide) (rf_60) rfl ?_
          refine ji_aload_n dX8_turn_45 rfl trivial ?_
          refine ji_get (ci := 8) (k := 23) rfl dX8_turn_46 lX8_44 (by decide) (rf_60) rfl ?_
          refine ji_iload_n dX8_turn_49 rfl ?_
          refine ji_iaload dX8_turn_50 (rf_70) (by omega) ?_
          refine ji_iaload dX8_turn_51 (rf_67) (by omega) ?_
          refine ji_aload_n dX8_turn_52 rfl trivial ?_
          refine ji_get (ci := 8) (k := 18) rfl dX8_turn_53 lX8_38 (by decide) (rf_60) rfl ?_
          refine ji_aload_n dX8_turn_56 rfl trivial ?_
          refine ji_get (ci := 8) (k := 23) rfl dX8_turn_57 lX8_44 (by decide) (rf_60) rfl ?_
          refine ji_iload_n dX8_turn_60 rfl ?_
          refine ji_iaload dX8_turn_61 (rf_70) (by omega) ?_
          refine ji_iaload dX8_turn_62 (rf_68) (by omega) ?_
          refine ji_cVv dX8_turn_63 (r_move) rfl (rf_60) rfl rfl wX8_move vX8_move lX8_247 rfl (Nat.le_of_ble_eq_true rfl) rfl ?_
          refine ji_iload_n dX8_turn_66 rfl ?_
          exact ji_ireturn dX8_turn_67 rfl (rfl) ⟨rfl, rfl⟩
      · try (exfalso; omega)
        all_goals
          refine ji_iconst dX8_turn_38 ?_
          exact ji_ireturn dX8_turn_39 rfl (rfl) ⟨rfl, rfl⟩

set_option maxHeartbeats 4000000 in
set_option maxRecDepth 100000 in
theorem r_turn0N (hrf : rf_ok wi ht z nl nt sy) (hx : ((rf_PW ((rf_LL z nl nt sy wi lo lf lt).1) ((rf_LL z nl nt sy wi lo lf lt).2.1) ((rf_LL z nl nt sy wi lo lf lt).2.2.1) ((rf_PG z nl nt sy wi ht (rf_LL z nl nt sy wi lo lf lt).1 (rf_LL z nl nt sy wi lo lf lt).2.1 (rf_LL z nl nt sy wi lo lf lt).2.2.1 (rf_LL z nl nt sy wi lo lf lt).2.2.2 pf).1) (va_up (rf_PG z nl nt sy wi ht (rf_LL z nl nt sy wi lo lf lt).1 (rf_LL z nl nt sy wi lo lf lt).2.1 (rf_LL z nl nt sy wi lo lf lt).2.2.1 (rf_LL z nl nt sy wi lo lf lt).2.2.2 pf).2 (rf_PG z nl nt sy wi ht (rf_LL z nl nt sy wi lo lf lt).1 (rf_LL z nl nt sy wi lo lf lt).2.1 (rf_LL z nl nt sy wi lo lf lt).2.2.1 (rf_LL z nl nt sy wi lo lf lt).2.2.2 pf).1.toNat (rf_LL z nl nt sy wi lo lf lt).1) (z 1) (z 2)) + -1) < 0 ∨ (rf_PG z nl nt sy wi ht (rf_LL z nl nt sy wi lo lf lt).1 (rf_LL z nl nt sy wi lo lf lt).2.1 (rf_LL z nl nt sy wi lo lf lt).2.2.1 (rf_LL z nl nt sy wi lo lf lt).2.2.2 pf).1 ≤ ((rf_PW ((rf_LL z nl nt sy wi lo lf lt).1) ((rf_LL z nl nt sy wi lo lf lt).2.1) ((rf_LL z nl nt sy wi lo lf lt).2.2.1) ((rf_PG z nl nt sy wi ht (rf_LL z nl nt sy wi lo lf lt).1 (rf_LL z nl nt sy wi lo lf lt).2.1 (rf_LL z nl nt sy wi lo lf lt).2.2.1 (rf_LL z nl nt sy wi lo lf lt).2.2.2 pf).1) (va_up (rf_PG z nl nt sy wi ht (rf_LL z nl nt sy wi lo lf lt).1 (rf_LL z nl nt sy wi lo lf lt).2.1 (rf_LL z nl nt sy wi lo lf lt).2.2.1 (rf_LL z nl nt sy wi lo lf lt).2.2.2 pf).2 (rf_PG z nl nt sy wi ht (rf_LL z nl nt sy wi lo lf lt).1 (rf_LL z nl nt sy wi lo lf lt).2.1 (rf_LL z nl nt sy wi lo lf lt).2.2.1 (rf_LL z nl nt sy wi lo lf lt).2.2.2 pf).1.toNat (rf_LL z nl nt sy wi lo lf lt).1) (z 1) (z 2)) + -1)) : JR G (d + 9) mX8_turn [.ref 60, .int (jI 0)] (n, rf_f f th z kp ed nt nl wi ht sy sz bf rs rr rq rp mm ln lo lf lt co ro pg pf hsh) 0 0 (some (.int (jI (-1)))) (n, rf_f f 0 z kp ed nt nl wi ht sy sz bf rs rr rq rp mm ((rf_LL z nl nt sy wi lo lf lt).1) ((rf_LL z nl nt sy wi lo lf lt).2.1) ((rf_LL z nl nt sy wi lo lf lt).2.2.1) ((rf_LL z nl nt sy wi lo lf lt).2.2.2) wi ht ((rf_PG z nl nt sy wi ht (rf_LL z nl nt sy wi lo lf lt).1 (rf_LL z nl nt sy wi lo lf lt).2.1 (rf_LL z nl nt sy wi lo lf lt).2.2.1 (rf_LL z nl nt sy wi lo lf lt).2.2.2 pf).1) (va_up (rf_PG z nl nt sy wi ht (rf_LL z nl nt sy wi lo lf lt).1 (rf_LL z nl nt sy wi lo lf lt).2.1 (rf_LL z nl nt sy wi lo lf lt).2.2.1 (rf_LL z nl nt sy wi lo lf lt).2.2.2 pf).2 (rf_PG z nl nt sy wi ht (rf_LL z nl nt sy wi lo lf lt).1 (rf_LL z nl nt sy wi lo lf lt).2.1 (rf_LL z nl nt sy wi lo lf lt).2.2.1 (rf_LL z nl nt sy wi lo lf lt).2.2.2 pf).1.toNat (rf_LL z nl nt sy wi lo lf lt).1) hsh) := by
  obtain ⟨hz, hn, hk, hrc, ⟨hw9, hh9⟩, ⟨hm9, hj9⟩, hll⟩ := id hrf
  have zb := hz.2.1
  have hF := (hll wi lo lf lt (by omega)).2
  have hl1 := (hll wi lo lf lt (by omega)).1
  have hc9 : 0 ≤ wi ∧ wi ≤ 100 := by omega
  have hro : 0 ≤ ht ∧ ht ≤ 100 := by omega
  have hrl := rf_LL_ok hz hF
  have hpk := rf_PG_ok z nl nt sy wi ht (rf_LL z nl nt sy wi lo lf lt).2.1 (rf_LL z nl nt sy wi lo lf lt).2.2.1 (rf_LL z nl nt sy wi lo lf lt).2.2.2 pf (ln := (rf_LL z nl nt sy wi lo lf lt).1) (by omega)
  have hpp := hpk.pos (by omega)
  have hpl := hpk.1
  have wla := rf_LA_b ((rf_LL z nl nt sy wi lo lf lt).2.1) ((rf_LL z nl nt sy wi lo lf lt).2.2.1) (z 1) (z 2) (ln := (rf_LL z nl nt sy wi lo lf lt).1) (by omega)
  have wpw := rf_PA_b hpk wla
  have whe : (rf_PW ((rf_LL z nl nt sy wi lo lf lt).1) ((rf_LL z nl nt sy wi lo lf lt).2.1) ((rf_LL z nl nt sy wi lo lf lt).2.2.1) ((rf_PG z nl nt sy wi ht (rf_LL z nl nt sy wi lo lf lt).1 (rf_LL z nl nt sy wi lo lf lt).2.1 (rf_LL z nl nt sy wi lo lf lt).2.2.1 (rf_LL z nl nt sy wi lo lf lt).2.2.2 pf).1) (va_up (rf_PG z nl nt sy wi ht (rf_LL z nl nt sy wi lo lf lt).1 (rf_LL z nl nt sy wi lo lf lt).2.1 (rf_LL z nl nt sy wi lo lf lt).2.2.1 (rf_LL z nl nt sy wi lo lf lt).2.2.2 pf).2 (rf_PG z nl nt sy wi ht (rf_LL z nl nt sy wi lo lf lt).1 (rf_LL z nl nt sy wi lo lf lt).2.1 (rf_LL z nl nt sy wi lo lf lt).2.2.1 (rf_LL z nl nt sy wi lo lf lt).2.2.2 pf).1.toNat (rf_LL z nl nt sy wi lo lf lt).1) (z 1) (z 2)) = rf_PA ((rf_PG z nl nt sy wi ht (rf_LL z nl nt sy wi lo lf lt).1 (rf_LL z nl nt sy wi lo lf lt).2.1 (rf_LL z nl nt sy wi lo lf lt).2.2.1 (rf_LL z nl nt sy wi lo lf lt).2.2.2 pf).1) (va_up (rf_PG z nl nt sy wi ht (rf_LL z nl nt sy wi lo lf lt).1 (rf_LL z nl nt sy wi lo lf lt).2.1 (rf_LL z nl nt sy wi lo lf lt).2.2.1 (rf_LL z nl nt sy wi lo lf lt).2.2.2 pf).2 (rf_PG z nl nt sy wi ht (rf_LL z nl nt sy wi lo lf lt).1 (rf_LL z nl nt sy wi lo lf lt).2.1 (rf_LL z nl nt sy wi lo lf lt).2.2.1 (rf_LL z nl nt sy wi lo lf lt).2.2.2 pf).1.toNat (rf_LL z nl nt sy wi lo lf lt).1) (rf_LA ((rf_LL z nl nt sy wi lo lf lt).1) ((rf_LL z nl nt sy wi lo lf lt).2.1) ((rf_LL z nl nt sy wi lo lf lt).2.2.1) (z 1) (z 2)) := rfl
  have wt := rf_in_d ((rf_PW ((rf_LL z nl nt sy wi lo lf lt).1) ((rf_LL z nl nt sy wi lo lf lt).2.1) ((rf_LL z nl nt sy wi lo lf lt).2.2.1) ((rf_PG z nl nt sy wi ht (rf_LL z nl nt sy wi lo lf lt).1 (rf_LL z nl nt sy wi lo lf lt).2.1 (rf_LL z nl nt sy wi lo lf lt).2.2.1 (rf_LL z nl nt sy wi lo lf lt).2.2.2 pf).1) (va_up (rf_PG z nl nt sy wi ht (rf_LL z nl nt sy wi lo lf lt).1 (rf_LL z nl nt sy wi lo lf lt).2.1 (rf_LL z nl nt sy wi lo lf lt).2.2.1 (rf_LL z nl nt sy wi lo lf lt).2.2.2 pf).2 (rf_PG z nl nt sy wi ht (rf_LL z nl nt sy wi lo lf lt).1 (rf_LL z nl nt sy wi lo lf lt).2.1 (rf_LL z nl nt sy wi lo lf lt).2.2.1 (rf_LL z nl nt sy wi lo lf lt).2.2.2 pf).1.toNat (rf_LL z nl nt sy wi lo lf lt).1) (z 1) (z 2)) + -1) 0 ((rf_PG z nl nt sy wi ht (rf_LL z nl nt sy wi lo lf lt).1 (rf_LL z nl nt sy wi lo lf lt).2.1 (rf_LL z nl nt sy wi lo lf lt).2.2.1 (rf_LL z nl nt sy wi lo lf lt).2.2.2 pf).1 - 1)
  refine ji_ent (by decide) rfl (Nat.le_of_ble_eq_true rfl) rfl ?_
  refine ji_aload_n dX8_turn_0 rfl trivial ?_
  refine ji_iconst dX8_turn_1 ?_
  refine ji_putE (ci := 8) (k := 0) rfl dX8_turn_2 lX8_47 (by decide) (rf_60) (by simp [rf_c]) (ji_fitI _) rfl (rf_pth) ?_
  refine ji_aload_n dX8_turn_5 rfl trivial ?_
  refine ji_cVv dX8_turn_6 (r_layAll hz hn hk hrc (by omega) (by omega) hF) rfl (rf_60) rfl rfl wX8_layAll vX8_layAll lX8_189 rfl (Nat.le_of_ble_eq_true rfl) rfl ?_
  refine ji_aload_n dX8_turn_9 rfl trivial ?_
  refine ji_cV dX8_turn_10 (r_here hz hrl hpk hl1) rfl (rf_60) rfl rfl wX8_here vX8_here lX8_250 rfl (Nat.le_of_ble_eq_true rfl) rfl ?_
  refine ji_iload_n dX8_turn_13 rfl ?_
  refine ji_if_eq (tgt := 21) dX8_turn_14 rfl (by omega) (fun c14 => ?_) (fun c14 => ?_)
  · try (exfalso; omega)
    all_goals
      refine ji_iconst dX8_turn_21 ?_
      refine ji_iadd dX8_turn_22 ?_
      refine ji_istore_n dX8_turn_23 (by decide) rfl ?_
      refine ji_iload_n dX8_turn_24 rfl ?_
      refine ji_iconst dX8_turn_25 ?_
      refine ji_aload_n dX8_turn_26 rfl trivial ?_
      refine ji_get (ci := 8) (k := 22) rfl dX8_turn_27 lX8_170 (by decide) (rf_60) rfl ?_
      refine ji_iconst dX8_turn_30 ?_
      refine ji_isub dX8_turn_31 ?_
      refine ji_cS dX8_turn_32 (r_within (by omega) (by omega) (by omega)) rfl wX8_within sX8_within lX8_50 rfl (Nat.le_of_ble_eq_true rfl) rfl ?_
      refine ji_if_ne (tgt := 40) dX8_turn_35 rfl (by omega) (fun c35 => ?_) (fun c35 => ?_)
      · try (exfalso; omega)
        all_goals
          refine ji_aload_n dX8_turn_40 rfl trivial ?_
          refine ji_aload_n dX8_turn_41 rfl trivial ?_
          refine ji_get (ci := 8) (k := 17) rfl dX8_turn_42 lX8_35 (by decide) (rf_60) rfl ?_
          refine ji_aload_n dX8_turn_45 rfl trivial ?_
          refine ji_get (ci := 8) (k := 23) rfl dX8_turn_46 lX8_44 (by decide) (rf_60) rfl ?_
          refine ji_iload_n dX8_turn_49 rfl ?_
          refine ji_iaload dX8_turn_50 (rf_70) (by omega) ?_
          refine ji_iaload dX8_turn_51 (rf_67) (by omega) ?_
          refine ji_aload_n dX8_turn_52 rfl trivial ?_
          refine ji_get (ci := 8) (k := 18) rfl dX8_turn_53 lX8_38 (by decide) (rf_60) rfl ?_
          refine ji_aload_n dX8_turn_56 rfl trivial ?_
          refine ji_get (ci := 8) (k := 23) rfl dX8_turn_57 lX8_44 (by decide) (rf_60) rfl ?_
          refine ji_iload_n dX8_turn_60 rfl ?_
          refine ji_iaload dX8_turn_61 (rf_70) (by omega) ?_
          refine ji_iaload dX8_turn_62 (rf_68) (by omega) ?_
          exfalso; omega
      · try (exfalso; omega)
        all_goals
          refine ji_iconst dX8_turn_38 ?_
          exact ji_ireturn dX8_turn_39 rfl (rfl) ⟨jr_i (by first | rfl | omega), rfl⟩
  · try (exfalso; omega)
    all_goals
      refine ji_iconst dX8_turn_17 ?_
      refine ji_goto (tgt := 22) dX8_turn_18 rfl ?_
      refine ji_iadd dX8_turn_22 ?_
      refine ji_istore_n dX8_turn_23 (by decide) rfl ?_
      refine ji_iload_n dX8_turn_24 rfl ?_
      refine ji_iconst dX8_turn_25 ?_
      refine ji_aload_n dX8_turn_26 rfl trivial ?_
      refine ji_get (ci := 8) (k := 22) rfl dX8_turn_27 lX8_170 (by decide) (rf_60) rfl ?_
      refine ji_iconst dX8_turn_30 ?_
      refine ji_isub dX8_turn_31 ?_
      refine ji_cS dX8_turn_32 (r_within (by omega) (by omega) (by omega)) rfl wX8_within sX8_within lX8_50 rfl (Nat.le_of_ble_eq_true rfl) rfl ?_
      refine ji_if_ne (tgt := 40) dX8_turn_35 rfl (by omega) (fun c35 => ?_) (fun c35 => ?_)
      · try (exfalso; omega)
        all_goals
          refine ji_aload_n dX8_turn_40 rfl trivial ?_
          refine ji_aload_n dX8_turn_41 rfl trivial ?_
          refine ji_get (ci := 8) (k := 17) rfl dX8_turn_42 lX8_35 (by decide) (rf_60) rfl ?_
          refine ji_aload_n dX8_turn_45 rfl trivial ?_
          refine ji_get (ci := 8) (k := 23) rfl dX8_turn_46 lX8_44 (by decide) (rf_60) rfl ?_
          refine ji_iload_n dX8_turn_49 rfl ?_
          refine ji_iaload dX8_turn_50 (rf_70) (by omega) ?_
          refine ji_iaload dX8_turn_51 (rf_67) (by omega) ?_
          refine ji_aload_n dX8_turn_52 rfl trivial ?_
          refine ji_get (ci := 8) (k := 18) rfl dX8_turn_53 lX8_38 (by decide) (rf_60) rfl ?_
          refine ji_aload_n dX8_turn_56 rfl trivial ?_
          refine ji_get (ci := 8) (k := 23) rfl dX8_turn_57 lX8_44 (by decide) (rf_60) rfl ?_
          refine ji_iload_n dX8_turn_60 rfl ?_
          refine ji_iaload dX8_turn_61 (rf_70) (by omega) ?_
          refine ji_iaload dX8_turn_62 (rf_68) (by omega) ?_
          exfalso; omega
      · try (exfalso; omega)
        all_goals
          refine ji_iconst dX8_turn_38 ?_
          exact ji_ireturn dX8_turn_39 rfl (rfl) ⟨jr_i (by first | rfl | omega), rfl⟩

set_option maxHeartbeats 4000000 in
set_option maxRecDepth 100000 in
theorem r_turn0 (hrf : rf_ok wi ht z nl nt sy) (hx : 0 ≤ ((rf_PW ((rf_LL z nl nt sy wi lo lf lt).1) ((rf_LL z nl nt sy wi lo lf lt).2.1) ((rf_LL z nl nt sy wi lo lf lt).2.2.1) ((rf_PG z nl nt sy wi ht (rf_LL z nl nt sy wi lo lf lt).1 (rf_LL z nl nt sy wi lo lf lt).2.1 (rf_LL z nl nt sy wi lo lf lt).2.2.1 (rf_LL z nl nt sy wi lo lf lt).2.2.2 pf).1) (va_up (rf_PG z nl nt sy wi ht (rf_LL z nl nt sy wi lo lf lt).1 (rf_LL z nl nt sy wi lo lf lt).2.1 (rf_LL z nl nt sy wi lo lf lt).2.2.1 (rf_LL z nl nt sy wi lo lf lt).2.2.2 pf).2 (rf_PG z nl nt sy wi ht (rf_LL z nl nt sy wi lo lf lt).1 (rf_LL z nl nt sy wi lo lf lt).2.1 (rf_LL z nl nt sy wi lo lf lt).2.2.1 (rf_LL z nl nt sy wi lo lf lt).2.2.2 pf).1.toNat (rf_LL z nl nt sy wi lo lf lt).1) (z 1) (z 2)) + -1) ∧ ((rf_PW ((rf_LL z nl nt sy wi lo lf lt).1) ((rf_LL z nl nt sy wi lo lf lt).2.1) ((rf_LL z nl nt sy wi lo lf lt).2.2.1) ((rf_PG z nl nt sy wi ht (rf_LL z nl nt sy wi lo lf lt).1 (rf_LL z nl nt sy wi lo lf lt).2.1 (rf_LL z nl nt sy wi lo lf lt).2.2.1 (rf_LL z nl nt sy wi lo lf lt).2.2.2 pf).1) (va_up (rf_PG z nl nt sy wi ht (rf_LL z nl nt sy wi lo lf lt).1 (rf_LL z nl nt sy wi lo lf lt).2.1 (rf_LL z nl nt sy wi lo lf lt).2.2.1 (rf_LL z nl nt sy wi lo lf lt).2.2.2 pf).2 (rf_PG z nl nt sy wi ht (rf_LL z nl nt sy wi lo lf lt).1 (rf_LL z nl nt sy wi lo lf lt).2.1 (rf_LL z nl nt sy wi lo lf lt).2.2.1 (rf_LL z nl nt sy wi lo lf lt).2.2.2 pf).1.toNat (rf_LL z nl nt sy wi lo lf lt).1) (z 1) (z 2)) + -1) < (rf_PG z nl nt sy wi ht (rf_LL z nl nt sy wi lo lf lt).1 (rf_LL z nl nt sy wi lo lf lt).2.1 (rf_LL z nl nt sy wi lo lf lt).2.2.1 (rf_LL z nl nt sy wi lo lf lt).2.2.2 pf).1) : JR G (d + 9) mX8_turn [.ref 60, .int (jI 0)] (n, rf_f f th z kp ed nt nl wi ht sy sz bf rs rr rq rp mm ln lo lf lt co ro pg pf hsh) 0 0 (some (.int (jI ((rf_PW ((rf_LL z nl nt sy wi lo lf lt).1) ((rf_LL z nl nt sy wi lo lf lt).2.1) ((rf_LL z nl nt sy wi lo lf lt).2.2.1) ((rf_PG z nl nt sy wi ht (rf_LL z nl nt sy wi lo lf lt).1 (rf_LL z nl nt sy wi lo lf lt).2.1 (rf_LL z nl nt sy wi lo lf lt).2.2.1 (rf_LL z nl nt sy wi lo lf lt).2.2.2 pf).1) (va_up (rf_PG z nl nt sy wi ht (rf_LL z nl nt sy wi lo lf lt).1 (rf_LL z nl nt sy wi lo lf lt).2.1 (rf_LL z nl nt sy wi lo lf lt).2.2.1 (rf_LL z nl nt sy wi lo lf lt).2.2.2 pf).2 (rf_PG z nl nt sy wi ht (rf_LL z nl nt sy wi lo lf lt).1 (rf_LL z nl nt sy wi lo lf lt).2.1 (rf_LL z nl nt sy wi lo lf lt).2.2.1 (rf_LL z nl nt sy wi lo lf lt).2.2.2 pf).1.toNat (rf_LL z nl nt sy wi lo lf lt).1) (z 1) (z 2)) + -1)))) (n, rf_f f 0 (rf_mv z (((rf_LL z nl nt sy wi lo lf lt).2.1) ((va_up (rf_PG z nl nt sy wi ht (rf_LL z nl nt sy wi lo lf lt).1 (rf_LL z nl nt sy wi lo lf lt).2.1 (rf_LL z nl nt sy wi lo lf lt).2.2.1 (rf_LL z nl nt sy wi lo lf lt).2.2.2 pf).2 (rf_PG z nl nt sy wi ht (rf_LL z nl nt sy wi lo lf lt).1 (rf_LL z nl nt sy wi lo lf lt).2.1 (rf_LL z nl nt sy wi lo lf lt).2.2.1 (rf_LL z nl nt sy wi lo lf lt).2.2.2 pf).1.toNat (rf_LL z nl nt sy wi lo lf lt).1) ((rf_PW ((rf_LL z nl nt sy wi lo lf lt).1) ((rf_LL z nl nt sy wi lo lf lt).2.1) ((rf_LL z nl nt sy wi lo lf lt).2.2.1) ((rf_PG z nl nt sy wi ht (rf_LL z nl nt sy wi lo lf lt).1 (rf_LL z nl nt sy wi lo lf lt).2.1 (rf_LL z nl nt sy wi lo lf lt).2.2.1 (rf_LL z nl nt sy wi lo lf lt).2.2.2 pf).1) (va_up (rf_PG z nl nt sy wi ht (rf_LL z nl nt sy wi lo lf lt).1 (rf_LL z nl nt sy wi lo lf lt).2.1 (rf_LL z nl nt sy wi lo lf lt).2.2.1 (rf_LL z nl nt sy wi lo lf lt).2.2.2 pf).2 (rf_PG z nl nt sy wi ht (rf_LL z nl nt sy wi lo lf lt).1 (rf_LL z nl nt sy wi lo lf lt).2.1 (rf_LL z nl nt sy wi lo lf lt).2.2.1 (rf_LL z nl nt sy wi lo lf lt).2.2.2 pf).1.toNat (rf_LL z nl nt sy wi lo lf lt).1) (z 1) (z 2)) + -1).toNat).toNat) (((rf_LL z nl nt sy wi lo lf lt).2.2.1) ((va_up (rf_PG z nl nt sy wi ht (rf_LL z nl nt sy wi lo lf lt).1 (rf_LL z nl nt sy wi lo lf lt).2.1 (rf_LL z nl nt sy wi lo lf lt).2.2.1 (rf_LL z nl nt sy wi lo lf lt).2.2.2 pf).2 (rf_PG z nl nt sy wi ht (rf_LL z nl nt sy wi lo lf lt).1 (rf_LL z nl nt sy wi lo lf lt).2.1 (rf_LL z nl nt sy wi lo lf lt).2.2.1 (rf_LL z nl nt sy wi lo lf lt).2.2.2 pf).1.toNat (rf_LL z nl nt sy wi lo lf lt).1) ((rf_PW ((rf_LL z nl nt sy wi lo lf lt).1) ((rf_LL z nl nt sy wi lo lf lt).2.1) ((rf_LL z nl nt sy wi lo lf lt).2.2.1) ((rf_PG z nl nt sy wi ht (rf_LL z nl nt sy wi lo lf lt).1 (rf_LL z nl nt sy wi lo lf lt).2.1 (rf_LL z nl nt sy wi lo lf lt).2.2.1 (rf_LL z nl nt sy wi lo lf lt).2.2.2 pf).1) (va_up (rf_PG z nl nt sy wi ht (rf_LL z nl nt sy wi lo lf lt).1 (rf_LL z nl nt sy wi lo lf lt).2.1 (rf_LL z nl nt sy wi lo lf lt).2.2.1 (rf_LL z nl nt sy wi lo lf lt).2.2.2 pf).2 (rf_PG z nl nt sy wi ht (rf_LL z nl nt sy wi lo lf lt).1 (rf_LL z nl nt sy wi lo lf lt).2.1 (rf_LL z nl nt sy wi lo lf lt).2.2.1 (rf_LL z nl nt sy wi lo lf lt).2.2.2 pf).1.toNat (rf_LL z nl nt sy wi lo lf lt).1) (z 1) (z 2)) + -1).toNat).toNat)) kp ed nt nl wi ht sy sz bf rs rr rq rp mm ((rf_LL z nl nt sy wi lo lf lt).1) ((rf_LL z nl nt sy wi lo lf lt).2.1) ((rf_LL z nl nt sy wi lo lf lt).2.2.1) ((rf_LL z nl nt sy wi lo lf lt).2.2.2) wi ht ((rf_PG z nl nt sy wi ht (rf_LL z nl nt sy wi lo lf lt).1 (rf_LL z nl nt sy wi lo lf lt).2.1 (rf_LL z nl nt sy wi lo lf lt).2.2.1 (rf_LL z nl nt sy wi lo lf lt).2.2.2 pf).1) (va_up (rf_PG z nl nt sy wi ht (rf_LL z nl nt sy wi lo lf lt).1 (rf_LL z nl nt sy wi lo lf lt).2.1 (rf_LL z nl nt sy wi lo lf lt).2.2.1 (rf_LL z nl nt sy wi lo lf lt).2.2.2 pf).2 (rf_PG z nl nt sy wi ht (rf_LL z nl nt sy wi lo lf lt).1 (rf_LL z nl nt sy wi lo lf lt).2.1 (rf_LL z nl nt sy wi lo lf lt).2.2.1 (rf_LL z nl nt sy wi lo lf lt).2.2.2 pf).1.toNat (rf_LL z nl nt sy wi lo lf lt).1) hsh) := by
  obtain ⟨hz, hn, hk, hrc, ⟨hw9, hh9⟩, ⟨hm9, hj9⟩, hll⟩ := id hrf
  have zb := hz.2.1
  have hF := (hll wi lo lf lt (by omega)).2
  have hl1 := (hll wi lo lf lt (by omega)).1
  have hc9 : 0 ≤ wi ∧ wi ≤ 100 := by omega
  have hro : 0 ≤ ht ∧ ht ≤ 100 := by omega
  have hrl := rf_LL_ok hz hF
  have hpk := rf_PG_ok z nl nt sy wi ht (rf_LL z nl nt sy wi lo lf lt).2.1 (rf_LL z nl nt sy wi lo lf lt).2.2.1 (rf_LL z nl nt sy wi lo lf lt).2.2.2 pf (ln := (rf_LL z nl nt sy wi lo lf lt).1) (by omega)
  have hpp := hpk.pos (by omega)
  have hpl := hpk.1
  have wla := rf_LA_b ((rf_LL z nl nt sy wi lo lf lt).2.1) ((rf_LL z nl nt sy wi lo lf lt).2.2.1) (z 1) (z 2) (ln := (rf_LL z nl nt sy wi lo lf lt).1) (by omega)
  have wpw := rf_PA_b hpk wla
  have whe : (rf_PW ((rf_LL z nl nt sy wi lo lf lt).1) ((rf_LL z nl nt sy wi lo lf lt).2.1) ((rf_LL z nl nt sy wi lo lf lt).2.2.1) ((rf_PG z nl nt sy wi ht (rf_LL z nl nt sy wi lo lf lt).1 (rf_LL z nl nt sy wi lo lf lt).2.1 (rf_LL z nl nt sy wi lo lf lt).2.2.1 (rf_LL z nl nt sy wi lo lf lt).2.2.2 pf).1) (va_up (rf_PG z nl nt sy wi ht (rf_LL z nl nt sy wi lo lf lt).1 (rf_LL z nl nt sy wi lo lf lt).2.1 (rf_LL z nl nt sy wi lo lf lt).2.2.1 (rf_LL z nl nt sy wi lo lf lt).2.2.2 pf).2 (rf_PG z nl nt sy wi ht (rf_LL z nl nt sy wi lo lf lt).1 (rf_LL z nl nt sy wi lo lf lt).2.1 (rf_LL z nl nt sy wi lo lf lt).2.2.1 (rf_LL z nl nt sy wi lo lf lt).2.2.2 pf).1.toNat (rf_LL z nl nt sy wi lo lf lt).1) (z 1) (z 2)) = rf_PA ((rf_PG z nl nt sy wi ht (rf_LL z nl nt sy wi lo lf lt).1 (rf_LL z nl nt sy wi lo lf lt).2.1 (rf_LL z nl nt sy wi lo lf lt).2.2.1 (rf_LL z nl nt sy wi lo lf lt).2.2.2 pf).1) (va_up (rf_PG z nl nt sy wi ht (rf_LL z nl nt sy wi lo lf lt).1 (rf_LL z nl nt sy wi lo lf lt).2.1 (rf_LL z nl nt sy wi lo lf lt).2.2.1 (rf_LL z nl nt sy wi lo lf lt).2.2.2 pf).2 (rf_PG z nl nt sy wi ht (rf_LL z nl nt sy wi lo lf lt).1 (rf_LL z nl nt sy wi lo lf lt).2.1 (rf_LL z nl nt sy wi lo lf lt).2.2.1 (rf_LL z nl nt sy wi lo lf lt).2.2.2 pf).1.toNat (rf_LL z nl nt sy wi lo lf lt).1) (rf_LA ((rf_LL z nl nt sy wi lo lf lt).1) ((rf_LL z nl nt sy wi lo lf lt).2.1) ((rf_LL z nl nt sy wi lo lf lt).2.2.1) (z 1) (z 2)) := rfl
  have wt := rf_in_d ((rf_PW ((rf_LL z nl nt sy wi lo lf lt).1) ((rf_LL z nl nt sy wi lo lf lt).2.1) ((rf_LL z nl nt sy wi lo lf lt).2.2.1) ((rf_PG z nl nt sy wi ht (rf_LL z nl nt sy wi lo lf lt).1 (rf_LL z nl nt sy wi lo lf lt).2.1 (rf_LL z nl nt sy wi lo lf lt).2.2.1 (rf_LL z nl nt sy wi lo lf lt).2.2.2 pf).1) (va_up (rf_PG z nl nt sy wi ht (rf_LL z nl nt sy wi lo lf lt).1 (rf_LL z nl nt sy wi lo lf lt).2.1 (rf_LL z nl nt sy wi lo lf lt).2.2.1 (rf_LL z nl nt sy wi lo lf lt).2.2.2 pf).2 (rf_PG z nl nt sy wi ht (rf_LL z nl nt sy wi lo lf lt).1 (rf_LL z nl nt sy wi lo lf lt).2.1 (rf_LL z nl nt sy wi lo lf lt).2.2.1 (rf_LL z nl nt sy wi lo lf lt).2.2.2 pf).1.toNat (rf_LL z nl nt sy wi lo lf lt).1) (z 1) (z 2)) + -1) 0 ((rf_PG z nl nt sy wi ht (rf_LL z nl nt sy wi lo lf lt).1 (rf_LL z nl nt sy wi lo lf lt).2.1 (rf_LL z nl nt sy wi lo lf lt).2.2.1 (rf_LL z nl nt sy wi lo lf lt).2.2.2 pf).1 - 1)
  have w2 := hpk.2.1 ((rf_PW ((rf_LL z nl nt sy wi lo lf lt).1) ((rf_LL z nl nt sy wi lo lf lt).2.1) ((rf_LL z nl nt sy wi lo lf lt).2.2.1) ((rf_PG z nl nt sy wi ht (rf_LL z nl nt sy wi lo lf lt).1 (rf_LL z nl nt sy wi lo lf lt).2.1 (rf_LL z nl nt sy wi lo lf lt).2.2.1 (rf_LL z nl nt sy wi lo lf lt).2.2.2 pf).1) (va_up (rf_PG z nl nt sy wi ht (rf_LL z nl nt sy wi lo lf lt).1 (rf_LL z nl nt sy wi lo lf lt).2.1 (rf_LL z nl nt sy wi lo lf lt).2.2.1 (rf_LL z nl nt sy wi lo lf lt).2.2.2 pf).2 (rf_PG z nl nt sy wi ht (rf_LL z nl nt sy wi lo lf lt).1 (rf_LL z nl nt sy wi lo lf lt).2.1 (rf_LL z nl nt sy wi lo lf lt).2.2.1 (rf_LL z nl nt sy wi lo lf lt).2.2.2 pf).1.toNat (rf_LL z nl nt sy wi lo lf lt).1) (z 1) (z 2)) + -1).toNat (by omega)
  have w3 := hpk.2.2.1 ((rf_PW ((rf_LL z nl nt sy wi lo lf lt).1) ((rf_LL z nl nt sy wi lo lf lt).2.1) ((rf_LL z nl nt sy wi lo lf lt).2.2.1) ((rf_PG z nl nt sy wi ht (rf_LL z nl nt sy wi lo lf lt).1 (rf_LL z nl nt sy wi lo lf lt).2.1 (rf_LL z nl nt sy wi lo lf lt).2.2.1 (rf_LL z nl nt sy wi lo lf lt).2.2.2 pf).1) (va_up (rf_PG z nl nt sy wi ht (rf_LL z nl nt sy wi lo lf lt).1 (rf_LL z nl nt sy wi lo lf lt).2.1 (rf_LL z nl nt sy wi lo lf lt).2.2.1 (rf_LL z nl nt sy wi lo lf lt).2.2.2 pf).2 (rf_PG z nl nt sy wi ht (rf_LL z nl nt sy wi lo lf lt).1 (rf_LL z nl nt sy wi lo lf lt).2.1 (rf_LL z nl nt sy wi lo lf lt).2.2.1 (rf_LL z nl nt sy wi lo lf lt).2.2.2 pf).1.toNat (rf_LL z nl nt sy wi lo lf lt).1) (z 1) (z 2)) + -1).toNat (by omega)
  have w4 := hpk.2.2.1 (((rf_PW ((rf_LL z nl nt sy wi lo lf lt).1) ((rf_LL z nl nt sy wi lo lf lt).2.1) ((rf_LL z nl nt sy wi lo lf lt).2.2.1) ((rf_PG z nl nt sy wi ht (rf_LL z nl nt sy wi lo lf lt).1 (rf_LL z nl nt sy wi lo lf lt).2.1 (rf_LL z nl nt sy wi lo lf lt).2.2.1 (rf_LL z nl nt sy wi lo lf lt).2.2.2 pf).1) (va_up (rf_PG z nl nt sy wi ht (rf_LL z nl nt sy wi lo lf lt).1 (rf_LL z nl nt sy wi lo lf lt).2.1 (rf_LL z nl nt sy wi lo lf lt).2.2.1 (rf_LL z nl nt sy wi lo lf lt).2.2.2 pf).2 (rf_PG z nl nt sy wi ht (rf_LL z nl nt sy wi lo lf lt).1 (rf_LL z nl nt sy wi lo lf lt).2.1 (rf_LL z nl nt sy wi lo lf lt).2.2.1 (rf_LL z nl nt sy wi lo lf lt).2.2.2 pf).1.toNat (rf_LL z nl nt sy wi lo lf lt).1) (z 1) (z 2)) + -1).toNat + 1) (by omega)
  refine ji_ent (by decide) rfl (Nat.le_of_ble_eq_true rfl) rfl ?_
  refine ji_aload_n dX8_turn_0 rfl trivial ?_
  refine ji_iconst dX8_turn_1 ?_
  refine ji_putE (ci := 8) (k := 0) rfl dX8_turn_2 lX8_47 (by decide) (rf_60) (by simp [rf_c]) (ji_fitI _) rfl (rf_pth) ?_
  refine ji_aload_n dX8_turn_5 rfl trivial ?_
  refine ji_cVv dX8_turn_6 (r_layAll hz hn hk hrc (by omega) (by omega) hF) rfl (rf_60) rfl rfl wX8_layAll vX8_layAll lX8_189 rfl (Nat.le_of_ble_eq_true rfl) rfl ?_
  refine ji_aload_n dX8_turn_9 rfl trivial ?_
  refine ji_cV dX8_turn_10 (r_here hz hrl hpk hl1) rfl (rf_60) rfl rfl wX8_here vX8_here lX8_250 rfl (Nat.le_of_ble_eq_true rfl) rfl ?_
  refine ji_iload_n dX8_turn_13 rfl ?_
  refine ji_if_eq (tgt := 21) dX8_turn_14 rfl (by omega) (fun c14 => ?_) (fun c14 => ?_)
  · try (exfalso; omega)
    all_goals
      refine ji_iconst dX8_turn_21 ?_
      refine ji_iadd dX8_turn_22 ?_
      refine ji_istore_n dX8_turn_23 (by decide) rfl ?_
      refine ji_iload_n dX8_turn_24 rfl ?_
      refine ji_iconst dX8_turn_25 ?_
      refine ji_aload_n dX8_turn_26 rfl trivial ?_
      refine ji_get (ci := 8) (k := 22) rfl dX8_turn_27 lX8_170 (by decide) (rf_60) rfl ?_
      refine ji_iconst dX8_turn_30 ?_
      refine ji_isub dX8_turn_31 ?_
      refine ji_cS dX8_turn_32 (r_within (by omega) (by omega) (by omega)) rfl wX8_within sX8_within lX8_50 rfl (Nat.le_of_ble_eq_true rfl) rfl ?_
      refine ji_if_ne (tgt := 40) dX8_turn_35 rfl (by omega) (fun c35 => ?_) (fun c35 => ?_)
      · try (exfalso; omega)
        all_goals
          refine ji_aload_n dX8_turn_40 rfl trivial ?_
          refine ji_aload_n dX8_turn_41 rfl trivial ?_
          refine ji_get (ci := 8) (k := 17) rfl dX8_turn_42 lX8_35 (by decide) (rf_60) rfl ?_
          refine ji_aload_n dX8_turn_45 rfl trivial ?_
          refine ji_get (ci := 8) (k := 23) rfl dX8_turn_46 lX8_44 (by decide) (rf_60) rfl ?_
          refine ji_iload_n dX8_turn_49 rfl ?_
          refine ji_iaload dX8_turn_50 (rf_70) (by omega) ?_
          refine ji_iaload dX8_turn_51 (rf_67) (by omega) ?_
          refine ji_aload_n dX8_turn_52 rfl trivial ?_
          refine ji_get (ci := 8) (k := 18) rfl dX8_turn_53 lX8_38 (by decide) (rf_60) rfl ?_
          refine ji_aload_n dX8_turn_56 rfl trivial ?_
          refine ji_get (ci := 8) (k := 23) rfl dX8_turn_57 lX8_44 (by decide) (rf_60) rfl ?_
          refine ji_iload_n dX8_turn_60 rfl ?_
          refine ji_iaload dX8_turn_61 (rf_70) (by omega) ?_
          refine ji_iaload dX8_turn_62 (rf_68) (by omega) ?_
          refine ji_cVv dX8_turn_63 (r_move) rfl (rf_60) rfl rfl wX8_move vX8_move lX8_247 rfl (Nat.le_of_ble_eq_true rfl) rfl ?_
          refine ji_iload_n dX8_turn_66 rfl ?_
          exact ji_ireturn dX8_turn_67 rfl (rfl) ⟨rfl, rfl⟩
      · try (exfalso; omega)
        all_goals
          refine ji_iconst dX8_turn_38 ?_
          exact ji_ireturn dX8_turn_39 rfl (rfl) ⟨rfl, rfl⟩
  · try (exfalso; omega)
    all_goals
      refine ji_iconst dX8_turn_17 ?_
      refine ji_goto (tgt := 22) dX8_turn_18 rfl ?_
      refine ji_iadd dX8_turn_22 ?_
      refine ji_istore_n dX8_turn_23 (by decide) rfl ?_
      refine ji_iload_n dX8_turn_24 rfl ?_
      refine ji_iconst dX8_turn_25 ?_
      refine ji_aload_n dX8_turn_26 rfl trivial ?_
      refine ji_get (ci := 8) (k := 22) rfl dX8_turn_27 lX8_170 (by decide) (rf_60) rfl ?_
      refine ji_iconst dX8_turn_30 ?_
      refine ji_isub dX8_turn_31 ?_
      refine ji_cS dX8_turn_32 (r_within (by omega) (by omega) (by omega)) rfl wX8_within sX8_within lX8_50 rfl (Nat.le_of_ble_eq_true rfl) rfl ?_
      refine ji_if_ne (tgt := 40) dX8_turn_35 rfl (by omega) (fun c35 => ?_) (fun c35 => ?_)
      · try (exfalso; omega)
        all_goals
          refine ji_aload_n dX8_turn_40 rfl trivial ?_
          refine ji_aload_n dX8_turn_41 rfl trivial ?_
          refine ji_get (ci := 8) (k := 17) rfl dX8_turn_42 lX8_35 (by decide) (rf_60) rfl ?_
          refine ji_aload_n dX8_turn_45 rfl trivial ?_
          refine ji_get (ci := 8) (k := 23) rfl dX8_turn_46 lX8_44 (by decide) (rf_60) rfl ?_
          refine ji_iload_n dX8_turn_49 rfl ?_
          refine ji_iaload dX8_turn_50 (rf_70) (by omega) ?_
          refine ji_iaload dX8_turn_51 (rf_67) (by omega) ?_
          refine ji_aload_n dX8_turn_52 rfl trivial ?_
          refine ji_get (ci := 8) (k := 18) rfl dX8_turn_53 lX8_38 (by decide) (rf_60) rfl ?_
          refine ji_aload_n dX8_turn_56 rfl trivial ?_
          refine ji_get (ci := 8) (k := 23) rfl dX8_turn_57 lX8_44 (by decide) (rf_60) rfl ?_
          refine ji_iload_n dX8_turn_60 rfl ?_
          refine ji_iaload dX8_turn_61 (rf_70) (by omega) ?_
          refine ji_iaload dX8_turn_62 (rf_68) (by omega) ?_
          refine ji_cVv dX8_turn_63 (r_move) rfl (rf_60) rfl rfl wX8_move vX8_move lX8_247 rfl (Nat.le_of_ble_eq_true rfl) rfl ?_
          refine ji_iload_n dX8_turn_66 rfl ?_
          exact ji_ireturn dX8_turn_67 rfl (rfl) ⟨rfl, rfl⟩
      · try (exfalso; omega)
        all_goals
          refine ji_iconst dX8_turn_38 ?_
          exact ji_ireturn dX8_turn_39 rfl (rfl) ⟨rfl, rfl⟩

set_option maxHeartbeats 4000000 in
set_option maxRecDepth 100000 in
theorem r_back1 (hx : z 3 = 0) : JR G (d + 9) mX8_back [.ref 60] (n, rf_f f th z kp ed nt nl wi ht sy sz bf rs rr rq rp mm ln lo lf lt co ro pg pf hsh) 0 0 (some (.int (jI 0))) (n, rf_f f 1 z kp ed nt nl wi ht sy sz bf rs rr rq rp mm ln lo lf lt co ro pg pf hsh) := by
  refine ji_ent (by decide) rfl (Nat.le_of_ble_eq_true rfl) rfl ?_
  refine ji_aload_n dX8_back_0 rfl trivial ?_
  refine ji_aload_n dX8_back_1 rfl trivial ?_
  refine ji_get (ci := 8) (k := 1) rfl dX8_back_2 lX8_7 (by decide) (rf_60) rfl ?_
  refine ji_iconst dX8_back_5 ?_
  refine ji_ialoadK (k := 3) dX8_back_6 (rf_61) rfl (by decide) ?_
  refine ji_if_le (tgt := 14) dX8_back_7 rfl (by omega) (fun c7 => ?_) (fun c7 => ?_)
  · try (exfalso; omega)
    all_goals
      refine ji_iconst dX8_back_14 ?_
      refine ji_putE (ci := 8) (k := 0) rfl dX8_back_15 lX8_47 (by decide) (rf_60) (by simp [rf_c]) (ji_fitI _) rfl (rf_pth) ?_
      refine ji_aload_n dX8_back_18 rfl trivial ?_
      refine ji_get (ci := 8) (k := 0) rfl dX8_back_19 lX8_47 (by decide) (rf_60) rfl ?_
      refine ji_if_le (tgt := 27) dX8_back_22 rfl (by omega) (fun c22 => ?_) (fun c22 => ?_)
      · try (exfalso; omega)
        all_goals
          exfalso; omega
      · try (exfalso; omega)
        all_goals
          refine ji_iconst dX8_back_25 ?_
          exact ji_ireturn dX8_back_26 rfl (rfl) ⟨jr_i (by first | rfl | omega), rfl⟩
  · try (exfalso; omega)
    all_goals
      refine ji_iconst dX8_back_10 ?_
      refine ji_goto (tgt := 15) dX8_back_11 rfl ?_
      refine ji_putE (ci := 8) (k := 0) rfl dX8_back_15 lX8_47 (by decide) (rf_60) (by simp [rf_c]) (ji_fitI _) rfl (rf_pth) ?_
      refine ji_aload_n dX8_back_18 rfl trivial ?_
      refine ji_get (ci := 8) (k := 0) rfl dX8_back_19 lX8_47 (by decide) (rf_60) rfl ?_
      refine ji_if_le (tgt := 27) dX8_back_22 rfl (by omega) (fun c22 => ?_) (fun c22 => ?_)
      · try (exfalso; omega)
        all_goals
          exfalso; omega
      · try (exfalso; omega)
        all_goals
          refine ji_iconst dX8_back_25 ?_
          exact ji_ireturn dX8_back_26 rfl (rfl) ⟨jr_i (by first | rfl | omega), rfl⟩

set_option maxHeartbeats 4000000 in
set_option maxRecDepth 100000 in
theorem r_back (hj3 : 0 < z 3 ∧ z 3 ≤ 5) {z9 : Nat → Int} (ez : z9 = rf_bk z) (hrf2 : rf_ok wi ht z9 nl nt sy) : JR G (d + 9) mX8_back [.ref 60] (n, rf_f f th z kp ed nt nl wi ht sy sz bf rs rr rq rp mm ln lo lf lt co ro pg pf hsh) 0 0 (some (.int (jI (rf_PW ((rf_LL z9 nl nt sy wi lo lf lt).1) ((rf_LL z9 nl nt sy wi lo lf lt).2.1) ((rf_LL z9 nl nt sy wi lo lf lt).2.2.1) ((rf_PG z9 nl nt sy wi ht (rf_LL z9 nl nt sy wi lo lf lt).1 (rf_LL z9 nl nt sy wi lo lf lt).2.1 (rf_LL z9 nl nt sy wi lo lf lt).2.2.1 (rf_LL z9 nl nt sy wi lo lf lt).2.2.2 pf).1) (va_up (rf_PG z9 nl nt sy wi ht (rf_LL z9 nl nt sy wi lo lf lt).1 (rf_LL z9 nl nt sy wi lo lf lt).2.1 (rf_LL z9 nl nt sy wi lo lf lt).2.2.1 (rf_LL z9 nl nt sy wi lo lf lt).2.2.2 pf).2 (rf_PG z9 nl nt sy wi ht (rf_LL z9 nl nt sy wi lo lf lt).1 (rf_LL z9 nl nt sy wi lo lf lt).2.1 (rf_LL z9 nl nt sy wi lo lf lt).2.2.1 (rf_LL z9 nl nt sy wi lo lf lt).2.2.2 pf).1.toNat (rf_LL z9 nl nt sy wi lo lf lt).1) (z9 1) (z9 2))))) (n, rf_f f 0 z9 kp ed nt nl wi ht sy sz bf rs rr rq rp mm ((rf_LL z9 nl nt sy wi lo lf lt).1) ((rf_LL z9 nl nt sy wi lo lf lt).2.1) ((rf_LL z9 nl nt sy wi lo lf lt).2.2.1) ((rf_LL z9 nl nt sy wi lo lf lt).2.2.2) wi ht ((rf_PG z9 nl nt sy wi ht (rf_LL z9 nl nt sy wi lo lf lt).1 (rf_LL z9 nl nt sy wi lo lf lt).2.1 (rf_LL z9 nl nt sy wi lo lf lt).2.2.1 (rf_LL z9 nl nt sy wi lo lf lt).2.2.2 pf).1) (va_up (rf_PG z9 nl nt sy wi ht (rf_LL z9 nl nt sy wi lo lf lt).1 (rf_LL z9 nl nt sy wi lo lf lt).2.1 (rf_LL z9 nl nt sy wi lo lf lt).2.2.1 (rf_LL z9 nl nt sy wi lo lf lt).2.2.2 pf).2 (rf_PG z9 nl nt sy wi ht (rf_LL z9 nl nt sy wi lo lf lt).1 (rf_LL z9 nl nt sy wi lo lf lt).2.1 (rf_LL z9 nl nt sy wi lo lf lt).2.2.1 (rf_LL z9 nl nt sy wi lo lf lt).2.2.2 pf).1.toNat (rf_LL z9 nl nt sy wi lo lf lt).1) hsh) := by
  subst ez
  obtain ⟨hz, hn, hk, hrc, ⟨hw9, hh9⟩, ⟨hm9, hj9⟩, hll⟩ := id hrf2
  have zb := hz.2.1
  have hF := (hll wi lo lf lt (by omega)).2
  have hl1 := (hll wi lo lf lt (by omega)).1
  have hc9 : 0 ≤ wi ∧ wi ≤ 100 := by omega
  have hro : 0 ≤ ht ∧ ht ≤ 100 := by omega
  have hrl := rf_LL_ok hz hF
  have hpk := rf_PG_ok (rf_bk z) nl nt sy wi ht (rf_LL (rf_bk z) nl nt sy wi lo lf lt).2.1 (rf_LL (rf_bk z) nl nt sy wi lo lf lt).2.2.1 (rf_LL (rf_bk z) nl nt sy wi lo lf lt).2.2.2 pf (ln := (rf_LL (rf_bk z) nl nt sy wi lo lf lt).1) (by omega)
  have hpp := hpk.pos (by omega)
  have hpl := hpk.1
  have eb : rf_b0 z 3 = z 3 - 1 := va_up_self _ _ _
  have eb2 : va_up z 3 (z 3 - 1) 3 = z 3 - 1 := va_up_self _ _ _
  refine ji_ent (by decide) rfl (Nat.le_of_ble_eq_true rfl) rfl ?_
  refine ji_aload_n dX8_back_0 rfl trivial ?_
  refine ji_aload_n dX8_back_1 rfl trivial ?_
  refine ji_get (ci := 8) (k := 1) rfl dX8_back_2 lX8_7 (by decide) (rf_60) rfl ?_
  refine ji_iconst dX8_back_5 ?_
  refine ji_ialoadK (k := 3) dX8_back_6 (rf_61) rfl (by decide) ?_
  refine ji_if_le (tgt := 14) dX8_back_7 rfl (by omega) (fun c7 => ?_) (fun c7 => ?_)
  · try (exfalso; omega)
    all_goals
      refine ji_iconst dX8_back_14 ?_
      refine ji_putE (ci := 8) (k := 0) rfl dX8_back_15 lX8_47 (by decide) (rf_60) (by simp [rf_c]) (ji_fitI _) rfl (rf_pth) ?_
      refine ji_aload_n dX8_back_18 rfl trivial ?_
      refine ji_get (ci := 8) (k := 0) rfl dX8_back_19 lX8_47 (by decide) (rf_60) rfl ?_
      refine ji_if_le (tgt := 27) dX8_back_22 rfl (by omega) (fun c22 => ?_) (fun c22 => ?_)
      · try (exfalso; omega)
        all_goals
          refine ji_aload_n dX8_back_27 rfl trivial ?_
          refine ji_get (ci := 8) (k := 1) rfl dX8_back_28 lX8_7 (by decide) (rf_60) rfl ?_
          refine ji_iconst dX8_back_31 ?_
          refine ji_dup2 dX8_back_32 rfl rfl ?_
          refine ji_ialoadK (k := 3) dX8_back_33 (rf_61) rfl (by decide) ?_
          refine ji_iconst dX8_back_34 ?_
          refine ji_isub dX8_back_35 ?_
          refine ji_iastoreK (k := 3) dX8_back_36 (rf_61) rfl (by decide) (rf_s61) ?_
          refine ji_aload_n dX8_back_37 rfl trivial ?_
          refine ji_aload_n dX8_back_38 rfl trivial ?_
          refine ji_get (ci := 8) (k := 1) rfl dX8_back_39 lX8_7 (by decide) (rf_60) rfl ?_
          refine ji_iconst dX8_back_42 ?_
          refine ji_iconst dX8_back_43 ?_
          refine ji_aload_n dX8_back_44 rfl trivial ?_
          refine ji_get (ci := 8) (k := 1) rfl dX8_back_45 lX8_7 (by decide) (rf_60) rfl ?_
          refine ji_iconst dX8_back_48 ?_
          refine ji_ialoadK (k := 3) dX8_back_49 (rf_61) rfl (by decide) ?_
          refine ji_imul dX8_back_50 ?_
          refine ji_iadd dX8_back_51 ?_
          refine ji_iaload dX8_back_52 (rf_61) (by omega) ?_
          refine ji_aload_n dX8_back_53 rfl trivial ?_
          refine ji_get (ci := 8) (k := 1) rfl dX8_back_54 lX8_7 (by decide) (rf_60) rfl ?_
          refine ji_iconst dX8_back_57 ?_
          refine ji_iconst dX8_back_58 ?_
          refine ji_aload_n dX8_back_59 rfl trivial ?_
          refine ji_get (ci := 8) (k := 1) rfl dX8_back_60 lX8_7 (by decide) (rf_60) rfl ?_
          refine ji_iconst dX8_back_63 ?_
          refine ji_ialoadK (k := 3) dX8_back_64 (rf_61) rfl (by decide) ?_
          refine ji_imul dX8_back_65 ?_
          refine ji_iadd dX8_back_66 ?_
          refine ji_iconst dX8_back_67 ?_
          refine ji_iadd dX8_back_68 ?_
          refine ji_iaload dX8_back_69 (rf_61) (by omega) ?_
          refine ji_cVv dX8_back_70 (r_move) rfl (rf_60) rfl rfl wX8_move vX8_move lX8_247 rfl (Nat.le_of_ble_eq_true rfl) rfl ?_
          refine ji_aload_n dX8_back_73 rfl trivial ?_
          refine ji_cVv dX8_back_74 (r_layAll hz hn hk hrc (by omega) (by omega) hF) rfl (rf_60) rfl rfl wX8_layAll vX8_layAll lX8_189 rfl (Nat.le_of_ble_eq_true rfl) rfl ?_
          refine ji_aload_n dX8_back_77 rfl trivial ?_
          refine ji_cV dX8_back_78 (r_here hz hrl hpk hl1) rfl (rf_60) rfl rfl wX8_here vX8_here lX8_250 rfl (Nat.le_of_ble_eq_true rfl) rfl ?_
          exact ji_ireturn dX8_back_81 rfl (rfl) ⟨rfl, rfl⟩
      · try (exfalso; omega)
        all_goals
          refine ji_iconst dX8_back_25 ?_
          exact ji_ireturn dX8_back_26 rfl (rfl) ⟨rfl, rfl⟩
  · try (exfalso; omega)
    all_goals
      refine ji_iconst dX8_back_10 ?_
      refine ji_goto (tgt := 15) dX8_back_11 rfl ?_
      refine ji_putE (ci := 8) (k := 0) rfl dX8_back_15 lX8_47 (by decide) (rf_60) (by simp [rf_c]) (ji_fitI _) rfl (rf_pth) ?_
      refine ji_aload_n dX8_back_18 rfl trivial ?_
      refine ji_get (ci := 8) (k := 0) rfl dX8_back_19 lX8_47 (by decide) (rf_60) rfl ?_
      refine ji_if_le (tgt := 27) dX8_back_22 rfl (by omega) (fun c22 => ?_) (fun c22 => ?_)
      · try (exfalso; omega)
        all_goals
          refine ji_aload_n dX8_back_27 rfl trivial ?_
          refine ji_get (ci := 8) (k := 1) rfl dX8_back_28 lX8_7 (by decide) (rf_60) rfl ?_
          refine ji_iconst dX8_back_31 ?_
          refine ji_dup2 dX8_back_32 rfl rfl ?_
          refine ji_ialoadK (k := 3) dX8_back_33 (rf_61) rfl (by decide) ?_
          refine ji_iconst dX8_back_34 ?_
          refine ji_isub dX8_back_35 ?_
          refine ji_iastoreK (k := 3) dX8_back_36 (rf_61) rfl (by decide) (rf_s61) ?_
          refine ji_aload_n dX8_back_37 rfl trivial ?_
          refine ji_aload_n dX8_back_38 rfl trivial ?_
          refine ji_get (ci := 8) (k := 1) rfl dX8_back_39 lX8_7 (by decide) (rf_60) rfl ?_
          refine ji_iconst dX8_back_42 ?_
          refine ji_iconst dX8_back_43 ?_
          refine ji_aload_n dX8_back_44 rfl trivial ?_
          refine ji_get (ci := 8) (k := 1) rfl dX8_back_45 lX8_7 (by decide) (rf_60) rfl ?_
          refine ji_iconst dX8_back_48 ?_
          refine ji_ialoadK (k := 3) dX8_back_49 (rf_61) rfl (by decide) ?_
          refine ji_imul dX8_back_50 ?_
          refine ji_iadd dX8_back_51 ?_
          refine ji_iaload dX8_back_52 (rf_61) (by omega) ?_
          refine ji_aload_n dX8_back_53 rfl trivial ?_
          refine ji_get (ci := 8) (k := 1) rfl dX8_back_54 lX8_7 (by decide) (rf_60) rfl ?_
          refine ji_iconst dX8_back_57 ?_
          refine ji_iconst dX8_back_58 ?_
          refine ji_aload_n dX8_back_59 rfl trivial ?_
          refine ji_get (ci := 8) (k := 1) rfl dX8_back_60 lX8_7 (by decide) (rf_60) rfl ?_
          refine ji_iconst dX8_back_63 ?_
          refine ji_ialoadK (k := 3) dX8_back_64 (rf_61) rfl (by decide) ?_
          refine ji_imul dX8_back_65 ?_
          refine ji_iadd dX8_back_66 ?_
          refine ji_iconst dX8_back_67 ?_
          refine ji_iadd dX8_back_68 ?_
          refine ji_iaload dX8_back_69 (rf_61) (by omega) ?_
          refine ji_cVv dX8_back_70 (r_move) rfl (rf_60) rfl rfl wX8_move vX8_move lX8_247 rfl (Nat.le_of_ble_eq_true rfl) rfl ?_
          refine ji_aload_n dX8_back_73 rfl trivial ?_
          refine ji_cVv dX8_back_74 (r_layAll hz hn hk hrc (by omega) (by omega) hF) rfl (rf_60) rfl rfl wX8_layAll vX8_layAll lX8_189 rfl (Nat.le_of_ble_eq_true rfl) rfl ?_
          refine ji_aload_n dX8_back_77 rfl trivial ?_
          refine ji_cV dX8_back_78 (r_here hz hrl hpk hl1) rfl (rf_60) rfl rfl wX8_here vX8_here lX8_250 rfl (Nat.le_of_ble_eq_true rfl) rfl ?_
          exact ji_ireturn dX8_back_81 rfl (rfl) ⟨rfl, rfl⟩
      · try (exfalso; omega)
        all_goals
          refine ji_iconst dX8_back_25 ?_
          exact ji_ireturn dX8_back_26 rfl (rfl) ⟨rfl, rfl⟩

set_option maxHeartbeats 4000000 in
set_option maxRecDepth 100000 in
theorem r_isWanted_x {bc bs : Nat} {q x k : Int} : JW G d mX8_isWanted 5 [some (.ref 60), some (.int (jI q)), some (.int (jI x)), some (.int (jI k)), some (.int (jI 0))] [] (n, rf_f f th z kp ed nt nl wi ht sy sz bf rs rr rq rp mm ln lo lf lt co ro pg pf hsh) bc bs (fun r9 h9 => r9 = .inl (some (.int (jI 0))) ∧ h9 = (n, rf_f f th z kp ed nt nl wi ht sy sz bf rs rr rq rp mm ln lo lf lt co ro pg pf hsh)) := by
  refine ji_iload dX8_isWanted_5 rfl ?_
  refine ji_if_eq (tgt := 74) dX8_isWanted_7 rfl (by omega) (fun c7 => ?_) (fun c7 => absurd c7 (by omega))
  refine ji_iload dX8_isWanted_74 rfl ?_
  refine ji_if_eq (tgt := 95) dX8_isWanted_76 rfl (by omega) (fun c76 => ?_) (fun c76 => absurd c76 (by omega))
  refine ji_iconst dX8_isWanted_95 ?_
  exact ji_ireturn dX8_isWanted_96 rfl (by first | rfl | decide) ⟨rfl, rfl⟩

set_option maxHeartbeats 4000000 in
set_option maxRecDepth 100000 in
theorem r_isWanted_l {bc bs : Nat} {x : Int} (hz : rz_ok z) (hn : nl_ok nl nt) (hz9 : 0 ≤ sz ∧ sz ≤ 100) (hbf : ∀ k, 0 ≤ bf k ∧ bf k < 128) {q : Int} (hq : 0 ≤ q ∧ q < 10) (hx : 0 ≤ x ∧ x ≤ 359) : ∀ (u : Nat) (k : Int), 0 ≤ k ∧ k + u = sz → rf_w1 (rf_sz z nl q) (rf_ch z nt q) bf x sz.toNat 0 = rf_w1 (rf_sz z nl q) (rf_ch z nt q) bf x u k →
    JW G (d + 2) mX8_isWanted 5 [some (.ref 60), some (.int (jI q)), some (.int (jI x)), some (.int (jI k)), some (.int (jI 1))] [] (n, rf_f f th z kp ed nt nl wi ht sy sz bf rs rr rq rp mm ln lo lf lt co ro pg pf hsh) bc bs (fun r9 h9 => r9 = .inl (some (.int (jI (rf_IW (rf_sz z nl q) (rf_ch z nt q) sz bf x)))) ∧ h9 = (n, rf_f f th z kp ed nt nl wi ht sy sz bf rs rr rq rp mm ln lo lf lt co ro pg pf hsh)) := by
  obtain ⟨z1, z2, z3, z4⟩ := id hz
  obtain ⟨n1, n2⟩ := id hn
  have zl := z3 (85 + q).toNat (by omega) (by omega)
  have es : rf_sz z nl q = z (85 + q).toNat := if_pos (by omega)
  have wwe := rf_WE_b (rf_sz z nl q) (rf_ch z nt q) x
  intro u
  induction u with
  | zero =>
    intro k hk hR
    refine ji_iload dX8_isWanted_5 rfl ?_
    refine ji_if_eq (tgt := 74) dX8_isWanted_7 rfl (by omega) (fun c7 => absurd c7 (by omega)) (fun c7 => ?_)
    refine ji_iload_n dX8_isWanted_10 rfl ?_
    refine ji_aload_n dX8_isWanted_11 rfl trivial ?_
    refine ji_get (ci := 8) (k := 9) rfl dX8_isWanted_12 lX8_54 (by decide) (rf_60) rfl ?_
    refine ji_icmp_ge (tgt := 74) dX8_isWanted_15 rfl (by omega) (by omega) (fun c15 => ?_) (fun c15 => absurd c15 (by omega))
    have e9 : rf_w1 (rf_sz z nl q) (rf_ch z nt q) bf x sz.toNat 0 = k := hR
    refine ji_iload dX8_isWanted_74 rfl ?_
    refine ji_if_eq (tgt := 95) dX8_isWanted_76 rfl (by omega) (fun c76 => absurd c76 (by omega)) (fun c76 => ?_)
    refine ji_aload_n dX8_isWanted_79 rfl trivial ?_
    refine ji_iload_n dX8_isWanted_80 rfl ?_
    refine ji_iload_n dX8_isWanted_81 rfl ?_
    refine ji_cV dX8_isWanted_82 (r_wordEnd hz hn (by omega) (by omega)) rfl (rf_60) rfl rfl wX8_wordEnd vX8_wordEnd lX8_116 rfl (Nat.le_of_ble_eq_true rfl) rfl ?_
    refine ji_iload_n dX8_isWanted_85 rfl ?_
    refine ji_iload_n dX8_isWanted_86 rfl ?_
    refine ji_iadd dX8_isWanted_87 ?_
    refine ji_icmp_ne (tgt := 95) dX8_isWanted_88 rfl (by omega) (by omega) (fun c88 => ?_) (fun c88 => ?_)
    · try (exfalso; omega)
      all_goals
        refine ji_iconst dX8_isWanted_95 ?_
        exact ji_ireturn dX8_isWanted_96 rfl (by first | rfl | decide) ⟨jr_i (by unfold rf_IW; rw [e9]; first | (rw [if_pos (by omega)]; done) | (rw [if_neg (by omega)]; done)), rfl⟩
    · try (exfalso; omega)
      all_goals
        refine ji_iconst dX8_isWanted_91 ?_
        refine ji_goto (tgt := 96) dX8_isWanted_92 rfl ?_
        exact ji_ireturn dX8_isWanted_96 rfl (by first | rfl | decide) ⟨jr_i (by unfold rf_IW; rw [e9]; first | (rw [if_pos (by omega)]; done) | (rw [if_neg (by omega)]; done)), rfl⟩
  | succ u ih =>
    intro k hk hR
    have wch : x + k < z (85 + q).toNat → 0 ≤ rf_ch z nt q (x + k) ∧ rf_ch z nt q (x + k) < 128 := fun _ => rf_ch_b (t := q) hz hn (by omega) (by omega)
    have wbf := hbf k.toNat
    refine ji_iload dX8_isWanted_5 rfl ?_
    refine ji_if_eq (tgt := 74) dX8_isWanted_7 rfl (by omega) (fun c7 => absurd c7 (by omega)) (fun c7 => ?_)
    refine ji_iload_n dX8_isWanted_10 rfl ?_
    refine ji_aload_n dX8_isWanted_11 rfl trivial ?_
    refine ji_get (ci := 8) (k := 9) rfl dX8_isWanted_12 lX8_54 (by decide) (rf_60) rfl ?_
    refine ji_icmp_ge (tgt := 74) dX8_isWanted_15 rfl (by omega) (by omega) (fun c15 => absurd c15 (by omega)) (fun c15 => ?_)
    refine ji_aload_n dX8_isWanted_18 rfl trivial ?_
    refine ji_get (ci := 8) (k := 10) rfl dX8_isWanted_19 lX8_32 (by decide) (rf_60) rfl ?_
    refine ji_iload_n dX8_isWanted_22 rfl ?_
    refine ji_iaload dX8_isWanted_23 (rf_66) (by omega) ?_
    refine ji_bipush dX8_isWanted_24 rfl ?_
    refine ji_icmp_eq (tgt := 74) dX8_isWanted_26 rfl (by omega) (by omega) (fun c26 => ?_) (fun c26 => ?_)
    · try (exfalso; omega)
      all_goals
        have e9 : rf_w1 (rf_sz z nl q) (rf_ch z nt q) bf x sz.toNat 0 = k := by rw [hR, rf_w1, if_pos (by omega)]
        refine ji_iload dX8_isWanted_74 rfl ?_
        refine ji_if_eq (tgt := 95) dX8_isWanted_76 rfl (by omega) (fun c76 => absurd c76 (by omega)) (fun c76 => ?_)
        refine ji_aload_n dX8_isWanted_79 rfl trivial ?_
        refine ji_iload_n dX8_isWanted_80 rfl ?_
        refine ji_iload_n dX8_isWanted_81 rfl ?_
        refine ji_cV dX8_isWanted_82 (r_wordEnd hz hn (by omega) (by omega)) rfl (rf_60) rfl rfl wX8_wordEnd vX8_wordEnd lX8_116 rfl (Nat.le_of_ble_eq_true rfl) rfl ?_
        refine ji_iload_n dX8_isWanted_85 rfl ?_
        refine ji_iload_n dX8_isWanted_86 rfl ?_
        refine ji_iadd dX8_isWanted_87 ?_
        refine ji_icmp_ne (tgt := 95) dX8_isWanted_88 rfl (by omega) (by omega) (fun c88 => ?_) (fun c88 => ?_)
        · try (exfalso; omega)
          all_goals
            refine ji_iconst dX8_isWanted_95 ?_
            exact ji_ireturn dX8_isWanted_96 rfl (by first | rfl | decide) ⟨jr_i (by unfold rf_IW; rw [e9]; first | (rw [if_pos (by omega)]; done) | (rw [if_neg (by omega)]; done)), rfl⟩
        · try (exfalso; omega)
          all_goals
            refine ji_iconst dX8_isWanted_91 ?_
            refine ji_goto (tgt := 96) dX8_isWanted_92 rfl ?_
            exact ji_ireturn dX8_isWanted_96 rfl (by first | rfl | decide) ⟨jr_i (by unfold rf_IW; rw [e9]; first | (rw [if_pos (by omega)]; done) | (rw [if_neg (by omega)]; done)), rfl⟩
    · try (exfalso; omega)
      all_goals
        refine ji_iload_n dX8_isWanted_29 rfl ?_
        refine ji_iload_n dX8_isWanted_30 rfl ?_
        refine ji_iadd dX8_isWanted_31 ?_
        refine ji_aload_n dX8_isWanted_32 rfl trivial ?_
        refine ji_get (ci := 8) (k := 1) rfl dX8_isWanted_33 lX8_7 (by decide) (rf_60) rfl ?_
        refine ji_bipush dX8_isWanted_36 rfl ?_
        refine ji_iload_n dX8_isWanted_38 rfl ?_
        refine ji_iadd dX8_isWanted_39 ?_
        refine ji_iaload dX8_isWanted_40 (rf_61) (by omega) ?_
        refine ji_icmp_ge (tgt := 65) dX8_isWanted_41 rfl (by omega) (by omega) (fun c41 => ?_) (fun c41 => ?_)
        · try (exfalso; omega)
          all_goals
            refine ji_iconst dX8_isWanted_65 ?_
            refine ji_istore dX8_isWanted_66 (by decide) rfl ?_
            refine ji_iinc dX8_isWanted_68 (by decide) rfl rfl ?_
            refine ji_goto (tgt := 5) dX8_isWanted_71 rfl ?_
            first | exact ih _ (by omega) (by rw [hR, rf_w1, if_neg (by omega), if_pos (by omega)]) | (rw [show rf_IW (rf_sz z nl q) (rf_ch z nt q) sz bf x = 0 from if_neg (fun hh => hh.1 (by rw [hR, rf_w1, if_neg (by omega), if_neg (by omega)]))]; exact r_isWanted_x)
        · try (exfalso; omega)
          all_goals
            refine ji_aload_n dX8_isWanted_44 rfl trivial ?_
            refine ji_iload_n dX8_isWanted_45 rfl ?_
            refine ji_iload_n dX8_isWanted_46 rfl ?_
            refine ji_iload_n dX8_isWanted_47 rfl ?_
            refine ji_iadd dX8_isWanted_48 ?_
            refine ji_cV dX8_isWanted_49 (r_charOf hz hn (by omega) (by omega)) rfl (rf_60) rfl rfl wX8_charOf vX8_charOf lX8_112 rfl (Nat.le_of_ble_eq_true rfl) rfl ?_
            refine ji_aload_n dX8_isWanted_52 rfl trivial ?_
            refine ji_get (ci := 8) (k := 10) rfl dX8_isWanted_53 lX8_32 (by decide) (rf_60) rfl ?_
            refine ji_iload_n dX8_isWanted_56 rfl ?_
            refine ji_iaload dX8_isWanted_57 (rf_66) (by omega) ?_
            refine ji_icmp_ne (tgt := 65) dX8_isWanted_58 rfl (by omega) (by omega) (fun c58 => ?_) (fun c58 => ?_)
            · try (exfalso; omega)
              all_goals
                refine ji_iconst dX8_isWanted_65 ?_
                refine ji_istore dX8_isWanted_66 (by decide) rfl ?_
                refine ji_iinc dX8_isWanted_68 (by decide) rfl rfl ?_
                refine ji_goto (tgt := 5) dX8_isWanted_71 rfl ?_
                first | exact ih _ (by omega) (by rw [hR, rf_w1, if_neg (by omega), if_pos (by omega)]) | (rw [show rf_IW (rf_sz z nl q) (rf_ch z nt q) sz bf x = 0 from if_neg (fun hh => hh.1 (by rw [hR, rf_w1, if_neg (by omega), if_neg (by omega)]))]; exact r_isWanted_x)
            · try (exfalso; omega)
              all_goals
                refine ji_iconst dX8_isWanted_61 ?_
                refine ji_goto (tgt := 66) dX8_isWanted_62 rfl ?_
                refine ji_istore dX8_isWanted_66 (by decide) rfl ?_
                refine ji_iinc dX8_isWanted_68 (by decide) rfl rfl ?_
                refine ji_goto (tgt := 5) dX8_isWanted_71 rfl ?_
                first | exact ih _ (by omega) (by rw [hR, rf_w1, if_neg (by omega), if_pos (by omega)]) | (rw [show rf_IW (rf_sz z nl q) (rf_ch z nt q) sz bf x = 0 from if_neg (fun hh => hh.1 (by rw [hR, rf_w1, if_neg (by omega), if_neg (by omega)]))]; exact r_isWanted_x)

set_option maxHeartbeats 4000000 in
set_option maxRecDepth 100000 in
theorem r_isWanted {x : Int} (hz : rz_ok z) (hn : nl_ok nl nt) (hz9 : 0 ≤ sz ∧ sz ≤ 100) (hbf : ∀ k, 0 ≤ bf k ∧ bf k < 128) {q : Int} (hq : 0 ≤ q ∧ q < 10) (hx : 0 ≤ x ∧ x ≤ 359) : JR G (d + 2) mX8_isWanted [.ref 60, .int (jI q), .int (jI x)] (n, rf_f f th z kp ed nt nl wi ht sy sz bf rs rr rq rp mm ln lo lf lt co ro pg pf hsh) 0 0 (some (.int (jI (rf_IW (rf_sz z nl q) (rf_ch z nt q) sz bf x)))) (n, rf_f f th z kp ed nt nl wi ht sy sz bf rs rr rq rp mm ln lo lf lt co ro pg pf hsh) := by
  refine ji_ent (by decide) rfl (Nat.le_of_ble_eq_true rfl) rfl ?_
  refine ji_iconst dX8_isWanted_0 ?_
  refine ji_istore_n dX8_isWanted_1 (by decide) rfl ?_
  refine ji_iconst dX8_isWanted_2 ?_
  refine ji_istore dX8_isWanted_3 (by decide) rfl ?_
  exact r_isWanted_l hz hn hz9 hbf hq hx sz.toNat 0 (by omega) rfl

set_option maxHeartbeats 4000000 in
set_option maxRecDepth 100000 in
theorem r_findNow_i {bc bs : Nat} {Q : ji_R → ji_H → Prop} {b now R : Int} (hb : b = 0 ∨ b = 1) (hnow : -100000000 ≤ now ∧ now ≤ 100000000) (hz : rz_ok z) (hn : nl_ok nl nt) (hz9 : 0 ≤ sz ∧ sz ≤ 100) (hbf : ∀ k, 0 ≤ bf k ∧ bf k < 128) {q : Int} (hq : 0 ≤ q ∧ q < 10) (kk : ∀ k o6 o7, JW G (d + 3) mX8_findNow 132 [some (.ref 60), some (.int (jI b)), some (.int (jI now)), some (.int (jI R)), some (.int (jI q)), some (.int (jI k)), o6, o7] [] (n, rf_f f th z kp ed nt nl wi ht sy sz bf rs rr rq rp mm ln lo lf lt co ro pg pf hsh) bc bs Q) : ∀ (u : Nat) (x k : Int) (o6 o7 : Option Value), 0 ≤ k ∧ k ≤ 400 → -1 ≤ x ∧ x ≤ 100000 → z (85 + q).toNat - k ≤ u → R = rf_f1 (rf_sz z nl q) (rf_ch z nt q) sz bf b now q u k x →
    JW G (d + 3) mX8_findNow 37 [some (.ref 60), some (.int (jI b)), some (.int (jI now)), some (.int (jI x)), some (.int (jI q)), some (.int (jI k)), o6, o7] [] (n, rf_f f th z kp ed nt nl wi ht sy sz bf rs rr rq rp mm ln lo lf lt co ro pg pf hsh) bc bs Q := by
  obtain ⟨z1, z2, z3, z4⟩ := id hz
  obtain ⟨n1, n2⟩ := id hn
  have zl := z3 (85 + q).toNat (by omega) (by omega)
  have es : rf_sz z nl q = z (85 + q).toNat := if_pos (by omega)
  intro u
  induction u with
  | zero =>
    intro x k o6 o7 hk hx hu hR
    have e2 : R = x := hR
    subst e2
    refine ji_iload dX8_findNow_37 rfl ?_
    refine ji_aload_n dX8_findNow_39 rfl trivial ?_
    refine ji_get (ci := 8) (k := 1) rfl dX8_findNow_40 lX8_7 (by decide) (rf_60) rfl ?_
    refine ji_bipush dX8_findNow_43 rfl ?_
    refine ji_iload dX8_findNow_45 rfl ?_
    refine ji_iadd dX8_findNow_47 ?_
    refine ji_iaload dX8_findNow_48 (rf_61) (by omega) ?_
    refine ji_icmp_ge (tgt := 132) dX8_findNow_49 rfl (by omega) (by omega) (fun c49 => ?_) (fun c49 => absurd c49 (by omega))
    exact kk _ _ _
  | succ u ih =>
    intro x k o6 o7 hk hx hu hR
    have wwe := rf_WE_b (rf_sz z nl q) (rf_ch z nt q) k
    have wiw := rf_IW_b (rf_sz z nl q) (rf_ch z nt q) sz bf k
    refine ji_iload dX8_findNow_37 rfl ?_
    refine ji_aload_n dX8_findNow_39 rfl trivial ?_
    refine ji_get (ci := 8) (k := 1) rfl dX8_findNow_40 lX8_7 (by decide) (rf_60) rfl ?_
    refine ji_bipush dX8_findNow_43 rfl ?_
    refine ji_iload dX8_findNow_45 rfl ?_
    refine ji_iadd dX8_findNow_47 ?_
    refine ji_iaload dX8_findNow_48 (rf_61) (by omega) ?_
    refine ji_icmp_ge (tgt := 132) dX8_findNow_49 rfl (by omega) (by omega) (fun c49 => ?_) (fun c49 => ?_)
    · try (exfalso; omega)
      all_goals
        rw [show R = x by rw [hR, rf_f1, if_neg (by omega)]] at kk; exact kk _ _ _
    · try (exfalso; omega)
      all_goals
        refine ji_sipush dX8_findNow_52 rfl ?_
        refine ji_iload dX8_findNow_55 rfl ?_
        refine ji_imul dX8_findNow_57 ?_
        refine ji_iload dX8_findNow_58 rfl ?_
        refine ji_iadd dX8_findNow_60 ?_
        refine ji_istore dX8_findNow_61 (by decide) rfl ?_
        refine ji_aload_n dX8_findNow_63 rfl trivial ?_
        refine ji_iload dX8_findNow_64 rfl ?_
        refine ji_iload dX8_findNow_66 rfl ?_
        refine ji_cV dX8_findNow_68 (r_isWanted hz hn hz9 hbf (by omega) (by omega)) rfl (rf_60) rfl rfl wX8_isWanted vX8_isWanted lX8_254 rfl (Nat.le_of_ble_eq_true rfl) rfl ?_
        refine ji_if_eq (tgt := 102) dX8_findNow_71 rfl (by omega) (fun c71 => ?_) (fun c71 => ?_)
        · try (exfalso; omega)
          all_goals
            refine ji_iconst dX8_findNow_102 ?_
            refine ji_istore dX8_findNow_103 (by decide) rfl ?_
            refine ji_iload dX8_findNow_105 rfl ?_
            refine ji_if_eq (tgt := 115) dX8_findNow_107 rfl (by omega) (fun c107 => ?_) (fun c107 => ?_)
            · try (exfalso; omega)
              all_goals
                refine ji_iload_n dX8_findNow_115 rfl ?_
                refine ji_istore_n dX8_findNow_116 (by decide) rfl ?_
                refine ji_aload_n dX8_findNow_117 rfl trivial ?_
                refine ji_iload dX8_findNow_118 rfl ?_
                refine ji_iload dX8_findNow_120 rfl ?_
                refine ji_cV dX8_findNow_122 (r_wordEnd hz hn (by omega) (by omega)) rfl (rf_60) rfl rfl wX8_wordEnd vX8_wordEnd lX8_116 rfl (Nat.le_of_ble_eq_true rfl) rfl ?_
                refine ji_iconst dX8_findNow_125 ?_
                refine ji_iadd dX8_findNow_126 ?_
                refine ji_istore dX8_findNow_127 (by decide) rfl ?_
                refine ji_goto (tgt := 37) dX8_findNow_129 rfl ?_
                first | exact ih _ _ _ _ (by omega) (by omega) (by omega) (by rw [hR, rf_f1, if_pos (by omega), if_pos (by omega)]) | exact ih _ _ _ _ (by omega) (by omega) (by omega) (by rw [hR, rf_f1, if_pos (by omega), if_neg (by omega)])
            · try (exfalso; omega)
              all_goals
                refine ji_iload dX8_findNow_110 rfl ?_
                refine ji_goto (tgt := 116) dX8_findNow_112 rfl ?_
                refine ji_istore_n dX8_findNow_116 (by decide) rfl ?_
                refine ji_aload_n dX8_findNow_117 rfl trivial ?_
                refine ji_iload dX8_findNow_118 rfl ?_
                refine ji_iload dX8_findNow_120 rfl ?_
                refine ji_cV dX8_findNow_122 (r_wordEnd hz hn (by omega) (by omega)) rfl (rf_60) rfl rfl wX8_wordEnd vX8_wordEnd lX8_116 rfl (Nat.le_of_ble_eq_true rfl) rfl ?_
                refine ji_iconst dX8_findNow_125 ?_
                refine ji_iadd dX8_findNow_126 ?_
                refine ji_istore dX8_findNow_127 (by decide) rfl ?_
                refine ji_goto (tgt := 37) dX8_findNow_129 rfl ?_
                first | exact ih _ _ _ _ (by omega) (by omega) (by omega) (by rw [hR, rf_f1, if_pos (by omega), if_pos (by omega)]) | exact ih _ _ _ _ (by omega) (by omega) (by omega) (by rw [hR, rf_f1, if_pos (by omega), if_neg (by omega)])
        · try (exfalso; omega)
          all_goals
            refine ji_iload_n dX8_findNow_74 rfl ?_
            refine ji_if_eq (tgt := 92) dX8_findNow_75 rfl (by omega) (fun c75 => ?_) (fun c75 => ?_)
            · try (exfalso; omega)
              all_goals
                refine ji_iload dX8_findNow_92 rfl ?_
                refine ji_iload_n dX8_findNow_94 rfl ?_
                refine ji_icmp_ge (tgt := 102) dX8_findNow_95 rfl (by omega) (by omega) (fun c95 => ?_) (fun c95 => ?_)
                · try (exfalso; omega)
                  all_goals
                    refine ji_iconst dX8_findNow_102 ?_
                    refine ji_istore dX8_findNow_103 (by decide) rfl ?_
                    refine ji_iload dX8_findNow_105 rfl ?_
                    refine ji_if_eq (tgt := 115) dX8_findNow_107 rfl (by omega) (fun c107 => ?_) (fun c107 => ?_)
                    · try (exfalso; omega)
                      all_goals
                        refine ji_iload_n dX8_findNow_115 rfl ?_
                        refine ji_istore_n dX8_findNow_116 (by decide) rfl ?_
                        refine ji_aload_n dX8_findNow_117 rfl trivial ?_
                        refine ji_iload dX8_findNow_118 rfl ?_
                        refine ji_iload dX8_findNow_120 rfl ?_
                        refine ji_cV dX8_findNow_122 (r_wordEnd hz hn (by omega) (by omega)) rfl (rf_60) rfl rfl wX8_wordEnd vX8_wordEnd lX8_116 rfl (Nat.le_of_ble_eq_true rfl) rfl ?_
                        refine ji_iconst dX8_findNow_125 ?_
                        refine ji_iadd dX8_findNow_126 ?_
                        refine ji_istore dX8_findNow_127 (by decide) rfl ?_
                        refine ji_goto (tgt := 37) dX8_findNow_129 rfl ?_
                        first | exact ih _ _ _ _ (by omega) (by omega) (by omega) (by rw [hR, rf_f1, if_pos (by omega), if_pos (by omega)]) | exact ih _ _ _ _ (by omega) (by omega) (by omega) (by rw [hR, rf_f1, if_pos (by omega), if_neg (by omega)])
                    · try (exfalso; omega)
                      all_goals
                        refine ji_iload dX8_findNow_110 rfl ?_
                        refine ji_goto (tgt := 116) dX8_findNow_112 rfl ?_
                        refine ji_istore_n dX8_findNow_116 (by decide) rfl ?_
                        refine ji_aload_n dX8_findNow_117 rfl trivial ?_
                        refine ji_iload dX8_findNow_118 rfl ?_
                        refine ji_iload dX8_findNow_120 rfl ?_
                        refine ji_cV dX8_findNow_122 (r_wordEnd hz hn (by omega) (by omega)) rfl (rf_60) rfl rfl wX8_wordEnd vX8_wordEnd lX8_116 rfl (Nat.le_of_ble_eq_true rfl) rfl ?_
                        refine ji_iconst dX8_findNow_125 ?_
                        refine ji_iadd dX8_findNow_126 ?_
                        refine ji_istore dX8_findNow_127 (by decide) rfl ?_
                        refine ji_goto (tgt := 37) dX8_findNow_129 rfl ?_
                        first | exact ih _ _ _ _ (by omega) (by omega) (by omega) (by rw [hR, rf_f1, if_pos (by omega), if_pos (by omega)]) | exact ih _ _ _ _ (by omega) (by omega) (by omega) (by rw [hR, rf_f1, if_pos (by omega), if_neg (by omega)])
                · try (exfalso; omega)
                  all_goals
                    refine ji_iconst dX8_findNow_98 ?_
                    refine ji_goto (tgt := 103) dX8_findNow_99 rfl ?_
                    refine ji_istore dX8_findNow_103 (by decide) rfl ?_
                    refine ji_iload dX8_findNow_105 rfl ?_
                    refine ji_if_eq (tgt := 115) dX8_findNow_107 rfl (by omega) (fun c107 => ?_) (fun c107 => ?_)
                    · try (exfalso; omega)
                      all_goals
                        refine ji_iload_n dX8_findNow_115 rfl ?_
                        refine ji_istore_n dX8_findNow_116 (by decide) rfl ?_
                        refine ji_aload_n dX8_findNow_117 rfl trivial ?_
                        refine ji_iload dX8_findNow_118 rfl ?_
                        refine ji_iload dX8_findNow_120 rfl ?_
                        refine ji_cV dX8_findNow_122 (r_wordEnd hz hn (by omega) (by omega)) rfl (rf_60) rfl rfl wX8_wordEnd vX8_wordEnd lX8_116 rfl (Nat.le_of_ble_eq_true rfl) rfl ?_
                        refine ji_iconst dX8_findNow_125 ?_
                        refine ji_iadd dX8_findNow_126 ?_
                        refine ji_istore dX8_findNow_127 (by decide) rfl ?_
                        refine ji_goto (tgt := 37) dX8_findNow_129 rfl ?_
                        first | exact ih _ _ _ _ (by omega) (by omega) (by omega) (by rw [hR, rf_f1, if_pos (by omega), if_pos (by omega)]) | exact ih _ _ _ _ (by omega) (by omega) (by omega) (by rw [hR, rf_f1, if_pos (by omega), if_neg (by omega)])
                    · try (exfalso; omega)
                      all_goals
                        refine ji_iload dX8_findNow_110 rfl ?_
                        refine ji_goto (tgt := 116) dX8_findNow_112 rfl ?_
                        refine ji_istore_n dX8_findNow_116 (by decide) rfl ?_
                        refine ji_aload_n dX8_findNow_117 rfl trivial ?_
                        refine ji_iload dX8_findNow_118 rfl ?_
                        refine ji_iload dX8_findNow_120 rfl ?_
                        refine ji_cV dX8_findNow_122 (r_wordEnd hz hn (by omega) (by omega)) rfl (rf_60) rfl rfl wX8_wordEnd vX8_wordEnd lX8_116 rfl (Nat.le_of_ble_eq_true rfl) rfl ?_
                        refine ji_iconst dX8_findNow_125 ?_
                        refine ji_iadd dX8_findNow_126 ?_
                        refine ji_istore dX8_findNow_127 (by decide) rfl ?_
                        refine ji_goto (tgt := 37) dX8_findNow_129 rfl ?_
                        first | exact ih _ _ _ _ (by omega) (by omega) (by omega) (by rw [hR, rf_f1, if_pos (by omega), if_pos (by omega)]) | exact ih _ _ _ _ (by omega) (by omega) (by omega) (by rw [hR, rf_f1, if_pos (by omega), if_neg (by omega)])
            · try (exfalso; omega)
              all_goals
                refine ji_iload dX8_findNow_78 rfl ?_
                refine ji_iload_n dX8_findNow_80 rfl ?_
                refine ji_icmp_le (tgt := 102) dX8_findNow_81 rfl (by omega) (by omega) (fun c81 => ?_) (fun c81 => ?_)
                · try (exfalso; omega)
                  all_goals
                    refine ji_iconst dX8_findNow_102 ?_
                    refine ji_istore dX8_findNow_103 (by decide) rfl ?_
                    refine ji_iload dX8_findNow_105 rfl ?_
                    refine ji_if_eq (tgt := 115) dX8_findNow_107 rfl (by omega) (fun c107 => ?_) (fun c107 => ?_)
                    · try (exfalso; omega)
                      all_goals
                        refine ji_iload_n dX8_findNow_115 rfl ?_
                        refine ji_istore_n dX8_findNow_116 (by decide) rfl ?_
                        refine ji_aload_n dX8_findNow_117 rfl trivial ?_
                        refine ji_iload dX8_findNow_118 rfl ?_
                        refine ji_iload dX8_findNow_120 rfl ?_
                        refine ji_cV dX8_findNow_122 (r_wordEnd hz hn (by omega) (by omega)) rfl (rf_60) rfl rfl wX8_wordEnd vX8_wordEnd lX8_116 rfl (Nat.le_of_ble_eq_true rfl) rfl ?_
                        refine ji_iconst dX8_findNow_125 ?_
                        refine ji_iadd dX8_findNow_126 ?_
                        refine ji_istore dX8_findNow_127 (by decide) rfl ?_
                        refine ji_goto (tgt := 37) dX8_findNow_129 rfl ?_
                        first | exact ih _ _ _ _ (by omega) (by omega) (by omega) (by rw [hR, rf_f1, if_pos (by omega), if_pos (by omega)]) | exact ih _ _ _ _ (by omega) (by omega) (by omega) (by rw [hR, rf_f1, if_pos (by omega), if_neg (by omega)])
                    · try (exfalso; omega)
                      all_goals
                        refine ji_iload dX8_findNow_110 rfl ?_
                        refine ji_goto (tgt := 116) dX8_findNow_112 rfl ?_
                        refine ji_istore_n dX8_findNow_116 (by decide) rfl ?_
                        refine ji_aload_n dX8_findNow_117 rfl trivial ?_
                        refine ji_iload dX8_findNow_118 rfl ?_
                        refine ji_iload dX8_findNow_120 rfl ?_
                        refine ji_cV dX8_findNow_122 (r_wordEnd hz hn (by omega) (by omega)) rfl (rf_60) rfl rfl wX8_wordEnd vX8_wordEnd lX8_116 rfl (Nat.le_of_ble_eq_true rfl) rfl ?_
                        refine ji_iconst dX8_findNow_125 ?_
                        refine ji_iadd dX8_findNow_126 ?_
                        refine ji_istore dX8_findNow_127 (by decide) rfl ?_
                        refine ji_goto (tgt := 37) dX8_findNow_129 rfl ?_
                        first | exact ih _ _ _ _ (by omega) (by omega) (by omega) (by rw [hR, rf_f1, if_pos (by omega), if_pos (by omega)]) | exact ih _ _ _ _ (by omega) (by omega) (by omega) (by rw [hR, rf_f1, if_pos (by omega), if_neg (by omega)])
                · try (exfalso; omega)
                  all_goals
                    refine ji_iload_n dX8_findNow_84 rfl ?_
                    refine ji_iconst dX8_findNow_85 ?_
                    refine ji_icmp_ne (tgt := 102) dX8_findNow_86 rfl (by omega) (by omega) (fun c86 => ?_) (fun c86 => ?_)
                    · try (exfalso; omega)
                      all_goals
                        refine ji_iconst dX8_findNow_102 ?_
                        refine ji_istore dX8_findNow_103 (by decide) rfl ?_
                        refine ji_iload dX8_findNow_105 rfl ?_
                        refine ji_if_eq (tgt := 115) dX8_findNow_107 rfl (by omega) (fun c107 => ?_) (fun c107 => ?_)
                        · try (exfalso; omega)
                          all_goals
                            refine ji_iload_n dX8_findNow_115 rfl ?_
                            refine ji_istore_n dX8_findNow_116 (by decide) rfl ?_
                            refine ji_aload_n dX8_findNow_117 rfl trivial ?_
                            refine ji_iload dX8_findNow_118 rfl ?_
                            refine ji_iload dX8_findNow_120 rfl ?_
                            refine ji_cV dX8_findNow_122 (r_wordEnd hz hn (by omega) (by omega)) rfl (rf_60) rfl rfl wX8_wordEnd vX8_wordEnd lX8_116 rfl (Nat.le_of_ble_eq_true rfl) rfl ?_
                            refine ji_iconst dX8_findNow_125 ?_
                            refine ji_iadd dX8_findNow_126 ?_
                            refine ji_istore dX8_findNow_127 (by decide) rfl ?_
                            refine ji_goto (tgt := 37) dX8_findNow_129 rfl ?_
                            first | exact ih _ _ _ _ (by omega) (by omega) (by omega) (by rw [hR, rf_f1, if_pos (by omega), if_pos (by omega)]) | exact ih _ _ _ _ (by omega) (by omega) (by omega) (by rw [hR, rf_f1, if_pos (by omega), if_neg (by omega)])
                        · try (exfalso; omega)
                          all_goals
                            refine ji_iload dX8_findNow_110 rfl ?_
                            refine ji_goto (tgt := 116) dX8_findNow_112 rfl ?_
                            refine ji_istore_n dX8_findNow_116 (by decide) rfl ?_
                            refine ji_aload_n dX8_findNow_117 rfl trivial ?_
                            refine ji_iload dX8_findNow_118 rfl ?_
                            refine ji_iload dX8_findNow_120 rfl ?_
                            refine ji_cV dX8_findNow_122 (r_wordEnd hz hn (by omega) (by omega)) rfl (rf_60) rfl rfl wX8_wordEnd vX8_wordEnd lX8_116 rfl (Nat.le_of_ble_eq_true rfl) rfl ?_
                            refine ji_iconst dX8_findNow_125 ?_
                            refine ji_iadd dX8_findNow_126 ?_
                            refine ji_istore dX8_findNow_127 (by decide) rfl ?_
                            refine ji_goto (tgt := 37) dX8_findNow_129 rfl ?_
                            first | exact ih _ _ _ _ (by omega) (by omega) (by omega) (by rw [hR, rf_f1, if_pos (by omega), if_pos (by omega)]) | exact ih _ _ _ _ (by omega) (by omega) (by omega) (by rw [hR, rf_f1, if_pos (by omega), if_neg (by omega)])
                    · try (exfalso; omega)
                      all_goals
                        refine ji_goto (tgt := 98) dX8_findNow_89 rfl ?_
                        refine ji_iconst dX8_findNow_98 ?_
                        refine ji_goto (tgt := 103) dX8_findNow_99 rfl ?_
                        refine ji_istore dX8_findNow_103 (by decide) rfl ?_
                        refine ji_iload dX8_findNow_105 rfl ?_
                        refine ji_if_eq (tgt := 115) dX8_findNow_107 rfl (by omega) (fun c107 => ?_) (fun c107 => ?_)
                        · try (exfalso; omega)
                          all_goals
                            refine ji_iload_n dX8_findNow_115 rfl ?_
                            refine ji_istore_n dX8_findNow_116 (by decide) rfl ?_
                            refine ji_aload_n dX8_findNow_117 rfl trivial ?_
                            refine ji_iload dX8_findNow_118 rfl ?_
                            refine ji_iload dX8_findNow_120 rfl ?_
                            refine ji_cV dX8_findNow_122 (r_wordEnd hz hn (by omega) (by omega)) rfl (rf_60) rfl rfl wX8_wordEnd vX8_wordEnd lX8_116 rfl (Nat.le_of_ble_eq_true rfl) rfl ?_
                            refine ji_iconst dX8_findNow_125 ?_
                            refine ji_iadd dX8_findNow_126 ?_
                            refine ji_istore dX8_findNow_127 (by decide) rfl ?_
                            refine ji_goto (tgt := 37) dX8_findNow_129 rfl ?_
                            first | exact ih _ _ _ _ (by omega) (by omega) (by omega) (by rw [hR, rf_f1, if_pos (by omega), if_pos (by omega)]) | exact ih _ _ _ _ (by omega) (by omega) (by omega) (by rw [hR, rf_f1, if_pos (by omega), if_neg (by omega)])
                        · try (exfalso; omega)
                          all_goals
                            refine ji_iload dX8_findNow_110 rfl ?_
                            refine ji_goto (tgt := 116) dX8_findNow_112 rfl ?_
                            refine ji_istore_n dX8_findNow_116 (by decide) rfl ?_
                            refine ji_aload_n dX8_findNow_117 rfl trivial ?_
                            refine ji_iload dX8_findNow_118 rfl ?_
                            refine ji_iload dX8_findNow_120 rfl ?_
                            refine ji_cV dX8_findNow_122 (r_wordEnd hz hn (by omega) (by omega)) rfl (rf_60) rfl rfl wX8_wordEnd vX8_wordEnd lX8_116 rfl (Nat.le_of_ble_eq_true rfl) rfl ?_
                            refine ji_iconst dX8_findNow_125 ?_
                            refine ji_iadd dX8_findNow_126 ?_
                            refine ji_istore dX8_findNow_127 (by decide) rfl ?_
                            refine ji_goto (tgt := 37) dX8_findNow_129 rfl ?_
                            first | exact ih _ _ _ _ (by omega) (by omega) (by omega) (by rw [hR, rf_f1, if_pos (by omega), if_pos (by omega)]) | exact ih _ _ _ _ (by omega) (by omega) (by omega) (by rw [hR, rf_f1, if_pos (by omega), if_neg (by omega)])

set_option maxHeartbeats 4000000 in
set_option maxRecDepth 100000 in
theorem r_findNow_o {bc bs : Nat} {b now R : Int} (hb : b = 0 ∨ b = 1) (hnow : -100000000 ≤ now ∧ now ≤ 100000000) (hz : rz_ok z) (hn : nl_ok nl nt) (hz9 : 0 ≤ sz ∧ sz ≤ 100) (hbf : ∀ k, 0 ≤ bf k ∧ bf k < 128) : ∀ (u : Nat) (x q : Int) (o5 o6 o7 : Option Value), 0 ≤ q ∧ q + u = z 0 → -1 ≤ x ∧ x ≤ 100000 → R = rf_f2 z nl nt sz bf b now u q x →
    JW G (d + 3) mX8_findNow 23 [some (.ref 60), some (.int (jI b)), some (.int (jI now)), some (.int (jI x)), some (.int (jI q)), o5, o6, o7] [] (n, rf_f f th z kp ed nt nl wi ht sy sz bf rs rr rq rp mm ln lo lf lt co ro pg pf hsh) bc bs (fun r9 h9 => r9 = .inl (some (.int (jI R))) ∧ h9 = (n, rf_f f th z kp ed nt nl wi ht sy sz bf rs rr rq rp mm ln lo lf lt co ro pg pf hsh)) := by
  obtain ⟨z1, z2, z3, z4⟩ := id hz
  obtain ⟨n1, n2⟩ := id hn
  intro u
  induction u with
  | zero =>
    intro x q o5 o6 o7 hq hx hR
    refine ji_iload dX8_findNow_23 rfl ?_
    refine ji_aload_n dX8_findNow_25 rfl trivial ?_
    refine ji_get (ci := 8) (k := 1) rfl dX8_findNow_26 lX8_7 (by decide) (rf_60) rfl ?_
    refine ji_iconst dX8_findNow_29 ?_
    refine ji_ialoadK (k := 0) dX8_findNow_30 (rf_61) rfl (by decide) ?_
    refine ji_icmp_ge (tgt := 138) dX8_findNow_31 rfl (by omega) (by omega) (fun c31 => ?_) (fun c31 => absurd c31 (by omega))
    refine ji_iload_n dX8_findNow_138 rfl ?_
    exact ji_ireturn dX8_findNow_139 rfl (rfl) ⟨by rw [hR]; rfl, rfl⟩
  | succ u ih =>
    intro x q o5 o6 o7 hq hx hR
    have zl := z3 (85 + q).toNat (by omega) (by omega)
    have es : rf_sz z nl q = z (85 + q).toNat := if_pos (by omega)
    refine ji_iload dX8_findNow_23 rfl ?_
    refine ji_aload_n dX8_findNow_25 rfl trivial ?_
    refine ji_get (ci := 8) (k := 1) rfl dX8_findNow_26 lX8_7 (by decide) (rf_60) rfl ?_
    refine ji_iconst dX8_findNow_29 ?_
    refine ji_ialoadK (k := 0) dX8_findNow_30 (rf_61) rfl (by decide) ?_
    refine ji_icmp_ge (tgt := 138) dX8_findNow_31 rfl (by omega) (by omega) (fun c31 => absurd c31 (by omega)) (fun c31 => ?_)
    refine ji_iconst dX8_findNow_34 ?_
    refine ji_istore dX8_findNow_35 (by decide) rfl ?_
    refine r_findNow_i (q := q) hb hnow hz hn hz9 hbf (by omega) (fun k o6 o7 => ?_) (z (85 + q).toNat).toNat x 0 _ _ (by omega) hx (by omega) rfl
    refine ji_iinc dX8_findNow_132 (by decide) rfl rfl ?_
    refine ji_goto (tgt := 23) dX8_findNow_135 rfl ?_
    exact ih _ _ _ _ _ (by omega) (rf_f1_b (by omega) _ _ _ _ _ (by omega) _ _ _ (by omega) hx) (by rw [hR, rf_f2])

set_option maxHeartbeats 4000000 in
set_option maxRecDepth 100000 in
theorem r_findNow {b : Int} (hb : b = 0 ∨ b = 1) (hz : rz_ok z) (hn : nl_ok nl nt) (hz9 : 0 ≤ sz ∧ sz ≤ 100) (hbf : ∀ k, 0 ≤ bf k ∧ bf k < 128) : JR G (d + 3) mX8_findNow [.ref 60, .int (jI b)] (n, rf_f f th z kp ed nt nl wi ht sy sz bf rs rr rq rp mm ln lo lf lt co ro pg pf hsh) 0 0 (some (.int (jI (rf_FN z nl nt sz bf b)))) (n, rf_f f th z kp ed nt nl wi ht sy sz bf rs rr rq rp mm ln lo lf lt co ro pg pf hsh) := by
  obtain ⟨z1, z2, z3, z4⟩ := id hz
  obtain ⟨n1, n2⟩ := id hn
  have za := z1 1
  have zb := z1 2
  refine ji_ent (by decide) rfl (Nat.le_of_ble_eq_true rfl) rfl ?_
  refine ji_sipush dX8_findNow_0 rfl ?_
  refine ji_aload_n dX8_findNow_3 rfl trivial ?_
  refine ji_get (ci := 8) (k := 1) rfl dX8_findNow_4 lX8_7 (by decide) (rf_60) rfl ?_
  refine ji_iconst dX8_findNow_7 ?_
  refine ji_ialoadK (k := 1) dX8_findNow_8 (rf_61) rfl (by decide) ?_
  refine ji_imul dX8_findNow_9 ?_
  refine ji_aload_n dX8_findNow_10 rfl trivial ?_
  refine ji_get (ci := 8) (k := 1) rfl dX8_findNow_11 lX8_7 (by decide) (rf_60) rfl ?_
  refine ji_iconst dX8_findNow_14 ?_
  refine ji_ialoadK (k := 2) dX8_findNow_15 (rf_61) rfl (by decide) ?_
  refine ji_iadd dX8_findNow_16 ?_
  refine ji_istore_n dX8_findNow_17 (by decide) rfl ?_
  refine ji_iconst dX8_findNow_18 ?_
  refine ji_istore_n dX8_findNow_19 (by decide) rfl ?_
  refine ji_iconst dX8_findNow_20 ?_
  refine ji_istore dX8_findNow_21 (by decide) rfl ?_
  exact r_findNow_o hb (by omega) hz hn hz9 hbf (z 0).toNat (-1) 0 _ _ _ (by omega) (by omega) rfl

set_option maxHeartbeats 4000000 in
set_option maxRecDepth 100000 in
theorem r_find1 {b : Int} (hz9 : 0 ≤ sz ∧ sz ≤ 100) (hbf : ∀ k, 0 ≤ bf k ∧ bf k < 128) (hx : rf_TX sz bf 0 = 0) : JR G (d + 6) mX8_find [.ref 60, .int (jI b)] (n, rf_f f th z kp ed nt nl wi ht sy sz bf rs rr rq rp mm ln lo lf lt co ro pg pf hsh) 0 0 (some (.int (jI 0))) (n, rf_f f 1 z kp ed nt nl wi ht sy sz bf ((rf_RL sz bf 0).2.1) ((rf_RL sz bf 0).2.2.1) ((rf_RL sz bf 0).2.2.2.1) ((rf_RL sz bf 0).2.2.2.2.1) ((rf_RL sz bf 0).2.2.2.2.2) ln lo lf lt co ro pg pf hsh) := by
  refine ji_ent (by decide) rfl (Nat.le_of_ble_eq_true rfl) rfl ?_
  refine ji_aload_n dX8_find_0 rfl trivial ?_
  refine ji_aload_n dX8_find_1 rfl trivial ?_
  refine ji_iconst dX8_find_2 ?_
  refine ji_cV dX8_find_3 (r_isText (b := 0) (by omega) hz9 hbf) rfl (rf_60) rfl rfl wX8_isText vX8_isText lX8_96 rfl (Nat.le_of_ble_eq_true rfl) rfl ?_
  refine ji_if_eq (tgt := 13) dX8_find_6 rfl (by omega) (fun c6 => ?_) (fun c6 => ?_)
  · try (exfalso; omega)
    all_goals
      refine ji_iconst dX8_find_13 ?_
      refine ji_putE (ci := 8) (k := 0) rfl dX8_find_14 lX8_47 (by decide) (rf_60) (by simp [rf_c]) (ji_fitI _) rfl (rf_pth) ?_
      refine ji_aload_n dX8_find_17 rfl trivial ?_
      refine ji_get (ci := 8) (k := 0) rfl dX8_find_18 lX8_47 (by decide) (rf_60) rfl ?_
      refine ji_if_le (tgt := 28) dX8_find_21 rfl (by omega) (fun c21 => ?_) (fun c21 => ?_)
      · try (exfalso; omega)
        all_goals
          refine ji_aload_n dX8_find_28 rfl trivial ?_
          refine ji_iload_n dX8_find_29 rfl ?_
          exfalso; omega
      · try (exfalso; omega)
        all_goals
          refine ji_iconst dX8_find_24 ?_
          refine ji_goto (tgt := 33) dX8_find_25 rfl ?_
          exact ji_ireturn dX8_find_33 rfl (rfl) ⟨jr_i (by first | rfl | omega), rfl⟩
  · try (exfalso; omega)
    all_goals
      refine ji_iconst dX8_find_9 ?_
      refine ji_goto (tgt := 14) dX8_find_10 rfl ?_
      refine ji_putE (ci := 8) (k := 0) rfl dX8_find_14 lX8_47 (by decide) (rf_60) (by simp [rf_c]) (ji_fitI _) rfl (rf_pth) ?_
      refine ji_aload_n dX8_find_17 rfl trivial ?_
      refine ji_get (ci := 8) (k := 0) rfl dX8_find_18 lX8_47 (by decide) (rf_60) rfl ?_
      refine ji_if_le (tgt := 28) dX8_find_21 rfl (by omega) (fun c21 => ?_) (fun c21 => ?_)
      · try (exfalso; omega)
        all_goals
          refine ji_aload_n dX8_find_28 rfl trivial ?_
          refine ji_iload_n dX8_find_29 rfl ?_
          exfalso; omega
      · try (exfalso; omega)
        all_goals
          refine ji_iconst dX8_find_24 ?_
          refine ji_goto (tgt := 33) dX8_find_25 rfl ?_
          exact ji_ireturn dX8_find_33 rfl (rfl) ⟨jr_i (by first | rfl | omega), rfl⟩

set_option maxHeartbeats 4000000 in
set_option maxRecDepth 100000 in
theorem r_find {b : Int} (hb : b = 0 ∨ b = 1) (hz : rz_ok z) (hn : nl_ok nl nt) (hz9 : 0 ≤ sz ∧ sz ≤ 100) (hbf : ∀ k, 0 ≤ bf k ∧ bf k < 128) (hx : rf_TX sz bf 0 = 1) : JR G (d + 6) mX8_find [.ref 60, .int (jI b)] (n, rf_f f th z kp ed nt nl wi ht sy sz bf rs rr rq rp mm ln lo lf lt co ro pg pf hsh) 0 0 (some (.int (jI (rf_FN z nl nt sz bf b)))) (n, rf_f f 0 z kp ed nt nl wi ht sy sz bf ((rf_RL sz bf 0).2.1) ((rf_RL sz bf 0).2.2.1) ((rf_RL sz bf 0).2.2.2.1) ((rf_RL sz bf 0).2.2.2.2.1) ((rf_RL sz bf 0).2.2.2.2.2) ln lo lf lt co ro pg pf hsh) := by
  refine ji_ent (by decide) rfl (Nat.le_of_ble_eq_true rfl) rfl ?_
  refine ji_aload_n dX8_find_0 rfl trivial ?_
  refine ji_aload_n dX8_find_1 rfl trivial ?_
  refine ji_iconst dX8_find_2 ?_
  refine ji_cV dX8_find_3 (r_isText (b := 0) (by omega) hz9 hbf) rfl (rf_60) rfl rfl wX8_isText vX8_isText lX8_96 rfl (Nat.le_of_ble_eq_true rfl) rfl ?_
  refine ji_if_eq (tgt := 13) dX8_find_6 rfl (by omega) (fun c6 => ?_) (fun c6 => ?_)
  · try (exfalso; omega)
    all_goals
      refine ji_iconst dX8_find_13 ?_
      refine ji_putE (ci := 8) (k := 0) rfl dX8_find_14 lX8_47 (by decide) (rf_60) (by simp [rf_c]) (ji_fitI _) rfl (rf_pth) ?_
      refine ji_aload_n dX8_find_17 rfl trivial ?_
      refine ji_get (ci := 8) (k := 0) rfl dX8_find_18 lX8_47 (by decide) (rf_60) rfl ?_
      refine ji_if_le (tgt := 28) dX8_find_21 rfl (by omega) (fun c21 => ?_) (fun c21 => ?_)
      · try (exfalso; omega)
        all_goals
          refine ji_aload_n dX8_find_28 rfl trivial ?_
          refine ji_iload_n dX8_find_29 rfl ?_
          refine ji_cV dX8_find_30 (r_findNow hb hz hn hz9 hbf) rfl (rf_60) rfl rfl wX8_findNow vX8_findNow lX8_257 rfl (Nat.le_of_ble_eq_true rfl) rfl ?_
          exact ji_ireturn dX8_find_33 rfl (rfl) ⟨jr_i (by first | rfl | omega), rfl⟩
      · try (exfalso; omega)
        all_goals
          refine ji_iconst dX8_find_24 ?_
          refine ji_goto (tgt := 33) dX8_find_25 rfl ?_
          exact ji_ireturn dX8_find_33 rfl (rfl) ⟨jr_i (by first | rfl | omega), rfl⟩
  · try (exfalso; omega)
    all_goals
      refine ji_iconst dX8_find_9 ?_
      refine ji_goto (tgt := 14) dX8_find_10 rfl ?_
      refine ji_putE (ci := 8) (k := 0) rfl dX8_find_14 lX8_47 (by decide) (rf_60) (by simp [rf_c]) (ji_fitI _) rfl (rf_pth) ?_
      refine ji_aload_n dX8_find_17 rfl trivial ?_
      refine ji_get (ci := 8) (k := 0) rfl dX8_find_18 lX8_47 (by decide) (rf_60) rfl ?_
      refine ji_if_le (tgt := 28) dX8_find_21 rfl (by omega) (fun c21 => ?_) (fun c21 => ?_)
      · try (exfalso; omega)
        all_goals
          refine ji_aload_n dX8_find_28 rfl trivial ?_
          refine ji_iload_n dX8_find_29 rfl ?_
          refine ji_cV dX8_find_30 (r_findNow hb hz hn hz9 hbf) rfl (rf_60) rfl rfl wX8_findNow vX8_findNow lX8_257 rfl (Nat.le_of_ble_eq_true rfl) rfl ?_
          exact ji_ireturn dX8_find_33 rfl (rfl) ⟨jr_i (by first | rfl | omega), rfl⟩
      · try (exfalso; omega)
        all_goals
          refine ji_iconst dX8_find_24 ?_
          refine ji_goto (tgt := 33) dX8_find_25 rfl ?_
          exact ji_ireturn dX8_find_33 rfl (rfl) ⟨jr_i (by first | rfl | omega), rfl⟩

set_option maxHeartbeats 4000000 in
set_option maxRecDepth 100000 in
theorem r_allWords_l {bc bs : Nat} (hz : rz_ok z) (hn : nl_ok nl nt) : ∀ (u : Nat) (c k : Int), 0 ≤ k ∧ k + u = z 0 → c = rf_aw z nt k.toNat →
    JW G (d + 2) mX8_allWords 4 [some (.ref 60), some (.int (jI c)), some (.int (jI k))] [] (n, rf_f f th z kp ed nt nl wi ht sy sz bf rs rr rq rp mm ln lo lf lt co ro pg pf hsh) bc bs (fun r9 h9 => r9 = .inl (some (.int (jI (rf_aw z nt (z 0).toNat)))) ∧ h9 = (n, rf_f f th z kp ed nt nl wi ht sy sz bf rs rr rq rp mm ln lo lf lt co ro pg pf hsh)) := by
  obtain ⟨z1, z2, z3, z4⟩ := id hz
  obtain ⟨n1, n2⟩ := id hn
  intro u
  induction u with
  | zero =>
    intro c k hk hc
    refine ji_iload_n dX8_allWords_4 rfl ?_
    refine ji_aload_n dX8_allWords_5 rfl trivial ?_
    refine ji_get (ci := 8) (k := 1) rfl dX8_allWords_6 lX8_7 (by decide) (rf_60) rfl ?_
    refine ji_iconst dX8_allWords_9 ?_
    refine ji_ialoadK (k := 0) dX8_allWords_10 (rf_61) rfl (by decide) ?_
    refine ji_icmp_ge (tgt := 28) dX8_allWords_11 rfl (by omega) (by omega) (fun c11 => ?_) (fun c11 => absurd c11 (by omega))
    refine ji_iload_n dX8_allWords_28 rfl ?_
    exact ji_ireturn dX8_allWords_29 rfl (rfl) ⟨jr_i (by rw [hc, show k = z 0 by omega]), rfl⟩
  | succ u ih =>
    intro c k hk hc
    refine ji_iload_n dX8_allWords_4 rfl ?_
    refine ji_aload_n dX8_allWords_5 rfl trivial ?_
    refine ji_get (ci := 8) (k := 1) rfl dX8_allWords_6 lX8_7 (by decide) (rf_60) rfl ?_
    refine ji_iconst dX8_allWords_9 ?_
    refine ji_ialoadK (k := 0) dX8_allWords_10 (rf_61) rfl (by decide) ?_
    refine ji_icmp_ge (tgt := 28) dX8_allWords_11 rfl (by omega) (by omega) (fun c11 => absurd c11 (by omega)) (fun c11 => ?_)
    refine ji_iload_n dX8_allWords_14 rfl ?_
    refine ji_aload_n dX8_allWords_15 rfl trivial ?_
    refine ji_iload_n dX8_allWords_16 rfl ?_
    refine ji_cV dX8_allWords_17 (r_wordsOf hz hn (by omega)) rfl (rf_60) rfl rfl wX8_wordsOf vX8_wordsOf lX8_260 rfl (Nat.le_of_ble_eq_true rfl) rfl ?_
    refine ji_iadd dX8_allWords_20 ?_
    refine ji_istore_n dX8_allWords_21 (by decide) rfl ?_
    refine ji_iinc dX8_allWords_22 (by decide) rfl rfl ?_
    refine ji_goto (tgt := 4) dX8_allWords_25 rfl ?_
    exact ih _ _ (by omega) (by rw [show (k + 1).toNat = k.toNat + 1 by omega, rf_aw, ← hc, show ((k.toNat : Nat) : Int) = k by omega])

set_option maxHeartbeats 4000000 in
set_option maxRecDepth 100000 in
theorem r_allWords (hz : rz_ok z) (hn : nl_ok nl nt) : JR G (d + 2) mX8_allWords [.ref 60] (n, rf_f f th z kp ed nt nl wi ht sy sz bf rs rr rq rp mm ln lo lf lt co ro pg pf hsh) 0 0 (some (.int (jI (rf_aw z nt (z 0).toNat)))) (n, rf_f f th z kp ed nt nl wi ht sy sz bf rs rr rq rp mm ln lo lf lt co ro pg pf hsh) := by
  obtain ⟨z1, z2, z3, z4⟩ := id hz
  obtain ⟨n1, n2⟩ := id hn
  refine ji_ent (by decide) rfl (Nat.le_of_ble_eq_true rfl) rfl ?_
  refine ji_iconst dX8_allWords_0 ?_
  refine ji_istore_n dX8_allWords_1 (by decide) rfl ?_
  refine ji_iconst dX8_allWords_2 ?_
  refine ji_istore_n dX8_allWords_3 (by decide) rfl ?_
  exact r_allWords_l hz hn (z 0).toNat 0 0 (by omega) rfl

set_option maxHeartbeats 4000000 in
set_option maxRecDepth 100000 in
theorem r_letters_l {bc bs : Nat} {y : Int} (hz : rz_ok z) (hy : 0 ≤ y ∧ y ≤ 10) : ∀ (u : Nat) (c k : Int), 0 ≤ k ∧ k + u = y → c = rf_lt z k.toNat →
    JW G d mX8_letters 4 [some (.ref 60), some (.int (jI y)), some (.int (jI c)), some (.int (jI k))] [] (n, rf_f f th z kp ed nt nl wi ht sy sz bf rs rr rq rp mm ln lo lf lt co ro pg pf hsh) bc bs (fun r9 h9 => r9 = .inl (some (.int (jI (rf_lt z y.toNat)))) ∧ h9 = (n, rf_f f th z kp ed nt nl wi ht sy sz bf rs rr rq rp mm ln lo lf lt co ro pg pf hsh)) := by
  intro u
  induction u with
  | zero =>
    intro c k hk hc
    refine ji_iload_n dX8_letters_4 rfl ?_
    refine ji_iload_n dX8_letters_5 rfl ?_
    refine ji_icmp_ge (tgt := 27) dX8_letters_6 rfl (by omega) (by omega) (fun c6 => ?_) (fun c6 => absurd c6 (by omega))
    refine ji_iload_n dX8_letters_27 rfl ?_
    exact ji_ireturn dX8_letters_28 rfl (rfl) ⟨jr_i (by rw [hc, show k = y by omega]), rfl⟩
  | succ u ih =>
    intro c k hk hc
    refine ji_iload_n dX8_letters_4 rfl ?_
    refine ji_iload_n dX8_letters_5 rfl ?_
    refine ji_icmp_ge (tgt := 27) dX8_letters_6 rfl (by omega) (by omega) (fun c6 => absurd c6 (by omega)) (fun c6 => ?_)
    refine ji_iload_n dX8_letters_9 rfl ?_
    refine ji_aload_n dX8_letters_10 rfl trivial ?_
    refine ji_get (ci := 8) (k := 1) rfl dX8_letters_11 lX8_7 (by decide) (rf_60) rfl ?_
    refine ji_bipush dX8_letters_14 rfl ?_
    refine ji_iload_n dX8_letters_16 rfl ?_
    refine ji_iadd dX8_letters_17 ?_
    refine ji_iaload dX8_letters_18 (rf_61) (by omega) ?_
    refine ji_iadd dX8_letters_19 ?_
    refine ji_istore_n dX8_letters_20 (by decide) rfl ?_
    refine ji_iinc dX8_letters_21 (by decide) rfl rfl ?_
    refine ji_goto (tgt := 4) dX8_letters_24 rfl ?_
    exact ih _ _ (by omega) (by rw [show (k + 1).toNat = k.toNat + 1 by omega, rf_lt, ← hc, show (85 + k).toNat = 85 + k.toNat by omega])

set_option maxHeartbeats 4000000 in
set_option maxRecDepth 100000 in
theorem r_letters {y : Int} (hz : rz_ok z) (hy : 0 ≤ y ∧ y ≤ 10) : JR G d mX8_letters [.ref 60, .int (jI y)] (n, rf_f f th z kp ed nt nl wi ht sy sz bf rs rr rq rp mm ln lo lf lt co ro pg pf hsh) 0 0 (some (.int (jI (rf_lt z y.toNat)))) (n, rf_f f th z kp ed nt nl wi ht sy sz bf rs rr rq rp mm ln lo lf lt co ro pg pf hsh) := by
  refine ji_ent (by decide) rfl (Nat.le_of_ble_eq_true rfl) rfl ?_
  refine ji_iconst dX8_letters_0 ?_
  refine ji_istore_n dX8_letters_1 (by decide) rfl ?_
  refine ji_iconst dX8_letters_2 ?_
  refine ji_istore_n dX8_letters_3 (by decide) rfl ?_
  exact r_letters_l hz hy y.toNat 0 0 (by omega) rfl

set_option maxHeartbeats 4000000 in
set_option maxRecDepth 100000 in
theorem r_lost_l {bc bs : Nat} (hm9 : 0 ≤ z 14 ∧ z 14 ≤ 12) : ∀ (u : Nat) (c k : Int), 0 ≤ k ∧ k + u = z 14 → c = rf_ls z k.toNat →
    JW G d mX8_lost 4 [some (.ref 60), some (.int (jI c)), some (.int (jI k))] [] (n, rf_f f th z kp ed nt nl wi ht sy sz bf rs rr rq rp mm ln lo lf lt co ro pg pf hsh) bc bs (fun r9 h9 => r9 = .inl (some (.int (jI (rf_ls z (z 14).toNat)))) ∧ h9 = (n, rf_f f th z kp ed nt nl wi ht sy sz bf rs rr rq rp mm ln lo lf lt co ro pg pf hsh)) := by
  intro u
  induction u with
  | zero =>
    intro c k hk hc
    refine ji_iload_n dX8_lost_4 rfl ?_
    refine ji_aload_n dX8_lost_5 rfl trivial ?_
    refine ji_get (ci := 8) (k := 1) rfl dX8_lost_6 lX8_7 (by decide) (rf_60) rfl ?_
    refine ji_bipush dX8_lost_9 rfl ?_
    refine ji_ialoadK (k := 14) dX8_lost_11 (rf_61) rfl (by decide) ?_
    refine ji_icmp_ge (tgt := 37) dX8_lost_12 rfl (by omega) (by omega) (fun c12 => ?_) (fun c12 => absurd c12 (by omega))
    refine ji_iload_n dX8_lost_37 rfl ?_
    exact ji_ireturn dX8_lost_38 rfl (rfl) ⟨jr_i (by rw [hc, show k = z 14 by omega]), rfl⟩
  | succ u ih =>
    intro c k hk hc
    refine ji_iload_n dX8_lost_4 rfl ?_
    refine ji_aload_n dX8_lost_5 rfl trivial ?_
    refine ji_get (ci := 8) (k := 1) rfl dX8_lost_6 lX8_7 (by decide) (rf_60) rfl ?_
    refine ji_bipush dX8_lost_9 rfl ?_
    refine ji_ialoadK (k := 14) dX8_lost_11 (rf_61) rfl (by decide) ?_
    refine ji_icmp_ge (tgt := 37) dX8_lost_12 rfl (by omega) (by omega) (fun c12 => absurd c12 (by omega)) (fun c12 => ?_)
    refine ji_iload_n dX8_lost_15 rfl ?_
    refine ji_aload_n dX8_lost_16 rfl trivial ?_
    refine ji_get (ci := 8) (k := 1) rfl dX8_lost_17 lX8_7 (by decide) (rf_60) rfl ?_
    refine ji_bipush dX8_lost_20 rfl ?_
    refine ji_iconst dX8_lost_22 ?_
    refine ji_iload_n dX8_lost_23 rfl ?_
    refine ji_imul dX8_lost_24 ?_
    refine ji_iadd dX8_lost_25 ?_
    refine ji_iconst dX8_lost_26 ?_
    refine ji_iadd dX8_lost_27 ?_
    refine ji_iaload dX8_lost_28 (rf_61) (by omega) ?_
    refine ji_iadd dX8_lost_29 ?_
    refine ji_istore_n dX8_lost_30 (by decide) rfl ?_
    refine ji_iinc dX8_lost_31 (by decide) rfl rfl ?_
    refine ji_goto (tgt := 4) dX8_lost_34 rfl ?_
    exact ih _ _ (by omega) (by rw [show (k + 1).toNat = k.toNat + 1 by omega, rf_ls, ← hc, show (15 + 5 * k + 4).toNat = 15 + 5 * k.toNat + 4 by omega])

set_option maxHeartbeats 4000000 in
set_option maxRecDepth 100000 in
theorem r_lost (hm9 : 0 ≤ z 14 ∧ z 14 ≤ 12) : JR G d mX8_lost [.ref 60] (n, rf_f f th z kp ed nt nl wi ht sy sz bf rs rr rq rp mm ln lo lf lt co ro pg pf hsh) 0 0 (some (.int (jI (rf_ls z (z 14).toNat)))) (n, rf_f f th z kp ed nt nl wi ht sy sz bf rs rr rq rp mm ln lo lf lt co ro pg pf hsh) := by
  refine ji_ent (by decide) rfl (Nat.le_of_ble_eq_true rfl) rfl ?_
  refine ji_iconst dX8_lost_0 ?_
  refine ji_istore_n dX8_lost_1 (by decide) rfl ?_
  refine ji_iconst dX8_lost_2 ?_
  refine ji_istore_n dX8_lost_3 (by decide) rfl ?_
  exact r_lost_l hm9 (z 14).toNat 0 0 (by omega) rfl

set_option maxHeartbeats 4000000 in
set_option maxRecDepth 100000 in
theorem r_counted0 (hz : rz_ok z) (hn : nl_ok nl nt) (hrl : rl_ok z ln lo lf lt) (hpk : rp_ok ln pg pf) (hl1 : 1 ≤ ln) (hm9 : 0 ≤ z 14 ∧ z 14 ≤ 12) (ha1 : 0 ≤ z 1 ∧ z 1 ≤ 9) (ha2 : 0 ≤ z 2) (ha3 : 1 ≤ rf_lt z (z 0).toNat) : JR G (d + 3) mX8_counted [.ref 60, .int (jI 0)] (n, rf_f f th z kp ed nt nl wi ht sy sz bf rs rr rq rp mm ln lo lf lt co ro pg pf hsh) 0 0 (some (.int (jI (z 0)))) (n, rf_f f th z kp ed nt nl wi ht sy sz bf rs rr rq rp mm ln lo lf lt co ro pg pf hsh) := by
  obtain ⟨z1, z2, z3, z4⟩ := id hz
  obtain ⟨n1, n2⟩ := id hn
  have za := z1 2
  have zl1 := rf_lt_b hz (z 1).toNat (by omega)
  have zl2 := rf_lt_b hz (z 0).toNat (by omega)
  refine ji_ent (by decide) rfl (Nat.le_of_ble_eq_true rfl) rfl ?_
  refine ji_iload_n dX8_counted_0 rfl ?_
  refine ji_tsw (tgt := 60) dX8_counted_1 (by omega) (by omega) rfl rfl ?_
  refine ji_aload_n dX8_counted_60 rfl trivial ?_
  refine ji_get (ci := 8) (k := 1) rfl dX8_counted_61 lX8_7 (by decide) (rf_60) rfl ?_
  refine ji_iconst dX8_counted_64 ?_
  refine ji_ialoadK (k := 0) dX8_counted_65 (rf_61) rfl (by decide) ?_
  exact ji_ireturn dX8_counted_66 rfl (rfl) ⟨rfl, rfl⟩

set_option maxHeartbeats 4000000 in
set_option maxRecDepth 100000 in
theorem r_counted1 (hz : rz_ok z) (hn : nl_ok nl nt) (hrl : rl_ok z ln lo lf lt) (hpk : rp_ok ln pg pf) (hl1 : 1 ≤ ln) (hm9 : 0 ≤ z 14 ∧ z 14 ≤ 12) (ha1 : 0 ≤ z 1 ∧ z 1 ≤ 9) (ha2 : 0 ≤ z 2) (ha3 : 1 ≤ rf_lt z (z 0).toNat) : JR G (d + 3) mX8_counted [.ref 60, .int (jI 1)] (n, rf_f f th z kp ed nt nl wi ht sy sz bf rs rr rq rp mm ln lo lf lt co ro pg pf hsh) 0 0 (some (.int (jI (rf_aw z nt (z 0).toNat)))) (n, rf_f f th z kp ed nt nl wi ht sy sz bf rs rr rq rp mm ln lo lf lt co ro pg pf hsh) := by
  obtain ⟨z1, z2, z3, z4⟩ := id hz
  obtain ⟨n1, n2⟩ := id hn
  have za := z1 2
  have zl1 := rf_lt_b hz (z 1).toNat (by omega)
  have zl2 := rf_lt_b hz (z 0).toNat (by omega)
  refine ji_ent (by decide) rfl (Nat.le_of_ble_eq_true rfl) rfl ?_
  refine ji_iload_n dX8_counted_0 rfl ?_
  refine ji_tsw (tgt := 67) dX8_counted_1 (by omega) (by omega) rfl rfl ?_
  refine ji_aload_n dX8_counted_67 rfl trivial ?_
  refine ji_cV dX8_counted_68 (r_allWords hz hn) rfl (rf_60) rfl rfl wX8_allWords vX8_allWords lX8_263 rfl (Nat.le_of_ble_eq_true rfl) rfl ?_
  exact ji_ireturn dX8_counted_71 rfl (rfl) ⟨rfl, rfl⟩

set_option maxHeartbeats 4000000 in
set_option maxRecDepth 100000 in
theorem r_counted2 (hz : rz_ok z) (hn : nl_ok nl nt) (hrl : rl_ok z ln lo lf lt) (hpk : rp_ok ln pg pf) (hl1 : 1 ≤ ln) (hm9 : 0 ≤ z 14 ∧ z 14 ≤ 12) (ha1 : 0 ≤ z 1 ∧ z 1 ≤ 9) (ha2 : 0 ≤ z 2) (ha3 : 1 ≤ rf_lt z (z 0).toNat) : JR G (d + 3) mX8_counted [.ref 60, .int (jI 2)] (n, rf_f f th z kp ed nt nl wi ht sy sz bf rs rr rq rp mm ln lo lf lt co ro pg pf hsh) 0 0 (some (.int (jI (rf_lt z (z 0).toNat)))) (n, rf_f f th z kp ed nt nl wi ht sy sz bf rs rr rq rp mm ln lo lf lt co ro pg pf hsh) := by
  obtain ⟨z1, z2, z3, z4⟩ := id hz
  obtain ⟨n1, n2⟩ := id hn
  have za := z1 2
  have zl1 := rf_lt_b hz (z 1).toNat (by omega)
  have zl2 := rf_lt_b hz (z 0).toNat (by omega)
  refine ji_ent (by decide) rfl (Nat.le_of_ble_eq_true rfl) rfl ?_
  refine ji_iload_n dX8_counted_0 rfl ?_
  refine ji_tsw (tgt := 72) dX8_counted_1 (by omega) (by omega) rfl rfl ?_
  refine ji_aload_n dX8_counted_72 rfl trivial ?_
  refine ji_aload_n dX8_counted_73 rfl trivial ?_
  refine ji_get (ci := 8) (k := 1) rfl dX8_counted_74 lX8_7 (by decide) (rf_60) rfl ?_
  refine ji_iconst dX8_counted_77 ?_
  refine ji_ialoadK (k := 0) dX8_counted_78 (rf_61) rfl (by decide) ?_
  refine ji_cV dX8_counted_79 (r_letters hz (by omega)) rfl (rf_60) rfl rfl wX8_letters vX8_letters lX8_266 rfl (Nat.le_of_ble_eq_true rfl) rfl ?_
  exact ji_ireturn dX8_counted_82 rfl (rfl) ⟨rfl, rfl⟩

set_option maxHeartbeats 4000000 in
set_option maxRecDepth 100000 in
theorem r_counted3 (hz : rz_ok z) (hn : nl_ok nl nt) (hrl : rl_ok z ln lo lf lt) (hpk : rp_ok ln pg pf) (hl1 : 1 ≤ ln) (hm9 : 0 ≤ z 14 ∧ z 14 ≤ 12) (ha1 : 0 ≤ z 1 ∧ z 1 ≤ 9) (ha2 : 0 ≤ z 2) (ha3 : 1 ≤ rf_lt z (z 0).toNat) : JR G (d + 3) mX8_counted [.ref 60, .int (jI 3)] (n, rf_f f th z kp ed nt nl wi ht sy sz bf rs rr rq rp mm ln lo lf lt co ro pg pf hsh) 0 0 (some (.int (jI ln))) (n, rf_f f th z kp ed nt nl wi ht sy sz bf rs rr rq rp mm ln lo lf lt co ro pg pf hsh) := by
  obtain ⟨z1, z2, z3, z4⟩ := id hz
  obtain ⟨n1, n2⟩ := id hn
  have za := z1 2
  have zl1 := rf_lt_b hz (z 1).toNat (by omega)
  have zl2 := rf_lt_b hz (z 0).toNat (by omega)
  refine ji_ent (by decide) rfl (Nat.le_of_ble_eq_true rfl) rfl ?_
  refine ji_iload_n dX8_counted_0 rfl ?_
  refine ji_tsw (tgt := 83) dX8_counted_1 (by omega) (by omega) rfl rfl ?_
  refine ji_aload_n dX8_counted_83 rfl trivial ?_
  refine ji_get (ci := 8) (k := 16) rfl dX8_counted_84 lX8_122 (by decide) (rf_60) rfl ?_
  exact ji_ireturn dX8_counted_87 rfl (rfl) ⟨rfl, rfl⟩

set_option maxHeartbeats 4000000 in
set_option maxRecDepth 100000 in
theorem r_counted4 (hz : rz_ok z) (hn : nl_ok nl nt) (hrl : rl_ok z ln lo lf lt) (hpk : rp_ok ln pg pf) (hl1 : 1 ≤ ln) (hm9 : 0 ≤ z 14 ∧ z 14 ≤ 12) (ha1 : 0 ≤ z 1 ∧ z 1 ≤ 9) (ha2 : 0 ≤ z 2) (ha3 : 1 ≤ rf_lt z (z 0).toNat) : JR G (d + 3) mX8_counted [.ref 60, .int (jI 4)] (n, rf_f f th z kp ed nt nl wi ht sy sz bf rs rr rq rp mm ln lo lf lt co ro pg pf hsh) 0 0 (some (.int (jI pg))) (n, rf_f f th z kp ed nt nl wi ht sy sz bf rs rr rq rp mm ln lo lf lt co ro pg pf hsh) := by
  obtain ⟨z1, z2, z3, z4⟩ := id hz
  obtain ⟨n1, n2⟩ := id hn
  have za := z1 2
  have zl1 := rf_lt_b hz (z 1).toNat (by omega)
  have zl2 := rf_lt_b hz (z 0).toNat (by omega)
  refine ji_ent (by decide) rfl (Nat.le_of_ble_eq_true rfl) rfl ?_
  refine ji_iload_n dX8_counted_0 rfl ?_
  refine ji_tsw (tgt := 88) dX8_counted_1 (by omega) (by omega) rfl rfl ?_
  refine ji_aload_n dX8_counted_88 rfl trivial ?_
  refine ji_get (ci := 8) (k := 22) rfl dX8_counted_89 lX8_170 (by decide) (rf_60) rfl ?_
  exact ji_ireturn dX8_counted_92 rfl (rfl) ⟨rfl, rfl⟩

set_option maxHeartbeats 4000000 in
set_option maxRecDepth 100000 in
theorem r_counted5 (hz : rz_ok z) (hn : nl_ok nl nt) (hrl : rl_ok z ln lo lf lt) (hpk : rp_ok ln pg pf) (hl1 : 1 ≤ ln) (hm9 : 0 ≤ z 14 ∧ z 14 ≤ 12) (ha1 : 0 ≤ z 1 ∧ z 1 ≤ 9) (ha2 : 0 ≤ z 2) (ha3 : 1 ≤ rf_lt z (z 0).toNat) : JR G (d + 3) mX8_counted [.ref 60, .int (jI 5)] (n, rf_f f th z kp ed nt nl wi ht sy sz bf rs rr rq rp mm ln lo lf lt co ro pg pf hsh) 0 0 (some (.int (jI (rf_PW ln lo lf pg pf (z 1) (z 2))))) (n, rf_f f th z kp ed nt nl wi ht sy sz bf rs rr rq rp mm ln lo lf lt co ro pg pf hsh) := by
  obtain ⟨z1, z2, z3, z4⟩ := id hz
  obtain ⟨n1, n2⟩ := id hn
  have za := z1 2
  have zl1 := rf_lt_b hz (z 1).toNat (by omega)
  have zl2 := rf_lt_b hz (z 0).toNat (by omega)
  refine ji_ent (by decide) rfl (Nat.le_of_ble_eq_true rfl) rfl ?_
  refine ji_iload_n dX8_counted_0 rfl ?_
  refine ji_tsw (tgt := 93) dX8_counted_1 (by omega) (by omega) rfl rfl ?_
  refine ji_aload_n dX8_counted_93 rfl trivial ?_
  refine ji_cV dX8_counted_94 (r_here hz hrl hpk hl1) rfl (rf_60) rfl rfl wX8_here vX8_here lX8_250 rfl (Nat.le_of_ble_eq_true rfl) rfl ?_
  exact ji_ireturn dX8_counted_97 rfl (rfl) ⟨rfl, rfl⟩

set_option maxHeartbeats 4000000 in
set_option maxRecDepth 100000 in
theorem r_counted6 (hz : rz_ok z) (hn : nl_ok nl nt) (hrl : rl_ok z ln lo lf lt) (hpk : rp_ok ln pg pf) (hl1 : 1 ≤ ln) (hm9 : 0 ≤ z 14 ∧ z 14 ≤ 12) (ha1 : 0 ≤ z 1 ∧ z 1 ≤ 9) (ha2 : 0 ≤ z 2) (ha3 : 1 ≤ rf_lt z (z 0).toNat) : JR G (d + 3) mX8_counted [.ref 60, .int (jI 6)] (n, rf_f f th z kp ed nt nl wi ht sy sz bf rs rr rq rp mm ln lo lf lt co ro pg pf hsh) 0 0 (some (.int (jI (1000 * z 1 + z 2)))) (n, rf_f f th z kp ed nt nl wi ht sy sz bf rs rr rq rp mm ln lo lf lt co ro pg pf hsh) := by
  obtain ⟨z1, z2, z3, z4⟩ := id hz
  obtain ⟨n1, n2⟩ := id hn
  have za := z1 2
  have zl1 := rf_lt_b hz (z 1).toNat (by omega)
  have zl2 := rf_lt_b hz (z 0).toNat (by omega)
  refine ji_ent (by decide) rfl (Nat.le_of_ble_eq_true rfl) rfl ?_
  refine ji_iload_n dX8_counted_0 rfl ?_
  refine ji_tsw (tgt := 98) dX8_counted_1 (by omega) (by omega) rfl rfl ?_
  refine ji_sipush dX8_counted_98 rfl ?_
  refine ji_aload_n dX8_counted_101 rfl trivial ?_
  refine ji_get (ci := 8) (k := 1) rfl dX8_counted_102 lX8_7 (by decide) (rf_60) rfl ?_
  refine ji_iconst dX8_counted_105 ?_
  refine ji_ialoadK (k := 1) dX8_counted_106 (rf_61) rfl (by decide) ?_
  refine ji_imul dX8_counted_107 ?_
  refine ji_aload_n dX8_counted_108 rfl trivial ?_
  refine ji_get (ci := 8) (k := 1) rfl dX8_counted_109 lX8_7 (by decide) (rf_60) rfl ?_
  refine ji_iconst dX8_counted_112 ?_
  refine ji_ialoadK (k := 2) dX8_counted_113 (rf_61) rfl (by decide) ?_
  refine ji_iadd dX8_counted_114 ?_
  exact ji_ireturn dX8_counted_115 rfl (rfl) ⟨rfl, rfl⟩

set_option maxHeartbeats 4000000 in
set_option maxRecDepth 100000 in
theorem r_counted7 (hz : rz_ok z) (hn : nl_ok nl nt) (hrl : rl_ok z ln lo lf lt) (hpk : rp_ok ln pg pf) (hl1 : 1 ≤ ln) (hm9 : 0 ≤ z 14 ∧ z 14 ≤ 12) (ha1 : 0 ≤ z 1 ∧ z 1 ≤ 9) (ha2 : 0 ≤ z 2) (ha3 : 1 ≤ rf_lt z (z 0).toNat) : JR G (d + 3) mX8_counted [.ref 60, .int (jI 7)] (n, rf_f f th z kp ed nt nl wi ht sy sz bf rs rr rq rp mm ln lo lf lt co ro pg pf hsh) 0 0 (some (.int (jI (z 14)))) (n, rf_f f th z kp ed nt nl wi ht sy sz bf rs rr rq rp mm ln lo lf lt co ro pg pf hsh) := by
  obtain ⟨z1, z2, z3, z4⟩ := id hz
  obtain ⟨n1, n2⟩ := id hn
  have za := z1 2
  have zl1 := rf_lt_b hz (z 1).toNat (by omega)
  have zl2 := rf_lt_b hz (z 0).toNat (by omega)
  refine ji_ent (by decide) rfl (Nat.le_of_ble_eq_true rfl) rfl ?_
  refine ji_iload_n dX8_counted_0 rfl ?_
  refine ji_tsw (tgt := 116) dX8_counted_1 (by omega) (by omega) rfl rfl ?_
  refine ji_aload_n dX8_counted_116 rfl trivial ?_
  refine ji_get (ci := 8) (k := 1) rfl dX8_counted_117 lX8_7 (by decide) (rf_60) rfl ?_
  refine ji_bipush dX8_counted_120 rfl ?_
  refine ji_ialoadK (k := 14) dX8_counted_122 (rf_61) rfl (by decide) ?_
  exact ji_ireturn dX8_counted_123 rfl (rfl) ⟨rfl, rfl⟩

set_option maxHeartbeats 4000000 in
set_option maxRecDepth 100000 in
theorem r_counted8 (hz : rz_ok z) (hn : nl_ok nl nt) (hrl : rl_ok z ln lo lf lt) (hpk : rp_ok ln pg pf) (hl1 : 1 ≤ ln) (hm9 : 0 ≤ z 14 ∧ z 14 ≤ 12) (ha1 : 0 ≤ z 1 ∧ z 1 ≤ 9) (ha2 : 0 ≤ z 2) (ha3 : 1 ≤ rf_lt z (z 0).toNat) : JR G (d + 3) mX8_counted [.ref 60, .int (jI 8)] (n, rf_f f th z kp ed nt nl wi ht sy sz bf rs rr rq rp mm ln lo lf lt co ro pg pf hsh) 0 0 (some (.int (jI (rf_ls z (z 14).toNat)))) (n, rf_f f th z kp ed nt nl wi ht sy sz bf rs rr rq rp mm ln lo lf lt co ro pg pf hsh) := by
  obtain ⟨z1, z2, z3, z4⟩ := id hz
  obtain ⟨n1, n2⟩ := id hn
  have za := z1 2
  have zl1 := rf_lt_b hz (z 1).toNat (by omega)
  have zl2 := rf_lt_b hz (z 0).toNat (by omega)
  refine ji_ent (by decide) rfl (Nat.le_of_ble_eq_true rfl) rfl ?_
  refine ji_iload_n dX8_counted_0 rfl ?_
  refine ji_tsw (tgt := 124) dX8_counted_1 (by omega) (by omega) rfl rfl ?_
  refine ji_aload_n dX8_counted_124 rfl trivial ?_
  refine ji_cV dX8_counted_125 (r_lost hm9) rfl (rf_60) rfl rfl wX8_lost vX8_lost lX8_269 rfl (Nat.le_of_ble_eq_true rfl) rfl ?_
  exact ji_ireturn dX8_counted_128 rfl (rfl) ⟨rfl, rfl⟩

set_option maxHeartbeats 4000000 in
set_option maxRecDepth 100000 in
theorem r_counted9 (hz : rz_ok z) (hn : nl_ok nl nt) (hrl : rl_ok z ln lo lf lt) (hpk : rp_ok ln pg pf) (hl1 : 1 ≤ ln) (hm9 : 0 ≤ z 14 ∧ z 14 ≤ 12) (ha1 : 0 ≤ z 1 ∧ z 1 ≤ 9) (ha2 : 0 ≤ z 2) (ha3 : 1 ≤ rf_lt z (z 0).toNat) : JR G (d + 3) mX8_counted [.ref 60, .int (jI 9)] (n, rf_f f th z kp ed nt nl wi ht sy sz bf rs rr rq rp mm ln lo lf lt co ro pg pf hsh) 0 0 (some (.int (jI (z 3)))) (n, rf_f f th z kp ed nt nl wi ht sy sz bf rs rr rq rp mm ln lo lf lt co ro pg pf hsh) := by
  obtain ⟨z1, z2, z3, z4⟩ := id hz
  obtain ⟨n1, n2⟩ := id hn
  have za := z1 2
  have zl1 := rf_lt_b hz (z 1).toNat (by omega)
  have zl2 := rf_lt_b hz (z 0).toNat (by omega)
  refine ji_ent (by decide) rfl (Nat.le_of_ble_eq_true rfl) rfl ?_
  refine ji_iload_n dX8_counted_0 rfl ?_
  refine ji_tsw (tgt := 129) dX8_counted_1 (by omega) (by omega) rfl rfl ?_
  refine ji_aload_n dX8_counted_129 rfl trivial ?_
  refine ji_get (ci := 8) (k := 1) rfl dX8_counted_130 lX8_7 (by decide) (rf_60) rfl ?_
  refine ji_iconst dX8_counted_133 ?_
  refine ji_ialoadK (k := 3) dX8_counted_134 (rf_61) rfl (by decide) ?_
  exact ji_ireturn dX8_counted_135 rfl (rfl) ⟨rfl, rfl⟩

set_option maxHeartbeats 4000000 in
set_option maxRecDepth 100000 in
theorem r_counted10 (hz : rz_ok z) (hn : nl_ok nl nt) (hrl : rl_ok z ln lo lf lt) (hpk : rp_ok ln pg pf) (hl1 : 1 ≤ ln) (hm9 : 0 ≤ z 14 ∧ z 14 ≤ 12) (ha1 : 0 ≤ z 1 ∧ z 1 ≤ 9) (ha2 : 0 ≤ z 2) (ha3 : 1 ≤ rf_lt z (z 0).toNat) : JR G (d + 3) mX8_counted [.ref 60, .int (jI 10)] (n, rf_f f th z kp ed nt nl wi ht sy sz bf rs rr rq rp mm ln lo lf lt co ro pg pf hsh) 0 0 (some (.int (jI ed))) (n, rf_f f th z kp ed nt nl wi ht sy sz bf rs rr rq rp mm ln lo lf lt co ro pg pf hsh) := by
  obtain ⟨z1, z2, z3, z4⟩ := id hz
  obtain ⟨n1, n2⟩ := id hn
  have za := z1 2
  have zl1 := rf_lt_b hz (z 1).toNat (by omega)
  have zl2 := rf_lt_b hz (z 0).toNat (by omega)
  refine ji_ent (by decide) rfl (Nat.le_of_ble_eq_true rfl) rfl ?_
  refine ji_iload_n dX8_counted_0 rfl ?_
  refine ji_tsw (tgt := 136) dX8_counted_1 (by omega) (by omega) rfl rfl ?_
  refine ji_aload_n dX8_counted_136 rfl trivial ?_
  refine ji_get (ci := 8) (k := 3) rfl dX8_counted_137 lX8_102 (by decide) (rf_60) rfl ?_
  exact ji_ireturn dX8_counted_140 rfl (rfl) ⟨rfl, rfl⟩

set_option maxHeartbeats 4000000 in
set_option maxRecDepth 100000 in
theorem r_counted11 (hz : rz_ok z) (hn : nl_ok nl nt) (hrl : rl_ok z ln lo lf lt) (hpk : rp_ok ln pg pf) (hl1 : 1 ≤ ln) (hm9 : 0 ≤ z 14 ∧ z 14 ≤ 12) (ha1 : 0 ≤ z 1 ∧ z 1 ≤ 9) (ha2 : 0 ≤ z 2) (ha3 : 1 ≤ rf_lt z (z 0).toNat) : JR G (d + 3) mX8_counted [.ref 60, .int (jI 11)] (n, rf_f f th z kp ed nt nl wi ht sy sz bf rs rr rq rp mm ln lo lf lt co ro pg pf hsh) 0 0 (some (.int (jI (1000 * (rf_lt z (z 1).toNat + z 2) / rf_lt z (z 0).toNat)))) (n, rf_f f th z kp ed nt nl wi ht sy sz bf rs rr rq rp mm ln lo lf lt co ro pg pf hsh) := by
  obtain ⟨z1, z2, z3, z4⟩ := id hz
  obtain ⟨n1, n2⟩ := id hn
  have za := z1 2
  have zl1 := rf_lt_b hz (z 1).toNat (by omega)
  have zl2 := rf_lt_b hz (z 0).toNat (by omega)
  refine ji_ent (by decide) rfl (Nat.le_of_ble_eq_true rfl) rfl ?_
  refine ji_iload_n dX8_counted_0 rfl ?_
  refine ji_tswD (tgt := 141) dX8_counted_1 (by omega) (by omega) rfl ?_
  refine ji_sipush dX8_counted_141 rfl ?_
  refine ji_aload_n dX8_counted_144 rfl trivial ?_
  refine ji_aload_n dX8_counted_145 rfl trivial ?_
  refine ji_get (ci := 8) (k := 1) rfl dX8_counted_146 lX8_7 (by decide) (rf_60) rfl ?_
  refine ji_iconst dX8_counted_149 ?_
  refine ji_ialoadK (k := 1) dX8_counted_150 (rf_61) rfl (by decide) ?_
  refine ji_cV dX8_counted_151 (r_letters hz (by omega)) rfl (rf_60) rfl rfl wX8_letters vX8_letters lX8_266 rfl (Nat.le_of_ble_eq_true rfl) rfl ?_
  refine ji_aload_n dX8_counted_154 rfl trivial ?_
  refine ji_get (ci := 8) (k := 1) rfl dX8_counted_155 lX8_7 (by decide) (rf_60) rfl ?_
  refine ji_iconst dX8_counted_158 ?_
  refine ji_ialoadK (k := 2) dX8_counted_159 (rf_61) rfl (by decide) ?_
  refine ji_iadd dX8_counted_160 ?_
  refine ji_imul dX8_counted_161 ?_
  refine ji_aload_n dX8_counted_162 rfl trivial ?_
  refine ji_aload_n dX8_counted_163 rfl trivial ?_
  refine ji_get (ci := 8) (k := 1) rfl dX8_counted_164 lX8_7 (by decide) (rf_60) rfl ?_
  refine ji_iconst dX8_counted_167 ?_
  refine ji_ialoadK (k := 0) dX8_counted_168 (rf_61) rfl (by decide) ?_
  refine ji_cV dX8_counted_169 (r_letters hz (by omega)) rfl (rf_60) rfl rfl wX8_letters vX8_letters lX8_266 rfl (Nat.le_of_ble_eq_true rfl) rfl ?_
  refine ji_idiv dX8_counted_172 (by omega) (by omega) ?_
  exact ji_ireturn dX8_counted_173 rfl (rfl) ⟨rfl, rfl⟩

set_option maxHeartbeats 4000000 in
set_option maxRecDepth 100000 in
theorem r_counted (hz : rz_ok z) (hn : nl_ok nl nt) (hrl : rl_ok z ln lo lf lt) (hpk : rp_ok ln pg pf) (hl1 : 1 ≤ ln) (hm9 : 0 ≤ z 14 ∧ z 14 ≤ 12) (ha1 : 0 ≤ z 1 ∧ z 1 ≤ 9) (ha2 : 0 ≤ z 2) (ha3 : 1 ≤ rf_lt z (z 0).toNat) {v : Int} (hv : 0 ≤ v ∧ v < 12) : JR G (d + 3) mX8_counted [.ref 60, .int (jI v)] (n, rf_f f th z kp ed nt nl wi ht sy sz bf rs rr rq rp mm ln lo lf lt co ro pg pf hsh) 0 0 (some (.int (jI (rf_CN z nl nt ed ln lo lf pg pf v)))) (n, rf_f f th z kp ed nt nl wi ht sy sz bf rs rr rq rp mm ln lo lf lt co ro pg pf hsh) := by
  rcases (show v = 0 ∨ v = 1 ∨ v = 2 ∨ v = 3 ∨ v = 4 ∨ v = 5 ∨ v = 6 ∨ v = 7 ∨ v = 8 ∨ v = 9 ∨ v = 10 ∨ v = 11 by omega) with rfl | rfl | rfl | rfl | rfl | rfl | rfl | rfl | rfl | rfl | rfl | rfl
  · exact r_counted0 hz hn hrl hpk hl1 hm9 ha1 ha2 ha3
  · exact r_counted1 hz hn hrl hpk hl1 hm9 ha1 ha2 ha3
  · exact r_counted2 hz hn hrl hpk hl1 hm9 ha1 ha2 ha3
  · exact r_counted3 hz hn hrl hpk hl1 hm9 ha1 ha2 ha3
  · exact r_counted4 hz hn hrl hpk hl1 hm9 ha1 ha2 ha3
  · exact r_counted5 hz hn hrl hpk hl1 hm9 ha1 ha2 ha3
  · exact r_counted6 hz hn hrl hpk hl1 hm9 ha1 ha2 ha3
  · exact r_counted7 hz hn hrl hpk hl1 hm9 ha1 ha2 ha3
  · exact r_counted8 hz hn hrl hpk hl1 hm9 ha1 ha2 ha3
  · exact r_counted9 hz hn hrl hpk hl1 hm9 ha1 ha2 ha3
  · exact r_counted10 hz hn hrl hpk hl1 hm9 ha1 ha2 ha3
  · exact r_counted11 hz hn hrl hpk hl1 hm9 ha1 ha2 ha3

set_option maxHeartbeats 4000000 in
set_option maxRecDepth 100000 in
theorem r_count1 (hrf : rf_ok wi ht z nl nt sy) {v : Int} (b_v : -2147483648 ≤ v ∧ v < 2147483648) (hx : v < 0 ∨ 12 ≤ v) : JR G (d + 9) mX8_count [.ref 60, .int (jI v)] (n, rf_f f th z kp ed nt nl wi ht sy sz bf rs rr rq rp mm ln lo lf lt co ro pg pf hsh) 0 0 (some (.int (jI 0))) (n, rf_f f 1 z kp ed nt nl wi ht sy sz bf rs rr rq rp mm ((rf_LL z nl nt sy wi lo lf lt).1) ((rf_LL z nl nt sy wi lo lf lt).2.1) ((rf_LL z nl nt sy wi lo lf lt).2.2.1) ((rf_LL z nl nt sy wi lo lf lt).2.2.2) wi ht ((rf_PG z nl nt sy wi ht (rf_LL z nl nt sy wi lo lf lt).1 (rf_LL z nl nt sy wi lo lf lt).2.1 (rf_LL z nl nt sy wi lo lf lt).2.2.1 (rf_LL z nl nt sy wi lo lf lt).2.2.2 pf).1) (va_up (rf_PG z nl nt sy wi ht (rf_LL z nl nt sy wi lo lf lt).1 (rf_LL z nl nt sy wi lo lf lt).2.1 (rf_LL z nl nt sy wi lo lf lt).2.2.1 (rf_LL z nl nt sy wi lo lf lt).2.2.2 pf).2 (rf_PG z nl nt sy wi ht (rf_LL z nl nt sy wi lo lf lt).1 (rf_LL z nl nt sy wi lo lf lt).2.1 (rf_LL z nl nt sy wi lo lf lt).2.2.1 (rf_LL z nl nt sy wi lo lf lt).2.2.2 pf).1.toNat (rf_LL z nl nt sy wi lo lf lt).1) hsh) := by
  obtain ⟨hz, hn, hk, hrc, ⟨hw9, hh9⟩, ⟨hm9, hj9⟩, hll⟩ := id hrf
  have zb := hz.2.1
  have hF := (hll wi lo lf lt (by omega)).2
  have hl1 := (hll wi lo lf lt (by omega)).1
  have hc9 : 0 ≤ wi ∧ wi ≤ 100 := by omega
  have hro : 0 ≤ ht ∧ ht ≤ 100 := by omega
  have hrl := rf_LL_ok hz hF
  have hpk := rf_PG_ok z nl nt sy wi ht (rf_LL z nl nt sy wi lo lf lt).2.1 (rf_LL z nl nt sy wi lo lf lt).2.2.1 (rf_LL z nl nt sy wi lo lf lt).2.2.2 pf (ln := (rf_LL z nl nt sy wi lo lf lt).1) (by omega)
  have hpp := hpk.pos (by omega)
  have hpl := hpk.1
  have w_v_0_11 := rf_in_d v 0 11
  refine ji_ent (by decide) rfl (Nat.le_of_ble_eq_true rfl) rfl ?_
  refine ji_aload_n dX8_count_0 rfl trivial ?_
  refine ji_iload_n dX8_count_1 rfl ?_
  refine ji_iconst dX8_count_2 ?_
  refine ji_bipush dX8_count_3 rfl ?_
  refine ji_cS dX8_count_5 (r_within (by omega) (by omega) (by omega)) rfl wX8_within sX8_within lX8_50 rfl (Nat.le_of_ble_eq_true rfl) rfl ?_
  refine ji_if_eq (tgt := 15) dX8_count_8 rfl (by omega) (fun c8 => ?_) (fun c8 => ?_)
  · try (exfalso; omega)
    all_goals
      refine ji_iconst dX8_count_15 ?_
      refine ji_putE (ci := 8) (k := 0) rfl dX8_count_16 lX8_47 (by decide) (rf_60) (by simp [rf_c]) (ji_fitI _) rfl (rf_pth) ?_
      refine ji_aload_n dX8_count_19 rfl trivial ?_
      refine ji_cVv dX8_count_20 (r_layAll hz hn hk hrc (by omega) (by omega) hF) rfl (rf_60) rfl rfl wX8_layAll vX8_layAll lX8_189 rfl (Nat.le_of_ble_eq_true rfl) rfl ?_
      refine ji_aload_n dX8_count_23 rfl trivial ?_
      refine ji_get (ci := 8) (k := 0) rfl dX8_count_24 lX8_47 (by decide) (rf_60) rfl ?_
      refine ji_if_le (tgt := 34) dX8_count_27 rfl (by omega) (fun c27 => ?_) (fun c27 => ?_)
      · try (exfalso; omega)
        all_goals
          refine ji_aload_n dX8_count_34 rfl trivial ?_
          refine ji_iload_n dX8_count_35 rfl ?_
          exfalso; omega
      · try (exfalso; omega)
        all_goals
          refine ji_iconst dX8_count_30 ?_
          refine ji_goto (tgt := 39) dX8_count_31 rfl ?_
          exact ji_ireturn dX8_count_39 rfl (rfl) ⟨jr_i (by first | rfl | omega), rfl⟩
  · try (exfalso; omega)
    all_goals
      refine ji_iconst dX8_count_11 ?_
      refine ji_goto (tgt := 16) dX8_count_12 rfl ?_
      refine ji_putE (ci := 8) (k := 0) rfl dX8_count_16 lX8_47 (by decide) (rf_60) (by simp [rf_c]) (ji_fitI _) rfl (rf_pth) ?_
      refine ji_aload_n dX8_count_19 rfl trivial ?_
      refine ji_cVv dX8_count_20 (r_layAll hz hn hk hrc (by omega) (by omega) hF) rfl (rf_60) rfl rfl wX8_layAll vX8_layAll lX8_189 rfl (Nat.le_of_ble_eq_true rfl) rfl ?_
      refine ji_aload_n dX8_count_23 rfl trivial ?_
      refine ji_get (ci := 8) (k := 0) rfl dX8_count_24 lX8_47 (by decide) (rf_60) rfl ?_
      refine ji_if_le (tgt := 34) dX8_count_27 rfl (by omega) (fun c27 => ?_) (fun c27 => ?_)
      · try (exfalso; omega)
        all_goals
          refine ji_aload_n dX8_count_34 rfl trivial ?_
          refine ji_iload_n dX8_count_35 rfl ?_
          exfalso; omega
      · try (exfalso; omega)
        all_goals
          refine ji_iconst dX8_count_30 ?_
          refine ji_goto (tgt := 39) dX8_count_31 rfl ?_
          exact ji_ireturn dX8_count_39 rfl (rfl) ⟨jr_i (by first | rfl | omega), rfl⟩

set_option maxHeartbeats 4000000 in
set_option maxRecDepth 100000 in
theorem r_count (hrf : rf_ok wi ht z nl nt sy) (ha1 : 0 ≤ z 1 ∧ z 1 ≤ 9) (ha2 : 0 ≤ z 2) (ha3 : 1 ≤ rf_lt z (z 0).toNat) {v : Int} (hx : 0 ≤ v ∧ v < 12) : JR G (d + 9) mX8_count [.ref 60, .int (jI v)] (n, rf_f f th z kp ed nt nl wi ht sy sz bf rs rr rq rp mm ln lo lf lt co ro pg pf hsh) 0 0 (some (.int (jI (rf_CN z nl nt ed ((rf_LL z nl nt sy wi lo lf lt).1) ((rf_LL z nl nt sy wi lo lf lt).2.1) ((rf_LL z nl nt sy wi lo lf lt).2.2.1) ((rf_PG z nl nt sy wi ht (rf_LL z nl nt sy wi lo lf lt).1 (rf_LL z nl nt sy wi lo lf lt).2.1 (rf_LL z nl nt sy wi lo lf lt).2.2.1 (rf_LL z nl nt sy wi lo lf lt).2.2.2 pf).1) (va_up (rf_PG z nl nt sy wi ht (rf_LL z nl nt sy wi lo lf lt).1 (rf_LL z nl nt sy wi lo lf lt).2.1 (rf_LL z nl nt sy wi lo lf lt).2.2.1 (rf_LL z nl nt sy wi lo lf lt).2.2.2 pf).2 (rf_PG z nl nt sy wi ht (rf_LL z nl nt sy wi lo lf lt).1 (rf_LL z nl nt sy wi lo lf lt).2.1 (rf_LL z nl nt sy wi lo lf lt).2.2.1 (rf_LL z nl nt sy wi lo lf lt).2.2.2 pf).1.toNat (rf_LL z nl nt sy wi lo lf lt).1) v)))) (n, rf_f f 0 z kp ed nt nl wi ht sy sz bf rs rr rq rp mm ((rf_LL z nl nt sy wi lo lf lt).1) ((rf_LL z nl nt sy wi lo lf lt).2.1) ((rf_LL z nl nt sy wi lo lf lt).2.2.1) ((rf_LL z nl nt sy wi lo lf lt).2.2.2) wi ht ((rf_PG z nl nt sy wi ht (rf_LL z nl nt sy wi lo lf lt).1 (rf_LL z nl nt sy wi lo lf lt).2.1 (rf_LL z nl nt sy wi lo lf lt).2.2.1 (rf_LL z nl nt sy wi lo lf lt).2.2.2 pf).1) (va_up (rf_PG z nl nt sy wi ht (rf_LL z nl nt sy wi lo lf lt).1 (rf_LL z nl nt sy wi lo lf lt).2.1 (rf_LL z nl nt sy wi lo lf lt).2.2.1 (rf_LL z nl nt sy wi lo lf lt).2.2.2 pf).2 (rf_PG z nl nt sy wi ht (rf_LL z nl nt sy wi lo lf lt).1 (rf_LL z nl nt sy wi lo lf lt).2.1 (rf_LL z nl nt sy wi lo lf lt).2.2.1 (rf_LL z nl nt sy wi lo lf lt).2.2.2 pf).1.toNat (rf_LL z nl nt sy wi lo lf lt).1) hsh) := by
  obtain ⟨hz, hn, hk, hrc, ⟨hw9, hh9⟩, ⟨hm9, hj9⟩, hll⟩ := id hrf
  have zb := hz.2.1
  have hF := (hll wi lo lf lt (by omega)).2
  have hl1 := (hll wi lo lf lt (by omega)).1
  have hc9 : 0 ≤ wi ∧ wi ≤ 100 := by omega
  have hro : 0 ≤ ht ∧ ht ≤ 100 := by omega
  have hrl := rf_LL_ok hz hF
  have hpk := rf_PG_ok z nl nt sy wi ht (rf_LL z nl nt sy wi lo lf lt).2.1 (rf_LL z nl nt sy wi lo lf lt).2.2.1 (rf_LL z nl nt sy wi lo lf lt).2.2.2 pf (ln := (rf_LL z nl nt sy wi lo lf lt).1) (by omega)
  have hpp := hpk.pos (by omega)
  have hpl := hpk.1
  have w_v_0_11 := rf_in_d v 0 11
  refine ji_ent (by decide) rfl (Nat.le_of_ble_eq_true rfl) rfl ?_
  refine ji_aload_n dX8_count_0 rfl trivial ?_
  refine ji_iload_n dX8_count_1 rfl ?_
  refine ji_iconst dX8_count_2 ?_
  refine ji_bipush dX8_count_3 rfl ?_
  refine ji_cS dX8_count_5 (r_within (by omega) (by omega) (by omega)) rfl wX8_within sX8_within lX8_50 rfl (Nat.le_of_ble_eq_true rfl) rfl ?_
  refine ji_if_eq (tgt := 15) dX8_count_8 rfl (by omega) (fun c8 => ?_) (fun c8 => ?_)
  · try (exfalso; omega)
    all_goals
      refine ji_iconst dX8_count_15 ?_
      refine ji_putE (ci := 8) (k := 0) rfl dX8_count_16 lX8_47 (by decide) (rf_60) (by simp [rf_c]) (ji_fitI _) rfl (rf_pth) ?_
      refine ji_aload_n dX8_count_19 rfl trivial ?_
      refine ji_cVv dX8_count_20 (r_layAll hz hn hk hrc (by omega) (by omega) hF) rfl (rf_60) rfl rfl wX8_layAll vX8_layAll lX8_189 rfl (Nat.le_of_ble_eq_true rfl) rfl ?_
      refine ji_aload_n dX8_count_23 rfl trivial ?_
      refine ji_get (ci := 8) (k := 0) rfl dX8_count_24 lX8_47 (by decide) (rf_60) rfl ?_
      refine ji_if_le (tgt := 34) dX8_count_27 rfl (by omega) (fun c27 => ?_) (fun c27 => ?_)
      · try (exfalso; omega)
        all_goals
          refine ji_aload_n dX8_count_34 rfl trivial ?_
          refine ji_iload_n dX8_count_35 rfl ?_
          refine ji_cV dX8_count_36 (r_counted hz hn hrl hpk hl1 hm9 ha1 ha2 ha3 (by omega)) rfl (rf_60) rfl rfl wX8_counted vX8_counted lX8_272 rfl (Nat.le_of_ble_eq_true rfl) rfl ?_
          exact ji_ireturn dX8_count_39 rfl (rfl) ⟨rfl, rfl⟩
      · try (exfalso; omega)
        all_goals
          refine ji_iconst dX8_count_30 ?_
          refine ji_goto (tgt := 39) dX8_count_31 rfl ?_
          exact ji_ireturn dX8_count_39 rfl (rfl) ⟨rfl, rfl⟩
  · try (exfalso; omega)
    all_goals
      refine ji_iconst dX8_count_11 ?_
      refine ji_goto (tgt := 16) dX8_count_12 rfl ?_
      refine ji_putE (ci := 8) (k := 0) rfl dX8_count_16 lX8_47 (by decide) (rf_60) (by simp [rf_c]) (ji_fitI _) rfl (rf_pth) ?_
      refine ji_aload_n dX8_count_19 rfl trivial ?_
      refine ji_cVv dX8_count_20 (r_layAll hz hn hk hrc (by omega) (by omega) hF) rfl (rf_60) rfl rfl wX8_layAll vX8_layAll lX8_189 rfl (Nat.le_of_ble_eq_true rfl) rfl ?_
      refine ji_aload_n dX8_count_23 rfl trivial ?_
      refine ji_get (ci := 8) (k := 0) rfl dX8_count_24 lX8_47 (by decide) (rf_60) rfl ?_
      refine ji_if_le (tgt := 34) dX8_count_27 rfl (by omega) (fun c27 => ?_) (fun c27 => ?_)
      · try (exfalso; omega)
        all_goals
          refine ji_aload_n dX8_count_34 rfl trivial ?_
          refine ji_iload_n dX8_count_35 rfl ?_
          refine ji_cV dX8_count_36 (r_counted hz hn hrl hpk hl1 hm9 ha1 ha2 ha3 (by omega)) rfl (rf_60) rfl rfl wX8_counted vX8_counted lX8_272 rfl (Nat.le_of_ble_eq_true rfl) rfl ?_
          exact ji_ireturn dX8_count_39 rfl (rfl) ⟨rfl, rfl⟩
      · try (exfalso; omega)
        all_goals
          refine ji_iconst dX8_count_30 ?_
          refine ji_goto (tgt := 39) dX8_count_31 rfl ?_
          exact ji_ireturn dX8_count_39 rfl (rfl) ⟨rfl, rfl⟩

set_option maxHeartbeats 4000000 in
set_option maxRecDepth 100000 in
theorem r_linesIn_l {bc bs : Nat} {q : Int} (hz : rz_ok z) (hrl : rl_ok z ln lo lf lt) (b_q : -2147483648 ≤ q ∧ q < 2147483648) : ∀ (u : Nat) (c k : Int), 0 ≤ k ∧ k + u = ln → c = rf_li lo q k.toNat →
    JW G d mX8_linesIn 4 [some (.ref 60), some (.int (jI q)), some (.int (jI c)), some (.int (jI k))] [] (n, rf_f f th z kp ed nt nl wi ht sy sz bf rs rr rq rp mm ln lo lf lt co ro pg pf hsh) bc bs (fun r9 h9 => r9 = .inl (some (.int (jI (rf_li lo q ln.toNat)))) ∧ h9 = (n, rf_f f th z kp ed nt nl wi ht sy sz bf rs rr rq rp mm ln lo lf lt co ro pg pf hsh)) := by
  obtain ⟨r1, r2⟩ := id hrl
  have zb := hz.2.1
  intro u
  induction u with
  | zero =>
    intro c k hk hc
    refine ji_iload_n dX8_linesIn_4 rfl ?_
    refine ji_aload_n dX8_linesIn_5 rfl trivial ?_
    refine ji_get (ci := 8) (k := 16) rfl dX8_linesIn_6 lX8_122 (by decide) (rf_60) rfl ?_
    refine ji_icmp_ge (tgt := 36) dX8_linesIn_9 rfl (by omega) (by omega) (fun c9 => ?_) (fun c9 => absurd c9 (by omega))
    refine ji_iload_n dX8_linesIn_36 rfl ?_
    exact ji_ireturn dX8_linesIn_37 rfl (rfl) ⟨jr_i (by rw [hc, show k = ln by omega]), rfl⟩
  | succ u ih =>
    intro c k hk hc
    have rl := r2 k.toNat (by omega)
    refine ji_iload_n dX8_linesIn_4 rfl ?_
    refine ji_aload_n dX8_linesIn_5 rfl trivial ?_
    refine ji_get (ci := 8) (k := 16) rfl dX8_linesIn_6 lX8_122 (by decide) (rf_60) rfl ?_
    refine ji_icmp_ge (tgt := 36) dX8_linesIn_9 rfl (by omega) (by omega) (fun c9 => absurd c9 (by omega)) (fun c9 => ?_)
    refine ji_iload_n dX8_linesIn_12 rfl ?_
    refine ji_aload_n dX8_linesIn_13 rfl trivial ?_
    refine ji_get (ci := 8) (k := 17) rfl dX8_linesIn_14 lX8_35 (by decide) (rf_60) rfl ?_
    refine ji_iload_n dX8_linesIn_17 rfl ?_
    refine ji_iaload dX8_linesIn_18 (rf_67) (by omega) ?_
    refine ji_iload_n dX8_linesIn_19 rfl ?_
    refine ji_icmp_ne (tgt := 27) dX8_linesIn_20 rfl (by omega) (by omega) (fun c20 => ?_) (fun c20 => ?_)
    · try (exfalso; omega)
      all_goals
        refine ji_iconst dX8_linesIn_27 ?_
        refine ji_iadd dX8_linesIn_28 ?_
        refine ji_istore_n dX8_linesIn_29 (by decide) rfl ?_
        refine ji_iinc dX8_linesIn_30 (by decide) rfl rfl ?_
        refine ji_goto (tgt := 4) dX8_linesIn_33 rfl ?_
        exact ih _ _ (by omega) (by rw [show (k + 1).toNat = k.toNat + 1 by omega, rf_li, ← hc]; first | (rw [if_pos (by omega)]; done) | (rw [if_neg (by omega)]; done))
    · try (exfalso; omega)
      all_goals
        refine ji_iconst dX8_linesIn_23 ?_
        refine ji_goto (tgt := 28) dX8_linesIn_24 rfl ?_
        refine ji_iadd dX8_linesIn_28 ?_
        refine ji_istore_n dX8_linesIn_29 (by decide) rfl ?_
        refine ji_iinc dX8_linesIn_30 (by decide) rfl rfl ?_
        refine ji_goto (tgt := 4) dX8_linesIn_33 rfl ?_
        exact ih _ _ (by omega) (by rw [show (k + 1).toNat = k.toNat + 1 by omega, rf_li, ← hc]; first | (rw [if_pos (by omega)]; done) | (rw [if_neg (by omega)]; done))

set_option maxHeartbeats 4000000 in
set_option maxRecDepth 100000 in
theorem r_linesIn {q : Int} (hz : rz_ok z) (hrl : rl_ok z ln lo lf lt) (b_q : -2147483648 ≤ q ∧ q < 2147483648) : JR G d mX8_linesIn [.ref 60, .int (jI q)] (n, rf_f f th z kp ed nt nl wi ht sy sz bf rs rr rq rp mm ln lo lf lt co ro pg pf hsh) 0 0 (some (.int (jI (rf_li lo q ln.toNat)))) (n, rf_f f th z kp ed nt nl wi ht sy sz bf rs rr rq rp mm ln lo lf lt co ro pg pf hsh) := by
  obtain ⟨r1, r2⟩ := id hrl
  refine ji_ent (by decide) rfl (Nat.le_of_ble_eq_true rfl) rfl ?_
  refine ji_iconst dX8_linesIn_0 ?_
  refine ji_istore_n dX8_linesIn_1 (by decide) rfl ?_
  refine ji_iconst dX8_linesIn_2 ?_
  refine ji_istore_n dX8_linesIn_3 (by decide) rfl ?_
  exact r_linesIn_l hz hrl b_q ln.toNat 0 0 (by omega) rfl

set_option maxHeartbeats 4000000 in
set_option maxRecDepth 100000 in
theorem r_paragraphNow0 (hz : rz_ok z) (hn : nl_ok nl nt) (hrl : rl_ok z ln lo lf lt) (hpk : rp_ok ln pg pf) (hl1 : 1 ≤ ln) {q : Int} (hq : 0 ≤ q ∧ q < 10) : JR G (d + 2) mX8_paragraphNow [.ref 60, .int (jI q), .int (jI 0)] (n, rf_f f th z kp ed nt nl wi ht sy sz bf rs rr rq rp mm ln lo lf lt co ro pg pf hsh) 0 0 (some (.int (jI (z (75 + q).toNat)))) (n, rf_f f th z kp ed nt nl wi ht sy sz bf rs rr rq rp mm ln lo lf lt co ro pg pf hsh) := by
  obtain ⟨z1, z2, z3, z4⟩ := id hz
  obtain ⟨n1, n2⟩ := id hn
  refine ji_ent (by decide) rfl (Nat.le_of_ble_eq_true rfl) rfl ?_
  refine ji_iload_n dX8_paragraphNow_0 rfl ?_
  refine ji_tsw (tgt := 32) dX8_paragraphNow_1 (by omega) (by omega) rfl rfl ?_
  refine ji_aload_n dX8_paragraphNow_32 rfl trivial ?_
  refine ji_get (ci := 8) (k := 1) rfl dX8_paragraphNow_33 lX8_7 (by decide) (rf_60) rfl ?_
  refine ji_bipush dX8_paragraphNow_36 rfl ?_
  refine ji_iload_n dX8_paragraphNow_38 rfl ?_
  refine ji_iadd dX8_paragraphNow_39 ?_
  refine ji_iaload dX8_paragraphNow_40 (rf_61) (by omega) ?_
  exact ji_ireturn dX8_paragraphNow_41 rfl (rfl) ⟨rfl, rfl⟩

set_option maxHeartbeats 4000000 in
set_option maxRecDepth 100000 in
theorem r_paragraphNow1 (hz : rz_ok z) (hn : nl_ok nl nt) (hrl : rl_ok z ln lo lf lt) (hpk : rp_ok ln pg pf) (hl1 : 1 ≤ ln) {q : Int} (hq : 0 ≤ q ∧ q < 10) : JR G (d + 2) mX8_paragraphNow [.ref 60, .int (jI q), .int (jI 1)] (n, rf_f f th z kp ed nt nl wi ht sy sz bf rs rr rq rp mm ln lo lf lt co ro pg pf hsh) 0 0 (some (.int (jI (rf_WO z nt q)))) (n, rf_f f th z kp ed nt nl wi ht sy sz bf rs rr rq rp mm ln lo lf lt co ro pg pf hsh) := by
  obtain ⟨z1, z2, z3, z4⟩ := id hz
  obtain ⟨n1, n2⟩ := id hn
  refine ji_ent (by decide) rfl (Nat.le_of_ble_eq_true rfl) rfl ?_
  refine ji_iload_n dX8_paragraphNow_0 rfl ?_
  refine ji_tsw (tgt := 42) dX8_paragraphNow_1 (by omega) (by omega) rfl rfl ?_
  refine ji_aload_n dX8_paragraphNow_42 rfl trivial ?_
  refine ji_iload_n dX8_paragraphNow_43 rfl ?_
  refine ji_cV dX8_paragraphNow_44 (r_wordsOf hz hn (by omega)) rfl (rf_60) rfl rfl wX8_wordsOf vX8_wordsOf lX8_260 rfl (Nat.le_of_ble_eq_true rfl) rfl ?_
  exact ji_ireturn dX8_paragraphNow_47 rfl (rfl) ⟨rfl, rfl⟩

set_option maxHeartbeats 4000000 in
set_option maxRecDepth 100000 in
theorem r_paragraphNow2 (hz : rz_ok z) (hn : nl_ok nl nt) (hrl : rl_ok z ln lo lf lt) (hpk : rp_ok ln pg pf) (hl1 : 1 ≤ ln) {q : Int} (hq : 0 ≤ q ∧ q < 10) : JR G (d + 2) mX8_paragraphNow [.ref 60, .int (jI q), .int (jI 2)] (n, rf_f f th z kp ed nt nl wi ht sy sz bf rs rr rq rp mm ln lo lf lt co ro pg pf hsh) 0 0 (some (.int (jI (z (85 + q).toNat)))) (n, rf_f f th z kp ed nt nl wi ht sy sz bf rs rr rq rp mm ln lo lf lt co ro pg pf hsh) := by
  obtain ⟨z1, z2, z3, z4⟩ := id hz
  obtain ⟨n1, n2⟩ := id hn
  refine ji_ent (by decide) rfl (Nat.le_of_ble_eq_true rfl) rfl ?_
  refine ji_iload_n dX8_paragraphNow_0 rfl ?_
  refine ji_tsw (tgt := 48) dX8_paragraphNow_1 (by omega) (by omega) rfl rfl ?_
  refine ji_aload_n dX8_paragraphNow_48 rfl trivial ?_
  refine ji_get (ci := 8) (k := 1) rfl dX8_paragraphNow_49 lX8_7 (by decide) (rf_60) rfl ?_
  refine ji_bipush dX8_paragraphNow_52 rfl ?_
  refine ji_iload_n dX8_paragraphNow_54 rfl ?_
  refine ji_iadd dX8_paragraphNow_55 ?_
  refine ji_iaload dX8_paragraphNow_56 (rf_61) (by omega) ?_
  exact ji_ireturn dX8_paragraphNow_57 rfl (rfl) ⟨rfl, rfl⟩

set_option maxHeartbeats 4000000 in
set_option maxRecDepth 100000 in
theorem r_paragraphNow3 (hz : rz_ok z) (hn : nl_ok nl nt) (hrl : rl_ok z ln lo lf lt) (hpk : rp_ok ln pg pf) (hl1 : 1 ≤ ln) {q : Int} (hq : 0 ≤ q ∧ q < 10) : JR G (d + 2) mX8_paragraphNow [.ref 60, .int (jI q), .int (jI 3)] (n, rf_f f th z kp ed nt nl wi ht sy sz bf rs rr rq rp mm ln lo lf lt co ro pg pf hsh) 0 0 (some (.int (jI (rf_li lo q ln.toNat)))) (n, rf_f f th z kp ed nt nl wi ht sy sz bf rs rr rq rp mm ln lo lf lt co ro pg pf hsh) := by
  obtain ⟨z1, z2, z3, z4⟩ := id hz
  obtain ⟨n1, n2⟩ := id hn
  refine ji_ent (by decide) rfl (Nat.le_of_ble_eq_true rfl) rfl ?_
  refine ji_iload_n dX8_paragraphNow_0 rfl ?_
  refine ji_tsw (tgt := 58) dX8_paragraphNow_1 (by omega) (by omega) rfl rfl ?_
  refine ji_aload_n dX8_paragraphNow_58 rfl trivial ?_
  refine ji_iload_n dX8_paragraphNow_59 rfl ?_
  refine ji_cV dX8_paragraphNow_60 (r_linesIn hz hrl (by omega)) rfl (rf_60) rfl rfl wX8_linesIn vX8_linesIn lX8_275 rfl (Nat.le_of_ble_eq_true rfl) rfl ?_
  exact ji_ireturn dX8_paragraphNow_63 rfl (rfl) ⟨rfl, rfl⟩

set_option maxHeartbeats 4000000 in
set_option maxRecDepth 100000 in
theorem r_paragraphNow4 (hz : rz_ok z) (hn : nl_ok nl nt) (hrl : rl_ok z ln lo lf lt) (hpk : rp_ok ln pg pf) (hl1 : 1 ≤ ln) {q : Int} (hq : 0 ≤ q ∧ q < 10) : JR G (d + 2) mX8_paragraphNow [.ref 60, .int (jI q), .int (jI 4)] (n, rf_f f th z kp ed nt nl wi ht sy sz bf rs rr rq rp mm ln lo lf lt co ro pg pf hsh) 0 0 (some (.int (jI (rf_PW ln lo lf pg pf q 0)))) (n, rf_f f th z kp ed nt nl wi ht sy sz bf rs rr rq rp mm ln lo lf lt co ro pg pf hsh) := by
  obtain ⟨z1, z2, z3, z4⟩ := id hz
  obtain ⟨n1, n2⟩ := id hn
  refine ji_ent (by decide) rfl (Nat.le_of_ble_eq_true rfl) rfl ?_
  refine ji_iload_n dX8_paragraphNow_0 rfl ?_
  refine ji_tswD (tgt := 64) dX8_paragraphNow_1 (by omega) (by omega) rfl ?_
  refine ji_aload_n dX8_paragraphNow_64 rfl trivial ?_
  refine ji_iload_n dX8_paragraphNow_65 rfl ?_
  refine ji_iconst dX8_paragraphNow_66 ?_
  refine ji_cV dX8_paragraphNow_67 (r_pageWith hz hrl hpk hl1 (by omega) (by omega)) rfl (rf_60) rfl rfl wX8_pageWith vX8_pageWith lX8_186 rfl (Nat.le_of_ble_eq_true rfl) rfl ?_
  exact ji_ireturn dX8_paragraphNow_70 rfl (rfl) ⟨rfl, rfl⟩

set_option maxHeartbeats 4000000 in
set_option maxRecDepth 100000 in
theorem r_paragraphNow (hz : rz_ok z) (hn : nl_ok nl nt) (hrl : rl_ok z ln lo lf lt) (hpk : rp_ok ln pg pf) (hl1 : 1 ≤ ln) {q : Int} (hq : 0 ≤ q ∧ q < 10) {v : Int} (hv : 0 ≤ v ∧ v < 5) : JR G (d + 2) mX8_paragraphNow [.ref 60, .int (jI q), .int (jI v)] (n, rf_f f th z kp ed nt nl wi ht sy sz bf rs rr rq rp mm ln lo lf lt co ro pg pf hsh) 0 0 (some (.int (jI (rf_PP z nt ln lo lf pg pf q v)))) (n, rf_f f th z kp ed nt nl wi ht sy sz bf rs rr rq rp mm ln lo lf lt co ro pg pf hsh) := by
  rcases (show v = 0 ∨ v = 1 ∨ v = 2 ∨ v = 3 ∨ v = 4 by omega) with rfl | rfl | rfl | rfl | rfl
  · exact r_paragraphNow0 hz hn hrl hpk hl1 hq
  · exact r_paragraphNow1 hz hn hrl hpk hl1 hq
  · exact r_paragraphNow2 hz hn hrl hpk hl1 hq
  · exact r_paragraphNow3 hz hn hrl hpk hl1 hq
  · exact r_paragraphNow4 hz hn hrl hpk hl1 hq

set_option maxHeartbeats 4000000 in
set_option maxRecDepth 100000 in
theorem r_isParagraph (hz : rz_ok z) {q : Int} (b_q : -2147483648 ≤ q ∧ q < 2147483648) : JR G (d + 1) mX8_isParagraph [.ref 60, .int (jI q)] (n, rf_f f th z kp ed nt nl wi ht sy sz bf rs rr rq rp mm ln lo lf lt co ro pg pf hsh) 0 0 (some (.int (jI (rf_in q 0 (z 0 - 1))))) (n, rf_f f th z kp ed nt nl wi ht sy sz bf rs rr rq rp mm ln lo lf lt co ro pg pf hsh) := by
  have zb := hz.2.1
  refine ji_ent (by decide) rfl (Nat.le_of_ble_eq_true rfl) rfl ?_
  refine ji_iload_n dX8_isParagraph_0 rfl ?_
  refine ji_iconst dX8_isParagraph_1 ?_
  refine ji_aload_n dX8_isParagraph_2 rfl trivial ?_
  refine ji_get (ci := 8) (k := 1) rfl dX8_isParagraph_3 lX8_7 (by decide) (rf_60) rfl ?_
  refine ji_iconst dX8_isParagraph_6 ?_
  refine ji_ialoadK (k := 0) dX8_isParagraph_7 (rf_61) rfl (by decide) ?_
  refine ji_iconst dX8_isParagraph_8 ?_
  refine ji_isub dX8_isParagraph_9 ?_
  refine ji_cS dX8_isParagraph_10 (r_within (by omega) (by omega) (by omega)) rfl wX8_within sX8_within lX8_50 rfl (Nat.le_of_ble_eq_true rfl) rfl ?_
  exact ji_ireturn dX8_isParagraph_13 rfl (ji_narB (by have := rf_in_d q 0 (z 0 - 1); omega)) ⟨rfl, rfl⟩

set_option maxHeartbeats 4000000 in
set_option maxRecDepth 100000 in
theorem r_paragraph1 (hrf : rf_ok wi ht z nl nt sy) {q : Int} (b_q : -2147483648 ≤ q ∧ q < 2147483648) {v : Int} (hx : q < 0 ∨ z 0 ≤ q) : JR G (d + 9) mX8_paragraph [.ref 60, .int (jI q), .int (jI v)] (n, rf_f f th z kp ed nt nl wi ht sy sz bf rs rr rq rp mm ln lo lf lt co ro pg pf hsh) 0 0 (some (.int (jI 0))) (n, rf_f f 1 z kp ed nt nl wi ht sy sz bf rs rr rq rp mm ((rf_LL z nl nt sy wi lo lf lt).1) ((rf_LL z nl nt sy wi lo lf lt).2.1) ((rf_LL z nl nt sy wi lo lf lt).2.2.1) ((rf_LL z nl nt sy wi lo lf lt).2.2.2) wi ht ((rf_PG z nl nt sy wi ht (rf_LL z nl nt sy wi lo lf lt).1 (rf_LL z nl nt sy wi lo lf lt).2.1 (rf_LL z nl nt sy wi lo lf lt).2.2.1 (rf_LL z nl nt sy wi lo lf lt).2.2.2 pf).1) (va_up (rf_PG z nl nt sy wi ht (rf_LL z nl nt sy wi lo lf lt).1 (rf_LL z nl nt sy wi lo lf lt).2.1 (rf_LL z nl nt sy wi lo lf lt).2.2.1 (rf_LL z nl nt sy wi lo lf lt).2.2.2 pf).2 (rf_PG z nl nt sy wi ht (rf_LL z nl nt sy wi lo lf lt).1 (rf_LL z nl nt sy wi lo lf lt).2.1 (rf_LL z nl nt sy wi lo lf lt).2.2.1 (rf_LL z nl nt sy wi lo lf lt).2.2.2 pf).1.toNat (rf_LL z nl nt sy wi lo lf lt).1) hsh) := by
  obtain ⟨hz, hn, hk, hrc, ⟨hw9, hh9⟩, ⟨hm9, hj9⟩, hll⟩ := id hrf
  have zb := hz.2.1
  have hF := (hll wi lo lf lt (by omega)).2
  have hl1 := (hll wi lo lf lt (by omega)).1
  have hc9 : 0 ≤ wi ∧ wi ≤ 100 := by omega
  have hro : 0 ≤ ht ∧ ht ≤ 100 := by omega
  have hrl := rf_LL_ok hz hF
  have hpk := rf_PG_ok z nl nt sy wi ht (rf_LL z nl nt sy wi lo lf lt).2.1 (rf_LL z nl nt sy wi lo lf lt).2.2.1 (rf_LL z nl nt sy wi lo lf lt).2.2.2 pf (ln := (rf_LL z nl nt sy wi lo lf lt).1) (by omega)
  have hpp := hpk.pos (by omega)
  have hpl := hpk.1
  have wq := rf_in_d q 0 (z 0 - 1)
  refine ji_ent (by decide) rfl (Nat.le_of_ble_eq_true rfl) rfl ?_
  refine ji_aload_n dX8_paragraph_0 rfl trivial ?_
  refine ji_aload_n dX8_paragraph_1 rfl trivial ?_
  refine ji_iload_n dX8_paragraph_2 rfl ?_
  refine ji_cV dX8_paragraph_3 (r_isParagraph hz (by omega)) rfl (rf_60) rfl rfl wX8_isParagraph vX8_isParagraph lX8_278 rfl (Nat.le_of_ble_eq_true rfl) rfl ?_
  refine ji_if_ne (tgt := 13) dX8_paragraph_6 rfl (by omega) (fun c6 => ?_) (fun c6 => ?_)
  · try (exfalso; omega)
    all_goals
      refine ji_iload_n dX8_paragraph_13 rfl ?_
      refine ji_iconst dX8_paragraph_14 ?_
      refine ji_iconst dX8_paragraph_15 ?_
      refine ji_cS dX8_paragraph_16 (r_within (by omega) (by omega) (by omega)) rfl wX8_within sX8_within lX8_50 rfl (Nat.le_of_ble_eq_true rfl) rfl ?_
      refine ji_if_eq (tgt := 26) dX8_paragraph_19 rfl (by omega) (fun c19 => ?_) (fun c19 => ?_)
      · try (exfalso; omega)
        all_goals
          refine ji_iconst dX8_paragraph_26 ?_
          refine ji_putE (ci := 8) (k := 0) rfl dX8_paragraph_27 lX8_47 (by decide) (rf_60) (by simp [rf_c]) (ji_fitI _) rfl (rf_pth) ?_
          refine ji_aload_n dX8_paragraph_30 rfl trivial ?_
          refine ji_cVv dX8_paragraph_31 (r_layAll hz hn hk hrc (by omega) (by omega) hF) rfl (rf_60) rfl rfl wX8_layAll vX8_layAll lX8_189 rfl (Nat.le_of_ble_eq_true rfl) rfl ?_
          refine ji_aload_n dX8_paragraph_34 rfl trivial ?_
          refine ji_get (ci := 8) (k := 0) rfl dX8_paragraph_35 lX8_47 (by decide) (rf_60) rfl ?_
          refine ji_if_le (tgt := 45) dX8_paragraph_38 rfl (by omega) (fun c38 => ?_) (fun c38 => ?_)
          · try (exfalso; omega)
            all_goals
              refine ji_aload_n dX8_paragraph_45 rfl trivial ?_
              refine ji_iload_n dX8_paragraph_46 rfl ?_
              refine ji_iload_n dX8_paragraph_47 rfl ?_
              exfalso; omega
          · try (exfalso; omega)
            all_goals
              refine ji_iconst dX8_paragraph_41 ?_
              refine ji_goto (tgt := 51) dX8_paragraph_42 rfl ?_
              exact ji_ireturn dX8_paragraph_51 rfl (rfl) ⟨jr_i (by first | rfl | omega), rfl⟩
      · try (exfalso; omega)
        all_goals
          refine ji_iconst dX8_paragraph_22 ?_
          refine ji_goto (tgt := 27) dX8_paragraph_23 rfl ?_
          refine ji_putE (ci := 8) (k := 0) rfl dX8_paragraph_27 lX8_47 (by decide) (rf_60) (by simp [rf_c]) (ji_fitI _) rfl (rf_pth) ?_
          refine ji_aload_n dX8_paragraph_30 rfl trivial ?_
          refine ji_cVv dX8_paragraph_31 (r_layAll hz hn hk hrc (by omega) (by omega) hF) rfl (rf_60) rfl rfl wX8_layAll vX8_layAll lX8_189 rfl (Nat.le_of_ble_eq_true rfl) rfl ?_
          refine ji_aload_n dX8_paragraph_34 rfl trivial ?_
          refine ji_get (ci := 8) (k := 0) rfl dX8_paragraph_35 lX8_47 (by decide) (rf_60) rfl ?_
          refine ji_if_le (tgt := 45) dX8_paragraph_38 rfl (by omega) (fun c38 => ?_) (fun c38 => ?_)
          · try (exfalso; omega)
            all_goals
              refine ji_aload_n dX8_paragraph_45 rfl trivial ?_
              refine ji_iload_n dX8_paragraph_46 rfl ?_
              refine ji_iload_n dX8_paragraph_47 rfl ?_
              exfalso; omega
          · try (exfalso; omega)
            all_goals
              refine ji_iconst dX8_paragraph_41 ?_
              refine ji_goto (tgt := 51) dX8_paragraph_42 rfl ?_
              exact ji_ireturn dX8_paragraph_51 rfl (rfl) ⟨jr_i (by first | rfl | omega), rfl⟩
  · try (exfalso; omega)
    all_goals
      refine ji_iconst dX8_paragraph_9 ?_
      refine ji_goto (tgt := 27) dX8_paragraph_10 rfl ?_
      refine ji_putE (ci := 8) (k := 0) rfl dX8_paragraph_27 lX8_47 (by decide) (rf_60) (by simp [rf_c]) (ji_fitI _) rfl (rf_pth) ?_
      refine ji_aload_n dX8_paragraph_30 rfl trivial ?_
      refine ji_cVv dX8_paragraph_31 (r_layAll hz hn hk hrc (by omega) (by omega) hF) rfl (rf_60) rfl rfl wX8_layAll vX8_layAll lX8_189 rfl (Nat.le_of_ble_eq_true rfl) rfl ?_
      refine ji_aload_n dX8_paragraph_34 rfl trivial ?_
      refine ji_get (ci := 8) (k := 0) rfl dX8_paragraph_35 lX8_47 (by decide) (rf_60) rfl ?_
      refine ji_if_le (tgt := 45) dX8_paragraph_38 rfl (by omega) (fun c38 => ?_) (fun c38 => ?_)
      · try (exfalso; omega)
        all_goals
          refine ji_aload_n dX8_paragraph_45 rfl trivial ?_
          refine ji_iload_n dX8_paragraph_46 rfl ?_
          refine ji_iload_n dX8_paragraph_47 rfl ?_
          exfalso; omega
      · try (exfalso; omega)
        all_goals
          refine ji_iconst dX8_paragraph_41 ?_
          refine ji_goto (tgt := 51) dX8_paragraph_42 rfl ?_
          exact ji_ireturn dX8_paragraph_51 rfl (rfl) ⟨jr_i (by first | rfl | omega), rfl⟩

set_option maxHeartbeats 4000000 in
set_option maxRecDepth 100000 in
theorem r_paragraph2 (hrf : rf_ok wi ht z nl nt sy) {q : Int} (hq : 0 ≤ q ∧ q < z 0) {v : Int} (b_v : -2147483648 ≤ v ∧ v < 2147483648) (hx : v < 0 ∨ 5 ≤ v) : JR G (d + 9) mX8_paragraph [.ref 60, .int (jI q), .int (jI v)] (n, rf_f f th z kp ed nt nl wi ht sy sz bf rs rr rq rp mm ln lo lf lt co ro pg pf hsh) 0 0 (some (.int (jI 0))) (n, rf_f f 2 z kp ed nt nl wi ht sy sz bf rs rr rq rp mm ((rf_LL z nl nt sy wi lo lf lt).1) ((rf_LL z nl nt sy wi lo lf lt).2.1) ((rf_LL z nl nt sy wi lo lf lt).2.2.1) ((rf_LL z nl nt sy wi lo lf lt).2.2.2) wi ht ((rf_PG z nl nt sy wi ht (rf_LL z nl nt sy wi lo lf lt).1 (rf_LL z nl nt sy wi lo lf lt).2.1 (rf_LL z nl nt sy wi lo lf lt).2.2.1 (rf_LL z nl nt sy wi lo lf lt).2.2.2 pf).1) (va_up (rf_PG z nl nt sy wi ht (rf_LL z nl nt sy wi lo lf lt).1 (rf_LL z nl nt sy wi lo lf lt).2.1 (rf_LL z nl nt sy wi lo lf lt).2.2.1 (rf_LL z nl nt sy wi lo lf lt).2.2.2 pf).2 (rf_PG z nl nt sy wi ht (rf_LL z nl nt sy wi lo lf lt).1 (rf_LL z nl nt sy wi lo lf lt).2.1 (rf_LL z nl nt sy wi lo lf lt).2.2.1 (rf_LL z nl nt sy wi lo lf lt).2.2.2 pf).1.toNat (rf_LL z nl nt sy wi lo lf lt).1) hsh) := by
  obtain ⟨hz, hn, hk, hrc, ⟨hw9, hh9⟩, ⟨hm9, hj9⟩, hll⟩ := id hrf
  have zb := hz.2.1
  have hF := (hll wi lo lf lt (by omega)).2
  have hl1 := (hll wi lo lf lt (by omega)).1
  have hc9 : 0 ≤ wi ∧ wi ≤ 100 := by omega
  have hro : 0 ≤ ht ∧ ht ≤ 100 := by omega
  have hrl := rf_LL_ok hz hF
  have hpk := rf_PG_ok z nl nt sy wi ht (rf_LL z nl nt sy wi lo lf lt).2.1 (rf_LL z nl nt sy wi lo lf lt).2.2.1 (rf_LL z nl nt sy wi lo lf lt).2.2.2 pf (ln := (rf_LL z nl nt sy wi lo lf lt).1) (by omega)
  have hpp := hpk.pos (by omega)
  have hpl := hpk.1
  have wq := rf_in_d q 0 (z 0 - 1)
  have w_v_0_4 := rf_in_d v 0 4
  refine ji_ent (by decide) rfl (Nat.le_of_ble_eq_true rfl) rfl ?_
  refine ji_aload_n dX8_paragraph_0 rfl trivial ?_
  refine ji_aload_n dX8_paragraph_1 rfl trivial ?_
  refine ji_iload_n dX8_paragraph_2 rfl ?_
  refine ji_cV dX8_paragraph_3 (r_isParagraph hz (by omega)) rfl (rf_60) rfl rfl wX8_isParagraph vX8_isParagraph lX8_278 rfl (Nat.le_of_ble_eq_true rfl) rfl ?_
  refine ji_if_ne (tgt := 13) dX8_paragraph_6 rfl (by omega) (fun c6 => ?_) (fun c6 => ?_)
  · try (exfalso; omega)
    all_goals
      refine ji_iload_n dX8_paragraph_13 rfl ?_
      refine ji_iconst dX8_paragraph_14 ?_
      refine ji_iconst dX8_paragraph_15 ?_
      refine ji_cS dX8_paragraph_16 (r_within (by omega) (by omega) (by omega)) rfl wX8_within sX8_within lX8_50 rfl (Nat.le_of_ble_eq_true rfl) rfl ?_
      refine ji_if_eq (tgt := 26) dX8_paragraph_19 rfl (by omega) (fun c19 => ?_) (fun c19 => ?_)
      · try (exfalso; omega)
        all_goals
          refine ji_iconst dX8_paragraph_26 ?_
          refine ji_putE (ci := 8) (k := 0) rfl dX8_paragraph_27 lX8_47 (by decide) (rf_60) (by simp [rf_c]) (ji_fitI _) rfl (rf_pth) ?_
          refine ji_aload_n dX8_paragraph_30 rfl trivial ?_
          refine ji_cVv dX8_paragraph_31 (r_layAll hz hn hk hrc (by omega) (by omega) hF) rfl (rf_60) rfl rfl wX8_layAll vX8_layAll lX8_189 rfl (Nat.le_of_ble_eq_true rfl) rfl ?_
          refine ji_aload_n dX8_paragraph_34 rfl trivial ?_
          refine ji_get (ci := 8) (k := 0) rfl dX8_paragraph_35 lX8_47 (by decide) (rf_60) rfl ?_
          refine ji_if_le (tgt := 45) dX8_paragraph_38 rfl (by omega) (fun c38 => ?_) (fun c38 => ?_)
          · try (exfalso; omega)
            all_goals
              refine ji_aload_n dX8_paragraph_45 rfl trivial ?_
              refine ji_iload_n dX8_paragraph_46 rfl ?_
              refine ji_iload_n dX8_paragraph_47 rfl ?_
              exfalso; omega
          · try (exfalso; omega)
            all_goals
              refine ji_iconst dX8_paragraph_41 ?_
              refine ji_goto (tgt := 51) dX8_paragraph_42 rfl ?_
              exact ji_ireturn dX8_paragraph_51 rfl (rfl) ⟨jr_i (by first | rfl | omega), rfl⟩
      · try (exfalso; omega)
        all_goals
          refine ji_iconst dX8_paragraph_22 ?_
          refine ji_goto (tgt := 27) dX8_paragraph_23 rfl ?_
          refine ji_putE (ci := 8) (k := 0) rfl dX8_paragraph_27 lX8_47 (by decide) (rf_60) (by simp [rf_c]) (ji_fitI _) rfl (rf_pth) ?_
          refine ji_aload_n dX8_paragraph_30 rfl trivial ?_
          refine ji_cVv dX8_paragraph_31 (r_layAll hz hn hk hrc (by omega) (by omega) hF) rfl (rf_60) rfl rfl wX8_layAll vX8_layAll lX8_189 rfl (Nat.le_of_ble_eq_true rfl) rfl ?_
          refine ji_aload_n dX8_paragraph_34 rfl trivial ?_
          refine ji_get (ci := 8) (k := 0) rfl dX8_paragraph_35 lX8_47 (by decide) (rf_60) rfl ?_
          refine ji_if_le (tgt := 45) dX8_paragraph_38 rfl (by omega) (fun c38 => ?_) (fun c38 => ?_)
          · try (exfalso; omega)
            all_goals
              refine ji_aload_n dX8_paragraph_45 rfl trivial ?_
              refine ji_iload_n dX8_paragraph_46 rfl ?_
              refine ji_iload_n dX8_paragraph_47 rfl ?_
              exfalso; omega
          · try (exfalso; omega)
            all_goals
              refine ji_iconst dX8_paragraph_41 ?_
              refine ji_goto (tgt := 51) dX8_paragraph_42 rfl ?_
              exact ji_ireturn dX8_paragraph_51 rfl (rfl) ⟨jr_i (by first | rfl | omega), rfl⟩
  · try (exfalso; omega)
    all_goals
      refine ji_iconst dX8_paragraph_9 ?_
      refine ji_goto (tgt := 27) dX8_paragraph_10 rfl ?_
      refine ji_putE (ci := 8) (k := 0) rfl dX8_paragraph_27 lX8_47 (by decide) (rf_60) (by simp [rf_c]) (ji_fitI _) rfl (rf_pth) ?_
      refine ji_aload_n dX8_paragraph_30 rfl trivial ?_
      refine ji_cVv dX8_paragraph_31 (r_layAll hz hn hk hrc (by omega) (by omega) hF) rfl (rf_60) rfl rfl wX8_layAll vX8_layAll lX8_189 rfl (Nat.le_of_ble_eq_true rfl) rfl ?_
      refine ji_aload_n dX8_paragraph_34 rfl trivial ?_
      refine ji_get (ci := 8) (k := 0) rfl dX8_paragraph_35 lX8_47 (by decide) (rf_60) rfl ?_
      refine ji_if_le (tgt := 45) dX8_paragraph_38 rfl (by omega) (fun c38 => ?_) (fun c38 => ?_)
      · try (exfalso; omega)
        all_goals
          refine ji_aload_n dX8_paragraph_45 rfl trivial ?_
          refine ji_iload_n dX8_paragraph_46 rfl ?_
          refine ji_iload_n dX8_paragraph_47 rfl ?_
          exfalso; omega
      · try (exfalso; omega)
        all_goals
          refine ji_iconst dX8_paragraph_41 ?_
          refine ji_goto (tgt := 51) dX8_paragraph_42 rfl ?_
          exact ji_ireturn dX8_paragraph_51 rfl (rfl) ⟨jr_i (by first | rfl | omega), rfl⟩

set_option maxHeartbeats 4000000 in
set_option maxRecDepth 100000 in
theorem r_paragraph (hrf : rf_ok wi ht z nl nt sy) {q : Int} (hq : 0 ≤ q ∧ q < z 0) {v : Int} (hx : 0 ≤ v ∧ v < 5) : JR G (d + 9) mX8_paragraph [.ref 60, .int (jI q), .int (jI v)] (n, rf_f f th z kp ed nt nl wi ht sy sz bf rs rr rq rp mm ln lo lf lt co ro pg pf hsh) 0 0 (some (.int (jI (rf_PP z nt ((rf_LL z nl nt sy wi lo lf lt).1) ((rf_LL z nl nt sy wi lo lf lt).2.1) ((rf_LL z nl nt sy wi lo lf lt).2.2.1) ((rf_PG z nl nt sy wi ht (rf_LL z nl nt sy wi lo lf lt).1 (rf_LL z nl nt sy wi lo lf lt).2.1 (rf_LL z nl nt sy wi lo lf lt).2.2.1 (rf_LL z nl nt sy wi lo lf lt).2.2.2 pf).1) (va_up (rf_PG z nl nt sy wi ht (rf_LL z nl nt sy wi lo lf lt).1 (rf_LL z nl nt sy wi lo lf lt).2.1 (rf_LL z nl nt sy wi lo lf lt).2.2.1 (rf_LL z nl nt sy wi lo lf lt).2.2.2 pf).2 (rf_PG z nl nt sy wi ht (rf_LL z nl nt sy wi lo lf lt).1 (rf_LL z nl nt sy wi lo lf lt).2.1 (rf_LL z nl nt sy wi lo lf lt).2.2.1 (rf_LL z nl nt sy wi lo lf lt).2.2.2 pf).1.toNat (rf_LL z nl nt sy wi lo lf lt).1) q v)))) (n, rf_f f 0 z kp ed nt nl wi ht sy sz bf rs rr rq rp mm ((rf_LL z nl nt sy wi lo lf lt).1) ((rf_LL z nl nt sy wi lo lf lt).2.1) ((rf_LL z nl nt sy wi lo lf lt).2.2.1) ((rf_LL z nl nt sy wi lo lf lt).2.2.2) wi ht ((rf_PG z nl nt sy wi ht (rf_LL z nl nt sy wi lo lf lt).1 (rf_LL z nl nt sy wi lo lf lt).2.1 (rf_LL z nl nt sy wi lo lf lt).2.2.1 (rf_LL z nl nt sy wi lo lf lt).2.2.2 pf).1) (va_up (rf_PG z nl nt sy wi ht (rf_LL z nl nt sy wi lo lf lt).1 (rf_LL z nl nt sy wi lo lf lt).2.1 (rf_LL z nl nt sy wi lo lf lt).2.2.1 (rf_LL z nl nt sy wi lo lf lt).2.2.2 pf).2 (rf_PG z nl nt sy wi ht (rf_LL z nl nt sy wi lo lf lt).1 (rf_LL z nl nt sy wi lo lf lt).2.1 (rf_LL z nl nt sy wi lo lf lt).2.2.1 (rf_LL z nl nt sy wi lo lf lt).2.2.2 pf).1.toNat (rf_LL z nl nt sy wi lo lf lt).1) hsh) := by
  obtain ⟨hz, hn, hk, hrc, ⟨hw9, hh9⟩, ⟨hm9, hj9⟩, hll⟩ := id hrf
  have zb := hz.2.1
  have hF := (hll wi lo lf lt (by omega)).2
  have hl1 := (hll wi lo lf lt (by omega)).1
  have hc9 : 0 ≤ wi ∧ wi ≤ 100 := by omega
  have hro : 0 ≤ ht ∧ ht ≤ 100 := by omega
  have hrl := rf_LL_ok hz hF
  have hpk := rf_PG_ok z nl nt sy wi ht (rf_LL z nl nt sy wi lo lf lt).2.1 (rf_LL z nl nt sy wi lo lf lt).2.2.1 (rf_LL z nl nt sy wi lo lf lt).2.2.2 pf (ln := (rf_LL z nl nt sy wi lo lf lt).1) (by omega)
  have hpp := hpk.pos (by omega)
  have hpl := hpk.1
  have wq := rf_in_d q 0 (z 0 - 1)
  have w_v_0_4 := rf_in_d v 0 4
  refine ji_ent (by decide) rfl (Nat.le_of_ble_eq_true rfl) rfl ?_
  refine ji_aload_n dX8_paragraph_0 rfl trivial ?_
  refine ji_aload_n dX8_paragraph_1 rfl trivial ?_
  refine ji_iload_n dX8_paragraph_2 rfl ?_
  refine ji_cV dX8_paragraph_3 (r_isParagraph hz (by omega)) rfl (rf_60) rfl rfl wX8_isParagraph vX8_isParagraph lX8_278 rfl (Nat.le_of_ble_eq_true rfl) rfl ?_
  refine ji_if_ne (tgt := 13) dX8_paragraph_6 rfl (by omega) (fun c6 => ?_) (fun c6 => ?_)
  · try (exfalso; omega)
    all_goals
      refine ji_iload_n dX8_paragraph_13 rfl ?_
      refine ji_iconst dX8_paragraph_14 ?_
      refine ji_iconst dX8_paragraph_15 ?_
      refine ji_cS dX8_paragraph_16 (r_within (by omega) (by omega) (by omega)) rfl wX8_within sX8_within lX8_50 rfl (Nat.le_of_ble_eq_true rfl) rfl ?_
      refine ji_if_eq (tgt := 26) dX8_paragraph_19 rfl (by omega) (fun c19 => ?_) (fun c19 => ?_)
      · try (exfalso; omega)
        all_goals
          refine ji_iconst dX8_paragraph_26 ?_
          refine ji_putE (ci := 8) (k := 0) rfl dX8_paragraph_27 lX8_47 (by decide) (rf_60) (by simp [rf_c]) (ji_fitI _) rfl (rf_pth) ?_
          refine ji_aload_n dX8_paragraph_30 rfl trivial ?_
          refine ji_cVv dX8_paragraph_31 (r_layAll hz hn hk hrc (by omega) (by omega) hF) rfl (rf_60) rfl rfl wX8_layAll vX8_layAll lX8_189 rfl (Nat.le_of_ble_eq_true rfl) rfl ?_
          refine ji_aload_n dX8_paragraph_34 rfl trivial ?_
          refine ji_get (ci := 8) (k := 0) rfl dX8_paragraph_35 lX8_47 (by decide) (rf_60) rfl ?_
          refine ji_if_le (tgt := 45) dX8_paragraph_38 rfl (by omega) (fun c38 => ?_) (fun c38 => ?_)
          · try (exfalso; omega)
            all_goals
              refine ji_aload_n dX8_paragraph_45 rfl trivial ?_
              refine ji_iload_n dX8_paragraph_46 rfl ?_
              refine ji_iload_n dX8_paragraph_47 rfl ?_
              refine ji_cV dX8_paragraph_48 (r_paragraphNow hz hn hrl hpk hl1 (by omega) (by omega)) rfl (rf_60) rfl rfl wX8_paragraphNow vX8_paragraphNow lX8_281 rfl (Nat.le_of_ble_eq_true rfl) rfl ?_
              exact ji_ireturn dX8_paragraph_51 rfl (rfl) ⟨rfl, rfl⟩
          · try (exfalso; omega)
            all_goals
              refine ji_iconst dX8_paragraph_41 ?_
              refine ji_goto (tgt := 51) dX8_paragraph_42 rfl ?_
              exact ji_ireturn dX8_paragraph_51 rfl (rfl) ⟨rfl, rfl⟩
      · try (exfalso; omega)
        all_goals
          refine ji_iconst dX8_paragraph_22 ?_
          refine ji_goto (tgt := 27) dX8_paragraph_23 rfl ?_
          refine ji_putE (ci := 8) (k := 0) rfl dX8_paragraph_27 lX8_47 (by decide) (rf_60) (by simp [rf_c]) (ji_fitI _) rfl (rf_pth) ?_
          refine ji_aload_n dX8_paragraph_30 rfl trivial ?_
          refine ji_cVv dX8_paragraph_31 (r_layAll hz hn hk hrc (by omega) (by omega) hF) rfl (rf_60) rfl rfl wX8_layAll vX8_layAll lX8_189 rfl (Nat.le_of_ble_eq_true rfl) rfl ?_
          refine ji_aload_n dX8_paragraph_34 rfl trivial ?_
          refine ji_get (ci := 8) (k := 0) rfl dX8_paragraph_35 lX8_47 (by decide) (rf_60) rfl ?_
          refine ji_if_le (tgt := 45) dX8_paragraph_38 rfl (by omega) (fun c38 => ?_) (fun c38 => ?_)
          · try (exfalso; omega)
            all_goals
              refine ji_aload_n dX8_paragraph_45 rfl trivial ?_
              refine ji_iload_n dX8_paragraph_46 rfl ?_
              refine ji_iload_n dX8_paragraph_47 rfl ?_
              refine ji_cV dX8_paragraph_48 (r_paragraphNow hz hn hrl hpk hl1 (by omega) (by omega)) rfl (rf_60) rfl rfl wX8_paragraphNow vX8_paragraphNow lX8_281 rfl (Nat.le_of_ble_eq_true rfl) rfl ?_
              exact ji_ireturn dX8_paragraph_51 rfl (rfl) ⟨rfl, rfl⟩
          · try (exfalso; omega)
            all_goals
              refine ji_iconst dX8_paragraph_41 ?_
              refine ji_goto (tgt := 51) dX8_paragraph_42 rfl ?_
              exact ji_ireturn dX8_paragraph_51 rfl (rfl) ⟨rfl, rfl⟩
  · try (exfalso; omega)
    all_goals
      refine ji_iconst dX8_paragraph_9 ?_
      refine ji_goto (tgt := 27) dX8_paragraph_10 rfl ?_
      refine ji_putE (ci := 8) (k := 0) rfl dX8_paragraph_27 lX8_47 (by decide) (rf_60) (by simp [rf_c]) (ji_fitI _) rfl (rf_pth) ?_
      refine ji_aload_n dX8_paragraph_30 rfl trivial ?_
      refine ji_cVv dX8_paragraph_31 (r_layAll hz hn hk hrc (by omega) (by omega) hF) rfl (rf_60) rfl rfl wX8_layAll vX8_layAll lX8_189 rfl (Nat.le_of_ble_eq_true rfl) rfl ?_
      refine ji_aload_n dX8_paragraph_34 rfl trivial ?_
      refine ji_get (ci := 8) (k := 0) rfl dX8_paragraph_35 lX8_47 (by decide) (rf_60) rfl ?_
      refine ji_if_le (tgt := 45) dX8_paragraph_38 rfl (by omega) (fun c38 => ?_) (fun c38 => ?_)
      · try (exfalso; omega)
        all_goals
          refine ji_aload_n dX8_paragraph_45 rfl trivial ?_
          refine ji_iload_n dX8_paragraph_46 rfl ?_
          refine ji_iload_n dX8_paragraph_47 rfl ?_
          refine ji_cV dX8_paragraph_48 (r_paragraphNow hz hn hrl hpk hl1 (by omega) (by omega)) rfl (rf_60) rfl rfl wX8_paragraphNow vX8_paragraphNow lX8_281 rfl (Nat.le_of_ble_eq_true rfl) rfl ?_
          exact ji_ireturn dX8_paragraph_51 rfl (rfl) ⟨rfl, rfl⟩
      · try (exfalso; omega)
        all_goals
          refine ji_iconst dX8_paragraph_41 ?_
          refine ji_goto (tgt := 51) dX8_paragraph_42 rfl ?_
          exact ji_ireturn dX8_paragraph_51 rfl (rfl) ⟨rfl, rfl⟩

set_option maxHeartbeats 4000000 in
set_option maxRecDepth 100000 in
theorem r_letter1 (hrf : rf_ok wi ht z nl nt sy) {q o : Int} (b_q : -2147483648 ≤ q ∧ q < 2147483648) (b_o : -2147483648 ≤ o ∧ o < 2147483648) (hx : ¬ ((0 ≤ q ∧ q < z 0) ∧ 0 ≤ o ∧ o < z (85 + q).toNat)) : JR G (d + 2) mX8_letter [.ref 60, .int (jI q), .int (jI o)] (n, rf_f f th z kp ed nt nl wi ht sy sz bf rs rr rq rp mm ln lo lf lt co ro pg pf hsh) 0 0 (some (.int (jI 0))) (n, rf_f f 1 z kp ed nt nl wi ht sy sz bf rs rr rq rp mm ln lo lf lt co ro pg pf hsh) := by
  obtain ⟨hz, hn, hk, hrc, ⟨hw9, hh9⟩, ⟨hm9, hj9⟩, hll⟩ := id hrf
  have zb := hz.2.1
  have wip := rf_IP_d z q o
  refine ji_ent (by decide) rfl (Nat.le_of_ble_eq_true rfl) rfl ?_
  refine ji_aload_n dX8_letter_0 rfl trivial ?_
  refine ji_aload_n dX8_letter_1 rfl trivial ?_
  refine ji_iload_n dX8_letter_2 rfl ?_
  refine ji_iload_n dX8_letter_3 rfl ?_
  refine ji_cV dX8_letter_4 (r_isPosition hz (by omega) (by omega)) rfl (rf_60) rfl rfl wX8_isPosition vX8_isPosition lX8_238 rfl (Nat.le_of_ble_eq_true rfl) rfl ?_
  refine ji_if_eq (tgt := 14) dX8_letter_7 rfl (by omega) (fun c7 => ?_) (fun c7 => ?_)
  · try (exfalso; omega)
    all_goals
      refine ji_iconst dX8_letter_14 ?_
      refine ji_putE (ci := 8) (k := 0) rfl dX8_letter_15 lX8_47 (by decide) (rf_60) (by simp [rf_c]) (ji_fitI _) rfl (rf_pth) ?_
      refine ji_aload_n dX8_letter_18 rfl trivial ?_
      refine ji_get (ci := 8) (k := 0) rfl dX8_letter_19 lX8_47 (by decide) (rf_60) rfl ?_
      refine ji_if_le (tgt := 29) dX8_letter_22 rfl (by omega) (fun c22 => ?_) (fun c22 => ?_)
      · try (exfalso; omega)
        all_goals
          refine ji_aload_n dX8_letter_29 rfl trivial ?_
          refine ji_iload_n dX8_letter_30 rfl ?_
          refine ji_iload_n dX8_letter_31 rfl ?_
          exfalso; omega
      · try (exfalso; omega)
        all_goals
          refine ji_iconst dX8_letter_25 ?_
          refine ji_goto (tgt := 35) dX8_letter_26 rfl ?_
          exact ji_ireturn dX8_letter_35 rfl (rfl) ⟨jr_i (by first | rfl | omega), rfl⟩
  · try (exfalso; omega)
    all_goals
      refine ji_iconst dX8_letter_10 ?_
      refine ji_goto (tgt := 15) dX8_letter_11 rfl ?_
      refine ji_putE (ci := 8) (k := 0) rfl dX8_letter_15 lX8_47 (by decide) (rf_60) (by simp [rf_c]) (ji_fitI _) rfl (rf_pth) ?_
      refine ji_aload_n dX8_letter_18 rfl trivial ?_
      refine ji_get (ci := 8) (k := 0) rfl dX8_letter_19 lX8_47 (by decide) (rf_60) rfl ?_
      refine ji_if_le (tgt := 29) dX8_letter_22 rfl (by omega) (fun c22 => ?_) (fun c22 => ?_)
      · try (exfalso; omega)
        all_goals
          refine ji_aload_n dX8_letter_29 rfl trivial ?_
          refine ji_iload_n dX8_letter_30 rfl ?_
          refine ji_iload_n dX8_letter_31 rfl ?_
          exfalso; omega
      · try (exfalso; omega)
        all_goals
          refine ji_iconst dX8_letter_25 ?_
          refine ji_goto (tgt := 35) dX8_letter_26 rfl ?_
          exact ji_ireturn dX8_letter_35 rfl (rfl) ⟨jr_i (by first | rfl | omega), rfl⟩

set_option maxHeartbeats 4000000 in
set_option maxRecDepth 100000 in
theorem r_letter (hrf : rf_ok wi ht z nl nt sy) {q o : Int} (hx : (0 ≤ q ∧ q < z 0) ∧ 0 ≤ o ∧ o < z (85 + q).toNat) : JR G (d + 2) mX8_letter [.ref 60, .int (jI q), .int (jI o)] (n, rf_f f th z kp ed nt nl wi ht sy sz bf rs rr rq rp mm ln lo lf lt co ro pg pf hsh) 0 0 (some (.int (jI (rf_ch z nt q o)))) (n, rf_f f 0 z kp ed nt nl wi ht sy sz bf rs rr rq rp mm ln lo lf lt co ro pg pf hsh) := by
  obtain ⟨hz, hn, hk, hrc, ⟨hw9, hh9⟩, ⟨hm9, hj9⟩, hll⟩ := id hrf
  have zb := hz.2.1
  have wip := rf_IP_d z q o
  have zq := hz.2.2.1 (85 + q).toNat (by omega) (by omega)
  refine ji_ent (by decide) rfl (Nat.le_of_ble_eq_true rfl) rfl ?_
  refine ji_aload_n dX8_letter_0 rfl trivial ?_
  refine ji_aload_n dX8_letter_1 rfl trivial ?_
  refine ji_iload_n dX8_letter_2 rfl ?_
  refine ji_iload_n dX8_letter_3 rfl ?_
  refine ji_cV dX8_letter_4 (r_isPosition hz (by omega) (by omega)) rfl (rf_60) rfl rfl wX8_isPosition vX8_isPosition lX8_238 rfl (Nat.le_of_ble_eq_true rfl) rfl ?_
  refine ji_if_eq (tgt := 14) dX8_letter_7 rfl (by omega) (fun c7 => ?_) (fun c7 => ?_)
  · try (exfalso; omega)
    all_goals
      refine ji_iconst dX8_letter_14 ?_
      refine ji_putE (ci := 8) (k := 0) rfl dX8_letter_15 lX8_47 (by decide) (rf_60) (by simp [rf_c]) (ji_fitI _) rfl (rf_pth) ?_
      refine ji_aload_n dX8_letter_18 rfl trivial ?_
      refine ji_get (ci := 8) (k := 0) rfl dX8_letter_19 lX8_47 (by decide) (rf_60) rfl ?_
      refine ji_if_le (tgt := 29) dX8_letter_22 rfl (by omega) (fun c22 => ?_) (fun c22 => ?_)
      · try (exfalso; omega)
        all_goals
          refine ji_aload_n dX8_letter_29 rfl trivial ?_
          refine ji_iload_n dX8_letter_30 rfl ?_
          refine ji_iload_n dX8_letter_31 rfl ?_
          refine ji_cV dX8_letter_32 (r_charOf hz hn (by omega) (by omega)) rfl (rf_60) rfl rfl wX8_charOf vX8_charOf lX8_112 rfl (Nat.le_of_ble_eq_true rfl) rfl ?_
          exact ji_ireturn dX8_letter_35 rfl (rfl) ⟨jr_i (by first | rfl | omega), rfl⟩
      · try (exfalso; omega)
        all_goals
          refine ji_iconst dX8_letter_25 ?_
          refine ji_goto (tgt := 35) dX8_letter_26 rfl ?_
          exact ji_ireturn dX8_letter_35 rfl (rfl) ⟨jr_i (by first | rfl | omega), rfl⟩
  · try (exfalso; omega)
    all_goals
      refine ji_iconst dX8_letter_10 ?_
      refine ji_goto (tgt := 15) dX8_letter_11 rfl ?_
      refine ji_putE (ci := 8) (k := 0) rfl dX8_letter_15 lX8_47 (by decide) (rf_60) (by simp [rf_c]) (ji_fitI _) rfl (rf_pth) ?_
      refine ji_aload_n dX8_letter_18 rfl trivial ?_
      refine ji_get (ci := 8) (k := 0) rfl dX8_letter_19 lX8_47 (by decide) (rf_60) rfl ?_
      refine ji_if_le (tgt := 29) dX8_letter_22 rfl (by omega) (fun c22 => ?_) (fun c22 => ?_)
      · try (exfalso; omega)
        all_goals
          refine ji_aload_n dX8_letter_29 rfl trivial ?_
          refine ji_iload_n dX8_letter_30 rfl ?_
          refine ji_iload_n dX8_letter_31 rfl ?_
          refine ji_cV dX8_letter_32 (r_charOf hz hn (by omega) (by omega)) rfl (rf_60) rfl rfl wX8_charOf vX8_charOf lX8_112 rfl (Nat.le_of_ble_eq_true rfl) rfl ?_
          exact ji_ireturn dX8_letter_35 rfl (rfl) ⟨jr_i (by first | rfl | omega), rfl⟩
      · try (exfalso; omega)
        all_goals
          refine ji_iconst dX8_letter_25 ?_
          refine ji_goto (tgt := 35) dX8_letter_26 rfl ?_
          exact ji_ireturn dX8_letter_35 rfl (rfl) ⟨jr_i (by first | rfl | omega), rfl⟩

set_option maxHeartbeats 4000000 in
set_option maxRecDepth 100000 in
theorem r_annotate1 (hrf : rf_ok wi ht z nl nt sy) {q o : Int} (b_q : -2147483648 ≤ q ∧ q < 2147483648) (b_o : -2147483648 ≤ o ∧ o < 2147483648) {y c : Int} (b_y : -2147483648 ≤ y ∧ y < 2147483648) (hx : ¬ (((0 ≤ q ∧ q < z 0) ∧ 0 ≤ o ∧ o < z (85 + q).toNat) ∧ o < y ∧ y ≤ z (85 + q).toNat)) : JR G (d + 2) mX8_annotate [.ref 60, .int (jI q), .int (jI o), .int (jI y), .int (jI c)] (n, rf_f f th z kp ed nt nl wi ht sy sz bf rs rr rq rp mm ln lo lf lt co ro pg pf hsh) 0 0 (some (.int (jI 0))) (n, rf_f f 1 z kp ed nt nl wi ht sy sz bf rs rr rq rp mm ln lo lf lt co ro pg pf hsh) := by
  obtain ⟨hz, hn, hk, hrc, ⟨hw9, hh9⟩, ⟨hm9, hj9⟩, hll⟩ := id hrf
  have zb := hz.2.1
  have wip := rf_IP_d z q o
  have wy := rf_in_d y (o + 1) (z (85 + q).toNat)
  have w_c_0_7 := rf_in_d c 0 7
  have zq : 0 ≤ q → q < z 0 → 0 ≤ z (85 + q).toNat ∧ z (85 + q).toNat ≤ 359 := fun a b => hz.2.2.1 (85 + q).toNat (by omega) (by omega)
  refine ji_ent (by decide) rfl (Nat.le_of_ble_eq_true rfl) rfl ?_
  refine ji_aload_n dX8_annotate_0 rfl trivial ?_
  refine ji_iload_n dX8_annotate_1 rfl ?_
  refine ji_iload_n dX8_annotate_2 rfl ?_
  refine ji_cV dX8_annotate_3 (r_isPosition hz (by omega) (by omega)) rfl (rf_60) rfl rfl wX8_isPosition vX8_isPosition lX8_238 rfl (Nat.le_of_ble_eq_true rfl) rfl ?_
  refine ji_if_eq (tgt := 32) dX8_annotate_6 rfl (by omega) (fun c6 => ?_) (fun c6 => ?_)
  · try (exfalso; omega)
    all_goals
      refine ji_iconst dX8_annotate_32 ?_
      refine ji_istore dX8_annotate_33 (by decide) rfl ?_
      refine ji_aload_n dX8_annotate_35 rfl trivial ?_
      refine ji_iload dX8_annotate_36 rfl ?_
      refine ji_if_ne (tgt := 45) dX8_annotate_38 rfl (by omega) (fun c38 => ?_) (fun c38 => ?_)
      · try (exfalso; omega)
        all_goals
          refine ji_iload dX8_annotate_45 rfl ?_
          refine ji_iconst dX8_annotate_47 ?_
          refine ji_bipush dX8_annotate_48 rfl ?_
          refine ji_cS dX8_annotate_50 (r_within (by omega) (by omega) (by omega)) rfl wX8_within sX8_within lX8_50 rfl (Nat.le_of_ble_eq_true rfl) rfl ?_
          refine ji_if_ne (tgt := 60) dX8_annotate_53 rfl (by omega) (fun c53 => ?_) (fun c53 => ?_)
          · try (exfalso; omega)
            all_goals
              refine ji_aload_n dX8_annotate_60 rfl trivial ?_
              refine ji_get (ci := 8) (k := 1) rfl dX8_annotate_61 lX8_7 (by decide) (rf_60) rfl ?_
              refine ji_bipush dX8_annotate_64 rfl ?_
              refine ji_ialoadK (k := 14) dX8_annotate_66 (rf_61) rfl (by decide) ?_
              refine ji_bipush dX8_annotate_67 rfl ?_
              refine ji_icmp_ne (tgt := 76) dX8_annotate_69 rfl (by omega) (by omega) (fun c69 => ?_) (fun c69 => ?_)
              · try (exfalso; omega)
                all_goals
                  refine ji_iconst dX8_annotate_76 ?_
                  refine ji_putE (ci := 8) (k := 0) rfl dX8_annotate_77 lX8_47 (by decide) (rf_60) (by simp [rf_c]) (ji_fitI _) rfl (rf_pth) ?_
                  refine ji_aload_n dX8_annotate_80 rfl trivial ?_
                  refine ji_get (ci := 8) (k := 0) rfl dX8_annotate_81 lX8_47 (by decide) (rf_60) rfl ?_
                  refine ji_if_le (tgt := 89) dX8_annotate_84 rfl (by omega) (fun c84 => ?_) (fun c84 => ?_)
                  · try (exfalso; omega)
                    all_goals
                      exfalso; omega
                  · try (exfalso; omega)
                    all_goals
                      refine ji_iconst dX8_annotate_87 ?_
                      exact ji_ireturn dX8_annotate_88 rfl (rfl) ⟨jr_i (by first | rfl | omega), rfl⟩
              · try (exfalso; omega)
                all_goals
                  refine ji_iconst dX8_annotate_72 ?_
                  refine ji_goto (tgt := 77) dX8_annotate_73 rfl ?_
                  refine ji_putE (ci := 8) (k := 0) rfl dX8_annotate_77 lX8_47 (by decide) (rf_60) (by simp [rf_c]) (ji_fitI _) rfl (rf_pth) ?_
                  refine ji_aload_n dX8_annotate_80 rfl trivial ?_
                  refine ji_get (ci := 8) (k := 0) rfl dX8_annotate_81 lX8_47 (by decide) (rf_60) rfl ?_
                  refine ji_if_le (tgt := 89) dX8_annotate_84 rfl (by omega) (fun c84 => ?_) (fun c84 => ?_)
                  · try (exfalso; omega)
                    all_goals
                      exfalso; omega
                  · try (exfalso; omega)
                    all_goals
                      refine ji_iconst dX8_annotate_87 ?_
                      exact ji_ireturn dX8_annotate_88 rfl (rfl) ⟨jr_i (by first | rfl | omega), rfl⟩
          · try (exfalso; omega)
            all_goals
              refine ji_iconst dX8_annotate_56 ?_
              refine ji_goto (tgt := 77) dX8_annotate_57 rfl ?_
              refine ji_putE (ci := 8) (k := 0) rfl dX8_annotate_77 lX8_47 (by decide) (rf_60) (by simp [rf_c]) (ji_fitI _) rfl (rf_pth) ?_
              refine ji_aload_n dX8_annotate_80 rfl trivial ?_
              refine ji_get (ci := 8) (k := 0) rfl dX8_annotate_81 lX8_47 (by decide) (rf_60) rfl ?_
              refine ji_if_le (tgt := 89) dX8_annotate_84 rfl (by omega) (fun c84 => ?_) (fun c84 => ?_)
              · try (exfalso; omega)
                all_goals
                  exfalso; omega
              · try (exfalso; omega)
                all_goals
                  refine ji_iconst dX8_annotate_87 ?_
                  exact ji_ireturn dX8_annotate_88 rfl (rfl) ⟨jr_i (by first | rfl | omega), rfl⟩
      · try (exfalso; omega)
        all_goals
          refine ji_iconst dX8_annotate_41 ?_
          refine ji_goto (tgt := 77) dX8_annotate_42 rfl ?_
          refine ji_putE (ci := 8) (k := 0) rfl dX8_annotate_77 lX8_47 (by decide) (rf_60) (by simp [rf_c]) (ji_fitI _) rfl (rf_pth) ?_
          refine ji_aload_n dX8_annotate_80 rfl trivial ?_
          refine ji_get (ci := 8) (k := 0) rfl dX8_annotate_81 lX8_47 (by decide) (rf_60) rfl ?_
          refine ji_if_le (tgt := 89) dX8_annotate_84 rfl (by omega) (fun c84 => ?_) (fun c84 => ?_)
          · try (exfalso; omega)
            all_goals
              exfalso; omega
          · try (exfalso; omega)
            all_goals
              refine ji_iconst dX8_annotate_87 ?_
              exact ji_ireturn dX8_annotate_88 rfl (rfl) ⟨jr_i (by first | rfl | omega), rfl⟩
  · try (exfalso; omega)
    all_goals
      refine ji_iload_n dX8_annotate_9 rfl ?_
      refine ji_iload_n dX8_annotate_10 rfl ?_
      refine ji_iconst dX8_annotate_11 ?_
      refine ji_iadd dX8_annotate_12 ?_
      refine ji_aload_n dX8_annotate_13 rfl trivial ?_
      refine ji_get (ci := 8) (k := 1) rfl dX8_annotate_14 lX8_7 (by decide) (rf_60) rfl ?_
      refine ji_bipush dX8_annotate_17 rfl ?_
      refine ji_iload_n dX8_annotate_19 rfl ?_
      refine ji_iadd dX8_annotate_20 ?_
      refine ji_iaload dX8_annotate_21 (rf_61) (by omega) ?_
      refine ji_cS dX8_annotate_22 (r_within (by omega) (by omega) (by omega)) rfl wX8_within sX8_within lX8_50 rfl (Nat.le_of_ble_eq_true rfl) rfl ?_
      refine ji_if_eq (tgt := 32) dX8_annotate_25 rfl (by omega) (fun c25 => ?_) (fun c25 => ?_)
      · try (exfalso; omega)
        all_goals
          refine ji_iconst dX8_annotate_32 ?_
          refine ji_istore dX8_annotate_33 (by decide) rfl ?_
          refine ji_aload_n dX8_annotate_35 rfl trivial ?_
          refine ji_iload dX8_annotate_36 rfl ?_
          refine ji_if_ne (tgt := 45) dX8_annotate_38 rfl (by omega) (fun c38 => ?_) (fun c38 => ?_)
          · try (exfalso; omega)
            all_goals
              refine ji_iload dX8_annotate_45 rfl ?_
              refine ji_iconst dX8_annotate_47 ?_
              refine ji_bipush dX8_annotate_48 rfl ?_
              refine ji_cS dX8_annotate_50 (r_within (by omega) (by omega) (by omega)) rfl wX8_within sX8_within lX8_50 rfl (Nat.le_of_ble_eq_true rfl) rfl ?_
              refine ji_if_ne (tgt := 60) dX8_annotate_53 rfl (by omega) (fun c53 => ?_) (fun c53 => ?_)
              · try (exfalso; omega)
                all_goals
                  refine ji_aload_n dX8_annotate_60 rfl trivial ?_
                  refine ji_get (ci := 8) (k := 1) rfl dX8_annotate_61 lX8_7 (by decide) (rf_60) rfl ?_
                  refine ji_bipush dX8_annotate_64 rfl ?_
                  refine ji_ialoadK (k := 14) dX8_annotate_66 (rf_61) rfl (by decide) ?_
                  refine ji_bipush dX8_annotate_67 rfl ?_
                  refine ji_icmp_ne (tgt := 76) dX8_annotate_69 rfl (by omega) (by omega) (fun c69 => ?_) (fun c69 => ?_)
                  · try (exfalso; omega)
                    all_goals
                      refine ji_iconst dX8_annotate_76 ?_
                      refine ji_putE (ci := 8) (k := 0) rfl dX8_annotate_77 lX8_47 (by decide) (rf_60) (by simp [rf_c]) (ji_fitI _) rfl (rf_pth) ?_
                      refine ji_aload_n dX8_annotate_80 rfl trivial ?_
                      refine ji_get (ci := 8) (k := 0) rfl dX8_annotate_81 lX8_47 (by decide) (rf_60) rfl ?_
                      refine ji_if_le (tgt := 89) dX8_annotate_84 rfl (by omega) (fun c84 => ?_) (fun c84 => ?_)
                      · try (exfalso; omega)
                        all_goals
                          exfalso; omega
                      · try (exfalso; omega)
                        all_goals
                          refine ji_iconst dX8_annotate_87 ?_
                          exact ji_ireturn dX8_annotate_88 rfl (rfl) ⟨jr_i (by first | rfl | omega), rfl⟩
                  · try (exfalso; omega)
                    all_goals
                      refine ji_iconst dX8_annotate_72 ?_
                      refine ji_goto (tgt := 77) dX8_annotate_73 rfl ?_
                      refine ji_putE (ci := 8) (k := 0) rfl dX8_annotate_77 lX8_47 (by decide) (rf_60) (by simp [rf_c]) (ji_fitI _) rfl (rf_pth) ?_
                      refine ji_aload_n dX8_annotate_80 rfl trivial ?_
                      refine ji_get (ci := 8) (k := 0) rfl dX8_annotate_81 lX8_47 (by decide) (rf_60) rfl ?_
                      refine ji_if_le (tgt := 89) dX8_annotate_84 rfl (by omega) (fun c84 => ?_) (fun c84 => ?_)
                      · try (exfalso; omega)
                        all_goals
                          exfalso; omega
                      · try (exfalso; omega)
                        all_goals
                          refine ji_iconst dX8_annotate_87 ?_
                          exact ji_ireturn dX8_annotate_88 rfl (rfl) ⟨jr_i (by first | rfl | omega), rfl⟩
              · try (exfalso; omega)
                all_goals
                  refine ji_iconst dX8_annotate_56 ?_
                  refine ji_goto (tgt := 77) dX8_annotate_57 rfl ?_
                  refine ji_putE (ci := 8) (k := 0) rfl dX8_annotate_77 lX8_47 (by decide) (rf_60) (by simp [rf_c]) (ji_fitI _) rfl (rf_pth) ?_
                  refine ji_aload_n dX8_annotate_80 rfl trivial ?_
                  refine ji_get (ci := 8) (k := 0) rfl dX8_annotate_81 lX8_47 (by decide) (rf_60) rfl ?_
                  refine ji_if_le (tgt := 89) dX8_annotate_84 rfl (by omega) (fun c84 => ?_) (fun c84 => ?_)
                  · try (exfalso; omega)
                    all_goals
                      exfalso; omega
                  · try (exfalso; omega)
                    all_goals
                      refine ji_iconst dX8_annotate_87 ?_
                      exact ji_ireturn dX8_annotate_88 rfl (rfl) ⟨jr_i (by first | rfl | omega), rfl⟩
          · try (exfalso; omega)
            all_goals
              refine ji_iconst dX8_annotate_41 ?_
              refine ji_goto (tgt := 77) dX8_annotate_42 rfl ?_
              refine ji_putE (ci := 8) (k := 0) rfl dX8_annotate_77 lX8_47 (by decide) (rf_60) (by simp [rf_c]) (ji_fitI _) rfl (rf_pth) ?_
              refine ji_aload_n dX8_annotate_80 rfl trivial ?_
              refine ji_get (ci := 8) (k := 0) rfl dX8_annotate_81 lX8_47 (by decide) (rf_60) rfl ?_
              refine ji_if_le (tgt := 89) dX8_annotate_84 rfl (by omega) (fun c84 => ?_) (fun c84 => ?_)
              · try (exfalso; omega)
                all_goals
                  exfalso; omega
              · try (exfalso; omega)
                all_goals
                  refine ji_iconst dX8_annotate_87 ?_
                  exact ji_ireturn dX8_annotate_88 rfl (rfl) ⟨jr_i (by first | rfl | omega), rfl⟩
      · try (exfalso; omega)
        all_goals
          refine ji_iconst dX8_annotate_28 ?_
          refine ji_goto (tgt := 33) dX8_annotate_29 rfl ?_
          refine ji_istore dX8_annotate_33 (by decide) rfl ?_
          refine ji_aload_n dX8_annotate_35 rfl trivial ?_
          refine ji_iload dX8_annotate_36 rfl ?_
          refine ji_if_ne (tgt := 45) dX8_annotate_38 rfl (by omega) (fun c38 => ?_) (fun c38 => ?_)
          · try (exfalso; omega)
            all_goals
              refine ji_iload dX8_annotate_45 rfl ?_
              refine ji_iconst dX8_annotate_47 ?_
              refine ji_bipush dX8_annotate_48 rfl ?_
              refine ji_cS dX8_annotate_50 (r_within (by omega) (by omega) (by omega)) rfl wX8_within sX8_within lX8_50 rfl (Nat.le_of_ble_eq_true rfl) rfl ?_
              refine ji_if_ne (tgt := 60) dX8_annotate_53 rfl (by omega) (fun c53 => ?_) (fun c53 => ?_)
              · try (exfalso; omega)
                all_goals
                  refine ji_aload_n dX8_annotate_60 rfl trivial ?_
                  refine ji_get (ci := 8) (k := 1) rfl dX8_annotate_61 lX8_7 (by decide) (rf_60) rfl ?_
                  refine ji_bipush dX8_annotate_64 rfl ?_
                  refine ji_ialoadK (k := 14) dX8_annotate_66 (rf_61) rfl (by decide) ?_
                  refine ji_bipush dX8_annotate_67 rfl ?_
                  refine ji_icmp_ne (tgt := 76) dX8_annotate_69 rfl (by omega) (by omega) (fun c69 => ?_) (fun c69 => ?_)
                  · try (exfalso; omega)
                    all_goals
                      refine ji_iconst dX8_annotate_76 ?_
                      refine ji_putE (ci := 8) (k := 0) rfl dX8_annotate_77 lX8_47 (by decide) (rf_60) (by simp [rf_c]) (ji_fitI _) rfl (rf_pth) ?_
                      refine ji_aload_n dX8_annotate_80 rfl trivial ?_
                      refine ji_get (ci := 8) (k := 0) rfl dX8_annotate_81 lX8_47 (by decide) (rf_60) rfl ?_
                      refine ji_if_le (tgt := 89) dX8_annotate_84 rfl (by omega) (fun c84 => ?_) (fun c84 => ?_)
                      · try (exfalso; omega)
                        all_goals
                          exfalso; omega
                      · try (exfalso; omega)
                        all_goals
                          refine ji_iconst dX8_annotate_87 ?_
                          exact ji_ireturn dX8_annotate_88 rfl (rfl) ⟨jr_i (by first | rfl | omega), rfl⟩
                  · try (exfalso; omega)
                    all_goals
                      refine ji_iconst dX8_annotate_72 ?_
                      refine ji_goto (tgt := 77) dX8_annotate_73 rfl ?_
                      refine ji_putE (ci := 8) (k := 0) rfl dX8_annotate_77 lX8_47 (by decide) (rf_60) (by simp [rf_c]) (ji_fitI _) rfl (rf_pth) ?_
                      refine ji_aload_n dX8_annotate_80 rfl trivial ?_
                      refine ji_get (ci := 8) (k := 0) rfl dX8_annotate_81 lX8_47 (by decide) (rf_60) rfl ?_
                      refine ji_if_le (tgt := 89) dX8_annotate_84 rfl (by omega) (fun c84 => ?_) (fun c84 => ?_)
                      · try (exfalso; omega)
                        all_goals
                          exfalso; omega
                      · try (exfalso; omega)
                        all_goals
                          refine ji_iconst dX8_annotate_87 ?_
                          exact ji_ireturn dX8_annotate_88 rfl (rfl) ⟨jr_i (by first | rfl | omega), rfl⟩
              · try (exfalso; omega)
                all_goals
                  refine ji_iconst dX8_annotate_56 ?_
                  refine ji_goto (tgt := 77) dX8_annotate_57 rfl ?_
                  refine ji_putE (ci := 8) (k := 0) rfl dX8_annotate_77 lX8_47 (by decide) (rf_60) (by simp [rf_c]) (ji_fitI _) rfl (rf_pth) ?_
                  refine ji_aload_n dX8_annotate_80 rfl trivial ?_
                  refine ji_get (ci := 8) (k := 0) rfl dX8_annotate_81 lX8_47 (by decide) (rf_60) rfl ?_
                  refine ji_if_le (tgt := 89) dX8_annotate_84 rfl (by omega) (fun c84 => ?_) (fun c84 => ?_)
                  · try (exfalso; omega)
                    all_goals
                      exfalso; omega
                  · try (exfalso; omega)
                    all_goals
                      refine ji_iconst dX8_annotate_87 ?_
                      exact ji_ireturn dX8_annotate_88 rfl (rfl) ⟨jr_i (by first | rfl | omega), rfl⟩
          · try (exfalso; omega)
            all_goals
              refine ji_iconst dX8_annotate_41 ?_
              refine ji_goto (tgt := 77) dX8_annotate_42 rfl ?_
              refine ji_putE (ci := 8) (k := 0) rfl dX8_annotate_77 lX8_47 (by decide) (rf_60) (by simp [rf_c]) (ji_fitI _) rfl (rf_pth) ?_
              refine ji_aload_n dX8_annotate_80 rfl trivial ?_
              refine ji_get (ci := 8) (k := 0) rfl dX8_annotate_81 lX8_47 (by decide) (rf_60) rfl ?_
              refine ji_if_le (tgt := 89) dX8_annotate_84 rfl (by omega) (fun c84 => ?_) (fun c84 => ?_)
              · try (exfalso; omega)
                all_goals
                  exfalso; omega
              · try (exfalso; omega)
                all_goals
                  refine ji_iconst dX8_annotate_87 ?_
                  exact ji_ireturn dX8_annotate_88 rfl (rfl) ⟨jr_i (by first | rfl | omega), rfl⟩

set_option maxHeartbeats 4000000 in
set_option maxRecDepth 100000 in
theorem r_annotate2 (hrf : rf_ok wi ht z nl nt sy) {q o y c : Int} (hx : (0 ≤ q ∧ q < z 0) ∧ 0 ≤ o ∧ o < z (85 + q).toNat) (hy : o < y ∧ y ≤ z (85 + q).toNat) (b_c : -2147483648 ≤ c ∧ c < 2147483648) (hc : c < 0 ∨ 8 ≤ c) : JR G (d + 2) mX8_annotate [.ref 60, .int (jI q), .int (jI o), .int (jI y), .int (jI c)] (n, rf_f f th z kp ed nt nl wi ht sy sz bf rs rr rq rp mm ln lo lf lt co ro pg pf hsh) 0 0 (some (.int (jI 0))) (n, rf_f f 2 z kp ed nt nl wi ht sy sz bf rs rr rq rp mm ln lo lf lt co ro pg pf hsh) := by
  obtain ⟨hz, hn, hk, hrc, ⟨hw9, hh9⟩, ⟨hm9, hj9⟩, hll⟩ := id hrf
  have zb := hz.2.1
  have wip := rf_IP_d z q o
  have zq := hz.2.2.1 (85 + q).toNat (by omega) (by omega)
  have wy := rf_in_d y (o + 1) (z (85 + q).toNat)
  have w_c_0_7 := rf_in_d c 0 7
  refine ji_ent (by decide) rfl (Nat.le_of_ble_eq_true rfl) rfl ?_
  refine ji_aload_n dX8_annotate_0 rfl trivial ?_
  refine ji_iload_n dX8_annotate_1 rfl ?_
  refine ji_iload_n dX8_annotate_2 rfl ?_
  refine ji_cV dX8_annotate_3 (r_isPosition hz (by omega) (by omega)) rfl (rf_60) rfl rfl wX8_isPosition vX8_isPosition lX8_238 rfl (Nat.le_of_ble_eq_true rfl) rfl ?_
  refine ji_if_eq (tgt := 32) dX8_annotate_6 rfl (by omega) (fun c6 => ?_) (fun c6 => ?_)
  · try (exfalso; omega)
    all_goals
      refine ji_iconst dX8_annotate_32 ?_
      refine ji_istore dX8_annotate_33 (by decide) rfl ?_
      refine ji_aload_n dX8_annotate_35 rfl trivial ?_
      refine ji_iload dX8_annotate_36 rfl ?_
      refine ji_if_ne (tgt := 45) dX8_annotate_38 rfl (by omega) (fun c38 => ?_) (fun c38 => ?_)
      · try (exfalso; omega)
        all_goals
          refine ji_iload dX8_annotate_45 rfl ?_
          refine ji_iconst dX8_annotate_47 ?_
          refine ji_bipush dX8_annotate_48 rfl ?_
          refine ji_cS dX8_annotate_50 (r_within (by omega) (by omega) (by omega)) rfl wX8_within sX8_within lX8_50 rfl (Nat.le_of_ble_eq_true rfl) rfl ?_
          refine ji_if_ne (tgt := 60) dX8_annotate_53 rfl (by omega) (fun c53 => ?_) (fun c53 => ?_)
          · try (exfalso; omega)
            all_goals
              refine ji_aload_n dX8_annotate_60 rfl trivial ?_
              refine ji_get (ci := 8) (k := 1) rfl dX8_annotate_61 lX8_7 (by decide) (rf_60) rfl ?_
              refine ji_bipush dX8_annotate_64 rfl ?_
              refine ji_ialoadK (k := 14) dX8_annotate_66 (rf_61) rfl (by decide) ?_
              refine ji_bipush dX8_annotate_67 rfl ?_
              refine ji_icmp_ne (tgt := 76) dX8_annotate_69 rfl (by omega) (by omega) (fun c69 => ?_) (fun c69 => ?_)
              · try (exfalso; omega)
                all_goals
                  refine ji_iconst dX8_annotate_76 ?_
                  refine ji_putE (ci := 8) (k := 0) rfl dX8_annotate_77 lX8_47 (by decide) (rf_60) (by simp [rf_c]) (ji_fitI _) rfl (rf_pth) ?_
                  refine ji_aload_n dX8_annotate_80 rfl trivial ?_
                  refine ji_get (ci := 8) (k := 0) rfl dX8_annotate_81 lX8_47 (by decide) (rf_60) rfl ?_
                  refine ji_if_le (tgt := 89) dX8_annotate_84 rfl (by omega) (fun c84 => ?_) (fun c84 => ?_)
                  · try (exfalso; omega)
                    all_goals
                      exfalso; omega
                  · try (exfalso; omega)
                    all_goals
                      refine ji_iconst dX8_annotate_87 ?_
                      exact ji_ireturn dX8_annotate_88 rfl (rfl) ⟨jr_i (by first | rfl | omega), rfl⟩
              · try (exfalso; omega)
                all_goals
                  refine ji_iconst dX8_annotate_72 ?_
                  refine ji_goto (tgt := 77) dX8_annotate_73 rfl ?_
                  refine ji_putE (ci := 8) (k := 0) rfl dX8_annotate_77 lX8_47 (by decide) (rf_60) (by simp [rf_c]) (ji_fitI _) rfl (rf_pth) ?_
                  refine ji_aload_n dX8_annotate_80 rfl trivial ?_
                  refine ji_get (ci := 8) (k := 0) rfl dX8_annotate_81 lX8_47 (by decide) (rf_60) rfl ?_
                  refine ji_if_le (tgt := 89) dX8_annotate_84 rfl (by omega) (fun c84 => ?_) (fun c84 => ?_)
                  · try (exfalso; omega)
                    all_goals
                      exfalso; omega
                  · try (exfalso; omega)
                    all_goals
                      refine ji_iconst dX8_annotate_87 ?_
                      exact ji_ireturn dX8_annotate_88 rfl (rfl) ⟨jr_i (by first | rfl | omega), rfl⟩
          · try (exfalso; omega)
            all_goals
              refine ji_iconst dX8_annotate_56 ?_
              refine ji_goto (tgt := 77) dX8_annotate_57 rfl ?_
              refine ji_putE (ci := 8) (k := 0) rfl dX8_annotate_77 lX8_47 (by decide) (rf_60) (by simp [rf_c]) (ji_fitI _) rfl (rf_pth) ?_
              refine ji_aload_n dX8_annotate_80 rfl trivial ?_
              refine ji_get (ci := 8) (k := 0) rfl dX8_annotate_81 lX8_47 (by decide) (rf_60) rfl ?_
              refine ji_if_le (tgt := 89) dX8_annotate_84 rfl (by omega) (fun c84 => ?_) (fun c84 => ?_)
              · try (exfalso; omega)
                all_goals
                  exfalso; omega
              · try (exfalso; omega)
                all_goals
                  refine ji_iconst dX8_annotate_87 ?_
                  exact ji_ireturn dX8_annotate_88 rfl (rfl) ⟨jr_i (by first | rfl | omega), rfl⟩
      · try (exfalso; omega)
        all_goals
          refine ji_iconst dX8_annotate_41 ?_
          refine ji_goto (tgt := 77) dX8_annotate_42 rfl ?_
          refine ji_putE (ci := 8) (k := 0) rfl dX8_annotate_77 lX8_47 (by decide) (rf_60) (by simp [rf_c]) (ji_fitI _) rfl (rf_pth) ?_
          refine ji_aload_n dX8_annotate_80 rfl trivial ?_
          refine ji_get (ci := 8) (k := 0) rfl dX8_annotate_81 lX8_47 (by decide) (rf_60) rfl ?_
          refine ji_if_le (tgt := 89) dX8_annotate_84 rfl (by omega) (fun c84 => ?_) (fun c84 => ?_)
          · try (exfalso; omega)
            all_goals
              exfalso; omega
          · try (exfalso; omega)
            all_goals
              refine ji_iconst dX8_annotate_87 ?_
              exact ji_ireturn dX8_annotate_88 rfl (rfl) ⟨jr_i (by first | rfl | omega), rfl⟩
  · try (exfalso; omega)
    all_goals
      refine ji_iload_n dX8_annotate_9 rfl ?_
      refine ji_iload_n dX8_annotate_10 rfl ?_
      refine ji_iconst dX8_annotate_11 ?_
      refine ji_iadd dX8_annotate_12 ?_
      refine ji_aload_n dX8_annotate_13 rfl trivial ?_
      refine ji_get (ci := 8) (k := 1) rfl dX8_annotate_14 lX8_7 (by decide) (rf_60) rfl ?_
      refine ji_bipush dX8_annotate_17 rfl ?_
      refine ji_iload_n dX8_annotate_19 rfl ?_
      refine ji_iadd dX8_annotate_20 ?_
      refine ji_iaload dX8_annotate_21 (rf_61) (by omega) ?_
      refine ji_cS dX8_annotate_22 (r_within (by omega) (by omega) (by omega)) rfl wX8_within sX8_within lX8_50 rfl (Nat.le_of_ble_eq_true rfl) rfl ?_
      refine ji_if_eq (tgt := 32) dX8_annotate_25 rfl (by omega) (fun c25 => ?_) (fun c25 => ?_)
      · try (exfalso; omega)
        all_goals
          refine ji_iconst dX8_annotate_32 ?_
          refine ji_istore dX8_annotate_33 (by decide) rfl ?_
          refine ji_aload_n dX8_annotate_35 rfl trivial ?_
          refine ji_iload dX8_annotate_36 rfl ?_
          refine ji_if_ne (tgt := 45) dX8_annotate_38 rfl (by omega) (fun c38 => ?_) (fun c38 => ?_)
          · try (exfalso; omega)
            all_goals
              refine ji_iload dX8_annotate_45 rfl ?_
              refine ji_iconst dX8_annotate_47 ?_
              refine ji_bipush dX8_annotate_48 rfl ?_
              refine ji_cS dX8_annotate_50 (r_within (by omega) (by omega) (by omega)) rfl wX8_within sX8_within lX8_50 rfl (Nat.le_of_ble_eq_true rfl) rfl ?_
              refine ji_if_ne (tgt := 60) dX8_annotate_53 rfl (by omega) (fun c53 => ?_) (fun c53 => ?_)
              · try (exfalso; omega)
                all_goals
                  refine ji_aload_n dX8_annotate_60 rfl trivial ?_
                  refine ji_get (ci := 8) (k := 1) rfl dX8_annotate_61 lX8_7 (by decide) (rf_60) rfl ?_
                  refine ji_bipush dX8_annotate_64 rfl ?_
                  refine ji_ialoadK (k := 14) dX8_annotate_66 (rf_61) rfl (by decide) ?_
                  refine ji_bipush dX8_annotate_67 rfl ?_
                  refine ji_icmp_ne (tgt := 76) dX8_annotate_69 rfl (by omega) (by omega) (fun c69 => ?_) (fun c69 => ?_)
                  · try (exfalso; omega)
                    all_goals
                      refine ji_iconst dX8_annotate_76 ?_
                      refine ji_putE (ci := 8) (k := 0) rfl dX8_annotate_77 lX8_47 (by decide) (rf_60) (by simp [rf_c]) (ji_fitI _) rfl (rf_pth) ?_
                      refine ji_aload_n dX8_annotate_80 rfl trivial ?_
                      refine ji_get (ci := 8) (k := 0) rfl dX8_annotate_81 lX8_47 (by decide) (rf_60) rfl ?_
                      refine ji_if_le (tgt := 89) dX8_annotate_84 rfl (by omega) (fun c84 => ?_) (fun c84 => ?_)
                      · try (exfalso; omega)
                        all_goals
                          exfalso; omega
                      · try (exfalso; omega)
                        all_goals
                          refine ji_iconst dX8_annotate_87 ?_
                          exact ji_ireturn dX8_annotate_88 rfl (rfl) ⟨jr_i (by first | rfl | omega), rfl⟩
                  · try (exfalso; omega)
                    all_goals
                      refine ji_iconst dX8_annotate_72 ?_
                      refine ji_goto (tgt := 77) dX8_annotate_73 rfl ?_
                      refine ji_putE (ci := 8) (k := 0) rfl dX8_annotate_77 lX8_47 (by decide) (rf_60) (by simp [rf_c]) (ji_fitI _) rfl (rf_pth) ?_
                      refine ji_aload_n dX8_annotate_80 rfl trivial ?_
                      refine ji_get (ci := 8) (k := 0) rfl dX8_annotate_81 lX8_47 (by decide) (rf_60) rfl ?_
                      refine ji_if_le (tgt := 89) dX8_annotate_84 rfl (by omega) (fun c84 => ?_) (fun c84 => ?_)
                      · try (exfalso; omega)
                        all_goals
                          exfalso; omega
                      · try (exfalso; omega)
                        all_goals
                          refine ji_iconst dX8_annotate_87 ?_
                          exact ji_ireturn dX8_annotate_88 rfl (rfl) ⟨jr_i (by first | rfl | omega), rfl⟩
              · try (exfalso; omega)
                all_goals
                  refine ji_iconst dX8_annotate_56 ?_
                  refine ji_goto (tgt := 77) dX8_annotate_57 rfl ?_
                  refine ji_putE (ci := 8) (k := 0) rfl dX8_annotate_77 lX8_47 (by decide) (rf_60) (by simp [rf_c]) (ji_fitI _) rfl (rf_pth) ?_
                  refine ji_aload_n dX8_annotate_80 rfl trivial ?_
                  refine ji_get (ci := 8) (k := 0) rfl dX8_annotate_81 lX8_47 (by decide) (rf_60) rfl ?_
                  refine ji_if_le (tgt := 89) dX8_annotate_84 rfl (by omega) (fun c84 => ?_) (fun c84 => ?_)
                  · try (exfalso; omega)
                    all_goals
                      exfalso; omega
                  · try (exfalso; omega)
                    all_goals
                      refine ji_iconst dX8_annotate_87 ?_
                      exact ji_ireturn dX8_annotate_88 rfl (rfl) ⟨jr_i (by first | rfl | omega), rfl⟩
          · try (exfalso; omega)
            all_goals
              refine ji_iconst dX8_annotate_41 ?_
              refine ji_goto (tgt := 77) dX8_annotate_42 rfl ?_
              refine ji_putE (ci := 8) (k := 0) rfl dX8_annotate_77 lX8_47 (by decide) (rf_60) (by simp [rf_c]) (ji_fitI _) rfl (rf_pth) ?_
              refine ji_aload_n dX8_annotate_80 rfl trivial ?_
              refine ji_get (ci := 8) (k := 0) rfl dX8_annotate_81 lX8_47 (by decide) (rf_60) rfl ?_
              refine ji_if_le (tgt := 89) dX8_annotate_84 rfl (by omega) (fun c84 => ?_) (fun c84 => ?_)
              · try (exfalso; omega)
                all_goals
                  exfalso; omega
              · try (exfalso; omega)
                all_goals
                  refine ji_iconst dX8_annotate_87 ?_
                  exact ji_ireturn dX8_annotate_88 rfl (rfl) ⟨jr_i (by first | rfl | omega), rfl⟩
      · try (exfalso; omega)
        all_goals
          refine ji_iconst dX8_annotate_28 ?_
          refine ji_goto (tgt := 33) dX8_annotate_29 rfl ?_
          refine ji_istore dX8_annotate_33 (by decide) rfl ?_
          refine ji_aload_n dX8_annotate_35 rfl trivial ?_
          refine ji_iload dX8_annotate_36 rfl ?_
          refine ji_if_ne (tgt := 45) dX8_annotate_38 rfl (by omega) (fun c38 => ?_) (fun c38 => ?_)
          · try (exfalso; omega)
            all_goals
              refine ji_iload dX8_annotate_45 rfl ?_
              refine ji_iconst dX8_annotate_47 ?_
              refine ji_bipush dX8_annotate_48 rfl ?_
              refine ji_cS dX8_annotate_50 (r_within (by omega) (by omega) (by omega)) rfl wX8_within sX8_within lX8_50 rfl (Nat.le_of_ble_eq_true rfl) rfl ?_
              refine ji_if_ne (tgt := 60) dX8_annotate_53 rfl (by omega) (fun c53 => ?_) (fun c53 => ?_)
              · try (exfalso; omega)
                all_goals
                  refine ji_aload_n dX8_annotate_60 rfl trivial ?_
                  refine ji_get (ci := 8) (k := 1) rfl dX8_annotate_61 lX8_7 (by decide) (rf_60) rfl ?_
                  refine ji_bipush dX8_annotate_64 rfl ?_
                  refine ji_ialoadK (k := 14) dX8_annotate_66 (rf_61) rfl (by decide) ?_
                  refine ji_bipush dX8_annotate_67 rfl ?_
                  refine ji_icmp_ne (tgt := 76) dX8_annotate_69 rfl (by omega) (by omega) (fun c69 => ?_) (fun c69 => ?_)
                  · try (exfalso; omega)
                    all_goals
                      refine ji_iconst dX8_annotate_76 ?_
                      refine ji_putE (ci := 8) (k := 0) rfl dX8_annotate_77 lX8_47 (by decide) (rf_60) (by simp [rf_c]) (ji_fitI _) rfl (rf_pth) ?_
                      refine ji_aload_n dX8_annotate_80 rfl trivial ?_
                      refine ji_get (ci := 8) (k := 0) rfl dX8_annotate_81 lX8_47 (by decide) (rf_60) rfl ?_
                      refine ji_if_le (tgt := 89) dX8_annotate_84 rfl (by omega) (fun c84 => ?_) (fun c84 => ?_)
                      · try (exfalso; omega)
                        all_goals
                          exfalso; omega
                      · try (exfalso; omega)
                        all_goals
                          refine ji_iconst dX8_annotate_87 ?_
                          exact ji_ireturn dX8_annotate_88 rfl (rfl) ⟨jr_i (by first | rfl | omega), rfl⟩
                  · try (exfalso; omega)
                    all_goals
                      refine ji_iconst dX8_annotate_72 ?_
                      refine ji_goto (tgt := 77) dX8_annotate_73 rfl ?_
                      refine ji_putE (ci := 8) (k := 0) rfl dX8_annotate_77 lX8_47 (by decide) (rf_60) (by simp [rf_c]) (ji_fitI _) rfl (rf_pth) ?_
                      refine ji_aload_n dX8_annotate_80 rfl trivial ?_
                      refine ji_get (ci := 8) (k := 0) rfl dX8_annotate_81 lX8_47 (by decide) (rf_60) rfl ?_
                      refine ji_if_le (tgt := 89) dX8_annotate_84 rfl (by omega) (fun c84 => ?_) (fun c84 => ?_)
                      · try (exfalso; omega)
                        all_goals
                          exfalso; omega
                      · try (exfalso; omega)
                        all_goals
                          refine ji_iconst dX8_annotate_87 ?_
                          exact ji_ireturn dX8_annotate_88 rfl (rfl) ⟨jr_i (by first | rfl | omega), rfl⟩
              · try (exfalso; omega)
                all_goals
                  refine ji_iconst dX8_annotate_56 ?_
                  refine ji_goto (tgt := 77) dX8_annotate_57 rfl ?_
                  refine ji_putE (ci := 8) (k := 0) rfl dX8_annotate_77 lX8_47 (by decide) (rf_60) (by simp [rf_c]) (ji_fitI _) rfl (rf_pth) ?_
                  refine ji_aload_n dX8_annotate_80 rfl trivial ?_
                  refine ji_get (ci := 8) (k := 0) rfl dX8_annotate_81 lX8_47 (by decide) (rf_60) rfl ?_
                  refine ji_if_le (tgt := 89) dX8_annotate_84 rfl (by omega) (fun c84 => ?_) (fun c84 => ?_)
                  · try (exfalso; omega)
                    all_goals
                      exfalso; omega
                  · try (exfalso; omega)
                    all_goals
                      refine ji_iconst dX8_annotate_87 ?_
                      exact ji_ireturn dX8_annotate_88 rfl (rfl) ⟨jr_i (by first | rfl | omega), rfl⟩
          · try (exfalso; omega)
            all_goals
              refine ji_iconst dX8_annotate_41 ?_
              refine ji_goto (tgt := 77) dX8_annotate_42 rfl ?_
              refine ji_putE (ci := 8) (k := 0) rfl dX8_annotate_77 lX8_47 (by decide) (rf_60) (by simp [rf_c]) (ji_fitI _) rfl (rf_pth) ?_
              refine ji_aload_n dX8_annotate_80 rfl trivial ?_
              refine ji_get (ci := 8) (k := 0) rfl dX8_annotate_81 lX8_47 (by decide) (rf_60) rfl ?_
              refine ji_if_le (tgt := 89) dX8_annotate_84 rfl (by omega) (fun c84 => ?_) (fun c84 => ?_)
              · try (exfalso; omega)
                all_goals
                  exfalso; omega
              · try (exfalso; omega)
                all_goals
                  refine ji_iconst dX8_annotate_87 ?_
                  exact ji_ireturn dX8_annotate_88 rfl (rfl) ⟨jr_i (by first | rfl | omega), rfl⟩

set_option maxHeartbeats 4000000 in
set_option maxRecDepth 100000 in
theorem r_annotate3 (hrf : rf_ok wi ht z nl nt sy) {q o y c : Int} (hx : (0 ≤ q ∧ q < z 0) ∧ 0 ≤ o ∧ o < z (85 + q).toNat) (hy : o < y ∧ y ≤ z (85 + q).toNat) (hc : 0 ≤ c ∧ c < 8) (hm : z 14 = 12) : JR G (d + 2) mX8_annotate [.ref 60, .int (jI q), .int (jI o), .int (jI y), .int (jI c)] (n, rf_f f th z kp ed nt nl wi ht sy sz bf rs rr rq rp mm ln lo lf lt co ro pg pf hsh) 0 0 (some (.int (jI 0))) (n, rf_f f 3 z kp ed nt nl wi ht sy sz bf rs rr rq rp mm ln lo lf lt co ro pg pf hsh) := by
  obtain ⟨hz, hn, hk, hrc, ⟨hw9, hh9⟩, ⟨hm9, hj9⟩, hll⟩ := id hrf
  have zb := hz.2.1
  have wip := rf_IP_d z q o
  have zq := hz.2.2.1 (85 + q).toNat (by omega) (by omega)
  have wy := rf_in_d y (o + 1) (z (85 + q).toNat)
  have w_c_0_7 := rf_in_d c 0 7
  refine ji_ent (by decide) rfl (Nat.le_of_ble_eq_true rfl) rfl ?_
  refine ji_aload_n dX8_annotate_0 rfl trivial ?_
  refine ji_iload_n dX8_annotate_1 rfl ?_
  refine ji_iload_n dX8_annotate_2 rfl ?_
  refine ji_cV dX8_annotate_3 (r_isPosition hz (by omega) (by omega)) rfl (rf_60) rfl rfl wX8_isPosition vX8_isPosition lX8_238 rfl (Nat.le_of_ble_eq_true rfl) rfl ?_
  refine ji_if_eq (tgt := 32) dX8_annotate_6 rfl (by omega) (fun c6 => ?_) (fun c6 => ?_)
  · try (exfalso; omega)
    all_goals
      refine ji_iconst dX8_annotate_32 ?_
      refine ji_istore dX8_annotate_33 (by decide) rfl ?_
      refine ji_aload_n dX8_annotate_35 rfl trivial ?_
      refine ji_iload dX8_annotate_36 rfl ?_
      refine ji_if_ne (tgt := 45) dX8_annotate_38 rfl (by omega) (fun c38 => ?_) (fun c38 => ?_)
      · try (exfalso; omega)
        all_goals
          refine ji_iload dX8_annotate_45 rfl ?_
          refine ji_iconst dX8_annotate_47 ?_
          refine ji_bipush dX8_annotate_48 rfl ?_
          refine ji_cS dX8_annotate_50 (r_within (by omega) (by omega) (by omega)) rfl wX8_within sX8_within lX8_50 rfl (Nat.le_of_ble_eq_true rfl) rfl ?_
          refine ji_if_ne (tgt := 60) dX8_annotate_53 rfl (by omega) (fun c53 => ?_) (fun c53 => ?_)
          · try (exfalso; omega)
            all_goals
              refine ji_aload_n dX8_annotate_60 rfl trivial ?_
              refine ji_get (ci := 8) (k := 1) rfl dX8_annotate_61 lX8_7 (by decide) (rf_60) rfl ?_
              refine ji_bipush dX8_annotate_64 rfl ?_
              refine ji_ialoadK (k := 14) dX8_annotate_66 (rf_61) rfl (by decide) ?_
              refine ji_bipush dX8_annotate_67 rfl ?_
              refine ji_icmp_ne (tgt := 76) dX8_annotate_69 rfl (by omega) (by omega) (fun c69 => ?_) (fun c69 => ?_)
              · try (exfalso; omega)
                all_goals
                  refine ji_iconst dX8_annotate_76 ?_
                  refine ji_putE (ci := 8) (k := 0) rfl dX8_annotate_77 lX8_47 (by decide) (rf_60) (by simp [rf_c]) (ji_fitI _) rfl (rf_pth) ?_
                  refine ji_aload_n dX8_annotate_80 rfl trivial ?_
                  refine ji_get (ci := 8) (k := 0) rfl dX8_annotate_81 lX8_47 (by decide) (rf_60) rfl ?_
                  refine ji_if_le (tgt := 89) dX8_annotate_84 rfl (by omega) (fun c84 => ?_) (fun c84 => ?_)
                  · try (exfalso; omega)
                    all_goals
                      exfalso; omega
                  · try (exfalso; omega)
                    all_goals
                      refine ji_iconst dX8_annotate_87 ?_
                      exact ji_ireturn dX8_annotate_88 rfl (rfl) ⟨jr_i (by first | rfl | omega), rfl⟩
              · try (exfalso; omega)
                all_goals
                  refine ji_iconst dX8_annotate_72 ?_
                  refine ji_goto (tgt := 77) dX8_annotate_73 rfl ?_
                  refine ji_putE (ci := 8) (k := 0) rfl dX8_annotate_77 lX8_47 (by decide) (rf_60) (by simp [rf_c]) (ji_fitI _) rfl (rf_pth) ?_
                  refine ji_aload_n dX8_annotate_80 rfl trivial ?_
                  refine ji_get (ci := 8) (k := 0) rfl dX8_annotate_81 lX8_47 (by decide) (rf_60) rfl ?_
                  refine ji_if_le (tgt := 89) dX8_annotate_84 rfl (by omega) (fun c84 => ?_) (fun c84 => ?_)
                  · try (exfalso; omega)
                    all_goals
                      exfalso; omega
                  · try (exfalso; omega)
                    all_goals
                      refine ji_iconst dX8_annotate_87 ?_
                      exact ji_ireturn dX8_annotate_88 rfl (rfl) ⟨jr_i (by first | rfl | omega), rfl⟩
          · try (exfalso; omega)
            all_goals
              refine ji_iconst dX8_annotate_56 ?_
              refine ji_goto (tgt := 77) dX8_annotate_57 rfl ?_
              refine ji_putE (ci := 8) (k := 0) rfl dX8_annotate_77 lX8_47 (by decide) (rf_60) (by simp [rf_c]) (ji_fitI _) rfl (rf_pth) ?_
              refine ji_aload_n dX8_annotate_80 rfl trivial ?_
              refine ji_get (ci := 8) (k := 0) rfl dX8_annotate_81 lX8_47 (by decide) (rf_60) rfl ?_
              refine ji_if_le (tgt := 89) dX8_annotate_84 rfl (by omega) (fun c84 => ?_) (fun c84 => ?_)
              · try (exfalso; omega)
                all_goals
                  exfalso; omega
              · try (exfalso; omega)
                all_goals
                  refine ji_iconst dX8_annotate_87 ?_
                  exact ji_ireturn dX8_annotate_88 rfl (rfl) ⟨jr_i (by first | rfl | omega), rfl⟩
      · try (exfalso; omega)
        all_goals
          refine ji_iconst dX8_annotate_41 ?_
          refine ji_goto (tgt := 77) dX8_annotate_42 rfl ?_
          refine ji_putE (ci := 8) (k := 0) rfl dX8_annotate_77 lX8_47 (by decide) (rf_60) (by simp [rf_c]) (ji_fitI _) rfl (rf_pth) ?_
          refine ji_aload_n dX8_annotate_80 rfl trivial ?_
          refine ji_get (ci := 8) (k := 0) rfl dX8_annotate_81 lX8_47 (by decide) (rf_60) rfl ?_
          refine ji_if_le (tgt := 89) dX8_annotate_84 rfl (by omega) (fun c84 => ?_) (fun c84 => ?_)
          · try (exfalso; omega)
            all_goals
              exfalso; omega
          · try (exfalso; omega)
            all_goals
              refine ji_iconst dX8_annotate_87 ?_
              exact ji_ireturn dX8_annotate_88 rfl (rfl) ⟨jr_i (by first | rfl | omega), rfl⟩
  · try (exfalso; omega)
    all_goals
      refine ji_iload_n dX8_annotate_9 rfl ?_
      refine ji_iload_n dX8_annotate_10 rfl ?_
      refine ji_iconst dX8_annotate_11 ?_
      refine ji_iadd dX8_annotate_12 ?_
      refine ji_aload_n dX8_annotate_13 rfl trivial ?_
      refine ji_get (ci := 8) (k := 1) rfl dX8_annotate_14 lX8_7 (by decide) (rf_60) rfl ?_
      refine ji_bipush dX8_annotate_17 rfl ?_
      refine ji_iload_n dX8_annotate_19 rfl ?_
      refine ji_iadd dX8_annotate_20 ?_
      refine ji_iaload dX8_annotate_21 (rf_61) (by omega) ?_
      refine ji_cS dX8_annotate_22 (r_within (by omega) (by omega) (by omega)) rfl wX8_within sX8_within lX8_50 rfl (Nat.le_of_ble_eq_true rfl) rfl ?_
      refine ji_if_eq (tgt := 32) dX8_annotate_25 rfl (by omega) (fun c25 => ?_) (fun c25 => ?_)
      · try (exfalso; omega)
        all_goals
          refine ji_iconst dX8_annotate_32 ?_
          refine ji_istore dX8_annotate_33 (by decide) rfl ?_
          refine ji_aload_n dX8_annotate_35 rfl trivial ?_
          refine ji_iload dX8_annotate_36 rfl ?_
          refine ji_if_ne (tgt := 45) dX8_annotate_38 rfl (by omega) (fun c38 => ?_) (fun c38 => ?_)
          · try (exfalso; omega)
            all_goals
              refine ji_iload dX8_annotate_45 rfl ?_
              refine ji_iconst dX8_annotate_47 ?_
              refine ji_bipush dX8_annotate_48 rfl ?_
              refine ji_cS dX8_annotate_50 (r_within (by omega) (by omega) (by omega)) rfl wX8_within sX8_within lX8_50 rfl (Nat.le_of_ble_eq_true rfl) rfl ?_
              refine ji_if_ne (tgt := 60) dX8_annotate_53 rfl (by omega) (fun c53 => ?_) (fun c53 => ?_)
              · try (exfalso; omega)
                all_goals
                  refine ji_aload_n dX8_annotate_60 rfl trivial ?_
                  refine ji_get (ci := 8) (k := 1) rfl dX8_annotate_61 lX8_7 (by decide) (rf_60) rfl ?_
                  refine ji_bipush dX8_annotate_64 rfl ?_
                  refine ji_ialoadK (k := 14) dX8_annotate_66 (rf_61) rfl (by decide) ?_
                  refine ji_bipush dX8_annotate_67 rfl ?_
                  refine ji_icmp_ne (tgt := 76) dX8_annotate_69 rfl (by omega) (by omega) (fun c69 => ?_) (fun c69 => ?_)
                  · try (exfalso; omega)
                    all_goals
                      refine ji_iconst dX8_annotate_76 ?_
                      refine ji_putE (ci := 8) (k := 0) rfl dX8_annotate_77 lX8_47 (by decide) (rf_60) (by simp [rf_c]) (ji_fitI _) rfl (rf_pth) ?_
                      refine ji_aload_n dX8_annotate_80 rfl trivial ?_
                      refine ji_get (ci := 8) (k := 0) rfl dX8_annotate_81 lX8_47 (by decide) (rf_60) rfl ?_
                      refine ji_if_le (tgt := 89) dX8_annotate_84 rfl (by omega) (fun c84 => ?_) (fun c84 => ?_)
                      · try (exfalso; omega)
                        all_goals
                          exfalso; omega
                      · try (exfalso; omega)
                        all_goals
                          refine ji_iconst dX8_annotate_87 ?_
                          exact ji_ireturn dX8_annotate_88 rfl (rfl) ⟨jr_i (by first | rfl | omega), rfl⟩
                  · try (exfalso; omega)
                    all_goals
                      refine ji_iconst dX8_annotate_72 ?_
                      refine ji_goto (tgt := 77) dX8_annotate_73 rfl ?_
                      refine ji_putE (ci := 8) (k := 0) rfl dX8_annotate_77 lX8_47 (by decide) (rf_60) (by simp [rf_c]) (ji_fitI _) rfl (rf_pth) ?_
                      refine ji_aload_n dX8_annotate_80 rfl trivial ?_
                      refine ji_get (ci := 8) (k := 0) rfl dX8_annotate_81 lX8_47 (by decide) (rf_60) rfl ?_
                      refine ji_if_le (tgt := 89) dX8_annotate_84 rfl (by omega) (fun c84 => ?_) (fun c84 => ?_)
                      · try (exfalso; omega)
                        all_goals
                          exfalso; omega
                      · try (exfalso; omega)
                        all_goals
                          refine ji_iconst dX8_annotate_87 ?_
                          exact ji_ireturn dX8_annotate_88 rfl (rfl) ⟨jr_i (by first | rfl | omega), rfl⟩
              · try (exfalso; omega)
                all_goals
                  refine ji_iconst dX8_annotate_56 ?_
                  refine ji_goto (tgt := 77) dX8_annotate_57 rfl ?_
                  refine ji_putE (ci := 8) (k := 0) rfl dX8_annotate_77 lX8_47 (by decide) (rf_60) (by simp [rf_c]) (ji_fitI _) rfl (rf_pth) ?_
                  refine ji_aload_n dX8_annotate_80 rfl trivial ?_
                  refine ji_get (ci := 8) (k := 0) rfl dX8_annotate_81 lX8_47 (by decide) (rf_60) rfl ?_
                  refine ji_if_le (tgt := 89) dX8_annotate_84 rfl (by omega) (fun c84 => ?_) (fun c84 => ?_)
                  · try (exfalso; omega)
                    all_goals
                      exfalso; omega
                  · try (exfalso; omega)
                    all_goals
                      refine ji_iconst dX8_annotate_87 ?_
                      exact ji_ireturn dX8_annotate_88 rfl (rfl) ⟨jr_i (by first | rfl | omega), rfl⟩
          · try (exfalso; omega)
            all_goals
              refine ji_iconst dX8_annotate_41 ?_
              refine ji_goto (tgt := 77) dX8_annotate_42 rfl ?_
              refine ji_putE (ci := 8) (k := 0) rfl dX8_annotate_77 lX8_47 (by decide) (rf_60) (by simp [rf_c]) (ji_fitI _) rfl (rf_pth) ?_
              refine ji_aload_n dX8_annotate_80 rfl trivial ?_
              refine ji_get (ci := 8) (k := 0) rfl dX8_annotate_81 lX8_47 (by decide) (rf_60) rfl ?_
              refine ji_if_le (tgt := 89) dX8_annotate_84 rfl (by omega) (fun c84 => ?_) (fun c84 => ?_)
              · try (exfalso; omega)
                all_goals
                  exfalso; omega
              · try (exfalso; omega)
                all_goals
                  refine ji_iconst dX8_annotate_87 ?_
                  exact ji_ireturn dX8_annotate_88 rfl (rfl) ⟨jr_i (by first | rfl | omega), rfl⟩
      · try (exfalso; omega)
        all_goals
          refine ji_iconst dX8_annotate_28 ?_
          refine ji_goto (tgt := 33) dX8_annotate_29 rfl ?_
          refine ji_istore dX8_annotate_33 (by decide) rfl ?_
          refine ji_aload_n dX8_annotate_35 rfl trivial ?_
          refine ji_iload dX8_annotate_36 rfl ?_
          refine ji_if_ne (tgt := 45) dX8_annotate_38 rfl (by omega) (fun c38 => ?_) (fun c38 => ?_)
          · try (exfalso; omega)
            all_goals
              refine ji_iload dX8_annotate_45 rfl ?_
              refine ji_iconst dX8_annotate_47 ?_
              refine ji_bipush dX8_annotate_48 rfl ?_
              refine ji_cS dX8_annotate_50 (r_within (by omega) (by omega) (by omega)) rfl wX8_within sX8_within lX8_50 rfl (Nat.le_of_ble_eq_true rfl) rfl ?_
              refine ji_if_ne (tgt := 60) dX8_annotate_53 rfl (by omega) (fun c53 => ?_) (fun c53 => ?_)
              · try (exfalso; omega)
                all_goals
                  refine ji_aload_n dX8_annotate_60 rfl trivial ?_
                  refine ji_get (ci := 8) (k := 1) rfl dX8_annotate_61 lX8_7 (by decide) (rf_60) rfl ?_
                  refine ji_bipush dX8_annotate_64 rfl ?_
                  refine ji_ialoadK (k := 14) dX8_annotate_66 (rf_61) rfl (by decide) ?_
                  refine ji_bipush dX8_annotate_67 rfl ?_
                  refine ji_icmp_ne (tgt := 76) dX8_annotate_69 rfl (by omega) (by omega) (fun c69 => ?_) (fun c69 => ?_)
                  · try (exfalso; omega)
                    all_goals
                      refine ji_iconst dX8_annotate_76 ?_
                      refine ji_putE (ci := 8) (k := 0) rfl dX8_annotate_77 lX8_47 (by decide) (rf_60) (by simp [rf_c]) (ji_fitI _) rfl (rf_pth) ?_
                      refine ji_aload_n dX8_annotate_80 rfl trivial ?_
                      refine ji_get (ci := 8) (k := 0) rfl dX8_annotate_81 lX8_47 (by decide) (rf_60) rfl ?_
                      refine ji_if_le (tgt := 89) dX8_annotate_84 rfl (by omega) (fun c84 => ?_) (fun c84 => ?_)
                      · try (exfalso; omega)
                        all_goals
                          exfalso; omega
                      · try (exfalso; omega)
                        all_goals
                          refine ji_iconst dX8_annotate_87 ?_
                          exact ji_ireturn dX8_annotate_88 rfl (rfl) ⟨jr_i (by first | rfl | omega), rfl⟩
                  · try (exfalso; omega)
                    all_goals
                      refine ji_iconst dX8_annotate_72 ?_
                      refine ji_goto (tgt := 77) dX8_annotate_73 rfl ?_
                      refine ji_putE (ci := 8) (k := 0) rfl dX8_annotate_77 lX8_47 (by decide) (rf_60) (by simp [rf_c]) (ji_fitI _) rfl (rf_pth) ?_
                      refine ji_aload_n dX8_annotate_80 rfl trivial ?_
                      refine ji_get (ci := 8) (k := 0) rfl dX8_annotate_81 lX8_47 (by decide) (rf_60) rfl ?_
                      refine ji_if_le (tgt := 89) dX8_annotate_84 rfl (by omega) (fun c84 => ?_) (fun c84 => ?_)
                      · try (exfalso; omega)
                        all_goals
                          exfalso; omega
                      · try (exfalso; omega)
                        all_goals
                          refine ji_iconst dX8_annotate_87 ?_
                          exact ji_ireturn dX8_annotate_88 rfl (rfl) ⟨jr_i (by first | rfl | omega), rfl⟩
              · try (exfalso; omega)
                all_goals
                  refine ji_iconst dX8_annotate_56 ?_
                  refine ji_goto (tgt := 77) dX8_annotate_57 rfl ?_
                  refine ji_putE (ci := 8) (k := 0) rfl dX8_annotate_77 lX8_47 (by decide) (rf_60) (by simp [rf_c]) (ji_fitI _) rfl (rf_pth) ?_
                  refine ji_aload_n dX8_annotate_80 rfl trivial ?_
                  refine ji_get (ci := 8) (k := 0) rfl dX8_annotate_81 lX8_47 (by decide) (rf_60) rfl ?_
                  refine ji_if_le (tgt := 89) dX8_annotate_84 rfl (by omega) (fun c84 => ?_) (fun c84 => ?_)
                  · try (exfalso; omega)
                    all_goals
                      exfalso; omega
                  · try (exfalso; omega)
                    all_goals
                      refine ji_iconst dX8_annotate_87 ?_
                      exact ji_ireturn dX8_annotate_88 rfl (rfl) ⟨jr_i (by first | rfl | omega), rfl⟩
          · try (exfalso; omega)
            all_goals
              refine ji_iconst dX8_annotate_41 ?_
              refine ji_goto (tgt := 77) dX8_annotate_42 rfl ?_
              refine ji_putE (ci := 8) (k := 0) rfl dX8_annotate_77 lX8_47 (by decide) (rf_60) (by simp [rf_c]) (ji_fitI _) rfl (rf_pth) ?_
              refine ji_aload_n dX8_annotate_80 rfl trivial ?_
              refine ji_get (ci := 8) (k := 0) rfl dX8_annotate_81 lX8_47 (by decide) (rf_60) rfl ?_
              refine ji_if_le (tgt := 89) dX8_annotate_84 rfl (by omega) (fun c84 => ?_) (fun c84 => ?_)
              · try (exfalso; omega)
                all_goals
                  exfalso; omega
              · try (exfalso; omega)
                all_goals
                  refine ji_iconst dX8_annotate_87 ?_
                  exact ji_ireturn dX8_annotate_88 rfl (rfl) ⟨jr_i (by first | rfl | omega), rfl⟩

set_option maxHeartbeats 4000000 in
set_option maxRecDepth 100000 in
theorem r_annotate (hrf : rf_ok wi ht z nl nt sy) {q o y c : Int} (hx : (0 ≤ q ∧ q < z 0) ∧ 0 ≤ o ∧ o < z (85 + q).toNat) (hy : o < y ∧ y ≤ z (85 + q).toNat) (hc : 0 ≤ c ∧ c < 8) (hm : z 14 < 12) : JR G (d + 2) mX8_annotate [.ref 60, .int (jI q), .int (jI o), .int (jI y), .int (jI c)] (n, rf_f f th z kp ed nt nl wi ht sy sz bf rs rr rq rp mm ln lo lf lt co ro pg pf hsh) 0 0 (some (.int (jI (va_up (rf_AT z q o y c) 14 (rf_AT z q o y c 14 + 1) 14 - 1)))) (n, rf_f f 0 (va_up (rf_AT z q o y c) 14 (rf_AT z q o y c 14 + 1)) kp ed nt nl wi ht sy sz bf rs rr rq rp mm ln lo lf lt co ro pg pf hsh) := by
  obtain ⟨hz, hn, hk, hrc, ⟨hw9, hh9⟩, ⟨hm9, hj9⟩, hll⟩ := id hrf
  have zb := hz.2.1
  have wip := rf_IP_d z q o
  have zq := hz.2.2.1 (85 + q).toNat (by omega) (by omega)
  have wy := rf_in_d y (o + 1) (z (85 + q).toNat)
  have w_c_0_7 := rf_in_d c 0 7
  refine ji_ent (by decide) rfl (Nat.le_of_ble_eq_true rfl) rfl ?_
  refine ji_aload_n dX8_annotate_0 rfl trivial ?_
  refine ji_iload_n dX8_annotate_1 rfl ?_
  refine ji_iload_n dX8_annotate_2 rfl ?_
  refine ji_cV dX8_annotate_3 (r_isPosition hz (by omega) (by omega)) rfl (rf_60) rfl rfl wX8_isPosition vX8_isPosition lX8_238 rfl (Nat.le_of_ble_eq_true rfl) rfl ?_
  refine ji_if_eq (tgt := 32) dX8_annotate_6 rfl (by omega) (fun c6 => ?_) (fun c6 => ?_)
  · try (exfalso; omega)
    all_goals
      refine ji_iconst dX8_annotate_32 ?_
      refine ji_istore dX8_annotate_33 (by decide) rfl ?_
      refine ji_aload_n dX8_annotate_35 rfl trivial ?_
      refine ji_iload dX8_annotate_36 rfl ?_
      refine ji_if_ne (tgt := 45) dX8_annotate_38 rfl (by omega) (fun c38 => ?_) (fun c38 => ?_)
      · try (exfalso; omega)
        all_goals
          refine ji_iload dX8_annotate_45 rfl ?_
          refine ji_iconst dX8_annotate_47 ?_
          refine ji_bipush dX8_annotate_48 rfl ?_
          refine ji_cS dX8_annotate_50 (r_within (by omega) (by omega) (by omega)) rfl wX8_within sX8_within lX8_50 rfl (Nat.le_of_ble_eq_true rfl) rfl ?_
          refine ji_if_ne (tgt := 60) dX8_annotate_53 rfl (by omega) (fun c53 => ?_) (fun c53 => ?_)
          · try (exfalso; omega)
            all_goals
              refine ji_aload_n dX8_annotate_60 rfl trivial ?_
              refine ji_get (ci := 8) (k := 1) rfl dX8_annotate_61 lX8_7 (by decide) (rf_60) rfl ?_
              refine ji_bipush dX8_annotate_64 rfl ?_
              refine ji_ialoadK (k := 14) dX8_annotate_66 (rf_61) rfl (by decide) ?_
              refine ji_bipush dX8_annotate_67 rfl ?_
              refine ji_icmp_ne (tgt := 76) dX8_annotate_69 rfl (by omega) (by omega) (fun c69 => ?_) (fun c69 => ?_)
              · try (exfalso; omega)
                all_goals
                  refine ji_iconst dX8_annotate_76 ?_
                  refine ji_putE (ci := 8) (k := 0) rfl dX8_annotate_77 lX8_47 (by decide) (rf_60) (by simp [rf_c]) (ji_fitI _) rfl (rf_pth) ?_
                  refine ji_aload_n dX8_annotate_80 rfl trivial ?_
                  refine ji_get (ci := 8) (k := 0) rfl dX8_annotate_81 lX8_47 (by decide) (rf_60) rfl ?_
                  refine ji_if_le (tgt := 89) dX8_annotate_84 rfl (by omega) (fun c84 => ?_) (fun c84 => ?_)
                  · try (exfalso; omega)
                    all_goals
                      refine ji_bipush dX8_annotate_89 rfl ?_
                      refine ji_iconst dX8_annotate_91 ?_
                      refine ji_aload_n dX8_annotate_92 rfl trivial ?_
                      refine ji_get (ci := 8) (k := 1) rfl dX8_annotate_93 lX8_7 (by decide) (rf_60) rfl ?_
                      refine ji_bipush dX8_annotate_96 rfl ?_
                      refine ji_ialoadK (k := 14) dX8_annotate_98 (rf_61) rfl (by decide) ?_
                      refine ji_imul dX8_annotate_99 ?_
                      refine ji_iadd dX8_annotate_100 ?_
                      refine ji_istore dX8_annotate_101 (by decide) rfl ?_
                      refine ji_aload_n dX8_annotate_103 rfl trivial ?_
                      refine ji_get (ci := 8) (k := 1) rfl dX8_annotate_104 lX8_7 (by decide) (rf_60) rfl ?_
                      refine ji_iload dX8_annotate_107 rfl ?_
                      refine ji_iload_n dX8_annotate_109 rfl ?_
                      refine ji_iastoreE dX8_annotate_110 (rf_61) (by omega) (rf_s61) ?_
                      refine ji_aload_n dX8_annotate_111 rfl trivial ?_
                      refine ji_get (ci := 8) (k := 1) rfl dX8_annotate_112 lX8_7 (by decide) (rf_60) rfl ?_
                      refine ji_iload dX8_annotate_115 rfl ?_
                      refine ji_iconst dX8_annotate_117 ?_
                      refine ji_iadd dX8_annotate_118 ?_
                      refine ji_iload_n dX8_annotate_119 rfl ?_
                      refine ji_iastoreE dX8_annotate_120 (rf_61) (by omega) (rf_s61) ?_
                      refine ji_aload_n dX8_annotate_121 rfl trivial ?_
                      refine ji_get (ci := 8) (k := 1) rfl dX8_annotate_122 lX8_7 (by decide) (rf_60) rfl ?_
                      refine ji_iload dX8_annotate_125 rfl ?_
                      refine ji_iconst dX8_annotate_127 ?_
                      refine ji_iadd dX8_annotate_128 ?_
                      refine ji_iload_n dX8_annotate_129 rfl ?_
                      refine ji_iastoreE dX8_annotate_130 (rf_61) (by omega) (rf_s61) ?_
                      refine ji_aload_n dX8_annotate_131 rfl trivial ?_
                      refine ji_get (ci := 8) (k := 1) rfl dX8_annotate_132 lX8_7 (by decide) (rf_60) rfl ?_
                      refine ji_iload dX8_annotate_135 rfl ?_
                      refine ji_iconst dX8_annotate_137 ?_
                      refine ji_iadd dX8_annotate_138 ?_
                      refine ji_iload dX8_annotate_139 rfl ?_
                      refine ji_iastoreE dX8_annotate_141 (rf_61) (by omega) (rf_s61) ?_
                      refine ji_aload_n dX8_annotate_142 rfl trivial ?_
                      refine ji_get (ci := 8) (k := 1) rfl dX8_annotate_143 lX8_7 (by decide) (rf_60) rfl ?_
                      refine ji_iload dX8_annotate_146 rfl ?_
                      refine ji_iconst dX8_annotate_148 ?_
                      refine ji_iadd dX8_annotate_149 ?_
                      refine ji_iconst dX8_annotate_150 ?_
                      refine ji_iastoreE dX8_annotate_151 (rf_61) (by omega) (rf_s61) ?_
                      refine ji_aload_n dX8_annotate_152 rfl trivial ?_
                      refine ji_get (ci := 8) (k := 1) rfl dX8_annotate_153 lX8_7 (by decide) (rf_60) rfl ?_
                      refine ji_bipush dX8_annotate_156 rfl ?_
                      refine ji_dup2 dX8_annotate_158 rfl rfl ?_
                      refine ji_ialoadK (k := 14) dX8_annotate_159 (rf_61) rfl (by decide) ?_
                      refine ji_iconst dX8_annotate_160 ?_
                      refine ji_iadd dX8_annotate_161 ?_
                      refine ji_iastoreK (k := 14) dX8_annotate_162 (rf_61) rfl (by decide) (rf_s61) ?_
                      refine ji_aload_n dX8_annotate_163 rfl trivial ?_
                      refine ji_get (ci := 8) (k := 1) rfl dX8_annotate_164 lX8_7 (by decide) (rf_60) rfl ?_
                      refine ji_bipush dX8_annotate_167 rfl ?_
                      refine ji_ialoadK (k := 14) dX8_annotate_169 (rf_61) rfl (by decide) ?_
                      refine ji_iconst dX8_annotate_170 ?_
                      refine ji_isub dX8_annotate_171 ?_
                      exact ji_ireturn dX8_annotate_172 rfl (rfl) ⟨rfl, rfl⟩
                  · try (exfalso; omega)
                    all_goals
                      refine ji_iconst dX8_annotate_87 ?_
                      exact ji_ireturn dX8_annotate_88 rfl (rfl) ⟨rfl, rfl⟩
              · try (exfalso; omega)
                all_goals
                  refine ji_iconst dX8_annotate_72 ?_
                  refine ji_goto (tgt := 77) dX8_annotate_73 rfl ?_
                  refine ji_putE (ci := 8) (k := 0) rfl dX8_annotate_77 lX8_47 (by decide) (rf_60) (by simp [rf_c]) (ji_fitI _) rfl (rf_pth) ?_
                  refine ji_aload_n dX8_annotate_80 rfl trivial ?_
                  refine ji_get (ci := 8) (k := 0) rfl dX8_annotate_81 lX8_47 (by decide) (rf_60) rfl ?_
                  refine ji_if_le (tgt := 89) dX8_annotate_84 rfl (by omega) (fun c84 => ?_) (fun c84 => ?_)
                  · try (exfalso; omega)
                    all_goals
                      refine ji_bipush dX8_annotate_89 rfl ?_
                      refine ji_iconst dX8_annotate_91 ?_
                      refine ji_aload_n dX8_annotate_92 rfl trivial ?_
                      refine ji_get (ci := 8) (k := 1) rfl dX8_annotate_93 lX8_7 (by decide) (rf_60) rfl ?_
                      refine ji_bipush dX8_annotate_96 rfl ?_
                      refine ji_ialoadK (k := 14) dX8_annotate_98 (rf_61) rfl (by decide) ?_
                      refine ji_imul dX8_annotate_99 ?_
                      refine ji_iadd dX8_annotate_100 ?_
                      refine ji_istore dX8_annotate_101 (by decide) rfl ?_
                      refine ji_aload_n dX8_annotate_103 rfl trivial ?_
                      refine ji_get (ci := 8) (k := 1) rfl dX8_annotate_104 lX8_7 (by decide) (rf_60) rfl ?_
                      refine ji_iload dX8_annotate_107 rfl ?_
                      refine ji_iload_n dX8_annotate_109 rfl ?_
                      refine ji_iastoreE dX8_annotate_110 (rf_61) (by omega) (rf_s61) ?_
                      refine ji_aload_n dX8_annotate_111 rfl trivial ?_
                      refine ji_get (ci := 8) (k := 1) rfl dX8_annotate_112 lX8_7 (by decide) (rf_60) rfl ?_
                      refine ji_iload dX8_annotate_115 rfl ?_
                      refine ji_iconst dX8_annotate_117 ?_
                      refine ji_iadd dX8_annotate_118 ?_
                      refine ji_iload_n dX8_annotate_119 rfl ?_
                      refine ji_iastoreE dX8_annotate_120 (rf_61) (by omega) (rf_s61) ?_
                      refine ji_aload_n dX8_annotate_121 rfl trivial ?_
                      refine ji_get (ci := 8) (k := 1) rfl dX8_annotate_122 lX8_7 (by decide) (rf_60) rfl ?_
                      refine ji_iload dX8_annotate_125 rfl ?_
                      refine ji_iconst dX8_annotate_127 ?_
                      refine ji_iadd dX8_annotate_128 ?_
                      refine ji_iload_n dX8_annotate_129 rfl ?_
                      refine ji_iastoreE dX8_annotate_130 (rf_61) (by omega) (rf_s61) ?_
                      refine ji_aload_n dX8_annotate_131 rfl trivial ?_
                      refine ji_get (ci := 8) (k := 1) rfl dX8_annotate_132 lX8_7 (by decide) (rf_60) rfl ?_
                      refine ji_iload dX8_annotate_135 rfl ?_
                      refine ji_iconst dX8_annotate_137 ?_
                      refine ji_iadd dX8_annotate_138 ?_
                      refine ji_iload dX8_annotate_139 rfl ?_
                      refine ji_iastoreE dX8_annotate_141 (rf_61) (by omega) (rf_s61) ?_
                      refine ji_aload_n dX8_annotate_142 rfl trivial ?_
                      refine ji_get (ci := 8) (k := 1) rfl dX8_annotate_143 lX8_7 (by decide) (rf_60) rfl ?_
                      refine ji_iload dX8_annotate_146 rfl ?_
                      refine ji_iconst dX8_annotate_148 ?_
                      refine ji_iadd dX8_annotate_149 ?_
                      refine ji_iconst dX8_annotate_150 ?_
                      refine ji_iastoreE dX8_annotate_151 (rf_61) (by omega) (rf_s61) ?_
                      refine ji_aload_n dX8_annotate_152 rfl trivial ?_
                      refine ji_get (ci := 8) (k := 1) rfl dX8_annotate_153 lX8_7 (by decide) (rf_60) rfl ?_
                      refine ji_bipush dX8_annotate_156 rfl ?_
                      refine ji_dup2 dX8_annotate_158 rfl rfl ?_
                      refine ji_ialoadK (k := 14) dX8_annotate_159 (rf_61) rfl (by decide) ?_
                      refine ji_iconst dX8_annotate_160 ?_
                      refine ji_iadd dX8_annotate_161 ?_
                      refine ji_iastoreK (k := 14) dX8_annotate_162 (rf_61) rfl (by decide) (rf_s61) ?_
                      refine ji_aload_n dX8_annotate_163 rfl trivial ?_
                      refine ji_get (ci := 8) (k := 1) rfl dX8_annotate_164 lX8_7 (by decide) (rf_60) rfl ?_
                      refine ji_bipush dX8_annotate_167 rfl ?_
                      refine ji_ialoadK (k := 14) dX8_annotate_169 (rf_61) rfl (by decide) ?_
                      refine ji_iconst dX8_annotate_170 ?_
                      refine ji_isub dX8_annotate_171 ?_
                      exact ji_ireturn dX8_annotate_172 rfl (rfl) ⟨rfl, rfl⟩
                  · try (exfalso; omega)
                    all_goals
                      refine ji_iconst dX8_annotate_87 ?_
                      exact ji_ireturn dX8_annotate_88 rfl (rfl) ⟨rfl, rfl⟩
          · try (exfalso; omega)
            all_goals
              refine ji_iconst dX8_annotate_56 ?_
              refine ji_goto (tgt := 77) dX8_annotate_57 rfl ?_
              refine ji_putE (ci := 8) (k := 0) rfl dX8_annotate_77 lX8_47 (by decide) (rf_60) (by simp [rf_c]) (ji_fitI _) rfl (rf_pth) ?_
              refine ji_aload_n dX8_annotate_80 rfl trivial ?_
              refine ji_get (ci := 8) (k := 0) rfl dX8_annotate_81 lX8_47 (by decide) (rf_60) rfl ?_
              refine ji_if_le (tgt := 89) dX8_annotate_84 rfl (by omega) (fun c84 => ?_) (fun c84 => ?_)
              · try (exfalso; omega)
                all_goals
                  refine ji_bipush dX8_annotate_89 rfl ?_
                  refine ji_iconst dX8_annotate_91 ?_
                  refine ji_aload_n dX8_annotate_92 rfl trivial ?_
                  refine ji_get (ci := 8) (k := 1) rfl dX8_annotate_93 lX8_7 (by decide) (rf_60) rfl ?_
                  refine ji_bipush dX8_annotate_96 rfl ?_
                  refine ji_ialoadK (k := 14) dX8_annotate_98 (rf_61) rfl (by decide) ?_
                  refine ji_imul dX8_annotate_99 ?_
                  refine ji_iadd dX8_annotate_100 ?_
                  refine ji_istore dX8_annotate_101 (by decide) rfl ?_
                  refine ji_aload_n dX8_annotate_103 rfl trivial ?_
                  refine ji_get (ci := 8) (k := 1) rfl dX8_annotate_104 lX8_7 (by decide) (rf_60) rfl ?_
                  refine ji_iload dX8_annotate_107 rfl ?_
                  refine ji_iload_n dX8_annotate_109 rfl ?_
                  refine ji_iastoreE dX8_annotate_110 (rf_61) (by omega) (rf_s61) ?_
                  refine ji_aload_n dX8_annotate_111 rfl trivial ?_
                  refine ji_get (ci := 8) (k := 1) rfl dX8_annotate_112 lX8_7 (by decide) (rf_60) rfl ?_
                  refine ji_iload dX8_annotate_115 rfl ?_
                  refine ji_iconst dX8_annotate_117 ?_
                  refine ji_iadd dX8_annotate_118 ?_
                  refine ji_iload_n dX8_annotate_119 rfl ?_
                  refine ji_iastoreE dX8_annotate_120 (rf_61) (by omega) (rf_s61) ?_
                  refine ji_aload_n dX8_annotate_121 rfl trivial ?_
                  refine ji_get (ci := 8) (k := 1) rfl dX8_annotate_122 lX8_7 (by decide) (rf_60) rfl ?_
                  refine ji_iload dX8_annotate_125 rfl ?_
                  refine ji_iconst dX8_annotate_127 ?_
                  refine ji_iadd dX8_annotate_128 ?_
                  refine ji_iload_n dX8_annotate_129 rfl ?_
                  refine ji_iastoreE dX8_annotate_130 (rf_61) (by omega) (rf_s61) ?_
                  refine ji_aload_n dX8_annotate_131 rfl trivial ?_
                  refine ji_get (ci := 8) (k := 1) rfl dX8_annotate_132 lX8_7 (by decide) (rf_60) rfl ?_
                  refine ji_iload dX8_annotate_135 rfl ?_
                  refine ji_iconst dX8_annotate_137 ?_
                  refine ji_iadd dX8_annotate_138 ?_
                  refine ji_iload dX8_annotate_139 rfl ?_
                  refine ji_iastoreE dX8_annotate_141 (rf_61) (by omega) (rf_s61) ?_
                  refine ji_aload_n dX8_annotate_142 rfl trivial ?_
                  refine ji_get (ci := 8) (k := 1) rfl dX8_annotate_143 lX8_7 (by decide) (rf_60) rfl ?_
                  refine ji_iload dX8_annotate_146 rfl ?_
                  refine ji_iconst dX8_annotate_148 ?_
                  refine ji_iadd dX8_annotate_149 ?_
                  refine ji_iconst dX8_annotate_150 ?_
                  refine ji_iastoreE dX8_annotate_151 (rf_61) (by omega) (rf_s61) ?_
                  refine ji_aload_n dX8_annotate_152 rfl trivial ?_
                  refine ji_get (ci := 8) (k := 1) rfl dX8_annotate_153 lX8_7 (by decide) (rf_60) rfl ?_
                  refine ji_bipush dX8_annotate_156 rfl ?_
                  refine ji_dup2 dX8_annotate_158 rfl rfl ?_
                  refine ji_ialoadK (k := 14) dX8_annotate_159 (rf_61) rfl (by decide) ?_
                  refine ji_iconst dX8_annotate_160 ?_
                  refine ji_iadd dX8_annotate_161 ?_
                  refine ji_iastoreK (k := 14) dX8_annotate_162 (rf_61) rfl (by decide) (rf_s61) ?_
                  refine ji_aload_n dX8_annotate_163 rfl trivial ?_
                  refine ji_get (ci := 8) (k := 1) rfl dX8_annotate_164 lX8_7 (by decide) (rf_60) rfl ?_
                  refine ji_bipush dX8_annotate_167 rfl ?_
                  refine ji_ialoadK (k := 14) dX8_annotate_169 (rf_61) rfl (by decide) ?_
                  refine ji_iconst dX8_annotate_170 ?_
                  refine ji_isub dX8_annotate_171 ?_
                  exact ji_ireturn dX8_annotate_172 rfl (rfl) ⟨rfl, rfl⟩
              · try (exfalso; omega)
                all_goals
                  refine ji_iconst dX8_annotate_87 ?_
                  exact ji_ireturn dX8_annotate_88 rfl (rfl) ⟨rfl, rfl⟩
      · try (exfalso; omega)
        all_goals
          refine ji_iconst dX8_annotate_41 ?_
          refine ji_goto (tgt := 77) dX8_annotate_42 rfl ?_
          refine ji_putE (ci := 8) (k := 0) rfl dX8_annotate_77 lX8_47 (by decide) (rf_60) (by simp [rf_c]) (ji_fitI _) rfl (rf_pth) ?_
          refine ji_aload_n dX8_annotate_80 rfl trivial ?_
          refine ji_get (ci := 8) (k := 0) rfl dX8_annotate_81 lX8_47 (by decide) (rf_60) rfl ?_
          refine ji_if_le (tgt := 89) dX8_annotate_84 rfl (by omega) (fun c84 => ?_) (fun c84 => ?_)
          · try (exfalso; omega)
            all_goals
              refine ji_bipush dX8_annotate_89 rfl ?_
              refine ji_iconst dX8_annotate_91 ?_
              refine ji_aload_n dX8_annotate_92 rfl trivial ?_
              refine ji_get (ci := 8) (k := 1) rfl dX8_annotate_93 lX8_7 (by decide) (rf_60) rfl ?_
              refine ji_bipush dX8_annotate_96 rfl ?_
              refine ji_ialoadK (k := 14) dX8_annotate_98 (rf_61) rfl (by decide) ?_
              refine ji_imul dX8_annotate_99 ?_
              refine ji_iadd dX8_annotate_100 ?_
              refine ji_istore dX8_annotate_101 (by decide) rfl ?_
              refine ji_aload_n dX8_annotate_103 rfl trivial ?_
              refine ji_get (ci := 8) (k := 1) rfl dX8_annotate_104 lX8_7 (by decide) (rf_60) rfl ?_
              refine ji_iload dX8_annotate_107 rfl ?_
              refine ji_iload_n dX8_annotate_109 rfl ?_
              refine ji_iastoreE dX8_annotate_110 (rf_61) (by omega) (rf_s61) ?_
              refine ji_aload_n dX8_annotate_111 rfl trivial ?_
              refine ji_get (ci := 8) (k := 1) rfl dX8_annotate_112 lX8_7 (by decide) (rf_60) rfl ?_
              refine ji_iload dX8_annotate_115 rfl ?_
              refine ji_iconst dX8_annotate_117 ?_
              refine ji_iadd dX8_annotate_118 ?_
              refine ji_iload_n dX8_annotate_119 rfl ?_
              refine ji_iastoreE dX8_annotate_120 (rf_61) (by omega) (rf_s61) ?_
              refine ji_aload_n dX8_annotate_121 rfl trivial ?_
              refine ji_get (ci := 8) (k := 1) rfl dX8_annotate_122 lX8_7 (by decide) (rf_60) rfl ?_
              refine ji_iload dX8_annotate_125 rfl ?_
              refine ji_iconst dX8_annotate_127 ?_
              refine ji_iadd dX8_annotate_128 ?_
              refine ji_iload_n dX8_annotate_129 rfl ?_
              refine ji_iastoreE dX8_annotate_130 (rf_61) (by omega) (rf_s61) ?_
              refine ji_aload_n dX8_annotate_131 rfl trivial ?_
              refine ji_get (ci := 8) (k := 1) rfl dX8_annotate_132 lX8_7 (by decide) (rf_60) rfl ?_
              refine ji_iload dX8_annotate_135 rfl ?_
              refine ji_iconst dX8_annotate_137 ?_
              refine ji_iadd dX8_annotate_138 ?_
              refine ji_iload dX8_annotate_139 rfl ?_
              refine ji_iastoreE dX8_annotate_141 (rf_61) (by omega) (rf_s61) ?_
              refine ji_aload_n dX8_annotate_142 rfl trivial ?_
              refine ji_get (ci := 8) (k := 1) rfl dX8_annotate_143 lX8_7 (by decide) (rf_60) rfl ?_
              refine ji_iload dX8_annotate_146 rfl ?_
              refine ji_iconst dX8_annotate_148 ?_
              refine ji_iadd dX8_annotate_149 ?_
              refine ji_iconst dX8_annotate_150 ?_
              refine ji_iastoreE dX8_annotate_151 (rf_61) (by omega) (rf_s61) ?_
              refine ji_aload_n dX8_annotate_152 rfl trivial ?_
              refine ji_get (ci := 8) (k := 1) rfl dX8_annotate_153 lX8_7 (by decide) (rf_60) rfl ?_
              refine ji_bipush dX8_annotate_156 rfl ?_
              refine ji_dup2 dX8_annotate_158 rfl rfl ?_
              refine ji_ialoadK (k := 14) dX8_annotate_159 (rf_61) rfl (by decide) ?_
              refine ji_iconst dX8_annotate_160 ?_
              refine ji_iadd dX8_annotate_161 ?_
              refine ji_iastoreK (k := 14) dX8_annotate_162 (rf_61) rfl (by decide) (rf_s61) ?_
              refine ji_aload_n dX8_annotate_163 rfl trivial ?_
              refine ji_get (ci := 8) (k := 1) rfl dX8_annotate_164 lX8_7 (by decide) (rf_60) rfl ?_
              refine ji_bipush dX8_annotate_167 rfl ?_
              refine ji_ialoadK (k := 14) dX8_annotate_169 (rf_61) rfl (by decide) ?_
              refine ji_iconst dX8_annotate_170 ?_
              refine ji_isub dX8_annotate_171 ?_
              exact ji_ireturn dX8_annotate_172 rfl (rfl) ⟨rfl, rfl⟩
          · try (exfalso; omega)
            all_goals
              refine ji_iconst dX8_annotate_87 ?_
              exact ji_ireturn dX8_annotate_88 rfl (rfl) ⟨rfl, rfl⟩
  · try (exfalso; omega)
    all_goals
      refine ji_iload_n dX8_annotate_9 rfl ?_
      refine ji_iload_n dX8_annotate_10 rfl ?_
      refine ji_iconst dX8_annotate_11 ?_
      refine ji_iadd dX8_annotate_12 ?_
      refine ji_aload_n dX8_annotate_13 rfl trivial ?_
      refine ji_get (ci := 8) (k := 1) rfl dX8_annotate_14 lX8_7 (by decide) (rf_60) rfl ?_
      refine ji_bipush dX8_annotate_17 rfl ?_
      refine ji_iload_n dX8_annotate_19 rfl ?_
      refine ji_iadd dX8_annotate_20 ?_
      refine ji_iaload dX8_annotate_21 (rf_61) (by omega) ?_
      refine ji_cS dX8_annotate_22 (r_within (by omega) (by omega) (by omega)) rfl wX8_within sX8_within lX8_50 rfl (Nat.le_of_ble_eq_true rfl) rfl ?_
      refine ji_if_eq (tgt := 32) dX8_annotate_25 rfl (by omega) (fun c25 => ?_) (fun c25 => ?_)
      · try (exfalso; omega)
        all_goals
          refine ji_iconst dX8_annotate_32 ?_
          refine ji_istore dX8_annotate_33 (by decide) rfl ?_
          refine ji_aload_n dX8_annotate_35 rfl trivial ?_
          refine ji_iload dX8_annotate_36 rfl ?_
          refine ji_if_ne (tgt := 45) dX8_annotate_38 rfl (by omega) (fun c38 => ?_) (fun c38 => ?_)
          · try (exfalso; omega)
            all_goals
              refine ji_iload dX8_annotate_45 rfl ?_
              refine ji_iconst dX8_annotate_47 ?_
              refine ji_bipush dX8_annotate_48 rfl ?_
              refine ji_cS dX8_annotate_50 (r_within (by omega) (by omega) (by omega)) rfl wX8_within sX8_within lX8_50 rfl (Nat.le_of_ble_eq_true rfl) rfl ?_
              refine ji_if_ne (tgt := 60) dX8_annotate_53 rfl (by omega) (fun c53 => ?_) (fun c53 => ?_)
              · try (exfalso; omega)
                all_goals
                  refine ji_aload_n dX8_annotate_60 rfl trivial ?_
                  refine ji_get (ci := 8) (k := 1) rfl dX8_annotate_61 lX8_7 (by decide) (rf_60) rfl ?_
                  refine ji_bipush dX8_annotate_64 rfl ?_
                  refine ji_ialoadK (k := 14) dX8_annotate_66 (rf_61) rfl (by decide) ?_
                  refine ji_bipush dX8_annotate_67 rfl ?_
                  refine ji_icmp_ne (tgt := 76) dX8_annotate_69 rfl (by omega) (by omega) (fun c69 => ?_) (fun c69 => ?_)
                  · try (exfalso; omega)
                    all_goals
                      refine ji_iconst dX8_annotate_76 ?_
                      refine ji_putE (ci := 8) (k := 0) rfl dX8_annotate_77 lX8_47 (by decide) (rf_60) (by simp [rf_c]) (ji_fitI _) rfl (rf_pth) ?_
                      refine ji_aload_n dX8_annotate_80 rfl trivial ?_
                      refine ji_get (ci := 8) (k := 0) rfl dX8_annotate_81 lX8_47 (by decide) (rf_60) rfl ?_
                      refine ji_if_le (tgt := 89) dX8_annotate_84 rfl (by omega) (fun c84 => ?_) (fun c84 => ?_)
                      · try (exfalso; omega)
                        all_goals
                          refine ji_bipush dX8_annotate_89 rfl ?_
                          refine ji_iconst dX8_annotate_91 ?_
                          refine ji_aload_n dX8_annotate_92 rfl trivial ?_
                          refine ji_get (ci := 8) (k := 1) rfl dX8_annotate_93 lX8_7 (by decide) (rf_60) rfl ?_
                          refine ji_bipush dX8_annotate_96 rfl ?_
                          refine ji_ialoadK (k := 14) dX8_annotate_98 (rf_61) rfl (by decide) ?_
                          refine ji_imul dX8_annotate_99 ?_
                          refine ji_iadd dX8_annotate_100 ?_
                          refine ji_istore dX8_annotate_101 (by decide) rfl ?_
                          refine ji_aload_n dX8_annotate_103 rfl trivial ?_
                          refine ji_get (ci := 8) (k := 1) rfl dX8_annotate_104 lX8_7 (by decide) (rf_60) rfl ?_
                          refine ji_iload dX8_annotate_107 rfl ?_
                          refine ji_iload_n dX8_annotate_109 rfl ?_
                          refine ji_iastoreE dX8_annotate_110 (rf_61) (by omega) (rf_s61) ?_
                          refine ji_aload_n dX8_annotate_111 rfl trivial ?_
                          refine ji_get (ci := 8) (k := 1) rfl dX8_annotate_112 lX8_7 (by decide) (rf_60) rfl ?_
                          refine ji_iload dX8_annotate_115 rfl ?_
                          refine ji_iconst dX8_annotate_117 ?_
                          refine ji_iadd dX8_annotate_118 ?_
                          refine ji_iload_n dX8_annotate_119 rfl ?_
                          refine ji_iastoreE dX8_annotate_120 (rf_61) (by omega) (rf_s61) ?_
                          refine ji_aload_n dX8_annotate_121 rfl trivial ?_
                          refine ji_get (ci := 8) (k := 1) rfl dX8_annotate_122 lX8_7 (by decide) (rf_60) rfl ?_
                          refine ji_iload dX8_annotate_125 rfl ?_
                          refine ji_iconst dX8_annotate_127 ?_
                          refine ji_iadd dX8_annotate_128 ?_
                          refine ji_iload_n dX8_annotate_129 rfl ?_
                          refine ji_iastoreE dX8_annotate_130 (rf_61) (by omega) (rf_s61) ?_
                          refine ji_aload_n dX8_annotate_131 rfl trivial ?_
                          refine ji_get (ci := 8) (k := 1) rfl dX8_annotate_132 lX8_7 (by decide) (rf_60) rfl ?_
                          refine ji_iload dX8_annotate_135 rfl ?_
                          refine ji_iconst dX8_annotate_137 ?_
                          refine ji_iadd dX8_annotate_138 ?_
                          refine ji_iload dX8_annotate_139 rfl ?_
                          refine ji_iastoreE dX8_annotate_141 (rf_61) (by omega) (rf_s61) ?_
                          refine ji_aload_n dX8_annotate_142 rfl trivial ?_
                          refine ji_get (ci := 8) (k := 1) rfl dX8_annotate_143 lX8_7 (by decide) (rf_60) rfl ?_
                          refine ji_iload dX8_annotate_146 rfl ?_
                          refine ji_iconst dX8_annotate_148 ?_
                          refine ji_iadd dX8_annotate_149 ?_
                          refine ji_iconst dX8_annotate_150 ?_
                          refine ji_iastoreE dX8_annotate_151 (rf_61) (by omega) (rf_s61) ?_
                          refine ji_aload_n dX8_annotate_152 rfl trivial ?_
                          refine ji_get (ci := 8) (k := 1) rfl dX8_annotate_153 lX8_7 (by decide) (rf_60) rfl ?_
                          refine ji_bipush dX8_annotate_156 rfl ?_
                          refine ji_dup2 dX8_annotate_158 rfl rfl ?_
                          refine ji_ialoadK (k := 14) dX8_annotate_159 (rf_61) rfl (by decide) ?_
                          refine ji_iconst dX8_annotate_160 ?_
                          refine ji_iadd dX8_annotate_161 ?_
                          refine ji_iastoreK (k := 14) dX8_annotate_162 (rf_61) rfl (by decide) (rf_s61) ?_
                          refine ji_aload_n dX8_annotate_163 rfl trivial ?_
                          refine ji_get (ci := 8) (k := 1) rfl dX8_annotate_164 lX8_7 (by decide) (rf_60) rfl ?_
                          refine ji_bipush dX8_annotate_167 rfl ?_
                          refine ji_ialoadK (k := 14) dX8_annotate_169 (rf_61) rfl (by decide) ?_
                          refine ji_iconst dX8_annotate_170 ?_
                          refine ji_isub dX8_annotate_171 ?_
                          exact ji_ireturn dX8_annotate_172 rfl (rfl) ⟨rfl, rfl⟩
                      · try (exfalso; omega)
                        all_goals
                          refine ji_iconst dX8_annotate_87 ?_
                          exact ji_ireturn dX8_annotate_88 rfl (rfl) ⟨rfl, rfl⟩
                  · try (exfalso; omega)
                    all_goals
                      refine ji_iconst dX8_annotate_72 ?_
                      refine ji_goto (tgt := 77) dX8_annotate_73 rfl ?_
                      refine ji_putE (ci := 8) (k := 0) rfl dX8_annotate_77 lX8_47 (by decide) (rf_60) (by simp [rf_c]) (ji_fitI _) rfl (rf_pth) ?_
                      refine ji_aload_n dX8_annotate_80 rfl trivial ?_
                      refine ji_get (ci := 8) (k := 0) rfl dX8_annotate_81 lX8_47 (by decide) (rf_60) rfl ?_
                      refine ji_if_le (tgt := 89) dX8_annotate_84 rfl (by omega) (fun c84 => ?_) (fun c84 => ?_)
                      · try (exfalso; omega)
                        all_goals
                          refine ji_bipush dX8_annotate_89 rfl ?_
                          refine ji_iconst dX8_annotate_91 ?_
                          refine ji_aload_n dX8_annotate_92 rfl trivial ?_
                          refine ji_get (ci := 8) (k := 1) rfl dX8_annotate_93 lX8_7 (by decide) (rf_60) rfl ?_
                          refine ji_bipush dX8_annotate_96 rfl ?_
                          refine ji_ialoadK (k := 14) dX8_annotate_98 (rf_61) rfl (by decide) ?_
                          refine ji_imul dX8_annotate_99 ?_
                          refine ji_iadd dX8_annotate_100 ?_
                          refine ji_istore dX8_annotate_101 (by decide) rfl ?_
                          refine ji_aload_n dX8_annotate_103 rfl trivial ?_
                          refine ji_get (ci := 8) (k := 1) rfl dX8_annotate_104 lX8_7 (by decide) (rf_60) rfl ?_
                          refine ji_iload dX8_annotate_107 rfl ?_
                          refine ji_iload_n dX8_annotate_109 rfl ?_
                          refine ji_iastoreE dX8_annotate_110 (rf_61) (by omega) (rf_s61) ?_
                          refine ji_aload_n dX8_annotate_111 rfl trivial ?_
                          refine ji_get (ci := 8) (k := 1) rfl dX8_annotate_112 lX8_7 (by decide) (rf_60) rfl ?_
                          refine ji_iload dX8_annotate_115 rfl ?_
                          refine ji_iconst dX8_annotate_117 ?_
                          refine ji_iadd dX8_annotate_118 ?_
                          refine ji_iload_n dX8_annotate_119 rfl ?_
                          refine ji_iastoreE dX8_annotate_120 (rf_61) (by omega) (rf_s61) ?_
                          refine ji_aload_n dX8_annotate_121 rfl trivial ?_
                          refine ji_get (ci := 8) (k := 1) rfl dX8_annotate_122 lX8_7 (by decide) (rf_60) rfl ?_
                          refine ji_iload dX8_annotate_125 rfl ?_
                          refine ji_iconst dX8_annotate_127 ?_
                          refine ji_iadd dX8_annotate_128 ?_
                          refine ji_iload_n dX8_annotate_129 rfl ?_
                          refine ji_iastoreE dX8_annotate_130 (rf_61) (by omega) (rf_s61) ?_
                          refine ji_aload_n dX8_annotate_131 rfl trivial ?_
                          refine ji_get (ci := 8) (k := 1) rfl dX8_annotate_132 lX8_7 (by decide) (rf_60) rfl ?_
                          refine ji_iload dX8_annotate_135 rfl ?_
                          refine ji_iconst dX8_annotate_137 ?_
                          refine ji_iadd dX8_annotate_138 ?_
                          refine ji_iload dX8_annotate_139 rfl ?_
                          refine ji_iastoreE dX8_annotate_141 (rf_61) (by omega) (rf_s61) ?_
                          refine ji_aload_n dX8_annotate_142 rfl trivial ?_
                          refine ji_get (ci := 8) (k := 1) rfl dX8_annotate_143 lX8_7 (by decide) (rf_60) rfl ?_
                          refine ji_iload dX8_annotate_146 rfl ?_
                          refine ji_iconst dX8_annotate_148 ?_
                          refine ji_iadd dX8_annotate_149 ?_
                          refine ji_iconst dX8_annotate_150 ?_
                          refine ji_iastoreE dX8_annotate_151 (rf_61) (by omega) (rf_s61) ?_
                          refine ji_aload_n dX8_annotate_152 rfl trivial ?_
                          refine ji_get (ci := 8) (k := 1) rfl dX8_annotate_153 lX8_7 (by decide) (rf_60) rfl ?_
                          refine ji_bipush dX8_annotate_156 rfl ?_
                          refine ji_dup2 dX8_annotate_158 rfl rfl ?_
                          refine ji_ialoadK (k := 14) dX8_annotate_159 (rf_61) rfl (by decide) ?_
                          refine ji_iconst dX8_annotate_160 ?_
                          refine ji_iadd dX8_annotate_161 ?_
                          refine ji_iastoreK (k := 14) dX8_annotate_162 (rf_61) rfl (by decide) (rf_s61) ?_
                          refine ji_aload_n dX8_annotate_163 rfl trivial ?_
                          refine ji_get (ci := 8) (k := 1) rfl dX8_annotate_164 lX8_7 (by decide) (rf_60) rfl ?_
                          refine ji_bipush dX8_annotate_167 rfl ?_
                          refine ji_ialoadK (k := 14) dX8_annotate_169 (rf_61) rfl (by decide) ?_
                          refine ji_iconst dX8_annotate_170 ?_
                          refine ji_isub dX8_annotate_171 ?_
                          exact ji_ireturn dX8_annotate_172 rfl (rfl) ⟨rfl, rfl⟩
                      · try (exfalso; omega)
                        all_goals
                          refine ji_iconst dX8_annotate_87 ?_
                          exact ji_ireturn dX8_annotate_88 rfl (rfl) ⟨rfl, rfl⟩
              · try (exfalso; omega)
                all_goals
                  refine ji_iconst dX8_annotate_56 ?_
                  refine ji_goto (tgt := 77) dX8_annotate_57 rfl ?_
                  refine ji_putE (ci := 8) (k := 0) rfl dX8_annotate_77 lX8_47 (by decide) (rf_60) (by simp [rf_c]) (ji_fitI _) rfl (rf_pth) ?_
                  refine ji_aload_n dX8_annotate_80 rfl trivial ?_
                  refine ji_get (ci := 8) (k := 0) rfl dX8_annotate_81 lX8_47 (by decide) (rf_60) rfl ?_
                  refine ji_if_le (tgt := 89) dX8_annotate_84 rfl (by omega) (fun c84 => ?_) (fun c84 => ?_)
                  · try (exfalso; omega)
                    all_goals
                      refine ji_bipush dX8_annotate_89 rfl ?_
                      refine ji_iconst dX8_annotate_91 ?_
                      refine ji_aload_n dX8_annotate_92 rfl trivial ?_
                      refine ji_get (ci := 8) (k := 1) rfl dX8_annotate_93 lX8_7 (by decide) (rf_60) rfl ?_
                      refine ji_bipush dX8_annotate_96 rfl ?_
                      refine ji_ialoadK (k := 14) dX8_annotate_98 (rf_61) rfl (by decide) ?_
                      refine ji_imul dX8_annotate_99 ?_
                      refine ji_iadd dX8_annotate_100 ?_
                      refine ji_istore dX8_annotate_101 (by decide) rfl ?_
                      refine ji_aload_n dX8_annotate_103 rfl trivial ?_
                      refine ji_get (ci := 8) (k := 1) rfl dX8_annotate_104 lX8_7 (by decide) (rf_60) rfl ?_
                      refine ji_iload dX8_annotate_107 rfl ?_
                      refine ji_iload_n dX8_annotate_109 rfl ?_
                      refine ji_iastoreE dX8_annotate_110 (rf_61) (by omega) (rf_s61) ?_
                      refine ji_aload_n dX8_annotate_111 rfl trivial ?_
                      refine ji_get (ci := 8) (k := 1) rfl dX8_annotate_112 lX8_7 (by decide) (rf_60) rfl ?_
                      refine ji_iload dX8_annotate_115 rfl ?_
                      refine ji_iconst dX8_annotate_117 ?_
                      refine ji_iadd dX8_annotate_118 ?_
                      refine ji_iload_n dX8_annotate_119 rfl ?_
                      refine ji_iastoreE dX8_annotate_120 (rf_61) (by omega) (rf_s61) ?_
                      refine ji_aload_n dX8_annotate_121 rfl trivial ?_
                      refine ji_get (ci := 8) (k := 1) rfl dX8_annotate_122 lX8_7 (by decide) (rf_60) rfl ?_
                      refine ji_iload dX8_annotate_125 rfl ?_
                      refine ji_iconst dX8_annotate_127 ?_
                      refine ji_iadd dX8_annotate_128 ?_
                      refine ji_iload_n dX8_annotate_129 rfl ?_
                      refine ji_iastoreE dX8_annotate_130 (rf_61) (by omega) (rf_s61) ?_
                      refine ji_aload_n dX8_annotate_131 rfl trivial ?_
                      refine ji_get (ci := 8) (k := 1) rfl dX8_annotate_132 lX8_7 (by decide) (rf_60) rfl ?_
                      refine ji_iload dX8_annotate_135 rfl ?_
                      refine ji_iconst dX8_annotate_137 ?_
                      refine ji_iadd dX8_annotate_138 ?_
                      refine ji_iload dX8_annotate_139 rfl ?_
                      refine ji_iastoreE dX8_annotate_141 (rf_61) (by omega) (rf_s61) ?_
                      refine ji_aload_n dX8_annotate_142 rfl trivial ?_
                      refine ji_get (ci := 8) (k := 1) rfl dX8_annotate_143 lX8_7 (by decide) (rf_60) rfl ?_
                      refine ji_iload dX8_annotate_146 rfl ?_
                      refine ji_iconst dX8_annotate_148 ?_
                      refine ji_iadd dX8_annotate_149 ?_
                      refine ji_iconst dX8_annotate_150 ?_
                      refine ji_iastoreE dX8_annotate_151 (rf_61) (by omega) (rf_s61) ?_
                      refine ji_aload_n dX8_annotate_152 rfl trivial ?_
                      refine ji_get (ci := 8) (k := 1) rfl dX8_annotate_153 lX8_7 (by decide) (rf_60) rfl ?_
                      refine ji_bipush dX8_annotate_156 rfl ?_
                      refine ji_dup2 dX8_annotate_158 rfl rfl ?_
                      refine ji_ialoadK (k := 14) dX8_annotate_159 (rf_61) rfl (by decide) ?_
                      refine ji_iconst dX8_annotate_160 ?_
                      refine ji_iadd dX8_annotate_161 ?_
                      refine ji_iastoreK (k := 14) dX8_annotate_162 (rf_61) rfl (by decide) (rf_s61) ?_
                      refine ji_aload_n dX8_annotate_163 rfl trivial ?_
                      refine ji_get (ci := 8) (k := 1) rfl dX8_annotate_164 lX8_7 (by decide) (rf_60) rfl ?_
                      refine ji_bipush dX8_annotate_167 rfl ?_
                      refine ji_ialoadK (k := 14) dX8_annotate_169 (rf_61) rfl (by decide) ?_
                      refine ji_iconst dX8_annotate_170 ?_
                      refine ji_isub dX8_annotate_171 ?_
                      exact ji_ireturn dX8_annotate_172 rfl (rfl) ⟨rfl, rfl⟩
                  · try (exfalso; omega)
                    all_goals
                      refine ji_iconst dX8_annotate_87 ?_
                      exact ji_ireturn dX8_annotate_88 rfl (rfl) ⟨rfl, rfl⟩
          · try (exfalso; omega)
            all_goals
              refine ji_iconst dX8_annotate_41 ?_
              refine ji_goto (tgt := 77) dX8_annotate_42 rfl ?_
              refine ji_putE (ci := 8) (k := 0) rfl dX8_annotate_77 lX8_47 (by decide) (rf_60) (by simp [rf_c]) (ji_fitI _) rfl (rf_pth) ?_
              refine ji_aload_n dX8_annotate_80 rfl trivial ?_
              refine ji_get (ci := 8) (k := 0) rfl dX8_annotate_81 lX8_47 (by decide) (rf_60) rfl ?_
              refine ji_if_le (tgt := 89) dX8_annotate_84 rfl (by omega) (fun c84 => ?_) (fun c84 => ?_)
              · try (exfalso; omega)
                all_goals
                  refine ji_bipush dX8_annotate_89 rfl ?_
                  refine ji_iconst dX8_annotate_91 ?_
                  refine ji_aload_n dX8_annotate_92 rfl trivial ?_
                  refine ji_get (ci := 8) (k := 1) rfl dX8_annotate_93 lX8_7 (by decide) (rf_60) rfl ?_
                  refine ji_bipush dX8_annotate_96 rfl ?_
                  refine ji_ialoadK (k := 14) dX8_annotate_98 (rf_61) rfl (by decide) ?_
                  refine ji_imul dX8_annotate_99 ?_
                  refine ji_iadd dX8_annotate_100 ?_
                  refine ji_istore dX8_annotate_101 (by decide) rfl ?_
                  refine ji_aload_n dX8_annotate_103 rfl trivial ?_
                  refine ji_get (ci := 8) (k := 1) rfl dX8_annotate_104 lX8_7 (by decide) (rf_60) rfl ?_
                  refine ji_iload dX8_annotate_107 rfl ?_
                  refine ji_iload_n dX8_annotate_109 rfl ?_
                  refine ji_iastoreE dX8_annotate_110 (rf_61) (by omega) (rf_s61) ?_
                  refine ji_aload_n dX8_annotate_111 rfl trivial ?_
                  refine ji_get (ci := 8) (k := 1) rfl dX8_annotate_112 lX8_7 (by decide) (rf_60) rfl ?_
                  refine ji_iload dX8_annotate_115 rfl ?_
                  refine ji_iconst dX8_annotate_117 ?_
                  refine ji_iadd dX8_annotate_118 ?_
                  refine ji_iload_n dX8_annotate_119 rfl ?_
                  refine ji_iastoreE dX8_annotate_120 (rf_61) (by omega) (rf_s61) ?_
                  refine ji_aload_n dX8_annotate_121 rfl trivial ?_
                  refine ji_get (ci := 8) (k := 1) rfl dX8_annotate_122 lX8_7 (by decide) (rf_60) rfl ?_
                  refine ji_iload dX8_annotate_125 rfl ?_
                  refine ji_iconst dX8_annotate_127 ?_
                  refine ji_iadd dX8_annotate_128 ?_
                  refine ji_iload_n dX8_annotate_129 rfl ?_
                  refine ji_iastoreE dX8_annotate_130 (rf_61) (by omega) (rf_s61) ?_
                  refine ji_aload_n dX8_annotate_131 rfl trivial ?_
                  refine ji_get (ci := 8) (k := 1) rfl dX8_annotate_132 lX8_7 (by decide) (rf_60) rfl ?_
                  refine ji_iload dX8_annotate_135 rfl ?_
                  refine ji_iconst dX8_annotate_137 ?_
                  refine ji_iadd dX8_annotate_138 ?_
                  refine ji_iload dX8_annotate_139 rfl ?_
                  refine ji_iastoreE dX8_annotate_141 (rf_61) (by omega) (rf_s61) ?_
                  refine ji_aload_n dX8_annotate_142 rfl trivial ?_
                  refine ji_get (ci := 8) (k := 1) rfl dX8_annotate_143 lX8_7 (by decide) (rf_60) rfl ?_
                  refine ji_iload dX8_annotate_146 rfl ?_
                  refine ji_iconst dX8_annotate_148 ?_
                  refine ji_iadd dX8_annotate_149 ?_
                  refine ji_iconst dX8_annotate_150 ?_
                  refine ji_iastoreE dX8_annotate_151 (rf_61) (by omega) (rf_s61) ?_
                  refine ji_aload_n dX8_annotate_152 rfl trivial ?_
                  refine ji_get (ci := 8) (k := 1) rfl dX8_annotate_153 lX8_7 (by decide) (rf_60) rfl ?_
                  refine ji_bipush dX8_annotate_156 rfl ?_
                  refine ji_dup2 dX8_annotate_158 rfl rfl ?_
                  refine ji_ialoadK (k := 14) dX8_annotate_159 (rf_61) rfl (by decide) ?_
                  refine ji_iconst dX8_annotate_160 ?_
                  refine ji_iadd dX8_annotate_161 ?_
                  refine ji_iastoreK (k := 14) dX8_annotate_162 (rf_61) rfl (by decide) (rf_s61) ?_
                  refine ji_aload_n dX8_annotate_163 rfl trivial ?_
                  refine ji_get (ci := 8) (k := 1) rfl dX8_annotate_164 lX8_7 (by decide) (rf_60) rfl ?_
                  refine ji_bipush dX8_annotate_167 rfl ?_
                  refine ji_ialoadK (k := 14) dX8_annotate_169 (rf_61) rfl (by decide) ?_
                  refine ji_iconst dX8_annotate_170 ?_
                  refine ji_isub dX8_annotate_171 ?_
                  exact ji_ireturn dX8_annotate_172 rfl (rfl) ⟨rfl, rfl⟩
              · try (exfalso; omega)
                all_goals
                  refine ji_iconst dX8_annotate_87 ?_
                  exact ji_ireturn dX8_annotate_88 rfl (rfl) ⟨rfl, rfl⟩
      · try (exfalso; omega)
        all_goals
          refine ji_iconst dX8_annotate_28 ?_
          refine ji_goto (tgt := 33) dX8_annotate_29 rfl ?_
          refine ji_istore dX8_annotate_33 (by decide) rfl ?_
          refine ji_aload_n dX8_annotate_35 rfl trivial ?_
          refine ji_iload dX8_annotate_36 rfl ?_
          refine ji_if_ne (tgt := 45) dX8_annotate_38 rfl (by omega) (fun c38 => ?_) (fun c38 => ?_)
          · try (exfalso; omega)
            all_goals
              refine ji_iload dX8_annotate_45 rfl ?_
              refine ji_iconst dX8_annotate_47 ?_
              refine ji_bipush dX8_annotate_48 rfl ?_
              refine ji_cS dX8_annotate_50 (r_within (by omega) (by omega) (by omega)) rfl wX8_within sX8_within lX8_50 rfl (Nat.le_of_ble_eq_true rfl) rfl ?_
              refine ji_if_ne (tgt := 60) dX8_annotate_53 rfl (by omega) (fun c53 => ?_) (fun c53 => ?_)
              · try (exfalso; omega)
                all_goals
                  refine ji_aload_n dX8_annotate_60 rfl trivial ?_
                  refine ji_get (ci := 8) (k := 1) rfl dX8_annotate_61 lX8_7 (by decide) (rf_60) rfl ?_
                  refine ji_bipush dX8_annotate_64 rfl ?_
                  refine ji_ialoadK (k := 14) dX8_annotate_66 (rf_61) rfl (by decide) ?_
                  refine ji_bipush dX8_annotate_67 rfl ?_
                  refine ji_icmp_ne (tgt := 76) dX8_annotate_69 rfl (by omega) (by omega) (fun c69 => ?_) (fun c69 => ?_)
                  · try (exfalso; omega)
                    all_goals
                      refine ji_iconst dX8_annotate_76 ?_
                      refine ji_putE (ci := 8) (k := 0) rfl dX8_annotate_77 lX8_47 (by decide) (rf_60) (by simp [rf_c]) (ji_fitI _) rfl (rf_pth) ?_
                      refine ji_aload_n dX8_annotate_80 rfl trivial ?_
                      refine ji_get (ci := 8) (k := 0) rfl dX8_annotate_81 lX8_47 (by decide) (rf_60) rfl ?_
                      refine ji_if_le (tgt := 89) dX8_annotate_84 rfl (by omega) (fun c84 => ?_) (fun c84 => ?_)
                      · try (exfalso; omega)
                        all_goals
                          refine ji_bipush dX8_annotate_89 rfl ?_
                          refine ji_iconst dX8_annotate_91 ?_
                          refine ji_aload_n dX8_annotate_92 rfl trivial ?_
                          refine ji_get (ci := 8) (k := 1) rfl dX8_annotate_93 lX8_7 (by decide) (rf_60) rfl ?_
                          refine ji_bipush dX8_annotate_96 rfl ?_
                          refine ji_ialoadK (k := 14) dX8_annotate_98 (rf_61) rfl (by decide) ?_
                          refine ji_imul dX8_annotate_99 ?_
                          refine ji_iadd dX8_annotate_100 ?_
                          refine ji_istore dX8_annotate_101 (by decide) rfl ?_
                          refine ji_aload_n dX8_annotate_103 rfl trivial ?_
                          refine ji_get (ci := 8) (k := 1) rfl dX8_annotate_104 lX8_7 (by decide) (rf_60) rfl ?_
                          refine ji_iload dX8_annotate_107 rfl ?_
                          refine ji_iload_n dX8_annotate_109 rfl ?_
                          refine ji_iastoreE dX8_annotate_110 (rf_61) (by omega) (rf_s61) ?_
                          refine ji_aload_n dX8_annotate_111 rfl trivial ?_
                          refine ji_get (ci := 8) (k := 1) rfl dX8_annotate_112 lX8_7 (by decide) (rf_60) rfl ?_
                          refine ji_iload dX8_annotate_115 rfl ?_
                          refine ji_iconst dX8_annotate_117 ?_
                          refine ji_iadd dX8_annotate_118 ?_
                          refine ji_iload_n dX8_annotate_119 rfl ?_
                          refine ji_iastoreE dX8_annotate_120 (rf_61) (by omega) (rf_s61) ?_
                          refine ji_aload_n dX8_annotate_121 rfl trivial ?_
                          refine ji_get (ci := 8) (k := 1) rfl dX8_annotate_122 lX8_7 (by decide) (rf_60) rfl ?_
                          refine ji_iload dX8_annotate_125 rfl ?_
                          refine ji_iconst dX8_annotate_127 ?_
                          refine ji_iadd dX8_annotate_128 ?_
                          refine ji_iload_n dX8_annotate_129 rfl ?_
                          refine ji_iastoreE dX8_annotate_130 (rf_61) (by omega) (rf_s61) ?_
                          refine ji_aload_n dX8_annotate_131 rfl trivial ?_
                          refine ji_get (ci := 8) (k := 1) rfl dX8_annotate_132 lX8_7 (by decide) (rf_60) rfl ?_
                          refine ji_iload dX8_annotate_135 rfl ?_
                          refine ji_iconst dX8_annotate_137 ?_
                          refine ji_iadd dX8_annotate_138 ?_
                          refine ji_iload dX8_annotate_139 rfl ?_
                          refine ji_iastoreE dX8_annotate_141 (rf_61) (by omega) (rf_s61) ?_
                          refine ji_aload_n dX8_annotate_142 rfl trivial ?_
                          refine ji_get (ci := 8) (k := 1) rfl dX8_annotate_143 lX8_7 (by decide) (rf_60) rfl ?_
                          refine ji_iload dX8_annotate_146 rfl ?_
                          refine ji_iconst dX8_annotate_148 ?_
                          refine ji_iadd dX8_annotate_149 ?_
                          refine ji_iconst dX8_annotate_150 ?_
                          refine ji_iastoreE dX8_annotate_151 (rf_61) (by omega) (rf_s61) ?_
                          refine ji_aload_n dX8_annotate_152 rfl trivial ?_
                          refine ji_get (ci := 8) (k := 1) rfl dX8_annotate_153 lX8_7 (by decide) (rf_60) rfl ?_
                          refine ji_bipush dX8_annotate_156 rfl ?_
                          refine ji_dup2 dX8_annotate_158 rfl rfl ?_
                          refine ji_ialoadK (k := 14) dX8_annotate_159 (rf_61) rfl (by decide) ?_
                          refine ji_iconst dX8_annotate_160 ?_
                          refine ji_iadd dX8_annotate_161 ?_
                          refine ji_iastoreK (k := 14) dX8_annotate_162 (rf_61) rfl (by decide) (rf_s61) ?_
                          refine ji_aload_n dX8_annotate_163 rfl trivial ?_
                          refine ji_get (ci := 8) (k := 1) rfl dX8_annotate_164 lX8_7 (by decide) (rf_60) rfl ?_
                          refine ji_bipush dX8_annotate_167 rfl ?_
                          refine ji_ialoadK (k := 14) dX8_annotate_169 (rf_61) rfl (by decide) ?_
                          refine ji_iconst dX8_annotate_170 ?_
                          refine ji_isub dX8_annotate_171 ?_
                          exact ji_ireturn dX8_annotate_172 rfl (rfl) ⟨rfl, rfl⟩
                      · try (exfalso; omega)
                        all_goals
                          refine ji_iconst dX8_annotate_87 ?_
                          exact ji_ireturn dX8_annotate_88 rfl (rfl) ⟨rfl, rfl⟩
                  · try (exfalso; omega)
                    all_goals
                      refine ji_iconst dX8_annotate_72 ?_
                      refine ji_goto (tgt := 77) dX8_annotate_73 rfl ?_
                      refine ji_putE (ci := 8) (k := 0) rfl dX8_annotate_77 lX8_47 (by decide) (rf_60) (by simp [rf_c]) (ji_fitI _) rfl (rf_pth) ?_
                      refine ji_aload_n dX8_annotate_80 rfl trivial ?_
                      refine ji_get (ci := 8) (k := 0) rfl dX8_annotate_81 lX8_47 (by decide) (rf_60) rfl ?_
                      refine ji_if_le (tgt := 89) dX8_annotate_84 rfl (by omega) (fun c84 => ?_) (fun c84 => ?_)
                      · try (exfalso; omega)
                        all_goals
                          refine ji_bipush dX8_annotate_89 rfl ?_
                          refine ji_iconst dX8_annotate_91 ?_
                          refine ji_aload_n dX8_annotate_92 rfl trivial ?_
                          refine ji_get (ci := 8) (k := 1) rfl dX8_annotate_93 lX8_7 (by decide) (rf_60) rfl ?_
                          refine ji_bipush dX8_annotate_96 rfl ?_
                          refine ji_ialoadK (k := 14) dX8_annotate_98 (rf_61) rfl (by decide) ?_
                          refine ji_imul dX8_annotate_99 ?_
                          refine ji_iadd dX8_annotate_100 ?_
                          refine ji_istore dX8_annotate_101 (by decide) rfl ?_
                          refine ji_aload_n dX8_annotate_103 rfl trivial ?_
                          refine ji_get (ci := 8) (k := 1) rfl dX8_annotate_104 lX8_7 (by decide) (rf_60) rfl ?_
                          refine ji_iload dX8_annotate_107 rfl ?_
                          refine ji_iload_n dX8_annotate_109 rfl ?_
                          refine ji_iastoreE dX8_annotate_110 (rf_61) (by omega) (rf_s61) ?_
                          refine ji_aload_n dX8_annotate_111 rfl trivial ?_
                          refine ji_get (ci := 8) (k := 1) rfl dX8_annotate_112 lX8_7 (by decide) (rf_60) rfl ?_
                          refine ji_iload dX8_annotate_115 rfl ?_
                          refine ji_iconst dX8_annotate_117 ?_
                          refine ji_iadd dX8_annotate_118 ?_
                          refine ji_iload_n dX8_annotate_119 rfl ?_
                          refine ji_iastoreE dX8_annotate_120 (rf_61) (by omega) (rf_s61) ?_
                          refine ji_aload_n dX8_annotate_121 rfl trivial ?_
                          refine ji_get (ci := 8) (k := 1) rfl dX8_annotate_122 lX8_7 (by decide) (rf_60) rfl ?_
                          refine ji_iload dX8_annotate_125 rfl ?_
                          refine ji_iconst dX8_annotate_127 ?_
                          refine ji_iadd dX8_annotate_128 ?_
                          refine ji_iload_n dX8_annotate_129 rfl ?_
                          refine ji_iastoreE dX8_annotate_130 (rf_61) (by omega) (rf_s61) ?_
                          refine ji_aload_n dX8_annotate_131 rfl trivial ?_
                          refine ji_get (ci := 8) (k := 1) rfl dX8_annotate_132 lX8_7 (by decide) (rf_60) rfl ?_
                          refine ji_iload dX8_annotate_135 rfl ?_
                          refine ji_iconst dX8_annotate_137 ?_
                          refine ji_iadd dX8_annotate_138 ?_
                          refine ji_iload dX8_annotate_139 rfl ?_
                          refine ji_iastoreE dX8_annotate_141 (rf_61) (by omega) (rf_s61) ?_
                          refine ji_aload_n dX8_annotate_142 rfl trivial ?_
                          refine ji_get (ci := 8) (k := 1) rfl dX8_annotate_143 lX8_7 (by decide) (rf_60) rfl ?_
                          refine ji_iload dX8_annotate_146 rfl ?_
                          refine ji_iconst dX8_annotate_148 ?_
                          refine ji_iadd dX8_annotate_149 ?_
                          refine ji_iconst dX8_annotate_150 ?_
                          refine ji_iastoreE dX8_annotate_151 (rf_61) (by omega) (rf_s61) ?_
                          refine ji_aload_n dX8_annotate_152 rfl trivial ?_
                          refine ji_get (ci := 8) (k := 1) rfl dX8_annotate_153 lX8_7 (by decide) (rf_60) rfl ?_
                          refine ji_bipush dX8_annotate_156 rfl ?_
                          refine ji_dup2 dX8_annotate_158 rfl rfl ?_
                          refine ji_ialoadK (k := 14) dX8_annotate_159 (rf_61) rfl (by decide) ?_
                          refine ji_iconst dX8_annotate_160 ?_
                          refine ji_iadd dX8_annotate_161 ?_
                          refine ji_iastoreK (k := 14) dX8_annotate_162 (rf_61) rfl (by decide) (rf_s61) ?_
                          refine ji_aload_n dX8_annotate_163 rfl trivial ?_
                          refine ji_get (ci := 8) (k := 1) rfl dX8_annotate_164 lX8_7 (by decide) (rf_60) rfl ?_
                          refine ji_bipush dX8_annotate_167 rfl ?_
                          refine ji_ialoadK (k := 14) dX8_annotate_169 (rf_61) rfl (by decide) ?_
                          refine ji_iconst dX8_annotate_170 ?_
                          refine ji_isub dX8_annotate_171 ?_
                          exact ji_ireturn dX8_annotate_172 rfl (rfl) ⟨rfl, rfl⟩
                      · try (exfalso; omega)
                        all_goals
                          refine ji_iconst dX8_annotate_87 ?_
                          exact ji_ireturn dX8_annotate_88 rfl (rfl) ⟨rfl, rfl⟩
              · try (exfalso; omega)
                all_goals
                  refine ji_iconst dX8_annotate_56 ?_
                  refine ji_goto (tgt := 77) dX8_annotate_57 rfl ?_
                  refine ji_putE (ci := 8) (k := 0) rfl dX8_annotate_77 lX8_47 (by decide) (rf_60) (by simp [rf_c]) (ji_fitI _) rfl (rf_pth) ?_
                  refine ji_aload_n dX8_annotate_80 rfl trivial ?_
                  refine ji_get (ci := 8) (k := 0) rfl dX8_annotate_81 lX8_47 (by decide) (rf_60) rfl ?_
                  refine ji_if_le (tgt := 89) dX8_annotate_84 rfl (by omega) (fun c84 => ?_) (fun c84 => ?_)
                  · try (exfalso; omega)
                    all_goals
                      refine ji_bipush dX8_annotate_89 rfl ?_
                      refine ji_iconst dX8_annotate_91 ?_
                      refine ji_aload_n dX8_annotate_92 rfl trivial ?_
                      refine ji_get (ci := 8) (k := 1) rfl dX8_annotate_93 lX8_7 (by decide) (rf_60) rfl ?_
                      refine ji_bipush dX8_annotate_96 rfl ?_
                      refine ji_ialoadK (k := 14) dX8_annotate_98 (rf_61) rfl (by decide) ?_
                      refine ji_imul dX8_annotate_99 ?_
                      refine ji_iadd dX8_annotate_100 ?_
                      refine ji_istore dX8_annotate_101 (by decide) rfl ?_
                      refine ji_aload_n dX8_annotate_103 rfl trivial ?_
                      refine ji_get (ci := 8) (k := 1) rfl dX8_annotate_104 lX8_7 (by decide) (rf_60) rfl ?_
                      refine ji_iload dX8_annotate_107 rfl ?_
                      refine ji_iload_n dX8_annotate_109 rfl ?_
                      refine ji_iastoreE dX8_annotate_110 (rf_61) (by omega) (rf_s61) ?_
                      refine ji_aload_n dX8_annotate_111 rfl trivial ?_
                      refine ji_get (ci := 8) (k := 1) rfl dX8_annotate_112 lX8_7 (by decide) (rf_60) rfl ?_
                      refine ji_iload dX8_annotate_115 rfl ?_
                      refine ji_iconst dX8_annotate_117 ?_
                      refine ji_iadd dX8_annotate_118 ?_
                      refine ji_iload_n dX8_annotate_119 rfl ?_
                      refine ji_iastoreE dX8_annotate_120 (rf_61) (by omega) (rf_s61) ?_
                      refine ji_aload_n dX8_annotate_121 rfl trivial ?_
                      refine ji_get (ci := 8) (k := 1) rfl dX8_annotate_122 lX8_7 (by decide) (rf_60) rfl ?_
                      refine ji_iload dX8_annotate_125 rfl ?_
                      refine ji_iconst dX8_annotate_127 ?_
                      refine ji_iadd dX8_annotate_128 ?_
                      refine ji_iload_n dX8_annotate_129 rfl ?_
                      refine ji_iastoreE dX8_annotate_130 (rf_61) (by omega) (rf_s61) ?_
                      refine ji_aload_n dX8_annotate_131 rfl trivial ?_
                      refine ji_get (ci := 8) (k := 1) rfl dX8_annotate_132 lX8_7 (by decide) (rf_60) rfl ?_
                      refine ji_iload dX8_annotate_135 rfl ?_
                      refine ji_iconst dX8_annotate_137 ?_
                      refine ji_iadd dX8_annotate_138 ?_
                      refine ji_iload dX8_annotate_139 rfl ?_
                      refine ji_iastoreE dX8_annotate_141 (rf_61) (by omega) (rf_s61) ?_
                      refine ji_aload_n dX8_annotate_142 rfl trivial ?_
                      refine ji_get (ci := 8) (k := 1) rfl dX8_annotate_143 lX8_7 (by decide) (rf_60) rfl ?_
                      refine ji_iload dX8_annotate_146 rfl ?_
                      refine ji_iconst dX8_annotate_148 ?_
                      refine ji_iadd dX8_annotate_149 ?_
                      refine ji_iconst dX8_annotate_150 ?_
                      refine ji_iastoreE dX8_annotate_151 (rf_61) (by omega) (rf_s61) ?_
                      refine ji_aload_n dX8_annotate_152 rfl trivial ?_
                      refine ji_get (ci := 8) (k := 1) rfl dX8_annotate_153 lX8_7 (by decide) (rf_60) rfl ?_
                      refine ji_bipush dX8_annotate_156 rfl ?_
                      refine ji_dup2 dX8_annotate_158 rfl rfl ?_
                      refine ji_ialoadK (k := 14) dX8_annotate_159 (rf_61) rfl (by decide) ?_
                      refine ji_iconst dX8_annotate_160 ?_
                      refine ji_iadd dX8_annotate_161 ?_
                      refine ji_iastoreK (k := 14) dX8_annotate_162 (rf_61) rfl (by decide) (rf_s61) ?_
                      refine ji_aload_n dX8_annotate_163 rfl trivial ?_
                      refine ji_get (ci := 8) (k := 1) rfl dX8_annotate_164 lX8_7 (by decide) (rf_60) rfl ?_
                      refine ji_bipush dX8_annotate_167 rfl ?_
                      refine ji_ialoadK (k := 14) dX8_annotate_169 (rf_61) rfl (by decide) ?_
                      refine ji_iconst dX8_annotate_170 ?_
                      refine ji_isub dX8_annotate_171 ?_
                      exact ji_ireturn dX8_annotate_172 rfl (rfl) ⟨rfl, rfl⟩
                  · try (exfalso; omega)
                    all_goals
                      refine ji_iconst dX8_annotate_87 ?_
                      exact ji_ireturn dX8_annotate_88 rfl (rfl) ⟨rfl, rfl⟩
          · try (exfalso; omega)
            all_goals
              refine ji_iconst dX8_annotate_41 ?_
              refine ji_goto (tgt := 77) dX8_annotate_42 rfl ?_
              refine ji_putE (ci := 8) (k := 0) rfl dX8_annotate_77 lX8_47 (by decide) (rf_60) (by simp [rf_c]) (ji_fitI _) rfl (rf_pth) ?_
              refine ji_aload_n dX8_annotate_80 rfl trivial ?_
              refine ji_get (ci := 8) (k := 0) rfl dX8_annotate_81 lX8_47 (by decide) (rf_60) rfl ?_
              refine ji_if_le (tgt := 89) dX8_annotate_84 rfl (by omega) (fun c84 => ?_) (fun c84 => ?_)
              · try (exfalso; omega)
                all_goals
                  refine ji_bipush dX8_annotate_89 rfl ?_
                  refine ji_iconst dX8_annotate_91 ?_
                  refine ji_aload_n dX8_annotate_92 rfl trivial ?_
                  refine ji_get (ci := 8) (k := 1) rfl dX8_annotate_93 lX8_7 (by decide) (rf_60) rfl ?_
                  refine ji_bipush dX8_annotate_96 rfl ?_
                  refine ji_ialoadK (k := 14) dX8_annotate_98 (rf_61) rfl (by decide) ?_
                  refine ji_imul dX8_annotate_99 ?_
                  refine ji_iadd dX8_annotate_100 ?_
                  refine ji_istore dX8_annotate_101 (by decide) rfl ?_
                  refine ji_aload_n dX8_annotate_103 rfl trivial ?_
                  refine ji_get (ci := 8) (k := 1) rfl dX8_annotate_104 lX8_7 (by decide) (rf_60) rfl ?_
                  refine ji_iload dX8_annotate_107 rfl ?_
                  refine ji_iload_n dX8_annotate_109 rfl ?_
                  refine ji_iastoreE dX8_annotate_110 (rf_61) (by omega) (rf_s61) ?_
                  refine ji_aload_n dX8_annotate_111 rfl trivial ?_
                  refine ji_get (ci := 8) (k := 1) rfl dX8_annotate_112 lX8_7 (by decide) (rf_60) rfl ?_
                  refine ji_iload dX8_annotate_115 rfl ?_
                  refine ji_iconst dX8_annotate_117 ?_
                  refine ji_iadd dX8_annotate_118 ?_
                  refine ji_iload_n dX8_annotate_119 rfl ?_
                  refine ji_iastoreE dX8_annotate_120 (rf_61) (by omega) (rf_s61) ?_
                  refine ji_aload_n dX8_annotate_121 rfl trivial ?_
                  refine ji_get (ci := 8) (k := 1) rfl dX8_annotate_122 lX8_7 (by decide) (rf_60) rfl ?_
                  refine ji_iload dX8_annotate_125 rfl ?_
                  refine ji_iconst dX8_annotate_127 ?_
                  refine ji_iadd dX8_annotate_128 ?_
                  refine ji_iload_n dX8_annotate_129 rfl ?_
                  refine ji_iastoreE dX8_annotate_130 (rf_61) (by omega) (rf_s61) ?_
                  refine ji_aload_n dX8_annotate_131 rfl trivial ?_
                  refine ji_get (ci := 8) (k := 1) rfl dX8_annotate_132 lX8_7 (by decide) (rf_60) rfl ?_
                  refine ji_iload dX8_annotate_135 rfl ?_
                  refine ji_iconst dX8_annotate_137 ?_
                  refine ji_iadd dX8_annotate_138 ?_
                  refine ji_iload dX8_annotate_139 rfl ?_
                  refine ji_iastoreE dX8_annotate_141 (rf_61) (by omega) (rf_s61) ?_
                  refine ji_aload_n dX8_annotate_142 rfl trivial ?_
                  refine ji_get (ci := 8) (k := 1) rfl dX8_annotate_143 lX8_7 (by decide) (rf_60) rfl ?_
                  refine ji_iload dX8_annotate_146 rfl ?_
                  refine ji_iconst dX8_annotate_148 ?_
                  refine ji_iadd dX8_annotate_149 ?_
                  refine ji_iconst dX8_annotate_150 ?_
                  refine ji_iastoreE dX8_annotate_151 (rf_61) (by omega) (rf_s61) ?_
                  refine ji_aload_n dX8_annotate_152 rfl trivial ?_
                  refine ji_get (ci := 8) (k := 1) rfl dX8_annotate_153 lX8_7 (by decide) (rf_60) rfl ?_
                  refine ji_bipush dX8_annotate_156 rfl ?_
                  refine ji_dup2 dX8_annotate_158 rfl rfl ?_
                  refine ji_ialoadK (k := 14) dX8_annotate_159 (rf_61) rfl (by decide) ?_
                  refine ji_iconst dX8_annotate_160 ?_
                  refine ji_iadd dX8_annotate_161 ?_
                  refine ji_iastoreK (k := 14) dX8_annotate_162 (rf_61) rfl (by decide) (rf_s61) ?_
                  refine ji_aload_n dX8_annotate_163 rfl trivial ?_
                  refine ji_get (ci := 8) (k := 1) rfl dX8_annotate_164 lX8_7 (by decide) (rf_60) rfl ?_
                  refine ji_bipush dX8_annotate_167 rfl ?_
                  refine ji_ialoadK (k := 14) dX8_annotate_169 (rf_61) rfl (by decide) ?_
                  refine ji_iconst dX8_annotate_170 ?_
                  refine ji_isub dX8_annotate_171 ?_
                  exact ji_ireturn dX8_annotate_172 rfl (rfl) ⟨rfl, rfl⟩
              · try (exfalso; omega)
                all_goals
                  refine ji_iconst dX8_annotate_87 ?_
                  exact ji_ireturn dX8_annotate_88 rfl (rfl) ⟨rfl, rfl⟩

set_option maxHeartbeats 4000000 in
set_option maxRecDepth 100000 in
theorem r_isAnnotation (hm9 : 0 ≤ z 14 ∧ z 14 ≤ 12) {k : Int} (b_k : -2147483648 ≤ k ∧ k < 2147483648) : JR G (d + 1) mX8_isAnnotation [.ref 60, .int (jI k)] (n, rf_f f th z kp ed nt nl wi ht sy sz bf rs rr rq rp mm ln lo lf lt co ro pg pf hsh) 0 0 (some (.int (jI (rf_in k 0 (z 14 - 1))))) (n, rf_f f th z kp ed nt nl wi ht sy sz bf rs rr rq rp mm ln lo lf lt co ro pg pf hsh) := by
  refine ji_ent (by decide) rfl (Nat.le_of_ble_eq_true rfl) rfl ?_
  refine ji_iload_n dX8_isAnnotation_0 rfl ?_
  refine ji_iconst dX8_isAnnotation_1 ?_
  refine ji_aload_n dX8_isAnnotation_2 rfl trivial ?_
  refine ji_get (ci := 8) (k := 1) rfl dX8_isAnnotation_3 lX8_7 (by decide) (rf_60) rfl ?_
  refine ji_bipush dX8_isAnnotation_6 rfl ?_
  refine ji_ialoadK (k := 14) dX8_isAnnotation_8 (rf_61) rfl (by decide) ?_
  refine ji_iconst dX8_isAnnotation_9 ?_
  refine ji_isub dX8_isAnnotation_10 ?_
  refine ji_cS dX8_isAnnotation_11 (r_within (by omega) (by omega) (by omega)) rfl wX8_within sX8_within lX8_50 rfl (Nat.le_of_ble_eq_true rfl) rfl ?_
  exact ji_ireturn dX8_isAnnotation_14 rfl (ji_narB (by have := rf_in_d k 0 (z 14 - 1); omega)) ⟨rfl, rfl⟩

set_option maxHeartbeats 4000000 in
set_option maxRecDepth 100000 in
theorem r_annotationNow (hz : rz_ok z) (hrl : rl_ok z ln lo lf lt) (hpk : rp_ok ln pg pf) (hl1 : 1 ≤ ln) (hm9 : 0 ≤ z 14 ∧ z 14 ≤ 12) {k : Int} (hk9 : 0 ≤ k ∧ k < z 14) {v : Int} (hv : 0 ≤ v ∧ v < 6) : JR G (d + 2) mX8_annotationNow [.ref 60, .int (jI k), .int (jI v)] (n, rf_f f th z kp ed nt nl wi ht sy sz bf rs rr rq rp mm ln lo lf lt co ro pg pf hsh) 0 0 (some (.int (jI (rf_AN z ln lo lf pg pf k v)))) (n, rf_f f th z kp ed nt nl wi ht sy sz bf rs rr rq rp mm ln lo lf lt co ro pg pf hsh) := by
  have q0 := hz.1 (15 + 5 * k).toNat
  have q1 := hz.1 (15 + 5 * k + 1).toNat
  have q4 := hz.1 (15 + 5 * k + 4).toNat
  refine ji_ent (by decide) rfl (Nat.le_of_ble_eq_true rfl) rfl ?_
  refine ji_bipush dX8_annotationNow_0 rfl ?_
  refine ji_iconst dX8_annotationNow_2 ?_
  refine ji_iload_n dX8_annotationNow_3 rfl ?_
  refine ji_imul dX8_annotationNow_4 ?_
  refine ji_iadd dX8_annotationNow_5 ?_
  refine ji_istore_n dX8_annotationNow_6 (by decide) rfl ?_
  refine ji_iload_n dX8_annotationNow_7 rfl ?_
  refine ji_iconst dX8_annotationNow_8 ?_
  refine ji_icmp_ge (tgt := 23) dX8_annotationNow_9 rfl (by omega) (by omega) (fun c9 => ?_) (fun c9 => ?_)
  · try (exfalso; omega)
    all_goals
      refine ji_aload_n dX8_annotationNow_23 rfl trivial ?_
      refine ji_get (ci := 8) (k := 1) rfl dX8_annotationNow_24 lX8_7 (by decide) (rf_60) rfl ?_
      refine ji_iload_n dX8_annotationNow_27 rfl ?_
      refine ji_iconst dX8_annotationNow_28 ?_
      refine ji_iadd dX8_annotationNow_29 ?_
      refine ji_iaload dX8_annotationNow_30 (rf_61) (by omega) ?_
      refine ji_iconst dX8_annotationNow_31 ?_
      refine ji_icmp_ne (tgt := 39) dX8_annotationNow_32 rfl (by omega) (by omega) (fun c32 => ?_) (fun c32 => ?_)
      · try (exfalso; omega)
        all_goals
          refine ji_aload_n dX8_annotationNow_39 rfl trivial ?_
          refine ji_aload_n dX8_annotationNow_40 rfl trivial ?_
          refine ji_get (ci := 8) (k := 1) rfl dX8_annotationNow_41 lX8_7 (by decide) (rf_60) rfl ?_
          refine ji_iload_n dX8_annotationNow_44 rfl ?_
          refine ji_iaload dX8_annotationNow_45 (rf_61) (by omega) ?_
          refine ji_aload_n dX8_annotationNow_46 rfl trivial ?_
          refine ji_get (ci := 8) (k := 1) rfl dX8_annotationNow_47 lX8_7 (by decide) (rf_60) rfl ?_
          refine ji_iload_n dX8_annotationNow_50 rfl ?_
          refine ji_iconst dX8_annotationNow_51 ?_
          refine ji_iadd dX8_annotationNow_52 ?_
          refine ji_iaload dX8_annotationNow_53 (rf_61) (by omega) ?_
          refine ji_cV dX8_annotationNow_54 (r_pageWith hz hrl hpk hl1 (by omega) (by omega)) rfl (rf_60) rfl rfl wX8_pageWith vX8_pageWith lX8_186 rfl (Nat.le_of_ble_eq_true rfl) rfl ?_
          exact ji_ireturn dX8_annotationNow_57 rfl (rfl) ⟨jr_i (by unfold rf_AN; (repeat' split) <;> first | rfl | (exfalso; omega)), rfl⟩
      · try (exfalso; omega)
        all_goals
          refine ji_iconst dX8_annotationNow_35 ?_
          refine ji_goto (tgt := 57) dX8_annotationNow_36 rfl ?_
          exact ji_ireturn dX8_annotationNow_57 rfl (rfl) ⟨jr_i (by unfold rf_AN; (repeat' split) <;> first | rfl | (exfalso; omega)), rfl⟩
  · try (exfalso; omega)
    all_goals
      refine ji_aload_n dX8_annotationNow_12 rfl trivial ?_
      refine ji_get (ci := 8) (k := 1) rfl dX8_annotationNow_13 lX8_7 (by decide) (rf_60) rfl ?_
      refine ji_iload_n dX8_annotationNow_16 rfl ?_
      refine ji_iload_n dX8_annotationNow_17 rfl ?_
      refine ji_iadd dX8_annotationNow_18 ?_
      refine ji_iaload dX8_annotationNow_19 (rf_61) (by omega) ?_
      refine ji_goto (tgt := 57) dX8_annotationNow_20 rfl ?_
      exact ji_ireturn dX8_annotationNow_57 rfl (rfl) ⟨jr_i (by unfold rf_AN; (repeat' split) <;> first | rfl | (exfalso; omega)), rfl⟩

set_option maxHeartbeats 4000000 in
set_option maxRecDepth 100000 in
theorem r_annotation1 (hrf : rf_ok wi ht z nl nt sy) {k : Int} (b_k : -2147483648 ≤ k ∧ k < 2147483648) {v : Int} (hx : k < 0 ∨ z 14 ≤ k) : JR G (d + 9) mX8_annotation [.ref 60, .int (jI k), .int (jI v)] (n, rf_f f th z kp ed nt nl wi ht sy sz bf rs rr rq rp mm ln lo lf lt co ro pg pf hsh) 0 0 (some (.int (jI 0))) (n, rf_f f 1 z kp ed nt nl wi ht sy sz bf rs rr rq rp mm ((rf_LL z nl nt sy wi lo lf lt).1) ((rf_LL z nl nt sy wi lo lf lt).2.1) ((rf_LL z nl nt sy wi lo lf lt).2.2.1) ((rf_LL z nl nt sy wi lo lf lt).2.2.2) wi ht ((rf_PG z nl nt sy wi ht (rf_LL z nl nt sy wi lo lf lt).1 (rf_LL z nl nt sy wi lo lf lt).2.1 (rf_LL z nl nt sy wi lo lf lt).2.2.1 (rf_LL z nl nt sy wi lo lf lt).2.2.2 pf).1) (va_up (rf_PG z nl nt sy wi ht (rf_LL z nl nt sy wi lo lf lt).1 (rf_LL z nl nt sy wi lo lf lt).2.1 (rf_LL z nl nt sy wi lo lf lt).2.2.1 (rf_LL z nl nt sy wi lo lf lt).2.2.2 pf).2 (rf_PG z nl nt sy wi ht (rf_LL z nl nt sy wi lo lf lt).1 (rf_LL z nl nt sy wi lo lf lt).2.1 (rf_LL z nl nt sy wi lo lf lt).2.2.1 (rf_LL z nl nt sy wi lo lf lt).2.2.2 pf).1.toNat (rf_LL z nl nt sy wi lo lf lt).1) hsh) := by
  obtain ⟨hz, hn, hk, hrc, ⟨hw9, hh9⟩, ⟨hm9, hj9⟩, hll⟩ := id hrf
  have zb := hz.2.1
  have hF := (hll wi lo lf lt (by omega)).2
  have hl1 := (hll wi lo lf lt (by omega)).1
  have hc9 : 0 ≤ wi ∧ wi ≤ 100 := by omega
  have hro : 0 ≤ ht ∧ ht ≤ 100 := by omega
  have hrl := rf_LL_ok hz hF
  have hpk := rf_PG_ok z nl nt sy wi ht (rf_LL z nl nt sy wi lo lf lt).2.1 (rf_LL z nl nt sy wi lo lf lt).2.2.1 (rf_LL z nl nt sy wi lo lf lt).2.2.2 pf (ln := (rf_LL z nl nt sy wi lo lf lt).1) (by omega)
  have hpp := hpk.pos (by omega)
  have hpl := hpk.1
  have wk := rf_in_d k 0 (z 14 - 1)
  refine ji_ent (by decide) rfl (Nat.le_of_ble_eq_true rfl) rfl ?_
  refine ji_aload_n dX8_annotation_0 rfl trivial ?_
  refine ji_aload_n dX8_annotation_1 rfl trivial ?_
  refine ji_iload_n dX8_annotation_2 rfl ?_
  refine ji_cV dX8_annotation_3 (r_isAnnotation hm9 (by omega)) rfl (rf_60) rfl rfl wX8_isAnnotation vX8_isAnnotation lX8_284 rfl (Nat.le_of_ble_eq_true rfl) rfl ?_
  refine ji_if_ne (tgt := 13) dX8_annotation_6 rfl (by omega) (fun c6 => ?_) (fun c6 => ?_)
  · try (exfalso; omega)
    all_goals
      refine ji_iload_n dX8_annotation_13 rfl ?_
      refine ji_iconst dX8_annotation_14 ?_
      refine ji_iconst dX8_annotation_15 ?_
      refine ji_cS dX8_annotation_16 (r_within (by omega) (by omega) (by omega)) rfl wX8_within sX8_within lX8_50 rfl (Nat.le_of_ble_eq_true rfl) rfl ?_
      refine ji_if_eq (tgt := 26) dX8_annotation_19 rfl (by omega) (fun c19 => ?_) (fun c19 => ?_)
      · try (exfalso; omega)
        all_goals
          refine ji_iconst dX8_annotation_26 ?_
          refine ji_putE (ci := 8) (k := 0) rfl dX8_annotation_27 lX8_47 (by decide) (rf_60) (by simp [rf_c]) (ji_fitI _) rfl (rf_pth) ?_
          refine ji_aload_n dX8_annotation_30 rfl trivial ?_
          refine ji_cVv dX8_annotation_31 (r_layAll hz hn hk hrc (by omega) (by omega) hF) rfl (rf_60) rfl rfl wX8_layAll vX8_layAll lX8_189 rfl (Nat.le_of_ble_eq_true rfl) rfl ?_
          refine ji_aload_n dX8_annotation_34 rfl trivial ?_
          refine ji_get (ci := 8) (k := 0) rfl dX8_annotation_35 lX8_47 (by decide) (rf_60) rfl ?_
          refine ji_if_le (tgt := 45) dX8_annotation_38 rfl (by omega) (fun c38 => ?_) (fun c38 => ?_)
          · try (exfalso; omega)
            all_goals
              refine ji_aload_n dX8_annotation_45 rfl trivial ?_
              refine ji_iload_n dX8_annotation_46 rfl ?_
              refine ji_iload_n dX8_annotation_47 rfl ?_
              exfalso; omega
          · try (exfalso; omega)
            all_goals
              refine ji_iconst dX8_annotation_41 ?_
              refine ji_goto (tgt := 51) dX8_annotation_42 rfl ?_
              exact ji_ireturn dX8_annotation_51 rfl (rfl) ⟨jr_i (by first | rfl | omega), rfl⟩
      · try (exfalso; omega)
        all_goals
          refine ji_iconst dX8_annotation_22 ?_
          refine ji_goto (tgt := 27) dX8_annotation_23 rfl ?_
          refine ji_putE (ci := 8) (k := 0) rfl dX8_annotation_27 lX8_47 (by decide) (rf_60) (by simp [rf_c]) (ji_fitI _) rfl (rf_pth) ?_
          refine ji_aload_n dX8_annotation_30 rfl trivial ?_
          refine ji_cVv dX8_annotation_31 (r_layAll hz hn hk hrc (by omega) (by omega) hF) rfl (rf_60) rfl rfl wX8_layAll vX8_layAll lX8_189 rfl (Nat.le_of_ble_eq_true rfl) rfl ?_
          refine ji_aload_n dX8_annotation_34 rfl trivial ?_
          refine ji_get (ci := 8) (k := 0) rfl dX8_annotation_35 lX8_47 (by decide) (rf_60) rfl ?_
          refine ji_if_le (tgt := 45) dX8_annotation_38 rfl (by omega) (fun c38 => ?_) (fun c38 => ?_)
          · try (exfalso; omega)
            all_goals
              refine ji_aload_n dX8_annotation_45 rfl trivial ?_
              refine ji_iload_n dX8_annotation_46 rfl ?_
              refine ji_iload_n dX8_annotation_47 rfl ?_
              exfalso; omega
          · try (exfalso; omega)
            all_goals
              refine ji_iconst dX8_annotation_41 ?_
              refine ji_goto (tgt := 51) dX8_annotation_42 rfl ?_
              exact ji_ireturn dX8_annotation_51 rfl (rfl) ⟨jr_i (by first | rfl | omega), rfl⟩
  · try (exfalso; omega)
    all_goals
      refine ji_iconst dX8_annotation_9 ?_
      refine ji_goto (tgt := 27) dX8_annotation_10 rfl ?_
      refine ji_putE (ci := 8) (k := 0) rfl dX8_annotation_27 lX8_47 (by decide) (rf_60) (by simp [rf_c]) (ji_fitI _) rfl (rf_pth) ?_
      refine ji_aload_n dX8_annotation_30 rfl trivial ?_
      refine ji_cVv dX8_annotation_31 (r_layAll hz hn hk hrc (by omega) (by omega) hF) rfl (rf_60) rfl rfl wX8_layAll vX8_layAll lX8_189 rfl (Nat.le_of_ble_eq_true rfl) rfl ?_
      refine ji_aload_n dX8_annotation_34 rfl trivial ?_
      refine ji_get (ci := 8) (k := 0) rfl dX8_annotation_35 lX8_47 (by decide) (rf_60) rfl ?_
      refine ji_if_le (tgt := 45) dX8_annotation_38 rfl (by omega) (fun c38 => ?_) (fun c38 => ?_)
      · try (exfalso; omega)
        all_goals
          refine ji_aload_n dX8_annotation_45 rfl trivial ?_
          refine ji_iload_n dX8_annotation_46 rfl ?_
          refine ji_iload_n dX8_annotation_47 rfl ?_
          exfalso; omega
      · try (exfalso; omega)
        all_goals
          refine ji_iconst dX8_annotation_41 ?_
          refine ji_goto (tgt := 51) dX8_annotation_42 rfl ?_
          exact ji_ireturn dX8_annotation_51 rfl (rfl) ⟨jr_i (by first | rfl | omega), rfl⟩

set_option maxHeartbeats 4000000 in
set_option maxRecDepth 100000 in
theorem r_annotation2 (hrf : rf_ok wi ht z nl nt sy) {k : Int} (hk9 : 0 ≤ k ∧ k < z 14) {v : Int} (b_v : -2147483648 ≤ v ∧ v < 2147483648) (hx : v < 0 ∨ 6 ≤ v) : JR G (d + 9) mX8_annotation [.ref 60, .int (jI k), .int (jI v)] (n, rf_f f th z kp ed nt nl wi ht sy sz bf rs rr rq rp mm ln lo lf lt co ro pg pf hsh) 0 0 (some (.int (jI 0))) (n, rf_f f 2 z kp ed nt nl wi ht sy sz bf rs rr rq rp mm ((rf_LL z nl nt sy wi lo lf lt).1) ((rf_LL z nl nt sy wi lo lf lt).2.1) ((rf_LL z nl nt sy wi lo lf lt).2.2.1) ((rf_LL z nl nt sy wi lo lf lt).2.2.2) wi ht ((rf_PG z nl nt sy wi ht (rf_LL z nl nt sy wi lo lf lt).1 (rf_LL z nl nt sy wi lo lf lt).2.1 (rf_LL z nl nt sy wi lo lf lt).2.2.1 (rf_LL z nl nt sy wi lo lf lt).2.2.2 pf).1) (va_up (rf_PG z nl nt sy wi ht (rf_LL z nl nt sy wi lo lf lt).1 (rf_LL z nl nt sy wi lo lf lt).2.1 (rf_LL z nl nt sy wi lo lf lt).2.2.1 (rf_LL z nl nt sy wi lo lf lt).2.2.2 pf).2 (rf_PG z nl nt sy wi ht (rf_LL z nl nt sy wi lo lf lt).1 (rf_LL z nl nt sy wi lo lf lt).2.1 (rf_LL z nl nt sy wi lo lf lt).2.2.1 (rf_LL z nl nt sy wi lo lf lt).2.2.2 pf).1.toNat (rf_LL z nl nt sy wi lo lf lt).1) hsh) := by
  obtain ⟨hz, hn, hk, hrc, ⟨hw9, hh9⟩, ⟨hm9, hj9⟩, hll⟩ := id hrf
  have zb := hz.2.1
  have hF := (hll wi lo lf lt (by omega)).2
  have hl1 := (hll wi lo lf lt (by omega)).1
  have hc9 : 0 ≤ wi ∧ wi ≤ 100 := by omega
  have hro : 0 ≤ ht ∧ ht ≤ 100 := by omega
  have hrl := rf_LL_ok hz hF
  have hpk := rf_PG_ok z nl nt sy wi ht (rf_LL z nl nt sy wi lo lf lt).2.1 (rf_LL z nl nt sy wi lo lf lt).2.2.1 (rf_LL z nl nt sy wi lo lf lt).2.2.2 pf (ln := (rf_LL z nl nt sy wi lo lf lt).1) (by omega)
  have hpp := hpk.pos (by omega)
  have hpl := hpk.1
  have wk := rf_in_d k 0 (z 14 - 1)
  have w_v_0_5 := rf_in_d v 0 5
  refine ji_ent (by decide) rfl (Nat.le_of_ble_eq_true rfl) rfl ?_
  refine ji_aload_n dX8_annotation_0 rfl trivial ?_
  refine ji_aload_n dX8_annotation_1 rfl trivial ?_
  refine ji_iload_n dX8_annotation_2 rfl ?_
  refine ji_cV dX8_annotation_3 (r_isAnnotation hm9 (by omega)) rfl (rf_60) rfl rfl wX8_isAnnotation vX8_isAnnotation lX8_284 rfl (Nat.le_of_ble_eq_true rfl) rfl ?_
  refine ji_if_ne (tgt := 13) dX8_annotation_6 rfl (by omega) (fun c6 => ?_) (fun c6 => ?_)
  · try (exfalso; omega)
    all_goals
      refine ji_iload_n dX8_annotation_13 rfl ?_
      refine ji_iconst dX8_annotation_14 ?_
      refine ji_iconst dX8_annotation_15 ?_
      refine ji_cS dX8_annotation_16 (r_within (by omega) (by omega) (by omega)) rfl wX8_within sX8_within lX8_50 rfl (Nat.le_of_ble_eq_true rfl) rfl ?_
      refine ji_if_eq (tgt := 26) dX8_annotation_19 rfl (by omega) (fun c19 => ?_) (fun c19 => ?_)
      · try (exfalso; omega)
        all_goals
          refine ji_iconst dX8_annotation_26 ?_
          refine ji_putE (ci := 8) (k := 0) rfl dX8_annotation_27 lX8_47 (by decide) (rf_60) (by simp [rf_c]) (ji_fitI _) rfl (rf_pth) ?_
          refine ji_aload_n dX8_annotation_30 rfl trivial ?_
          refine ji_cVv dX8_annotation_31 (r_layAll hz hn hk hrc (by omega) (by omega) hF) rfl (rf_60) rfl rfl wX8_layAll vX8_layAll lX8_189 rfl (Nat.le_of_ble_eq_true rfl) rfl ?_
          refine ji_aload_n dX8_annotation_34 rfl trivial ?_
          refine ji_get (ci := 8) (k := 0) rfl dX8_annotation_35 lX8_47 (by decide) (rf_60) rfl ?_
          refine ji_if_le (tgt := 45) dX8_annotation_38 rfl (by omega) (fun c38 => ?_) (fun c38 => ?_)
          · try (exfalso; omega)
            all_goals
              refine ji_aload_n dX8_annotation_45 rfl trivial ?_
              refine ji_iload_n dX8_annotation_46 rfl ?_
              refine ji_iload_n dX8_annotation_47 rfl ?_
              exfalso; omega
          · try (exfalso; omega)
            all_goals
              refine ji_iconst dX8_annotation_41 ?_
              refine ji_goto (tgt := 51) dX8_annotation_42 rfl ?_
              exact ji_ireturn dX8_annotation_51 rfl (rfl) ⟨jr_i (by first | rfl | omega), rfl⟩
      · try (exfalso; omega)
        all_goals
          refine ji_iconst dX8_annotation_22 ?_
          refine ji_goto (tgt := 27) dX8_annotation_23 rfl ?_
          refine ji_putE (ci := 8) (k := 0) rfl dX8_annotation_27 lX8_47 (by decide) (rf_60) (by simp [rf_c]) (ji_fitI _) rfl (rf_pth) ?_
          refine ji_aload_n dX8_annotation_30 rfl trivial ?_
          refine ji_cVv dX8_annotation_31 (r_layAll hz hn hk hrc (by omega) (by omega) hF) rfl (rf_60) rfl rfl wX8_layAll vX8_layAll lX8_189 rfl (Nat.le_of_ble_eq_true rfl) rfl ?_
          refine ji_aload_n dX8_annotation_34 rfl trivial ?_
          refine ji_get (ci := 8) (k := 0) rfl dX8_annotation_35 lX8_47 (by decide) (rf_60) rfl ?_
          refine ji_if_le (tgt := 45) dX8_annotation_38 rfl (by omega) (fun c38 => ?_) (fun c38 => ?_)
          · try (exfalso; omega)
            all_goals
              refine ji_aload_n dX8_annotation_45 rfl trivial ?_
              refine ji_iload_n dX8_annotation_46 rfl ?_
              refine ji_iload_n dX8_annotation_47 rfl ?_
              exfalso; omega
          · try (exfalso; omega)
            all_goals
              refine ji_iconst dX8_annotation_41 ?_
              refine ji_goto (tgt := 51) dX8_annotation_42 rfl ?_
              exact ji_ireturn dX8_annotation_51 rfl (rfl) ⟨jr_i (by first | rfl | omega), rfl⟩
  · try (exfalso; omega)
    all_goals
      refine ji_iconst dX8_annotation_9 ?_
      refine ji_goto (tgt := 27) dX8_annotation_10 rfl ?_
      refine ji_putE (ci := 8) (k := 0) rfl dX8_annotation_27 lX8_47 (by decide) (rf_60) (by simp [rf_c]) (ji_fitI _) rfl (rf_pth) ?_
      refine ji_aload_n dX8_annotation_30 rfl trivial ?_
      refine ji_cVv dX8_annotation_31 (r_layAll hz hn hk hrc (by omega) (by omega) hF) rfl (rf_60) rfl rfl wX8_layAll vX8_layAll lX8_189 rfl (Nat.le_of_ble_eq_true rfl) rfl ?_
      refine ji_aload_n dX8_annotation_34 rfl trivial ?_
      refine ji_get (ci := 8) (k := 0) rfl dX8_annotation_35 lX8_47 (by decide) (rf_60) rfl ?_
      refine ji_if_le (tgt := 45) dX8_annotation_38 rfl (by omega) (fun c38 => ?_) (fun c38 => ?_)
      · try (exfalso; omega)
        all_goals
          refine ji_aload_n dX8_annotation_45 rfl trivial ?_
          refine ji_iload_n dX8_annotation_46 rfl ?_
          refine ji_iload_n dX8_annotation_47 rfl ?_
          exfalso; omega
      · try (exfalso; omega)
        all_goals
          refine ji_iconst dX8_annotation_41 ?_
          refine ji_goto (tgt := 51) dX8_annotation_42 rfl ?_
          exact ji_ireturn dX8_annotation_51 rfl (rfl) ⟨jr_i (by first | rfl | omega), rfl⟩

set_option maxHeartbeats 4000000 in
set_option maxRecDepth 100000 in
theorem r_annotation (hrf : rf_ok wi ht z nl nt sy) {k : Int} (hk9 : 0 ≤ k ∧ k < z 14) {v : Int} (hx : 0 ≤ v ∧ v < 6) : JR G (d + 9) mX8_annotation [.ref 60, .int (jI k), .int (jI v)] (n, rf_f f th z kp ed nt nl wi ht sy sz bf rs rr rq rp mm ln lo lf lt co ro pg pf hsh) 0 0 (some (.int (jI (rf_AN z ((rf_LL z nl nt sy wi lo lf lt).1) ((rf_LL z nl nt sy wi lo lf lt).2.1) ((rf_LL z nl nt sy wi lo lf lt).2.2.1) ((rf_PG z nl nt sy wi ht (rf_LL z nl nt sy wi lo lf lt).1 (rf_LL z nl nt sy wi lo lf lt).2.1 (rf_LL z nl nt sy wi lo lf lt).2.2.1 (rf_LL z nl nt sy wi lo lf lt).2.2.2 pf).1) (va_up (rf_PG z nl nt sy wi ht (rf_LL z nl nt sy wi lo lf lt).1 (rf_LL z nl nt sy wi lo lf lt).2.1 (rf_LL z nl nt sy wi lo lf lt).2.2.1 (rf_LL z nl nt sy wi lo lf lt).2.2.2 pf).2 (rf_PG z nl nt sy wi ht (rf_LL z nl nt sy wi lo lf lt).1 (rf_LL z nl nt sy wi lo lf lt).2.1 (rf_LL z nl nt sy wi lo lf lt).2.2.1 (rf_LL z nl nt sy wi lo lf lt).2.2.2 pf).1.toNat (rf_LL z nl nt sy wi lo lf lt).1) k v)))) (n, rf_f f 0 z kp ed nt nl wi ht sy sz bf rs rr rq rp mm ((rf_LL z nl nt sy wi lo lf lt).1) ((rf_LL z nl nt sy wi lo lf lt).2.1) ((rf_LL z nl nt sy wi lo lf lt).2.2.1) ((rf_LL z nl nt sy wi lo lf lt).2.2.2) wi ht ((rf_PG z nl nt sy wi ht (rf_LL z nl nt sy wi lo lf lt).1 (rf_LL z nl nt sy wi lo lf lt).2.1 (rf_LL z nl nt sy wi lo lf lt).2.2.1 (rf_LL z nl nt sy wi lo lf lt).2.2.2 pf).1) (va_up (rf_PG z nl nt sy wi ht (rf_LL z nl nt sy wi lo lf lt).1 (rf_LL z nl nt sy wi lo lf lt).2.1 (rf_LL z nl nt sy wi lo lf lt).2.2.1 (rf_LL z nl nt sy wi lo lf lt).2.2.2 pf).2 (rf_PG z nl nt sy wi ht (rf_LL z nl nt sy wi lo lf lt).1 (rf_LL z nl nt sy wi lo lf lt).2.1 (rf_LL z nl nt sy wi lo lf lt).2.2.1 (rf_LL z nl nt sy wi lo lf lt).2.2.2 pf).1.toNat (rf_LL z nl nt sy wi lo lf lt).1) hsh) := by
  obtain ⟨hz, hn, hk, hrc, ⟨hw9, hh9⟩, ⟨hm9, hj9⟩, hll⟩ := id hrf
  have zb := hz.2.1
  have hF := (hll wi lo lf lt (by omega)).2
  have hl1 := (hll wi lo lf lt (by omega)).1
  have hc9 : 0 ≤ wi ∧ wi ≤ 100 := by omega
  have hro : 0 ≤ ht ∧ ht ≤ 100 := by omega
  have hrl := rf_LL_ok hz hF
  have hpk := rf_PG_ok z nl nt sy wi ht (rf_LL z nl nt sy wi lo lf lt).2.1 (rf_LL z nl nt sy wi lo lf lt).2.2.1 (rf_LL z nl nt sy wi lo lf lt).2.2.2 pf (ln := (rf_LL z nl nt sy wi lo lf lt).1) (by omega)
  have hpp := hpk.pos (by omega)
  have hpl := hpk.1
  have wk := rf_in_d k 0 (z 14 - 1)
  have w_v_0_5 := rf_in_d v 0 5
  refine ji_ent (by decide) rfl (Nat.le_of_ble_eq_true rfl) rfl ?_
  refine ji_aload_n dX8_annotation_0 rfl trivial ?_
  refine ji_aload_n dX8_annotation_1 rfl trivial ?_
  refine ji_iload_n dX8_annotation_2 rfl ?_
  refine ji_cV dX8_annotation_3 (r_isAnnotation hm9 (by omega)) rfl (rf_60) rfl rfl wX8_isAnnotation vX8_isAnnotation lX8_284 rfl (Nat.le_of_ble_eq_true rfl) rfl ?_
  refine ji_if_ne (tgt := 13) dX8_annotation_6 rfl (by omega) (fun c6 => ?_) (fun c6 => ?_)
  · try (exfalso; omega)
    all_goals
      refine ji_iload_n dX8_annotation_13 rfl ?_
      refine ji_iconst dX8_annotation_14 ?_
      refine ji_iconst dX8_annotation_15 ?_
      refine ji_cS dX8_annotation_16 (r_within (by omega) (by omega) (by omega)) rfl wX8_within sX8_within lX8_50 rfl (Nat.le_of_ble_eq_true rfl) rfl ?_
      refine ji_if_eq (tgt := 26) dX8_annotation_19 rfl (by omega) (fun c19 => ?_) (fun c19 => ?_)
      · try (exfalso; omega)
        all_goals
          refine ji_iconst dX8_annotation_26 ?_
          refine ji_putE (ci := 8) (k := 0) rfl dX8_annotation_27 lX8_47 (by decide) (rf_60) (by simp [rf_c]) (ji_fitI _) rfl (rf_pth) ?_
          refine ji_aload_n dX8_annotation_30 rfl trivial ?_
          refine ji_cVv dX8_annotation_31 (r_layAll hz hn hk hrc (by omega) (by omega) hF) rfl (rf_60) rfl rfl wX8_layAll vX8_layAll lX8_189 rfl (Nat.le_of_ble_eq_true rfl) rfl ?_
          refine ji_aload_n dX8_annotation_34 rfl trivial ?_
          refine ji_get (ci := 8) (k := 0) rfl dX8_annotation_35 lX8_47 (by decide) (rf_60) rfl ?_
          refine ji_if_le (tgt := 45) dX8_annotation_38 rfl (by omega) (fun c38 => ?_) (fun c38 => ?_)
          · try (exfalso; omega)
            all_goals
              refine ji_aload_n dX8_annotation_45 rfl trivial ?_
              refine ji_iload_n dX8_annotation_46 rfl ?_
              refine ji_iload_n dX8_annotation_47 rfl ?_
              refine ji_cV dX8_annotation_48 (r_annotationNow hz hrl hpk hl1 hm9 (by omega) (by omega)) rfl (rf_60) rfl rfl wX8_annotationNow vX8_annotationNow lX8_287 rfl (Nat.le_of_ble_eq_true rfl) rfl ?_
              exact ji_ireturn dX8_annotation_51 rfl (rfl) ⟨rfl, rfl⟩
          · try (exfalso; omega)
            all_goals
              refine ji_iconst dX8_annotation_41 ?_
              refine ji_goto (tgt := 51) dX8_annotation_42 rfl ?_
              exact ji_ireturn dX8_annotation_51 rfl (rfl) ⟨rfl, rfl⟩
      · try (exfalso; omega)
        all_goals
          refine ji_iconst dX8_annotation_22 ?_
          refine ji_goto (tgt := 27) dX8_annotation_23 rfl ?_
          refine ji_putE (ci := 8) (k := 0) rfl dX8_annotation_27 lX8_47 (by decide) (rf_60) (by simp [rf_c]) (ji_fitI _) rfl (rf_pth) ?_
          refine ji_aload_n dX8_annotation_30 rfl trivial ?_
          refine ji_cVv dX8_annotation_31 (r_layAll hz hn hk hrc (by omega) (by omega) hF) rfl (rf_60) rfl rfl wX8_layAll vX8_layAll lX8_189 rfl (Nat.le_of_ble_eq_true rfl) rfl ?_
          refine ji_aload_n dX8_annotation_34 rfl trivial ?_
          refine ji_get (ci := 8) (k := 0) rfl dX8_annotation_35 lX8_47 (by decide) (rf_60) rfl ?_
          refine ji_if_le (tgt := 45) dX8_annotation_38 rfl (by omega) (fun c38 => ?_) (fun c38 => ?_)
          · try (exfalso; omega)
            all_goals
              refine ji_aload_n dX8_annotation_45 rfl trivial ?_
              refine ji_iload_n dX8_annotation_46 rfl ?_
              refine ji_iload_n dX8_annotation_47 rfl ?_
              refine ji_cV dX8_annotation_48 (r_annotationNow hz hrl hpk hl1 hm9 (by omega) (by omega)) rfl (rf_60) rfl rfl wX8_annotationNow vX8_annotationNow lX8_287 rfl (Nat.le_of_ble_eq_true rfl) rfl ?_
              exact ji_ireturn dX8_annotation_51 rfl (rfl) ⟨rfl, rfl⟩
          · try (exfalso; omega)
            all_goals
              refine ji_iconst dX8_annotation_41 ?_
              refine ji_goto (tgt := 51) dX8_annotation_42 rfl ?_
              exact ji_ireturn dX8_annotation_51 rfl (rfl) ⟨rfl, rfl⟩
  · try (exfalso; omega)
    all_goals
      refine ji_iconst dX8_annotation_9 ?_
      refine ji_goto (tgt := 27) dX8_annotation_10 rfl ?_
      refine ji_putE (ci := 8) (k := 0) rfl dX8_annotation_27 lX8_47 (by decide) (rf_60) (by simp [rf_c]) (ji_fitI _) rfl (rf_pth) ?_
      refine ji_aload_n dX8_annotation_30 rfl trivial ?_
      refine ji_cVv dX8_annotation_31 (r_layAll hz hn hk hrc (by omega) (by omega) hF) rfl (rf_60) rfl rfl wX8_layAll vX8_layAll lX8_189 rfl (Nat.le_of_ble_eq_true rfl) rfl ?_
      refine ji_aload_n dX8_annotation_34 rfl trivial ?_
      refine ji_get (ci := 8) (k := 0) rfl dX8_annotation_35 lX8_47 (by decide) (rf_60) rfl ?_
      refine ji_if_le (tgt := 45) dX8_annotation_38 rfl (by omega) (fun c38 => ?_) (fun c38 => ?_)
      · try (exfalso; omega)
        all_goals
          refine ji_aload_n dX8_annotation_45 rfl trivial ?_
          refine ji_iload_n dX8_annotation_46 rfl ?_
          refine ji_iload_n dX8_annotation_47 rfl ?_
          refine ji_cV dX8_annotation_48 (r_annotationNow hz hrl hpk hl1 hm9 (by omega) (by omega)) rfl (rf_60) rfl rfl wX8_annotationNow vX8_annotationNow lX8_287 rfl (Nat.le_of_ble_eq_true rfl) rfl ?_
          exact ji_ireturn dX8_annotation_51 rfl (rfl) ⟨rfl, rfl⟩
      · try (exfalso; omega)
        all_goals
          refine ji_iconst dX8_annotation_41 ?_
          refine ji_goto (tgt := 51) dX8_annotation_42 rfl ?_
          exact ji_ireturn dX8_annotation_51 rfl (rfl) ⟨rfl, rfl⟩

set_option maxHeartbeats 4000000 in
set_option maxRecDepth 100000 in
theorem r_removeAnnotation1 (hm9 : 0 ≤ z 14 ∧ z 14 ≤ 12) {k : Int} (b_k : -2147483648 ≤ k ∧ k < 2147483648) (hx : k < 0 ∨ z 14 ≤ k) : JR G (d + 2) mX8_removeAnnotation [.ref 60, .int (jI k)] (n, rf_f f th z kp ed nt nl wi ht sy sz bf rs rr rq rp mm ln lo lf lt co ro pg pf hsh) 0 0 (some (.int (jI 0))) (n, rf_f f 1 z kp ed nt nl wi ht sy sz bf rs rr rq rp mm ln lo lf lt co ro pg pf hsh) := by
  have wk := rf_in_d k 0 (z 14 - 1)
  refine ji_ent (by decide) rfl (Nat.le_of_ble_eq_true rfl) rfl ?_
  refine ji_aload_n dX8_removeAnnotation_0 rfl trivial ?_
  refine ji_aload_n dX8_removeAnnotation_1 rfl trivial ?_
  refine ji_iload_n dX8_removeAnnotation_2 rfl ?_
  refine ji_cV dX8_removeAnnotation_3 (r_isAnnotation hm9 (by omega)) rfl (rf_60) rfl rfl wX8_isAnnotation vX8_isAnnotation lX8_284 rfl (Nat.le_of_ble_eq_true rfl) rfl ?_
  refine ji_if_eq (tgt := 13) dX8_removeAnnotation_6 rfl (by omega) (fun c6 => ?_) (fun c6 => ?_)
  · try (exfalso; omega)
    all_goals
      refine ji_iconst dX8_removeAnnotation_13 ?_
      refine ji_putE (ci := 8) (k := 0) rfl dX8_removeAnnotation_14 lX8_47 (by decide) (rf_60) (by simp [rf_c]) (ji_fitI _) rfl (rf_pth) ?_
      refine ji_aload_n dX8_removeAnnotation_17 rfl trivial ?_
      refine ji_get (ci := 8) (k := 0) rfl dX8_removeAnnotation_18 lX8_47 (by decide) (rf_60) rfl ?_
      refine ji_if_le (tgt := 26) dX8_removeAnnotation_21 rfl (by omega) (fun c21 => ?_) (fun c21 => ?_)
      · try (exfalso; omega)
        all_goals
          exfalso; omega
      · try (exfalso; omega)
        all_goals
          refine ji_iconst dX8_removeAnnotation_24 ?_
          exact ji_ireturn dX8_removeAnnotation_25 rfl (rfl) ⟨jr_i (by first | rfl | omega), rfl⟩
  · try (exfalso; omega)
    all_goals
      refine ji_iconst dX8_removeAnnotation_9 ?_
      refine ji_goto (tgt := 14) dX8_removeAnnotation_10 rfl ?_
      refine ji_putE (ci := 8) (k := 0) rfl dX8_removeAnnotation_14 lX8_47 (by decide) (rf_60) (by simp [rf_c]) (ji_fitI _) rfl (rf_pth) ?_
      refine ji_aload_n dX8_removeAnnotation_17 rfl trivial ?_
      refine ji_get (ci := 8) (k := 0) rfl dX8_removeAnnotation_18 lX8_47 (by decide) (rf_60) rfl ?_
      refine ji_if_le (tgt := 26) dX8_removeAnnotation_21 rfl (by omega) (fun c21 => ?_) (fun c21 => ?_)
      · try (exfalso; omega)
        all_goals
          exfalso; omega
      · try (exfalso; omega)
        all_goals
          refine ji_iconst dX8_removeAnnotation_24 ?_
          exact ji_ireturn dX8_removeAnnotation_25 rfl (rfl) ⟨jr_i (by first | rfl | omega), rfl⟩

set_option maxHeartbeats 4000000 in
set_option maxRecDepth 100000 in
theorem r_removeAnnotation_l {bc bs : Nat} {k : Int} (hm9 : 0 ≤ z 14 ∧ z 14 ≤ 12) (hk9 : 0 ≤ k ∧ k < z 14) : ∀ (u : Nat) (i : Int), 15 + 5 * k ≤ i ∧ i + u = 10 + 5 * z 14 →
    JW G d mX8_removeAnnotation 33 [some (.ref 60), some (.int (jI k)), some (.int (jI i))] [] (n, rf_f f th (rf_rm z (15 + 5 * k) (i - (15 + 5 * k)).toNat) kp ed nt nl wi ht sy sz bf rs rr rq rp mm ln lo lf lt co ro pg pf hsh) bc bs (fun r9 h9 => r9 = .inl (some (.int (jI (rf_RM z k 14)))) ∧ h9 = (n, rf_f f th (rf_RM z k) kp ed nt nl wi ht sy sz bf rs rr rq rp mm ln lo lf lt co ro pg pf hsh)) := by
  intro u
  induction u with
  | zero =>
    intro i hi
    have e14 := rf_rm_14 z (s := 15 + 5 * k) (by omega) (i - (15 + 5 * k)).toNat
    refine ji_iload_n dX8_removeAnnotation_33 rfl ?_
    refine ji_bipush dX8_removeAnnotation_34 rfl ?_
    refine ji_iconst dX8_removeAnnotation_36 ?_
    refine ji_aload_n dX8_removeAnnotation_37 rfl trivial ?_
    refine ji_get (ci := 8) (k := 1) rfl dX8_removeAnnotation_38 lX8_7 (by decide) (rf_60) rfl ?_
    refine ji_bipush dX8_removeAnnotation_41 rfl ?_
    refine ji_ialoadK (k := 14) dX8_removeAnnotation_43 (rf_61) rfl (by decide) ?_
    refine ji_imul dX8_removeAnnotation_44 ?_
    refine ji_iadd dX8_removeAnnotation_45 ?_
    refine ji_iconst dX8_removeAnnotation_46 ?_
    refine ji_isub dX8_removeAnnotation_47 ?_
    refine ji_icmp_ge (tgt := 71) dX8_removeAnnotation_48 rfl (by omega) (by omega) (fun c48 => ?_) (fun c48 => absurd c48 (by omega))
    refine ji_aload_n dX8_removeAnnotation_71 rfl trivial ?_
    refine ji_get (ci := 8) (k := 1) rfl dX8_removeAnnotation_72 lX8_7 (by decide) (rf_60) rfl ?_
    refine ji_bipush dX8_removeAnnotation_75 rfl ?_
    refine ji_dup2 dX8_removeAnnotation_77 rfl rfl ?_
    refine ji_ialoadK (k := 14) dX8_removeAnnotation_78 (rf_61) rfl (by decide) ?_
    refine ji_iconst dX8_removeAnnotation_79 ?_
    refine ji_isub dX8_removeAnnotation_80 ?_
    refine ji_iastoreK (k := 14) dX8_removeAnnotation_81 (rf_61) rfl (by decide) (rf_s61) ?_
    refine ji_aload_n dX8_removeAnnotation_82 rfl trivial ?_
    refine ji_get (ci := 8) (k := 1) rfl dX8_removeAnnotation_83 lX8_7 (by decide) (rf_60) rfl ?_
    refine ji_bipush dX8_removeAnnotation_86 rfl ?_
    refine ji_ialoadK (k := 14) dX8_removeAnnotation_88 (rf_61) rfl (by decide) ?_
    exact ji_ireturn dX8_removeAnnotation_89 rfl (rfl) ⟨by unfold rf_RM; rw [show (i - (15 + 5 * k)).toNat = (5 * z 14 - 5 - 5 * k).toNat by omega], by unfold rf_RM; rw [show (i - (15 + 5 * k)).toNat = (5 * z 14 - 5 - 5 * k).toNat by omega]⟩
  | succ u ih =>
    intro i hi
    have e14 := rf_rm_14 z (s := 15 + 5 * k) (by omega) (i - (15 + 5 * k)).toNat
    refine ji_iload_n dX8_removeAnnotation_33 rfl ?_
    refine ji_bipush dX8_removeAnnotation_34 rfl ?_
    refine ji_iconst dX8_removeAnnotation_36 ?_
    refine ji_aload_n dX8_removeAnnotation_37 rfl trivial ?_
    refine ji_get (ci := 8) (k := 1) rfl dX8_removeAnnotation_38 lX8_7 (by decide) (rf_60) rfl ?_
    refine ji_bipush dX8_removeAnnotation_41 rfl ?_
    refine ji_ialoadK (k := 14) dX8_removeAnnotation_43 (rf_61) rfl (by decide) ?_
    refine ji_imul dX8_removeAnnotation_44 ?_
    refine ji_iadd dX8_removeAnnotation_45 ?_
    refine ji_iconst dX8_removeAnnotation_46 ?_
    refine ji_isub dX8_removeAnnotation_47 ?_
    refine ji_icmp_ge (tgt := 71) dX8_removeAnnotation_48 rfl (by omega) (by omega) (fun c48 => absurd c48 (by omega)) (fun c48 => ?_)
    refine ji_aload_n dX8_removeAnnotation_51 rfl trivial ?_
    refine ji_get (ci := 8) (k := 1) rfl dX8_removeAnnotation_52 lX8_7 (by decide) (rf_60) rfl ?_
    refine ji_iload_n dX8_removeAnnotation_55 rfl ?_
    refine ji_aload_n dX8_removeAnnotation_56 rfl trivial ?_
    refine ji_get (ci := 8) (k := 1) rfl dX8_removeAnnotation_57 lX8_7 (by decide) (rf_60) rfl ?_
    refine ji_iload_n dX8_removeAnnotation_60 rfl ?_
    refine ji_iconst dX8_removeAnnotation_61 ?_
    refine ji_iadd dX8_removeAnnotation_62 ?_
    refine ji_iaload dX8_removeAnnotation_63 (rf_61) (by omega) ?_
    refine ji_iastoreE dX8_removeAnnotation_64 (rf_61) (by omega) (rf_s61) ?_
    refine ji_iinc dX8_removeAnnotation_65 (by decide) rfl rfl ?_
    refine ji_goto (tgt := 33) dX8_removeAnnotation_68 rfl ?_
    exact ji_eqv (ih (i + 1) (by omega)) rfl rfl (by rw [show (i + 1 - (15 + 5 * k)).toNat = (i - (15 + 5 * k)).toNat + 1 by omega, rf_rm, show (15 + 5 * k + (((i - (15 + 5 * k)).toNat : Nat) : Int)).toNat = i.toNat by omega, show (15 + 5 * k + (((i - (15 + 5 * k)).toNat : Nat) : Int) + 5).toNat = (i + 5).toNat by omega])

set_option maxHeartbeats 4000000 in
set_option maxRecDepth 100000 in
theorem r_removeAnnotation (hm9 : 0 ≤ z 14 ∧ z 14 ≤ 12) {k : Int} (hk9 : 0 ≤ k ∧ k < z 14) : JR G (d + 2) mX8_removeAnnotation [.ref 60, .int (jI k)] (n, rf_f f th z kp ed nt nl wi ht sy sz bf rs rr rq rp mm ln lo lf lt co ro pg pf hsh) 0 0 (some (.int (jI (rf_RM z k 14)))) (n, rf_f f 0 (rf_RM z k) kp ed nt nl wi ht sy sz bf rs rr rq rp mm ln lo lf lt co ro pg pf hsh) := by
  have wk := rf_in_d k 0 (z 14 - 1)
  refine ji_ent (by decide) rfl (Nat.le_of_ble_eq_true rfl) rfl ?_
  refine ji_aload_n dX8_removeAnnotation_0 rfl trivial ?_
  refine ji_aload_n dX8_removeAnnotation_1 rfl trivial ?_
  refine ji_iload_n dX8_removeAnnotation_2 rfl ?_
  refine ji_cV dX8_removeAnnotation_3 (r_isAnnotation hm9 (by omega)) rfl (rf_60) rfl rfl wX8_isAnnotation vX8_isAnnotation lX8_284 rfl (Nat.le_of_ble_eq_true rfl) rfl ?_
  refine ji_if_eq (tgt := 13) dX8_removeAnnotation_6 rfl (by omega) (fun c6 => ?_) (fun c6 => ?_)
  · try (exfalso; omega)
    all_goals
      refine ji_iconst dX8_removeAnnotation_13 ?_
      refine ji_putE (ci := 8) (k := 0) rfl dX8_removeAnnotation_14 lX8_47 (by decide) (rf_60) (by simp [rf_c]) (ji_fitI _) rfl (rf_pth) ?_
      refine ji_aload_n dX8_removeAnnotation_17 rfl trivial ?_
      refine ji_get (ci := 8) (k := 0) rfl dX8_removeAnnotation_18 lX8_47 (by decide) (rf_60) rfl ?_
      refine ji_if_le (tgt := 26) dX8_removeAnnotation_21 rfl (by omega) (fun c21 => ?_) (fun c21 => ?_)
      · try (exfalso; omega)
        all_goals
          refine ji_bipush dX8_removeAnnotation_26 rfl ?_
          refine ji_iconst dX8_removeAnnotation_28 ?_
          refine ji_iload_n dX8_removeAnnotation_29 rfl ?_
          refine ji_imul dX8_removeAnnotation_30 ?_
          refine ji_iadd dX8_removeAnnotation_31 ?_
          refine ji_istore_n dX8_removeAnnotation_32 (by decide) rfl ?_
          exact ji_eqv (r_removeAnnotation_l hm9 hk9 (5 * z 14 - 5 - 5 * k).toNat (15 + 5 * k) (by omega)) rfl rfl (by rw [show (15 + 5 * k - (15 + 5 * k)).toNat = 0 by omega, rf_rm])
      · try (exfalso; omega)
        all_goals
          refine ji_iconst dX8_removeAnnotation_24 ?_
          exact ji_ireturn dX8_removeAnnotation_25 rfl (rfl) ⟨jr_i (by first | rfl | omega), rfl⟩
  · try (exfalso; omega)
    all_goals
      refine ji_iconst dX8_removeAnnotation_9 ?_
      refine ji_goto (tgt := 14) dX8_removeAnnotation_10 rfl ?_
      refine ji_putE (ci := 8) (k := 0) rfl dX8_removeAnnotation_14 lX8_47 (by decide) (rf_60) (by simp [rf_c]) (ji_fitI _) rfl (rf_pth) ?_
      refine ji_aload_n dX8_removeAnnotation_17 rfl trivial ?_
      refine ji_get (ci := 8) (k := 0) rfl dX8_removeAnnotation_18 lX8_47 (by decide) (rf_60) rfl ?_
      refine ji_if_le (tgt := 26) dX8_removeAnnotation_21 rfl (by omega) (fun c21 => ?_) (fun c21 => ?_)
      · try (exfalso; omega)
        all_goals
          refine ji_bipush dX8_removeAnnotation_26 rfl ?_
          refine ji_iconst dX8_removeAnnotation_28 ?_
          refine ji_iload_n dX8_removeAnnotation_29 rfl ?_
          refine ji_imul dX8_removeAnnotation_30 ?_
          refine ji_iadd dX8_removeAnnotation_31 ?_
          refine ji_istore_n dX8_removeAnnotation_32 (by decide) rfl ?_
          exact ji_eqv (r_removeAnnotation_l hm9 hk9 (5 * z 14 - 5 - 5 * k).toNat (15 + 5 * k) (by omega)) rfl rfl (by rw [show (15 + 5 * k - (15 + 5 * k)).toNat = 0 by omega, rf_rm])
      · try (exfalso; omega)
        all_goals
          refine ji_iconst dX8_removeAnnotation_24 ?_
          exact ji_ireturn dX8_removeAnnotation_25 rfl (rfl) ⟨jr_i (by first | rfl | omega), rfl⟩

end RF
