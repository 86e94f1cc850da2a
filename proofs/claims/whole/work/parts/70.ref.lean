/-! ===== the reference: split and join ===== -/
def rf_SA (z : Nat → Int) (m q x : Int) : Nat → Int :=
  if x ≤ z (m + 1).toNat then va_up (va_up (va_up z m.toNat (q + 1)) (m + 1).toNat (z (m + 1).toNat - x)) (m + 2).toNat (z (m + 2).toNat - x)
  else va_up (va_up (va_up z (m + 1).toNat (dv_m (z (m + 1).toNat) x)) (m + 2).toNat (dv_m (z (m + 2).toNat) x)) (m + 4).toNat (if dv_m (z (m + 1).toNat) x = dv_m (z (m + 2).toNat) x then 1 else 0)
def rf_D1 (z : Nat → Int) (q : Int) : Nat → Int := rf_RN z (q + 1) 1
def rf_D2 (z : Nat → Int) (q : Int) : Nat → Int := rf_pu (rf_D1 z q) (q + 1).toNat (rf_D1 z q 0).toNat
def rf_D3 (z : Nat → Int) (q : Int) : Nat → Int := va_up (rf_D2 z q) 0 (rf_D2 z q 0 + 1)
def rf_D4 (z : Nat → Int) (q : Int) : Nat → Int := va_up (rf_D3 z q) (75 + q + 1).toNat (if rf_D3 z q (75 + q).toNat = 1 then 0 else rf_D3 z q (75 + q).toNat)
def rf_D5 (z : Nat → Int) (q x : Int) : Nat → Int := va_up (rf_D4 z q) (85 + q + 1).toNat (rf_D4 z q (85 + q).toNat - x)
def rf_D6 (z : Nat → Int) (q x : Int) : Nat → Int := va_cpy (rf_D5 z q x) (rf_D5 z q x) (95 + 360 * q + x).toNat (95 + 360 * (q + 1)).toNat (rf_D5 z q x (85 + q).toNat - x).toNat
def rf_D7 (z : Nat → Int) (q x : Int) : Nat → Int := va_up (rf_D6 z q x) (85 + q).toNat (x - 1)
def rf_D8 (z : Nat → Int) (q x : Int) : Nat → Int := rf_pl (dv_a q x) (dv_b q x) (rf_D7 z q x) (rf_D7 z q x 3 + 1).toNat
def rf_DV (z : Nat → Int) (q x : Int) : Nat → Int := rf_mk (dv_0 q x) (dv_1 q x) (dv_2 q x) (dv_4 q x) (rf_D8 z q x) (rf_D8 z q x 14).toNat
def rf_U1 (z : Nat → Int) (q : Int) : Nat → Int := va_up z (95 + 360 * q + z (85 + q).toNat).toNat 32
def rf_U2 (z : Nat → Int) (q : Int) : Nat → Int := va_cpy (rf_U1 z q) (rf_U1 z q) (95 + 360 * (q + 1)).toNat (95 + 360 * q + z (85 + q).toNat + 1).toNat (rf_U1 z q (85 + q + 1).toNat).toNat
def rf_U3 (z : Nat → Int) (q : Int) : Nat → Int := va_up (rf_U2 z q) (85 + q).toNat (z (85 + q).toNat + 1 + rf_U2 z q (85 + q + 1).toNat)
def rf_U4 (z : Nat → Int) (q : Int) : Nat → Int := rf_pl id_a (un_b q (z (85 + q).toNat)) (rf_U3 z q) (rf_U3 z q 3 + 1).toNat
def rf_U5 (z : Nat → Int) (q : Int) : Nat → Int := rf_mk id_0 (un_1 q (z (85 + q).toNat)) (un_2 q (z (85 + q).toNat)) id_4 (rf_U4 z q) (rf_U4 z q 14).toNat
def rf_U6 (z : Nat → Int) (q : Int) : Nat → Int := rf_RN (rf_U5 z q) (q + 1) (-1)
def rf_U7 (z : Nat → Int) (q : Int) : Nat → Int := rf_pd (rf_U6 z q) (q + 1).toNat (rf_U6 z q 0 - 1).toNat
def rf_UN (z : Nat → Int) (q : Int) : Nat → Int := va_up (rf_U7 z q) 0 (rf_U7 z q 0 - 1)
theorem rf_RN_l {z : Nat → Int} {q m : Int} (h3 : 0 ≤ z 3 ∧ z 3 ≤ 5) (h14 : 0 ≤ z 14 ∧ z 14 ≤ 12) {j : Nat} (hj : j = 0 ∨ j = 3 ∨ j = 14 ∨ 75 ≤ j) : rf_RN z q m j = z j := by
  unfold rf_RN
  have e : rf_pl (rn_a q m) id_b z (z 3 + 1).toNat 14 = z 14 := rf_pl_h (by omega) (by omega)
  rw [e, rf_mk_r (by omega), rf_pl_h (by omega) (by omega)]
theorem rf_mk_b {g0 g1 g2 g4 : rf_G} {z : Nat → Int} {x y : Int} (h : ∀ j, -x ≤ z j ∧ z j ≤ x) (hxy : x ≤ y) (h0 : ∀ a b c d, -x ≤ a ∧ a ≤ x → -x ≤ b ∧ b ≤ x → -x ≤ c ∧ c ≤ x → -x ≤ d ∧ d ≤ x → -y ≤ g0 a b c d ∧ g0 a b c d ≤ y) (h1 : ∀ a b c d, -x ≤ a ∧ a ≤ x → -x ≤ b ∧ b ≤ x → -x ≤ c ∧ c ≤ x → -x ≤ d ∧ d ≤ x → -y ≤ g1 a b c d ∧ g1 a b c d ≤ y) (h2 : ∀ a b c d, -x ≤ a ∧ a ≤ x → -x ≤ b ∧ b ≤ x → -x ≤ c ∧ c ≤ x → -x ≤ d ∧ d ≤ x → -y ≤ g2 a b c d ∧ g2 a b c d ≤ y) (h4 : ∀ a b c d, -x ≤ a ∧ a ≤ x → -x ≤ b ∧ b ≤ x → -x ≤ c ∧ c ≤ x → -x ≤ d ∧ d ≤ x → -y ≤ g4 a b c d ∧ g4 a b c d ≤ y) (i j : Nat) : -y ≤ rf_mk g0 g1 g2 g4 z i j ∧ rf_mk g0 g1 g2 g4 z i j ≤ y := by
  have hj := h j
  unfold rf_mk
  split
  · split
    · exact h0 _ _ _ _ (h _) (h _) (h _) (h _)
    · split
      · exact h1 _ _ _ _ (h _) (h _) (h _) (h _)
      · split
        · exact h2 _ _ _ _ (h _) (h _) (h _) (h _)
        · split
          · exact h4 _ _ _ _ (h _) (h _) (h _) (h _)
          · omega
  · omega
theorem rf_RN_b {z : Nat → Int} {q m x : Int} (hm : -1 ≤ m ∧ m ≤ 1) (h : ∀ j, -x ≤ z j ∧ z j ≤ x) (j : Nat) : -(x + 2) ≤ rf_RN z q m j ∧ rf_RN z q m j ≤ x + 2 := by
  unfold rf_RN
  exact rf_mk_b (x := x + 1) (rf_pl_b h (by omega) (fun u v a _ => rn_ab hm u v a) (fun u v _ b => by unfold id_b; omega) _) (by omega) (fun a b c d h1 _ _ _ => by unfold rn_0; split <;> omega) (fun a b c d _ h1 _ _ => by unfold id_1; omega) (fun a b c d _ _ h1 _ => by unfold id_2; omega) (fun a b c d _ _ _ h1 => by unfold id_4; omega) _ j
section RF
variable {G : ji_G} {d n : Nat} {f : Nat → ji_C} {th ed wi ht sz rs rr rq rp mm ln co ro pg : Int} {z kp nt nl sy bf lo lf lt pf : Nat → Int} {hsh : Int64}
set_option maxHeartbeats 4000000 in
set_option maxRecDepth 100000 in
theorem r_copyParagraph_l {bc bs : Nat} {t s : Int} (ht9 : 0 ≤ t ∧ t < 10) (hs9 : 0 ≤ s ∧ s < 10) (hts : ¬ t = s) : ∀ (u : Nat) (k : Int), 0 ≤ k ∧ k + u = 360 →
    JW G d mX8_copyParagraph 38 [some (.ref 60), some (.int (jI t)), some (.int (jI s)), some (.int (jI k))] [] (n, rf_f f th (va_cpy z z (95 + 360 * s).toNat (95 + 360 * t).toNat k.toNat) kp ed nt nl wi ht sy sz bf rs rr rq rp mm ln lo lf lt co ro pg pf hsh) bc bs (fun r9 h9 => r9 = .inl none ∧ h9 = (n, rf_f f th (va_cpy z z (95 + 360 * s).toNat (95 + 360 * t).toNat 360) kp ed nt nl wi ht sy sz bf rs rr rq rp mm ln lo lf lt co ro pg pf hsh)) := by
  intro u
  induction u with
  | zero =>
    intro k hk
    refine ji_iload_n dX8_copyParagraph_38 rfl ?_
    refine ji_sipush dX8_copyParagraph_39 rfl ?_
    refine ji_icmp_ge (tgt := 81) dX8_copyParagraph_42 rfl (by omega) (by omega) (fun c42 => ?_) (fun c42 => absurd c42 (by omega))
    exact ji_return dX8_copyParagraph_81 rfl ⟨rfl, by rw [show k.toNat = 360 by omega]⟩
  | succ u ih =>
    intro k hk
    refine ji_iload_n dX8_copyParagraph_38 rfl ?_
    refine ji_sipush dX8_copyParagraph_39 rfl ?_
    refine ji_icmp_ge (tgt := 81) dX8_copyParagraph_42 rfl (by omega) (by omega) (fun c42 => absurd c42 (by omega)) (fun c42 => ?_)
    refine ji_aload_n dX8_copyParagraph_45 rfl trivial ?_
    refine ji_get (ci := 8) (k := 1) rfl dX8_copyParagraph_46 lX8_7 (by decide) (rf_60) rfl ?_
    refine ji_bipush dX8_copyParagraph_49 rfl ?_
    refine ji_sipush dX8_copyParagraph_51 rfl ?_
    refine ji_iload_n dX8_copyParagraph_54 rfl ?_
    refine ji_imul dX8_copyParagraph_55 ?_
    refine ji_iadd dX8_copyParagraph_56 ?_
    refine ji_iload_n dX8_copyParagraph_57 rfl ?_
    refine ji_iadd dX8_copyParagraph_58 ?_
    refine ji_aload_n dX8_copyParagraph_59 rfl trivial ?_
    refine ji_get (ci := 8) (k := 1) rfl dX8_copyParagraph_60 lX8_7 (by decide) (rf_60) rfl ?_
    refine ji_bipush dX8_copyParagraph_63 rfl ?_
    refine ji_sipush dX8_copyParagraph_65 rfl ?_
    refine ji_iload_n dX8_copyParagraph_68 rfl ?_
    refine ji_imul dX8_copyParagraph_69 ?_
    refine ji_iadd dX8_copyParagraph_70 ?_
    refine ji_iload_n dX8_copyParagraph_71 rfl ?_
    refine ji_iadd dX8_copyParagraph_72 ?_
    refine ji_iaload dX8_copyParagraph_73 (rf_61) (by omega) ?_
    rw [va_cpy_r (by omega)]
    refine ji_iastoreE dX8_copyParagraph_74 (rf_61) (by omega) (rf_s61) ?_
    refine ji_iinc dX8_copyParagraph_75 (by decide) rfl rfl ?_
    refine ji_goto (tgt := 38) dX8_copyParagraph_78 rfl ?_
    exact ji_eqv (ih (k + 1) (by omega)) rfl rfl (by rw [show (k + 1).toNat = k.toNat + 1 by omega, ← va_cpy_u, show (95 + 360 * t).toNat + k.toNat = (95 + 360 * t + k).toNat by omega, show (95 + 360 * s).toNat + k.toNat = (95 + 360 * s + k).toNat by omega])

set_option maxHeartbeats 4000000 in
set_option maxRecDepth 100000 in
theorem r_copyParagraph {t s : Int} (ht9 : 0 ≤ t ∧ t < 10) (hs9 : 0 ≤ s ∧ s < 10) (hts : ¬ t = s) : JR G d mX8_copyParagraph [.ref 60, .int (jI t), .int (jI s)] (n, rf_f f th z kp ed nt nl wi ht sy sz bf rs rr rq rp mm ln lo lf lt co ro pg pf hsh) 0 0 none (n, rf_f f th (rf_cp z t.toNat s.toNat) kp ed nt nl wi ht sy sz bf rs rr rq rp mm ln lo lf lt co ro pg pf hsh) := by
  have ex := rf_cp_x (z := z) (t := t.toNat) (s := s.toNat) (by omega) (by omega) (by omega)
  rw [← ex, show 75 + t.toNat = (75 + t).toNat by omega, show 75 + s.toNat = (75 + s).toNat by omega, show 85 + t.toNat = (85 + t).toNat by omega, show 85 + s.toNat = (85 + s).toNat by omega, show 95 + 360 * t.toNat = (95 + 360 * t).toNat by omega, show 95 + 360 * s.toNat = (95 + 360 * s).toNat by omega]
  refine ji_ent (by decide) rfl (Nat.le_of_ble_eq_true rfl) rfl ?_
  refine ji_aload_n dX8_copyParagraph_0 rfl trivial ?_
  refine ji_get (ci := 8) (k := 1) rfl dX8_copyParagraph_1 lX8_7 (by decide) (rf_60) rfl ?_
  refine ji_bipush dX8_copyParagraph_4 rfl ?_
  refine ji_iload_n dX8_copyParagraph_6 rfl ?_
  refine ji_iadd dX8_copyParagraph_7 ?_
  refine ji_aload_n dX8_copyParagraph_8 rfl trivial ?_
  refine ji_get (ci := 8) (k := 1) rfl dX8_copyParagraph_9 lX8_7 (by decide) (rf_60) rfl ?_
  refine ji_bipush dX8_copyParagraph_12 rfl ?_
  refine ji_iload_n dX8_copyParagraph_14 rfl ?_
  refine ji_iadd dX8_copyParagraph_15 ?_
  refine ji_iaload dX8_copyParagraph_16 (rf_61) (by omega) ?_
  refine ji_iastoreE dX8_copyParagraph_17 (rf_61) (by omega) (rf_s61) ?_
  refine ji_aload_n dX8_copyParagraph_18 rfl trivial ?_
  refine ji_get (ci := 8) (k := 1) rfl dX8_copyParagraph_19 lX8_7 (by decide) (rf_60) rfl ?_
  refine ji_bipush dX8_copyParagraph_22 rfl ?_
  refine ji_iload_n dX8_copyParagraph_24 rfl ?_
  refine ji_iadd dX8_copyParagraph_25 ?_
  refine ji_aload_n dX8_copyParagraph_26 rfl trivial ?_
  refine ji_get (ci := 8) (k := 1) rfl dX8_copyParagraph_27 lX8_7 (by decide) (rf_60) rfl ?_
  refine ji_bipush dX8_copyParagraph_30 rfl ?_
  refine ji_iload_n dX8_copyParagraph_32 rfl ?_
  refine ji_iadd dX8_copyParagraph_33 ?_
  refine ji_iaload dX8_copyParagraph_34 (rf_61) (by omega) ?_
  refine ji_iastoreE dX8_copyParagraph_35 (rf_61) (by omega) (rf_s61) ?_
  refine ji_iconst dX8_copyParagraph_36 ?_
  refine ji_istore_n dX8_copyParagraph_37 (by decide) rfl ?_
  exact ji_eqv (r_copyParagraph_l (z := (va_up (va_up z (75 + t).toNat (z (75 + s).toNat)) (85 + t).toNat (va_up z (75 + t).toNat (z (75 + s).toNat) (85 + s).toNat))) ht9 hs9 hts 360 0 (by omega)) rfl rfl (by rw [show (0 : Int).toNat = 0 from rfl, va_cpy_0])

set_option maxHeartbeats 4000000 in
set_option maxRecDepth 100000 in
theorem r_splitAnnotation {m q x : Int} (hm : 0 ≤ m ∧ m ≤ 1000) (hx : 0 ≤ x ∧ x ≤ 1000) (hB : ∀ j, -20000 ≤ z j ∧ z j ≤ 20000) : JR G d mX8_splitAnnotation [.ref 60, .int (jI m), .int (jI q), .int (jI x)] (n, rf_f f th z kp ed nt nl wi ht sy sz bf rs rr rq rp mm ln lo lf lt co ro pg pf hsh) 0 0 none (n, rf_f f th (rf_SA z m q x) kp ed nt nl wi ht sy sz bf rs rr rq rp mm ln lo lf lt co ro pg pf hsh) := by
  have b1 := hB (m + 1).toNat
  have b2 := hB (m + 2).toNat
  have s0 : ∀ v, va_up z m.toNat v (m + 1).toNat = z (m + 1).toNat := fun v => va_up_ne _ _ (by omega)
  have s1 : ∀ v w, va_up (va_up z m.toNat v) (m + 1).toNat w (m + 2).toNat = z (m + 2).toNat := fun v w => (va_up_ne _ _ (by omega)).trans (va_up_ne _ _ (by omega))
  have s2 : ∀ v, va_up z (m + 1).toNat v (m + 2).toNat = z (m + 2).toNat := fun v => va_up_ne _ _ (by omega)
  have s3 : ∀ v w, va_up (va_up z (m + 1).toNat v) (m + 2).toNat w (m + 1).toNat = v := fun v w => (va_up_ne _ _ (by omega)).trans (va_up_self _ _ _)
  have d1 : (z (m + 1).toNat < x - 1 ∧ dv_m (z (m + 1).toNat) x = z (m + 1).toNat) ∨ (¬ z (m + 1).toNat < x - 1 ∧ dv_m (z (m + 1).toNat) x = x - 1) := by unfold dv_m; split <;> omega
  have d2 : (z (m + 2).toNat < x - 1 ∧ dv_m (z (m + 2).toNat) x = z (m + 2).toNat) ∨ (¬ z (m + 2).toNat < x - 1 ∧ dv_m (z (m + 2).toNat) x = x - 1) := by unfold dv_m; split <;> omega
  refine ji_ent (by decide) rfl (Nat.le_of_ble_eq_true rfl) rfl ?_
  refine ji_aload_n dX8_splitAnnotation_0 rfl trivial ?_
  refine ji_get (ci := 8) (k := 1) rfl dX8_splitAnnotation_1 lX8_7 (by decide) (rf_60) rfl ?_
  refine ji_iload_n dX8_splitAnnotation_4 rfl ?_
  refine ji_iconst dX8_splitAnnotation_5 ?_
  refine ji_iadd dX8_splitAnnotation_6 ?_
  refine ji_iaload dX8_splitAnnotation_7 (rf_61) (by omega) ?_
  refine ji_iload_n dX8_splitAnnotation_8 rfl ?_
  refine ji_icmp_lt (tgt := 48) dX8_splitAnnotation_9 rfl (by omega) (by omega) (fun c9 => ?_) (fun c9 => ?_)
  · try (exfalso; omega)
    all_goals
      refine ji_aload_n dX8_splitAnnotation_48 rfl trivial ?_
      refine ji_get (ci := 8) (k := 1) rfl dX8_splitAnnotation_49 lX8_7 (by decide) (rf_60) rfl ?_
      refine ji_iload_n dX8_splitAnnotation_52 rfl ?_
      refine ji_iconst dX8_splitAnnotation_53 ?_
      refine ji_iadd dX8_splitAnnotation_54 ?_
      refine ji_aload_n dX8_splitAnnotation_55 rfl trivial ?_
      refine ji_get (ci := 8) (k := 1) rfl dX8_splitAnnotation_56 lX8_7 (by decide) (rf_60) rfl ?_
      refine ji_iload_n dX8_splitAnnotation_59 rfl ?_
      refine ji_iconst dX8_splitAnnotation_60 ?_
      refine ji_iadd dX8_splitAnnotation_61 ?_
      refine ji_iaload dX8_splitAnnotation_62 (rf_61) (by omega) ?_
      refine ji_iload_n dX8_splitAnnotation_63 rfl ?_
      refine ji_iconst dX8_splitAnnotation_64 ?_
      refine ji_isub dX8_splitAnnotation_65 ?_
      refine ji_icmp_ge (tgt := 80) dX8_splitAnnotation_66 rfl (by omega) (by omega) (fun c66 => ?_) (fun c66 => ?_)
      · try (exfalso; omega)
        all_goals
          refine ji_iload_n dX8_splitAnnotation_80 rfl ?_
          refine ji_iconst dX8_splitAnnotation_81 ?_
          refine ji_isub dX8_splitAnnotation_82 ?_
          refine ji_iastoreE dX8_splitAnnotation_83 (rf_61) (by omega) (rf_s61) ?_
          refine ji_aload_n dX8_splitAnnotation_84 rfl trivial ?_
          refine ji_get (ci := 8) (k := 1) rfl dX8_splitAnnotation_85 lX8_7 (by decide) (rf_60) rfl ?_
          refine ji_iload_n dX8_splitAnnotation_88 rfl ?_
          refine ji_iconst dX8_splitAnnotation_89 ?_
          refine ji_iadd dX8_splitAnnotation_90 ?_
          refine ji_aload_n dX8_splitAnnotation_91 rfl trivial ?_
          refine ji_get (ci := 8) (k := 1) rfl dX8_splitAnnotation_92 lX8_7 (by decide) (rf_60) rfl ?_
          refine ji_iload_n dX8_splitAnnotation_95 rfl ?_
          refine ji_iconst dX8_splitAnnotation_96 ?_
          refine ji_iadd dX8_splitAnnotation_97 ?_
          refine ji_iaload dX8_splitAnnotation_98 (rf_61) (by omega) ?_
          rw [s2]
          refine ji_iload_n dX8_splitAnnotation_99 rfl ?_
          refine ji_iconst dX8_splitAnnotation_100 ?_
          refine ji_isub dX8_splitAnnotation_101 ?_
          refine ji_icmp_ge (tgt := 116) dX8_splitAnnotation_102 rfl (by omega) (by omega) (fun c102 => ?_) (fun c102 => ?_)
          · try (exfalso; omega)
            all_goals
              refine ji_iload_n dX8_splitAnnotation_116 rfl ?_
              refine ji_iconst dX8_splitAnnotation_117 ?_
              refine ji_isub dX8_splitAnnotation_118 ?_
              refine ji_iastoreE dX8_splitAnnotation_119 (rf_61) (by omega) (rf_s61) ?_
              refine ji_aload_n dX8_splitAnnotation_120 rfl trivial ?_
              refine ji_get (ci := 8) (k := 1) rfl dX8_splitAnnotation_121 lX8_7 (by decide) (rf_60) rfl ?_
              refine ji_iload_n dX8_splitAnnotation_124 rfl ?_
              refine ji_iconst dX8_splitAnnotation_125 ?_
              refine ji_iadd dX8_splitAnnotation_126 ?_
              refine ji_aload_n dX8_splitAnnotation_127 rfl trivial ?_
              refine ji_get (ci := 8) (k := 1) rfl dX8_splitAnnotation_128 lX8_7 (by decide) (rf_60) rfl ?_
              refine ji_iload_n dX8_splitAnnotation_131 rfl ?_
              refine ji_iconst dX8_splitAnnotation_132 ?_
              refine ji_iadd dX8_splitAnnotation_133 ?_
              refine ji_iaload dX8_splitAnnotation_134 (rf_61) (by omega) ?_
              rw [s3]
              refine ji_aload_n dX8_splitAnnotation_135 rfl trivial ?_
              refine ji_get (ci := 8) (k := 1) rfl dX8_splitAnnotation_136 lX8_7 (by decide) (rf_60) rfl ?_
              refine ji_iload_n dX8_splitAnnotation_139 rfl ?_
              refine ji_iconst dX8_splitAnnotation_140 ?_
              refine ji_iadd dX8_splitAnnotation_141 ?_
              refine ji_iaload dX8_splitAnnotation_142 (rf_61) (by omega) ?_
              rw [va_up_self]
              refine ji_icmp_ne (tgt := 150) dX8_splitAnnotation_143 rfl (by omega) (by omega) (fun c143 => ?_) (fun c143 => ?_)
              · try (exfalso; omega)
                all_goals
                  refine ji_iconst dX8_splitAnnotation_150 ?_
                  refine ji_iastoreE dX8_splitAnnotation_151 (rf_61) (by omega) (rf_s61) ?_
                  exact ji_return dX8_splitAnnotation_152 rfl ⟨rfl, (by unfold rf_SA; first | (rw [if_pos (by omega)]; done) | (rw [if_neg (by omega)]; rcases d1 with ⟨k1, d1⟩ | ⟨k1, d1⟩ <;> rcases d2 with ⟨k2, d2⟩ | ⟨k2, d2⟩ <;> first | (exfalso; omega) | (rw [d1, d2, if_pos (by omega)]; done) | (rw [d1, d2, if_neg (by omega)]; done)))⟩
              · try (exfalso; omega)
                all_goals
                  refine ji_iconst dX8_splitAnnotation_146 ?_
                  refine ji_goto (tgt := 151) dX8_splitAnnotation_147 rfl ?_
                  refine ji_iastoreE dX8_splitAnnotation_151 (rf_61) (by omega) (rf_s61) ?_
                  exact ji_return dX8_splitAnnotation_152 rfl ⟨rfl, (by unfold rf_SA; first | (rw [if_pos (by omega)]; done) | (rw [if_neg (by omega)]; rcases d1 with ⟨k1, d1⟩ | ⟨k1, d1⟩ <;> rcases d2 with ⟨k2, d2⟩ | ⟨k2, d2⟩ <;> first | (exfalso; omega) | (rw [d1, d2, if_pos (by omega)]; done) | (rw [d1, d2, if_neg (by omega)]; done)))⟩
          · try (exfalso; omega)
            all_goals
              refine ji_aload_n dX8_splitAnnotation_105 rfl trivial ?_
              refine ji_get (ci := 8) (k := 1) rfl dX8_splitAnnotation_106 lX8_7 (by decide) (rf_60) rfl ?_
              refine ji_iload_n dX8_splitAnnotation_109 rfl ?_
              refine ji_iconst dX8_splitAnnotation_110 ?_
              refine ji_iadd dX8_splitAnnotation_111 ?_
              refine ji_iaload dX8_splitAnnotation_112 (rf_61) (by omega) ?_
              rw [s2]
              refine ji_goto (tgt := 119) dX8_splitAnnotation_113 rfl ?_
              refine ji_iastoreE dX8_splitAnnotation_119 (rf_61) (by omega) (rf_s61) ?_
              refine ji_aload_n dX8_splitAnnotation_120 rfl trivial ?_
              refine ji_get (ci := 8) (k := 1) rfl dX8_splitAnnotation_121 lX8_7 (by decide) (rf_60) rfl ?_
              refine ji_iload_n dX8_splitAnnotation_124 rfl ?_
              refine ji_iconst dX8_splitAnnotation_125 ?_
              refine ji_iadd dX8_splitAnnotation_126 ?_
              refine ji_aload_n dX8_splitAnnotation_127 rfl trivial ?_
              refine ji_get (ci := 8) (k := 1) rfl dX8_splitAnnotation_128 lX8_7 (by decide) (rf_60) rfl ?_
              refine ji_iload_n dX8_splitAnnotation_131 rfl ?_
              refine ji_iconst dX8_splitAnnotation_132 ?_
              refine ji_iadd dX8_splitAnnotation_133 ?_
              refine ji_iaload dX8_splitAnnotation_134 (rf_61) (by omega) ?_
              rw [s3]
              refine ji_aload_n dX8_splitAnnotation_135 rfl trivial ?_
              refine ji_get (ci := 8) (k := 1) rfl dX8_splitAnnotation_136 lX8_7 (by decide) (rf_60) rfl ?_
              refine ji_iload_n dX8_splitAnnotation_139 rfl ?_
              refine ji_iconst dX8_splitAnnotation_140 ?_
              refine ji_iadd dX8_splitAnnotation_141 ?_
              refine ji_iaload dX8_splitAnnotation_142 (rf_61) (by omega) ?_
              rw [va_up_self]
              refine ji_icmp_ne (tgt := 150) dX8_splitAnnotation_143 rfl (by omega) (by omega) (fun c143 => ?_) (fun c143 => ?_)
              · try (exfalso; omega)
                all_goals
                  refine ji_iconst dX8_splitAnnotation_150 ?_
                  refine ji_iastoreE dX8_splitAnnotation_151 (rf_61) (by omega) (rf_s61) ?_
                  exact ji_return dX8_splitAnnotation_152 rfl ⟨rfl, (by unfold rf_SA; first | (rw [if_pos (by omega)]; done) | (rw [if_neg (by omega)]; rcases d1 with ⟨k1, d1⟩ | ⟨k1, d1⟩ <;> rcases d2 with ⟨k2, d2⟩ | ⟨k2, d2⟩ <;> first | (exfalso; omega) | (rw [d1, d2, if_pos (by omega)]; done) | (rw [d1, d2, if_neg (by omega)]; done)))⟩
              · try (exfalso; omega)
                all_goals
                  refine ji_iconst dX8_splitAnnotation_146 ?_
                  refine ji_goto (tgt := 151) dX8_splitAnnotation_147 rfl ?_
                  refine ji_iastoreE dX8_splitAnnotation_151 (rf_61) (by omega) (rf_s61) ?_
                  exact ji_return dX8_splitAnnotation_152 rfl ⟨rfl, (by unfold rf_SA; first | (rw [if_pos (by omega)]; done) | (rw [if_neg (by omega)]; rcases d1 with ⟨k1, d1⟩ | ⟨k1, d1⟩ <;> rcases d2 with ⟨k2, d2⟩ | ⟨k2, d2⟩ <;> first | (exfalso; omega) | (rw [d1, d2, if_pos (by omega)]; done) | (rw [d1, d2, if_neg (by omega)]; done)))⟩
      · try (exfalso; omega)
        all_goals
          refine ji_aload_n dX8_splitAnnotation_69 rfl trivial ?_
          refine ji_get (ci := 8) (k := 1) rfl dX8_splitAnnotation_70 lX8_7 (by decide) (rf_60) rfl ?_
          refine ji_iload_n dX8_splitAnnotation_73 rfl ?_
          refine ji_iconst dX8_splitAnnotation_74 ?_
          refine ji_iadd dX8_splitAnnotation_75 ?_
          refine ji_iaload dX8_splitAnnotation_76 (rf_61) (by omega) ?_
          refine ji_goto (tgt := 83) dX8_splitAnnotation_77 rfl ?_
          refine ji_iastoreE dX8_splitAnnotation_83 (rf_61) (by omega) (rf_s61) ?_
          refine ji_aload_n dX8_splitAnnotation_84 rfl trivial ?_
          refine ji_get (ci := 8) (k := 1) rfl dX8_splitAnnotation_85 lX8_7 (by decide) (rf_60) rfl ?_
          refine ji_iload_n dX8_splitAnnotation_88 rfl ?_
          refine ji_iconst dX8_splitAnnotation_89 ?_
          refine ji_iadd dX8_splitAnnotation_90 ?_
          refine ji_aload_n dX8_splitAnnotation_91 rfl trivial ?_
          refine ji_get (ci := 8) (k := 1) rfl dX8_splitAnnotation_92 lX8_7 (by decide) (rf_60) rfl ?_
          refine ji_iload_n dX8_splitAnnotation_95 rfl ?_
          refine ji_iconst dX8_splitAnnotation_96 ?_
          refine ji_iadd dX8_splitAnnotation_97 ?_
          refine ji_iaload dX8_splitAnnotation_98 (rf_61) (by omega) ?_
          rw [s2]
          refine ji_iload_n dX8_splitAnnotation_99 rfl ?_
          refine ji_iconst dX8_splitAnnotation_100 ?_
          refine ji_isub dX8_splitAnnotation_101 ?_
          refine ji_icmp_ge (tgt := 116) dX8_splitAnnotation_102 rfl (by omega) (by omega) (fun c102 => ?_) (fun c102 => ?_)
          · try (exfalso; omega)
            all_goals
              refine ji_iload_n dX8_splitAnnotation_116 rfl ?_
              refine ji_iconst dX8_splitAnnotation_117 ?_
              refine ji_isub dX8_splitAnnotation_118 ?_
              refine ji_iastoreE dX8_splitAnnotation_119 (rf_61) (by omega) (rf_s61) ?_
              refine ji_aload_n dX8_splitAnnotation_120 rfl trivial ?_
              refine ji_get (ci := 8) (k := 1) rfl dX8_splitAnnotation_121 lX8_7 (by decide) (rf_60) rfl ?_
              refine ji_iload_n dX8_splitAnnotation_124 rfl ?_
              refine ji_iconst dX8_splitAnnotation_125 ?_
              refine ji_iadd dX8_splitAnnotation_126 ?_
              refine ji_aload_n dX8_splitAnnotation_127 rfl trivial ?_
              refine ji_get (ci := 8) (k := 1) rfl dX8_splitAnnotation_128 lX8_7 (by decide) (rf_60) rfl ?_
              refine ji_iload_n dX8_splitAnnotation_131 rfl ?_
              refine ji_iconst dX8_splitAnnotation_132 ?_
              refine ji_iadd dX8_splitAnnotation_133 ?_
              refine ji_iaload dX8_splitAnnotation_134 (rf_61) (by omega) ?_
              rw [s3]
              refine ji_aload_n dX8_splitAnnotation_135 rfl trivial ?_
              refine ji_get (ci := 8) (k := 1) rfl dX8_splitAnnotation_136 lX8_7 (by decide) (rf_60) rfl ?_
              refine ji_iload_n dX8_splitAnnotation_139 rfl ?_
              refine ji_iconst dX8_splitAnnotation_140 ?_
              refine ji_iadd dX8_splitAnnotation_141 ?_
              refine ji_iaload dX8_splitAnnotation_142 (rf_61) (by omega) ?_
              rw [va_up_self]
              refine ji_icmp_ne (tgt := 150) dX8_splitAnnotation_143 rfl (by omega) (by omega) (fun c143 => ?_) (fun c143 => ?_)
              · try (exfalso; omega)
                all_goals
                  refine ji_iconst dX8_splitAnnotation_150 ?_
                  refine ji_iastoreE dX8_splitAnnotation_151 (rf_61) (by omega) (rf_s61) ?_
                  exact ji_return dX8_splitAnnotation_152 rfl ⟨rfl, (by unfold rf_SA; first | (rw [if_pos (by omega)]; done) | (rw [if_neg (by omega)]; rcases d1 with ⟨k1, d1⟩ | ⟨k1, d1⟩ <;> rcases d2 with ⟨k2, d2⟩ | ⟨k2, d2⟩ <;> first | (exfalso; omega) | (rw [d1, d2, if_pos (by omega)]; done) | (rw [d1, d2, if_neg (by omega)]; done)))⟩
              · try (exfalso; omega)
                all_goals
                  refine ji_iconst dX8_splitAnnotation_146 ?_
                  refine ji_goto (tgt := 151) dX8_splitAnnotation_147 rfl ?_
                  refine ji_iastoreE dX8_splitAnnotation_151 (rf_61) (by omega) (rf_s61) ?_
                  exact ji_return dX8_splitAnnotation_152 rfl ⟨rfl, (by unfold rf_SA; first | (rw [if_pos (by omega)]; done) | (rw [if_neg (by omega)]; rcases d1 with ⟨k1, d1⟩ | ⟨k1, d1⟩ <;> rcases d2 with ⟨k2, d2⟩ | ⟨k2, d2⟩ <;> first | (exfalso; omega) | (rw [d1, d2, if_pos (by omega)]; done) | (rw [d1, d2, if_neg (by omega)]; done)))⟩
          · try (exfalso; omega)
            all_goals
              refine ji_aload_n dX8_splitAnnotation_105 rfl trivial ?_
              refine ji_get (ci := 8) (k := 1) rfl dX8_splitAnnotation_106 lX8_7 (by decide) (rf_60) rfl ?_
              refine ji_iload_n dX8_splitAnnotation_109 rfl ?_
              refine ji_iconst dX8_splitAnnotation_110 ?_
              refine ji_iadd dX8_splitAnnotation_111 ?_
              refine ji_iaload dX8_splitAnnotation_112 (rf_61) (by omega) ?_
              rw [s2]
              refine ji_goto (tgt := 119) dX8_splitAnnotation_113 rfl ?_
              refine ji_iastoreE dX8_splitAnnotation_119 (rf_61) (by omega) (rf_s61) ?_
              refine ji_aload_n dX8_splitAnnotation_120 rfl trivial ?_
              refine ji_get (ci := 8) (k := 1) rfl dX8_splitAnnotation_121 lX8_7 (by decide) (rf_60) rfl ?_
              refine ji_iload_n dX8_splitAnnotation_124 rfl ?_
              refine ji_iconst dX8_splitAnnotation_125 ?_
              refine ji_iadd dX8_splitAnnotation_126 ?_
              refine ji_aload_n dX8_splitAnnotation_127 rfl trivial ?_
              refine ji_get (ci := 8) (k := 1) rfl dX8_splitAnnotation_128 lX8_7 (by decide) (rf_60) rfl ?_
              refine ji_iload_n dX8_splitAnnotation_131 rfl ?_
              refine ji_iconst dX8_splitAnnotation_132 ?_
              refine ji_iadd dX8_splitAnnotation_133 ?_
              refine ji_iaload dX8_splitAnnotation_134 (rf_61) (by omega) ?_
              rw [s3]
              refine ji_aload_n dX8_splitAnnotation_135 rfl trivial ?_
              refine ji_get (ci := 8) (k := 1) rfl dX8_splitAnnotation_136 lX8_7 (by decide) (rf_60) rfl ?_
              refine ji_iload_n dX8_splitAnnotation_139 rfl ?_
              refine ji_iconst dX8_splitAnnotation_140 ?_
              refine ji_iadd dX8_splitAnnotation_141 ?_
              refine ji_iaload dX8_splitAnnotation_142 (rf_61) (by omega) ?_
              rw [va_up_self]
              refine ji_icmp_ne (tgt := 150) dX8_splitAnnotation_143 rfl (by omega) (by omega) (fun c143 => ?_) (fun c143 => ?_)
              · try (exfalso; omega)
                all_goals
                  refine ji_iconst dX8_splitAnnotation_150 ?_
                  refine ji_iastoreE dX8_splitAnnotation_151 (rf_61) (by omega) (rf_s61) ?_
                  exact ji_return dX8_splitAnnotation_152 rfl ⟨rfl, (by unfold rf_SA; first | (rw [if_pos (by omega)]; done) | (rw [if_neg (by omega)]; rcases d1 with ⟨k1, d1⟩ | ⟨k1, d1⟩ <;> rcases d2 with ⟨k2, d2⟩ | ⟨k2, d2⟩ <;> first | (exfalso; omega) | (rw [d1, d2, if_pos (by omega)]; done) | (rw [d1, d2, if_neg (by omega)]; done)))⟩
              · try (exfalso; omega)
                all_goals
                  refine ji_iconst dX8_splitAnnotation_146 ?_
                  refine ji_goto (tgt := 151) dX8_splitAnnotation_147 rfl ?_
                  refine ji_iastoreE dX8_splitAnnotation_151 (rf_61) (by omega) (rf_s61) ?_
                  exact ji_return dX8_splitAnnotation_152 rfl ⟨rfl, (by unfold rf_SA; first | (rw [if_pos (by omega)]; done) | (rw [if_neg (by omega)]; rcases d1 with ⟨k1, d1⟩ | ⟨k1, d1⟩ <;> rcases d2 with ⟨k2, d2⟩ | ⟨k2, d2⟩ <;> first | (exfalso; omega) | (rw [d1, d2, if_pos (by omega)]; done) | (rw [d1, d2, if_neg (by omega)]; done)))⟩
  · try (exfalso; omega)
    all_goals
      refine ji_aload_n dX8_splitAnnotation_12 rfl trivial ?_
      refine ji_get (ci := 8) (k := 1) rfl dX8_splitAnnotation_13 lX8_7 (by decide) (rf_60) rfl ?_
      refine ji_iload_n dX8_splitAnnotation_16 rfl ?_
      refine ji_iload_n dX8_splitAnnotation_17 rfl ?_
      refine ji_iconst dX8_splitAnnotation_18 ?_
      refine ji_iadd dX8_splitAnnotation_19 ?_
      refine ji_iastoreE dX8_splitAnnotation_20 (rf_61) (by omega) (rf_s61) ?_
      refine ji_aload_n dX8_splitAnnotation_21 rfl trivial ?_
      refine ji_get (ci := 8) (k := 1) rfl dX8_splitAnnotation_22 lX8_7 (by decide) (rf_60) rfl ?_
      refine ji_iload_n dX8_splitAnnotation_25 rfl ?_
      refine ji_iconst dX8_splitAnnotation_26 ?_
      refine ji_iadd dX8_splitAnnotation_27 ?_
      refine ji_dup2 dX8_splitAnnotation_28 rfl rfl ?_
      refine ji_iaload dX8_splitAnnotation_29 (rf_61) (by omega) ?_
      rw [s0]
      refine ji_iload_n dX8_splitAnnotation_30 rfl ?_
      refine ji_isub dX8_splitAnnotation_31 ?_
      refine ji_iastoreE dX8_splitAnnotation_32 (rf_61) (by omega) (rf_s61) ?_
      refine ji_aload_n dX8_splitAnnotation_33 rfl trivial ?_
      refine ji_get (ci := 8) (k := 1) rfl dX8_splitAnnotation_34 lX8_7 (by decide) (rf_60) rfl ?_
      refine ji_iload_n dX8_splitAnnotation_37 rfl ?_
      refine ji_iconst dX8_splitAnnotation_38 ?_
      refine ji_iadd dX8_splitAnnotation_39 ?_
      refine ji_dup2 dX8_splitAnnotation_40 rfl rfl ?_
      refine ji_iaload dX8_splitAnnotation_41 (rf_61) (by omega) ?_
      rw [s1]
      refine ji_iload_n dX8_splitAnnotation_42 rfl ?_
      refine ji_isub dX8_splitAnnotation_43 ?_
      refine ji_iastoreE dX8_splitAnnotation_44 (rf_61) (by omega) (rf_s61) ?_
      refine ji_goto (tgt := 152) dX8_splitAnnotation_45 rfl ?_
      exact ji_return dX8_splitAnnotation_152 rfl ⟨rfl, (by unfold rf_SA; first | (rw [if_pos (by omega)]; done) | (rw [if_neg (by omega)]; rcases d1 with ⟨k1, d1⟩ | ⟨k1, d1⟩ <;> rcases d2 with ⟨k2, d2⟩ | ⟨k2, d2⟩ <;> first | (exfalso; omega) | (rw [d1, d2, if_pos (by omega)]; done) | (rw [d1, d2, if_neg (by omega)]; done)))⟩

set_option maxHeartbeats 4000000 in
set_option maxRecDepth 100000 in
theorem r_divide_c {bc bs : Nat} {Q : ji_R → ji_H → Prop} {q x : Int} {M : Nat} (hq : 0 ≤ q ∧ q < M) (hM : M ≤ 9) (kk : ∀ k, JW G (d + 1) mX8_divide 36 [some (.ref 60), some (.int (jI q)), some (.int (jI x)), some (.int (jI k)), none, none] [] (n, rf_f f th (rf_pu z (q + 1).toNat M) kp ed nt nl wi ht sy sz bf rs rr rq rp mm ln lo lf lt co ro pg pf hsh) bc bs Q) : ∀ (u : Nat) (k : Int), q + 1 ≤ k ∧ k ≤ M ∧ k = q + 1 + u →
    JW G (d + 1) mX8_divide 15 [some (.ref 60), some (.int (jI q)), some (.int (jI x)), some (.int (jI k)), none, none] [] (n, rf_f f th (rf_pu z k.toNat M) kp ed nt nl wi ht sy sz bf rs rr rq rp mm ln lo lf lt co ro pg pf hsh) bc bs Q := by
  intro u
  induction u with
  | zero =>
    intro k hk
    refine ji_iload_n dX8_divide_15 rfl ?_
    refine ji_iload_n dX8_divide_16 rfl ?_
    refine ji_iconst dX8_divide_17 ?_
    refine ji_iadd dX8_divide_18 ?_
    refine ji_icmp_le (tgt := 36) dX8_divide_19 rfl (by omega) (by omega) (fun c19 => ?_) (fun c19 => absurd c19 (by omega))
    exact ji_eqv (kk k) rfl rfl (by rw [show k = q + 1 by omega])
  | succ u ih =>
    intro k hk
    refine ji_iload_n dX8_divide_15 rfl ?_
    refine ji_iload_n dX8_divide_16 rfl ?_
    refine ji_iconst dX8_divide_17 ?_
    refine ji_iadd dX8_divide_18 ?_
    refine ji_icmp_le (tgt := 36) dX8_divide_19 rfl (by omega) (by omega) (fun c19 => absurd c19 (by omega)) (fun c19 => ?_)
    refine ji_aload_n dX8_divide_22 rfl trivial ?_
    refine ji_iload_n dX8_divide_23 rfl ?_
    refine ji_iload_n dX8_divide_24 rfl ?_
    refine ji_iconst dX8_divide_25 ?_
    refine ji_isub dX8_divide_26 ?_
    refine ji_cVv dX8_divide_27 (r_copyParagraph (by omega) (by omega) (by omega)) rfl (rf_60) rfl rfl wX8_copyParagraph vX8_copyParagraph lX8_315 rfl (Nat.le_of_ble_eq_true rfl) rfl ?_
    refine ji_iinc dX8_divide_30 (by decide) rfl rfl ?_
    refine ji_goto (tgt := 15) dX8_divide_33 rfl ?_
    exact ji_eqv (ih (k + -1) (by omega)) rfl rfl (by rw [show (k + -1).toNat = (k - 1).toNat by omega, ← rf_pu_s (show (k - 1).toNat + 1 ≤ M by omega) hM, show (k - 1).toNat + 1 = k.toNat by omega])

set_option maxHeartbeats 4000000 in
set_option maxRecDepth 100000 in
theorem r_divide_t {bc bs : Nat} {Q : ji_R → ji_H → Prop} {q x L : Int} (hq : 0 ≤ q ∧ q < 9) (hx : 0 ≤ x ∧ x ≤ L ∧ L ≤ 359) (hL : z (85 + q).toNat = L) (kk : ∀ k, JW G (d + 1) mX8_divide 160 [some (.ref 60), some (.int (jI q)), some (.int (jI x)), some (.int (jI k)), none, none] [] (n, rf_f f th (va_cpy z z (95 + 360 * q + x).toNat (95 + 360 * (q + 1)).toNat (L - x).toNat) kp ed nt nl wi ht sy sz bf rs rr rq rp mm ln lo lf lt co ro pg pf hsh) bc bs Q) : ∀ (u : Nat) (k : Int), x ≤ k ∧ k + u = L →
    JW G (d + 1) mX8_divide 107 [some (.ref 60), some (.int (jI q)), some (.int (jI x)), some (.int (jI k)), none, none] [] (n, rf_f f th (va_cpy z z (95 + 360 * q + x).toNat (95 + 360 * (q + 1)).toNat (k - x).toNat) kp ed nt nl wi ht sy sz bf rs rr rq rp mm ln lo lf lt co ro pg pf hsh) bc bs Q := by
  intro u
  induction u with
  | zero =>
    intro k hk
    refine ji_iload_n dX8_divide_107 rfl ?_
    refine ji_aload_n dX8_divide_108 rfl trivial ?_
    refine ji_get (ci := 8) (k := 1) rfl dX8_divide_109 lX8_7 (by decide) (rf_60) rfl ?_
    refine ji_bipush dX8_divide_112 rfl ?_
    refine ji_iload_n dX8_divide_114 rfl ?_
    refine ji_iadd dX8_divide_115 ?_
    refine ji_iaload dX8_divide_116 (rf_61) (by omega) ?_
    rw [va_cpy_r (by omega), hL]
    refine ji_icmp_ge (tgt := 160) dX8_divide_117 rfl (by omega) (by omega) (fun c117 => ?_) (fun c117 => absurd c117 (by omega))
    exact ji_eqv (kk k) rfl rfl (by rw [show k = L by omega])
  | succ u ih =>
    intro k hk
    refine ji_iload_n dX8_divide_107 rfl ?_
    refine ji_aload_n dX8_divide_108 rfl trivial ?_
    refine ji_get (ci := 8) (k := 1) rfl dX8_divide_109 lX8_7 (by decide) (rf_60) rfl ?_
    refine ji_bipush dX8_divide_112 rfl ?_
    refine ji_iload_n dX8_divide_114 rfl ?_
    refine ji_iadd dX8_divide_115 ?_
    refine ji_iaload dX8_divide_116 (rf_61) (by omega) ?_
    rw [va_cpy_r (by omega), hL]
    refine ji_icmp_ge (tgt := 160) dX8_divide_117 rfl (by omega) (by omega) (fun c117 => absurd c117 (by omega)) (fun c117 => ?_)
    refine ji_aload_n dX8_divide_120 rfl trivial ?_
    refine ji_get (ci := 8) (k := 1) rfl dX8_divide_121 lX8_7 (by decide) (rf_60) rfl ?_
    refine ji_bipush dX8_divide_124 rfl ?_
    refine ji_sipush dX8_divide_126 rfl ?_
    refine ji_iload_n dX8_divide_129 rfl ?_
    refine ji_iconst dX8_divide_130 ?_
    refine ji_iadd dX8_divide_131 ?_
    refine ji_imul dX8_divide_132 ?_
    refine ji_iadd dX8_divide_133 ?_
    refine ji_iload_n dX8_divide_134 rfl ?_
    refine ji_iadd dX8_divide_135 ?_
    refine ji_iload_n dX8_divide_136 rfl ?_
    refine ji_isub dX8_divide_137 ?_
    refine ji_aload_n dX8_divide_138 rfl trivial ?_
    refine ji_get (ci := 8) (k := 1) rfl dX8_divide_139 lX8_7 (by decide) (rf_60) rfl ?_
    refine ji_bipush dX8_divide_142 rfl ?_
    refine ji_sipush dX8_divide_144 rfl ?_
    refine ji_iload_n dX8_divide_147 rfl ?_
    refine ji_imul dX8_divide_148 ?_
    refine ji_iadd dX8_divide_149 ?_
    refine ji_iload_n dX8_divide_150 rfl ?_
    refine ji_iadd dX8_divide_151 ?_
    refine ji_iaload dX8_divide_152 (rf_61) (by omega) ?_
    rw [va_cpy_r (by omega)]
    refine ji_iastoreE dX8_divide_153 (rf_61) (by omega) (rf_s61) ?_
    refine ji_iinc dX8_divide_154 (by decide) rfl rfl ?_
    refine ji_goto (tgt := 107) dX8_divide_157 rfl ?_
    exact ji_eqv (ih (k + 1) (by omega)) rfl rfl (by rw [show (k + 1 - x).toNat = (k - x).toNat + 1 by omega, ← va_cpy_u, show (95 + 360 * (q + 1)).toNat + (k - x).toNat = (95 + 360 * (q + 1) + k - x).toNat by omega, show (95 + 360 * q + x).toNat + (k - x).toNat = (95 + 360 * q + k).toNat by omega])

set_option maxHeartbeats 4000000 in
set_option maxRecDepth 100000 in
theorem r_divide_p {bc bs : Nat} {Q : ji_R → ji_H → Prop} {q x : Int} (hq : 0 ≤ q ∧ q < 10) (hx : 0 ≤ x ∧ x ≤ 400) (hB : ∀ j, -20000 ≤ z j ∧ z j ≤ 20000) (h3 : 0 ≤ z 3 ∧ z 3 ≤ 5) (kk : ∀ k o4 o5, JW G (d + 1) mX8_divide 316 [some (.ref 60), some (.int (jI q)), some (.int (jI x)), some (.int (jI k)), o4, o5] [] (n, rf_f f th (rf_pl (dv_a q x) (dv_b q x) z (z 3 + 1).toNat) kp ed nt nl wi ht sy sz bf rs rr rq rp mm ln lo lf lt co ro pg pf hsh) bc bs Q) : ∀ (u : Nat) (k : Int) (o4 o5 : Option Value), 0 ≤ k ∧ k + u = z 3 + 1 →
    JW G (d + 1) mX8_divide 174 [some (.ref 60), some (.int (jI q)), some (.int (jI x)), some (.int (jI k)), o4, o5] [] (n, rf_f f th (rf_pl (dv_a q x) (dv_b q x) z k.toNat) kp ed nt nl wi ht sy sz bf rs rr rq rp mm ln lo lf lt co ro pg pf hsh) bc bs Q := by
  intro u
  induction u with
  | zero =>
    intro k o4 o5 hk
    have e3 : (rf_pl (dv_a q x) (dv_b q x) z k.toNat) 3 = z 3 := rf_pl_h (by omega) (by omega)
    refine ji_iload_n dX8_divide_174 rfl ?_
    refine ji_aload_n dX8_divide_175 rfl trivial ?_
    refine ji_get (ci := 8) (k := 1) rfl dX8_divide_176 lX8_7 (by decide) (rf_60) rfl ?_
    refine ji_iconst dX8_divide_179 ?_
    refine ji_ialoadK (k := 3) dX8_divide_180 (rf_61) rfl (by decide) ?_
    rw [e3]
    refine ji_icmp_gt (tgt := 316) dX8_divide_181 rfl (by omega) (by omega) (fun c181 => ?_) (fun c181 => absurd c181 (by omega))
    exact ji_eqv (kk _ _ _) rfl rfl (by rw [show k.toNat = (z 3 + 1).toNat by omega])
  | succ u ih =>
    intro k o4 o5 hk
    have f1 : k = 0 → (rf_pl (dv_a q x) (dv_b q x) z k.toNat) ((1 : Int) + 1).toNat = z 2 := fun h => by subst h; exact (rf_pl_r (i := 0) (q := 1) (by omega)).2
    have f2 : k = 0 → (rf_pl (dv_a q x) (dv_b q x) z k.toNat) (1 : Int).toNat = z 1 := fun h => by subst h; exact (rf_pl_r (i := 0) (q := 1) (by omega)).1
    have g1 : ¬ k = 0 → (rf_pl (dv_a q x) (dv_b q x) z k.toNat) (4 + 2 * k - 2 + 1).toNat = z (2 * k.toNat + 3) := fun h => by rw [show (4 + 2 * k - 2 + 1).toNat = 2 * k.toNat + 2 + 1 by omega]; exact (rf_pl_r (i := k.toNat) (q := 2 * k.toNat + 2) (by omega)).2
    have g2 : ¬ k = 0 → (rf_pl (dv_a q x) (dv_b q x) z k.toNat) (4 + 2 * k - 2).toNat = z (2 * k.toNat + 2) := fun h => by rw [show (4 + 2 * k - 2).toNat = 2 * k.toNat + 2 by omega]; exact (rf_pl_r (i := k.toNat) (q := 2 * k.toNat + 2) (by omega)).1
    have f3 : k = 0 → ∀ v, va_up (rf_pl (dv_a q x) (dv_b q x) z k.toNat) (1 : Int).toNat v ((1 : Int) + 1).toNat = z 2 := fun h v => (va_up_ne _ _ (by decide)).trans (f1 h)
    have g3 : ¬ k = 0 → ∀ v, va_up (rf_pl (dv_a q x) (dv_b q x) z k.toNat) (4 + 2 * k - 2).toNat v (4 + 2 * k - 2 + 1).toNat = z (2 * k.toNat + 3) := fun h v => (va_up_ne _ _ (by omega)).trans (g1 h)
    have e3 : (rf_pl (dv_a q x) (dv_b q x) z k.toNat) 3 = z 3 := rf_pl_h (by omega) (by omega)
    have b1 := hB 1
    have b2 := hB 2
    have b3 := hB (2 * k.toNat + 2)
    have b4 := hB (2 * k.toNat + 3)
    refine ji_iload_n dX8_divide_174 rfl ?_
    refine ji_aload_n dX8_divide_175 rfl trivial ?_
    refine ji_get (ci := 8) (k := 1) rfl dX8_divide_176 lX8_7 (by decide) (rf_60) rfl ?_
    refine ji_iconst dX8_divide_179 ?_
    refine ji_ialoadK (k := 3) dX8_divide_180 (rf_61) rfl (by decide) ?_
    rw [e3]
    refine ji_icmp_gt (tgt := 316) dX8_divide_181 rfl (by omega) (by omega) (fun c181 => absurd c181 (by omega)) (fun c181 => ?_)
    refine ji_iload_n dX8_divide_184 rfl ?_
    refine ji_if_ne (tgt := 192) dX8_divide_185 rfl (by omega) (fun c185 => ?_) (fun c185 => ?_)
    · try (exfalso; omega)
      all_goals
        refine ji_iconst dX8_divide_192 ?_
        refine ji_iconst dX8_divide_193 ?_
        refine ji_iload_n dX8_divide_194 rfl ?_
        refine ji_imul dX8_divide_195 ?_
        refine ji_iadd dX8_divide_196 ?_
        refine ji_iconst dX8_divide_197 ?_
        refine ji_isub dX8_divide_198 ?_
        refine ji_istore dX8_divide_199 (by decide) rfl ?_
        refine ji_aload_n dX8_divide_201 rfl trivial ?_
        refine ji_get (ci := 8) (k := 1) rfl dX8_divide_202 lX8_7 (by decide) (rf_60) rfl ?_
        refine ji_iload dX8_divide_205 rfl ?_
        refine ji_iaload dX8_divide_207 (rf_61) (by omega) ?_
        first | rw [f2 (by omega)] | rw [g2 (by omega)]
        refine ji_iload_n dX8_divide_208 rfl ?_
        refine ji_icmp_ne (tgt := 310) dX8_divide_209 rfl (by omega) (by omega) (fun c209 => ?_) (fun c209 => ?_)
        · try (exfalso; omega)
          all_goals
            refine ji_iinc dX8_divide_310 (by decide) rfl rfl ?_
            refine ji_goto (tgt := 174) dX8_divide_313 rfl ?_
            first | exact ji_eqv (ih (k + 1) _ _ (by omega)) rfl rfl (by rw [show (k + 1).toNat = k.toNat + 1 by omega]; (try rw [show ((1 : Int) + 1).toNat = 2 from rfl]); (try rw [show (1 : Int).toNat = 1 from rfl]); rw [rf_pl_s2 (q := 1) (q1 := 2) (by omega) (by unfold dv_a; (repeat' split) <;> omega) (by unfold dv_b; (repeat' split) <;> omega)]) | exact ji_eqv (ih (k + 1) _ _ (by omega)) rfl rfl (by rw [show (k + 1).toNat = k.toNat + 1 by omega]; (try rw [show (4 + 2 * k - 2 + 1).toNat = 2 * k.toNat + 3 by omega]); (try rw [show (4 + 2 * k - 2).toNat = 2 * k.toNat + 2 by omega]); rw [rf_pl_s2 (q := 2 * k.toNat + 2) (q1 := 2 * k.toNat + 3) (by omega) (by unfold dv_a; (repeat' split) <;> omega) (by unfold dv_b; (repeat' split) <;> omega)]) | exact ji_eqv (ih (k + 1) _ _ (by omega)) rfl rfl (by rw [show (k + 1).toNat = k.toNat + 1 by omega]; (try rw [show ((1 : Int) + 1).toNat = 2 from rfl]); (try rw [show (1 : Int).toNat = 1 from rfl]); rw [rf_pl_sn (q := 1) (q1 := 2) (by omega) (by unfold dv_a; (repeat' split) <;> omega) (by unfold dv_b; (repeat' split) <;> omega)]) | exact ji_eqv (ih (k + 1) _ _ (by omega)) rfl rfl (by rw [show (k + 1).toNat = k.toNat + 1 by omega]; (try rw [show (4 + 2 * k - 2 + 1).toNat = 2 * k.toNat + 3 by omega]); (try rw [show (4 + 2 * k - 2).toNat = 2 * k.toNat + 2 by omega]); rw [rf_pl_sn (q := 2 * k.toNat + 2) (q1 := 2 * k.toNat + 3) (by omega) (by unfold dv_a; (repeat' split) <;> omega) (by unfold dv_b; (repeat' split) <;> omega)])
        · try (exfalso; omega)
          all_goals
            refine ji_aload_n dX8_divide_212 rfl trivial ?_
            refine ji_get (ci := 8) (k := 1) rfl dX8_divide_213 lX8_7 (by decide) (rf_60) rfl ?_
            refine ji_iload dX8_divide_216 rfl ?_
            refine ji_iconst dX8_divide_218 ?_
            refine ji_iadd dX8_divide_219 ?_
            refine ji_iaload dX8_divide_220 (rf_61) (by omega) ?_
            first | rw [f1 (by omega)] | rw [g1 (by omega)]
            refine ji_iload_n dX8_divide_221 rfl ?_
            refine ji_icmp_lt (tgt := 229) dX8_divide_222 rfl (by omega) (by omega) (fun c222 => ?_) (fun c222 => ?_)
            · try (exfalso; omega)
              all_goals
                refine ji_iconst dX8_divide_229 ?_
                refine ji_istore dX8_divide_230 (by decide) rfl ?_
                refine ji_aload_n dX8_divide_232 rfl trivial ?_
                refine ji_get (ci := 8) (k := 1) rfl dX8_divide_233 lX8_7 (by decide) (rf_60) rfl ?_
                refine ji_iload dX8_divide_236 rfl ?_
                refine ji_dup2 dX8_divide_238 rfl rfl ?_
                refine ji_iaload dX8_divide_239 (rf_61) (by omega) ?_
                first | rw [f2 (by omega)] | rw [g2 (by omega)]
                refine ji_iload dX8_divide_240 rfl ?_
                refine ji_if_eq (tgt := 249) dX8_divide_242 rfl (by omega) (fun c242 => ?_) (fun c242 => ?_)
                · try (exfalso; omega)
                  all_goals
                    refine ji_iconst dX8_divide_249 ?_
                    refine ji_iadd dX8_divide_250 ?_
                    refine ji_iastoreE dX8_divide_251 (rf_61) (by omega) (rf_s61) ?_
                    refine ji_aload_n dX8_divide_252 rfl trivial ?_
                    refine ji_get (ci := 8) (k := 1) rfl dX8_divide_253 lX8_7 (by decide) (rf_60) rfl ?_
                    refine ji_iload dX8_divide_256 rfl ?_
                    refine ji_iconst dX8_divide_258 ?_
                    refine ji_iadd dX8_divide_259 ?_
                    refine ji_iload dX8_divide_260 rfl ?_
                    refine ji_if_eq (tgt := 279) dX8_divide_262 rfl (by omega) (fun c262 => ?_) (fun c262 => ?_)
                    · try (exfalso; omega)
                      all_goals
                        refine ji_aload_n dX8_divide_279 rfl trivial ?_
                        refine ji_get (ci := 8) (k := 1) rfl dX8_divide_280 lX8_7 (by decide) (rf_60) rfl ?_
                        refine ji_iload dX8_divide_283 rfl ?_
                        refine ji_iconst dX8_divide_285 ?_
                        refine ji_iadd dX8_divide_286 ?_
                        refine ji_iaload dX8_divide_287 (rf_61) (by omega) ?_
                        first | rw [f3 (by omega)] | rw [g3 (by omega)]
                        refine ji_iload_n dX8_divide_288 rfl ?_
                        refine ji_iconst dX8_divide_289 ?_
                        refine ji_isub dX8_divide_290 ?_
                        refine ji_icmp_ne (tgt := 300) dX8_divide_291 rfl (by omega) (by omega) (fun c291 => ?_) (fun c291 => ?_)
                        · try (exfalso; omega)
                          all_goals
                            refine ji_aload_n dX8_divide_300 rfl trivial ?_
                            refine ji_get (ci := 8) (k := 1) rfl dX8_divide_301 lX8_7 (by decide) (rf_60) rfl ?_
                            refine ji_iload dX8_divide_304 rfl ?_
                            refine ji_iconst dX8_divide_306 ?_
                            refine ji_iadd dX8_divide_307 ?_
                            refine ji_iaload dX8_divide_308 (rf_61) (by omega) ?_
                            try (first | rw [f3 (by omega)] | rw [g3 (by omega)])
                            refine ji_iastoreE dX8_divide_309 (rf_61) (by omega) (rf_s61) ?_
                            refine ji_iinc dX8_divide_310 (by decide) rfl rfl ?_
                            refine ji_goto (tgt := 174) dX8_divide_313 rfl ?_
                            first | exact ji_eqv (ih (k + 1) _ _ (by omega)) rfl rfl (by rw [show (k + 1).toNat = k.toNat + 1 by omega]; (try rw [show ((1 : Int) + 1).toNat = 2 from rfl]); (try rw [show (1 : Int).toNat = 1 from rfl]); rw [rf_pl_s2 (q := 1) (q1 := 2) (by omega) (by unfold dv_a; (repeat' split) <;> omega) (by unfold dv_b; (repeat' split) <;> omega)]) | exact ji_eqv (ih (k + 1) _ _ (by omega)) rfl rfl (by rw [show (k + 1).toNat = k.toNat + 1 by omega]; (try rw [show (4 + 2 * k - 2 + 1).toNat = 2 * k.toNat + 3 by omega]); (try rw [show (4 + 2 * k - 2).toNat = 2 * k.toNat + 2 by omega]); rw [rf_pl_s2 (q := 2 * k.toNat + 2) (q1 := 2 * k.toNat + 3) (by omega) (by unfold dv_a; (repeat' split) <;> omega) (by unfold dv_b; (repeat' split) <;> omega)]) | exact ji_eqv (ih (k + 1) _ _ (by omega)) rfl rfl (by rw [show (k + 1).toNat = k.toNat + 1 by omega]; (try rw [show ((1 : Int) + 1).toNat = 2 from rfl]); (try rw [show (1 : Int).toNat = 1 from rfl]); rw [rf_pl_sn (q := 1) (q1 := 2) (by omega) (by unfold dv_a; (repeat' split) <;> omega) (by unfold dv_b; (repeat' split) <;> omega)]) | exact ji_eqv (ih (k + 1) _ _ (by omega)) rfl rfl (by rw [show (k + 1).toNat = k.toNat + 1 by omega]; (try rw [show (4 + 2 * k - 2 + 1).toNat = 2 * k.toNat + 3 by omega]); (try rw [show (4 + 2 * k - 2).toNat = 2 * k.toNat + 2 by omega]); rw [rf_pl_sn (q := 2 * k.toNat + 2) (q1 := 2 * k.toNat + 3) (by omega) (by unfold dv_a; (repeat' split) <;> omega) (by unfold dv_b; (repeat' split) <;> omega)])
                        · try (exfalso; omega)
                          all_goals
                            refine ji_iload_n dX8_divide_294 rfl ?_
                            refine ji_iconst dX8_divide_295 ?_
                            refine ji_isub dX8_divide_296 ?_
                            refine ji_goto (tgt := 309) dX8_divide_297 rfl ?_
                            try (first | rw [f3 (by omega)] | rw [g3 (by omega)])
                            refine ji_iastoreE dX8_divide_309 (rf_61) (by omega) (rf_s61) ?_
                            refine ji_iinc dX8_divide_310 (by decide) rfl rfl ?_
                            refine ji_goto (tgt := 174) dX8_divide_313 rfl ?_
                            first | exact ji_eqv (ih (k + 1) _ _ (by omega)) rfl rfl (by rw [show (k + 1).toNat = k.toNat + 1 by omega]; (try rw [show ((1 : Int) + 1).toNat = 2 from rfl]); (try rw [show (1 : Int).toNat = 1 from rfl]); rw [rf_pl_s2 (q := 1) (q1 := 2) (by omega) (by unfold dv_a; (repeat' split) <;> omega) (by unfold dv_b; (repeat' split) <;> omega)]) | exact ji_eqv (ih (k + 1) _ _ (by omega)) rfl rfl (by rw [show (k + 1).toNat = k.toNat + 1 by omega]; (try rw [show (4 + 2 * k - 2 + 1).toNat = 2 * k.toNat + 3 by omega]); (try rw [show (4 + 2 * k - 2).toNat = 2 * k.toNat + 2 by omega]); rw [rf_pl_s2 (q := 2 * k.toNat + 2) (q1 := 2 * k.toNat + 3) (by omega) (by unfold dv_a; (repeat' split) <;> omega) (by unfold dv_b; (repeat' split) <;> omega)]) | exact ji_eqv (ih (k + 1) _ _ (by omega)) rfl rfl (by rw [show (k + 1).toNat = k.toNat + 1 by omega]; (try rw [show ((1 : Int) + 1).toNat = 2 from rfl]); (try rw [show (1 : Int).toNat = 1 from rfl]); rw [rf_pl_sn (q := 1) (q1 := 2) (by omega) (by unfold dv_a; (repeat' split) <;> omega) (by unfold dv_b; (repeat' split) <;> omega)]) | exact ji_eqv (ih (k + 1) _ _ (by omega)) rfl rfl (by rw [show (k + 1).toNat = k.toNat + 1 by omega]; (try rw [show (4 + 2 * k - 2 + 1).toNat = 2 * k.toNat + 3 by omega]); (try rw [show (4 + 2 * k - 2).toNat = 2 * k.toNat + 2 by omega]); rw [rf_pl_sn (q := 2 * k.toNat + 2) (q1 := 2 * k.toNat + 3) (by omega) (by unfold dv_a; (repeat' split) <;> omega) (by unfold dv_b; (repeat' split) <;> omega)])
                    · try (exfalso; omega)
                      all_goals
                        refine ji_aload_n dX8_divide_265 rfl trivial ?_
                        refine ji_get (ci := 8) (k := 1) rfl dX8_divide_266 lX8_7 (by decide) (rf_60) rfl ?_
                        refine ji_iload dX8_divide_269 rfl ?_
                        refine ji_iconst dX8_divide_271 ?_
                        refine ji_iadd dX8_divide_272 ?_
                        refine ji_iaload dX8_divide_273 (rf_61) (by omega) ?_
                        first | rw [f3 (by omega)] | rw [g3 (by omega)]
                        refine ji_iload_n dX8_divide_274 rfl ?_
                        refine ji_isub dX8_divide_275 ?_
                        refine ji_goto (tgt := 309) dX8_divide_276 rfl ?_
                        try (first | rw [f3 (by omega)] | rw [g3 (by omega)])
                        refine ji_iastoreE dX8_divide_309 (rf_61) (by omega) (rf_s61) ?_
                        refine ji_iinc dX8_divide_310 (by decide) rfl rfl ?_
                        refine ji_goto (tgt := 174) dX8_divide_313 rfl ?_
                        first | exact ji_eqv (ih (k + 1) _ _ (by omega)) rfl rfl (by rw [show (k + 1).toNat = k.toNat + 1 by omega]; (try rw [show ((1 : Int) + 1).toNat = 2 from rfl]); (try rw [show (1 : Int).toNat = 1 from rfl]); rw [rf_pl_s2 (q := 1) (q1 := 2) (by omega) (by unfold dv_a; (repeat' split) <;> omega) (by unfold dv_b; (repeat' split) <;> omega)]) | exact ji_eqv (ih (k + 1) _ _ (by omega)) rfl rfl (by rw [show (k + 1).toNat = k.toNat + 1 by omega]; (try rw [show (4 + 2 * k - 2 + 1).toNat = 2 * k.toNat + 3 by omega]); (try rw [show (4 + 2 * k - 2).toNat = 2 * k.toNat + 2 by omega]); rw [rf_pl_s2 (q := 2 * k.toNat + 2) (q1 := 2 * k.toNat + 3) (by omega) (by unfold dv_a; (repeat' split) <;> omega) (by unfold dv_b; (repeat' split) <;> omega)]) | exact ji_eqv (ih (k + 1) _ _ (by omega)) rfl rfl (by rw [show (k + 1).toNat = k.toNat + 1 by omega]; (try rw [show ((1 : Int) + 1).toNat = 2 from rfl]); (try rw [show (1 : Int).toNat = 1 from rfl]); rw [rf_pl_sn (q := 1) (q1 := 2) (by omega) (by unfold dv_a; (repeat' split) <;> omega) (by unfold dv_b; (repeat' split) <;> omega)]) | exact ji_eqv (ih (k + 1) _ _ (by omega)) rfl rfl (by rw [show (k + 1).toNat = k.toNat + 1 by omega]; (try rw [show (4 + 2 * k - 2 + 1).toNat = 2 * k.toNat + 3 by omega]); (try rw [show (4 + 2 * k - 2).toNat = 2 * k.toNat + 2 by omega]); rw [rf_pl_sn (q := 2 * k.toNat + 2) (q1 := 2 * k.toNat + 3) (by omega) (by unfold dv_a; (repeat' split) <;> omega) (by unfold dv_b; (repeat' split) <;> omega)])
                · try (exfalso; omega)
                  all_goals
                    refine ji_iconst dX8_divide_245 ?_
                    refine ji_goto (tgt := 250) dX8_divide_246 rfl ?_
                    refine ji_iadd dX8_divide_250 ?_
                    refine ji_iastoreE dX8_divide_251 (rf_61) (by omega) (rf_s61) ?_
                    refine ji_aload_n dX8_divide_252 rfl trivial ?_
                    refine ji_get (ci := 8) (k := 1) rfl dX8_divide_253 lX8_7 (by decide) (rf_60) rfl ?_
                    refine ji_iload dX8_divide_256 rfl ?_
                    refine ji_iconst dX8_divide_258 ?_
                    refine ji_iadd dX8_divide_259 ?_
                    refine ji_iload dX8_divide_260 rfl ?_
                    refine ji_if_eq (tgt := 279) dX8_divide_262 rfl (by omega) (fun c262 => ?_) (fun c262 => ?_)
                    · try (exfalso; omega)
                      all_goals
                        refine ji_aload_n dX8_divide_279 rfl trivial ?_
                        refine ji_get (ci := 8) (k := 1) rfl dX8_divide_280 lX8_7 (by decide) (rf_60) rfl ?_
                        refine ji_iload dX8_divide_283 rfl ?_
                        refine ji_iconst dX8_divide_285 ?_
                        refine ji_iadd dX8_divide_286 ?_
                        refine ji_iaload dX8_divide_287 (rf_61) (by omega) ?_
                        first | rw [f3 (by omega)] | rw [g3 (by omega)]
                        refine ji_iload_n dX8_divide_288 rfl ?_
                        refine ji_iconst dX8_divide_289 ?_
                        refine ji_isub dX8_divide_290 ?_
                        refine ji_icmp_ne (tgt := 300) dX8_divide_291 rfl (by omega) (by omega) (fun c291 => ?_) (fun c291 => ?_)
                        · try (exfalso; omega)
                          all_goals
                            refine ji_aload_n dX8_divide_300 rfl trivial ?_
                            refine ji_get (ci := 8) (k := 1) rfl dX8_divide_301 lX8_7 (by decide) (rf_60) rfl ?_
                            refine ji_iload dX8_divide_304 rfl ?_
                            refine ji_iconst dX8_divide_306 ?_
                            refine ji_iadd dX8_divide_307 ?_
                            refine ji_iaload dX8_divide_308 (rf_61) (by omega) ?_
                            try (first | rw [f3 (by omega)] | rw [g3 (by omega)])
                            refine ji_iastoreE dX8_divide_309 (rf_61) (by omega) (rf_s61) ?_
                            refine ji_iinc dX8_divide_310 (by decide) rfl rfl ?_
                            refine ji_goto (tgt := 174) dX8_divide_313 rfl ?_
                            first | exact ji_eqv (ih (k + 1) _ _ (by omega)) rfl rfl (by rw [show (k + 1).toNat = k.toNat + 1 by omega]; (try rw [show ((1 : Int) + 1).toNat = 2 from rfl]); (try rw [show (1 : Int).toNat = 1 from rfl]); rw [rf_pl_s2 (q := 1) (q1 := 2) (by omega) (by unfold dv_a; (repeat' split) <;> omega) (by unfold dv_b; (repeat' split) <;> omega)]) | exact ji_eqv (ih (k + 1) _ _ (by omega)) rfl rfl (by rw [show (k + 1).toNat = k.toNat + 1 by omega]; (try rw [show (4 + 2 * k - 2 + 1).toNat = 2 * k.toNat + 3 by omega]); (try rw [show (4 + 2 * k - 2).toNat = 2 * k.toNat + 2 by omega]); rw [rf_pl_s2 (q := 2 * k.toNat + 2) (q1 := 2 * k.toNat + 3) (by omega) (by unfold dv_a; (repeat' split) <;> omega) (by unfold dv_b; (repeat' split) <;> omega)]) | exact ji_eqv (ih (k + 1) _ _ (by omega)) rfl rfl (by rw [show (k + 1).toNat = k.toNat + 1 by omega]; (try rw [show ((1 : Int) + 1).toNat = 2 from rfl]); (try rw [show (1 : Int).toNat = 1 from rfl]); rw [rf_pl_sn (q := 1) (q1 := 2) (by omega) (by unfold dv_a; (repeat' split) <;> omega) (by unfold dv_b; (repeat' split) <;> omega)]) | exact ji_eqv (ih (k + 1) _ _ (by omega)) rfl rfl (by rw [show (k + 1).toNat = k.toNat + 1 by omega]; (try rw [show (4 + 2 * k - 2 + 1).toNat = 2 * k.toNat + 3 by omega]); (try rw [show (4 + 2 * k - 2).toNat = 2 * k.toNat + 2 by omega]); rw [rf_pl_sn (q := 2 * k.toNat + 2) (q1 := 2 * k.toNat + 3) (by omega) (by unfold dv_a; (repeat' split) <;> omega) (by unfold dv_b; (repeat' split) <;> omega)])
                        · try (exfalso; omega)
                          all_goals
                            refine ji_iload_n dX8_divide_294 rfl ?_
                            refine ji_iconst dX8_divide_295 ?_
                            refine ji_isub dX8_divide_296 ?_
                            refine ji_goto (tgt := 309) dX8_divide_297 rfl ?_
                            try (first | rw [f3 (by omega)] | rw [g3 (by omega)])
                            refine ji_iastoreE dX8_divide_309 (rf_61) (by omega) (rf_s61) ?_
                            refine ji_iinc dX8_divide_310 (by decide) rfl rfl ?_
                            refine ji_goto (tgt := 174) dX8_divide_313 rfl ?_
                            first | exact ji_eqv (ih (k + 1) _ _ (by omega)) rfl rfl (by rw [show (k + 1).toNat = k.toNat + 1 by omega]; (try rw [show ((1 : Int) + 1).toNat = 2 from rfl]); (try rw [show (1 : Int).toNat = 1 from rfl]); rw [rf_pl_s2 (q := 1) (q1 := 2) (by omega) (by unfold dv_a; (repeat' split) <;> omega) (by unfold dv_b; (repeat' split) <;> omega)]) | exact ji_eqv (ih (k + 1) _ _ (by omega)) rfl rfl (by rw [show (k + 1).toNat = k.toNat + 1 by omega]; (try rw [show (4 + 2 * k - 2 + 1).toNat = 2 * k.toNat + 3 by omega]); (try rw [show (4 + 2 * k - 2).toNat = 2 * k.toNat + 2 by omega]); rw [rf_pl_s2 (q := 2 * k.toNat + 2) (q1 := 2 * k.toNat + 3) (by omega) (by unfold dv_a; (repeat' split) <;> omega) (by unfold dv_b; (repeat' split) <;> omega)]) | exact ji_eqv (ih (k + 1) _ _ (by omega)) rfl rfl (by rw [show (k + 1).toNat = k.toNat + 1 by omega]; (try rw [show ((1 : Int) + 1).toNat = 2 from rfl]); (try rw [show (1 : Int).toNat = 1 from rfl]); rw [rf_pl_sn (q := 1) (q1 := 2) (by omega) (by unfold dv_a; (repeat' split) <;> omega) (by unfold dv_b; (repeat' split) <;> omega)]) | exact ji_eqv (ih (k + 1) _ _ (by omega)) rfl rfl (by rw [show (k + 1).toNat = k.toNat + 1 by omega]; (try rw [show (4 + 2 * k - 2 + 1).toNat = 2 * k.toNat + 3 by omega]); (try rw [show (4 + 2 * k - 2).toNat = 2 * k.toNat + 2 by omega]); rw [rf_pl_sn (q := 2 * k.toNat + 2) (q1 := 2 * k.toNat + 3) (by omega) (by unfold dv_a; (repeat' split) <;> omega) (by unfold dv_b; (repeat' split) <;> omega)])
                    · try (exfalso; omega)
                      all_goals
                        refine ji_aload_n dX8_divide_265 rfl trivial ?_
                        refine ji_get (ci := 8) (k := 1) rfl dX8_divide_266 lX8_7 (by decide) (rf_60) rfl ?_
                        refine ji_iload dX8_divide_269 rfl ?_
                        refine ji_iconst dX8_divide_271 ?_
                        refine ji_iadd dX8_divide_272 ?_
                        refine ji_iaload dX8_divide_273 (rf_61) (by omega) ?_
                        first | rw [f3 (by omega)] | rw [g3 (by omega)]
                        refine ji_iload_n dX8_divide_274 rfl ?_
                        refine ji_isub dX8_divide_275 ?_
                        refine ji_goto (tgt := 309) dX8_divide_276 rfl ?_
                        try (first | rw [f3 (by omega)] | rw [g3 (by omega)])
                        refine ji_iastoreE dX8_divide_309 (rf_61) (by omega) (rf_s61) ?_
                        refine ji_iinc dX8_divide_310 (by decide) rfl rfl ?_
                        refine ji_goto (tgt := 174) dX8_divide_313 rfl ?_
                        first | exact ji_eqv (ih (k + 1) _ _ (by omega)) rfl rfl (by rw [show (k + 1).toNat = k.toNat + 1 by omega]; (try rw [show ((1 : Int) + 1).toNat = 2 from rfl]); (try rw [show (1 : Int).toNat = 1 from rfl]); rw [rf_pl_s2 (q := 1) (q1 := 2) (by omega) (by unfold dv_a; (repeat' split) <;> omega) (by unfold dv_b; (repeat' split) <;> omega)]) | exact ji_eqv (ih (k + 1) _ _ (by omega)) rfl rfl (by rw [show (k + 1).toNat = k.toNat + 1 by omega]; (try rw [show (4 + 2 * k - 2 + 1).toNat = 2 * k.toNat + 3 by omega]); (try rw [show (4 + 2 * k - 2).toNat = 2 * k.toNat + 2 by omega]); rw [rf_pl_s2 (q := 2 * k.toNat + 2) (q1 := 2 * k.toNat + 3) (by omega) (by unfold dv_a; (repeat' split) <;> omega) (by unfold dv_b; (repeat' split) <;> omega)]) | exact ji_eqv (ih (k + 1) _ _ (by omega)) rfl rfl (by rw [show (k + 1).toNat = k.toNat + 1 by omega]; (try rw [show ((1 : Int) + 1).toNat = 2 from rfl]); (try rw [show (1 : Int).toNat = 1 from rfl]); rw [rf_pl_sn (q := 1) (q1 := 2) (by omega) (by unfold dv_a; (repeat' split) <;> omega) (by unfold dv_b; (repeat' split) <;> omega)]) | exact ji_eqv (ih (k + 1) _ _ (by omega)) rfl rfl (by rw [show (k + 1).toNat = k.toNat + 1 by omega]; (try rw [show (4 + 2 * k - 2 + 1).toNat = 2 * k.toNat + 3 by omega]); (try rw [show (4 + 2 * k - 2).toNat = 2 * k.toNat + 2 by omega]); rw [rf_pl_sn (q := 2 * k.toNat + 2) (q1 := 2 * k.toNat + 3) (by omega) (by unfold dv_a; (repeat' split) <;> omega) (by unfold dv_b; (repeat' split) <;> omega)])
            · try (exfalso; omega)
              all_goals
                refine ji_iconst dX8_divide_225 ?_
                refine ji_goto (tgt := 230) dX8_divide_226 rfl ?_
                refine ji_istore dX8_divide_230 (by decide) rfl ?_
                refine ji_aload_n dX8_divide_232 rfl trivial ?_
                refine ji_get (ci := 8) (k := 1) rfl dX8_divide_233 lX8_7 (by decide) (rf_60) rfl ?_
                refine ji_iload dX8_divide_236 rfl ?_
                refine ji_dup2 dX8_divide_238 rfl rfl ?_
                refine ji_iaload dX8_divide_239 (rf_61) (by omega) ?_
                first | rw [f2 (by omega)] | rw [g2 (by omega)]
                refine ji_iload dX8_divide_240 rfl ?_
                refine ji_if_eq (tgt := 249) dX8_divide_242 rfl (by omega) (fun c242 => ?_) (fun c242 => ?_)
                · try (exfalso; omega)
                  all_goals
                    refine ji_iconst dX8_divide_249 ?_
                    refine ji_iadd dX8_divide_250 ?_
                    refine ji_iastoreE dX8_divide_251 (rf_61) (by omega) (rf_s61) ?_
                    refine ji_aload_n dX8_divide_252 rfl trivial ?_
                    refine ji_get (ci := 8) (k := 1) rfl dX8_divide_253 lX8_7 (by decide) (rf_60) rfl ?_
                    refine ji_iload dX8_divide_256 rfl ?_
                    refine ji_iconst dX8_divide_258 ?_
                    refine ji_iadd dX8_divide_259 ?_
                    refine ji_iload dX8_divide_260 rfl ?_
                    refine ji_if_eq (tgt := 279) dX8_divide_262 rfl (by omega) (fun c262 => ?_) (fun c262 => ?_)
                    · try (exfalso; omega)
                      all_goals
                        refine ji_aload_n dX8_divide_279 rfl trivial ?_
                        refine ji_get (ci := 8) (k := 1) rfl dX8_divide_280 lX8_7 (by decide) (rf_60) rfl ?_
                        refine ji_iload dX8_divide_283 rfl ?_
                        refine ji_iconst dX8_divide_285 ?_
                        refine ji_iadd dX8_divide_286 ?_
                        refine ji_iaload dX8_divide_287 (rf_61) (by omega) ?_
                        first | rw [f3 (by omega)] | rw [g3 (by omega)]
                        refine ji_iload_n dX8_divide_288 rfl ?_
                        refine ji_iconst dX8_divide_289 ?_
                        refine ji_isub dX8_divide_290 ?_
                        refine ji_icmp_ne (tgt := 300) dX8_divide_291 rfl (by omega) (by omega) (fun c291 => ?_) (fun c291 => ?_)
                        · try (exfalso; omega)
                          all_goals
                            refine ji_aload_n dX8_divide_300 rfl trivial ?_
                            refine ji_get (ci := 8) (k := 1) rfl dX8_divide_301 lX8_7 (by decide) (rf_60) rfl ?_
                            refine ji_iload dX8_divide_304 rfl ?_
                            refine ji_iconst dX8_divide_306 ?_
                            refine ji_iadd dX8_divide_307 ?_
                            refine ji_iaload dX8_divide_308 (rf_61) (by omega) ?_
                            try (first | rw [f3 (by omega)] | rw [g3 (by omega)])
                            refine ji_iastoreE dX8_divide_309 (rf_61) (by omega) (rf_s61) ?_
                            refine ji_iinc dX8_divide_310 (by decide) rfl rfl ?_
                            refine ji_goto (tgt := 174) dX8_divide_313 rfl ?_
                            first | exact ji_eqv (ih (k + 1) _ _ (by omega)) rfl rfl (by rw [show (k + 1).toNat = k.toNat + 1 by omega]; (try rw [show ((1 : Int) + 1).toNat = 2 from rfl]); (try rw [show (1 : Int).toNat = 1 from rfl]); rw [rf_pl_s2 (q := 1) (q1 := 2) (by omega) (by unfold dv_a; (repeat' split) <;> omega) (by unfold dv_b; (repeat' split) <;> omega)]) | exact ji_eqv (ih (k + 1) _ _ (by omega)) rfl rfl (by rw [show (k + 1).toNat = k.toNat + 1 by omega]; (try rw [show (4 + 2 * k - 2 + 1).toNat = 2 * k.toNat + 3 by omega]); (try rw [show (4 + 2 * k - 2).toNat = 2 * k.toNat + 2 by omega]); rw [rf_pl_s2 (q := 2 * k.toNat + 2) (q1 := 2 * k.toNat + 3) (by omega) (by unfold dv_a; (repeat' split) <;> omega) (by unfold dv_b; (repeat' split) <;> omega)]) | exact ji_eqv (ih (k + 1) _ _ (by omega)) rfl rfl (by rw [show (k + 1).toNat = k.toNat + 1 by omega]; (try rw [show ((1 : Int) + 1).toNat = 2 from rfl]); (try rw [show (1 : Int).toNat = 1 from rfl]); rw [rf_pl_sn (q := 1) (q1 := 2) (by omega) (by unfold dv_a; (repeat' split) <;> omega) (by unfold dv_b; (repeat' split) <;> omega)]) | exact ji_eqv (ih (k + 1) _ _ (by omega)) rfl rfl (by rw [show (k + 1).toNat = k.toNat + 1 by omega]; (try rw [show (4 + 2 * k - 2 + 1).toNat = 2 * k.toNat + 3 by omega]); (try rw [show (4 + 2 * k - 2).toNat = 2 * k.toNat + 2 by omega]); rw [rf_pl_sn (q := 2 * k.toNat + 2) (q1 := 2 * k.toNat + 3) (by omega) (by unfold dv_a; (repeat' split) <;> omega) (by unfold dv_b; (repeat' split) <;> omega)])
                        · try (exfalso; omega)
                          all_goals
                            refine ji_iload_n dX8_divide_294 rfl ?_
                            refine ji_iconst dX8_divide_295 ?_
                            refine ji_isub dX8_divide_296 ?_
                            refine ji_goto (tgt := 309) dX8_divide_297 rfl ?_
                            try (first | rw [f3 (by omega)] | rw [g3 (by omega)])
                            refine ji_iastoreE dX8_divide_309 (rf_61) (by omega) (rf_s61) ?_
                            refine ji_iinc dX8_divide_310 (by decide) rfl rfl ?_
                            refine ji_goto (tgt := 174) dX8_divide_313 rfl ?_
                            first | exact ji_eqv (ih (k + 1) _ _ (by omega)) rfl rfl (by rw [show (k + 1).toNat = k.toNat + 1 by omega]; (try rw [show ((1 : Int) + 1).toNat = 2 from rfl]); (try rw [show (1 : Int).toNat = 1 from rfl]); rw [rf_pl_s2 (q := 1) (q1 := 2) (by omega) (by unfold dv_a; (repeat' split) <;> omega) (by unfold dv_b; (repeat' split) <;> omega)]) | exact ji_eqv (ih (k + 1) _ _ (by omega)) rfl rfl (by rw [show (k + 1).toNat = k.toNat + 1 by omega]; (try rw [show (4 + 2 * k - 2 + 1).toNat = 2 * k.toNat + 3 by omega]); (try rw [show (4 + 2 * k - 2).toNat = 2 * k.toNat + 2 by omega]); rw [rf_pl_s2 (q := 2 * k.toNat + 2) (q1 := 2 * k.toNat + 3) (by omega) (by unfold dv_a; (repeat' split) <;> omega) (by unfold dv_b; (repeat' split) <;> omega)]) | exact ji_eqv (ih (k + 1) _ _ (by omega)) rfl rfl (by rw [show (k + 1).toNat = k.toNat + 1 by omega]; (try rw [show ((1 : Int) + 1).toNat = 2 from rfl]); (try rw [show (1 : Int).toNat = 1 from rfl]); rw [rf_pl_sn (q := 1) (q1 := 2) (by omega) (by unfold dv_a; (repeat' split) <;> omega) (by unfold dv_b; (repeat' split) <;> omega)]) | exact ji_eqv (ih (k + 1) _ _ (by omega)) rfl rfl (by rw [show (k + 1).toNat = k.toNat + 1 by omega]; (try rw [show (4 + 2 * k - 2 + 1).toNat = 2 * k.toNat + 3 by omega]); (try rw [show (4 + 2 * k - 2).toNat = 2 * k.toNat + 2 by omega]); rw [rf_pl_sn (q := 2 * k.toNat + 2) (q1 := 2 * k.toNat + 3) (by omega) (by unfold dv_a; (repeat' split) <;> omega) (by unfold dv_b; (repeat' split) <;> omega)])
                    · try (exfalso; omega)
                      all_goals
                        refine ji_aload_n dX8_divide_265 rfl trivial ?_
                        refine ji_get (ci := 8) (k := 1) rfl dX8_divide_266 lX8_7 (by decide) (rf_60) rfl ?_
                        refine ji_iload dX8_divide_269 rfl ?_
                        refine ji_iconst dX8_divide_271 ?_
                        refine ji_iadd dX8_divide_272 ?_
                        refine ji_iaload dX8_divide_273 (rf_61) (by omega) ?_
                        first | rw [f3 (by omega)] | rw [g3 (by omega)]
                        refine ji_iload_n dX8_divide_274 rfl ?_
                        refine ji_isub dX8_divide_275 ?_
                        refine ji_goto (tgt := 309) dX8_divide_276 rfl ?_
                        try (first | rw [f3 (by omega)] | rw [g3 (by omega)])
                        refine ji_iastoreE dX8_divide_309 (rf_61) (by omega) (rf_s61) ?_
                        refine ji_iinc dX8_divide_310 (by decide) rfl rfl ?_
                        refine ji_goto (tgt := 174) dX8_divide_313 rfl ?_
                        first | exact ji_eqv (ih (k + 1) _ _ (by omega)) rfl rfl (by rw [show (k + 1).toNat = k.toNat + 1 by omega]; (try rw [show ((1 : Int) + 1).toNat = 2 from rfl]); (try rw [show (1 : Int).toNat = 1 from rfl]); rw [rf_pl_s2 (q := 1) (q1 := 2) (by omega) (by unfold dv_a; (repeat' split) <;> omega) (by unfold dv_b; (repeat' split) <;> omega)]) | exact ji_eqv (ih (k + 1) _ _ (by omega)) rfl rfl (by rw [show (k + 1).toNat = k.toNat + 1 by omega]; (try rw [show (4 + 2 * k - 2 + 1).toNat = 2 * k.toNat + 3 by omega]); (try rw [show (4 + 2 * k - 2).toNat = 2 * k.toNat + 2 by omega]); rw [rf_pl_s2 (q := 2 * k.toNat + 2) (q1 := 2 * k.toNat + 3) (by omega) (by unfold dv_a; (repeat' split) <;> omega) (by unfold dv_b; (repeat' split) <;> omega)]) | exact ji_eqv (ih (k + 1) _ _ (by omega)) rfl rfl (by rw [show (k + 1).toNat = k.toNat + 1 by omega]; (try rw [show ((1 : Int) + 1).toNat = 2 from rfl]); (try rw [show (1 : Int).toNat = 1 from rfl]); rw [rf_pl_sn (q := 1) (q1 := 2) (by omega) (by unfold dv_a; (repeat' split) <;> omega) (by unfold dv_b; (repeat' split) <;> omega)]) | exact ji_eqv (ih (k + 1) _ _ (by omega)) rfl rfl (by rw [show (k + 1).toNat = k.toNat + 1 by omega]; (try rw [show (4 + 2 * k - 2 + 1).toNat = 2 * k.toNat + 3 by omega]); (try rw [show (4 + 2 * k - 2).toNat = 2 * k.toNat + 2 by omega]); rw [rf_pl_sn (q := 2 * k.toNat + 2) (q1 := 2 * k.toNat + 3) (by omega) (by unfold dv_a; (repeat' split) <;> omega) (by unfold dv_b; (repeat' split) <;> omega)])
                · try (exfalso; omega)
                  all_goals
                    refine ji_iconst dX8_divide_245 ?_
                    refine ji_goto (tgt := 250) dX8_divide_246 rfl ?_
                    refine ji_iadd dX8_divide_250 ?_
                    refine ji_iastoreE dX8_divide_251 (rf_61) (by omega) (rf_s61) ?_
                    refine ji_aload_n dX8_divide_252 rfl trivial ?_
                    refine ji_get (ci := 8) (k := 1) rfl dX8_divide_253 lX8_7 (by decide) (rf_60) rfl ?_
                    refine ji_iload dX8_divide_256 rfl ?_
                    refine ji_iconst dX8_divide_258 ?_
                    refine ji_iadd dX8_divide_259 ?_
                    refine ji_iload dX8_divide_260 rfl ?_
                    refine ji_if_eq (tgt := 279) dX8_divide_262 rfl (by omega) (fun c262 => ?_) (fun c262 => ?_)
                    · try (exfalso; omega)
                      all_goals
                        refine ji_aload_n dX8_divide_279 rfl trivial ?_
                        refine ji_get (ci := 8) (k := 1) rfl dX8_divide_280 lX8_7 (by decide) (rf_60) rfl ?_
                        refine ji_iload dX8_divide_283 rfl ?_
                        refine ji_iconst dX8_divide_285 ?_
                        refine ji_iadd dX8_divide_286 ?_
                        refine ji_iaload dX8_divide_287 (rf_61) (by omega) ?_
                        first | rw [f3 (by omega)] | rw [g3 (by omega)]
                        refine ji_iload_n dX8_divide_288 rfl ?_
                        refine ji_iconst dX8_divide_289 ?_
                        refine ji_isub dX8_divide_290 ?_
                        refine ji_icmp_ne (tgt := 300) dX8_divide_291 rfl (by omega) (by omega) (fun c291 => ?_) (fun c291 => ?_)
                        · try (exfalso; omega)
                          all_goals
                            refine ji_aload_n dX8_divide_300 rfl trivial ?_
                            refine ji_get (ci := 8) (k := 1) rfl dX8_divide_301 lX8_7 (by decide) (rf_60) rfl ?_
                            refine ji_iload dX8_divide_304 rfl ?_
                            refine ji_iconst dX8_divide_306 ?_
                            refine ji_iadd dX8_divide_307 ?_
                            refine ji_iaload dX8_divide_308 (rf_61) (by omega) ?_
                            try (first | rw [f3 (by omega)] | rw [g3 (by omega)])
                            refine ji_iastoreE dX8_divide_309 (rf_61) (by omega) (rf_s61) ?_
                            refine ji_iinc dX8_divide_310 (by decide) rfl rfl ?_
                            refine ji_goto (tgt := 174) dX8_divide_313 rfl ?_
                            first | exact ji_eqv (ih (k + 1) _ _ (by omega)) rfl rfl (by rw [show (k + 1).toNat = k.toNat + 1 by omega]; (try rw [show ((1 : Int) + 1).toNat = 2 from rfl]); (try rw [show (1 : Int).toNat = 1 from rfl]); rw [rf_pl_s2 (q := 1) (q1 := 2) (by omega) (by unfold dv_a; (repeat' split) <;> omega) (by unfold dv_b; (repeat' split) <;> omega)]) | exact ji_eqv (ih (k + 1) _ _ (by omega)) rfl rfl (by rw [show (k + 1).toNat = k.toNat + 1 by omega]; (try rw [show (4 + 2 * k - 2 + 1).toNat = 2 * k.toNat + 3 by omega]); (try rw [show (4 + 2 * k - 2).toNat = 2 * k.toNat + 2 by omega]); rw [rf_pl_s2 (q := 2 * k.toNat + 2) (q1 := 2 * k.toNat + 3) (by omega) (by unfold dv_a; (repeat' split) <;> omega) (by unfold dv_b; (repeat' split) <;> omega)]) | exact ji_eqv (ih (k + 1) _ _ (by omega)) rfl rfl (by rw [show (k + 1).toNat = k.toNat + 1 by omega]; (try rw [show ((1 : Int) + 1).toNat = 2 from rfl]); (try rw [show (1 : Int).toNat = 1 from rfl]); rw [rf_pl_sn (q := 1) (q1 := 2) (by omega) (by unfold dv_a; (repeat' split) <;> omega) (by unfold dv_b; (repeat' split) <;> omega)]) | exact ji_eqv (ih (k + 1) _ _ (by omega)) rfl rfl (by rw [show (k + 1).toNat = k.toNat + 1 by omega]; (try rw [show (4 + 2 * k - 2 + 1).toNat = 2 * k.toNat + 3 by omega]); (try rw [show (4 + 2 * k - 2).toNat = 2 * k.toNat + 2 by omega]); rw [rf_pl_sn (q := 2 * k.toNat + 2) (q1 := 2 * k.toNat + 3) (by omega) (by unfold dv_a; (repeat' split) <;> omega) (by unfold dv_b; (repeat' split) <;> omega)])
                        · try (exfalso; omega)
                          all_goals
                            refine ji_iload_n dX8_divide_294 rfl ?_
                            refine ji_iconst dX8_divide_295 ?_
                            refine ji_isub dX8_divide_296 ?_
                            refine ji_goto (tgt := 309) dX8_divide_297 rfl ?_
                            try (first | rw [f3 (by omega)] | rw [g3 (by omega)])
                            refine ji_iastoreE dX8_divide_309 (rf_61) (by omega) (rf_s61) ?_
                            refine ji_iinc dX8_divide_310 (by decide) rfl rfl ?_
                            refine ji_goto (tgt := 174) dX8_divide_313 rfl ?_
                            first | exact ji_eqv (ih (k + 1) _ _ (by omega)) rfl rfl (by rw [show (k + 1).toNat = k.toNat + 1 by omega]; (try rw [show ((1 : Int) + 1).toNat = 2 from rfl]); (try rw [show (1 : Int).toNat = 1 from rfl]); rw [rf_pl_s2 (q := 1) (q1 := 2) (by omega) (by unfold dv_a; (repeat' split) <;> omega) (by unfold dv_b; (repeat' split) <;> omega)]) | exact ji_eqv (ih (k + 1) _ _ (by omega)) rfl rfl (by rw [show (k + 1).toNat = k.toNat + 1 by omega]; (try rw [show (4 + 2 * k - 2 + 1).toNat = 2 * k.toNat + 3 by omega]); (try rw [show (4 + 2 * k - 2).toNat = 2 * k.toNat + 2 by omega]); rw [rf_pl_s2 (q := 2 * k.toNat + 2) (q1 := 2 * k.toNat + 3) (by omega) (by unfold dv_a; (repeat' split) <;> omega) (by unfold dv_b; (repeat' split) <;> omega)]) | exact ji_eqv (ih (k + 1) _ _ (by omega)) rfl rfl (by rw [show (k + 1).toNat = k.toNat + 1 by omega]; (try rw [show ((1 : Int) + 1).toNat = 2 from rfl]); (try rw [show (1 : Int).toNat = 1 from rfl]); rw [rf_pl_sn (q := 1) (q1 := 2) (by omega) (by unfold dv_a; (repeat' split) <;> omega) (by unfold dv_b; (repeat' split) <;> omega)]) | exact ji_eqv (ih (k + 1) _ _ (by omega)) rfl rfl (by rw [show (k + 1).toNat = k.toNat + 1 by omega]; (try rw [show (4 + 2 * k - 2 + 1).toNat = 2 * k.toNat + 3 by omega]); (try rw [show (4 + 2 * k - 2).toNat = 2 * k.toNat + 2 by omega]); rw [rf_pl_sn (q := 2 * k.toNat + 2) (q1 := 2 * k.toNat + 3) (by omega) (by unfold dv_a; (repeat' split) <;> omega) (by unfold dv_b; (repeat' split) <;> omega)])
                    · try (exfalso; omega)
                      all_goals
                        refine ji_aload_n dX8_divide_265 rfl trivial ?_
                        refine ji_get (ci := 8) (k := 1) rfl dX8_divide_266 lX8_7 (by decide) (rf_60) rfl ?_
                        refine ji_iload dX8_divide_269 rfl ?_
                        refine ji_iconst dX8_divide_271 ?_
                        refine ji_iadd dX8_divide_272 ?_
                        refine ji_iaload dX8_divide_273 (rf_61) (by omega) ?_
                        first | rw [f3 (by omega)] | rw [g3 (by omega)]
                        refine ji_iload_n dX8_divide_274 rfl ?_
                        refine ji_isub dX8_divide_275 ?_
                        refine ji_goto (tgt := 309) dX8_divide_276 rfl ?_
                        try (first | rw [f3 (by omega)] | rw [g3 (by omega)])
                        refine ji_iastoreE dX8_divide_309 (rf_61) (by omega) (rf_s61) ?_
                        refine ji_iinc dX8_divide_310 (by decide) rfl rfl ?_
                        refine ji_goto (tgt := 174) dX8_divide_313 rfl ?_
                        first | exact ji_eqv (ih (k + 1) _ _ (by omega)) rfl rfl (by rw [show (k + 1).toNat = k.toNat + 1 by omega]; (try rw [show ((1 : Int) + 1).toNat = 2 from rfl]); (try rw [show (1 : Int).toNat = 1 from rfl]); rw [rf_pl_s2 (q := 1) (q1 := 2) (by omega) (by unfold dv_a; (repeat' split) <;> omega) (by unfold dv_b; (repeat' split) <;> omega)]) | exact ji_eqv (ih (k + 1) _ _ (by omega)) rfl rfl (by rw [show (k + 1).toNat = k.toNat + 1 by omega]; (try rw [show (4 + 2 * k - 2 + 1).toNat = 2 * k.toNat + 3 by omega]); (try rw [show (4 + 2 * k - 2).toNat = 2 * k.toNat + 2 by omega]); rw [rf_pl_s2 (q := 2 * k.toNat + 2) (q1 := 2 * k.toNat + 3) (by omega) (by unfold dv_a; (repeat' split) <;> omega) (by unfold dv_b; (repeat' split) <;> omega)]) | exact ji_eqv (ih (k + 1) _ _ (by omega)) rfl rfl (by rw [show (k + 1).toNat = k.toNat + 1 by omega]; (try rw [show ((1 : Int) + 1).toNat = 2 from rfl]); (try rw [show (1 : Int).toNat = 1 from rfl]); rw [rf_pl_sn (q := 1) (q1 := 2) (by omega) (by unfold dv_a; (repeat' split) <;> omega) (by unfold dv_b; (repeat' split) <;> omega)]) | exact ji_eqv (ih (k + 1) _ _ (by omega)) rfl rfl (by rw [show (k + 1).toNat = k.toNat + 1 by omega]; (try rw [show (4 + 2 * k - 2 + 1).toNat = 2 * k.toNat + 3 by omega]); (try rw [show (4 + 2 * k - 2).toNat = 2 * k.toNat + 2 by omega]); rw [rf_pl_sn (q := 2 * k.toNat + 2) (q1 := 2 * k.toNat + 3) (by omega) (by unfold dv_a; (repeat' split) <;> omega) (by unfold dv_b; (repeat' split) <;> omega)])
    · try (exfalso; omega)
      all_goals
        refine ji_iconst dX8_divide_188 ?_
        refine ji_goto (tgt := 199) dX8_divide_189 rfl ?_
        refine ji_istore dX8_divide_199 (by decide) rfl ?_
        refine ji_aload_n dX8_divide_201 rfl trivial ?_
        refine ji_get (ci := 8) (k := 1) rfl dX8_divide_202 lX8_7 (by decide) (rf_60) rfl ?_
        refine ji_iload dX8_divide_205 rfl ?_
        refine ji_iaload dX8_divide_207 (rf_61) (by omega) ?_
        first | rw [f2 (by omega)] | rw [g2 (by omega)]
        refine ji_iload_n dX8_divide_208 rfl ?_
        refine ji_icmp_ne (tgt := 310) dX8_divide_209 rfl (by omega) (by omega) (fun c209 => ?_) (fun c209 => ?_)
        · try (exfalso; omega)
          all_goals
            refine ji_iinc dX8_divide_310 (by decide) rfl rfl ?_
            refine ji_goto (tgt := 174) dX8_divide_313 rfl ?_
            first | exact ji_eqv (ih (k + 1) _ _ (by omega)) rfl rfl (by rw [show (k + 1).toNat = k.toNat + 1 by omega]; (try rw [show ((1 : Int) + 1).toNat = 2 from rfl]); (try rw [show (1 : Int).toNat = 1 from rfl]); rw [rf_pl_s2 (q := 1) (q1 := 2) (by omega) (by unfold dv_a; (repeat' split) <;> omega) (by unfold dv_b; (repeat' split) <;> omega)]) | exact ji_eqv (ih (k + 1) _ _ (by omega)) rfl rfl (by rw [show (k + 1).toNat = k.toNat + 1 by omega]; (try rw [show (4 + 2 * k - 2 + 1).toNat = 2 * k.toNat + 3 by omega]); (try rw [show (4 + 2 * k - 2).toNat = 2 * k.toNat + 2 by omega]); rw [rf_pl_s2 (q := 2 * k.toNat + 2) (q1 := 2 * k.toNat + 3) (by omega) (by unfold dv_a; (repeat' split) <;> omega) (by unfold dv_b; (repeat' split) <;> omega)]) | exact ji_eqv (ih (k + 1) _ _ (by omega)) rfl rfl (by rw [show (k + 1).toNat = k.toNat + 1 by omega]; (try rw [show ((1 : Int) + 1).toNat = 2 from rfl]); (try rw [show (1 : Int).toNat = 1 from rfl]); rw [rf_pl_sn (q := 1) (q1 := 2) (by omega) (by unfold dv_a; (repeat' split) <;> omega) (by unfold dv_b; (repeat' split) <;> omega)]) | exact ji_eqv (ih (k + 1) _ _ (by omega)) rfl rfl (by rw [show (k + 1).toNat = k.toNat + 1 by omega]; (try rw [show (4 + 2 * k - 2 + 1).toNat = 2 * k.toNat + 3 by omega]); (try rw [show (4 + 2 * k - 2).toNat = 2 * k.toNat + 2 by omega]); rw [rf_pl_sn (q := 2 * k.toNat + 2) (q1 := 2 * k.toNat + 3) (by omega) (by unfold dv_a; (repeat' split) <;> omega) (by unfold dv_b; (repeat' split) <;> omega)])
        · try (exfalso; omega)
          all_goals
            refine ji_aload_n dX8_divide_212 rfl trivial ?_
            refine ji_get (ci := 8) (k := 1) rfl dX8_divide_213 lX8_7 (by decide) (rf_60) rfl ?_
            refine ji_iload dX8_divide_216 rfl ?_
            refine ji_iconst dX8_divide_218 ?_
            refine ji_iadd dX8_divide_219 ?_
            refine ji_iaload dX8_divide_220 (rf_61) (by omega) ?_
            first | rw [f1 (by omega)] | rw [g1 (by omega)]
            refine ji_iload_n dX8_divide_221 rfl ?_
            refine ji_icmp_lt (tgt := 229) dX8_divide_222 rfl (by omega) (by omega) (fun c222 => ?_) (fun c222 => ?_)
            · try (exfalso; omega)
              all_goals
                refine ji_iconst dX8_divide_229 ?_
                refine ji_istore dX8_divide_230 (by decide) rfl ?_
                refine ji_aload_n dX8_divide_232 rfl trivial ?_
                refine ji_get (ci := 8) (k := 1) rfl dX8_divide_233 lX8_7 (by decide) (rf_60) rfl ?_
                refine ji_iload dX8_divide_236 rfl ?_
                refine ji_dup2 dX8_divide_238 rfl rfl ?_
                refine ji_iaload dX8_divide_239 (rf_61) (by omega) ?_
                first | rw [f2 (by omega)] | rw [g2 (by omega)]
                refine ji_iload dX8_divide_240 rfl ?_
                refine ji_if_eq (tgt := 249) dX8_divide_242 rfl (by omega) (fun c242 => ?_) (fun c242 => ?_)
                · try (exfalso; omega)
                  all_goals
                    refine ji_iconst dX8_divide_249 ?_
                    refine ji_iadd dX8_divide_250 ?_
                    refine ji_iastoreE dX8_divide_251 (rf_61) (by omega) (rf_s61) ?_
                    refine ji_aload_n dX8_divide_252 rfl trivial ?_
                    refine ji_get (ci := 8) (k := 1) rfl dX8_divide_253 lX8_7 (by decide) (rf_60) rfl ?_
                    refine ji_iload dX8_divide_256 rfl ?_
                    refine ji_iconst dX8_divide_258 ?_
                    refine ji_iadd dX8_divide_259 ?_
                    refine ji_iload dX8_divide_260 rfl ?_
                    refine ji_if_eq (tgt := 279) dX8_divide_262 rfl (by omega) (fun c262 => ?_) (fun c262 => ?_)
                    · try (exfalso; omega)
                      all_goals
                        refine ji_aload_n dX8_divide_279 rfl trivial ?_
                        refine ji_get (ci := 8) (k := 1) rfl dX8_divide_280 lX8_7 (by decide) (rf_60) rfl ?_
                        refine ji_iload dX8_divide_283 rfl ?_
                        refine ji_iconst dX8_divide_285 ?_
                        refine ji_iadd dX8_divide_286 ?_
                        refine ji_iaload dX8_divide_287 (rf_61) (by omega) ?_
                        first | rw [f3 (by omega)] | rw [g3 (by omega)]
                        refine ji_iload_n dX8_divide_288 rfl ?_
                        refine ji_iconst dX8_divide_289 ?_
                        refine ji_isub dX8_divide_290 ?_
                        refine ji_icmp_ne (tgt := 300) dX8_divide_291 rfl (by omega) (by omega) (fun c291 => ?_) (fun c291 => ?_)
                        · try (exfalso; omega)
                          all_goals
                            refine ji_aload_n dX8_divide_300 rfl trivial ?_
                            refine ji_get (ci := 8) (k := 1) rfl dX8_divide_301 lX8_7 (by decide) (rf_60) rfl ?_
                            refine ji_iload dX8_divide_304 rfl ?_
                            refine ji_iconst dX8_divide_306 ?_
                            refine ji_iadd dX8_divide_307 ?_
                            refine ji_iaload dX8_divide_308 (rf_61) (by omega) ?_
                            try (first | rw [f3 (by omega)] | rw [g3 (by omega)])
                            refine ji_iastoreE dX8_divide_309 (rf_61) (by omega) (rf_s61) ?_
                            refine ji_iinc dX8_divide_310 (by decide) rfl rfl ?_
                            refine ji_goto (tgt := 174) dX8_divide_313 rfl ?_
                            first | exact ji_eqv (ih (k + 1) _ _ (by omega)) rfl rfl (by rw [show (k + 1).toNat = k.toNat + 1 by omega]; (try rw [show ((1 : Int) + 1).toNat = 2 from rfl]); (try rw [show (1 : Int).toNat = 1 from rfl]); rw [rf_pl_s2 (q := 1) (q1 := 2) (by omega) (by unfold dv_a; (repeat' split) <;> omega) (by unfold dv_b; (repeat' split) <;> omega)]) | exact ji_eqv (ih (k + 1) _ _ (by omega)) rfl rfl (by rw [show (k + 1).toNat = k.toNat + 1 by omega]; (try rw [show (4 + 2 * k - 2 + 1).toNat = 2 * k.toNat + 3 by omega]); (try rw [show (4 + 2 * k - 2).toNat = 2 * k.toNat + 2 by omega]); rw [rf_pl_s2 (q := 2 * k.toNat + 2) (q1 := 2 * k.toNat + 3) (by omega) (by unfold dv_a; (repeat' split) <;> omega) (by unfold dv_b; (repeat' split) <;> omega)]) | exact ji_eqv (ih (k + 1) _ _ (by omega)) rfl rfl (by rw [show (k + 1).toNat = k.toNat + 1 by omega]; (try rw [show ((1 : Int) + 1).toNat = 2 from rfl]); (try rw [show (1 : Int).toNat = 1 from rfl]); rw [rf_pl_sn (q := 1) (q1 := 2) (by omega) (by unfold dv_a; (repeat' split) <;> omega) (by unfold dv_b; (repeat' split) <;> omega)]) | exact ji_eqv (ih (k + 1) _ _ (by omega)) rfl rfl (by rw [show (k + 1).toNat = k.toNat + 1 by omega]; (try rw [show (4 + 2 * k - 2 + 1).toNat = 2 * k.toNat + 3 by omega]); (try rw [show (4 + 2 * k - 2).toNat = 2 * k.toNat + 2 by omega]); rw [rf_pl_sn (q := 2 * k.toNat + 2) (q1 := 2 * k.toNat + 3) (by omega) (by unfold dv_a; (repeat' split) <;> omega) (by unfold dv_b; (repeat' split) <;> omega)])
                        · try (exfalso; omega)
                          all_goals
                            refine ji_iload_n dX8_divide_294 rfl ?_
                            refine ji_iconst dX8_divide_295 ?_
                            refine ji_isub dX8_divide_296 ?_
                            refine ji_goto (tgt := 309) dX8_divide_297 rfl ?_
                            try (first | rw [f3 (by omega)] | rw [g3 (by omega)])
                            refine ji_iastoreE dX8_divide_309 (rf_61) (by omega) (rf_s61) ?_
                            refine ji_iinc dX8_divide_310 (by decide) rfl rfl ?_
                            refine ji_goto (tgt := 174) dX8_divide_313 rfl ?_
                            first | exact ji_eqv (ih (k + 1) _ _ (by omega)) rfl rfl (by rw [show (k + 1).toNat = k.toNat + 1 by omega]; (try rw [show ((1 : Int) + 1).toNat = 2 from rfl]); (try rw [show (1 : Int).toNat = 1 from rfl]); rw [rf_pl_s2 (q := 1) (q1 := 2) (by omega) (by unfold dv_a; (repeat' split) <;> omega) (by unfold dv_b; (repeat' split) <;> omega)]) | exact ji_eqv (ih (k + 1) _ _ (by omega)) rfl rfl (by rw [show (k + 1).toNat = k.toNat + 1 by omega]; (try rw [show (4 + 2 * k - 2 + 1).toNat = 2 * k.toNat + 3 by omega]); (try rw [show (4 + 2 * k - 2).toNat = 2 * k.toNat + 2 by omega]); rw [rf_pl_s2 (q := 2 * k.toNat + 2) (q1 := 2 * k.toNat + 3) (by omega) (by unfold dv_a; (repeat' split) <;> omega) (by unfold dv_b; (repeat' split) <;> omega)]) | exact ji_eqv (ih (k + 1) _ _ (by omega)) rfl rfl (by rw [show (k + 1).toNat = k.toNat + 1 by omega]; (try rw [show ((1 : Int) + 1).toNat = 2 from rfl]); (try rw [show (1 : Int).toNat = 1 from rfl]); rw [rf_pl_sn (q := 1) (q1 := 2) (by omega) (by unfold dv_a; (repeat' split) <;> omega) (by unfold dv_b; (repeat' split) <;> omega)]) | exact ji_eqv (ih (k + 1) _ _ (by omega)) rfl rfl (by rw [show (k + 1).toNat = k.toNat + 1 by omega]; (try rw [show (4 + 2 * k - 2 + 1).toNat = 2 * k.toNat + 3 by omega]); (try rw [show (4 + 2 * k - 2).toNat = 2 * k.toNat + 2 by omega]); rw [rf_pl_sn (q := 2 * k.toNat + 2) (q1 := 2 * k.toNat + 3) (by omega) (by unfold dv_a; (repeat' split) <;> omega) (by unfold dv_b; (repeat' split) <;> omega)])
                    · try (exfalso; omega)
                      all_goals
                        refine ji_aload_n dX8_divide_265 rfl trivial ?_
                        refine ji_get (ci := 8) (k := 1) rfl dX8_divide_266 lX8_7 (by decide) (rf_60) rfl ?_
                        refine ji_iload dX8_divide_269 rfl ?_
                        refine ji_iconst dX8_divide_271 ?_
                        refine ji_iadd dX8_divide_272 ?_
                        refine ji_iaload dX8_divide_273 (rf_61) (by omega) ?_
                        first | rw [f3 (by omega)] | rw [g3 (by omega)]
                        refine ji_iload_n dX8_divide_274 rfl ?_
                        refine ji_isub dX8_divide_275 ?_
                        refine ji_goto (tgt := 309) dX8_divide_276 rfl ?_
                        try (first | rw [f3 (by omega)] | rw [g3 (by omega)])
                        refine ji_iastoreE dX8_divide_309 (rf_61) (by omega) (rf_s61) ?_
                        refine ji_iinc dX8_divide_310 (by decide) rfl rfl ?_
                        refine ji_goto (tgt := 174) dX8_divide_313 rfl ?_
                        first | exact ji_eqv (ih (k + 1) _ _ (by omega)) rfl rfl (by rw [show (k + 1).toNat = k.toNat + 1 by omega]; (try rw [show ((1 : Int) + 1).toNat = 2 from rfl]); (try rw [show (1 : Int).toNat = 1 from rfl]); rw [rf_pl_s2 (q := 1) (q1 := 2) (by omega) (by unfold dv_a; (repeat' split) <;> omega) (by unfold dv_b; (repeat' split) <;> omega)]) | exact ji_eqv (ih (k + 1) _ _ (by omega)) rfl rfl (by rw [show (k + 1).toNat = k.toNat + 1 by omega]; (try rw [show (4 + 2 * k - 2 + 1).toNat = 2 * k.toNat + 3 by omega]); (try rw [show (4 + 2 * k - 2).toNat = 2 * k.toNat + 2 by omega]); rw [rf_pl_s2 (q := 2 * k.toNat + 2) (q1 := 2 * k.toNat + 3) (by omega) (by unfold dv_a; (repeat' split) <;> omega) (by unfold dv_b; (repeat' split) <;> omega)]) | exact ji_eqv (ih (k + 1) _ _ (by omega)) rfl rfl (by rw [show (k + 1).toNat = k.toNat + 1 by omega]; (try rw [show ((1 : Int) + 1).toNat = 2 from rfl]); (try rw [show (1 : Int).toNat = 1 from rfl]); rw [rf_pl_sn (q := 1) (q1 := 2) (by omega) (by unfold dv_a; (repeat' split) <;> omega) (by unfold dv_b; (repeat' split) <;> omega)]) | exact ji_eqv (ih (k + 1) _ _ (by omega)) rfl rfl (by rw [show (k + 1).toNat = k.toNat + 1 by omega]; (try rw [show (4 + 2 * k - 2 + 1).toNat = 2 * k.toNat + 3 by omega]); (try rw [show (4 + 2 * k - 2).toNat = 2 * k.toNat + 2 by omega]); rw [rf_pl_sn (q := 2 * k.toNat + 2) (q1 := 2 * k.toNat + 3) (by omega) (by unfold dv_a; (repeat' split) <;> omega) (by unfold dv_b; (repeat' split) <;> omega)])
                · try (exfalso; omega)
                  all_goals
                    refine ji_iconst dX8_divide_245 ?_
                    refine ji_goto (tgt := 250) dX8_divide_246 rfl ?_
                    refine ji_iadd dX8_divide_250 ?_
                    refine ji_iastoreE dX8_divide_251 (rf_61) (by omega) (rf_s61) ?_
                    refine ji_aload_n dX8_divide_252 rfl trivial ?_
                    refine ji_get (ci := 8) (k := 1) rfl dX8_divide_253 lX8_7 (by decide) (rf_60) rfl ?_
                    refine ji_iload dX8_divide_256 rfl ?_
                    refine ji_iconst dX8_divide_258 ?_
                    refine ji_iadd dX8_divide_259 ?_
                    refine ji_iload dX8_divide_260 rfl ?_
                    refine ji_if_eq (tgt := 279) dX8_divide_262 rfl (by omega) (fun c262 => ?_) (fun c262 => ?_)
                    · try (exfalso; omega)
                      all_goals
                        refine ji_aload_n dX8_divide_279 rfl trivial ?_
                        refine ji_get (ci := 8) (k := 1) rfl dX8_divide_280 lX8_7 (by decide) (rf_60) rfl ?_
                        refine ji_iload dX8_divide_283 rfl ?_
                        refine ji_iconst dX8_divide_285 ?_
                        refine ji_iadd dX8_divide_286 ?_
                        refine ji_iaload dX8_divide_287 (rf_61) (by omega) ?_
                        first | rw [f3 (by omega)] | rw [g3 (by omega)]
                        refine ji_iload_n dX8_divide_288 rfl ?_
                        refine ji_iconst dX8_divide_289 ?_
                        refine ji_isub dX8_divide_290 ?_
                        refine ji_icmp_ne (tgt := 300) dX8_divide_291 rfl (by omega) (by omega) (fun c291 => ?_) (fun c291 => ?_)
                        · try (exfalso; omega)
                          all_goals
                            refine ji_aload_n dX8_divide_300 rfl trivial ?_
                            refine ji_get (ci := 8) (k := 1) rfl dX8_divide_301 lX8_7 (by decide) (rf_60) rfl ?_
                            refine ji_iload dX8_divide_304 rfl ?_
                            refine ji_iconst dX8_divide_306 ?_
                            refine ji_iadd dX8_divide_307 ?_
                            refine ji_iaload dX8_divide_308 (rf_61) (by omega) ?_
                            try (first | rw [f3 (by omega)] | rw [g3 (by omega)])
                            refine ji_iastoreE dX8_divide_309 (rf_61) (by omega) (rf_s61) ?_
                            refine ji_iinc dX8_divide_310 (by decide) rfl rfl ?_
                            refine ji_goto (tgt := 174) dX8_divide_313 rfl ?_
                            first | exact ji_eqv (ih (k + 1) _ _ (by omega)) rfl rfl (by rw [show (k + 1).toNat = k.toNat + 1 by omega]; (try rw [show ((1 : Int) + 1).toNat = 2 from rfl]); (try rw [show (1 : Int).toNat = 1 from rfl]); rw [rf_pl_s2 (q := 1) (q1 := 2) (by omega) (by unfold dv_a; (repeat' split) <;> omega) (by unfold dv_b; (repeat' split) <;> omega)]) | exact ji_eqv (ih (k + 1) _ _ (by omega)) rfl rfl (by rw [show (k + 1).toNat = k.toNat + 1 by omega]; (try rw [show (4 + 2 * k - 2 + 1).toNat = 2 * k.toNat + 3 by omega]); (try rw [show (4 + 2 * k - 2).toNat = 2 * k.toNat + 2 by omega]); rw [rf_pl_s2 (q := 2 * k.toNat + 2) (q1 := 2 * k.toNat + 3) (by omega) (by unfold dv_a; (repeat' split) <;> omega) (by unfold dv_b; (repeat' split) <;> omega)]) | exact ji_eqv (ih (k + 1) _ _ (by omega)) rfl rfl (by rw [show (k + 1).toNat = k.toNat + 1 by omega]; (try rw [show ((1 : Int) + 1).toNat = 2 from rfl]); (try rw [show (1 : Int).toNat = 1 from rfl]); rw [rf_pl_sn (q := 1) (q1 := 2) (by omega) (by unfold dv_a; (repeat' split) <;> omega) (by unfold dv_b; (repeat' split) <;> omega)]) | exact ji_eqv (ih (k + 1) _ _ (by omega)) rfl rfl (by rw [show (k + 1).toNat = k.toNat + 1 by omega]; (try rw [show (4 + 2 * k - 2 + 1).toNat = 2 * k.toNat + 3 by omega]); (try rw [show (4 + 2 * k - 2).toNat = 2 * k.toNat + 2 by omega]); rw [rf_pl_sn (q := 2 * k.toNat + 2) (q1 := 2 * k.toNat + 3) (by omega) (by unfold dv_a; (repeat' split) <;> omega) (by unfold dv_b; (repeat' split) <;> omega)])
                        · try (exfalso; omega)
                          all_goals
                            refine ji_iload_n dX8_divide_294 rfl ?_
                            refine ji_iconst dX8_divide_295 ?_
                            refine ji_isub dX8_divide_296 ?_
                            refine ji_goto (tgt := 309) dX8_divide_297 rfl ?_
                            try (first | rw [f3 (by omega)] | rw [g3 (by omega)])
                            refine ji_iastoreE dX8_divide_309 (rf_61) (by omega) (rf_s61) ?_
                            refine ji_iinc dX8_divide_310 (by decide) rfl rfl ?_
                            refine ji_goto (tgt := 174) dX8_divide_313 rfl ?_
                            first | exact ji_eqv (ih (k + 1) _ _ (by omega)) rfl rfl (by rw [show (k + 1).toNat = k.toNat + 1 by omega]; (try rw [show ((1 : Int) + 1).toNat = 2 from rfl]); (try rw [show (1 : Int).toNat = 1 from rfl]); rw [rf_pl_s2 (q := 1) (q1 := 2) (by omega) (by unfold dv_a; (repeat' split) <;> omega) (by unfold dv_b; (repeat' split) <;> omega)]) | exact ji_eqv (ih (k + 1) _ _ (by omega)) rfl rfl (by rw [show (k + 1).toNat = k.toNat + 1 by omega]; (try rw [show (4 + 2 * k - 2 + 1).toNat = 2 * k.toNat + 3 by omega]); (try rw [show (4 + 2 * k - 2).toNat = 2 * k.toNat + 2 by omega]); rw [rf_pl_s2 (q := 2 * k.toNat + 2) (q1 := 2 * k.toNat + 3) (by omega) (by unfold dv_a; (repeat' split) <;> omega) (by unfold dv_b; (repeat' split) <;> omega)]) | exact ji_eqv (ih (k + 1) _ _ (by omega)) rfl rfl (by rw [show (k + 1).toNat = k.toNat + 1 by omega]; (try rw [show ((1 : Int) + 1).toNat = 2 from rfl]); (try rw [show (1 : Int).toNat = 1 from rfl]); rw [rf_pl_sn (q := 1) (q1 := 2) (by omega) (by unfold dv_a; (repeat' split) <;> omega) (by unfold dv_b; (repeat' split) <;> omega)]) | exact ji_eqv (ih (k + 1) _ _ (by omega)) rfl rfl (by rw [show (k + 1).toNat = k.toNat + 1 by omega]; (try rw [show (4 + 2 * k - 2 + 1).toNat = 2 * k.toNat + 3 by omega]); (try rw [show (4 + 2 * k - 2).toNat = 2 * k.toNat + 2 by omega]); rw [rf_pl_sn (q := 2 * k.toNat + 2) (q1 := 2 * k.toNat + 3) (by omega) (by unfold dv_a; (repeat' split) <;> omega) (by unfold dv_b; (repeat' split) <;> omega)])
                    · try (exfalso; omega)
                      all_goals
                        refine ji_aload_n dX8_divide_265 rfl trivial ?_
                        refine ji_get (ci := 8) (k := 1) rfl dX8_divide_266 lX8_7 (by decide) (rf_60) rfl ?_
                        refine ji_iload dX8_divide_269 rfl ?_
                        refine ji_iconst dX8_divide_271 ?_
                        refine ji_iadd dX8_divide_272 ?_
                        refine ji_iaload dX8_divide_273 (rf_61) (by omega) ?_
                        first | rw [f3 (by omega)] | rw [g3 (by omega)]
                        refine ji_iload_n dX8_divide_274 rfl ?_
                        refine ji_isub dX8_divide_275 ?_
                        refine ji_goto (tgt := 309) dX8_divide_276 rfl ?_
                        try (first | rw [f3 (by omega)] | rw [g3 (by omega)])
                        refine ji_iastoreE dX8_divide_309 (rf_61) (by omega) (rf_s61) ?_
                        refine ji_iinc dX8_divide_310 (by decide) rfl rfl ?_
                        refine ji_goto (tgt := 174) dX8_divide_313 rfl ?_
                        first | exact ji_eqv (ih (k + 1) _ _ (by omega)) rfl rfl (by rw [show (k + 1).toNat = k.toNat + 1 by omega]; (try rw [show ((1 : Int) + 1).toNat = 2 from rfl]); (try rw [show (1 : Int).toNat = 1 from rfl]); rw [rf_pl_s2 (q := 1) (q1 := 2) (by omega) (by unfold dv_a; (repeat' split) <;> omega) (by unfold dv_b; (repeat' split) <;> omega)]) | exact ji_eqv (ih (k + 1) _ _ (by omega)) rfl rfl (by rw [show (k + 1).toNat = k.toNat + 1 by omega]; (try rw [show (4 + 2 * k - 2 + 1).toNat = 2 * k.toNat + 3 by omega]); (try rw [show (4 + 2 * k - 2).toNat = 2 * k.toNat + 2 by omega]); rw [rf_pl_s2 (q := 2 * k.toNat + 2) (q1 := 2 * k.toNat + 3) (by omega) (by unfold dv_a; (repeat' split) <;> omega) (by unfold dv_b; (repeat' split) <;> omega)]) | exact ji_eqv (ih (k + 1) _ _ (by omega)) rfl rfl (by rw [show (k + 1).toNat = k.toNat + 1 by omega]; (try rw [show ((1 : Int) + 1).toNat = 2 from rfl]); (try rw [show (1 : Int).toNat = 1 from rfl]); rw [rf_pl_sn (q := 1) (q1 := 2) (by omega) (by unfold dv_a; (repeat' split) <;> omega) (by unfold dv_b; (repeat' split) <;> omega)]) | exact ji_eqv (ih (k + 1) _ _ (by omega)) rfl rfl (by rw [show (k + 1).toNat = k.toNat + 1 by omega]; (try rw [show (4 + 2 * k - 2 + 1).toNat = 2 * k.toNat + 3 by omega]); (try rw [show (4 + 2 * k - 2).toNat = 2 * k.toNat + 2 by omega]); rw [rf_pl_sn (q := 2 * k.toNat + 2) (q1 := 2 * k.toNat + 3) (by omega) (by unfold dv_a; (repeat' split) <;> omega) (by unfold dv_b; (repeat' split) <;> omega)])
            · try (exfalso; omega)
              all_goals
                refine ji_iconst dX8_divide_225 ?_
                refine ji_goto (tgt := 230) dX8_divide_226 rfl ?_
                refine ji_istore dX8_divide_230 (by decide) rfl ?_
                refine ji_aload_n dX8_divide_232 rfl trivial ?_
                refine ji_get (ci := 8) (k := 1) rfl dX8_divide_233 lX8_7 (by decide) (rf_60) rfl ?_
                refine ji_iload dX8_divide_236 rfl ?_
                refine ji_dup2 dX8_divide_238 rfl rfl ?_
                refine ji_iaload dX8_divide_239 (rf_61) (by omega) ?_
                first | rw [f2 (by omega)] | rw [g2 (by omega)]
                refine ji_iload dX8_divide_240 rfl ?_
                refine ji_if_eq (tgt := 249) dX8_divide_242 rfl (by omega) (fun c242 => ?_) (fun c242 => ?_)
                · try (exfalso; omega)
                  all_goals
                    refine ji_iconst dX8_divide_249 ?_
                    refine ji_iadd dX8_divide_250 ?_
                    refine ji_iastoreE dX8_divide_251 (rf_61) (by omega) (rf_s61) ?_
                    refine ji_aload_n dX8_divide_252 rfl trivial ?_
                    refine ji_get (ci := 8) (k := 1) rfl dX8_divide_253 lX8_7 (by decide) (rf_60) rfl ?_
                    refine ji_iload dX8_divide_256 rfl ?_
                    refine ji_iconst dX8_divide_258 ?_
                    refine ji_iadd dX8_divide_259 ?_
                    refine ji_iload dX8_divide_260 rfl ?_
                    refine ji_if_eq (tgt := 279) dX8_divide_262 rfl (by omega) (fun c262 => ?_) (fun c262 => ?_)
                    · try (exfalso; omega)
                      all_goals
                        refine ji_aload_n dX8_divide_279 rfl trivial ?_
                        refine ji_get (ci := 8) (k := 1) rfl dX8_divide_280 lX8_7 (by decide) (rf_60) rfl ?_
                        refine ji_iload dX8_divide_283 rfl ?_
                        refine ji_iconst dX8_divide_285 ?_
                        refine ji_iadd dX8_divide_286 ?_
                        refine ji_iaload dX8_divide_287 (rf_61) (by omega) ?_
                        first | rw [f3 (by omega)] | rw [g3 (by omega)]
                        refine ji_iload_n dX8_divide_288 rfl ?_
                        refine ji_iconst dX8_divide_289 ?_
                        refine ji_isub dX8_divide_290 ?_
                        refine ji_icmp_ne (tgt := 300) dX8_divide_291 rfl (by omega) (by omega) (fun c291 => ?_) (fun c291 => ?_)
                        · try (exfalso; omega)
                          all_goals
                            refine ji_aload_n dX8_divide_300 rfl trivial ?_
                            refine ji_get (ci := 8) (k := 1) rfl dX8_divide_301 lX8_7 (by decide) (rf_60) rfl ?_
                            refine ji_iload dX8_divide_304 rfl ?_
                            refine ji_iconst dX8_divide_306 ?_
                            refine ji_iadd dX8_divide_307 ?_
                            refine ji_iaload dX8_divide_308 (rf_61) (by omega) ?_
                            try (first | rw [f3 (by omega)] | rw [g3 (by omega)])
                            refine ji_iastoreE dX8_divide_309 (rf_61) (by omega) (rf_s61) ?_
                            refine ji_iinc dX8_divide_310 (by decide) rfl rfl ?_
                            refine ji_goto (tgt := 174) dX8_divide_313 rfl ?_
                            first | exact ji_eqv (ih (k + 1) _ _ (by omega)) rfl rfl (by rw [show (k + 1).toNat = k.toNat + 1 by omega]; (try rw [show ((1 : Int) + 1).toNat = 2 from rfl]); (try rw [show (1 : Int).toNat = 1 from rfl]); rw [rf_pl_s2 (q := 1) (q1 := 2) (by omega) (by unfold dv_a; (repeat' split) <;> omega) (by unfold dv_b; (repeat' split) <;> omega)]) | exact ji_eqv (ih (k + 1) _ _ (by omega)) rfl rfl (by rw [show (k + 1).toNat = k.toNat + 1 by omega]; (try rw [show (4 + 2 * k - 2 + 1).toNat = 2 * k.toNat + 3 by omega]); (try rw [show (4 + 2 * k - 2).toNat = 2 * k.toNat + 2 by omega]); rw [rf_pl_s2 (q := 2 * k.toNat + 2) (q1 := 2 * k.toNat + 3) (by omega) (by unfold dv_a; (repeat' split) <;> omega) (by unfold dv_b; (repeat' split) <;> omega)]) | exact ji_eqv (ih (k + 1) _ _ (by omega)) rfl rfl (by rw [show (k + 1).toNat = k.toNat + 1 by omega]; (try rw [show ((1 : Int) + 1).toNat = 2 from rfl]); (try rw [show (1 : Int).toNat = 1 from rfl]); rw [rf_pl_sn (q := 1) (q1 := 2) (by omega) (by unfold dv_a; (repeat' split) <;> omega) (by unfold dv_b; (repeat' split) <;> omega)]) | exact ji_eqv (ih (k + 1) _ _ (by omega)) rfl rfl (by rw [show (k + 1).toNat = k.toNat + 1 by omega]; (try rw [show (4 + 2 * k - 2 + 1).toNat = 2 * k.toNat + 3 by omega]); (try rw [show (4 + 2 * k - 2).toNat = 2 * k.toNat + 2 by omega]); rw [rf_pl_sn (q := 2 * k.toNat + 2) (q1 := 2 * k.toNat + 3) (by omega) (by unfold dv_a; (repeat' split) <;> omega) (by unfold dv_b; (repeat' split) <;> omega)])
                        · try (exfalso; omega)
                          all_goals
                            refine ji_iload_n dX8_divide_294 rfl ?_
                            refine ji_iconst dX8_divide_295 ?_
                            refine ji_isub dX8_divide_296 ?_
                            refine ji_goto (tgt := 309) dX8_divide_297 rfl ?_
                            try (first | rw [f3 (by omega)] | rw [g3 (by omega)])
                            refine ji_iastoreE dX8_divide_309 (rf_61) (by omega) (rf_s61) ?_
                            refine ji_iinc dX8_divide_310 (by decide) rfl rfl ?_
                            refine ji_goto (tgt := 174) dX8_divide_313 rfl ?_
                            first | exact ji_eqv (ih (k + 1) _ _ (by omega)) rfl rfl (by rw [show (k + 1).toNat = k.toNat + 1 by omega]; (try rw [show ((1 : Int) + 1).toNat = 2 from rfl]); (try rw [show (1 : Int).toNat = 1 from rfl]); rw [rf_pl_s2 (q := 1) (q1 := 2) (by omega) (by unfold dv_a; (repeat' split) <;> omega) (by unfold dv_b; (repeat' split) <;> omega)]) | exact ji_eqv (ih (k + 1) _ _ (by omega)) rfl rfl (by rw [show (k + 1).toNat = k.toNat + 1 by omega]; (try rw [show (4 + 2 * k - 2 + 1).toNat = 2 * k.toNat + 3 by omega]); (try rw [show (4 + 2 * k - 2).toNat = 2 * k.toNat + 2 by omega]); rw [rf_pl_s2 (q := 2 * k.toNat + 2) (q1 := 2 * k.toNat + 3) (by omega) (by unfold dv_a; (repeat' split) <;> omega) (by unfold dv_b; (repeat' split) <;> omega)]) | exact ji_eqv (ih (k + 1) _ _ (by omega)) rfl rfl (by rw [show (k + 1).toNat = k.toNat + 1 by omega]; (try rw [show ((1 : Int) + 1).toNat = 2 from rfl]); (try rw [show (1 : Int).toNat = 1 from rfl]); rw [rf_pl_sn (q := 1) (q1 := 2) (by omega) (by unfold dv_a; (repeat' split) <;> omega) (by unfold dv_b; (repeat' split) <;> omega)]) | exact ji_eqv (ih (k + 1) _ _ (by omega)) rfl rfl (by rw [show (k + 1).toNat = k.toNat + 1 by omega]; (try rw [show (4 + 2 * k - 2 + 1).toNat = 2 * k.toNat + 3 by omega]); (try rw [show (4 + 2 * k - 2).toNat = 2 * k.toNat + 2 by omega]); rw [rf_pl_sn (q := 2 * k.toNat + 2) (q1 := 2 * k.toNat + 3) (by omega) (by unfold dv_a; (repeat' split) <;> omega) (by unfold dv_b; (repeat' split) <;> omega)])
                    · try (exfalso; omega)
                      all_goals
                        refine ji_aload_n dX8_divide_265 rfl trivial ?_
                        refine ji_get (ci := 8) (k := 1) rfl dX8_divide_266 lX8_7 (by decide) (rf_60) rfl ?_
                        refine ji_iload dX8_divide_269 rfl ?_
                        refine ji_iconst dX8_divide_271 ?_
                        refine ji_iadd dX8_divide_272 ?_
                        refine ji_iaload dX8_divide_273 (rf_61) (by omega) ?_
                        first | rw [f3 (by omega)] | rw [g3 (by omega)]
                        refine ji_iload_n dX8_divide_274 rfl ?_
                        refine ji_isub dX8_divide_275 ?_
                        refine ji_goto (tgt := 309) dX8_divide_276 rfl ?_
                        try (first | rw [f3 (by omega)] | rw [g3 (by omega)])
                        refine ji_iastoreE dX8_divide_309 (rf_61) (by omega) (rf_s61) ?_
                        refine ji_iinc dX8_divide_310 (by decide) rfl rfl ?_
                        refine ji_goto (tgt := 174) dX8_divide_313 rfl ?_
                        first | exact ji_eqv (ih (k + 1) _ _ (by omega)) rfl rfl (by rw [show (k + 1).toNat = k.toNat + 1 by omega]; (try rw [show ((1 : Int) + 1).toNat = 2 from rfl]); (try rw [show (1 : Int).toNat = 1 from rfl]); rw [rf_pl_s2 (q := 1) (q1 := 2) (by omega) (by unfold dv_a; (repeat' split) <;> omega) (by unfold dv_b; (repeat' split) <;> omega)]) | exact ji_eqv (ih (k + 1) _ _ (by omega)) rfl rfl (by rw [show (k + 1).toNat = k.toNat + 1 by omega]; (try rw [show (4 + 2 * k - 2 + 1).toNat = 2 * k.toNat + 3 by omega]); (try rw [show (4 + 2 * k - 2).toNat = 2 * k.toNat + 2 by omega]); rw [rf_pl_s2 (q := 2 * k.toNat + 2) (q1 := 2 * k.toNat + 3) (by omega) (by unfold dv_a; (repeat' split) <;> omega) (by unfold dv_b; (repeat' split) <;> omega)]) | exact ji_eqv (ih (k + 1) _ _ (by omega)) rfl rfl (by rw [show (k + 1).toNat = k.toNat + 1 by omega]; (try rw [show ((1 : Int) + 1).toNat = 2 from rfl]); (try rw [show (1 : Int).toNat = 1 from rfl]); rw [rf_pl_sn (q := 1) (q1 := 2) (by omega) (by unfold dv_a; (repeat' split) <;> omega) (by unfold dv_b; (repeat' split) <;> omega)]) | exact ji_eqv (ih (k + 1) _ _ (by omega)) rfl rfl (by rw [show (k + 1).toNat = k.toNat + 1 by omega]; (try rw [show (4 + 2 * k - 2 + 1).toNat = 2 * k.toNat + 3 by omega]); (try rw [show (4 + 2 * k - 2).toNat = 2 * k.toNat + 2 by omega]); rw [rf_pl_sn (q := 2 * k.toNat + 2) (q1 := 2 * k.toNat + 3) (by omega) (by unfold dv_a; (repeat' split) <;> omega) (by unfold dv_b; (repeat' split) <;> omega)])
                · try (exfalso; omega)
                  all_goals
                    refine ji_iconst dX8_divide_245 ?_
                    refine ji_goto (tgt := 250) dX8_divide_246 rfl ?_
                    refine ji_iadd dX8_divide_250 ?_
                    refine ji_iastoreE dX8_divide_251 (rf_61) (by omega) (rf_s61) ?_
                    refine ji_aload_n dX8_divide_252 rfl trivial ?_
                    refine ji_get (ci := 8) (k := 1) rfl dX8_divide_253 lX8_7 (by decide) (rf_60) rfl ?_
                    refine ji_iload dX8_divide_256 rfl ?_
                    refine ji_iconst dX8_divide_258 ?_
                    refine ji_iadd dX8_divide_259 ?_
                    refine ji_iload dX8_divide_260 rfl ?_
                    refine ji_if_eq (tgt := 279) dX8_divide_262 rfl (by omega) (fun c262 => ?_) (fun c262 => ?_)
                    · try (exfalso; omega)
                      all_goals
                        refine ji_aload_n dX8_divide_279 rfl trivial ?_
                        refine ji_get (ci := 8) (k := 1) rfl dX8_divide_280 lX8_7 (by decide) (rf_60) rfl ?_
                        refine ji_iload dX8_divide_283 rfl ?_
                        refine ji_iconst dX8_divide_285 ?_
                        refine ji_iadd dX8_divide_286 ?_
                        refine ji_iaload dX8_divide_287 (rf_61) (by omega) ?_
                        first | rw [f3 (by omega)] | rw [g3 (by omega)]
                        refine ji_iload_n dX8_divide_288 rfl ?_
                        refine ji_iconst dX8_divide_289 ?_
                        refine ji_isub dX8_divide_290 ?_
                        refine ji_icmp_ne (tgt := 300) dX8_divide_291 rfl (by omega) (by omega) (fun c291 => ?_) (fun c291 => ?_)
                        · try (exfalso; omega)
                          all_goals
                            refine ji_aload_n dX8_divide_300 rfl trivial ?_
                            refine ji_get (ci := 8) (k := 1) rfl dX8_divide_301 lX8_7 (by decide) (rf_60) rfl ?_
                            refine ji_iload dX8_divide_304 rfl ?_
                            refine ji_iconst dX8_divide_306 ?_
                            refine ji_iadd dX8_divide_307 ?_
                            refine ji_iaload dX8_divide_308 (rf_61) (by omega) ?_
                            try (first | rw [f3 (by omega)] | rw [g3 (by omega)])
                            refine ji_iastoreE dX8_divide_309 (rf_61) (by omega) (rf_s61) ?_
                            refine ji_iinc dX8_divide_310 (by decide) rfl rfl ?_
                            refine ji_goto (tgt := 174) dX8_divide_313 rfl ?_
                            first | exact ji_eqv (ih (k + 1) _ _ (by omega)) rfl rfl (by rw [show (k + 1).toNat = k.toNat + 1 by omega]; (try rw [show ((1 : Int) + 1).toNat = 2 from rfl]); (try rw [show (1 : Int).toNat = 1 from rfl]); rw [rf_pl_s2 (q := 1) (q1 := 2) (by omega) (by unfold dv_a; (repeat' split) <;> omega) (by unfold dv_b; (repeat' split) <;> omega)]) | exact ji_eqv (ih (k + 1) _ _ (by omega)) rfl rfl (by rw [show (k + 1).toNat = k.toNat + 1 by omega]; (try rw [show (4 + 2 * k - 2 + 1).toNat = 2 * k.toNat + 3 by omega]); (try rw [show (4 + 2 * k - 2).toNat = 2 * k.toNat + 2 by omega]); rw [rf_pl_s2 (q := 2 * k.toNat + 2) (q1 := 2 * k.toNat + 3) (by omega) (by unfold dv_a; (repeat' split) <;> omega) (by unfold dv_b; (repeat' split) <;> omega)]) | exact ji_eqv (ih (k + 1) _ _ (by omega)) rfl rfl (by rw [show (k + 1).toNat = k.toNat + 1 by omega]; (try rw [show ((1 : Int) + 1).toNat = 2 from rfl]); (try rw [show (1 : Int).toNat = 1 from rfl]); rw [rf_pl_sn (q := 1) (q1 := 2) (by omega) (by unfold dv_a; (repeat' split) <;> omega) (by unfold dv_b; (repeat' split) <;> omega)]) | exact ji_eqv (ih (k + 1) _ _ (by omega)) rfl rfl (by rw [show (k + 1).toNat = k.toNat + 1 by omega]; (try rw [show (4 + 2 * k - 2 + 1).toNat = 2 * k.toNat + 3 by omega]); (try rw [show (4 + 2 * k - 2).toNat = 2 * k.toNat + 2 by omega]); rw [rf_pl_sn (q := 2 * k.toNat + 2) (q1 := 2 * k.toNat + 3) (by omega) (by unfold dv_a; (repeat' split) <;> omega) (by unfold dv_b; (repeat' split) <;> omega)])
                        · try (exfalso; omega)
                          all_goals
                            refine ji_iload_n dX8_divide_294 rfl ?_
                            refine ji_iconst dX8_divide_295 ?_
                            refine ji_isub dX8_divide_296 ?_
                            refine ji_goto (tgt := 309) dX8_divide_297 rfl ?_
                            try (first | rw [f3 (by omega)] | rw [g3 (by omega)])
                            refine ji_iastoreE dX8_divide_309 (rf_61) (by omega) (rf_s61) ?_
                            refine ji_iinc dX8_divide_310 (by decide) rfl rfl ?_
                            refine ji_goto (tgt := 174) dX8_divide_313 rfl ?_
                            first | exact ji_eqv (ih (k + 1) _ _ (by omega)) rfl rfl (by rw [show (k + 1).toNat = k.toNat + 1 by omega]; (try rw [show ((1 : Int) + 1).toNat = 2 from rfl]); (try rw [show (1 : Int).toNat = 1 from rfl]); rw [rf_pl_s2 (q := 1) (q1 := 2) (by omega) (by unfold dv_a; (repeat' split) <;> omega) (by unfold dv_b; (repeat' split) <;> omega)]) | exact ji_eqv (ih (k + 1) _ _ (by omega)) rfl rfl (by rw [show (k + 1).toNat = k.toNat + 1 by omega]; (try rw [show (4 + 2 * k - 2 + 1).toNat = 2 * k.toNat + 3 by omega]); (try rw [show (4 + 2 * k - 2).toNat = 2 * k.toNat + 2 by omega]); rw [rf_pl_s2 (q := 2 * k.toNat + 2) (q1 := 2 * k.toNat + 3) (by omega) (by unfold dv_a; (repeat' split) <;> omega) (by unfold dv_b; (repeat' split) <;> omega)]) | exact ji_eqv (ih (k + 1) _ _ (by omega)) rfl rfl (by rw [show (k + 1).toNat = k.toNat + 1 by omega]; (try rw [show ((1 : Int) + 1).toNat = 2 from rfl]); (try rw [show (1 : Int).toNat = 1 from rfl]); rw [rf_pl_sn (q := 1) (q1 := 2) (by omega) (by unfold dv_a; (repeat' split) <;> omega) (by unfold dv_b; (repeat' split) <;> omega)]) | exact ji_eqv (ih (k + 1) _ _ (by omega)) rfl rfl (by rw [show (k + 1).toNat = k.toNat + 1 by omega]; (try rw [show (4 + 2 * k - 2 + 1).toNat = 2 * k.toNat + 3 by omega]); (try rw [show (4 + 2 * k - 2).toNat = 2 * k.toNat + 2 by omega]); rw [rf_pl_sn (q := 2 * k.toNat + 2) (q1 := 2 * k.toNat + 3) (by omega) (by unfold dv_a; (repeat' split) <;> omega) (by unfold dv_b; (repeat' split) <;> omega)])
                    · try (exfalso; omega)
                      all_goals
                        refine ji_aload_n dX8_divide_265 rfl trivial ?_
                        refine ji_get (ci := 8) (k := 1) rfl dX8_divide_266 lX8_7 (by decide) (rf_60) rfl ?_
                        refine ji_iload dX8_divide_269 rfl ?_
                        refine ji_iconst dX8_divide_271 ?_
                        refine ji_iadd dX8_divide_272 ?_
                        refine ji_iaload dX8_divide_273 (rf_61) (by omega) ?_
                        first | rw [f3 (by omega)] | rw [g3 (by omega)]
                        refine ji_iload_n dX8_divide_274 rfl ?_
                        refine ji_isub dX8_divide_275 ?_
                        refine ji_goto (tgt := 309) dX8_divide_276 rfl ?_
                        try (first | rw [f3 (by omega)] | rw [g3 (by omega)])
                        refine ji_iastoreE dX8_divide_309 (rf_61) (by omega) (rf_s61) ?_
                        refine ji_iinc dX8_divide_310 (by decide) rfl rfl ?_
                        refine ji_goto (tgt := 174) dX8_divide_313 rfl ?_
                        first | exact ji_eqv (ih (k + 1) _ _ (by omega)) rfl rfl (by rw [show (k + 1).toNat = k.toNat + 1 by omega]; (try rw [show ((1 : Int) + 1).toNat = 2 from rfl]); (try rw [show (1 : Int).toNat = 1 from rfl]); rw [rf_pl_s2 (q := 1) (q1 := 2) (by omega) (by unfold dv_a; (repeat' split) <;> omega) (by unfold dv_b; (repeat' split) <;> omega)]) | exact ji_eqv (ih (k + 1) _ _ (by omega)) rfl rfl (by rw [show (k + 1).toNat = k.toNat + 1 by omega]; (try rw [show (4 + 2 * k - 2 + 1).toNat = 2 * k.toNat + 3 by omega]); (try rw [show (4 + 2 * k - 2).toNat = 2 * k.toNat + 2 by omega]); rw [rf_pl_s2 (q := 2 * k.toNat + 2) (q1 := 2 * k.toNat + 3) (by omega) (by unfold dv_a; (repeat' split) <;> omega) (by unfold dv_b; (repeat' split) <;> omega)]) | exact ji_eqv (ih (k + 1) _ _ (by omega)) rfl rfl (by rw [show (k + 1).toNat = k.toNat + 1 by omega]; (try rw [show ((1 : Int) + 1).toNat = 2 from rfl]); (try rw [show (1 : Int).toNat = 1 from rfl]); rw [rf_pl_sn (q := 1) (q1 := 2) (by omega) (by unfold dv_a; (repeat' split) <;> omega) (by unfold dv_b; (repeat' split) <;> omega)]) | exact ji_eqv (ih (k + 1) _ _ (by omega)) rfl rfl (by rw [show (k + 1).toNat = k.toNat + 1 by omega]; (try rw [show (4 + 2 * k - 2 + 1).toNat = 2 * k.toNat + 3 by omega]); (try rw [show (4 + 2 * k - 2).toNat = 2 * k.toNat + 2 by omega]); rw [rf_pl_sn (q := 2 * k.toNat + 2) (q1 := 2 * k.toNat + 3) (by omega) (by unfold dv_a; (repeat' split) <;> omega) (by unfold dv_b; (repeat' split) <;> omega)])

set_option maxHeartbeats 4000000 in
set_option maxRecDepth 100000 in
theorem r_divide_m {bc bs : Nat} {q x : Int} (hq : 0 ≤ q ∧ q < 10) (hx : 0 ≤ x ∧ x ≤ 400) (hB9 : ∀ j, -19000 ≤ z j ∧ z j ≤ 19000) (hB : ∀ j, -20000 ≤ z j ∧ z j ≤ 20000) (h14 : 0 ≤ z 14 ∧ z 14 ≤ 12)  : ∀ (u : Nat) (k : Int) (o5 o6 : Option Value), 0 ≤ k ∧ k + u = z 14 →
    JW G (d + 1) mX8_divide 318 [some (.ref 60), some (.int (jI q)), some (.int (jI x)), some (.int (jI k)), o5, o6] [] (n, rf_f f th (rf_mk (dv_0 q x) (dv_1 q x) (dv_2 q x) (dv_4 q x) z k.toNat) kp ed nt nl wi ht sy sz bf rs rr rq rp mm ln lo lf lt co ro pg pf hsh) bc bs (fun r9 h9 => r9 = .inl none ∧ h9 = (n, rf_f f th (rf_mk (dv_0 q x) (dv_1 q x) (dv_2 q x) (dv_4 q x) z (z 14).toNat) kp ed nt nl wi ht sy sz bf rs rr rq rp mm ln lo lf lt co ro pg pf hsh)) := by
  intro u
  induction u with
  | zero =>
    intro k o5 o6 hk
    have e14 : (rf_mk (dv_0 q x) (dv_1 q x) (dv_2 q x) (dv_4 q x) z k.toNat) 14 = z 14 := rf_mk_r (by omega)
    refine ji_iload_n dX8_divide_318 rfl ?_
    refine ji_aload_n dX8_divide_319 rfl trivial ?_
    refine ji_get (ci := 8) (k := 1) rfl dX8_divide_320 lX8_7 (by decide) (rf_60) rfl ?_
    refine ji_bipush dX8_divide_323 rfl ?_
    refine ji_ialoadK (k := 14) dX8_divide_325 (rf_61) rfl (by decide) ?_
    rw [e14]
    refine ji_icmp_ge (tgt := 362) dX8_divide_326 rfl (by omega) (by omega) (fun c326 => ?_) (fun c326 => absurd c326 (by omega))
    exact ji_return dX8_divide_362 rfl ⟨rfl, by rw [show k.toNat = (z 14).toNat by omega]⟩
  | succ u ih =>
    intro k o5 o6 hk
    have e14 : (rf_mk (dv_0 q x) (dv_1 q x) (dv_2 q x) (dv_4 q x) z k.toNat) 14 = z 14 := rf_mk_r (by omega)
    have r0 : (rf_mk (dv_0 q x) (dv_1 q x) (dv_2 q x) (dv_4 q x) z k.toNat) (15 + 5 * k).toNat = z (15 + 5 * k.toNat) := by rw [show (15 + 5 * k).toNat = 15 + 5 * k.toNat by omega]; exact rf_mk_r (by omega)
    have b0 := hB (15 + 5 * k.toNat)
    have r1 : (rf_mk (dv_0 q x) (dv_1 q x) (dv_2 q x) (dv_4 q x) z k.toNat) (15 + 5 * k + 1).toNat = z (15 + 5 * k.toNat + 1) := by rw [show (15 + 5 * k + 1).toNat = 15 + 5 * k.toNat + 1 by omega]; exact rf_mk_r (by omega)
    have b1 := hB (15 + 5 * k.toNat + 1)
    have r2 : (rf_mk (dv_0 q x) (dv_1 q x) (dv_2 q x) (dv_4 q x) z k.toNat) (15 + 5 * k + 2).toNat = z (15 + 5 * k.toNat + 2) := by rw [show (15 + 5 * k + 2).toNat = 15 + 5 * k.toNat + 2 by omega]; exact rf_mk_r (by omega)
    have b2 := hB (15 + 5 * k.toNat + 2)
    have r4 : (rf_mk (dv_0 q x) (dv_1 q x) (dv_2 q x) (dv_4 q x) z k.toNat) (15 + 5 * k + 4).toNat = z (15 + 5 * k.toNat + 4) := by rw [show (15 + 5 * k + 4).toNat = 15 + 5 * k.toNat + 4 by omega]; exact rf_mk_r (by omega)
    have b4 := hB (15 + 5 * k.toNat + 4)
    have s10 : ∀ v, va_up (rf_mk (dv_0 q x) (dv_1 q x) (dv_2 q x) (dv_4 q x) z k.toNat) (15 + 5 * k + 1).toNat v (15 + 5 * k).toNat = z (15 + 5 * k.toNat) := fun v => (va_up_ne _ _ (by omega)).trans r0
    have s20 : ∀ v, va_up (rf_mk (dv_0 q x) (dv_1 q x) (dv_2 q x) (dv_4 q x) z k.toNat) (15 + 5 * k + 2).toNat v (15 + 5 * k).toNat = z (15 + 5 * k.toNat) := fun v => (va_up_ne _ _ (by omega)).trans r0
    have s40 : ∀ v, va_up (rf_mk (dv_0 q x) (dv_1 q x) (dv_2 q x) (dv_4 q x) z k.toNat) (15 + 5 * k + 4).toNat v (15 + 5 * k).toNat = z (15 + 5 * k.toNat) := fun v => (va_up_ne _ _ (by omega)).trans r0
    have s01 : ∀ v, va_up (rf_mk (dv_0 q x) (dv_1 q x) (dv_2 q x) (dv_4 q x) z k.toNat) (15 + 5 * k).toNat v (15 + 5 * k + 1).toNat = z (15 + 5 * k.toNat + 1) := fun v => (va_up_ne _ _ (by omega)).trans r1
    have s21 : ∀ v, va_up (rf_mk (dv_0 q x) (dv_1 q x) (dv_2 q x) (dv_4 q x) z k.toNat) (15 + 5 * k + 2).toNat v (15 + 5 * k + 1).toNat = z (15 + 5 * k.toNat + 1) := fun v => (va_up_ne _ _ (by omega)).trans r1
    have s41 : ∀ v, va_up (rf_mk (dv_0 q x) (dv_1 q x) (dv_2 q x) (dv_4 q x) z k.toNat) (15 + 5 * k + 4).toNat v (15 + 5 * k + 1).toNat = z (15 + 5 * k.toNat + 1) := fun v => (va_up_ne _ _ (by omega)).trans r1
    have s02 : ∀ v, va_up (rf_mk (dv_0 q x) (dv_1 q x) (dv_2 q x) (dv_4 q x) z k.toNat) (15 + 5 * k).toNat v (15 + 5 * k + 2).toNat = z (15 + 5 * k.toNat + 2) := fun v => (va_up_ne _ _ (by omega)).trans r2
    have s12 : ∀ v, va_up (rf_mk (dv_0 q x) (dv_1 q x) (dv_2 q x) (dv_4 q x) z k.toNat) (15 + 5 * k + 1).toNat v (15 + 5 * k + 2).toNat = z (15 + 5 * k.toNat + 2) := fun v => (va_up_ne _ _ (by omega)).trans r2
    have s42 : ∀ v, va_up (rf_mk (dv_0 q x) (dv_1 q x) (dv_2 q x) (dv_4 q x) z k.toNat) (15 + 5 * k + 4).toNat v (15 + 5 * k + 2).toNat = z (15 + 5 * k.toNat + 2) := fun v => (va_up_ne _ _ (by omega)).trans r2
    have s04 : ∀ v, va_up (rf_mk (dv_0 q x) (dv_1 q x) (dv_2 q x) (dv_4 q x) z k.toNat) (15 + 5 * k).toNat v (15 + 5 * k + 4).toNat = z (15 + 5 * k.toNat + 4) := fun v => (va_up_ne _ _ (by omega)).trans r4
    have s14 : ∀ v, va_up (rf_mk (dv_0 q x) (dv_1 q x) (dv_2 q x) (dv_4 q x) z k.toNat) (15 + 5 * k + 1).toNat v (15 + 5 * k + 4).toNat = z (15 + 5 * k.toNat + 4) := fun v => (va_up_ne _ _ (by omega)).trans r4
    have s24 : ∀ v, va_up (rf_mk (dv_0 q x) (dv_1 q x) (dv_2 q x) (dv_4 q x) z k.toNat) (15 + 5 * k + 2).toNat v (15 + 5 * k + 4).toNat = z (15 + 5 * k.toNat + 4) := fun v => (va_up_ne _ _ (by omega)).trans r4
    have hA1 : x ≤ z (15 + 5 * k.toNat + 1) → rf_SA (rf_mk (dv_0 q x) (dv_1 q x) (dv_2 q x) (dv_4 q x) z k.toNat) (15 + 5 * k) q x = va_up (va_up (va_up (rf_mk (dv_0 q x) (dv_1 q x) (dv_2 q x) (dv_4 q x) z k.toNat) (15 + 5 * k).toNat (q + 1)) (15 + 5 * k + 1).toNat (z (15 + 5 * k.toNat + 1) - x)) (15 + 5 * k + 2).toNat (z (15 + 5 * k.toNat + 2) - x) := fun h => by unfold rf_SA; rw [r1, r2, if_pos h]
    have hA2 : ¬ x ≤ z (15 + 5 * k.toNat + 1) → rf_SA (rf_mk (dv_0 q x) (dv_1 q x) (dv_2 q x) (dv_4 q x) z k.toNat) (15 + 5 * k) q x = va_up (va_up (va_up (rf_mk (dv_0 q x) (dv_1 q x) (dv_2 q x) (dv_4 q x) z k.toNat) (15 + 5 * k + 1).toNat (dv_m (z (15 + 5 * k.toNat + 1)) x)) (15 + 5 * k + 2).toNat (dv_m (z (15 + 5 * k.toNat + 2)) x)) (15 + 5 * k + 4).toNat (if dv_m (z (15 + 5 * k.toNat + 1)) x = dv_m (z (15 + 5 * k.toNat + 2)) x then 1 else 0) := fun h => by unfold rf_SA; rw [r1, r2, if_neg h]
    have hMB : ∀ j, -20000 ≤ (rf_mk (dv_0 q x) (dv_1 q x) (dv_2 q x) (dv_4 q x) z k.toNat) j ∧ (rf_mk (dv_0 q x) (dv_1 q x) (dv_2 q x) (dv_4 q x) z k.toNat) j ≤ 20000 := rf_mk_b (y := 20000) hB9 (by omega) (fun a b c d h1 _ _ _ => by unfold dv_0; split <;> omega) (fun a b c d h1 h2 _ _ => by unfold dv_1 dv_m; (repeat' split) <;> omega) (fun a b c d h1 h2 h3 _ => by unfold dv_2 dv_m; (repeat' split) <;> omega) (fun a b c d h1 h2 h3 h4 => by unfold dv_4; (repeat' split) <;> omega) k.toNat
    refine ji_iload_n dX8_divide_318 rfl ?_
    refine ji_aload_n dX8_divide_319 rfl trivial ?_
    refine ji_get (ci := 8) (k := 1) rfl dX8_divide_320 lX8_7 (by decide) (rf_60) rfl ?_
    refine ji_bipush dX8_divide_323 rfl ?_
    refine ji_ialoadK (k := 14) dX8_divide_325 (rf_61) rfl (by decide) ?_
    rw [e14]
    refine ji_icmp_ge (tgt := 362) dX8_divide_326 rfl (by omega) (by omega) (fun c326 => absurd c326 (by omega)) (fun c326 => ?_)
    refine ji_aload_n dX8_divide_329 rfl trivial ?_
    refine ji_get (ci := 8) (k := 1) rfl dX8_divide_330 lX8_7 (by decide) (rf_60) rfl ?_
    refine ji_bipush dX8_divide_333 rfl ?_
    refine ji_iconst dX8_divide_335 ?_
    refine ji_iload_n dX8_divide_336 rfl ?_
    refine ji_imul dX8_divide_337 ?_
    refine ji_iadd dX8_divide_338 ?_
    refine ji_iaload dX8_divide_339 (rf_61) (by omega) ?_
    rw [r0]
    refine ji_iload_n dX8_divide_340 rfl ?_
    refine ji_icmp_ne (tgt := 356) dX8_divide_341 rfl (by omega) (by omega) (fun c341 => ?_) (fun c341 => ?_)
    · try (exfalso; omega)
      all_goals
        refine ji_iinc dX8_divide_356 (by decide) rfl rfl ?_
        refine ji_goto (tgt := 318) dX8_divide_359 rfl ?_
        by_cases hxs : x ≤ z (15 + 5 * k.toNat + 1) <;> first | exact ji_eqv (ih (k + 1) _ _ (by omega)) rfl rfl (by rw [hA1 (by omega), show (k + 1).toNat = k.toNat + 1 by omega]; (try rw [show (15 + 5 * k + 1).toNat = 15 + 5 * k.toNat + 1 by omega]); (try rw [show (15 + 5 * k + 2).toNat = 15 + 5 * k.toNat + 2 by omega]); (try rw [show (15 + 5 * k + 4).toNat = 15 + 5 * k.toNat + 4 by omega]); (try rw [show (15 + 5 * k).toNat = 15 + 5 * k.toNat by omega]); exact congrArg (fun r9 => (n, rf_f f th r9 kp ed nt nl wi ht sy sz bf rs rr rq rp mm ln lo lf lt co ro pg pf hsh)) (rf_mk_e (fun j hj => by rw [va_up_ne _ _ (by omega), va_up_ne _ _ (by omega), va_up_ne _ _ (by omega)]) (by rw [va_up_ne _ _ (by omega), va_up_ne _ _ (by omega), va_up_self]; unfold dv_0; (repeat' split) <;> omega) (by rw [va_up_ne _ _ (by omega), va_up_self]; unfold dv_1; (repeat' split) <;> omega) (by rw [va_up_self]; unfold dv_2; (repeat' split) <;> omega) (by rw [va_up_ne _ _ (by omega), va_up_ne _ _ (by omega), va_up_ne _ _ (by omega), rf_mk_r (by omega)]) (by rw [va_up_ne _ _ (by omega), va_up_ne _ _ (by omega), va_up_ne _ _ (by omega), rf_mk_r (by omega)]; unfold dv_4; (repeat' split) <;> omega))) | exact ji_eqv (ih (k + 1) _ _ (by omega)) rfl rfl (by rw [hA2 (by omega), show (k + 1).toNat = k.toNat + 1 by omega]; (try rw [show (15 + 5 * k + 1).toNat = 15 + 5 * k.toNat + 1 by omega]); (try rw [show (15 + 5 * k + 2).toNat = 15 + 5 * k.toNat + 2 by omega]); (try rw [show (15 + 5 * k + 4).toNat = 15 + 5 * k.toNat + 4 by omega]); (try rw [show (15 + 5 * k).toNat = 15 + 5 * k.toNat by omega]); exact congrArg (fun r9 => (n, rf_f f th r9 kp ed nt nl wi ht sy sz bf rs rr rq rp mm ln lo lf lt co ro pg pf hsh)) (rf_mk_e (fun j hj => by rw [va_up_ne _ _ (by omega), va_up_ne _ _ (by omega), va_up_ne _ _ (by omega)]) (by rw [va_up_ne _ _ (by omega), va_up_ne _ _ (by omega), va_up_ne _ _ (by omega), rf_mk_r (by omega)]; unfold dv_0; (repeat' split) <;> omega) (by rw [va_up_ne _ _ (by omega), va_up_ne _ _ (by omega), va_up_self]; unfold dv_1; (repeat' split) <;> omega) (by rw [va_up_ne _ _ (by omega), va_up_self]; unfold dv_2; (repeat' split) <;> omega) (by rw [va_up_ne _ _ (by omega), va_up_ne _ _ (by omega), va_up_ne _ _ (by omega), rf_mk_r (by omega)]) (by rw [va_up_self]; unfold dv_4; (repeat' split) <;> omega))) | exact ji_eqv (ih (k + 1) _ _ (by omega)) rfl rfl (by rw [show (k + 1).toNat = k.toNat + 1 by omega]; (try rw [show (15 + 5 * k + 1).toNat = 15 + 5 * k.toNat + 1 by omega]); (try rw [show (15 + 5 * k + 2).toNat = 15 + 5 * k.toNat + 2 by omega]); (try rw [show (15 + 5 * k + 4).toNat = 15 + 5 * k.toNat + 4 by omega]); (try rw [show (15 + 5 * k).toNat = 15 + 5 * k.toNat by omega]); exact congrArg (fun r9 => (n, rf_f f th r9 kp ed nt nl wi ht sy sz bf rs rr rq rp mm ln lo lf lt co ro pg pf hsh)) (rf_mk_e (fun j hj => rfl) (by rw [rf_mk_r (by omega)]; unfold dv_0; (repeat' split) <;> omega) (by rw [rf_mk_r (by omega)]; unfold dv_1; (repeat' split) <;> omega) (by rw [rf_mk_r (by omega)]; unfold dv_2; (repeat' split) <;> omega) (by rw [rf_mk_r (by omega)]) (by rw [rf_mk_r (by omega)]; unfold dv_4; (repeat' split) <;> omega)))
    · try (exfalso; omega)
      all_goals
        refine ji_aload_n dX8_divide_344 rfl trivial ?_
        refine ji_bipush dX8_divide_345 rfl ?_
        refine ji_iconst dX8_divide_347 ?_
        refine ji_iload_n dX8_divide_348 rfl ?_
        refine ji_imul dX8_divide_349 ?_
        refine ji_iadd dX8_divide_350 ?_
        refine ji_iload_n dX8_divide_351 rfl ?_
        refine ji_iload_n dX8_divide_352 rfl ?_
        refine ji_cVv dX8_divide_353 (r_splitAnnotation (by omega) (by omega) hMB) rfl (rf_60) rfl rfl wX8_splitAnnotation vX8_splitAnnotation lX8_318 rfl (Nat.le_of_ble_eq_true rfl) rfl ?_
        refine ji_iinc dX8_divide_356 (by decide) rfl rfl ?_
        refine ji_goto (tgt := 318) dX8_divide_359 rfl ?_
        by_cases hxs : x ≤ z (15 + 5 * k.toNat + 1) <;> first | exact ji_eqv (ih (k + 1) _ _ (by omega)) rfl rfl (by rw [hA1 (by omega), show (k + 1).toNat = k.toNat + 1 by omega]; (try rw [show (15 + 5 * k + 1).toNat = 15 + 5 * k.toNat + 1 by omega]); (try rw [show (15 + 5 * k + 2).toNat = 15 + 5 * k.toNat + 2 by omega]); (try rw [show (15 + 5 * k + 4).toNat = 15 + 5 * k.toNat + 4 by omega]); (try rw [show (15 + 5 * k).toNat = 15 + 5 * k.toNat by omega]); exact congrArg (fun r9 => (n, rf_f f th r9 kp ed nt nl wi ht sy sz bf rs rr rq rp mm ln lo lf lt co ro pg pf hsh)) (rf_mk_e (fun j hj => by rw [va_up_ne _ _ (by omega), va_up_ne _ _ (by omega), va_up_ne _ _ (by omega)]) (by rw [va_up_ne _ _ (by omega), va_up_ne _ _ (by omega), va_up_self]; unfold dv_0; (repeat' split) <;> omega) (by rw [va_up_ne _ _ (by omega), va_up_self]; unfold dv_1; (repeat' split) <;> omega) (by rw [va_up_self]; unfold dv_2; (repeat' split) <;> omega) (by rw [va_up_ne _ _ (by omega), va_up_ne _ _ (by omega), va_up_ne _ _ (by omega), rf_mk_r (by omega)]) (by rw [va_up_ne _ _ (by omega), va_up_ne _ _ (by omega), va_up_ne _ _ (by omega), rf_mk_r (by omega)]; unfold dv_4; (repeat' split) <;> omega))) | exact ji_eqv (ih (k + 1) _ _ (by omega)) rfl rfl (by rw [hA2 (by omega), show (k + 1).toNat = k.toNat + 1 by omega]; (try rw [show (15 + 5 * k + 1).toNat = 15 + 5 * k.toNat + 1 by omega]); (try rw [show (15 + 5 * k + 2).toNat = 15 + 5 * k.toNat + 2 by omega]); (try rw [show (15 + 5 * k + 4).toNat = 15 + 5 * k.toNat + 4 by omega]); (try rw [show (15 + 5 * k).toNat = 15 + 5 * k.toNat by omega]); exact congrArg (fun r9 => (n, rf_f f th r9 kp ed nt nl wi ht sy sz bf rs rr rq rp mm ln lo lf lt co ro pg pf hsh)) (rf_mk_e (fun j hj => by rw [va_up_ne _ _ (by omega), va_up_ne _ _ (by omega), va_up_ne _ _ (by omega)]) (by rw [va_up_ne _ _ (by omega), va_up_ne _ _ (by omega), va_up_ne _ _ (by omega), rf_mk_r (by omega)]; unfold dv_0; (repeat' split) <;> omega) (by rw [va_up_ne _ _ (by omega), va_up_ne _ _ (by omega), va_up_self]; unfold dv_1; (repeat' split) <;> omega) (by rw [va_up_ne _ _ (by omega), va_up_self]; unfold dv_2; (repeat' split) <;> omega) (by rw [va_up_ne _ _ (by omega), va_up_ne _ _ (by omega), va_up_ne _ _ (by omega), rf_mk_r (by omega)]) (by rw [va_up_self]; unfold dv_4; (repeat' split) <;> omega))) | exact ji_eqv (ih (k + 1) _ _ (by omega)) rfl rfl (by rw [show (k + 1).toNat = k.toNat + 1 by omega]; (try rw [show (15 + 5 * k + 1).toNat = 15 + 5 * k.toNat + 1 by omega]); (try rw [show (15 + 5 * k + 2).toNat = 15 + 5 * k.toNat + 2 by omega]); (try rw [show (15 + 5 * k + 4).toNat = 15 + 5 * k.toNat + 4 by omega]); (try rw [show (15 + 5 * k).toNat = 15 + 5 * k.toNat by omega]); exact congrArg (fun r9 => (n, rf_f f th r9 kp ed nt nl wi ht sy sz bf rs rr rq rp mm ln lo lf lt co ro pg pf hsh)) (rf_mk_e (fun j hj => rfl) (by rw [rf_mk_r (by omega)]; unfold dv_0; (repeat' split) <;> omega) (by rw [rf_mk_r (by omega)]; unfold dv_1; (repeat' split) <;> omega) (by rw [rf_mk_r (by omega)]; unfold dv_2; (repeat' split) <;> omega) (by rw [rf_mk_r (by omega)]) (by rw [rf_mk_r (by omega)]; unfold dv_4; (repeat' split) <;> omega)))

theorem rf_Dx {z : Nat → Int} {q x : Int} (hq : 0 ≤ q ∧ q < z 0) (h9 : z 0 ≤ 9) (h3 : 0 ≤ z 3 ∧ z 3 ≤ 5) (h14 : 0 ≤ z 14 ∧ z 14 ≤ 12) :
    rf_D1 z q 0 = z 0 ∧ (∀ j, j = 0 ∨ j = 3 ∨ j = 14 → rf_D2 z q j = z j) ∧ rf_D2 z q (75 + q).toNat = z (75 + q).toNat ∧ rf_D2 z q (85 + q).toNat = z (85 + q).toNat := by
  have e0 : rf_D1 z q 0 = z 0 := rf_RN_l h3 h14 (by omega)
  refine ⟨e0, fun j hj => ?_, ?_, ?_⟩
  · unfold rf_D2 rf_pu; rw [e0, if_neg (by omega), if_neg (by omega), if_neg (by omega)]; exact rf_RN_l h3 h14 (by omega)
  · unfold rf_D2 rf_pu; rw [e0, if_neg (by omega), if_neg (by omega), if_neg (by omega)]; exact rf_RN_l h3 h14 (by omega)
  · unfold rf_D2 rf_pu; rw [e0, if_neg (by omega), if_neg (by omega), if_neg (by omega)]; exact rf_RN_l h3 h14 (by omega)
theorem rf_Dy {z : Nat → Int} {q x : Int} (hq : 0 ≤ q ∧ q < z 0) (h9 : z 0 ≤ 9) (h3 : 0 ≤ z 3 ∧ z 3 ≤ 5) (h14 : 0 ≤ z 14 ∧ z 14 ≤ 12) (hx : 0 ≤ x) :
    rf_D4 z q (85 + q).toNat = z (85 + q).toNat ∧ rf_D5 z q x (85 + q).toNat = z (85 + q).toNat ∧ (∀ j, j = 3 ∨ j = 14 → rf_D7 z q x j = z j) ∧ rf_D3 z q (75 + q).toNat = z (75 + q).toNat := by
  obtain ⟨e0, e1, e2, e4⟩ := rf_Dx (z := z) (q := q) (x := x) hq h9 h3 h14
  have f1 : rf_D4 z q (85 + q).toNat = z (85 + q).toNat := by unfold rf_D4 rf_D3; rw [va_up_ne _ _ (by omega), va_up_ne _ _ (by omega)]; exact e4
  refine ⟨f1, ?_, fun j hj => ?_, ?_⟩
  · unfold rf_D5; rw [va_up_ne _ _ (by omega)]; exact f1
  · unfold rf_D7 rf_D6 rf_D5 rf_D4 rf_D3
    rw [va_up_ne _ _ (by omega), va_cpy_r (by omega), va_up_ne _ _ (by omega), va_up_ne _ _ (by omega), va_up_ne _ _ (by omega)]; exact e1 j (by omega)
  · unfold rf_D3; rw [va_up_ne _ _ (by omega)]; exact e2
theorem rf_D5_b {z : Nat → Int} {q x : Int} (hB : ∀ j, -10000 ≤ z j ∧ z j ≤ 10000) (hx : 0 ≤ x ∧ x ≤ 400) (j : Nat) : -10405 ≤ rf_D5 z q x j ∧ rf_D5 z q x j ≤ 10405 := by
  have h1 : ∀ j, -10002 ≤ rf_D1 z q j ∧ rf_D1 z q j ≤ 10002 := rf_RN_b (by omega) hB
  have h2 : ∀ j, -10002 ≤ rf_D2 z q j ∧ rf_D2 z q j ≤ 10002 := rf_pu_b h1 _ _
  have h3 : ∀ j, -10003 ≤ rf_D3 z q j ∧ rf_D3 z q j ≤ 10003 := by
    have := h2 0
    unfold rf_D3; exact va_up_b (fun i => by have := h2 i; omega) (by omega)
  have h4 : ∀ j, -10003 ≤ rf_D4 z q j ∧ rf_D4 z q j ≤ 10003 := by
    have := h3 (75 + q).toNat
    unfold rf_D4; exact va_up_b h3 (by split <;> omega)
  have := h4 (85 + q).toNat
  unfold rf_D5; exact va_up_b (fun i => by have := h4 i; omega) (by omega) j
theorem rf_D7_b {z : Nat → Int} {q x : Int} (hB : ∀ j, -10000 ≤ z j ∧ z j ≤ 10000) (hx : 0 ≤ x ∧ x ≤ 400) (j : Nat) : -10405 ≤ rf_D7 z q x j ∧ rf_D7 z q x j ≤ 10405 := by
  unfold rf_D7 rf_D6; exact va_up_b (fun i => va_cpy_b (rf_D5_b hB hx) (rf_D5_b hB hx) i) (by omega) j
theorem rf_D8_b {z : Nat → Int} {q x : Int} (hB : ∀ j, -10000 ≤ z j ∧ z j ≤ 10000) (hx : 0 ≤ x ∧ x ≤ 400) (j : Nat) : -11000 ≤ rf_D8 z q x j ∧ rf_D8 z q x j ≤ 11000 :=
  rf_pl_b (x := 10405) (rf_D7_b hB hx) (by omega) (fun u v h _ => by unfold dv_a; split <;> omega) (fun u v h1 h => by unfold dv_b; (repeat' split) <;> omega) _ j
set_option maxHeartbeats 4000000 in
set_option maxRecDepth 100000 in
theorem r_divide {q x : Int} (hq : 0 ≤ q ∧ q < z 0) (h9 : z 0 ≤ 9) (hx : 0 ≤ x ∧ x ≤ z (85 + q).toNat ∧ z (85 + q).toNat ≤ 359) (hB : ∀ j, -10000 ≤ z j ∧ z j ≤ 10000) (h3 : 0 ≤ z 3 ∧ z 3 ≤ 5) (h14 : 0 ≤ z 14 ∧ z 14 ≤ 12) : JR G (d + 1) mX8_divide [.ref 60, .int (jI q), .int (jI x)] (n, rf_f f th z kp ed nt nl wi ht sy sz bf rs rr rq rp mm ln lo lf lt co ro pg pf hsh) 0 0 none (n, rf_f f th (rf_DV z q x) kp ed nt nl wi ht sy sz bf rs rr rq rp mm ln lo lf lt co ro pg pf hsh) := by
  obtain ⟨e0, e1, e2, e4⟩ := rf_Dx (x := x) hq h9 h3 h14
  obtain ⟨y1, y2, y3, y4⟩ := rf_Dy (x := x) hq h9 h3 h14 hx.1
  have zk := hB (75 + q).toNat
  have y5 := y3 3 (by omega)
  have y6 : rf_D8 z q x 14 = z 14 := (rf_pl_h (by omega) (by omega)).trans (y3 14 (by omega))
  refine ji_ent (by decide) rfl (Nat.le_of_ble_eq_true rfl) rfl ?_
  refine ji_aload_n dX8_divide_0 rfl trivial ?_
  refine ji_iload_n dX8_divide_1 rfl ?_
  refine ji_iconst dX8_divide_2 ?_
  refine ji_iadd dX8_divide_3 ?_
  refine ji_iconst dX8_divide_4 ?_
  refine ji_cVv dX8_divide_5 (r_renumber (by omega) (by omega) (fun j => by have := hB j; omega) h3 h14) rfl (rf_60) rfl rfl wX8_renumber vX8_renumber lX8_312 rfl (Nat.le_of_ble_eq_true rfl) rfl ?_
  refine ji_aload_n dX8_divide_8 rfl trivial ?_
  refine ji_get (ci := 8) (k := 1) rfl dX8_divide_9 lX8_7 (by decide) (rf_60) rfl ?_
  refine ji_iconst dX8_divide_12 ?_
  refine ji_ialoadK (k := 0) dX8_divide_13 (rf_61) rfl (by decide) ?_
  refine ji_istore_n dX8_divide_14 (by decide) rfl ?_
  refine ji_eqv (h2 := (n, rf_f f th (rf_pu (rf_D1 z q) (rf_D1 z q 0).toNat (rf_D1 z q 0).toNat) kp ed nt nl wi ht sy sz bf rs rr rq rp mm ln lo lf lt co ro pg pf hsh)) (r_divide_c (z := rf_D1 z q) (M := (rf_D1 z q 0).toNat) (by omega) (by omega) (fun k => ?_) (z 0 - q - 1).toNat (rf_D1 z q 0) (by omega)) rfl rfl (by rw [rf_pu_0]; rfl)
  refine ji_aload_n dX8_divide_36 rfl trivial ?_
  refine ji_get (ci := 8) (k := 1) rfl dX8_divide_37 lX8_7 (by decide) (rf_60) rfl ?_
  refine ji_iconst dX8_divide_40 ?_
  refine ji_dup2 dX8_divide_41 rfl rfl ?_
  refine ji_ialoadK (k := 0) dX8_divide_42 (rf_61) rfl (by decide) ?_
  refine ji_iconst dX8_divide_43 ?_
  refine ji_iadd dX8_divide_44 ?_
  refine ji_iastoreK (k := 0) dX8_divide_45 (rf_61) rfl (by decide) (rf_s61) ?_
  refine ji_eqv (h2 := (n, rf_f f th (rf_D3 z q) kp ed nt nl wi ht sy sz bf rs rr rq rp mm ln lo lf lt co ro pg pf hsh)) ?_ rfl rfl rfl
  refine ji_aload_n dX8_divide_46 rfl trivial ?_
  refine ji_get (ci := 8) (k := 1) rfl dX8_divide_47 lX8_7 (by decide) (rf_60) rfl ?_
  refine ji_bipush dX8_divide_50 rfl ?_
  refine ji_iload_n dX8_divide_52 rfl ?_
  refine ji_iadd dX8_divide_53 ?_
  refine ji_iconst dX8_divide_54 ?_
  refine ji_iadd dX8_divide_55 ?_
  refine ji_aload_n dX8_divide_56 rfl trivial ?_
  refine ji_get (ci := 8) (k := 1) rfl dX8_divide_57 lX8_7 (by decide) (rf_60) rfl ?_
  refine ji_bipush dX8_divide_60 rfl ?_
  refine ji_iload_n dX8_divide_62 rfl ?_
  refine ji_iadd dX8_divide_63 ?_
  refine ji_iaload dX8_divide_64 (rf_61) (by omega) ?_
  refine ji_iconst dX8_divide_65 ?_
  refine ji_icmp_ne (tgt := 73) dX8_divide_66 rfl (by omega) (by omega) (fun c66 => ?_) (fun c66 => ?_)
  · try (exfalso; omega)
    all_goals
      refine ji_aload_n dX8_divide_73 rfl trivial ?_
      refine ji_get (ci := 8) (k := 1) rfl dX8_divide_74 lX8_7 (by decide) (rf_60) rfl ?_
      refine ji_bipush dX8_divide_77 rfl ?_
      refine ji_iload_n dX8_divide_79 rfl ?_
      refine ji_iadd dX8_divide_80 ?_
      refine ji_iaload dX8_divide_81 (rf_61) (by omega) ?_
      refine ji_iastoreE dX8_divide_82 (rf_61) (by omega) (rf_s61) ?_
      refine ji_aload_n dX8_divide_83 rfl trivial ?_
      refine ji_get (ci := 8) (k := 1) rfl dX8_divide_84 lX8_7 (by decide) (rf_60) rfl ?_
      refine ji_bipush dX8_divide_87 rfl ?_
      refine ji_iload_n dX8_divide_89 rfl ?_
      refine ji_iadd dX8_divide_90 ?_
      refine ji_iconst dX8_divide_91 ?_
      refine ji_iadd dX8_divide_92 ?_
      refine ji_aload_n dX8_divide_93 rfl trivial ?_
      refine ji_get (ci := 8) (k := 1) rfl dX8_divide_94 lX8_7 (by decide) (rf_60) rfl ?_
      refine ji_bipush dX8_divide_97 rfl ?_
      refine ji_iload_n dX8_divide_99 rfl ?_
      refine ji_iadd dX8_divide_100 ?_
      refine ji_iaload dX8_divide_101 (rf_61) (by omega) ?_
      refine ji_iload_n dX8_divide_102 rfl ?_
      refine ji_isub dX8_divide_103 ?_
      refine ji_iastoreE dX8_divide_104 (rf_61) (by omega) (rf_s61) ?_
      refine ji_iload_n dX8_divide_105 rfl ?_
      refine ji_istore_n dX8_divide_106 (by decide) rfl ?_
      refine ji_eqv (h2 := (n, rf_f f th (va_cpy (rf_D5 z q x) (rf_D5 z q x) (95 + 360 * q + x).toNat (95 + 360 * (q + 1)).toNat (x - x).toNat) kp ed nt nl wi ht sy sz bf rs rr rq rp mm ln lo lf lt co ro pg pf hsh)) (r_divide_t (z := rf_D5 z q x) (L := z (85 + q).toNat) (by omega) (by omega) y2 (fun k => ?_) (z (85 + q).toNat - x).toNat x (by omega)) rfl rfl (by rw [show (x - x).toNat = 0 by omega, va_cpy_0]; first | (show _ = (n, rf_f f th (rf_D5 z q x) kp ed nt nl wi ht sy sz bf rs rr rq rp mm ln lo lf lt co ro pg pf hsh); unfold rf_D5 rf_D4; rw [if_pos c66]) | (show _ = (n, rf_f f th (rf_D5 z q x) kp ed nt nl wi ht sy sz bf rs rr rq rp mm ln lo lf lt co ro pg pf hsh); unfold rf_D5 rf_D4; rw [if_neg c66]))
      refine ji_aload_n dX8_divide_160 rfl trivial ?_
      refine ji_get (ci := 8) (k := 1) rfl dX8_divide_161 lX8_7 (by decide) (rf_60) rfl ?_
      refine ji_bipush dX8_divide_164 rfl ?_
      refine ji_iload_n dX8_divide_166 rfl ?_
      refine ji_iadd dX8_divide_167 ?_
      refine ji_iload_n dX8_divide_168 rfl ?_
      refine ji_iconst dX8_divide_169 ?_
      refine ji_isub dX8_divide_170 ?_
      refine ji_iastoreE dX8_divide_171 (rf_61) (by omega) (rf_s61) ?_
      refine ji_iconst dX8_divide_172 ?_
      refine ji_istore_n dX8_divide_173 (by decide) rfl ?_
      refine ji_eqv (h2 := (n, rf_f f th (rf_pl (dv_a q x) (dv_b q x) (rf_D7 z q x) (0 : Int).toNat) kp ed nt nl wi ht sy sz bf rs rr rq rp mm ln lo lf lt co ro pg pf hsh)) (r_divide_p (z := rf_D7 z q x) (by omega) (by omega) (fun j => by have := rf_D7_b (q := q) (x := x) hB (by omega) j; omega) (by omega) (fun k o4 o5 => ?_) (rf_D7 z q x 3 + 1).toNat 0 _ _ (by omega)) rfl rfl (by rw [show (0 : Int).toNat = 0 from rfl, rf_pl_0]; unfold rf_D7 rf_D6; rw [y2])
      refine ji_iconst dX8_divide_316 ?_
      refine ji_istore_n dX8_divide_317 (by decide) rfl ?_
      exact ji_eqv (h2 := (n, rf_f f th (rf_mk (dv_0 q x) (dv_1 q x) (dv_2 q x) (dv_4 q x) (rf_D8 z q x) (0 : Int).toNat) kp ed nt nl wi ht sy sz bf rs rr rq rp mm ln lo lf lt co ro pg pf hsh)) (r_divide_m (z := rf_D8 z q x) (by omega) (by omega) (fun j => by have := rf_D8_b (q := q) (x := x) hB (by omega) j; omega) (fun j => by have := rf_D8_b (q := q) (x := x) hB (by omega) j; omega) (by omega) (rf_D8 z q x 14).toNat 0 _ _ (by omega)) rfl rfl (by rw [show (0 : Int).toNat = 0 from rfl, rf_mk_0]; rfl)
  · try (exfalso; omega)
    all_goals
      refine ji_iconst dX8_divide_69 ?_
      refine ji_goto (tgt := 82) dX8_divide_70 rfl ?_
      refine ji_iastoreE dX8_divide_82 (rf_61) (by omega) (rf_s61) ?_
      refine ji_aload_n dX8_divide_83 rfl trivial ?_
      refine ji_get (ci := 8) (k := 1) rfl dX8_divide_84 lX8_7 (by decide) (rf_60) rfl ?_
      refine ji_bipush dX8_divide_87 rfl ?_
      refine ji_iload_n dX8_divide_89 rfl ?_
      refine ji_iadd dX8_divide_90 ?_
      refine ji_iconst dX8_divide_91 ?_
      refine ji_iadd dX8_divide_92 ?_
      refine ji_aload_n dX8_divide_93 rfl trivial ?_
      refine ji_get (ci := 8) (k := 1) rfl dX8_divide_94 lX8_7 (by decide) (rf_60) rfl ?_
      refine ji_bipush dX8_divide_97 rfl ?_
      refine ji_iload_n dX8_divide_99 rfl ?_
      refine ji_iadd dX8_divide_100 ?_
      refine ji_iaload dX8_divide_101 (rf_61) (by omega) ?_
      refine ji_iload_n dX8_divide_102 rfl ?_
      refine ji_isub dX8_divide_103 ?_
      refine ji_iastoreE dX8_divide_104 (rf_61) (by omega) (rf_s61) ?_
      refine ji_iload_n dX8_divide_105 rfl ?_
      refine ji_istore_n dX8_divide_106 (by decide) rfl ?_
      refine ji_eqv (h2 := (n, rf_f f th (va_cpy (rf_D5 z q x) (rf_D5 z q x) (95 + 360 * q + x).toNat (95 + 360 * (q + 1)).toNat (x - x).toNat) kp ed nt nl wi ht sy sz bf rs rr rq rp mm ln lo lf lt co ro pg pf hsh)) (r_divide_t (z := rf_D5 z q x) (L := z (85 + q).toNat) (by omega) (by omega) y2 (fun k => ?_) (z (85 + q).toNat - x).toNat x (by omega)) rfl rfl (by rw [show (x - x).toNat = 0 by omega, va_cpy_0]; first | (show _ = (n, rf_f f th (rf_D5 z q x) kp ed nt nl wi ht sy sz bf rs rr rq rp mm ln lo lf lt co ro pg pf hsh); unfold rf_D5 rf_D4; rw [if_pos c66]) | (show _ = (n, rf_f f th (rf_D5 z q x) kp ed nt nl wi ht sy sz bf rs rr rq rp mm ln lo lf lt co ro pg pf hsh); unfold rf_D5 rf_D4; rw [if_neg c66]))
      refine ji_aload_n dX8_divide_160 rfl trivial ?_
      refine ji_get (ci := 8) (k := 1) rfl dX8_divide_161 lX8_7 (by decide) (rf_60) rfl ?_
      refine ji_bipush dX8_divide_164 rfl ?_
      refine ji_iload_n dX8_divide_166 rfl ?_
      refine ji_iadd dX8_divide_167 ?_
      refine ji_iload_n dX8_divide_168 rfl ?_
      refine ji_iconst dX8_divide_169 ?_
      refine ji_isub dX8_divide_170 ?_
      refine ji_iastoreE dX8_divide_171 (rf_61) (by omega) (rf_s61) ?_
      refine ji_iconst dX8_divide_172 ?_
      refine ji_istore_n dX8_divide_173 (by decide) rfl ?_
      refine ji_eqv (h2 := (n, rf_f f th (rf_pl (dv_a q x) (dv_b q x) (rf_D7 z q x) (0 : Int).toNat) kp ed nt nl wi ht sy sz bf rs rr rq rp mm ln lo lf lt co ro pg pf hsh)) (r_divide_p (z := rf_D7 z q x) (by omega) (by omega) (fun j => by have := rf_D7_b (q := q) (x := x) hB (by omega) j; omega) (by omega) (fun k o4 o5 => ?_) (rf_D7 z q x 3 + 1).toNat 0 _ _ (by omega)) rfl rfl (by rw [show (0 : Int).toNat = 0 from rfl, rf_pl_0]; unfold rf_D7 rf_D6; rw [y2])
      refine ji_iconst dX8_divide_316 ?_
      refine ji_istore_n dX8_divide_317 (by decide) rfl ?_
      exact ji_eqv (h2 := (n, rf_f f th (rf_mk (dv_0 q x) (dv_1 q x) (dv_2 q x) (dv_4 q x) (rf_D8 z q x) (0 : Int).toNat) kp ed nt nl wi ht sy sz bf rs rr rq rp mm ln lo lf lt co ro pg pf hsh)) (r_divide_m (z := rf_D8 z q x) (by omega) (by omega) (fun j => by have := rf_D8_b (q := q) (x := x) hB (by omega) j; omega) (fun j => by have := rf_D8_b (q := q) (x := x) hB (by omega) j; omega) (by omega) (rf_D8 z q x 14).toNat 0 _ _ (by omega)) rfl rfl (by rw [show (0 : Int).toNat = 0 from rfl, rf_mk_0]; rfl)

set_option maxHeartbeats 4000000 in
set_option maxRecDepth 100000 in
theorem r_split1 (hrf : rf_ok wi ht z nl nt sy) {q w : Int} (b_q : -2147483648 ≤ q ∧ q < 2147483648) (b_w : -2147483648 ≤ w ∧ w < 2147483648) (hx : ¬ ((0 ≤ q ∧ q < z 0) ∧ 1 ≤ w ∧ w < rf_WO z nt q)) : JR G (d + 3) mX8_split [.ref 60, .int (jI q), .int (jI w)] (n, rf_f f th z kp ed nt nl wi ht sy sz bf rs rr rq rp mm ln lo lf lt co ro pg pf hsh) 0 0 (some (.int (jI 0))) (n, rf_f f 1 z kp ed nt nl wi ht sy sz bf rs rr rq rp mm ln lo lf lt co ro pg pf hsh) := by
  obtain ⟨hz, hn, hk, hrc, ⟨hw9, hh9⟩, ⟨hm9, hj9⟩, hll⟩ := id hrf
  have zb := hz.2.1
  have wq := rf_in_d q 0 (z 0 - 1)
  have wiw : 0 ≤ q → q < z 0 → 1 ≤ rf_WO z nt q ∧ rf_WO z nt q ≤ 360 := fun a b => rf_WO_b hz nt (by omega)
  have wi2 := rf_in_d w 1 (rf_WO z nt q - 1)
  refine ji_ent (by decide) rfl (Nat.le_of_ble_eq_true rfl) rfl ?_
  refine ji_aload_n dX8_split_0 rfl trivial ?_
  refine ji_iload_n dX8_split_1 rfl ?_
  refine ji_cV dX8_split_2 (r_isParagraph hz (by omega)) rfl (rf_60) rfl rfl wX8_isParagraph vX8_isParagraph lX8_278 rfl (Nat.le_of_ble_eq_true rfl) rfl ?_
  refine ji_if_eq (tgt := 27) dX8_split_5 rfl (by omega) (fun c5 => ?_) (fun c5 => ?_)
  · try (exfalso; omega)
    all_goals
      refine ji_iconst dX8_split_27 ?_
      refine ji_istore_n dX8_split_28 (by decide) rfl ?_
      refine ji_aload_n dX8_split_29 rfl trivial ?_
      refine ji_iload_n dX8_split_30 rfl ?_
      refine ji_if_ne (tgt := 38) dX8_split_31 rfl (by omega) (fun c31 => ?_) (fun c31 => ?_)
      · try (exfalso; omega)
        all_goals
          exfalso; omega
      · try (exfalso; omega)
        all_goals
          refine ji_iconst dX8_split_34 ?_
          refine ji_goto (tgt := 54) dX8_split_35 rfl ?_
          refine ji_putE (ci := 8) (k := 0) rfl dX8_split_54 lX8_47 (by decide) (rf_60) (by simp [rf_c]) (ji_fitI _) rfl (rf_pth) ?_
          refine ji_aload_n dX8_split_57 rfl trivial ?_
          refine ji_get (ci := 8) (k := 0) rfl dX8_split_58 lX8_47 (by decide) (rf_60) rfl ?_
          refine ji_if_le (tgt := 66) dX8_split_61 rfl (by omega) (fun c61 => absurd c61 (by omega)) (fun c61 => ?_)
          refine ji_iconst dX8_split_64 ?_
          exact ji_ireturn dX8_split_65 rfl (rfl) ⟨jr_i (by first | rfl | omega), rfl⟩
  · try (exfalso; omega)
    all_goals
      refine ji_iload_n dX8_split_8 rfl ?_
      refine ji_iconst dX8_split_9 ?_
      refine ji_aload_n dX8_split_10 rfl trivial ?_
      refine ji_iload_n dX8_split_11 rfl ?_
      refine ji_cV dX8_split_12 (r_wordsOf hz hn (by omega)) rfl (rf_60) rfl rfl wX8_wordsOf vX8_wordsOf lX8_260 rfl (Nat.le_of_ble_eq_true rfl) rfl ?_
      refine ji_iconst dX8_split_15 ?_
      refine ji_isub dX8_split_16 ?_
      refine ji_cS dX8_split_17 (r_within (by omega) (by omega) (by omega)) rfl wX8_within sX8_within lX8_50 rfl (Nat.le_of_ble_eq_true rfl) rfl ?_
      refine ji_if_eq (tgt := 27) dX8_split_20 rfl (by omega) (fun c20 => ?_) (fun c20 => ?_)
      · try (exfalso; omega)
        all_goals
          refine ji_iconst dX8_split_27 ?_
          refine ji_istore_n dX8_split_28 (by decide) rfl ?_
          refine ji_aload_n dX8_split_29 rfl trivial ?_
          refine ji_iload_n dX8_split_30 rfl ?_
          refine ji_if_ne (tgt := 38) dX8_split_31 rfl (by omega) (fun c31 => ?_) (fun c31 => ?_)
          · try (exfalso; omega)
            all_goals
              exfalso; omega
          · try (exfalso; omega)
            all_goals
              refine ji_iconst dX8_split_34 ?_
              refine ji_goto (tgt := 54) dX8_split_35 rfl ?_
              refine ji_putE (ci := 8) (k := 0) rfl dX8_split_54 lX8_47 (by decide) (rf_60) (by simp [rf_c]) (ji_fitI _) rfl (rf_pth) ?_
              refine ji_aload_n dX8_split_57 rfl trivial ?_
              refine ji_get (ci := 8) (k := 0) rfl dX8_split_58 lX8_47 (by decide) (rf_60) rfl ?_
              refine ji_if_le (tgt := 66) dX8_split_61 rfl (by omega) (fun c61 => absurd c61 (by omega)) (fun c61 => ?_)
              refine ji_iconst dX8_split_64 ?_
              exact ji_ireturn dX8_split_65 rfl (rfl) ⟨jr_i (by first | rfl | omega), rfl⟩
      · try (exfalso; omega)
        all_goals
          refine ji_iconst dX8_split_23 ?_
          refine ji_goto (tgt := 28) dX8_split_24 rfl ?_
          refine ji_istore_n dX8_split_28 (by decide) rfl ?_
          refine ji_aload_n dX8_split_29 rfl trivial ?_
          refine ji_iload_n dX8_split_30 rfl ?_
          refine ji_if_ne (tgt := 38) dX8_split_31 rfl (by omega) (fun c31 => ?_) (fun c31 => ?_)
          · try (exfalso; omega)
            all_goals
              exfalso; omega
          · try (exfalso; omega)
            all_goals
              refine ji_iconst dX8_split_34 ?_
              refine ji_goto (tgt := 54) dX8_split_35 rfl ?_
              refine ji_putE (ci := 8) (k := 0) rfl dX8_split_54 lX8_47 (by decide) (rf_60) (by simp [rf_c]) (ji_fitI _) rfl (rf_pth) ?_
              refine ji_aload_n dX8_split_57 rfl trivial ?_
              refine ji_get (ci := 8) (k := 0) rfl dX8_split_58 lX8_47 (by decide) (rf_60) rfl ?_
              refine ji_if_le (tgt := 66) dX8_split_61 rfl (by omega) (fun c61 => absurd c61 (by omega)) (fun c61 => ?_)
              refine ji_iconst dX8_split_64 ?_
              exact ji_ireturn dX8_split_65 rfl (rfl) ⟨jr_i (by first | rfl | omega), rfl⟩

set_option maxHeartbeats 4000000 in
set_option maxRecDepth 100000 in
theorem r_split2 (hrf : rf_ok wi ht z nl nt sy) {q w : Int} (hx : (0 ≤ q ∧ q < z 0) ∧ 1 ≤ w ∧ w < rf_WO z nt q) (hy : z 0 = 10) : JR G (d + 3) mX8_split [.ref 60, .int (jI q), .int (jI w)] (n, rf_f f th z kp ed nt nl wi ht sy sz bf rs rr rq rp mm ln lo lf lt co ro pg pf hsh) 0 0 (some (.int (jI 0))) (n, rf_f f 2 z kp ed nt nl wi ht sy sz bf rs rr rq rp mm ln lo lf lt co ro pg pf hsh) := by
  obtain ⟨hz, hn, hk, hrc, ⟨hw9, hh9⟩, ⟨hm9, hj9⟩, hll⟩ := id hrf
  have zb := hz.2.1
  have wq := rf_in_d q 0 (z 0 - 1)
  have wiw : 0 ≤ q → q < z 0 → 1 ≤ rf_WO z nt q ∧ rf_WO z nt q ≤ 360 := fun a b => rf_WO_b hz nt (by omega)
  have wi2 := rf_in_d w 1 (rf_WO z nt q - 1)
  refine ji_ent (by decide) rfl (Nat.le_of_ble_eq_true rfl) rfl ?_
  refine ji_aload_n dX8_split_0 rfl trivial ?_
  refine ji_iload_n dX8_split_1 rfl ?_
  refine ji_cV dX8_split_2 (r_isParagraph hz (by omega)) rfl (rf_60) rfl rfl wX8_isParagraph vX8_isParagraph lX8_278 rfl (Nat.le_of_ble_eq_true rfl) rfl ?_
  refine ji_if_eq (tgt := 27) dX8_split_5 rfl (by omega) (fun c5 => absurd c5 (by omega)) (fun c5 => ?_)
  refine ji_iload_n dX8_split_8 rfl ?_
  refine ji_iconst dX8_split_9 ?_
  refine ji_aload_n dX8_split_10 rfl trivial ?_
  refine ji_iload_n dX8_split_11 rfl ?_
  refine ji_cV dX8_split_12 (r_wordsOf hz hn (by omega)) rfl (rf_60) rfl rfl wX8_wordsOf vX8_wordsOf lX8_260 rfl (Nat.le_of_ble_eq_true rfl) rfl ?_
  refine ji_iconst dX8_split_15 ?_
  refine ji_isub dX8_split_16 ?_
  refine ji_cS dX8_split_17 (r_within (by omega) (by omega) (by omega)) rfl wX8_within sX8_within lX8_50 rfl (Nat.le_of_ble_eq_true rfl) rfl ?_
  refine ji_if_eq (tgt := 27) dX8_split_20 rfl (by omega) (fun c20 => absurd c20 (by omega)) (fun c20 => ?_)
  refine ji_iconst dX8_split_23 ?_
  refine ji_goto (tgt := 28) dX8_split_24 rfl ?_
  refine ji_istore_n dX8_split_28 (by decide) rfl ?_
  refine ji_aload_n dX8_split_29 rfl trivial ?_
  refine ji_iload_n dX8_split_30 rfl ?_
  refine ji_if_ne (tgt := 38) dX8_split_31 rfl (by omega) (fun c31 => ?_) (fun c31 => absurd c31 (by omega))
  refine ji_aload_n dX8_split_38 rfl trivial ?_
  refine ji_get (ci := 8) (k := 1) rfl dX8_split_39 lX8_7 (by decide) (rf_60) rfl ?_
  refine ji_iconst dX8_split_42 ?_
  refine ji_ialoadK (k := 0) dX8_split_43 (rf_61) rfl (by decide) ?_
  refine ji_bipush dX8_split_44 rfl ?_
  refine ji_icmp_ge (tgt := 53) dX8_split_46 rfl (by omega) (by omega) (fun c46 => ?_) (fun c46 => absurd c46 (by omega))
  refine ji_iconst dX8_split_53 ?_
  refine ji_putE (ci := 8) (k := 0) rfl dX8_split_54 lX8_47 (by decide) (rf_60) (by simp [rf_c]) (ji_fitI _) rfl (rf_pth) ?_
  refine ji_aload_n dX8_split_57 rfl trivial ?_
  refine ji_get (ci := 8) (k := 0) rfl dX8_split_58 lX8_47 (by decide) (rf_60) rfl ?_
  refine ji_if_le (tgt := 66) dX8_split_61 rfl (by omega) (fun c61 => absurd c61 (by omega)) (fun c61 => ?_)
  refine ji_iconst dX8_split_64 ?_
  exact ji_ireturn dX8_split_65 rfl (rfl) ⟨jr_i (by first | rfl | omega), rfl⟩

set_option maxHeartbeats 4000000 in
set_option maxRecDepth 100000 in
theorem r_split (hrf : rf_ok wi ht z nl nt sy) {q w : Int} (hx : (0 ≤ q ∧ q < z 0) ∧ 1 ≤ w ∧ w < rf_WO z nt q) (hy : z 0 < 10 ∧ rf_WO z nt q ≤ 24) (he : 0 ≤ ed ∧ ed ≤ 4) : JR G (d + 3) mX8_split [.ref 60, .int (jI q), .int (jI w)] (n, rf_f f th z kp ed nt nl wi ht sy sz bf rs rr rq rp mm ln lo lf lt co ro pg pf hsh) 0 0 (some (.int (jI (rf_DV z q (rf_ST (rf_sz z nl q) (rf_ch z nt q) w) 0)))) (n, rf_f f 0 (rf_DV z q (rf_ST (rf_sz z nl q) (rf_ch z nt q) w)) (rf_KP z kp ed) (rf_KE ed) nt nl wi ht sy sz bf rs rr rq rp mm ln lo lf lt co ro pg pf hsh) := by
  obtain ⟨hz, hn, hk, hrc, ⟨hw9, hh9⟩, ⟨hm9, hj9⟩, hll⟩ := id hrf
  have zb := hz.2.1
  have wq := rf_in_d q 0 (z 0 - 1)
  have wiw : 0 ≤ q → q < z 0 → 1 ≤ rf_WO z nt q ∧ rf_WO z nt q ≤ 360 := fun a b => rf_WO_b hz nt (by omega)
  have wi2 := rf_in_d w 1 (rf_WO z nt q - 1)
  have hB := hz.1
  have h3 := hj9
  have h14 := hm9
  have ws := rf_ST_b hz hn (q := q) (by omega) w
  have es : rf_sz z nl q = z (85 + q).toNat := if_pos (by omega)
  have zl := hz.2.2.1 (85 + q).toNat (by omega) (by omega)
  refine ji_ent (by decide) rfl (Nat.le_of_ble_eq_true rfl) rfl ?_
  refine ji_aload_n dX8_split_0 rfl trivial ?_
  refine ji_iload_n dX8_split_1 rfl ?_
  refine ji_cV dX8_split_2 (r_isParagraph hz (by omega)) rfl (rf_60) rfl rfl wX8_isParagraph vX8_isParagraph lX8_278 rfl (Nat.le_of_ble_eq_true rfl) rfl ?_
  refine ji_if_eq (tgt := 27) dX8_split_5 rfl (by omega) (fun c5 => absurd c5 (by omega)) (fun c5 => ?_)
  refine ji_iload_n dX8_split_8 rfl ?_
  refine ji_iconst dX8_split_9 ?_
  refine ji_aload_n dX8_split_10 rfl trivial ?_
  refine ji_iload_n dX8_split_11 rfl ?_
  refine ji_cV dX8_split_12 (r_wordsOf hz hn (by omega)) rfl (rf_60) rfl rfl wX8_wordsOf vX8_wordsOf lX8_260 rfl (Nat.le_of_ble_eq_true rfl) rfl ?_
  refine ji_iconst dX8_split_15 ?_
  refine ji_isub dX8_split_16 ?_
  refine ji_cS dX8_split_17 (r_within (by omega) (by omega) (by omega)) rfl wX8_within sX8_within lX8_50 rfl (Nat.le_of_ble_eq_true rfl) rfl ?_
  refine ji_if_eq (tgt := 27) dX8_split_20 rfl (by omega) (fun c20 => absurd c20 (by omega)) (fun c20 => ?_)
  refine ji_iconst dX8_split_23 ?_
  refine ji_goto (tgt := 28) dX8_split_24 rfl ?_
  refine ji_istore_n dX8_split_28 (by decide) rfl ?_
  refine ji_aload_n dX8_split_29 rfl trivial ?_
  refine ji_iload_n dX8_split_30 rfl ?_
  refine ji_if_ne (tgt := 38) dX8_split_31 rfl (by omega) (fun c31 => ?_) (fun c31 => absurd c31 (by omega))
  refine ji_aload_n dX8_split_38 rfl trivial ?_
  refine ji_get (ci := 8) (k := 1) rfl dX8_split_39 lX8_7 (by decide) (rf_60) rfl ?_
  refine ji_iconst dX8_split_42 ?_
  refine ji_ialoadK (k := 0) dX8_split_43 (rf_61) rfl (by decide) ?_
  refine ji_bipush dX8_split_44 rfl ?_
  refine ji_icmp_ge (tgt := 53) dX8_split_46 rfl (by omega) (by omega) (fun c46 => absurd c46 (by omega)) (fun c46 => ?_)
  refine ji_iconst dX8_split_49 ?_
  refine ji_goto (tgt := 54) dX8_split_50 rfl ?_
  refine ji_putE (ci := 8) (k := 0) rfl dX8_split_54 lX8_47 (by decide) (rf_60) (by simp [rf_c]) (ji_fitI _) rfl (rf_pth) ?_
  refine ji_aload_n dX8_split_57 rfl trivial ?_
  refine ji_get (ci := 8) (k := 0) rfl dX8_split_58 lX8_47 (by decide) (rf_60) rfl ?_
  refine ji_if_le (tgt := 66) dX8_split_61 rfl (by omega) (fun c61 => ?_) (fun c61 => absurd c61 (by omega))
  refine ji_aload_n dX8_split_66 rfl trivial ?_
  refine ji_cVv dX8_split_67 (r_keep (by omega)) rfl (rf_60) rfl rfl wX8_keep vX8_keep lX8_300 rfl (Nat.le_of_ble_eq_true rfl) rfl ?_
  refine ji_aload_n dX8_split_70 rfl trivial ?_
  refine ji_iload_n dX8_split_71 rfl ?_
  refine ji_aload_n dX8_split_72 rfl trivial ?_
  refine ji_iload_n dX8_split_73 rfl ?_
  refine ji_iload_n dX8_split_74 rfl ?_
  refine ji_cV dX8_split_75 (r_startOf hz hn (by omega) (by omega)) rfl (rf_60) rfl rfl wX8_startOf vX8_startOf lX8_290 rfl (Nat.le_of_ble_eq_true rfl) rfl ?_
  refine ji_cVv dX8_split_78 (r_divide (by omega) (by omega) (by omega) hB h3 h14) rfl (rf_60) rfl rfl wX8_divide vX8_divide lX8_321 rfl (Nat.le_of_ble_eq_true rfl) rfl ?_
  refine ji_aload_n dX8_split_81 rfl trivial ?_
  refine ji_get (ci := 8) (k := 1) rfl dX8_split_82 lX8_7 (by decide) (rf_60) rfl ?_
  refine ji_iconst dX8_split_85 ?_
  refine ji_ialoadK (k := 0) dX8_split_86 (rf_61) rfl (by decide) ?_
  exact ji_ireturn dX8_split_87 rfl (rfl) ⟨jr_i (by first | rfl | omega), rfl⟩

theorem rf_Ux {z : Nat → Int} {q : Int} (hq : 0 ≤ q ∧ q + 1 < z 0) (h10 : z 0 ≤ 10) (hL : 0 ≤ z (85 + q).toNat ∧ 0 ≤ z (85 + q + 1).toNat ∧ z (85 + q).toNat + 1 + z (85 + q + 1).toNat ≤ 359) :
    rf_U1 z q (85 + q + 1).toNat = z (85 + q + 1).toNat ∧ rf_U2 z q (85 + q + 1).toNat = z (85 + q + 1).toNat ∧ (∀ j, j < 75 → rf_U3 z q j = z j) := by
  have e1 : rf_U1 z q (85 + q + 1).toNat = z (85 + q + 1).toNat := by unfold rf_U1; rw [va_up_ne _ _ (by omega)]
  refine ⟨e1, ?_, fun j hj => ?_⟩
  · unfold rf_U2; rw [va_cpy_r (by omega)]; exact e1
  · unfold rf_U3 rf_U2; rw [va_up_ne _ _ (by omega), va_cpy_r (by omega)]; unfold rf_U1; rw [va_up_ne _ _ (by omega)]
theorem rf_U3_b {z : Nat → Int} {q : Int} (hB : ∀ j, -10000 ≤ z j ∧ z j ≤ 10000) (hq : 0 ≤ q ∧ q + 1 < z 0) (h10 : z 0 ≤ 10) (hL : 0 ≤ z (85 + q).toNat ∧ 0 ≤ z (85 + q + 1).toNat ∧ z (85 + q).toNat + 1 + z (85 + q + 1).toNat ≤ 359) (j : Nat) : -10000 ≤ rf_U3 z q j ∧ rf_U3 z q j ≤ 10000 := by
  have h1 : ∀ j, -10000 ≤ rf_U1 z q j ∧ rf_U1 z q j ≤ 10000 := by unfold rf_U1; exact va_up_b hB (by omega)
  have e := (rf_Ux hq h10 hL).2.1
  unfold rf_U3
  refine va_up_b (fun i => ?_) (by omega) j
  unfold rf_U2; exact va_cpy_b h1 h1 i
theorem rf_U4_b {z : Nat → Int} {q : Int} (hB : ∀ j, -10000 ≤ z j ∧ z j ≤ 10000) (hq : 0 ≤ q ∧ q + 1 < z 0) (h10 : z 0 ≤ 10) (hL : 0 ≤ z (85 + q).toNat ∧ 0 ≤ z (85 + q + 1).toNat ∧ z (85 + q).toNat + 1 + z (85 + q + 1).toNat ≤ 359) (j : Nat) : -10400 ≤ rf_U4 z q j ∧ rf_U4 z q j ≤ 10400 :=
  rf_pl_b (x := 10000) (rf_U3_b hB hq h10 hL) (by omega) (fun u v h _ => by unfold id_a; omega) (fun u v _ h => by unfold un_b; split <;> omega) _ j
theorem rf_U5_b {z : Nat → Int} {q : Int} (hB : ∀ j, -10000 ≤ z j ∧ z j ≤ 10000) (hq : 0 ≤ q ∧ q + 1 < z 0) (h10 : z 0 ≤ 10) (hL : 0 ≤ z (85 + q).toNat ∧ 0 ≤ z (85 + q + 1).toNat ∧ z (85 + q).toNat + 1 + z (85 + q + 1).toNat ≤ 359) (j : Nat) : -10800 ≤ rf_U5 z q j ∧ rf_U5 z q j ≤ 10800 :=
  rf_mk_b (x := 10400) (rf_U4_b hB hq h10 hL) (by omega) (fun a b c d h1 _ _ _ => by unfold id_0; omega) (fun a b c d _ h1 _ _ => by unfold un_1; split <;> omega) (fun a b c d _ _ h1 _ => by unfold un_2; split <;> omega) (fun a b c d _ _ _ h1 => by unfold id_4; omega) _ j
set_option maxHeartbeats 4000000 in
set_option maxRecDepth 100000 in
theorem r_unite_t {bc bs : Nat} {Q : ji_R → ji_H → Prop} {q w L : Int} (hq : 0 ≤ q ∧ q < 9) (hw : 0 ≤ w ∧ 0 ≤ L ∧ w + 1 + L ≤ 359) (hL : z (85 + q + 1).toNat = L) (kk : ∀ k, JW G d mX8_unite 86 [some (.ref 60), some (.int (jI q)), some (.int (jI w)), some (.int (jI k)), none] [] (n, rf_f f th (va_cpy z z (95 + 360 * (q + 1)).toNat (95 + 360 * q + w + 1).toNat L.toNat) kp ed nt nl wi ht sy sz bf rs rr rq rp mm ln lo lf lt co ro pg pf hsh) bc bs Q) : ∀ (u : Nat) (k : Int), 0 ≤ k ∧ k + u = L →
    JW G d mX8_unite 29 [some (.ref 60), some (.int (jI q)), some (.int (jI w)), some (.int (jI k)), none] [] (n, rf_f f th (va_cpy z z (95 + 360 * (q + 1)).toNat (95 + 360 * q + w + 1).toNat k.toNat) kp ed nt nl wi ht sy sz bf rs rr rq rp mm ln lo lf lt co ro pg pf hsh) bc bs Q := by
  intro u
  induction u with
  | zero =>
    intro k hk
    refine ji_iload_n dX8_unite_29 rfl ?_
    refine ji_aload_n dX8_unite_30 rfl trivial ?_
    refine ji_get (ci := 8) (k := 1) rfl dX8_unite_31 lX8_7 (by decide) (rf_60) rfl ?_
    refine ji_bipush dX8_unite_34 rfl ?_
    refine ji_iload_n dX8_unite_36 rfl ?_
    refine ji_iadd dX8_unite_37 ?_
    refine ji_iconst dX8_unite_38 ?_
    refine ji_iadd dX8_unite_39 ?_
    refine ji_iaload dX8_unite_40 (rf_61) (by omega) ?_
    rw [va_cpy_r (by omega), hL]
    refine ji_icmp_ge (tgt := 86) dX8_unite_41 rfl (by omega) (by omega) (fun c41 => ?_) (fun c41 => absurd c41 (by omega))
    exact ji_eqv (kk k) rfl rfl (by rw [show k = L by omega])
  | succ u ih =>
    intro k hk
    refine ji_iload_n dX8_unite_29 rfl ?_
    refine ji_aload_n dX8_unite_30 rfl trivial ?_
    refine ji_get (ci := 8) (k := 1) rfl dX8_unite_31 lX8_7 (by decide) (rf_60) rfl ?_
    refine ji_bipush dX8_unite_34 rfl ?_
    refine ji_iload_n dX8_unite_36 rfl ?_
    refine ji_iadd dX8_unite_37 ?_
    refine ji_iconst dX8_unite_38 ?_
    refine ji_iadd dX8_unite_39 ?_
    refine ji_iaload dX8_unite_40 (rf_61) (by omega) ?_
    rw [va_cpy_r (by omega), hL]
    refine ji_icmp_ge (tgt := 86) dX8_unite_41 rfl (by omega) (by omega) (fun c41 => absurd c41 (by omega)) (fun c41 => ?_)
    refine ji_aload_n dX8_unite_44 rfl trivial ?_
    refine ji_get (ci := 8) (k := 1) rfl dX8_unite_45 lX8_7 (by decide) (rf_60) rfl ?_
    refine ji_bipush dX8_unite_48 rfl ?_
    refine ji_sipush dX8_unite_50 rfl ?_
    refine ji_iload_n dX8_unite_53 rfl ?_
    refine ji_imul dX8_unite_54 ?_
    refine ji_iadd dX8_unite_55 ?_
    refine ji_iload_n dX8_unite_56 rfl ?_
    refine ji_iadd dX8_unite_57 ?_
    refine ji_iconst dX8_unite_58 ?_
    refine ji_iadd dX8_unite_59 ?_
    refine ji_iload_n dX8_unite_60 rfl ?_
    refine ji_iadd dX8_unite_61 ?_
    refine ji_aload_n dX8_unite_62 rfl trivial ?_
    refine ji_get (ci := 8) (k := 1) rfl dX8_unite_63 lX8_7 (by decide) (rf_60) rfl ?_
    refine ji_bipush dX8_unite_66 rfl ?_
    refine ji_sipush dX8_unite_68 rfl ?_
    refine ji_iload_n dX8_unite_71 rfl ?_
    refine ji_iconst dX8_unite_72 ?_
    refine ji_iadd dX8_unite_73 ?_
    refine ji_imul dX8_unite_74 ?_
    refine ji_iadd dX8_unite_75 ?_
    refine ji_iload_n dX8_unite_76 rfl ?_
    refine ji_iadd dX8_unite_77 ?_
    refine ji_iaload dX8_unite_78 (rf_61) (by omega) ?_
    rw [va_cpy_r (by omega)]
    refine ji_iastoreE dX8_unite_79 (rf_61) (by omega) (rf_s61) ?_
    refine ji_iinc dX8_unite_80 (by decide) rfl rfl ?_
    refine ji_goto (tgt := 29) dX8_unite_83 rfl ?_
    exact ji_eqv (ih (k + 1) (by omega)) rfl rfl (by rw [show (k + 1).toNat = k.toNat + 1 by omega, ← va_cpy_u, show (95 + 360 * q + w + 1).toNat + k.toNat = (95 + 360 * q + w + 1 + k).toNat by omega, show (95 + 360 * (q + 1)).toNat + k.toNat = (95 + 360 * (q + 1) + k).toNat by omega])

set_option maxHeartbeats 4000000 in
set_option maxRecDepth 100000 in
theorem r_unite_p {bc bs : Nat} {Q : ji_R → ji_H → Prop} {q w : Int} (hq : 0 ≤ q ∧ q < 10) (hw : 0 ≤ w ∧ w ≤ 400) (hB : ∀ j, -20000 ≤ z j ∧ z j ≤ 20000) (h3 : 0 ≤ z 3 ∧ z 3 ≤ 5) (kk : ∀ k o, JW G d mX8_unite 177 [some (.ref 60), some (.int (jI q)), some (.int (jI w)), some (.int (jI k)), o] [] (n, rf_f f th (rf_pl id_a (un_b q w) z (z 3 + 1).toNat) kp ed nt nl wi ht sy sz bf rs rr rq rp mm ln lo lf lt co ro pg pf hsh) bc bs Q) : ∀ (u : Nat) (k : Int) (o : Option Value), 0 ≤ k ∧ k + u = z 3 + 1 →
    JW G d mX8_unite 112 [some (.ref 60), some (.int (jI q)), some (.int (jI w)), some (.int (jI k)), o] [] (n, rf_f f th (rf_pl id_a (un_b q w) z k.toNat) kp ed nt nl wi ht sy sz bf rs rr rq rp mm ln lo lf lt co ro pg pf hsh) bc bs Q := by
  intro u
  induction u with
  | zero =>
    intro k o hk
    have e3 : (rf_pl id_a (un_b q w) z k.toNat) 3 = z 3 := rf_pl_h (by omega) (by omega)
    refine ji_iload_n dX8_unite_112 rfl ?_
    refine ji_aload_n dX8_unite_113 rfl trivial ?_
    refine ji_get (ci := 8) (k := 1) rfl dX8_unite_114 lX8_7 (by decide) (rf_60) rfl ?_
    refine ji_iconst dX8_unite_117 ?_
    refine ji_ialoadK (k := 3) dX8_unite_118 (rf_61) rfl (by decide) ?_
    rw [e3]
    refine ji_icmp_gt (tgt := 177) dX8_unite_119 rfl (by omega) (by omega) (fun c119 => ?_) (fun c119 => absurd c119 (by omega))
    exact ji_eqv (kk _ _) rfl rfl (by rw [show k.toNat = (z 3 + 1).toNat by omega])
  | succ u ih =>
    intro k o hk
    have f1 : k = 0 → (rf_pl id_a (un_b q w) z k.toNat) ((1 : Int) + 1).toNat = z 2 := fun h => by subst h; exact (rf_pl_r (i := 0) (q := 1) (by omega)).2
    have f2 : k = 0 → (rf_pl id_a (un_b q w) z k.toNat) (1 : Int).toNat = z 1 := fun h => by subst h; exact (rf_pl_r (i := 0) (q := 1) (by omega)).1
    have g1 : ¬ k = 0 → (rf_pl id_a (un_b q w) z k.toNat) (4 + 2 * k - 2 + 1).toNat = z (2 * k.toNat + 3) := fun h => by rw [show (4 + 2 * k - 2 + 1).toNat = 2 * k.toNat + 2 + 1 by omega]; exact (rf_pl_r (i := k.toNat) (q := 2 * k.toNat + 2) (by omega)).2
    have g2 : ¬ k = 0 → (rf_pl id_a (un_b q w) z k.toNat) (4 + 2 * k - 2).toNat = z (2 * k.toNat + 2) := fun h => by rw [show (4 + 2 * k - 2).toNat = 2 * k.toNat + 2 by omega]; exact (rf_pl_r (i := k.toNat) (q := 2 * k.toNat + 2) (by omega)).1
    have f3 : k = 0 → ∀ v, va_up (rf_pl id_a (un_b q w) z k.toNat) (1 : Int).toNat v ((1 : Int) + 1).toNat = z 2 := fun h v => (va_up_ne _ _ (by decide)).trans (f1 h)
    have g3 : ¬ k = 0 → ∀ v, va_up (rf_pl id_a (un_b q w) z k.toNat) (4 + 2 * k - 2).toNat v (4 + 2 * k - 2 + 1).toNat = z (2 * k.toNat + 3) := fun h v => (va_up_ne _ _ (by omega)).trans (g1 h)
    have e3 : (rf_pl id_a (un_b q w) z k.toNat) 3 = z 3 := rf_pl_h (by omega) (by omega)
    have b1 := hB 1
    have b2 := hB 2
    have b3 := hB (2 * k.toNat + 2)
    have b4 := hB (2 * k.toNat + 3)
    refine ji_iload_n dX8_unite_112 rfl ?_
    refine ji_aload_n dX8_unite_113 rfl trivial ?_
    refine ji_get (ci := 8) (k := 1) rfl dX8_unite_114 lX8_7 (by decide) (rf_60) rfl ?_
    refine ji_iconst dX8_unite_117 ?_
    refine ji_ialoadK (k := 3) dX8_unite_118 (rf_61) rfl (by decide) ?_
    rw [e3]
    refine ji_icmp_gt (tgt := 177) dX8_unite_119 rfl (by omega) (by omega) (fun c119 => absurd c119 (by omega)) (fun c119 => ?_)
    refine ji_iload_n dX8_unite_122 rfl ?_
    refine ji_if_ne (tgt := 130) dX8_unite_123 rfl (by omega) (fun c123 => ?_) (fun c123 => ?_)
    · try (exfalso; omega)
      all_goals
        refine ji_iconst dX8_unite_130 ?_
        refine ji_iconst dX8_unite_131 ?_
        refine ji_iload_n dX8_unite_132 rfl ?_
        refine ji_imul dX8_unite_133 ?_
        refine ji_iadd dX8_unite_134 ?_
        refine ji_iconst dX8_unite_135 ?_
        refine ji_isub dX8_unite_136 ?_
        refine ji_istore dX8_unite_137 (by decide) rfl ?_
        refine ji_aload_n dX8_unite_139 rfl trivial ?_
        refine ji_get (ci := 8) (k := 1) rfl dX8_unite_140 lX8_7 (by decide) (rf_60) rfl ?_
        refine ji_iload dX8_unite_143 rfl ?_
        refine ji_iconst dX8_unite_145 ?_
        refine ji_iadd dX8_unite_146 ?_
        refine ji_dup2 dX8_unite_147 rfl rfl ?_
        refine ji_iaload dX8_unite_148 (rf_61) (by omega) ?_
        first | rw [f1 (by omega)] | rw [g1 (by omega)] | rw [f3 (by omega)] | rw [g3 (by omega)]
        refine ji_aload_n dX8_unite_149 rfl trivial ?_
        refine ji_get (ci := 8) (k := 1) rfl dX8_unite_150 lX8_7 (by decide) (rf_60) rfl ?_
        refine ji_iload dX8_unite_153 rfl ?_
        refine ji_iaload dX8_unite_155 (rf_61) (by omega) ?_
        first | rw [f2 (by omega)] | rw [g2 (by omega)]
        refine ji_iload_n dX8_unite_156 rfl ?_
        refine ji_iconst dX8_unite_157 ?_
        refine ji_iadd dX8_unite_158 ?_
        refine ji_icmp_ne (tgt := 168) dX8_unite_159 rfl (by omega) (by omega) (fun c159 => ?_) (fun c159 => ?_)
        · try (exfalso; omega)
          all_goals
            refine ji_iconst dX8_unite_168 ?_
            refine ji_iadd dX8_unite_169 ?_
            refine ji_iastoreE dX8_unite_170 (rf_61) (by omega) (rf_s61) ?_
            refine ji_iinc dX8_unite_171 (by decide) rfl rfl ?_
            refine ji_goto (tgt := 112) dX8_unite_174 rfl ?_
            first | exact ji_eqv (ih (k + 1) _ (by omega)) rfl rfl (by rw [show (k + 1).toNat = k.toNat + 1 by omega]; (try rw [show ((1 : Int) + 1).toNat = 2 from rfl]); (try rw [show (1 : Int).toNat = 1 from rfl]); rw [rf_pl_so (q := 1) (q1 := 2) (by omega) (by unfold un_b; (repeat' split) <;> omega) (rfl)]) | exact ji_eqv (ih (k + 1) _ (by omega)) rfl rfl (by rw [show (k + 1).toNat = k.toNat + 1 by omega]; (try rw [show (4 + 2 * k - 2 + 1).toNat = 2 * k.toNat + 3 by omega]); (try rw [show (4 + 2 * k - 2).toNat = 2 * k.toNat + 2 by omega]); rw [rf_pl_so (q := 2 * k.toNat + 2) (q1 := 2 * k.toNat + 3) (by omega) (by unfold un_b; (repeat' split) <;> omega) (rfl)])
        · try (exfalso; omega)
          all_goals
            refine ji_iload_n dX8_unite_162 rfl ?_
            refine ji_iconst dX8_unite_163 ?_
            refine ji_iadd dX8_unite_164 ?_
            refine ji_goto (tgt := 169) dX8_unite_165 rfl ?_
            refine ji_iadd dX8_unite_169 ?_
            refine ji_iastoreE dX8_unite_170 (rf_61) (by omega) (rf_s61) ?_
            refine ji_iinc dX8_unite_171 (by decide) rfl rfl ?_
            refine ji_goto (tgt := 112) dX8_unite_174 rfl ?_
            first | exact ji_eqv (ih (k + 1) _ (by omega)) rfl rfl (by rw [show (k + 1).toNat = k.toNat + 1 by omega]; (try rw [show ((1 : Int) + 1).toNat = 2 from rfl]); (try rw [show (1 : Int).toNat = 1 from rfl]); rw [rf_pl_so (q := 1) (q1 := 2) (by omega) (by unfold un_b; (repeat' split) <;> omega) (rfl)]) | exact ji_eqv (ih (k + 1) _ (by omega)) rfl rfl (by rw [show (k + 1).toNat = k.toNat + 1 by omega]; (try rw [show (4 + 2 * k - 2 + 1).toNat = 2 * k.toNat + 3 by omega]); (try rw [show (4 + 2 * k - 2).toNat = 2 * k.toNat + 2 by omega]); rw [rf_pl_so (q := 2 * k.toNat + 2) (q1 := 2 * k.toNat + 3) (by omega) (by unfold un_b; (repeat' split) <;> omega) (rfl)])
    · try (exfalso; omega)
      all_goals
        refine ji_iconst dX8_unite_126 ?_
        refine ji_goto (tgt := 137) dX8_unite_127 rfl ?_
        refine ji_istore dX8_unite_137 (by decide) rfl ?_
        refine ji_aload_n dX8_unite_139 rfl trivial ?_
        refine ji_get (ci := 8) (k := 1) rfl dX8_unite_140 lX8_7 (by decide) (rf_60) rfl ?_
        refine ji_iload dX8_unite_143 rfl ?_
        refine ji_iconst dX8_unite_145 ?_
        refine ji_iadd dX8_unite_146 ?_
        refine ji_dup2 dX8_unite_147 rfl rfl ?_
        refine ji_iaload dX8_unite_148 (rf_61) (by omega) ?_
        first | rw [f1 (by omega)] | rw [g1 (by omega)] | rw [f3 (by omega)] | rw [g3 (by omega)]
        refine ji_aload_n dX8_unite_149 rfl trivial ?_
        refine ji_get (ci := 8) (k := 1) rfl dX8_unite_150 lX8_7 (by decide) (rf_60) rfl ?_
        refine ji_iload dX8_unite_153 rfl ?_
        refine ji_iaload dX8_unite_155 (rf_61) (by omega) ?_
        first | rw [f2 (by omega)] | rw [g2 (by omega)]
        refine ji_iload_n dX8_unite_156 rfl ?_
        refine ji_iconst dX8_unite_157 ?_
        refine ji_iadd dX8_unite_158 ?_
        refine ji_icmp_ne (tgt := 168) dX8_unite_159 rfl (by omega) (by omega) (fun c159 => ?_) (fun c159 => ?_)
        · try (exfalso; omega)
          all_goals
            refine ji_iconst dX8_unite_168 ?_
            refine ji_iadd dX8_unite_169 ?_
            refine ji_iastoreE dX8_unite_170 (rf_61) (by omega) (rf_s61) ?_
            refine ji_iinc dX8_unite_171 (by decide) rfl rfl ?_
            refine ji_goto (tgt := 112) dX8_unite_174 rfl ?_
            first | exact ji_eqv (ih (k + 1) _ (by omega)) rfl rfl (by rw [show (k + 1).toNat = k.toNat + 1 by omega]; (try rw [show ((1 : Int) + 1).toNat = 2 from rfl]); (try rw [show (1 : Int).toNat = 1 from rfl]); rw [rf_pl_so (q := 1) (q1 := 2) (by omega) (by unfold un_b; (repeat' split) <;> omega) (rfl)]) | exact ji_eqv (ih (k + 1) _ (by omega)) rfl rfl (by rw [show (k + 1).toNat = k.toNat + 1 by omega]; (try rw [show (4 + 2 * k - 2 + 1).toNat = 2 * k.toNat + 3 by omega]); (try rw [show (4 + 2 * k - 2).toNat = 2 * k.toNat + 2 by omega]); rw [rf_pl_so (q := 2 * k.toNat + 2) (q1 := 2 * k.toNat + 3) (by omega) (by unfold un_b; (repeat' split) <;> omega) (rfl)])
        · try (exfalso; omega)
          all_goals
            refine ji_iload_n dX8_unite_162 rfl ?_
            refine ji_iconst dX8_unite_163 ?_
            refine ji_iadd dX8_unite_164 ?_
            refine ji_goto (tgt := 169) dX8_unite_165 rfl ?_
            refine ji_iadd dX8_unite_169 ?_
            refine ji_iastoreE dX8_unite_170 (rf_61) (by omega) (rf_s61) ?_
            refine ji_iinc dX8_unite_171 (by decide) rfl rfl ?_
            refine ji_goto (tgt := 112) dX8_unite_174 rfl ?_
            first | exact ji_eqv (ih (k + 1) _ (by omega)) rfl rfl (by rw [show (k + 1).toNat = k.toNat + 1 by omega]; (try rw [show ((1 : Int) + 1).toNat = 2 from rfl]); (try rw [show (1 : Int).toNat = 1 from rfl]); rw [rf_pl_so (q := 1) (q1 := 2) (by omega) (by unfold un_b; (repeat' split) <;> omega) (rfl)]) | exact ji_eqv (ih (k + 1) _ (by omega)) rfl rfl (by rw [show (k + 1).toNat = k.toNat + 1 by omega]; (try rw [show (4 + 2 * k - 2 + 1).toNat = 2 * k.toNat + 3 by omega]); (try rw [show (4 + 2 * k - 2).toNat = 2 * k.toNat + 2 by omega]); rw [rf_pl_so (q := 2 * k.toNat + 2) (q1 := 2 * k.toNat + 3) (by omega) (by unfold un_b; (repeat' split) <;> omega) (rfl)])

set_option maxHeartbeats 4000000 in
set_option maxRecDepth 100000 in
theorem r_unite_m {bc bs : Nat} {Q : ji_R → ji_H → Prop} {q w : Int} (hq : 0 ≤ q ∧ q < 10) (hw : 0 ≤ w ∧ w ≤ 400) (hB : ∀ j, -20000 ≤ z j ∧ z j ≤ 20000) (h14 : 0 ≤ z 14 ∧ z 14 ≤ 12) (kk : ∀ k o4, JW G d mX8_unite 268 [some (.ref 60), some (.int (jI q)), some (.int (jI w)), some (.int (jI k)), o4] [] (n, rf_f f th (rf_mk id_0 (un_1 q w) (un_2 q w) id_4 z (z 14).toNat) kp ed nt nl wi ht sy sz bf rs rr rq rp mm ln lo lf lt co ro pg pf hsh) bc bs Q) : ∀ (u : Nat) (k : Int) (o4 : Option Value), 0 ≤ k ∧ k + u = z 14 →
    JW G d mX8_unite 179 [some (.ref 60), some (.int (jI q)), some (.int (jI w)), some (.int (jI k)), o4] [] (n, rf_f f th (rf_mk id_0 (un_1 q w) (un_2 q w) id_4 z k.toNat) kp ed nt nl wi ht sy sz bf rs rr rq rp mm ln lo lf lt co ro pg pf hsh) bc bs Q := by
  intro u
  induction u with
  | zero =>
    intro k o4 hk
    have e14 : (rf_mk id_0 (un_1 q w) (un_2 q w) id_4 z k.toNat) 14 = z 14 := rf_mk_r (by omega)
    refine ji_iload_n dX8_unite_179 rfl ?_
    refine ji_aload_n dX8_unite_180 rfl trivial ?_
    refine ji_get (ci := 8) (k := 1) rfl dX8_unite_181 lX8_7 (by decide) (rf_60) rfl ?_
    refine ji_bipush dX8_unite_184 rfl ?_
    refine ji_ialoadK (k := 14) dX8_unite_186 (rf_61) rfl (by decide) ?_
    rw [e14]
    refine ji_icmp_ge (tgt := 268) dX8_unite_187 rfl (by omega) (by omega) (fun c187 => ?_) (fun c187 => absurd c187 (by omega))
    exact ji_eqv (kk _ _) rfl rfl (by rw [show k.toNat = (z 14).toNat by omega])
  | succ u ih =>
    intro k o4 hk
    have e14 : (rf_mk id_0 (un_1 q w) (un_2 q w) id_4 z k.toNat) 14 = z 14 := rf_mk_r (by omega)
    have r0 : (rf_mk id_0 (un_1 q w) (un_2 q w) id_4 z k.toNat) (15 + 5 * k).toNat = z (15 + 5 * k.toNat) := by rw [show (15 + 5 * k).toNat = 15 + 5 * k.toNat by omega]; exact rf_mk_r (by omega)
    have b0 := hB (15 + 5 * k.toNat)
    have r1 : (rf_mk id_0 (un_1 q w) (un_2 q w) id_4 z k.toNat) (15 + 5 * k + 1).toNat = z (15 + 5 * k.toNat + 1) := by rw [show (15 + 5 * k + 1).toNat = 15 + 5 * k.toNat + 1 by omega]; exact rf_mk_r (by omega)
    have b1 := hB (15 + 5 * k.toNat + 1)
    have r2 : (rf_mk id_0 (un_1 q w) (un_2 q w) id_4 z k.toNat) (15 + 5 * k + 2).toNat = z (15 + 5 * k.toNat + 2) := by rw [show (15 + 5 * k + 2).toNat = 15 + 5 * k.toNat + 2 by omega]; exact rf_mk_r (by omega)
    have b2 := hB (15 + 5 * k.toNat + 2)
    have r4 : (rf_mk id_0 (un_1 q w) (un_2 q w) id_4 z k.toNat) (15 + 5 * k + 4).toNat = z (15 + 5 * k.toNat + 4) := by rw [show (15 + 5 * k + 4).toNat = 15 + 5 * k.toNat + 4 by omega]; exact rf_mk_r (by omega)
    have b4 := hB (15 + 5 * k.toNat + 4)
    have s10 : ∀ v, va_up (rf_mk id_0 (un_1 q w) (un_2 q w) id_4 z k.toNat) (15 + 5 * k + 1).toNat v (15 + 5 * k).toNat = z (15 + 5 * k.toNat) := fun v => (va_up_ne _ _ (by omega)).trans r0
    have s20 : ∀ v, va_up (rf_mk id_0 (un_1 q w) (un_2 q w) id_4 z k.toNat) (15 + 5 * k + 2).toNat v (15 + 5 * k).toNat = z (15 + 5 * k.toNat) := fun v => (va_up_ne _ _ (by omega)).trans r0
    have s40 : ∀ v, va_up (rf_mk id_0 (un_1 q w) (un_2 q w) id_4 z k.toNat) (15 + 5 * k + 4).toNat v (15 + 5 * k).toNat = z (15 + 5 * k.toNat) := fun v => (va_up_ne _ _ (by omega)).trans r0
    have s01 : ∀ v, va_up (rf_mk id_0 (un_1 q w) (un_2 q w) id_4 z k.toNat) (15 + 5 * k).toNat v (15 + 5 * k + 1).toNat = z (15 + 5 * k.toNat + 1) := fun v => (va_up_ne _ _ (by omega)).trans r1
    have s21 : ∀ v, va_up (rf_mk id_0 (un_1 q w) (un_2 q w) id_4 z k.toNat) (15 + 5 * k + 2).toNat v (15 + 5 * k + 1).toNat = z (15 + 5 * k.toNat + 1) := fun v => (va_up_ne _ _ (by omega)).trans r1
    have s41 : ∀ v, va_up (rf_mk id_0 (un_1 q w) (un_2 q w) id_4 z k.toNat) (15 + 5 * k + 4).toNat v (15 + 5 * k + 1).toNat = z (15 + 5 * k.toNat + 1) := fun v => (va_up_ne _ _ (by omega)).trans r1
    have s02 : ∀ v, va_up (rf_mk id_0 (un_1 q w) (un_2 q w) id_4 z k.toNat) (15 + 5 * k).toNat v (15 + 5 * k + 2).toNat = z (15 + 5 * k.toNat + 2) := fun v => (va_up_ne _ _ (by omega)).trans r2
    have s12 : ∀ v, va_up (rf_mk id_0 (un_1 q w) (un_2 q w) id_4 z k.toNat) (15 + 5 * k + 1).toNat v (15 + 5 * k + 2).toNat = z (15 + 5 * k.toNat + 2) := fun v => (va_up_ne _ _ (by omega)).trans r2
    have s42 : ∀ v, va_up (rf_mk id_0 (un_1 q w) (un_2 q w) id_4 z k.toNat) (15 + 5 * k + 4).toNat v (15 + 5 * k + 2).toNat = z (15 + 5 * k.toNat + 2) := fun v => (va_up_ne _ _ (by omega)).trans r2
    have s04 : ∀ v, va_up (rf_mk id_0 (un_1 q w) (un_2 q w) id_4 z k.toNat) (15 + 5 * k).toNat v (15 + 5 * k + 4).toNat = z (15 + 5 * k.toNat + 4) := fun v => (va_up_ne _ _ (by omega)).trans r4
    have s14 : ∀ v, va_up (rf_mk id_0 (un_1 q w) (un_2 q w) id_4 z k.toNat) (15 + 5 * k + 1).toNat v (15 + 5 * k + 4).toNat = z (15 + 5 * k.toNat + 4) := fun v => (va_up_ne _ _ (by omega)).trans r4
    have s24 : ∀ v, va_up (rf_mk id_0 (un_1 q w) (un_2 q w) id_4 z k.toNat) (15 + 5 * k + 2).toNat v (15 + 5 * k + 4).toNat = z (15 + 5 * k.toNat + 4) := fun v => (va_up_ne _ _ (by omega)).trans r4
    refine ji_iload_n dX8_unite_179 rfl ?_
    refine ji_aload_n dX8_unite_180 rfl trivial ?_
    refine ji_get (ci := 8) (k := 1) rfl dX8_unite_181 lX8_7 (by decide) (rf_60) rfl ?_
    refine ji_bipush dX8_unite_184 rfl ?_
    refine ji_ialoadK (k := 14) dX8_unite_186 (rf_61) rfl (by decide) ?_
    rw [e14]
    refine ji_icmp_ge (tgt := 268) dX8_unite_187 rfl (by omega) (by omega) (fun c187 => absurd c187 (by omega)) (fun c187 => ?_)
    refine ji_bipush dX8_unite_190 rfl ?_
    refine ji_iconst dX8_unite_192 ?_
    refine ji_iload_n dX8_unite_193 rfl ?_
    refine ji_imul dX8_unite_194 ?_
    refine ji_iadd dX8_unite_195 ?_
    refine ji_istore dX8_unite_196 (by decide) rfl ?_
    refine ji_aload_n dX8_unite_198 rfl trivial ?_
    refine ji_get (ci := 8) (k := 1) rfl dX8_unite_199 lX8_7 (by decide) (rf_60) rfl ?_
    refine ji_iload dX8_unite_202 rfl ?_
    refine ji_iconst dX8_unite_204 ?_
    refine ji_iadd dX8_unite_205 ?_
    refine ji_dup2 dX8_unite_206 rfl rfl ?_
    refine ji_iaload dX8_unite_207 (rf_61) (by omega) ?_
    rw [r1]
    refine ji_aload_n dX8_unite_208 rfl trivial ?_
    refine ji_get (ci := 8) (k := 1) rfl dX8_unite_209 lX8_7 (by decide) (rf_60) rfl ?_
    refine ji_iload dX8_unite_212 rfl ?_
    refine ji_iaload dX8_unite_214 (rf_61) (by omega) ?_
    rw [r0]
    refine ji_iload_n dX8_unite_215 rfl ?_
    refine ji_iconst dX8_unite_216 ?_
    refine ji_iadd dX8_unite_217 ?_
    refine ji_icmp_ne (tgt := 227) dX8_unite_218 rfl (by omega) (by omega) (fun c218 => ?_) (fun c218 => ?_)
    · try (exfalso; omega)
      all_goals
        refine ji_iconst dX8_unite_227 ?_
        refine ji_iadd dX8_unite_228 ?_
        refine ji_iastoreE dX8_unite_229 (rf_61) (by omega) (rf_s61) ?_
        refine ji_aload_n dX8_unite_230 rfl trivial ?_
        refine ji_get (ci := 8) (k := 1) rfl dX8_unite_231 lX8_7 (by decide) (rf_60) rfl ?_
        refine ji_iload dX8_unite_234 rfl ?_
        refine ji_iconst dX8_unite_236 ?_
        refine ji_iadd dX8_unite_237 ?_
        refine ji_dup2 dX8_unite_238 rfl rfl ?_
        refine ji_iaload dX8_unite_239 (rf_61) (by omega) ?_
        rw [s12]
        refine ji_aload_n dX8_unite_240 rfl trivial ?_
        refine ji_get (ci := 8) (k := 1) rfl dX8_unite_241 lX8_7 (by decide) (rf_60) rfl ?_
        refine ji_iload dX8_unite_244 rfl ?_
        refine ji_iaload dX8_unite_246 (rf_61) (by omega) ?_
        rw [s10]
        refine ji_iload_n dX8_unite_247 rfl ?_
        refine ji_iconst dX8_unite_248 ?_
        refine ji_iadd dX8_unite_249 ?_
        refine ji_icmp_ne (tgt := 259) dX8_unite_250 rfl (by omega) (by omega) (fun c250 => ?_) (fun c250 => ?_)
        · try (exfalso; omega)
          all_goals
            refine ji_iconst dX8_unite_259 ?_
            refine ji_iadd dX8_unite_260 ?_
            refine ji_iastoreE dX8_unite_261 (rf_61) (by omega) (rf_s61) ?_
            refine ji_iinc dX8_unite_262 (by decide) rfl rfl ?_
            refine ji_goto (tgt := 179) dX8_unite_265 rfl ?_
            exact ji_eqv (ih (k + 1) _ (by omega)) rfl rfl (by rw [show (k + 1).toNat = k.toNat + 1 by omega]; (try rw [show (15 + 5 * k + 1).toNat = 15 + 5 * k.toNat + 1 by omega]); (try rw [show (15 + 5 * k + 2).toNat = 15 + 5 * k.toNat + 2 by omega]); (try rw [show (15 + 5 * k + 4).toNat = 15 + 5 * k.toNat + 4 by omega]); (try rw [show (15 + 5 * k).toNat = 15 + 5 * k.toNat by omega]); exact congrArg (fun r9 => (n, rf_f f th r9 kp ed nt nl wi ht sy sz bf rs rr rq rp mm ln lo lf lt co ro pg pf hsh)) (rf_mk_e (fun j hj => by rw [va_up_ne _ _ (by omega), va_up_ne _ _ (by omega)]) (by rw [va_up_ne _ _ (by omega), va_up_ne _ _ (by omega), rf_mk_r (by omega)]; rfl) (by rw [va_up_ne _ _ (by omega), va_up_self]; unfold un_1; (repeat' split) <;> omega) (by rw [va_up_self]; unfold un_2; (repeat' split) <;> omega) (by rw [va_up_ne _ _ (by omega), va_up_ne _ _ (by omega), rf_mk_r (by omega)]) (by rw [va_up_ne _ _ (by omega), va_up_ne _ _ (by omega), rf_mk_r (by omega)]; rfl)))
        · try (exfalso; omega)
          all_goals
            refine ji_iload_n dX8_unite_253 rfl ?_
            refine ji_iconst dX8_unite_254 ?_
            refine ji_iadd dX8_unite_255 ?_
            refine ji_goto (tgt := 260) dX8_unite_256 rfl ?_
            refine ji_iadd dX8_unite_260 ?_
            refine ji_iastoreE dX8_unite_261 (rf_61) (by omega) (rf_s61) ?_
            refine ji_iinc dX8_unite_262 (by decide) rfl rfl ?_
            refine ji_goto (tgt := 179) dX8_unite_265 rfl ?_
            exact ji_eqv (ih (k + 1) _ (by omega)) rfl rfl (by rw [show (k + 1).toNat = k.toNat + 1 by omega]; (try rw [show (15 + 5 * k + 1).toNat = 15 + 5 * k.toNat + 1 by omega]); (try rw [show (15 + 5 * k + 2).toNat = 15 + 5 * k.toNat + 2 by omega]); (try rw [show (15 + 5 * k + 4).toNat = 15 + 5 * k.toNat + 4 by omega]); (try rw [show (15 + 5 * k).toNat = 15 + 5 * k.toNat by omega]); exact congrArg (fun r9 => (n, rf_f f th r9 kp ed nt nl wi ht sy sz bf rs rr rq rp mm ln lo lf lt co ro pg pf hsh)) (rf_mk_e (fun j hj => by rw [va_up_ne _ _ (by omega), va_up_ne _ _ (by omega)]) (by rw [va_up_ne _ _ (by omega), va_up_ne _ _ (by omega), rf_mk_r (by omega)]; rfl) (by rw [va_up_ne _ _ (by omega), va_up_self]; unfold un_1; (repeat' split) <;> omega) (by rw [va_up_self]; unfold un_2; (repeat' split) <;> omega) (by rw [va_up_ne _ _ (by omega), va_up_ne _ _ (by omega), rf_mk_r (by omega)]) (by rw [va_up_ne _ _ (by omega), va_up_ne _ _ (by omega), rf_mk_r (by omega)]; rfl)))
    · try (exfalso; omega)
      all_goals
        refine ji_iload_n dX8_unite_221 rfl ?_
        refine ji_iconst dX8_unite_222 ?_
        refine ji_iadd dX8_unite_223 ?_
        refine ji_goto (tgt := 228) dX8_unite_224 rfl ?_
        refine ji_iadd dX8_unite_228 ?_
        refine ji_iastoreE dX8_unite_229 (rf_61) (by omega) (rf_s61) ?_
        refine ji_aload_n dX8_unite_230 rfl trivial ?_
        refine ji_get (ci := 8) (k := 1) rfl dX8_unite_231 lX8_7 (by decide) (rf_60) rfl ?_
        refine ji_iload dX8_unite_234 rfl ?_
        refine ji_iconst dX8_unite_236 ?_
        refine ji_iadd dX8_unite_237 ?_
        refine ji_dup2 dX8_unite_238 rfl rfl ?_
        refine ji_iaload dX8_unite_239 (rf_61) (by omega) ?_
        rw [s12]
        refine ji_aload_n dX8_unite_240 rfl trivial ?_
        refine ji_get (ci := 8) (k := 1) rfl dX8_unite_241 lX8_7 (by decide) (rf_60) rfl ?_
        refine ji_iload dX8_unite_244 rfl ?_
        refine ji_iaload dX8_unite_246 (rf_61) (by omega) ?_
        rw [s10]
        refine ji_iload_n dX8_unite_247 rfl ?_
        refine ji_iconst dX8_unite_248 ?_
        refine ji_iadd dX8_unite_249 ?_
        refine ji_icmp_ne (tgt := 259) dX8_unite_250 rfl (by omega) (by omega) (fun c250 => ?_) (fun c250 => ?_)
        · try (exfalso; omega)
          all_goals
            refine ji_iconst dX8_unite_259 ?_
            refine ji_iadd dX8_unite_260 ?_
            refine ji_iastoreE dX8_unite_261 (rf_61) (by omega) (rf_s61) ?_
            refine ji_iinc dX8_unite_262 (by decide) rfl rfl ?_
            refine ji_goto (tgt := 179) dX8_unite_265 rfl ?_
            exact ji_eqv (ih (k + 1) _ (by omega)) rfl rfl (by rw [show (k + 1).toNat = k.toNat + 1 by omega]; (try rw [show (15 + 5 * k + 1).toNat = 15 + 5 * k.toNat + 1 by omega]); (try rw [show (15 + 5 * k + 2).toNat = 15 + 5 * k.toNat + 2 by omega]); (try rw [show (15 + 5 * k + 4).toNat = 15 + 5 * k.toNat + 4 by omega]); (try rw [show (15 + 5 * k).toNat = 15 + 5 * k.toNat by omega]); exact congrArg (fun r9 => (n, rf_f f th r9 kp ed nt nl wi ht sy sz bf rs rr rq rp mm ln lo lf lt co ro pg pf hsh)) (rf_mk_e (fun j hj => by rw [va_up_ne _ _ (by omega), va_up_ne _ _ (by omega)]) (by rw [va_up_ne _ _ (by omega), va_up_ne _ _ (by omega), rf_mk_r (by omega)]; rfl) (by rw [va_up_ne _ _ (by omega), va_up_self]; unfold un_1; (repeat' split) <;> omega) (by rw [va_up_self]; unfold un_2; (repeat' split) <;> omega) (by rw [va_up_ne _ _ (by omega), va_up_ne _ _ (by omega), rf_mk_r (by omega)]) (by rw [va_up_ne _ _ (by omega), va_up_ne _ _ (by omega), rf_mk_r (by omega)]; rfl)))
        · try (exfalso; omega)
          all_goals
            refine ji_iload_n dX8_unite_253 rfl ?_
            refine ji_iconst dX8_unite_254 ?_
            refine ji_iadd dX8_unite_255 ?_
            refine ji_goto (tgt := 260) dX8_unite_256 rfl ?_
            refine ji_iadd dX8_unite_260 ?_
            refine ji_iastoreE dX8_unite_261 (rf_61) (by omega) (rf_s61) ?_
            refine ji_iinc dX8_unite_262 (by decide) rfl rfl ?_
            refine ji_goto (tgt := 179) dX8_unite_265 rfl ?_
            exact ji_eqv (ih (k + 1) _ (by omega)) rfl rfl (by rw [show (k + 1).toNat = k.toNat + 1 by omega]; (try rw [show (15 + 5 * k + 1).toNat = 15 + 5 * k.toNat + 1 by omega]); (try rw [show (15 + 5 * k + 2).toNat = 15 + 5 * k.toNat + 2 by omega]); (try rw [show (15 + 5 * k + 4).toNat = 15 + 5 * k.toNat + 4 by omega]); (try rw [show (15 + 5 * k).toNat = 15 + 5 * k.toNat by omega]); exact congrArg (fun r9 => (n, rf_f f th r9 kp ed nt nl wi ht sy sz bf rs rr rq rp mm ln lo lf lt co ro pg pf hsh)) (rf_mk_e (fun j hj => by rw [va_up_ne _ _ (by omega), va_up_ne _ _ (by omega)]) (by rw [va_up_ne _ _ (by omega), va_up_ne _ _ (by omega), rf_mk_r (by omega)]; rfl) (by rw [va_up_ne _ _ (by omega), va_up_self]; unfold un_1; (repeat' split) <;> omega) (by rw [va_up_self]; unfold un_2; (repeat' split) <;> omega) (by rw [va_up_ne _ _ (by omega), va_up_ne _ _ (by omega), rf_mk_r (by omega)]) (by rw [va_up_ne _ _ (by omega), va_up_ne _ _ (by omega), rf_mk_r (by omega)]; rfl)))

set_option maxHeartbeats 4000000 in
set_option maxRecDepth 100000 in
theorem r_unite_c {bc bs : Nat} {q w : Int} {M : Nat} {o4 : Option Value} (hq : 0 ≤ q ∧ q + 1 < M) (hM : M ≤ 10) (hM0 : z 0 = M) : ∀ (u : Nat) (k : Int), q + 1 ≤ k ∧ k + u = M - 1 →
    JW G (d + 1) mX8_unite 280 [some (.ref 60), some (.int (jI q)), some (.int (jI w)), some (.int (jI k)), o4] [] (n, rf_f f th (rf_pd z (q + 1).toNat k.toNat) kp ed nt nl wi ht sy sz bf rs rr rq rp mm ln lo lf lt co ro pg pf hsh) bc bs (fun r9 h9 => r9 = .inl none ∧ h9 = (n, rf_f f th (va_up (rf_pd z (q + 1).toNat (z 0 - 1).toNat) 0 (rf_pd z (q + 1).toNat (z 0 - 1).toNat 0 - 1)) kp ed nt nl wi ht sy sz bf rs rr rq rp mm ln lo lf lt co ro pg pf hsh)) := by
  intro u
  induction u with
  | zero =>
    intro k hk
    have e0 : rf_pd z (q + 1).toNat k.toNat 0 = z 0 := by unfold rf_pd; rw [if_neg (by omega), if_neg (by omega), if_neg (by omega)]
    refine ji_iload_n dX8_unite_280 rfl ?_
    refine ji_aload_n dX8_unite_281 rfl trivial ?_
    refine ji_get (ci := 8) (k := 1) rfl dX8_unite_282 lX8_7 (by decide) (rf_60) rfl ?_
    refine ji_iconst dX8_unite_285 ?_
    refine ji_ialoadK (k := 0) dX8_unite_286 (rf_61) rfl (by decide) ?_
    rw [e0]
    refine ji_iconst dX8_unite_287 ?_
    refine ji_isub dX8_unite_288 ?_
    refine ji_icmp_ge (tgt := 306) dX8_unite_289 rfl (by omega) (by omega) (fun c289 => ?_) (fun c289 => absurd c289 (by omega))
    refine ji_aload_n dX8_unite_306 rfl trivial ?_
    refine ji_get (ci := 8) (k := 1) rfl dX8_unite_307 lX8_7 (by decide) (rf_60) rfl ?_
    refine ji_iconst dX8_unite_310 ?_
    refine ji_dup2 dX8_unite_311 rfl rfl ?_
    refine ji_ialoadK (k := 0) dX8_unite_312 (rf_61) rfl (by decide) ?_
    refine ji_iconst dX8_unite_313 ?_
    refine ji_isub dX8_unite_314 ?_
    refine ji_iastoreK (k := 0) dX8_unite_315 (rf_61) rfl (by decide) (rf_s61) ?_
    exact ji_return dX8_unite_316 rfl ⟨rfl, by rw [show k.toNat = (z 0 - 1).toNat by omega]⟩
  | succ u ih =>
    intro k hk
    have e0 : rf_pd z (q + 1).toNat k.toNat 0 = z 0 := by unfold rf_pd; rw [if_neg (by omega), if_neg (by omega), if_neg (by omega)]
    refine ji_iload_n dX8_unite_280 rfl ?_
    refine ji_aload_n dX8_unite_281 rfl trivial ?_
    refine ji_get (ci := 8) (k := 1) rfl dX8_unite_282 lX8_7 (by decide) (rf_60) rfl ?_
    refine ji_iconst dX8_unite_285 ?_
    refine ji_ialoadK (k := 0) dX8_unite_286 (rf_61) rfl (by decide) ?_
    rw [e0]
    refine ji_iconst dX8_unite_287 ?_
    refine ji_isub dX8_unite_288 ?_
    refine ji_icmp_ge (tgt := 306) dX8_unite_289 rfl (by omega) (by omega) (fun c289 => absurd c289 (by omega)) (fun c289 => ?_)
    refine ji_aload_n dX8_unite_292 rfl trivial ?_
    refine ji_iload_n dX8_unite_293 rfl ?_
    refine ji_iload_n dX8_unite_294 rfl ?_
    refine ji_iconst dX8_unite_295 ?_
    refine ji_iadd dX8_unite_296 ?_
    refine ji_cVv dX8_unite_297 (r_copyParagraph (by omega) (by omega) (by omega)) rfl (rf_60) rfl rfl wX8_copyParagraph vX8_copyParagraph lX8_315 rfl (Nat.le_of_ble_eq_true rfl) rfl ?_
    refine ji_iinc dX8_unite_300 (by decide) rfl rfl ?_
    refine ji_goto (tgt := 280) dX8_unite_303 rfl ?_
    exact ji_eqv (ih (k + 1) (by omega)) rfl rfl (by rw [show (k + 1).toNat = k.toNat + 1 by omega, ← rf_pd_s (show (q + 1).toNat ≤ k.toNat by omega) (by omega)])

set_option maxHeartbeats 4000000 in
set_option maxRecDepth 100000 in
theorem r_unite {q : Int} (hq : 0 ≤ q ∧ q + 1 < z 0) (h10 : z 0 ≤ 10) (hL : 0 ≤ z (85 + q).toNat ∧ 0 ≤ z (85 + q + 1).toNat ∧ z (85 + q).toNat + 1 + z (85 + q + 1).toNat ≤ 359) (hB : ∀ j, -10000 ≤ z j ∧ z j ≤ 10000) (h3 : 0 ≤ z 3 ∧ z 3 ≤ 5) (h14 : 0 ≤ z 14 ∧ z 14 ≤ 12) : JR G (d + 1) mX8_unite [.ref 60, .int (jI q)] (n, rf_f f th z kp ed nt nl wi ht sy sz bf rs rr rq rp mm ln lo lf lt co ro pg pf hsh) 0 0 none (n, rf_f f th (rf_UN z q) kp ed nt nl wi ht sy sz bf rs rr rq rp mm ln lo lf lt co ro pg pf hsh) := by
  obtain ⟨e1, e2, e3⟩ := rf_Ux hq h10 hL
  have y3 := e3 3 (by omega)
  have y4 : rf_U4 z q 14 = z 14 := (rf_pl_h (by omega) (by omega)).trans (e3 14 (by omega))
  have x3 : rf_U5 z q 3 = z 3 := (rf_mk_r (by omega)).trans ((rf_pl_h (by omega) (by omega)).trans y3)
  have x14 : rf_U5 z q 14 = z 14 := (rf_mk_r (by omega)).trans y4
  have x0 : rf_U5 z q 0 = z 0 := (rf_mk_r (by omega)).trans ((rf_pl_h (by omega) (by omega)).trans (e3 0 (by omega)))
  have v0 : rf_U6 z q 0 = z 0 := (rf_RN_l (by omega) (by omega) (by omega)).trans x0
  refine ji_ent (by decide) rfl (Nat.le_of_ble_eq_true rfl) rfl ?_
  refine ji_aload_n dX8_unite_0 rfl trivial ?_
  refine ji_get (ci := 8) (k := 1) rfl dX8_unite_1 lX8_7 (by decide) (rf_60) rfl ?_
  refine ji_bipush dX8_unite_4 rfl ?_
  refine ji_iload_n dX8_unite_6 rfl ?_
  refine ji_iadd dX8_unite_7 ?_
  refine ji_iaload dX8_unite_8 (rf_61) (by omega) ?_
  refine ji_istore_n dX8_unite_9 (by decide) rfl ?_
  refine ji_aload_n dX8_unite_10 rfl trivial ?_
  refine ji_get (ci := 8) (k := 1) rfl dX8_unite_11 lX8_7 (by decide) (rf_60) rfl ?_
  refine ji_bipush dX8_unite_14 rfl ?_
  refine ji_sipush dX8_unite_16 rfl ?_
  refine ji_iload_n dX8_unite_19 rfl ?_
  refine ji_imul dX8_unite_20 ?_
  refine ji_iadd dX8_unite_21 ?_
  refine ji_iload_n dX8_unite_22 rfl ?_
  refine ji_iadd dX8_unite_23 ?_
  refine ji_bipush dX8_unite_24 rfl ?_
  refine ji_iastoreE dX8_unite_26 (rf_61) (by omega) (rf_s61) ?_
  refine ji_iconst dX8_unite_27 ?_
  refine ji_istore_n dX8_unite_28 (by decide) rfl ?_
  refine ji_eqv (h2 := (n, rf_f f th (va_cpy (rf_U1 z q) (rf_U1 z q) (95 + 360 * (q + 1)).toNat (95 + 360 * q + z (85 + q).toNat + 1).toNat (0 : Int).toNat) kp ed nt nl wi ht sy sz bf rs rr rq rp mm ln lo lf lt co ro pg pf hsh)) (r_unite_t (z := rf_U1 z q) (w := z (85 + q).toNat) (L := rf_U1 z q (85 + q + 1).toNat) (by omega) (by omega) rfl (fun k => ?_) (z (85 + q + 1).toNat).toNat 0 (by omega)) rfl rfl (by rw [show (0 : Int).toNat = 0 from rfl, va_cpy_0]; rfl)
  refine ji_aload_n dX8_unite_86 rfl trivial ?_
  refine ji_get (ci := 8) (k := 1) rfl dX8_unite_87 lX8_7 (by decide) (rf_60) rfl ?_
  refine ji_bipush dX8_unite_90 rfl ?_
  refine ji_iload_n dX8_unite_92 rfl ?_
  refine ji_iadd dX8_unite_93 ?_
  refine ji_iload_n dX8_unite_94 rfl ?_
  refine ji_iconst dX8_unite_95 ?_
  refine ji_iadd dX8_unite_96 ?_
  refine ji_aload_n dX8_unite_97 rfl trivial ?_
  refine ji_get (ci := 8) (k := 1) rfl dX8_unite_98 lX8_7 (by decide) (rf_60) rfl ?_
  refine ji_bipush dX8_unite_101 rfl ?_
  refine ji_iload_n dX8_unite_103 rfl ?_
  refine ji_iadd dX8_unite_104 ?_
  refine ji_iconst dX8_unite_105 ?_
  refine ji_iadd dX8_unite_106 ?_
  refine ji_iaload dX8_unite_107 (rf_61) (by omega) ?_
  refine ji_iadd dX8_unite_108 ?_
  refine ji_iastoreE dX8_unite_109 (rf_61) (by omega) (rf_s61) ?_
  refine ji_iconst dX8_unite_110 ?_
  refine ji_istore_n dX8_unite_111 (by decide) rfl ?_
  refine ji_eqv (h2 := (n, rf_f f th (rf_pl id_a (un_b q (z (85 + q).toNat)) (rf_U3 z q) (0 : Int).toNat) kp ed nt nl wi ht sy sz bf rs rr rq rp mm ln lo lf lt co ro pg pf hsh)) (r_unite_p (z := rf_U3 z q) (w := z (85 + q).toNat) (by omega) (by omega) (fun j => by have := rf_U3_b hB hq h10 hL j; omega) (by omega) (fun k o => ?_) (rf_U3 z q 3 + 1).toNat 0 _ (by omega)) rfl rfl (by rw [show (0 : Int).toNat = 0 from rfl, rf_pl_0]; rfl)
  refine ji_iconst dX8_unite_177 ?_
  refine ji_istore_n dX8_unite_178 (by decide) rfl ?_
  refine ji_eqv (h2 := (n, rf_f f th (rf_mk id_0 (un_1 q (z (85 + q).toNat)) (un_2 q (z (85 + q).toNat)) id_4 (rf_U4 z q) (0 : Int).toNat) kp ed nt nl wi ht sy sz bf rs rr rq rp mm ln lo lf lt co ro pg pf hsh)) (r_unite_m (z := rf_U4 z q) (w := z (85 + q).toNat) (by omega) (by omega) (fun j => by have := rf_U4_b hB hq h10 hL j; omega) (by omega) (fun k o4 => ?_) (rf_U4 z q 14).toNat 0 _ (by omega)) rfl rfl (by rw [show (0 : Int).toNat = 0 from rfl, rf_mk_0]; rfl)
  refine ji_eqv (h2 := (n, rf_f f th (rf_U5 z q) kp ed nt nl wi ht sy sz bf rs rr rq rp mm ln lo lf lt co ro pg pf hsh)) ?_ rfl rfl rfl
  refine ji_aload_n dX8_unite_268 rfl trivial ?_
  refine ji_iload_n dX8_unite_269 rfl ?_
  refine ji_iconst dX8_unite_270 ?_
  refine ji_iadd dX8_unite_271 ?_
  refine ji_iconst dX8_unite_272 ?_
  refine ji_cVv dX8_unite_273 (r_renumber (by omega) (by omega) (fun j => by have := rf_U5_b hB hq h10 hL j; omega) (by omega) (by omega)) rfl (rf_60) rfl rfl wX8_renumber vX8_renumber lX8_312 rfl (Nat.le_of_ble_eq_true rfl) rfl ?_
  refine ji_iload_n dX8_unite_276 rfl ?_
  refine ji_iconst dX8_unite_277 ?_
  refine ji_iadd dX8_unite_278 ?_
  refine ji_istore_n dX8_unite_279 (by decide) rfl ?_
  exact ji_eqv (h2 := (n, rf_f f th (rf_pd (rf_U6 z q) (q + 1).toNat (q + 1).toNat) kp ed nt nl wi ht sy sz bf rs rr rq rp mm ln lo lf lt co ro pg pf hsh)) (r_unite_c (z := rf_U6 z q) (M := (z 0).toNat) (by omega) (by omega) (by omega) (z 0 - 1 - (q + 1)).toNat (q + 1) (by omega)) rfl rfl (by rw [rf_pd_0]; rfl)

set_option maxHeartbeats 4000000 in
set_option maxRecDepth 100000 in
theorem r_join1 (hrf : rf_ok wi ht z nl nt sy) {q : Int} (b_q : -2147483648 ≤ q ∧ q < 2147483648) (hx : q < 0 ∨ z 0 ≤ q + 1) : JR G (d + 3) mX8_join [.ref 60, .int (jI q)] (n, rf_f f th z kp ed nt nl wi ht sy sz bf rs rr rq rp mm ln lo lf lt co ro pg pf hsh) 0 0 (some (.int (jI 0))) (n, rf_f f 1 z kp ed nt nl wi ht sy sz bf rs rr rq rp mm ln lo lf lt co ro pg pf hsh) := by
  obtain ⟨hz, hn, hk, hrc, ⟨hw9, hh9⟩, ⟨hm9, hj9⟩, hll⟩ := id hrf
  have zb := hz.2.1
  have wq := rf_in_d q 0 (z 0 - 2)
  have ww1 : 0 ≤ q → q < z 0 → 1 ≤ rf_WO z nt q ∧ rf_WO z nt q ≤ 360 := fun a b => rf_WO_b hz nt (by omega)
  have ww2 : 0 ≤ q → q + 1 < z 0 → 1 ≤ rf_WO z nt (q + 1) ∧ rf_WO z nt (q + 1) ≤ 360 := fun a b => rf_WO_b hz nt (by omega)
  refine ji_ent (by decide) rfl (Nat.le_of_ble_eq_true rfl) rfl ?_
  refine ji_iload_n dX8_join_0 rfl ?_
  refine ji_iconst dX8_join_1 ?_
  refine ji_aload_n dX8_join_2 rfl trivial ?_
  refine ji_get (ci := 8) (k := 1) rfl dX8_join_3 lX8_7 (by decide) (rf_60) rfl ?_
  refine ji_iconst dX8_join_6 ?_
  refine ji_ialoadK (k := 0) dX8_join_7 (rf_61) rfl (by decide) ?_
  refine ji_iconst dX8_join_8 ?_
  refine ji_isub dX8_join_9 ?_
  refine ji_cS dX8_join_10 (r_within (by omega) (by omega) (by omega)) rfl wX8_within sX8_within lX8_50 rfl (Nat.le_of_ble_eq_true rfl) rfl ?_
  refine ji_istore_n dX8_join_13 (by decide) rfl ?_
  refine ji_aload_n dX8_join_14 rfl trivial ?_
  refine ji_iload_n dX8_join_15 rfl ?_
  refine ji_if_ne (tgt := 23) dX8_join_16 rfl (by omega) (fun c16 => ?_) (fun c16 => ?_)
  · try (exfalso; omega)
    all_goals
      exfalso; omega
  · try (exfalso; omega)
    all_goals
      refine ji_iconst dX8_join_19 ?_
      refine ji_goto (tgt := 46) dX8_join_20 rfl ?_
      refine ji_putE (ci := 8) (k := 0) rfl dX8_join_46 lX8_47 (by decide) (rf_60) (by simp [rf_c]) (ji_fitI _) rfl (rf_pth) ?_
      refine ji_aload_n dX8_join_49 rfl trivial ?_
      refine ji_get (ci := 8) (k := 0) rfl dX8_join_50 lX8_47 (by decide) (rf_60) rfl ?_
      refine ji_if_le (tgt := 58) dX8_join_53 rfl (by omega) (fun c53 => absurd c53 (by omega)) (fun c53 => ?_)
      refine ji_iconst dX8_join_56 ?_
      exact ji_ireturn dX8_join_57 rfl (rfl) ⟨jr_i (by first | rfl | omega), rfl⟩

set_option maxHeartbeats 4000000 in
set_option maxRecDepth 100000 in
theorem r_join2 (hrf : rf_ok wi ht z nl nt sy) {q : Int} (hx : 0 ≤ q ∧ q + 1 < z 0) (hy : 24 < rf_WO z nt q + rf_WO z nt (q + 1)) : JR G (d + 3) mX8_join [.ref 60, .int (jI q)] (n, rf_f f th z kp ed nt nl wi ht sy sz bf rs rr rq rp mm ln lo lf lt co ro pg pf hsh) 0 0 (some (.int (jI 0))) (n, rf_f f 2 z kp ed nt nl wi ht sy sz bf rs rr rq rp mm ln lo lf lt co ro pg pf hsh) := by
  obtain ⟨hz, hn, hk, hrc, ⟨hw9, hh9⟩, ⟨hm9, hj9⟩, hll⟩ := id hrf
  have zb := hz.2.1
  have wq := rf_in_d q 0 (z 0 - 2)
  have ww1 : 0 ≤ q → q < z 0 → 1 ≤ rf_WO z nt q ∧ rf_WO z nt q ≤ 360 := fun a b => rf_WO_b hz nt (by omega)
  have ww2 : 0 ≤ q → q + 1 < z 0 → 1 ≤ rf_WO z nt (q + 1) ∧ rf_WO z nt (q + 1) ≤ 360 := fun a b => rf_WO_b hz nt (by omega)
  refine ji_ent (by decide) rfl (Nat.le_of_ble_eq_true rfl) rfl ?_
  refine ji_iload_n dX8_join_0 rfl ?_
  refine ji_iconst dX8_join_1 ?_
  refine ji_aload_n dX8_join_2 rfl trivial ?_
  refine ji_get (ci := 8) (k := 1) rfl dX8_join_3 lX8_7 (by decide) (rf_60) rfl ?_
  refine ji_iconst dX8_join_6 ?_
  refine ji_ialoadK (k := 0) dX8_join_7 (rf_61) rfl (by decide) ?_
  refine ji_iconst dX8_join_8 ?_
  refine ji_isub dX8_join_9 ?_
  refine ji_cS dX8_join_10 (r_within (by omega) (by omega) (by omega)) rfl wX8_within sX8_within lX8_50 rfl (Nat.le_of_ble_eq_true rfl) rfl ?_
  refine ji_istore_n dX8_join_13 (by decide) rfl ?_
  refine ji_aload_n dX8_join_14 rfl trivial ?_
  refine ji_iload_n dX8_join_15 rfl ?_
  refine ji_if_ne (tgt := 23) dX8_join_16 rfl (by omega) (fun c16 => ?_) (fun c16 => absurd c16 (by omega))
  refine ji_aload_n dX8_join_23 rfl trivial ?_
  refine ji_iload_n dX8_join_24 rfl ?_
  refine ji_cV dX8_join_25 (r_wordsOf hz hn (by omega)) rfl (rf_60) rfl rfl wX8_wordsOf vX8_wordsOf lX8_260 rfl (Nat.le_of_ble_eq_true rfl) rfl ?_
  refine ji_aload_n dX8_join_28 rfl trivial ?_
  refine ji_iload_n dX8_join_29 rfl ?_
  refine ji_iconst dX8_join_30 ?_
  refine ji_iadd dX8_join_31 ?_
  refine ji_cV dX8_join_32 (r_wordsOf hz hn (by omega)) rfl (rf_60) rfl rfl wX8_wordsOf vX8_wordsOf lX8_260 rfl (Nat.le_of_ble_eq_true rfl) rfl ?_
  refine ji_iadd dX8_join_35 ?_
  refine ji_bipush dX8_join_36 rfl ?_
  refine ji_icmp_gt (tgt := 45) dX8_join_38 rfl (by omega) (by omega) (fun c38 => ?_) (fun c38 => absurd c38 (by omega))
  refine ji_iconst dX8_join_45 ?_
  refine ji_putE (ci := 8) (k := 0) rfl dX8_join_46 lX8_47 (by decide) (rf_60) (by simp [rf_c]) (ji_fitI _) rfl (rf_pth) ?_
  refine ji_aload_n dX8_join_49 rfl trivial ?_
  refine ji_get (ci := 8) (k := 0) rfl dX8_join_50 lX8_47 (by decide) (rf_60) rfl ?_
  refine ji_if_le (tgt := 58) dX8_join_53 rfl (by omega) (fun c53 => absurd c53 (by omega)) (fun c53 => ?_)
  refine ji_iconst dX8_join_56 ?_
  exact ji_ireturn dX8_join_57 rfl (rfl) ⟨jr_i (by first | rfl | omega), rfl⟩

set_option maxHeartbeats 4000000 in
set_option maxRecDepth 100000 in
theorem r_join (hrf : rf_ok wi ht z nl nt sy) {q : Int} (hx : 0 ≤ q ∧ q + 1 < z 0) (hy : rf_WO z nt q + rf_WO z nt (q + 1) ≤ 24) (hL : 0 ≤ z (85 + q).toNat ∧ 0 ≤ z (85 + q + 1).toNat ∧ z (85 + q).toNat + 1 + z (85 + q + 1).toNat ≤ 359) (he : 0 ≤ ed ∧ ed ≤ 4) {z9 : Nat → Int} (ez : rf_UN z q = z9) (hz2 : rz_ok z9) : JR G (d + 3) mX8_join [.ref 60, .int (jI q)] (n, rf_f f th z kp ed nt nl wi ht sy sz bf rs rr rq rp mm ln lo lf lt co ro pg pf hsh) 0 0 (some (.int (jI (rf_WO z9 nt q)))) (n, rf_f f 0 z9 (rf_KP z kp ed) (rf_KE ed) nt nl wi ht sy sz bf rs rr rq rp mm ln lo lf lt co ro pg pf hsh) := by
  obtain ⟨hz, hn, hk, hrc, ⟨hw9, hh9⟩, ⟨hm9, hj9⟩, hll⟩ := id hrf
  have zb := hz.2.1
  have wq := rf_in_d q 0 (z 0 - 2)
  have ww1 : 0 ≤ q → q < z 0 → 1 ≤ rf_WO z nt q ∧ rf_WO z nt q ≤ 360 := fun a b => rf_WO_b hz nt (by omega)
  have ww2 : 0 ≤ q → q + 1 < z 0 → 1 ≤ rf_WO z nt (q + 1) ∧ rf_WO z nt (q + 1) ≤ 360 := fun a b => rf_WO_b hz nt (by omega)
  have hB := hz.1
  have h3 := hj9
  have h14 := hm9
  refine ji_ent (by decide) rfl (Nat.le_of_ble_eq_true rfl) rfl ?_
  refine ji_iload_n dX8_join_0 rfl ?_
  refine ji_iconst dX8_join_1 ?_
  refine ji_aload_n dX8_join_2 rfl trivial ?_
  refine ji_get (ci := 8) (k := 1) rfl dX8_join_3 lX8_7 (by decide) (rf_60) rfl ?_
  refine ji_iconst dX8_join_6 ?_
  refine ji_ialoadK (k := 0) dX8_join_7 (rf_61) rfl (by decide) ?_
  refine ji_iconst dX8_join_8 ?_
  refine ji_isub dX8_join_9 ?_
  refine ji_cS dX8_join_10 (r_within (by omega) (by omega) (by omega)) rfl wX8_within sX8_within lX8_50 rfl (Nat.le_of_ble_eq_true rfl) rfl ?_
  refine ji_istore_n dX8_join_13 (by decide) rfl ?_
  refine ji_aload_n dX8_join_14 rfl trivial ?_
  refine ji_iload_n dX8_join_15 rfl ?_
  refine ji_if_ne (tgt := 23) dX8_join_16 rfl (by omega) (fun c16 => ?_) (fun c16 => absurd c16 (by omega))
  refine ji_aload_n dX8_join_23 rfl trivial ?_
  refine ji_iload_n dX8_join_24 rfl ?_
  refine ji_cV dX8_join_25 (r_wordsOf hz hn (by omega)) rfl (rf_60) rfl rfl wX8_wordsOf vX8_wordsOf lX8_260 rfl (Nat.le_of_ble_eq_true rfl) rfl ?_
  refine ji_aload_n dX8_join_28 rfl trivial ?_
  refine ji_iload_n dX8_join_29 rfl ?_
  refine ji_iconst dX8_join_30 ?_
  refine ji_iadd dX8_join_31 ?_
  refine ji_cV dX8_join_32 (r_wordsOf hz hn (by omega)) rfl (rf_60) rfl rfl wX8_wordsOf vX8_wordsOf lX8_260 rfl (Nat.le_of_ble_eq_true rfl) rfl ?_
  refine ji_iadd dX8_join_35 ?_
  refine ji_bipush dX8_join_36 rfl ?_
  refine ji_icmp_gt (tgt := 45) dX8_join_38 rfl (by omega) (by omega) (fun c38 => absurd c38 (by omega)) (fun c38 => ?_)
  refine ji_iconst dX8_join_41 ?_
  refine ji_goto (tgt := 46) dX8_join_42 rfl ?_
  refine ji_putE (ci := 8) (k := 0) rfl dX8_join_46 lX8_47 (by decide) (rf_60) (by simp [rf_c]) (ji_fitI _) rfl (rf_pth) ?_
  refine ji_aload_n dX8_join_49 rfl trivial ?_
  refine ji_get (ci := 8) (k := 0) rfl dX8_join_50 lX8_47 (by decide) (rf_60) rfl ?_
  refine ji_if_le (tgt := 58) dX8_join_53 rfl (by omega) (fun c53 => ?_) (fun c53 => absurd c53 (by omega))
  refine ji_aload_n dX8_join_58 rfl trivial ?_
  refine ji_cVv dX8_join_59 (r_keep (by omega)) rfl (rf_60) rfl rfl wX8_keep vX8_keep lX8_300 rfl (Nat.le_of_ble_eq_true rfl) rfl ?_
  refine ji_aload_n dX8_join_62 rfl trivial ?_
  refine ji_iload_n dX8_join_63 rfl ?_
  refine ji_cVv dX8_join_64 (r_unite (by omega) (by omega) hL hB h3 h14) rfl (rf_60) rfl rfl wX8_unite vX8_unite lX8_324 rfl (Nat.le_of_ble_eq_true rfl) rfl ?_
  rw [ez]
  refine ji_aload_n dX8_join_67 rfl trivial ?_
  refine ji_iload_n dX8_join_68 rfl ?_
  refine ji_cV dX8_join_69 (r_wordsOf hz2 hn (by omega)) rfl (rf_60) rfl rfl wX8_wordsOf vX8_wordsOf lX8_260 rfl (Nat.le_of_ble_eq_true rfl) rfl ?_
  exact ji_ireturn dX8_join_72 rfl (rfl) ⟨jr_i (by first | rfl | omega), rfl⟩

end RF
