/-! ===== both sides: digest, fullness ===== -/
section PAIRS
variable {G : ji_G} {n : Nat} {f g : Nat → ji_C} {I I' : in_T} {P P' : pg_T} {M M' : mk_T} {H H' : hi_T} {Y Z Y' Z' : ly_T} {B B' : bk_T} {NT NT' : nt_T} {SB SB' : Nat → bk_T}
variable {th ed wi ht sz rs rr rq rp mm ln co ro pg : Int} {z kp nt nl sy bf lo lf lt pf : Nat → Int} {hsh : Int64} {b b' : Int}
variable {rs' rr' rq' rp' mm' ln' co' ro' pg' : Int} {z' kp' nt' nl' bf' lo' lf' lt' pf' : Nat → Int} {hsh' : Int64}
/-- a call of both that tells one value -/
def PV (G : ji_G) (mC mR : ji_M) (v : Value) (b : Int) (n : Nat) (h : Nat → ji_C) : Prop :=
  JM G 12 mC [.ref 0] (n, h) 0 0 (fun r h9 => r = .inl (some v) ∧ (∃ fs, h9.2 60 = .inl (8, fs))
    ∧ JM G 12 mR [.ref 60] h9 0 0 (fun r2 h10 => r2 = .inl (some v) ∧ h10.2 71 = h 71 ∧ ST 0 b h10.1 h10.2))
theorem pv_1 {mC mR : ji_M} {v : Value}
    (hc : JR G 12 mC [.ref 0] (n, cl_f (rf_f f th z kp ed nt nl wi ht sy sz bf rs rr rq rp mm ln lo lf lt co ro pg pf hsh) I P M H Y Z) 0 0 (some v) (n, cl_f (rf_f f th z kp ed nt nl wi ht sy sz bf rs rr rq rp mm ln lo lf lt co ro pg pf hsh) I' P' M' H' Y' Z'))
    (hr : ∀ f', JR G 12 mR [.ref 60] (n, rf_f f' th z kp ed nt nl wi ht sy sz bf rs rr rq rp mm ln lo lf lt co ro pg pf hsh) 0 0 (some v) (n, rf_f f' 0 z' kp' H'.1 nt' nl' P'.2.2.1 P'.2.2.2.1 P'.2.1 I'.1 bf' rs' rr' rq' rp' mm' ln' lo' lf' lt' co' ro' pg' pf' hsh'))
    (hL : LK b n f I' P' M' H' Y' Z' B' NT' SB' z' kp' nt' nl' bf') : PV G mC mR v b n (cl_f (rf_f f th z kp ed nt nl wi ht sy sz bf rs rr rq rp mm ln lo lf lt co ro pg pf hsh) I P M H Y Z) := by
  refine hc.mono fun r h9 hq => ?_
  obtain ⟨e1, e2⟩ := hq
  subst e2
  have a1 : cl_f (rf_f f th z kp ed nt nl wi ht sy sz bf rs rr rq rp mm ln lo lf lt co ro pg pf hsh) I' P' M' H' Y' Z' 60 = rf_f f th z kp ed nt nl wi ht sy sz bf rs rr rq rp mm ln lo lf lt co ro pg pf hsh 60 := cl_a60 (by omega)
  refine ⟨e1, ⟨_, a1.trans rfl⟩, ?_⟩
  show JM G 12 mR [.ref 60] (n, cl_f (rf_f f th z kp ed nt nl wi ht sy sz bf rs rr rq rp mm ln lo lf lt co ro pg pf hsh) I' P' M' H' Y' Z') 0 0 _
  rw [crf]
  refine (hr (cl_f f I' P' M' H' Y' Z')).mono fun r2 h10 hq => ?_
  obtain ⟨e3, e4⟩ := hq
  subst e4
  refine ⟨e3, ?_, ⟨f, I', P', M', H', Y', Z', B', NT', SB', z', kp', nt', nl', bf', rs', rr', rq', rp', mm', ln', lo', lf', lt', co', ro', pg', pf', hsh', crf.symm, hL⟩⟩
  have a2 : rf_f (cl_f f I' P' M' H' Y' Z') 0 z' kp' H'.1 nt' nl' P'.2.2.1 P'.2.2.2.1 P'.2.1 I'.1 bf' rs' rr' rq' rp' mm' ln' lo' lf' lt' co' ro' pg' pf' hsh' 71 = cl_f f I' P' M' H' Y' Z' 71 := rf_o (by omega)
  have a3 : cl_f f I' P' M' H' Y' Z' 71 = f 71 := cl_a60 (by omega)
  have a4 : cl_f (rf_f f th z kp ed nt nl wi ht sy sz bf rs rr rq rp mm ln lo lf lt co ro pg pf hsh) I P M H Y Z 71 = rf_f f th z kp ed nt nl wi ht sy sz bf rs rr rq rp mm ln lo lf lt co ro pg pf hsh 71 := cl_a60 (by omega)
  have a5 : rf_f f th z kp ed nt nl wi ht sy sz bf rs rr rq rp mm ln lo lf lt co ro pg pf hsh 71 = f 71 := rf_o (by omega)
  exact (a2.trans a3).trans (a4.trans a5).symm
theorem jr_v {d : Nat} {m : ji_M} {as : List Value} {h0 h2 : ji_H} {bc bs : Nat} {x y : Value} (h : JR G d m as h0 bc bs (some y) h2) (e : x = y) : JR G d m as h0 bc bs (some x) h2 := e ▸ h
theorem p_digest (hL : LK b n f I P M H Y Z B NT SB z kp nt nl bf) (hb : b ≤ b' ∧ b' ≤ 800000) : ∃ x : Int64, PV G mX7_digest mX8_digest (.long x) b' n (cl_f (rf_f f th z kp H.1 nt nl P.2.2.1 P.2.2.2.1 P.2.1 I.1 bf rs rr rq rp mm ln lo lf lt co ro pg pf hsh) I P M H Y Z) := by
  have hL' := (hL.w hb).ref
  obtain ⟨l9, p9, e1, e2, e3, hY, y1, y2⟩ := hL.lay lo lf lt pf
  obtain ⟨h1, h2, h3, h4⟩ := hL.rd
  refine ⟨_, pv_1 (k_digest hL.ok h1) (fun f' => jr_v (r_digest hL.rf hL.1.2.1.1 h2 h3 h4) ?_) hL'⟩
  have this := dg_eq hL.2.1.1 hL.2.1.2.2.2 hY (P := cl_RP P) rfl y1 I hL.1.2.1.1.1 hL.2.2.2.2.1 H.1
  rw [← e1, ← e3] at this
  exact congrArg Value.long this
theorem nn_b {x : UInt64} (h : Jvm.FP.Core.dIsNaN x = false) : vf_n64 x := by
  have h1 : ¬ 9218868437227405312 < x.toNat % 2 ^ 63 := fun q => by rw [(Jvm.FP.Core.isNaN_bits x).mpr q] at h; cases h
  have e1 : (0x7fffffffffffffff : UInt64).toNat = 2 ^ 63 - 1 := by decide
  have e2 : (0x7ff0000000000000 : UInt64).toNat = 9218868437227405312 := by decide
  unfold vf_n64
  rw [UInt64.le_iff_toNat_le, UInt64.toNat_and, e1, e2, Nat.and_two_pow_sub_one_eq_mod]
  omega
theorem n64 {a c : Int} (hc : 1 ≤ c ∧ c ≤ 1000000) : Jvm.FP.Core.dIsNaN (FP.ddiv (FP.i2d (jI a)) (FP.i2d (jI c))) = false := by
  have h0 : jI c ≠ 0 := fun q => by
    rw [jI_zero] at q
    have := (jI_inj (by omega) (by omega)).mp q
    omega
  refine Jvm.FP.Core.ddiv_out ?_ (Jvm.FP.Core.i2d_fin _) fun q => ?_
  · obtain ⟨s, c, q, e⟩ := Jvm.FP.Core.i2d_fin (jI a)
    exact (Jvm.FP.Core.notNaN_iff _).mpr (by rw [e]; intro w; cases w)
  · exact Jvm.FP.Core.i2d_ne_zero h0 ((Jvm.FP.Core.zero_bits2 _).mp q)
theorem p_fullness (hL : LK b n f I P M H Y Z B NT SB z kp nt nl bf) (hb : b ≤ b' ∧ b' ≤ 800000) : ∃ x : UInt64, Jvm.FP.Core.dIsNaN x = false ∧ PV G mX7_fullness mX8_fullness (.double x) b' n (cl_f (rf_f f th z kp H.1 nt nl P.2.2.1 P.2.2.2.1 P.2.1 I.1 bf rs rr rq rp mm ln lo lf lt co ro pg pf hsh) I P M H Y Z) := by
  have hL' := (hL.w hb).ref
  obtain ⟨l9, p9, e1, e2, e3, hY, y1, y2⟩ := hL.lay lo lf lt pf
  have ep : (cl_RY P Y B NT).2.2.2.2.1 = p9 := hY.2.1
  have h5 := hL.1.2.2.2.2.1
  have hp1 : 1 ≤ p9 := hY.2.2.2.2.1
  have hp2 : p9 ≤ 240 := by have := hY.2.2.2.1.1.2; omega
  have hup : ((p9 : Int) - 1) * P.2.2.2.1 ≤ 239 * 20 := Int.mul_le_mul (by omega) (by omega) (by omega) (by omega)
  refine ⟨cl_fd (cl_RP P) (cl_RY P Y B NT), ?_, pv_1 (k_fullness hL.ok (fun q => ?_)) (fun f' => jr_v (r_fullness hL.rf (fun q => ?_)) ?_) hL'⟩
  · unfold cl_fd
    rw [ep]
    split
    · next q =>
      have q' : 0 < ((p9 : Int) - 1) * P.2.2.2.1 := q
      exact n64 (show 1 ≤ ((p9 : Int) - 1) * P.2.2.2.1 ∧ ((p9 : Int) - 1) * P.2.2.2.1 ≤ 1000000 by omega)
    · exact Bool.eq_false_iff.mpr fun q => absurd ((Jvm.FP.Core.isNaN_bits _).mp q) (by decide)
  · rw [ep] at q ⊢
    have q' : 0 < ((p9 : Int) - 1) * P.2.2.2.1 := q
    exact nn_b (n64 (show 1 ≤ ((p9 : Int) - 1) * P.2.2.2.1 ∧ ((p9 : Int) - 1) * P.2.2.2.1 ≤ 1000000 by omega))
  · rw [e3] at q ⊢
    have q' : 0 < ((p9 : Int) - 1) * P.2.2.2.1 := Int.mul_pos (by omega) (by omega)
    exact nn_b (n64 (by omega))
  · have this := fd_eq hY (P := cl_RP P) rfl (show 2 ≤ P.2.2.2.1 by omega)
    rw [y1] at this
    rw [← e3] at this
    exact congrArg Value.double this
end PAIRS
