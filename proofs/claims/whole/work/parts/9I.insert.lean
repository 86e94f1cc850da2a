/-! ===== pure: words put in behind the last word ===== -/
theorem ins_b {B : bk_T} {z bf : Nat → Int} {I : in_T} {p L : Nat} {M : mk_T} (h : RB B z) (hX : BX B) (hm : MR (bk_P B) z M) (h0 : 0 ≤ I.1 ∧ I.1 ≤ 100) (hw : in_whole I.1 I.2.1 0 = 1) (hg : ∀ k, 0 ≤ I.2.1 k ∧ I.2.1 k < 128) (hf : ∀ k : Nat, (k : Int) < I.1 → I.2.1 k = bf k) (hp : p < bk_P B) (hL : z (85 + p) = L) (hbd : bd (xt (bk_tx B) (bk_m B)) (rS z p + (L + 1))) (h24 : bk_fr B (p + 1) - bk_fr B p + (in_tm I.2.1 32 I.1.toNat + 1) ≤ 24) (h360 : z (85 + p) + I.1 + 1 ≤ 360) : RX (bk_spl B p (rS z p + L) (rS z p + L) (in_pd (in_W I 0) 1 0) (1 + I.1 + 0).toNat) (IN z bf p L I.1.toNat 1 0) := by
  have hRX := rx_rb h hX.1
  have hP := h.2.2.1.1
  have hz := h.2.2.2.2.1 p hp
  have hr := rb_b h hp
  obtain ⟨t1, t2, t3⟩ := text_ok h0 hw
  have hc : (1 + I.1 + 0).toNat = I.1.toNat + 1 := by omega
  have hpd : ∀ j, j < I.1.toNat + 1 → in_pd (in_W I 0) 1 0 j = if j = 0 then 32 else I.2.1 (j - 1) := fun j hj => by
    rw [pd_v h0.1 (Or.inr ⟨rfl, rfl⟩) (by omega)]
    by_cases c : j = 0
    · rw [if_pos c, if_neg (by omega)]
    · rw [if_neg c, if_pos (by omega)]; exact congrArg _ (by omega)
  have hpb : ∀ j, 0 ≤ in_pd (in_W I 0) 1 0 j ∧ in_pd (in_W I 0) 1 0 j < 128 := fun j => by
    show 0 ≤ (if (j : Int) < 1 + I.1 + 0 then in_sign I.1 I.2.1 ((j : Int) - 1) else 0) ∧ (if (j : Int) < 1 + I.1 + 0 then in_sign I.1 I.2.1 ((j : Int) - 1) else 0) < 128
    have := in_sign_b (len := I.1) (g := I.2.1) ⟨h0, hg⟩ ((j : Int) - 1)
    split <;> omega
  have h8 := hRX.2.2.2.2.2.2.2.1 p hp
  rw [hL, Int.toNat_natCast] at h8
  have hsp := sp_ins (tx := bk_tx B) (m := bk_m B) (x := rS z p + L) (c := I.1.toNat + 1) (co := xt I.2.1 I.1.toNat) (co' := in_pd (in_W I 0) 1 0) (by omega) h8 (by rw [hpd 0 (by omega), if_pos rfl]) (fun j hj => by rw [hpd (j + 1) hj, if_neg (by omega), xt_i (by omega)]; rfl) (xt_o (by omega)) (by omega)
  have hex := ex_tx t1
  obtain ⟨v1, v2, v3, v4, v5, v6⟩ := IN_v (bf := bf) (s := I.1.toNat) (u := 1) (v := 0) hm.2.1.2 hm.2.2.2.1.2 hL (by omega) (x := L) (by omega) (by omega) (Or.inr ⟨rfl, rfl⟩)
  obtain ⟨c1, c2, c3⟩ := ct_sp hsp
  have hn := c3 (bk_m B + 1 - (rS z p + L + 1)) (by omega)
  rw [show rS z p + L + 1 + (I.1.toNat + 1) + (bk_m B + 1 - (rS z p + L + 1)) = bk_m B - (rS z p + L - (rS z p + L)) + (I.1.toNat + 1) + 1 by omega, xt_n, show rS z p + L + 1 + (bk_m B + 1 - (rS z p + L + 1)) = bk_m B + 1 by omega, xt_n, xt_n] at hn
  have hbn := h.1.1
  rw [hc]
  refine rx_spl (x := L + 1) (y := L + 1) hRX hX hp (Nat.le_refl _) (by omega) (by omega) (Nat.le_refl _) (by omega) hbd hbd (Or.inr hex) hpb hsp (by omega) (by omega) v2 (fun j hj => v3 _ (by omega) (by omega)) (fun j hj hn => by rw [v4 _ (by omega) (by omega), if_neg (by omega)]) (by rw [v4 _ (by omega) (by omega), if_pos rfl]; omega) (fun j hj hn k hk => v5 j k (by omega) hn (by have := h.2.2.2.2.1 j hj; omega)) (fun k hk => ?_)
  rw [v4 _ (by omega) (by omega), if_pos rfl] at hk
  rw [v6 k (by omega)]
  obtain ⟨s1, s2, s3⟩ := hsp
  have hch := hRX.2.2.2.2.2.2.1 p hp
  by_cases k1 : k < L
  · rw [if_pos k1, s1 _ (by omega)]; exact (hch k (by omega)).symm
  · rw [if_neg k1]
    by_cases k2 : k = L + 0
    · rw [if_pos k2, show rS z p + k = rS z p + L by omega, s1 _ (by omega)]; exact h8.symm
    · rw [if_neg k2, if_pos (by omega), show rS z p + k = rS z p + L + 1 + (k - L - 1) by omega, s2 _ (by omega), xt_i (by omega), hf _ (by omega)]
