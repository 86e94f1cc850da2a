/-! ===== pure: words put in before a word ===== -/
theorem ins_f {B : bk_T} {z bf : Nat → Int} {I : in_T} {p x : Nat} {M : mk_T} (h : RB B z) (hX : BX B) (hm : MR (bk_P B) z M) (h0 : 0 ≤ I.1 ∧ I.1 ≤ 100) (hw : in_whole I.1 I.2.1 0 = 1) (hg : ∀ k, 0 ≤ I.2.1 k ∧ I.2.1 k < 128) (hf : ∀ k : Nat, (k : Int) < I.1 → I.2.1 k = bf k) (hp : p < bk_P B) (hx : (x : Int) < z (85 + p)) (hbd : bd (xt (bk_tx B) (bk_m B)) (rS z p + x)) (h24 : bk_fr B (p + 1) - bk_fr B p + (in_tm I.2.1 32 I.1.toNat + 1) ≤ 24) (h360 : z (85 + p) + I.1 + 1 ≤ 360) : RX (bk_spl B p (rS z p + x) (rS z p + x) (in_pd (in_W I 0) 0 1) (0 + I.1 + 1).toNat) (IN z bf p x I.1.toNat 0 I.1.toNat) := by
  have hRX := rx_rb h hX.1
  have hP := h.2.2.1.1
  have hz := h.2.2.2.2.1 p hp
  have hr := rb_b h hp
  obtain ⟨t1, t2, t3⟩ := text_ok h0 hw
  obtain ⟨L, hL⟩ : ∃ L : Nat, z (85 + p) = L := ⟨(z (85 + p)).toNat, by omega⟩
  have hc : (0 + I.1 + 1).toNat = I.1.toNat + 1 := by omega
  have hpd : ∀ j, j < I.1.toNat + 1 → in_pd (in_W I 0) 0 1 j = xt I.2.1 I.1.toNat j := fun j hj => by
    rw [pd_v h0.1 (Or.inl ⟨rfl, rfl⟩) (by omega)]
    by_cases c : j < I.1.toNat
    · rw [if_pos (by omega), xt_i c]; exact congrArg _ (by omega)
    · rw [if_neg (by omega), xt_o (by omega)]
  have hpb : ∀ j, 0 ≤ in_pd (in_W I 0) 0 1 j ∧ in_pd (in_W I 0) 0 1 j < 128 := fun j => by
    show 0 ≤ (if (j : Int) < 0 + I.1 + 1 then in_sign I.1 I.2.1 ((j : Int) - 0) else 0) ∧ (if (j : Int) < 0 + I.1 + 1 then in_sign I.1 I.2.1 ((j : Int) - 0) else 0) < 128
    have := in_sign_b (len := I.1) (g := I.2.1) ⟨h0, hg⟩ ((j : Int) - 0)
    split <;> omega
  have hsp := sp_spl (tx := bk_tx B) (m := bk_m B) (a := rS z p + x) (b := rS z p + x) (c := I.1.toNat + 1) (co := xt I.2.1 I.1.toNat) (co' := in_pd (in_W I 0) 0 1) (Nat.le_refl _) (by omega) hpd
  have hex := ex_tx t1
  obtain ⟨v1, v2, v3, v4, v5, v6⟩ := IN_v (bf := bf) (s := I.1.toNat) (u := 0) (v := I.1.toNat) hm.2.1.2 hm.2.2.2.1.2 hL (by omega) (x := x) (by omega) (by omega) (Or.inl ⟨rfl, rfl⟩)
  obtain ⟨c1, c2, c3⟩ := ct_sp hsp
  have hn := c3 (bk_m B + 1 - (rS z p + x)) (by omega)
  rw [show rS z p + x + (I.1.toNat + 1) + (bk_m B + 1 - (rS z p + x)) = bk_m B - (rS z p + x - (rS z p + x)) + (I.1.toNat + 1) + 1 by omega, xt_n, show rS z p + x + (bk_m B + 1 - (rS z p + x)) = bk_m B + 1 by omega, xt_n, xt_n] at hn
  have hbn := h.1.1
  rw [hc]
  refine rx_spl (x := x) (y := x) hRX hX hp (Nat.le_refl _) (by omega) (by omega) (Nat.le_refl _) (by omega) hbd hbd (Or.inr hex) hpb hsp (by omega) (by omega) v2 (fun j hj => v3 _ (by omega) (by omega)) (fun j hj hn => by rw [v4 _ (by omega) (by omega), if_neg (by omega)]) (by rw [v4 _ (by omega) (by omega), if_pos rfl]; omega) (fun j hj hn k hk => v5 j k (by omega) hn (by have := h.2.2.2.2.1 j hj; omega)) (fun k hk => ?_)
  rw [v4 _ (by omega) (by omega), if_pos rfl] at hk
  rw [v6 k (by omega)]
  obtain ⟨s1, s2, s3⟩ := hsp
  have hch := hRX.2.2.2.2.2.2.1 p hp
  by_cases k1 : k < x
  · rw [if_pos k1, s1 _ (by omega)]; exact (hch k (by omega)).symm
  · rw [if_neg k1]
    by_cases k2 : k = x + I.1.toNat
    · rw [if_pos k2, show rS z p + k = rS z p + x + I.1.toNat by omega, s2 _ (by omega), xt_o (Nat.le_refl _)]
    · rw [if_neg k2]
      by_cases k3 : k < x + I.1.toNat + 1
      · rw [if_pos k3, show rS z p + k = rS z p + x + (k - x) by omega, s2 _ (by omega), xt_i (by omega), hf _ (by omega)]; rfl
      · rw [if_neg k3, show rS z p + k = rS z p + x + (I.1.toNat + 1) + (k - (x + I.1.toNat + 1)) by omega, s3 _ (by omega)]
        have := hch (k - (I.1.toNat + 1)) (by omega)
        rw [show rS z p + x + (k - (x + I.1.toNat + 1)) = rS z p + (k - (I.1.toNat + 1)) by omega]; exact this.symm
