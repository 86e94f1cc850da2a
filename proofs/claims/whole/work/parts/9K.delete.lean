/-! ===== pure: the last words of a paragraph taken out ===== -/
theorem del_l {B : bk_T} {z : Nat → Int} {p x L : Nat} {M : mk_T} (h : RB B z) (hX : BX B) (hm : MR (bk_P B) z M) (hp : p < bk_P B) (hL : z (85 + p) = L) (hx : 1 ≤ x ∧ x < L) (hbx : bd (xt (bk_tx B) (bk_m B)) (rS z p + (x + 1))) (hby : bd (xt (bk_tx B) (bk_m B)) (rS z p + (L + 1))) : RX (bk_spl B p (rS z p + x) (rS z p + L) (fun _ => 0) 0) (rf_CS z p x L) := by
  have hRX := rx_rb h hX.1
  have hP := h.2.2.1.1
  have hz := h.2.2.2.2.1 p hp
  have hr := rb_b h hp
  have h8 := hRX.2.2.2.2.2.2.2.1 p hp
  rw [hL, Int.toNat_natCast] at h8
  have hx8 : xt (bk_tx B) (bk_m B) (rS z p + x) = 32 := by
    rcases hbx with r | ⟨r1, r2⟩
    · omega
    · rw [show rS z p + (x + 1) - 1 = rS z p + x by omega] at r2; exact r2
  have hsp := sp_del (tx := bk_tx B) (m := bk_m B) (x := rS z p + x) (y := rS z p + L) (co := fun _ => 0) (co' := fun _ => 0) (by omega) (by omega) hx8 h8
  obtain ⟨v1, v2, v3, v4, v5, v6⟩ := CS_v (q := p) (x := x) (y := L) hm.2.1.2 hm.2.2.2.1.2 hL (by omega) (by omega) (by omega) (by omega)
  obtain ⟨c1, c2, c3⟩ := ct_sp hsp
  have hn := c3 (bk_m B + 1 - (rS z p + L + 1)) (by omega)
  rw [show rS z p + x + 1 + 0 + (bk_m B + 1 - (rS z p + L + 1)) = bk_m B - (rS z p + L - (rS z p + x)) + 0 + 1 by omega, xt_n, show rS z p + L + 1 + (bk_m B + 1 - (rS z p + L + 1)) = bk_m B + 1 by omega, xt_n] at hn
  have hmo := ct_m (tx := xt (bk_tx B) (bk_m B)) (show rS z p + x + 1 ≤ rS z p + L + 1 by omega)
  have h00 : wd_cnt (fun _ => (0 : Int)) 0 = 0 := rfl
  have hbn := h.1.1
  have h11 := h.2.2.2.2.2.2.2.2.2.2.1 p hp
  refine rx_spl (x := x + 1) (y := L + 1) (co := fun _ => 0) hRX hX hp (by omega) (by omega) (by omega) (by omega) (by omega) hbx hby (Or.inl rfl) (fun j => by omega) hsp (by omega) (by omega) v2 (fun j hj => v3 _ (by omega) (by omega)) (fun j hj hn => by rw [v4 _ (by omega) (by omega), if_neg (by omega)]) (by rw [v4 _ (by omega) (by omega), if_pos rfl]; omega) (fun j hj hn k hk => v5 j k (by omega) hn (by have := h.2.2.2.2.1 j hj; omega)) (fun k hk => ?_)
  rw [v4 _ (by omega) (by omega), if_pos rfl] at hk
  rw [v6 k (by omega)]
  obtain ⟨s1, s2, s3⟩ := hsp
  have hch := hRX.2.2.2.2.2.2.1 p hp
  rw [if_pos (by omega), s1 _ (by omega)]; exact (hch k (by omega)).symm
