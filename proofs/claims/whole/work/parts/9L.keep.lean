/-! ===== pure: a spliced book keeps its bounds ===== -/
theorem bx_spl {B : bk_T} {z' co : Nat → Int} {p a b c : Nat} (hr : RX (bk_spl B p a b co c) z') (hX : BX B) (hab : a ≤ b) (hbm : b ≤ bk_m B) (hco : ∀ j, 0 ≤ co j ∧ co j < 128) : BX (bk_spl B p a b co c) := by
  refine ⟨(rb_rx hr).2, hX.2.1, fun j => ?_, spl_b hab hbm hX.2.2.2 hco⟩
  rcases Nat.lt_or_ge (bk_P B) j with k | k
  · show 0 ≤ bk_mv (bk_fr B) p _ (bk_P B + 1) j ∧ bk_mv (bk_fr B) p _ (bk_P B + 1) j ≤ 10000
    unfold bk_mv
    rw [if_neg (by omega)]; exact hX.2.2.1 j
  · have h9 := hr.2.2.2.2.2.2.2.2.1 j k
    rw [h9]
    have h1 := wd_cnt_b (xt (bk_tx (bk_spl B p a b co c)) (bk_m (bk_spl B p a b co c))) (rS z' j)
    have h2 := rS_m z' k
    have h3 : rS z' (bk_P B) = bk_m (bk_spl B p a b co c) + 1 := hr.2.2.2.2.2.1
    have h4 := rb_m (rb_rx hr).1
    omega
