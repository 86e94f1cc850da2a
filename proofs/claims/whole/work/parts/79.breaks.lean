/-! ===== pure: notes and breaks ===== -/
def NTR (NT : nt_T) (z nl nt : Nat → Int) : Prop := ∀ k : Nat, k < 10 → (NT k = none ∧ nl k = 0) ∨ ∃ (m : Nat) (tx : Nat → Int), NT k = some (m, wd_cnt tx m + 1, tx, wd_starts m tx) ∧ nl k + 2 = m ∧ 1 ≤ nl k ∧ tw_ok tx m ∧ ∀ j : Nat, j < m → rf_ch z nt (10 + (k : Int)) j = tx j
theorem nt_sl {tx : Nat → Int} {m : Nat} {C : Int → Int} (h : ∀ j : Nat, j < m → C j = tx j) : sl_ok tx m 0 m C := ⟨by omega, fun k hk => by rw [Nat.zero_add]; exact h k hk, Or.inl rfl, Or.inl (by omega)⟩
theorem lw_eq {tx : Nat → Int} {m : Nat} {C : Int → Int} (ht : tw_ok tx m) (hC : ∀ j : Nat, j < m → C j = tx j) (w : Int) : ∀ (d f uC uR l : Nat), f + d = wd_cnt tx m + 1 → l ≤ f → d ≤ uC → (m : Int) - wd_starts m tx f ≤ uR → wd_lw m (wd_cnt tx m + 1) (wd_starts m tx) w uC f l = rf_c1 m C w uR (wd_starts m tx f) l
  | 0, f, uC, uR, l, h1, h2, h3, h4 => by
    have e : f = wd_cnt tx m + 1 := by omega
    have e2 := st_n tx m
    rw [← e] at e2
    rw [show wd_lw m (wd_cnt tx m + 1) (wd_starts m tx) w uC f l = l by
      cases uC with
      | zero => rfl
      | succ u => unfold wd_lw; rw [if_neg (by omega)]]
    cases uR with
    | zero => rfl
    | succ u => unfold rf_c1; rw [if_neg (by omega)]
  | d + 1, f, 0, uR, l, h1, h2, h3, h4 => by omega
  | d + 1, f, uC + 1, uR, l, h1, h2, h3, h4 => by
    have hsl := nt_sl hC
    obtain ⟨w1, w2, w3, w4⟩ := sl_w ht hsl (c := f) ⟨by show wd_cnt tx 0 ≤ f; have : wd_cnt tx 0 = 0 := rfl; omega, by rw [Nat.zero_add]; omega⟩
    obtain ⟨uR, rfl⟩ : ∃ v, uR = v + 1 := ⟨uR - 1, by omega⟩
    obtain ⟨y, y1, y2, y3, y4⟩ := LE_eq ht hsl (f := f) ⟨by show wd_cnt tx 0 ≤ f; have : wd_cnt tx 0 = 0 := rfl; omega, by rw [Nat.zero_add]; omega⟩ 0 w
    rw [Nat.zero_add] at y1 y3
    rw [show w - 0 = w by omega] at y1
    rw [show wd_starts m tx f - ((0 : Nat) : Int) = wd_starts m tx f by omega] at y4
    have g := st_le ht (x := f) (y := y) (by omega) (by omega)
    unfold wd_lw rf_c1
    rw [if_pos (by omega), if_pos (by omega), y1, y4, show (l : Int) + 1 = ((l + 1 : Nat) : Int) by omega, show wd_starts m tx y - 1 - ((0 : Nat) : Int) + 1 = wd_starts m tx y by omega]
    exact lw_eq ht hC w (wd_cnt tx m + 1 - y) y uC uR (l + 1) (by omega) (by omega) (by omega) (by omega)
theorem nl_eq {NT : nt_T} {z nl nt : Nat → Int} (h : NTR NT z nl nt) (w : Int) {k : Nat} (hk : k < 10) : (nl k = 0 ∧ ly_nl w NT k = 0) ∨ (0 < nl k ∧ ly_nl w NT k = rf_NL z nl nt w k) := by
  rcases h k hk with ⟨q1, q2⟩ | ⟨m, tx, q1, q2, q3, q4, q5⟩
  · left; exact ⟨q2, by unfold ly_nl; rw [q1]⟩
  · right
    refine ⟨by omega, ?_⟩
    have e : rf_sz z nl (10 + (k : Int)) = m := by unfold rf_sz; rw [if_neg (by omega), show (10 + (k : Int) - 10).toNat = k by omega]; omega
    unfold ly_nl rf_NL
    rw [q1, e]
    have e2 := lw_eq q4 q5 w (wd_cnt tx m + 1) 0 (wd_cnt tx m + 1) m 0 (by omega) (by omega) (by omega) (by rw [st_0]; omega)
    rw [st_0] at e2
    rw [show ((m : Nat) : Int).toNat = m by omega]
    exact e2
theorem bit_0 (k : Int) : ly_bit 0 k = 0 := by
  unfold ly_bit
  show ((0 / 2 ^ k.toNat % 2 : Nat) : Int) = 0
  rw [Nat.zero_div]; rfl
theorem sn_eq {NT : nt_T} {z nl nt : Nat → Int} (h : NTR NT z nl nt) {sy : Nat → Int} (h4 : sy 4 = 1) (w x : Int) {N : Nat → Int} (hN : ∀ k : Nat, k < 10 → N k = ly_nl w NT k) : ∀ k : Nat, k ≤ 10 → ly_sn N x k = rf_nr z nl nt sy w x k
  | 0, _ => rfl
  | k + 1, hk => by
    unfold ly_sn rf_nr
    rw [sn_eq h h4 w x hN k (by omega), hN k (by omega)]
    have hd := rf_SN_d nl sy x k
    rw [Int.toNat_natCast] at hd
    rcases nl_eq h w (k := k) (by omega) with ⟨q1, q2⟩ | ⟨q1, q2⟩
    · rw [q2, if_neg (show ¬ rf_SN nl sy x k = 1 by omega)]
      split <;> rfl
    · rw [q2]
      by_cases c : ly_bit x k = 1
      · rw [if_pos c, if_pos (show rf_SN nl sy x k = 1 by omega)]
      · rw [if_neg c, if_neg (show ¬ rf_SN nl sy x k = 1 by omega)]
theorem nr_0 {z nl nt sy : Nat → Int} {w x : Int} (h : ∀ k : Nat, ¬ rf_SN nl sy x k = 1) : ∀ k : Nat, rf_nr z nl nt sy w x k = 0
  | 0 => rfl
  | k + 1 => by unfold rf_nr; rw [nr_0 h k, if_neg (h k)]; rfl
theorem RN_eq {NT : nt_T} {z nl nt : Nat → Int} (h : NTR NT z nl nt) {sy : Nat → Int} (h4 : sy 4 = 0 ∨ sy 4 = 1) (w x : Int) {N : Nat → Int} (hN : ∀ k : Nat, k < 10 → N k = ly_nl w NT k) : ly_RN sy N x = rf_NR z nl nt sy w x := by
  have e4 : ly_st sy 4 = sy 4 := if_pos (by omega)
  unfold ly_RN rf_NR
  rw [e4]
  by_cases c : x = 0 ∨ sy 4 = 0
  · rw [if_pos c]
    have e : rf_nr z nl nt sy w x 10 = 0 := nr_0 (fun k q => by
      have hd := rf_SN_d nl sy x k
      rcases c with r | r
      · rw [r, bit_0] at hd; rw [r] at q; omega
      · omega) 10
    rw [e, if_neg (by omega)]
  · rw [if_neg c, sn_eq h (show sy 4 = 1 by omega) w x hN 10 (by omega)]
-- ===== rows and notes of lines that follow one another =====
theorem ro_add (z sy lo lf : Nat → Int) : ∀ (u : Nat) (l r c : Int), rf_ro z sy lo lf u l (r + c) = rf_ro z sy lo lf u l r + c
  | 0, l, r, c => rfl
  | u + 1, l, r, c => by unfold rf_ro; rw [show r + c + rf_GB z sy lo lf l = r + rf_GB z sy lo lf l + c by omega]; exact ro_add z sy lo lf u (l + 1) _ c
theorem ro_snoc (z sy lo lf : Nat → Int) : ∀ (u : Nat) (l r : Int), rf_ro z sy lo lf (u + 1) l r = rf_ro z sy lo lf u l r + rf_GB z sy lo lf (l + u)
  | 0, l, r => by rw [show l + ((0 : Nat) : Int) = l by omega]; rfl
  | u + 1, l, r => by
    show rf_ro z sy lo lf (u + 1) (l + 1) (r + rf_GB z sy lo lf l) = rf_ro z sy lo lf u (l + 1) (r + rf_GB z sy lo lf l) + _
    rw [ro_snoc z sy lo lf u (l + 1), show l + 1 + (u : Int) = l + ((u + 1 : Nat) : Int) by omega]
theorem RO_s (z sy lo lf : Nat → Int) {x l : Nat} (h : x < l) : rf_RO z sy lo lf x ((l : Int) + 1) = rf_RO z sy lo lf x l + (rf_GB z sy lo lf l + 1) := by
  unfold rf_RO
  rw [show ((l : Int) + 1 - ((x : Int) + 1)).toNat = ((l : Int) - ((x : Int) + 1)).toNat + 1 by omega, ro_snoc, show (l : Int) + 1 - x = (l : Int) - x + 1 by omega, ro_add, show (x : Int) + 1 + (((l : Int) - ((x : Int) + 1)).toNat : Nat) = l by omega]
  omega
theorem RO_1 (z sy lo lf : Nat → Int) (x : Int) : rf_RO z sy lo lf x (x + 1) = 1 := by
  unfold rf_RO
  rw [show (x + 1 - (x + 1)).toNat = 0 by omega]
  show x + 1 - x = 1
  omega
theorem or_as (x y v : Int) : ly_or (ly_or x y) v = ly_or x (ly_or y v) := by
  unfold ly_or
  rw [Int.toNat_natCast, Int.toNat_natCast, Nat.or_assoc]
theorem or_z (x : Int) (h : 0 ≤ x) : ly_or 0 x = x := by
  unfold ly_or
  show ((0 ||| x.toNat : Nat) : Int) = x
  rw [Nat.zero_or]; omega
theorem n1_or (C : Int → Int) : ∀ (u : Nat) (k x y : Int), rf_n1 C u k (ly_or x y) = ly_or x (rf_n1 C u k y)
  | 0, k, x, y => rfl
  | u + 1, k, x, y => by unfold rf_n1; rw [or_as]; exact n1_or C u (k + 1) x _
theorem n2_snoc (z nt lo lf lt : Nat → Int) : ∀ (u : Nat) (l x : Int), rf_n2 z nt lo lf lt (u + 1) l x = rf_n1 (rf_ch z nt (lo (l + u).toNat)) (lt (l + u).toNat - lf (l + u).toNat).toNat (lf (l + u).toNat) (rf_n2 z nt lo lf lt u l x)
  | 0, l, x => by rw [show l + ((0 : Nat) : Int) = l by omega]; rfl
  | u + 1, l, x => by
    show rf_n2 z nt lo lf lt (u + 1) (l + 1) _ = rf_n1 _ _ _ (rf_n2 z nt lo lf lt u (l + 1) _)
    rw [n2_snoc z nt lo lf lt u (l + 1), show l + 1 + (u : Int) = l + ((u + 1 : Nat) : Int) by omega]
theorem NO_s (z nt lo lf lt : Nat → Int) {x l : Nat} (h : x ≤ l) (h0 : 0 ≤ rf_NO z nt lo lf lt x l) : rf_NO z nt lo lf lt x ((l : Int) + 1) = ly_or (rf_NO z nt lo lf lt x l) (rf_n1 (rf_ch z nt (lo l)) (lt l - lf l).toNat (lf l) 0) := by
  have e : rf_NO z nt lo lf lt x ((l : Int) + 1) = rf_n1 (rf_ch z nt (lo l)) (lt l - lf l).toNat (lf l) (rf_NO z nt lo lf lt x l) := by
    unfold rf_NO
    rw [show ((l : Int) + 1 - x).toNat = ((l : Int) - x).toNat + 1 by omega, n2_snoc, show ((x : Int) + (((l : Int) - x).toNat : Nat)).toNat = l by omega]
  rw [e, ← n1_or]
  congr 1
  exact (ly_or_0 h0).symm
theorem NO_0 (z nt lo lf lt : Nat → Int) (x : Int) : rf_NO z nt lo lf lt x x = 0 := by
  unfold rf_NO
  rw [show (x - x).toNat = 0 by omega]; rfl
theorem or_nn (x y : Int) : 0 ≤ ly_or x y := by unfold ly_or; omega
theorem n1_nn (C : Int → Int) : ∀ (u : Nat) (k x : Int), 0 ≤ x → 0 ≤ rf_n1 C u k x
  | 0, k, x, h => h
  | u + 1, k, x, h => by unfold rf_n1; exact n1_nn C u _ _ (or_nn _ _)
theorem n2_nn (z nt lo lf lt : Nat → Int) : ∀ (u : Nat) (l x : Int), 0 ≤ x → 0 ≤ rf_n2 z nt lo lf lt u l x
  | 0, l, x, h => h
  | u + 1, l, x, h => by unfold rf_n2; exact n2_nn z nt lo lf lt u _ _ (n1_nn _ _ _ _ h)
theorem NO_nn (z nt lo lf lt : Nat → Int) (x y : Int) : 0 ≤ rf_NO z nt lo lf lt x y := n2_nn _ _ _ _ _ _ _ _ (by omega)
