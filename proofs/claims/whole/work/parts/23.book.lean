/-- a book with characters put in and taken out of a paragraph -/
def bk_spl (B : bk_T) (p a b : Nat) (co : Nat → Int) (c : Nat) : bk_T :=
  (bk_m B - (b - a) + c, wd_cnt (wd_spl (bk_m B) (bk_tx B) co a b c) (bk_m B - (b - a) + c) + 1, bk_P B, wd_spl (bk_m B) (bk_tx B) co a b c, wd_starts (bk_m B - (b - a) + c) (wd_spl (bk_m B) (bk_tx B) co a b c), bk_kd B,
    bk_mv (bk_fr B) p (((wd_cnt (wd_spl (bk_m B) (bk_tx B) co a b c) (bk_m B - (b - a) + c) + 1 : Nat) : Int) - bk_n B) (bk_P B + 1))
theorem wd_mk_ok {m : Nat} {tx : Nat → Int} (hm : m ≤ 9999) (ht : ∀ j, 0 ≤ tx j ∧ tx j < 128) : wd_ok m (wd_cnt tx m + 1) tx (wd_starts m tx) := by
  have := wd_cnt_b tx m
  exact ⟨by omega, by omega, fun j => by have := wd_starts_b m tx j; omega, ht⟩
section MBook3
variable {G : ji_G} {d : Nat} {h : ji_H} {b : Nat} {B : bk_T}

set_option maxHeartbeats 4000000 in
set_option maxRecDepth 100000 in
theorem k_Book_withInserted (hat : bk_at h b B) (hk : bk_ok B) {p xa u c : Nat} {co : Nat → Int} (hp : p < bk_P B) (hu : h.2 u = .inr (.char, c, .inl co)) (hul : u < h.1) (hco : ∀ j, 0 ≤ co j ∧ co j < 128) (hxy : xa ≤ xa) (hy : xa ≤ bk_m B) (hm : bk_m B - (xa - xa) + c ≤ 9999) (h72 : 72 ≤ h.1) : JM G (d + 3) mX0_withInserted [.ref b, .int (jI p), .int (jI xa), .ref u] h 5 (bk_m B - (xa - xa) + c + 2 + (wd_cnt (wd_spl (bk_m B) (bk_tx B) co xa xa c) (bk_m B - (xa - xa) + c) + 2) + (bk_P B + 1 + 3)) (fun r h' => ∃ b', r = .inl (some (.ref b')) ∧ ji_ext h h' 5 ∧ bk_at h' b' (bk_spl B p xa xa co c)) := by
  have hat0 := hat
  obtain ⟨w, kq, fq, hb, hkd, hfr, hwd, hdy, hlt⟩ := hat
  have hwd0 := hwd
  obtain ⟨t9, q9, hw, -⟩ := hwd
  obtain ⟨hko, k1, k2, k3⟩ := id hk
  have hko0 := hko
  obtain ⟨o1, o2, o3, o4⟩ := hko
  refine ji_ent (by decide) rfl (Nat.le_of_ble_eq_true rfl) rfl ?_
  refine ji_aload_n dX0_withInserted_0 rfl trivial ?_
  refine ji_iload_n dX0_withInserted_1 rfl ?_
  refine ji_aload_n dX0_withInserted_2 rfl trivial ?_
  refine ji_get (ci := 0) (k := 0) rfl dX0_withInserted_3 lX0_9 (by decide) (hb) rfl ?_
  refine ji_iload_n dX0_withInserted_6 rfl ?_
  refine ji_iload_n dX0_withInserted_7 rfl ?_
  refine ji_aload_n dX0_withInserted_8 rfl trivial ?_
  refine ji_callV dX0_withInserted_9 (k_Words_spliced (u := u) (a := xa) (b := xa) (c := c) (co := co) hwd0 hko0 hu hul hco hxy hy (by omega) (by first | omega | (show 72 ≤ h.1 + 1; omega))) rfl (hw) rfl rfl wX6_spliced vX6_spliced lX0_45 rfl (Nat.le_of_ble_eq_true rfl) rfl (by omega) (by omega) (fun r h1 q => ?_) (fun E h' q => by cases q.1)
  obtain ⟨hr1, hx1, hwn⟩ := q
  cases hr1
  refine ji_callV dX0_withInserted_12 (k_Book_withWords (hat0.kept hx1.keep) hk hp hwn (wd_mk_ok (by omega) (wd_spl_b o4 hco)) (by rw [hx1.1]; first | omega | (show 72 ≤ h.1 + 1 + 3; omega))) rfl ((hx1.2 b hlt.1).trans hb) rfl rfl wX0_withWords vX0_withWords lX0_49 rfl (Nat.le_of_ble_eq_true rfl) rfl (by omega) (by omega) (fun r h2 q => ?_) (fun E h' q => by cases q.1)
  obtain ⟨hr2, hx2, hbn⟩ := q
  cases hr2
  exact ji_areturn dX0_withInserted_15 rfl (Or.inl ⟨_, rfl⟩) trivial ⟨_, rfl, hx1.trans hx2, hbn⟩

set_option maxHeartbeats 4000000 in
set_option maxRecDepth 100000 in
theorem k_Book_withDeleted (hat : bk_at h b B) (hk : bk_ok B) {p xa ya : Nat} (hp : p < bk_P B) (hxy : xa ≤ ya) (hy : ya ≤ bk_m B) (hm : bk_m B - (ya - xa) + 0 ≤ 9999) (h72 : 72 ≤ h.1) : JM G (d + 3) mX0_withDeleted [.ref b, .int (jI p), .int (jI xa), .int (jI ya)] h 6 (bk_m B - (ya - xa) + 0 + 2 + (wd_cnt (wd_spl (bk_m B) (bk_tx B) (fun _ => 0) xa ya 0) (bk_m B - (ya - xa) + 0) + 2) + (bk_P B + 1 + 3)) (fun r h' => ∃ b', r = .inl (some (.ref b')) ∧ ji_ext h h' 6 ∧ bk_at h' b' (bk_spl B p xa ya (fun _ => 0) 0)) := by
  have hat0 := hat
  obtain ⟨w, kq, fq, hb, hkd, hfr, hwd, hdy, hlt⟩ := hat
  have hwd0 := hwd
  obtain ⟨t9, q9, hw, -⟩ := hwd
  obtain ⟨hko, k1, k2, k3⟩ := id hk
  have hko0 := hko
  obtain ⟨o1, o2, o3, o4⟩ := hko
  refine ji_ent (by decide) rfl (Nat.le_of_ble_eq_true rfl) rfl ?_
  refine ji_aload_n dX0_withDeleted_0 rfl trivial ?_
  refine ji_iload_n dX0_withDeleted_1 rfl ?_
  refine ji_aload_n dX0_withDeleted_2 rfl trivial ?_
  refine ji_get (ci := 0) (k := 0) rfl dX0_withDeleted_3 lX0_9 (by decide) (hb) rfl ?_
  refine ji_iload_n dX0_withDeleted_6 rfl ?_
  refine ji_iload_n dX0_withDeleted_7 rfl ?_
  refine ji_iconst dX0_withDeleted_8 ?_
  refine ji_newC dX0_withDeleted_9 (by omega) (by omega) (by omega) ?_
  have hx0 : ji_ext h (h.1 + 1, va_up h.2 h.1 (.inr (.char, (0 : Int).toNat, .inl (fun _ => 0)) : ji_C)) 1 := ⟨rfl, fun a ha => va_up_ne _ _ (by omega)⟩
  refine ji_callV dX0_withDeleted_11 (k_Words_spliced (u := h.1) (a := xa) (b := ya) (c := 0) (co := fun _ => 0) (hwd0.kept hx0.keep) hko0 (va_up_self _ _ _) (by show h.1 < h.1 + 1; omega) (fun j => by show (0 : Int) ≤ 0 ∧ (0 : Int) < 128; omega) hxy hy (by omega) (by first | omega | (show 72 ≤ h.1 + 1; omega))) rfl ((hx0.2 w (by obtain ⟨_, _, _, _, _, _, l1, _⟩ := hwd0; exact l1)).trans hw) rfl rfl wX6_spliced vX6_spliced lX0_45 rfl (Nat.le_of_ble_eq_true rfl) rfl (by omega) (by omega) (fun r h1 q => ?_) (fun E h' q => by cases q.1)
  obtain ⟨hr1, hx1, hwn⟩ := q
  cases hr1
  refine ji_callV dX0_withDeleted_14 (k_Book_withWords (hat0.kept (hx0.trans hx1).keep) hk hp hwn (wd_mk_ok (by omega) (wd_spl_b o4 (fun j => by show (0 : Int) ≤ 0 ∧ (0 : Int) < 128; omega))) (by rw [hx1.1]; first | omega | (show 72 ≤ h.1 + 1 + 3; omega))) rfl (((hx0.trans hx1).2 b hlt.1).trans hb) rfl rfl wX0_withWords vX0_withWords lX0_49 rfl (Nat.le_of_ble_eq_true rfl) rfl (by omega) (by omega) (fun r h2 q => ?_) (fun E h' q => by cases q.1)
  obtain ⟨hr2, hx2, hbn⟩ := q
  cases hr2
  exact ji_areturn dX0_withDeleted_17 rfl (Or.inl ⟨_, rfl⟩) trivial ⟨_, rfl, (hx0.trans hx1).trans hx2, hbn⟩

/-- a row that is filled as far as i -/
def ji_fill (g : Nat → Int) (i : Int) : Nat → Int := fun j => if (j : Int) < i then g j else 0
theorem ji_fill_s {g : Nat → Int} {i v : Int} (h0 : 0 ≤ i) (hv : v = g i.toNat) : va_up (ji_fill g i) i.toNat v = ji_fill g (i + 1) := by
  funext j
  unfold va_up ji_fill
  by_cases hj : j = i.toNat
  · rw [if_pos hj, hv, hj, if_pos (by omega)]
  · rw [if_neg hj]
    by_cases q : (j : Int) < i
    · rw [if_pos q, if_pos (by omega)]
    · rw [if_neg q, if_neg (by omega)]
theorem ji_fill_0 (g : Nat → Int) : ji_fill g 0 = fun _ => 0 := funext fun j => if_neg (by omega)
/-- kinds and first words behind a split -/
def bk_sk (B : bk_T) (p : Nat) : Nat → Int := fun j => if j ≤ p then bk_kd B j else if j = p + 1 then (if bk_kd B p = 1 then 0 else bk_kd B p) else bk_kd B (j - 1)
def bk_sf (B : bk_T) (p : Nat) (k : Int) : Nat → Int := fun j => if j ≤ p then bk_fr B j else if j = p + 1 then bk_fr B p + k else bk_fr B (j - 1)
def bk_split (B : bk_T) (p : Nat) (k : Int) : bk_T := (bk_m B, bk_n B, bk_P B + 1, bk_tx B, bk_s B, ji_fill (bk_sk B p) (bk_P B + 1), va_up (ji_fill (bk_sf B p k) (bk_P B + 1)) (bk_P B + 1) (bk_n B))
theorem bk_sk1 {B : bk_T} {p j : Nat} (h : j ≤ p) : bk_sk B p j = bk_kd B j := if_pos h
theorem bk_sk2 {B : bk_T} {p j : Nat} (h : p + 1 < j) : bk_sk B p j = bk_kd B (j - 1) := by unfold bk_sk; rw [if_neg (by omega), if_neg (by omega)]
theorem bk_sk3 {B : bk_T} {p j : Nat} (h : j = p + 1) : bk_sk B p j = if bk_kd B p = 1 then 0 else bk_kd B p := by unfold bk_sk; rw [if_neg (by omega), if_pos h]
theorem bk_sf1 {B : bk_T} {p j : Nat} {k : Int} (h : j ≤ p) : bk_sf B p k j = bk_fr B j := if_pos h
theorem bk_sf2 {B : bk_T} {p j : Nat} {k : Int} (h : p + 1 < j) : bk_sf B p k j = bk_fr B (j - 1) := by unfold bk_sf; rw [if_neg (by omega), if_neg (by omega)]
theorem bk_sf3 {B : bk_T} {p j : Nat} {k : Int} (h : j = p + 1) : bk_sf B p k j = bk_fr B p + k := by unfold bk_sf; rw [if_neg (by omega), if_pos h]
theorem bk_kind_in {B : bk_T} {p : Int} (h : 0 ≤ p ∧ p < bk_P B) : bk_kind B p = bk_kd B p.toNat := by unfold bk_kind; rw [if_pos h]
theorem bk_fw_in {B : bk_T} {p : Int} (h : 0 ≤ p ∧ p < bk_P B + 1) : bk_fw B p = bk_fr B p.toNat := by unfold bk_fw; rw [if_pos h]

set_option maxHeartbeats 4000000 in
set_option maxRecDepth 100000 in
theorem k_Book_withSplit_loop (hat : bk_at h b B) (hk : bk_ok B) {p : Nat} {k : Int} (hp : p < bk_P B) (h72 : 72 ≤ h.1) {bc bs : Nat} (hbc : 1 ≤ bc) (hbs : 3 ≤ bs) : ∀ (f : Nat) (i : Int) (o6 : Option Value), 0 ≤ i ∧ i + f = bk_P B + 1 →
    JW G (d + 2) mX0_withSplit 24 [some (.ref b), some (.int (jI p)), some (.int (jI k)), some (.ref h.1), some (.ref (h.1 + 1)), some (.int (jI i)), o6] [] (nw2 h (bk_P B + 1) (bk_P B + 2) (ji_fill (bk_sk B p) i) (ji_fill (bk_sf B p k) i)) bc bs (fun r h' => ∃ b', r = .inl (some (.ref b')) ∧ ji_ext h h' 3 ∧ bk_at h' b' (bk_split B p k)) := by
  have hat0 := hat
  obtain ⟨w, kq, fq, hb, hkd, hfr, hwd, hdy, hlt⟩ := hat
  have hwd0 := hwd
  obtain ⟨t9, q9, hw, -⟩ := hwd
  obtain ⟨hko, k1, k2, k3⟩ := id hk
  have hko0 := hko
  obtain ⟨o1, o2, o3, o4⟩ := hko
  intro f
  induction f with
  | zero =>
    intro i o6 hi
    have ei : i = bk_P B + 1 := by omega
    subst ei

    refine ji_iload dX0_withSplit_24 rfl ?_
    refine ji_aload_n dX0_withSplit_26 rfl trivial ?_
    refine ji_alen dX0_withSplit_27 (nw2_k) (fun cy => rfl) ?_
    refine ji_icmp_ge (tgt := 120) dX0_withSplit_28 rfl (by omega) (by omega) (fun c28 => ?_) (fun c28 => absurd c28 (by omega))
    refine ji_aload dX0_withSplit_120 rfl trivial ?_
    refine ji_aload_n dX0_withSplit_122 rfl trivial ?_
    refine ji_alen dX0_withSplit_123 (nw2_k) (fun cy => rfl) ?_
    refine ji_aload_n dX0_withSplit_124 rfl trivial ?_
    refine ji_get (ci := 0) (k := 0) rfl dX0_withSplit_125 lX0_9 (by decide) ((nw2_x.2 b hlt.1).trans hb) rfl ?_
    refine ji_cV dX0_withSplit_128 (k_Words_size (hwd0.kept nw2_x.keep) hko0) rfl ((nw2_x.2 w (by obtain ⟨_, _, _, _, _, _, l1, _⟩ := hwd0; exact l1)).trans hw) rfl rfl wX6_size vX6_size lX0_53 rfl (Nat.le_of_ble_eq_true rfl) rfl ?_
    refine ji_iastoreE dX0_withSplit_131 (nw2_f) (by omega) (nw2_sf) ?_
    refine ji_new (ci := 0) (fs := [.null, .null, .null]) rfl dX0_withSplit_132 lX0_10 (fun G ad => by simp [ji_vs, ji_v]) (by decide) (by omega) (by omega) ?_
    refine ji_dup dX0_withSplit_135 rfl ?_
    refine ji_aload_n dX0_withSplit_136 rfl trivial ?_
    refine ji_get (ci := 0) (k := 0) rfl dX0_withSplit_137 lX0_9 (by decide) ((va_up_ne _ _ (by show b ≠ h.1 + 1 + 1; omega)).trans ((nw2_x.2 b hlt.1).trans hb)) rfl ?_
    refine ji_aload_n dX0_withSplit_140 rfl trivial ?_
    refine ji_aload dX0_withSplit_141 rfl trivial ?_
    refine ji_callI dX0_withSplit_143 (k_Book_init (v0 := .null) (v1 := .null) (v2 := .null) (va_up_self _ _ _)) rfl wX0_init rfl rfl iX0_init lX0_61 rfl (Nat.le_of_ble_eq_true rfl) rfl (by omega) (by omega) (fun r h' q => ?_) (fun E h' q => by cases q.1)
    obtain ⟨hq1, rfl⟩ := q
    cases hq1
    exact ji_areturn dX0_withSplit_146 rfl (Or.inl ⟨_, rfl⟩) trivial ⟨_, rfl, ⟨rfl, fun a ha => (va_up_ne _ _ (by show a ≠ h.1 + 1 + 1; omega)).trans ((va_up_ne _ _ (by show a ≠ h.1 + 1 + 1; omega)).trans (nw2_x.2 a ha))⟩, w, h.1, h.1 + 1, va_up_self _ _ _, (va_up_ne _ _ (by show h.1 ≠ h.1 + 1 + 1; omega)).trans ((va_up_ne _ _ (by show h.1 ≠ h.1 + 1 + 1; omega)).trans nw2_k), (va_up_ne _ _ (by show h.1 + 1 ≠ h.1 + 1 + 1; omega)).trans ((va_up_ne _ _ (by show h.1 + 1 ≠ h.1 + 1 + 1; omega)).trans nw2_f), hwd0.kept ⟨by show h.1 ≤ h.1 + 1 + 1 + 1; omega, fun a _ ha => (va_up_ne _ _ (by show a ≠ h.1 + 1 + 1; omega)).trans ((va_up_ne _ _ (by show a ≠ h.1 + 1 + 1; omega)).trans (nw2_x.2 a ha))⟩, ⟨Or.inr (by show 72 ≤ h.1 + 1 + 1; omega), Or.inr h72, Or.inr (by omega)⟩, (by show h.1 + 1 + 1 < h.1 + 1 + 1 + 1; omega), (by show h.1 < h.1 + 1 + 1 + 1; omega), (by show h.1 + 1 < h.1 + 1 + 1 + 1; omega)⟩
  | succ f ih =>
    intro i o6 hi
    have q0 := fun p => k2 p
    have q5 : ∀ p : Int, 0 ≤ bk_kind B p ∧ bk_kind B p ≤ 2 := fun p => by unfold bk_kind; split; exact k2 _; omega
    have q6 := q5 i
    have q7 := q5 (i - 1)

    refine ji_iload dX0_withSplit_24 rfl ?_
    refine ji_aload_n dX0_withSplit_26 rfl trivial ?_
    refine ji_alen dX0_withSplit_27 (nw2_k) (fun cy => rfl) ?_
    refine ji_icmp_ge (tgt := 120) dX0_withSplit_28 rfl (by omega) (by omega) (fun c28 => absurd c28 (by omega)) (fun c28 => ?_)
    refine ji_iload dX0_withSplit_31 rfl ?_
    refine ji_iload_n dX0_withSplit_33 rfl ?_
    refine ji_icmp_gt (tgt := 42) dX0_withSplit_34 rfl (by omega) (by omega) (fun c34 => ?_) (fun c34 => ?_)
    · refine ji_iload dX0_withSplit_42 rfl ?_
      refine ji_iconst dX0_withSplit_44 ?_
      refine ji_isub dX0_withSplit_45 ?_
      refine ji_istore dX0_withSplit_46 (by decide) rfl ?_
      refine ji_aload_n dX0_withSplit_48 rfl trivial ?_
      refine ji_iload dX0_withSplit_49 rfl ?_
      refine ji_aload_n dX0_withSplit_51 rfl trivial ?_
      refine ji_iload dX0_withSplit_52 rfl ?_
      refine ji_cV dX0_withSplit_54 (k_Book_kindOf (hat0.kept nw2_x.keep) hk (by omega)) rfl ((nw2_x.2 b hlt.1).trans hb) rfl rfl wX0_kindOf vX0_kindOf lX0_64 rfl (Nat.le_of_ble_eq_true rfl) rfl ?_
      refine ji_iastoreE dX0_withSplit_57 (nw2_k) (by omega) (nw2_sk) ?_
      refine ji_aload dX0_withSplit_58 rfl trivial ?_
      refine ji_iload dX0_withSplit_60 rfl ?_
      refine ji_aload_n dX0_withSplit_62 rfl trivial ?_
      refine ji_iload dX0_withSplit_63 rfl ?_
      refine ji_cV dX0_withSplit_65 (k_Book_firstWordOf (hat0.kept nw2_x.keep) hk (by omega)) rfl ((nw2_x.2 b hlt.1).trans hb) rfl rfl wX0_firstWordOf vX0_firstWordOf lX0_22 rfl (Nat.le_of_ble_eq_true rfl) rfl ?_
      refine ji_iastoreE dX0_withSplit_68 (nw2_f) (by omega) (nw2_sf) ?_
      refine ji_iload dX0_withSplit_69 rfl ?_
      refine ji_iload_n dX0_withSplit_71 rfl ?_
      refine ji_iconst dX0_withSplit_72 ?_
      refine ji_iadd dX0_withSplit_73 ?_
      refine ji_icmp_ne (tgt := 114) dX0_withSplit_74 rfl (by omega) (by omega) (fun c74 => ?_) (fun c74 => ?_)
      · refine ji_iinc dX0_withSplit_114 (by decide) rfl rfl ?_
        refine ji_goto (tgt := 24) dX0_withSplit_117 rfl ?_
        first
        | (exfalso; omega)
        | exact ji_eqv (ih (i + 1) _ (by omega)) rfl rfl (by rw [ji_fill_s (by omega) (by rw [bk_sk1 (by omega), bk_kind_in (by omega)]), ji_fill_s (by omega) (by rw [bk_sf1 (by omega), bk_fw_in (by omega)])])
        | exact ji_eqv (ih (i + 1) _ (by omega)) rfl rfl (by rw [ji_fill_s (by omega) (by rw [bk_sk2 (by omega), bk_kind_in (by omega)]; congr 1; omega), ji_fill_s (by omega) (by rw [bk_sf2 (by omega), bk_fw_in (by omega)]; congr 1; omega)])
        | exact ji_eqv (ih (i + 1) _ (by omega)) rfl rfl (by rw [va_up_idem, va_up_idem, ji_fill_s (by omega) (by rw [bk_sk3 (by omega), if_pos (by rw [bk_kind_in (by omega)] at c87; rw [← c87]; congr 1; omega)]), ji_fill_s (by omega) (by rw [bk_sf3 (by omega), bk_fw_in (by omega)]; congr 2; omega)])
        | exact ji_eqv (ih (i + 1) _ (by omega)) rfl rfl (by rw [va_up_idem, va_up_idem, ji_fill_s (by omega) (by rw [bk_sk3 (by omega), if_neg (by intro z; apply c87; rw [bk_kind_in (by omega), ← z]; congr 1; omega), bk_kind_in (by omega)]; congr 1; omega), ji_fill_s (by omega) (by rw [bk_sf3 (by omega), bk_fw_in (by omega)]; congr 2; omega)])
      · refine ji_aload_n dX0_withSplit_77 rfl trivial ?_
        refine ji_iload dX0_withSplit_78 rfl ?_
        refine ji_aload_n dX0_withSplit_80 rfl trivial ?_
        refine ji_iload dX0_withSplit_81 rfl ?_
        refine ji_cV dX0_withSplit_83 (k_Book_kindOf (hat0.kept nw2_x.keep) hk (by omega)) rfl ((nw2_x.2 b hlt.1).trans hb) rfl rfl wX0_kindOf vX0_kindOf lX0_64 rfl (Nat.le_of_ble_eq_true rfl) rfl ?_
        refine ji_iconst dX0_withSplit_86 ?_
        refine ji_icmp_ne (tgt := 94) dX0_withSplit_87 rfl (by omega) (by omega) (fun c87 => ?_) (fun c87 => ?_)
        · refine ji_aload_n dX0_withSplit_94 rfl trivial ?_
          refine ji_iload dX0_withSplit_95 rfl ?_
          refine ji_cV dX0_withSplit_97 (k_Book_kindOf (hat0.kept nw2_x.keep) hk (by omega)) rfl ((nw2_x.2 b hlt.1).trans hb) rfl rfl wX0_kindOf vX0_kindOf lX0_64 rfl (Nat.le_of_ble_eq_true rfl) rfl ?_
          refine ji_iastoreE dX0_withSplit_100 (nw2_k) (by omega) (nw2_sk) ?_
          refine ji_aload dX0_withSplit_101 rfl trivial ?_
          refine ji_iload dX0_withSplit_103 rfl ?_
          refine ji_aload_n dX0_withSplit_105 rfl trivial ?_
          refine ji_iload dX0_withSplit_106 rfl ?_
          refine ji_cV dX0_withSplit_108 (k_Book_firstWordOf (hat0.kept nw2_x.keep) hk (by omega)) rfl ((nw2_x.2 b hlt.1).trans hb) rfl rfl wX0_firstWordOf vX0_firstWordOf lX0_22 rfl (Nat.le_of_ble_eq_true rfl) rfl ?_
          refine ji_iload_n dX0_withSplit_111 rfl ?_
          refine ji_iadd dX0_withSplit_112 ?_
          refine ji_iastoreE dX0_withSplit_113 (nw2_f) (by omega) (nw2_sf) ?_
          refine ji_iinc dX0_withSplit_114 (by decide) rfl rfl ?_
          refine ji_goto (tgt := 24) dX0_withSplit_117 rfl ?_
          first
          | (exfalso; omega)
          | exact ji_eqv (ih (i + 1) _ (by omega)) rfl rfl (by rw [ji_fill_s (by omega) (by rw [bk_sk1 (by omega), bk_kind_in (by omega)]), ji_fill_s (by omega) (by rw [bk_sf1 (by omega), bk_fw_in (by omega)])])
          | exact ji_eqv (ih (i + 1) _ (by omega)) rfl rfl (by rw [ji_fill_s (by omega) (by rw [bk_sk2 (by omega), bk_kind_in (by omega)]; congr 1; omega), ji_fill_s (by omega) (by rw [bk_sf2 (by omega), bk_fw_in (by omega)]; congr 1; omega)])
          | exact ji_eqv (ih (i + 1) _ (by omega)) rfl rfl (by rw [va_up_idem, va_up_idem, ji_fill_s (by omega) (by rw [bk_sk3 (by omega), if_pos (by rw [bk_kind_in (by omega)] at c87; rw [← c87]; congr 1; omega)]), ji_fill_s (by omega) (by rw [bk_sf3 (by omega), bk_fw_in (by omega)]; congr 2; omega)])
          | exact ji_eqv (ih (i + 1) _ (by omega)) rfl rfl (by rw [va_up_idem, va_up_idem, ji_fill_s (by omega) (by rw [bk_sk3 (by omega), if_neg (by intro z; apply c87; rw [bk_kind_in (by omega), ← z]; congr 1; omega), bk_kind_in (by omega)]; congr 1; omega), ji_fill_s (by omega) (by rw [bk_sf3 (by omega), bk_fw_in (by omega)]; congr 2; omega)])
        · refine ji_iconst dX0_withSplit_90 ?_
          refine ji_goto (tgt := 100) dX0_withSplit_91 rfl ?_
          refine ji_iastoreE dX0_withSplit_100 (nw2_k) (by omega) (nw2_sk) ?_
          refine ji_aload dX0_withSplit_101 rfl trivial ?_
          refine ji_iload dX0_withSplit_103 rfl ?_
          refine ji_aload_n dX0_withSplit_105 rfl trivial ?_
          refine ji_iload dX0_withSplit_106 rfl ?_
          refine ji_cV dX0_withSplit_108 (k_Book_firstWordOf (hat0.kept nw2_x.keep) hk (by omega)) rfl ((nw2_x.2 b hlt.1).trans hb) rfl rfl wX0_firstWordOf vX0_firstWordOf lX0_22 rfl (Nat.le_of_ble_eq_true rfl) rfl ?_
          refine ji_iload_n dX0_withSplit_111 rfl ?_
          refine ji_iadd dX0_withSplit_112 ?_
          refine ji_iastoreE dX0_withSplit_113 (nw2_f) (by omega) (nw2_sf) ?_
          refine ji_iinc dX0_withSplit_114 (by decide) rfl rfl ?_
          refine ji_goto (tgt := 24) dX0_withSplit_117 rfl ?_
          first
          | (exfalso; omega)
          | exact ji_eqv (ih (i + 1) _ (by omega)) rfl rfl (by rw [ji_fill_s (by omega) (by rw [bk_sk1 (by omega), bk_kind_in (by omega)]), ji_fill_s (by omega) (by rw [bk_sf1 (by omega), bk_fw_in (by omega)])])
          | exact ji_eqv (ih (i + 1) _ (by omega)) rfl rfl (by rw [ji_fill_s (by omega) (by rw [bk_sk2 (by omega), bk_kind_in (by omega)]; congr 1; omega), ji_fill_s (by omega) (by rw [bk_sf2 (by omega), bk_fw_in (by omega)]; congr 1; omega)])
          | exact ji_eqv (ih (i + 1) _ (by omega)) rfl rfl (by rw [va_up_idem, va_up_idem, ji_fill_s (by omega) (by rw [bk_sk3 (by omega), if_pos (by rw [bk_kind_in (by omega)] at c87; rw [← c87]; congr 1; omega)]), ji_fill_s (by omega) (by rw [bk_sf3 (by omega), bk_fw_in (by omega)]; congr 2; omega)])
          | exact ji_eqv (ih (i + 1) _ (by omega)) rfl rfl (by rw [va_up_idem, va_up_idem, ji_fill_s (by omega) (by rw [bk_sk3 (by omega), if_neg (by intro z; apply c87; rw [bk_kind_in (by omega), ← z]; congr 1; omega), bk_kind_in (by omega)]; congr 1; omega), ji_fill_s (by omega) (by rw [bk_sf3 (by omega), bk_fw_in (by omega)]; congr 2; omega)])
    · refine ji_iload dX0_withSplit_37 rfl ?_
      refine ji_goto (tgt := 46) dX0_withSplit_39 rfl ?_
      refine ji_istore dX0_withSplit_46 (by decide) rfl ?_
      refine ji_aload_n dX0_withSplit_48 rfl trivial ?_
      refine ji_iload dX0_withSplit_49 rfl ?_
      refine ji_aload_n dX0_withSplit_51 rfl trivial ?_
      refine ji_iload dX0_withSplit_52 rfl ?_
      refine ji_cV dX0_withSplit_54 (k_Book_kindOf (hat0.kept nw2_x.keep) hk (by omega)) rfl ((nw2_x.2 b hlt.1).trans hb) rfl rfl wX0_kindOf vX0_kindOf lX0_64 rfl (Nat.le_of_ble_eq_true rfl) rfl ?_
      refine ji_iastoreE dX0_withSplit_57 (nw2_k) (by omega) (nw2_sk) ?_
      refine ji_aload dX0_withSplit_58 rfl trivial ?_
      refine ji_iload dX0_withSplit_60 rfl ?_
      refine ji_aload_n dX0_withSplit_62 rfl trivial ?_
      refine ji_iload dX0_withSplit_63 rfl ?_
      refine ji_cV dX0_withSplit_65 (k_Book_firstWordOf (hat0.kept nw2_x.keep) hk (by omega)) rfl ((nw2_x.2 b hlt.1).trans hb) rfl rfl wX0_firstWordOf vX0_firstWordOf lX0_22 rfl (Nat.le_of_ble_eq_true rfl) rfl ?_
      refine ji_iastoreE dX0_withSplit_68 (nw2_f) (by omega) (nw2_sf) ?_
      refine ji_iload dX0_withSplit_69 rfl ?_
      refine ji_iload_n dX0_withSplit_71 rfl ?_
      refine ji_iconst dX0_withSplit_72 ?_
      refine ji_iadd dX0_withSplit_73 ?_
      refine ji_icmp_ne (tgt := 114) dX0_withSplit_74 rfl (by omega) (by omega) (fun c74 => ?_) (fun c74 => ?_)
      · refine ji_iinc dX0_withSplit_114 (by decide) rfl rfl ?_
        refine ji_goto (tgt := 24) dX0_withSplit_117 rfl ?_
        first
        | (exfalso; omega)
        | exact ji_eqv (ih (i + 1) _ (by omega)) rfl rfl (by rw [ji_fill_s (by omega) (by rw [bk_sk1 (by omega), bk_kind_in (by omega)]), ji_fill_s (by omega) (by rw [bk_sf1 (by omega), bk_fw_in (by omega)])])
        | exact ji_eqv (ih (i + 1) _ (by omega)) rfl rfl (by rw [ji_fill_s (by omega) (by rw [bk_sk2 (by omega), bk_kind_in (by omega)]; congr 1; omega), ji_fill_s (by omega) (by rw [bk_sf2 (by omega), bk_fw_in (by omega)]; congr 1; omega)])
        | exact ji_eqv (ih (i + 1) _ (by omega)) rfl rfl (by rw [va_up_idem, va_up_idem, ji_fill_s (by omega) (by rw [bk_sk3 (by omega), if_pos (by rw [bk_kind_in (by omega)] at c87; rw [← c87]; congr 1; omega)]), ji_fill_s (by omega) (by rw [bk_sf3 (by omega), bk_fw_in (by omega)]; congr 2; omega)])
        | exact ji_eqv (ih (i + 1) _ (by omega)) rfl rfl (by rw [va_up_idem, va_up_idem, ji_fill_s (by omega) (by rw [bk_sk3 (by omega), if_neg (by intro z; apply c87; rw [bk_kind_in (by omega), ← z]; congr 1; omega), bk_kind_in (by omega)]; congr 1; omega), ji_fill_s (by omega) (by rw [bk_sf3 (by omega), bk_fw_in (by omega)]; congr 2; omega)])
      · refine ji_aload_n dX0_withSplit_77 rfl trivial ?_
        refine ji_iload dX0_withSplit_78 rfl ?_
        refine ji_aload_n dX0_withSplit_80 rfl trivial ?_
        refine ji_iload dX0_withSplit_81 rfl ?_
        refine ji_cV dX0_withSplit_83 (k_Book_kindOf (hat0.kept nw2_x.keep) hk (by omega)) rfl ((nw2_x.2 b hlt.1).trans hb) rfl rfl wX0_kindOf vX0_kindOf lX0_64 rfl (Nat.le_of_ble_eq_true rfl) rfl ?_
        refine ji_iconst dX0_withSplit_86 ?_
        refine ji_icmp_ne (tgt := 94) dX0_withSplit_87 rfl (by omega) (by omega) (fun c87 => ?_) (fun c87 => ?_)
        · refine ji_aload_n dX0_withSplit_94 rfl trivial ?_
          refine ji_iload dX0_withSplit_95 rfl ?_
          refine ji_cV dX0_withSplit_97 (k_Book_kindOf (hat0.kept nw2_x.keep) hk (by omega)) rfl ((nw2_x.2 b hlt.1).trans hb) rfl rfl wX0_kindOf vX0_kindOf lX0_64 rfl (Nat.le_of_ble_eq_true rfl) rfl ?_
          refine ji_iastoreE dX0_withSplit_100 (nw2_k) (by omega) (nw2_sk) ?_
          refine ji_aload dX0_withSplit_101 rfl trivial ?_
          refine ji_iload dX0_withSplit_103 rfl ?_
          refine ji_aload_n dX0_withSplit_105 rfl trivial ?_
          refine ji_iload dX0_withSplit_106 rfl ?_
          refine ji_cV dX0_withSplit_108 (k_Book_firstWordOf (hat0.kept nw2_x.keep) hk (by omega)) rfl ((nw2_x.2 b hlt.1).trans hb) rfl rfl wX0_firstWordOf vX0_firstWordOf lX0_22 rfl (Nat.le_of_ble_eq_true rfl) rfl ?_
          refine ji_iload_n dX0_withSplit_111 rfl ?_
          refine ji_iadd dX0_withSplit_112 ?_
          refine ji_iastoreE dX0_withSplit_113 (nw2_f) (by omega) (nw2_sf) ?_
          refine ji_iinc dX0_withSplit_114 (by decide) rfl rfl ?_
          refine ji_goto (tgt := 24) dX0_withSplit_117 rfl ?_
          first
          | (exfalso; omega)
          | exact ji_eqv (ih (i + 1) _ (by omega)) rfl rfl (by rw [ji_fill_s (by omega) (by rw [bk_sk1 (by omega), bk_kind_in (by omega)]), ji_fill_s (by omega) (by rw [bk_sf1 (by omega), bk_fw_in (by omega)])])
          | exact ji_eqv (ih (i + 1) _ (by omega)) rfl rfl (by rw [ji_fill_s (by omega) (by rw [bk_sk2 (by omega), bk_kind_in (by omega)]; congr 1; omega), ji_fill_s (by omega) (by rw [bk_sf2 (by omega), bk_fw_in (by omega)]; congr 1; omega)])
          | exact ji_eqv (ih (i + 1) _ (by omega)) rfl rfl (by rw [va_up_idem, va_up_idem, ji_fill_s (by omega) (by rw [bk_sk3 (by omega), if_pos (by rw [bk_kind_in (by omega)] at c87; rw [← c87]; congr 1; omega)]), ji_fill_s (by omega) (by rw [bk_sf3 (by omega), bk_fw_in (by omega)]; congr 2; omega)])
          | exact ji_eqv (ih (i + 1) _ (by omega)) rfl rfl (by rw [va_up_idem, va_up_idem, ji_fill_s (by omega) (by rw [bk_sk3 (by omega), if_neg (by intro z; apply c87; rw [bk_kind_in (by omega), ← z]; congr 1; omega), bk_kind_in (by omega)]; congr 1; omega), ji_fill_s (by omega) (by rw [bk_sf3 (by omega), bk_fw_in (by omega)]; congr 2; omega)])
        · refine ji_iconst dX0_withSplit_90 ?_
          refine ji_goto (tgt := 100) dX0_withSplit_91 rfl ?_
          refine ji_iastoreE dX0_withSplit_100 (nw2_k) (by omega) (nw2_sk) ?_
          refine ji_aload dX0_withSplit_101 rfl trivial ?_
          refine ji_iload dX0_withSplit_103 rfl ?_
          refine ji_aload_n dX0_withSplit_105 rfl trivial ?_
          refine ji_iload dX0_withSplit_106 rfl ?_
          refine ji_cV dX0_withSplit_108 (k_Book_firstWordOf (hat0.kept nw2_x.keep) hk (by omega)) rfl ((nw2_x.2 b hlt.1).trans hb) rfl rfl wX0_firstWordOf vX0_firstWordOf lX0_22 rfl (Nat.le_of_ble_eq_true rfl) rfl ?_
          refine ji_iload_n dX0_withSplit_111 rfl ?_
          refine ji_iadd dX0_withSplit_112 ?_
          refine ji_iastoreE dX0_withSplit_113 (nw2_f) (by omega) (nw2_sf) ?_
          refine ji_iinc dX0_withSplit_114 (by decide) rfl rfl ?_
          refine ji_goto (tgt := 24) dX0_withSplit_117 rfl ?_
          first
          | (exfalso; omega)
          | exact ji_eqv (ih (i + 1) _ (by omega)) rfl rfl (by rw [ji_fill_s (by omega) (by rw [bk_sk1 (by omega), bk_kind_in (by omega)]), ji_fill_s (by omega) (by rw [bk_sf1 (by omega), bk_fw_in (by omega)])])
          | exact ji_eqv (ih (i + 1) _ (by omega)) rfl rfl (by rw [ji_fill_s (by omega) (by rw [bk_sk2 (by omega), bk_kind_in (by omega)]; congr 1; omega), ji_fill_s (by omega) (by rw [bk_sf2 (by omega), bk_fw_in (by omega)]; congr 1; omega)])
          | exact ji_eqv (ih (i + 1) _ (by omega)) rfl rfl (by rw [va_up_idem, va_up_idem, ji_fill_s (by omega) (by rw [bk_sk3 (by omega), if_pos (by rw [bk_kind_in (by omega)] at c87; rw [← c87]; congr 1; omega)]), ji_fill_s (by omega) (by rw [bk_sf3 (by omega), bk_fw_in (by omega)]; congr 2; omega)])
          | exact ji_eqv (ih (i + 1) _ (by omega)) rfl rfl (by rw [va_up_idem, va_up_idem, ji_fill_s (by omega) (by rw [bk_sk3 (by omega), if_neg (by intro z; apply c87; rw [bk_kind_in (by omega), ← z]; congr 1; omega), bk_kind_in (by omega)]; congr 1; omega), ji_fill_s (by omega) (by rw [bk_sf3 (by omega), bk_fw_in (by omega)]; congr 2; omega)])

set_option maxHeartbeats 4000000 in
set_option maxRecDepth 100000 in
theorem k_Book_withSplit (hat : bk_at h b B) (hk : bk_ok B) {p : Nat} {k : Int} (hp : p < bk_P B) (h72 : 72 ≤ h.1) : JM G (d + 2) mX0_withSplit [.ref b, .int (jI p), .int (jI k)] h 3 (bk_P B + 1 + (bk_P B + 2) + 3) (fun r h' => ∃ b', r = .inl (some (.ref b')) ∧ ji_ext h h' 3 ∧ bk_at h' b' (bk_split B p k)) := by
  have hat0 := hat
  obtain ⟨w, kq, fq, hb, hkd, hfr, hwd, hdy, hlt⟩ := hat
  have hwd0 := hwd
  obtain ⟨t9, q9, hw, -⟩ := hwd
  obtain ⟨hko, k1, k2, k3⟩ := id hk
  have hko0 := hko
  obtain ⟨o1, o2, o3, o4⟩ := hko
  refine ji_ent (by decide) rfl (Nat.le_of_ble_eq_true rfl) rfl ?_
  refine ji_aload_n dX0_withSplit_0 rfl trivial ?_
  refine ji_get (ci := 0) (k := 1) rfl dX0_withSplit_1 lX0_15 (by decide) (hb) rfl ?_
  refine ji_alen dX0_withSplit_4 (hkd) (fun cy => rfl) ?_
  refine ji_iconst dX0_withSplit_5 ?_
  refine ji_iadd dX0_withSplit_6 ?_
  refine ji_newI dX0_withSplit_7 (by omega) (by omega) (by omega) ?_
  refine ji_astore_n dX0_withSplit_9 (by decide) trivial rfl ?_
  refine ji_aload_n dX0_withSplit_10 rfl trivial ?_
  refine ji_get (ci := 0) (k := 1) rfl dX0_withSplit_11 lX0_15 (by decide) ((va_up_ne _ _ (by omega)).trans hb) rfl ?_
  refine ji_alen dX0_withSplit_14 ((va_up_ne _ _ (by omega)).trans hkd) (fun cy => rfl) ?_
  refine ji_iconst dX0_withSplit_15 ?_
  refine ji_iadd dX0_withSplit_16 ?_
  refine ji_newI dX0_withSplit_17 (by omega) (by omega) (by omega) ?_
  refine ji_astore dX0_withSplit_19 (by decide) trivial rfl ?_
  refine ji_iconst dX0_withSplit_21 ?_
  refine ji_istore dX0_withSplit_22 (by decide) rfl ?_
  exact ji_eqv (h2 := (nw2 h (bk_P B + 1) (bk_P B + 2) (ji_fill (bk_sk B p) 0) (ji_fill (bk_sf B p k) 0))) (k_Book_withSplit_loop hat0 hk hp h72 (by omega) (by omega) (bk_P B + 1) 0 _ (by omega)) rfl rfl (by unfold nw2; rw [ji_fill_0, ji_fill_0]; rfl)

/-- kinds and first words behind a join -/
def bk_jk (B : bk_T) (p : Nat) : Nat → Int := fun j => if j ≤ p then bk_kd B j else bk_kd B (j + 1)
def bk_jf (B : bk_T) (p : Nat) : Nat → Int := fun j => if j ≤ p then bk_fr B j else bk_fr B (j + 1)
def bk_join (B : bk_T) (p : Nat) : bk_T := (bk_m B, bk_n B, bk_P B - 1, bk_tx B, bk_s B, ji_fill (bk_jk B p) (bk_P B - 1), va_up (ji_fill (bk_jf B p) (bk_P B - 1)) (bk_P B - 1) (bk_n B))
theorem bk_jk1 {B : bk_T} {p j : Nat} (h : j ≤ p) : bk_jk B p j = bk_kd B j := if_pos h
theorem bk_jk2 {B : bk_T} {p j : Nat} (h : p < j) : bk_jk B p j = bk_kd B (j + 1) := if_neg (by omega)
theorem bk_jf1 {B : bk_T} {p j : Nat} (h : j ≤ p) : bk_jf B p j = bk_fr B j := if_pos h
theorem bk_jf2 {B : bk_T} {p j : Nat} (h : p < j) : bk_jf B p j = bk_fr B (j + 1) := if_neg (by omega)

set_option maxHeartbeats 4000000 in
set_option maxRecDepth 100000 in
theorem k_Book_withJoined_loop (hat : bk_at h b B) (hk : bk_ok B) {p : Nat} (hp : p + 1 < bk_P B) (h72 : 72 ≤ h.1) {bc bs : Nat} (hbc : 1 ≤ bc) (hbs : 3 ≤ bs) : ∀ (f : Nat) (i : Int) (o5 : Option Value), 0 ≤ i ∧ i + f = bk_P B - 1 →
    JW G (d + 2) mX0_withJoined 32 [some (.ref b), some (.int (jI p)), some (.ref h.1), some (.ref (h.1 + 1)), some (.int (jI i)), o5] [] (nw2 h (bk_P B - 1) (bk_P B) (ji_fill (bk_jk B p) i) (ji_fill (bk_jf B p) i)) bc bs (fun r h' => ∃ b', r = .inl (some (.ref b')) ∧ ji_ext h h' 3 ∧ bk_at h' b' (bk_join B p)) := by
  have hat0 := hat
  obtain ⟨w, kq, fq, hb, hkd, hfr, hwd, hdy, hlt⟩ := hat
  have hwd0 := hwd
  obtain ⟨t9, q9, hw, -⟩ := hwd
  obtain ⟨hko, k1, k2, k3⟩ := id hk
  have hko0 := hko
  obtain ⟨o1, o2, o3, o4⟩ := hko
  intro f
  induction f with
  | zero =>
    intro i o5 hi
    have ei : i = ((bk_P B - 1 : Nat) : Int) := by omega
    have ei2 : (((bk_P B - 1 : Nat) : Int)).toNat = bk_P B - 1 := by omega
    have ei3 : ((bk_P B : Nat) : Int) - 1 = ((bk_P B - 1 : Nat) : Int) := by omega
    subst ei

    refine ji_iload dX0_withJoined_32 rfl ?_
    refine ji_aload_n dX0_withJoined_34 rfl trivial ?_
    refine ji_alen dX0_withJoined_35 (nw2_k) (fun cy => rfl) ?_
    refine ji_icmp_ge (tgt := 82) dX0_withJoined_36 rfl (by omega) (by omega) (fun c36 => ?_) (fun c36 => absurd c36 (by omega))
    refine ji_aload_n dX0_withJoined_82 rfl trivial ?_
    refine ji_aload_n dX0_withJoined_83 rfl trivial ?_
    refine ji_alen dX0_withJoined_84 (nw2_k) (fun cy => rfl) ?_
    refine ji_aload_n dX0_withJoined_85 rfl trivial ?_
    refine ji_get (ci := 0) (k := 0) rfl dX0_withJoined_86 lX0_9 (by decide) ((nw2_x.2 b hlt.1).trans hb) rfl ?_
    refine ji_cV dX0_withJoined_89 (k_Words_size (hwd0.kept nw2_x.keep) hko0) rfl ((nw2_x.2 w (by obtain ⟨_, _, _, _, _, _, l1, _⟩ := hwd0; exact l1)).trans hw) rfl rfl wX6_size vX6_size lX0_53 rfl (Nat.le_of_ble_eq_true rfl) rfl ?_
    refine ji_iastoreE dX0_withJoined_92 (nw2_f) (by omega) (nw2_sf) ?_
    refine ji_new (ci := 0) (fs := [.null, .null, .null]) rfl dX0_withJoined_93 lX0_10 (fun G ad => by simp [ji_vs, ji_v]) (by decide) (by omega) (by omega) ?_
    refine ji_dup dX0_withJoined_96 rfl ?_
    refine ji_aload_n dX0_withJoined_97 rfl trivial ?_
    refine ji_get (ci := 0) (k := 0) rfl dX0_withJoined_98 lX0_9 (by decide) ((va_up_ne _ _ (by show b ≠ h.1 + 1 + 1; omega)).trans ((nw2_x.2 b hlt.1).trans hb)) rfl ?_
    refine ji_aload_n dX0_withJoined_101 rfl trivial ?_
    refine ji_aload_n dX0_withJoined_102 rfl trivial ?_
    refine ji_callI dX0_withJoined_103 (k_Book_init (v0 := .null) (v1 := .null) (v2 := .null) (va_up_self _ _ _)) rfl wX0_init rfl rfl iX0_init lX0_61 rfl (Nat.le_of_ble_eq_true rfl) rfl (by omega) (by omega) (fun r h' q => ?_) (fun E h' q => by cases q.1)
    obtain ⟨hq1, rfl⟩ := q
    cases hq1
    exact ji_areturn dX0_withJoined_106 rfl (Or.inl ⟨_, rfl⟩) trivial ⟨_, rfl, ⟨rfl, fun a ha => (va_up_ne _ _ (by show a ≠ h.1 + 1 + 1; omega)).trans ((va_up_ne _ _ (by show a ≠ h.1 + 1 + 1; omega)).trans (nw2_x.2 a ha))⟩, w, h.1, h.1 + 1, va_up_self _ _ _, (va_up_ne _ _ (by show h.1 ≠ h.1 + 1 + 1; omega)).trans ((va_up_ne _ _ (by show h.1 ≠ h.1 + 1 + 1; omega)).trans (nw2_k.trans (by show _ = Sum.inr (FieldType.int, bk_P B - 1, Sum.inl (ji_fill (bk_jk B p) (bk_P B - 1))); rw [ei3]))), (va_up_ne _ _ (by show h.1 + 1 ≠ h.1 + 1 + 1; omega)).trans ((va_up_ne _ _ (by show h.1 + 1 ≠ h.1 + 1 + 1; omega)).trans (nw2_f.trans (by show _ = Sum.inr (FieldType.int, (bk_P B - 1) + 1, Sum.inl (va_up (ji_fill (bk_jf B p) (bk_P B - 1)) (bk_P B - 1) (bk_n B : Int))); rw [ei3, show bk_P B - 1 + 1 = bk_P B by omega]; rfl))), hwd0.kept ⟨by show h.1 ≤ h.1 + 1 + 1 + 1; omega, fun a _ ha => (va_up_ne _ _ (by show a ≠ h.1 + 1 + 1; omega)).trans ((va_up_ne _ _ (by show a ≠ h.1 + 1 + 1; omega)).trans (nw2_x.2 a ha))⟩, ⟨Or.inr (by show 72 ≤ h.1 + 1 + 1; omega), Or.inr h72, Or.inr (by omega)⟩, (by show h.1 + 1 + 1 < h.1 + 1 + 1 + 1; omega), (by show h.1 < h.1 + 1 + 1 + 1; omega), (by show h.1 + 1 < h.1 + 1 + 1 + 1; omega)⟩
  | succ f ih =>
    intro i o5 hi

    refine ji_iload dX0_withJoined_32 rfl ?_
    refine ji_aload_n dX0_withJoined_34 rfl trivial ?_
    refine ji_alen dX0_withJoined_35 (nw2_k) (fun cy => rfl) ?_
    refine ji_icmp_ge (tgt := 82) dX0_withJoined_36 rfl (by omega) (by omega) (fun c36 => absurd c36 (by omega)) (fun c36 => ?_)
    refine ji_iload dX0_withJoined_39 rfl ?_
    refine ji_iload_n dX0_withJoined_41 rfl ?_
    refine ji_icmp_gt (tgt := 50) dX0_withJoined_42 rfl (by omega) (by omega) (fun c42 => ?_) (fun c42 => ?_)
    · refine ji_iload dX0_withJoined_50 rfl ?_
      refine ji_iconst dX0_withJoined_52 ?_
      refine ji_iadd dX0_withJoined_53 ?_
      refine ji_istore dX0_withJoined_54 (by decide) rfl ?_
      refine ji_aload_n dX0_withJoined_56 rfl trivial ?_
      refine ji_iload dX0_withJoined_57 rfl ?_
      refine ji_aload_n dX0_withJoined_59 rfl trivial ?_
      refine ji_iload dX0_withJoined_60 rfl ?_
      refine ji_cV dX0_withJoined_62 (k_Book_kindOf (hat0.kept nw2_x.keep) hk (by omega)) rfl ((nw2_x.2 b hlt.1).trans hb) rfl rfl wX0_kindOf vX0_kindOf lX0_64 rfl (Nat.le_of_ble_eq_true rfl) rfl ?_
      refine ji_iastoreE dX0_withJoined_65 (nw2_k) (by omega) (nw2_sk) ?_
      refine ji_aload_n dX0_withJoined_66 rfl trivial ?_
      refine ji_iload dX0_withJoined_67 rfl ?_
      refine ji_aload_n dX0_withJoined_69 rfl trivial ?_
      refine ji_iload dX0_withJoined_70 rfl ?_
      refine ji_cV dX0_withJoined_72 (k_Book_firstWordOf (hat0.kept nw2_x.keep) hk (by omega)) rfl ((nw2_x.2 b hlt.1).trans hb) rfl rfl wX0_firstWordOf vX0_firstWordOf lX0_22 rfl (Nat.le_of_ble_eq_true rfl) rfl ?_
      refine ji_iastoreE dX0_withJoined_75 (nw2_f) (by omega) (nw2_sf) ?_
      refine ji_iinc dX0_withJoined_76 (by decide) rfl rfl ?_
      refine ji_goto (tgt := 32) dX0_withJoined_79 rfl ?_
      first
      | exact ji_eqv (ih (i + 1) _ (by omega)) rfl rfl (by rw [ji_fill_s (by omega) (by rw [bk_jk1 (by omega), bk_kind_in (by omega)]), ji_fill_s (by omega) (by rw [bk_jf1 (by omega), bk_fw_in (by omega)])])
      | exact ji_eqv (ih (i + 1) _ (by omega)) rfl rfl (by rw [ji_fill_s (by omega) (by rw [bk_jk2 (by omega), bk_kind_in (by omega)]; congr 1; omega), ji_fill_s (by omega) (by rw [bk_jf2 (by omega), bk_fw_in (by omega)]; congr 1; omega)])
    · refine ji_iload dX0_withJoined_45 rfl ?_
      refine ji_goto (tgt := 54) dX0_withJoined_47 rfl ?_
      refine ji_istore dX0_withJoined_54 (by decide) rfl ?_
      refine ji_aload_n dX0_withJoined_56 rfl trivial ?_
      refine ji_iload dX0_withJoined_57 rfl ?_
      refine ji_aload_n dX0_withJoined_59 rfl trivial ?_
      refine ji_iload dX0_withJoined_60 rfl ?_
      refine ji_cV dX0_withJoined_62 (k_Book_kindOf (hat0.kept nw2_x.keep) hk (by omega)) rfl ((nw2_x.2 b hlt.1).trans hb) rfl rfl wX0_kindOf vX0_kindOf lX0_64 rfl (Nat.le_of_ble_eq_true rfl) rfl ?_
      refine ji_iastoreE dX0_withJoined_65 (nw2_k) (by omega) (nw2_sk) ?_
      refine ji_aload_n dX0_withJoined_66 rfl trivial ?_
      refine ji_iload dX0_withJoined_67 rfl ?_
      refine ji_aload_n dX0_withJoined_69 rfl trivial ?_
      refine ji_iload dX0_withJoined_70 rfl ?_
      refine ji_cV dX0_withJoined_72 (k_Book_firstWordOf (hat0.kept nw2_x.keep) hk (by omega)) rfl ((nw2_x.2 b hlt.1).trans hb) rfl rfl wX0_firstWordOf vX0_firstWordOf lX0_22 rfl (Nat.le_of_ble_eq_true rfl) rfl ?_
      refine ji_iastoreE dX0_withJoined_75 (nw2_f) (by omega) (nw2_sf) ?_
      refine ji_iinc dX0_withJoined_76 (by decide) rfl rfl ?_
      refine ji_goto (tgt := 32) dX0_withJoined_79 rfl ?_
      first
      | exact ji_eqv (ih (i + 1) _ (by omega)) rfl rfl (by rw [ji_fill_s (by omega) (by rw [bk_jk1 (by omega), bk_kind_in (by omega)]), ji_fill_s (by omega) (by rw [bk_jf1 (by omega), bk_fw_in (by omega)])])
      | exact ji_eqv (ih (i + 1) _ (by omega)) rfl rfl (by rw [ji_fill_s (by omega) (by rw [bk_jk2 (by omega), bk_kind_in (by omega)]; congr 1; omega), ji_fill_s (by omega) (by rw [bk_jf2 (by omega), bk_fw_in (by omega)]; congr 1; omega)])

set_option maxHeartbeats 4000000 in
set_option maxRecDepth 100000 in
theorem k_Book_withJoined (hat : bk_at h b B) (hk : bk_ok B) {p : Nat} (hp : p + 1 < bk_P B) (h72 : 72 ≤ h.1) : JM G (d + 2) mX0_withJoined [.ref b, .int (jI p)] h 3 (bk_P B + bk_P B + 3) (fun r h' => ∃ b', r = .inl (some (.ref b')) ∧ ji_ext h h' 3 ∧ bk_at h' b' (bk_join B p)) := by
  have hat0 := hat
  obtain ⟨w, kq, fq, hb, hkd, hfr, hwd, hdy, hlt⟩ := hat
  have hwd0 := hwd
  obtain ⟨t9, q9, hw, -⟩ := hwd
  obtain ⟨hko, k1, k2, k3⟩ := id hk
  have hko0 := hko
  obtain ⟨o1, o2, o3, o4⟩ := hko
  refine ji_ent (by decide) rfl (Nat.le_of_ble_eq_true rfl) rfl ?_
  refine ji_aload_n dX0_withJoined_0 rfl trivial ?_
  refine ji_get (ci := 0) (k := 1) rfl dX0_withJoined_1 lX0_15 (by decide) (hb) rfl ?_
  refine ji_alen dX0_withJoined_4 (hkd) (fun cy => rfl) ?_
  refine ji_iconst dX0_withJoined_5 ?_
  refine ji_icmp_ge (tgt := 11) dX0_withJoined_6 rfl (by omega) (by omega) (fun c6 => ?_) (fun c6 => absurd c6 (by omega))
  refine ji_aload_n dX0_withJoined_11 rfl trivial ?_
  refine ji_get (ci := 0) (k := 1) rfl dX0_withJoined_12 lX0_15 (by decide) (hb) rfl ?_
  refine ji_alen dX0_withJoined_15 (hkd) (fun cy => rfl) ?_
  refine ji_iconst dX0_withJoined_16 ?_
  refine ji_isub dX0_withJoined_17 ?_
  refine ji_newI dX0_withJoined_18 (by omega) (by omega) (by omega) ?_
  refine ji_astore_n dX0_withJoined_20 (by decide) trivial rfl ?_
  refine ji_aload_n dX0_withJoined_21 rfl trivial ?_
  refine ji_get (ci := 0) (k := 1) rfl dX0_withJoined_22 lX0_15 (by decide) ((va_up_ne _ _ (by omega)).trans hb) rfl ?_
  refine ji_alen dX0_withJoined_25 ((va_up_ne _ _ (by omega)).trans hkd) (fun cy => rfl) ?_
  refine ji_newI dX0_withJoined_26 (by omega) (by omega) (by omega) ?_
  refine ji_astore_n dX0_withJoined_28 (by decide) trivial rfl ?_
  refine ji_iconst dX0_withJoined_29 ?_
  refine ji_istore dX0_withJoined_30 (by decide) rfl ?_
  exact ji_eqv (h2 := (nw2 h (bk_P B - 1) (bk_P B) (ji_fill (bk_jk B p) 0) (ji_fill (bk_jf B p) 0))) (k_Book_withJoined_loop hat0 hk hp h72 (by omega) (by omega) (bk_P B - 1) 0 _ (by omega)) rfl rfl (by unfold nw2; rw [ji_fill_0, ji_fill_0, show ((bk_P B : Int) - 1).toNat = bk_P B - 1 by omega]; rfl)

end MBook3
