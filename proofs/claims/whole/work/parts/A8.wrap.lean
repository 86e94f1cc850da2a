/-! ===== the law's wrappers ===== -/
section TryEnt
variable {G : ji_G} {d : Nat} {M : ji_M} {h : ji_H} {bc bs : Nat} {Q : ji_R → ji_H → Prop}
theorem ji_entT {as : List Value} {L0 : List (Option Value)} (hy : plainName M.1.cls = true) (htab : M.2.2.2.2 ≠ []) (hlen : (ji_la as).length ≤ M.2.2.1) (hL0 : ji_pad M.2.2.1 as = L0) (k : JW G d M 0 L0 [] h bc bs Q) : JM G d M as h bc bs Q := by
  have k2 : JW G d M 0 (ji_la as) [] h bc bs Q := by
    refine ji_weak (fun i v hi => ?_) k
    subst hL0
    unfold ji_pad at hi
    by_cases hl : i < (ji_la as).length
    · rw [List.getElem?_append_left hl] at hi; exact hi
    · rw [List.getElem?_append_right (by omega), List.getElem?_replicate] at hi
      split at hi <;> cases hi
  intro hG ad
  have hcw : ji_cw M = Cond.codeWith M.1 M.2.1 M.2.2.1 M.2.2.2.1 M.2.2.2.2 := by
    unfold ji_cw
    split
    · next q => exact absurd q htab
    · rfl
  refine vx_ofWH (cc := M.2.1) (maxL := M.2.2.1) (ret := M.2.2.2.1) (hh := M.2.2.2.2) (ws' := []) hy (by rw [hcw]) ?_
  intro p e s m args below meth c s₁ B hml hP
  have htb := vx_table (x := M.1) B (atoms_spec (ws := [ji_cw M]) B.pre _ (by rw [hcw]; exact List.mem_cons_self))
  obtain ⟨hW, as', ws, rfl, has, hw⟩ := hP
  have hl := lv_entry as' (n := M.2.2.1) (by rw [ji_la_len has]; exact hlen)
  rw [lg_entry_eq]
  generalize (lg_sl as' ++ List.replicate (M.2.2.1 - (lg_sl as').length) Slot.unset).toArray = ls at hl ⊢
  refine k2 hG p e _ s m _ below meth c s.heap [] 0 0 ls [] ad ad ws ⟨B.exec, B.bytes, hml, B.returns, findClass_of_methodNamed B.named, B.notSynchronized, (name_of_methodNamed B.named B.method).1, hW, htb⟩ (Nat.le_refl _) (Nat.le_refl _) (by show 0 + bc ≤ bc; omega) (by show 0 + bs ≤ bs; omega) hw va_S.rf hw.2.2.2.1 ⟨[], (List.append_nil ad).symm⟩ rfl ⟨_, hl, fun i v hi => ?_⟩
  obtain ⟨v', q1, q2⟩ := ji_la_at has i 0 v hi
  rw [Nat.zero_add] at q1
  exact ⟨v', q1, q2⟩
end TryEnt
/-- what a wrapper leaves -/
def WP (G : ji_G) (mR : ji_M) (as : List Value) (b : Int) (r : ji_R) (h9 : ji_H) : Prop := ∃ K a : Int, r = .inl (some (.int (jI K))) ∧ (0 ≤ K ∧ K ≤ 3) ∧ (∃ g, h9.2 71 = .inr (.long, 1, .inr (.inl g)) ∧ (K = 0 → g 0 = (jI a).toInt64)) ∧ (∃ fs, h9.2 60 = .inl (8, fs))
  ∧ JM G 12 mR (.ref 60 :: as) h9 0 0 (fun r2 h10 => ∃ v : Int, r2 = .inl (some (.int (jI v))) ∧ (K = 0 → v = a) ∧ h10.2 71 = h9.2 71 ∧ ST K b h10.1 h10.2)
def WR (G : ji_G) (mL mR : ji_M) (as : List Value) (b : Int) (n : Nat) (h : Nat → ji_C) : Prop := ∃ bc bs : Nat, bc ≤ 6 ∧ bs ≤ 8000 ∧ JM G 12 mL (.ref 0 :: (as ++ [.ref 71])) (n, h) bc bs (WP G mR as b)
theorem va_up_id {α : Type} (f : Nat → α) (k : Nat) : va_up f k (f k) = f := by
  funext x
  by_cases c : x = k
  · rw [c, va_up_self]
  · rw [va_up_ne _ _ c]
section WRAP
variable {G : ji_G} {b : Int} {n : Nat} {h : Nat → ji_C}

theorem w_append {v : Int} (hp : PR G 11 mX7_append mX8_append [.int (jI v)] [eA, eS] b n h) (h0 : ∃ fs, h 0 = .inl (7, fs)) (h71 : ∃ g, h 71 = .inr (.long, 1, .inr (.inl g))) : WR G mL_append mX8_append [.int (jI v)] b n h := by
  obtain ⟨bc, bs, hbc, hbs, hJ⟩ := hp
  obtain ⟨fs0, h0⟩ := h0
  obtain ⟨g71, h71⟩ := h71
  refine ⟨bc, bs, hbc, hbs, ji_entT (L0 := [some (.ref 0), some (.int (jI v)), some (.ref 71), none]) (by decide) (by decide) (Nat.le_of_ble_eq_true rfl) rfl ?_⟩
  refine ji_aload_n dL_append_0 rfl trivial ?_
  refine ji_iconst dL_append_1 ?_
  refine ji_aload_n dL_append_2 rfl trivial ?_
  refine ji_iload_n dL_append_3 rfl ?_
  refine ji_callVT (bc2 := bc) (bs2 := bs) dL_append_4 hJ rfl h0 rfl rfl wX7_append vX7_append lL_7 rfl (Nat.le_of_ble_eq_true rfl) (Nat.le_refl _) (Nat.le_refl _) (fun r h9 hq => ?_) (fun E h9 hq => ?_)
  · obtain ⟨K, a, hk, e71, e60, hR⟩ := hq
    rcases hk with ⟨e1, hK⟩ | ⟨i, E, _, e1, _⟩
    · cases e1
      refine ji_i2l dL_append_7 rfl ?_
      refine ji_lastore dL_append_8 (e71.trans h71) (by omega) ?_
      refine ji_goto (tgt := 18) dL_append_9 rfl ?_
      refine ji_iconst dL_append_18 ?_
      refine ji_ireturn dL_append_19 rfl rfl ⟨0, a, rfl, by omega, ⟨vp_updL g71 (0 : Int).toNat (jI a).toInt64, rfl, fun _ => rfl⟩, ?_, ?_⟩
      · obtain ⟨fs, e60⟩ := e60
        exact ⟨fs, e60⟩
      · refine (hR _).mono fun r2 h10 hq => ?_
        obtain ⟨v2, q1, q2, q3, q4⟩ := hq
        exact ⟨v2, q1, fun _ => q2 hK, q3.trans rfl, hK ▸ q4⟩
    · cases e1
  · obtain ⟨K, a, hk, e71, e60, hR⟩ := hq
    have hR2 := hR (h9.2 71)
    rw [va_up_id] at hR2
    rcases hk with ⟨e1, _⟩ | ⟨i, E', hi, e1, hK⟩
    · cases e1
    · cases e1
      rcases i with _ | i
      · cases hi
        refine ⟨12, ⟨[], ⟨0, 9, 12, 13⟩, [⟨0, 9, 15, 15⟩], rfl, fun z hz => absurd hz List.not_mem_nil, rfl, by decide, lL_13c, by decide, rfl⟩, ?_⟩
        refine ji_astore_n dL_append_12 (by decide) trivial rfl ?_
        refine ji_iconst dL_append_13 ?_
        refine ji_ireturn dL_append_14 rfl rfl ⟨1, a, rfl, by omega, ⟨g71, e71.trans h71, fun q => absurd q (by omega)⟩, e60, ?_⟩
        have hK' : K = 1 := by omega
        refine hR2.mono fun r2 h10 hq => ?_
        obtain ⟨v2, q1, q2, q3, q4⟩ := hq
        exact ⟨v2, q1, fun q => absurd q (by omega), q3, hK' ▸ q4⟩
      rcases i with _ | i
      · cases hi
        refine ⟨15, ⟨[⟨0, 9, 12, 13⟩], ⟨0, 9, 15, 15⟩, [], rfl, fun z hz => by
            simp only [List.mem_cons, List.not_mem_nil, or_false] at hz
            rcases hz with rfl
            · exact Or.inr ⟨by decide, _, by decide, by decide, lL_13c⟩, rfl, by decide, lL_15c, by decide, rfl⟩, ?_⟩
        refine ji_astore_n dL_append_15 (by decide) trivial rfl ?_
        refine ji_iconst dL_append_16 ?_
        refine ji_ireturn dL_append_17 rfl rfl ⟨2, a, rfl, by omega, ⟨g71, e71.trans h71, fun q => absurd q (by omega)⟩, e60, ?_⟩
        have hK' : K = 2 := by omega
        refine hR2.mono fun r2 h10 hq => ?_
        obtain ⟨v2, q1, q2, q3, q4⟩ := hq
        exact ⟨v2, q1, fun q => absurd q (by omega), q3, hK' ▸ q4⟩
      cases hi

theorem w_load (hp : PR G 11 mX7_load mX8_load [] [eS] b n h) (h0 : ∃ fs, h 0 = .inl (7, fs)) (h71 : ∃ g, h 71 = .inr (.long, 1, .inr (.inl g))) : WR G mL_load mX8_load [] b n h := by
  obtain ⟨bc, bs, hbc, hbs, hJ⟩ := hp
  obtain ⟨fs0, h0⟩ := h0
  obtain ⟨g71, h71⟩ := h71
  refine ⟨bc, bs, hbc, hbs, ji_entT (L0 := [some (.ref 0), some (.ref 71), none]) (by decide) (by decide) (Nat.le_of_ble_eq_true rfl) rfl ?_⟩
  refine ji_aload_n dL_load_0 rfl trivial ?_
  refine ji_iconst dL_load_1 ?_
  refine ji_aload_n dL_load_2 rfl trivial ?_
  refine ji_callVT (bc2 := bc) (bs2 := bs) dL_load_3 hJ rfl h0 rfl rfl wX7_load vX7_load lL_17 rfl (Nat.le_of_ble_eq_true rfl) (Nat.le_refl _) (Nat.le_refl _) (fun r h9 hq => ?_) (fun E h9 hq => ?_)
  · obtain ⟨K, a, hk, e71, e60, hR⟩ := hq
    rcases hk with ⟨e1, hK⟩ | ⟨i, E, _, e1, _⟩
    · cases e1
      refine ji_i2l dL_load_6 rfl ?_
      refine ji_lastore dL_load_7 (e71.trans h71) (by omega) ?_
      refine ji_goto (tgt := 14) dL_load_8 rfl ?_
      refine ji_iconst dL_load_14 ?_
      refine ji_ireturn dL_load_15 rfl rfl ⟨0, a, rfl, by omega, ⟨vp_updL g71 (0 : Int).toNat (jI a).toInt64, rfl, fun _ => rfl⟩, ?_, ?_⟩
      · obtain ⟨fs, e60⟩ := e60
        exact ⟨fs, e60⟩
      · refine (hR _).mono fun r2 h10 hq => ?_
        obtain ⟨v2, q1, q2, q3, q4⟩ := hq
        exact ⟨v2, q1, fun _ => q2 hK, q3.trans rfl, hK ▸ q4⟩
    · cases e1
  · obtain ⟨K, a, hk, e71, e60, hR⟩ := hq
    have hR2 := hR (h9.2 71)
    rw [va_up_id] at hR2
    rcases hk with ⟨e1, _⟩ | ⟨i, E', hi, e1, hK⟩
    · cases e1
    · cases e1
      rcases i with _ | i
      · cases hi
        refine ⟨11, ⟨[], ⟨0, 8, 11, 15⟩, [], rfl, fun z hz => absurd hz List.not_mem_nil, rfl, by decide, lL_15c, by decide, rfl⟩, ?_⟩
        refine ji_astore_n dL_load_11 (by decide) trivial rfl ?_
        refine ji_iconst dL_load_12 ?_
        refine ji_ireturn dL_load_13 rfl rfl ⟨1, a, rfl, by omega, ⟨g71, e71.trans h71, fun q => absurd q (by omega)⟩, e60, ?_⟩
        have hK' : K = 1 := by omega
        refine hR2.mono fun r2 h10 hq => ?_
        obtain ⟨v2, q1, q2, q3, q4⟩ := hq
        exact ⟨v2, q1, fun q => absurd q (by omega), q3, hK' ▸ q4⟩
      cases hi

theorem w_setNote {v : Int} (hp : PR G 11 mX7_setNote mX8_setNote [.int (jI v)] [eI, eS] b n h) (h0 : ∃ fs, h 0 = .inl (7, fs)) (h71 : ∃ g, h 71 = .inr (.long, 1, .inr (.inl g))) : WR G mL_setNote mX8_setNote [.int (jI v)] b n h := by
  obtain ⟨bc, bs, hbc, hbs, hJ⟩ := hp
  obtain ⟨fs0, h0⟩ := h0
  obtain ⟨g71, h71⟩ := h71
  refine ⟨bc, bs, hbc, hbs, ji_entT (L0 := [some (.ref 0), some (.int (jI v)), some (.ref 71), none]) (by decide) (by decide) (Nat.le_of_ble_eq_true rfl) rfl ?_⟩
  refine ji_aload_n dL_setNote_0 rfl trivial ?_
  refine ji_iconst dL_setNote_1 ?_
  refine ji_aload_n dL_setNote_2 rfl trivial ?_
  refine ji_iload_n dL_setNote_3 rfl ?_
  refine ji_callVT (bc2 := bc) (bs2 := bs) dL_setNote_4 hJ rfl h0 rfl rfl wX7_setNote vX7_setNote lL_21 rfl (Nat.le_of_ble_eq_true rfl) (Nat.le_refl _) (Nat.le_refl _) (fun r h9 hq => ?_) (fun E h9 hq => ?_)
  · obtain ⟨K, a, hk, e71, e60, hR⟩ := hq
    rcases hk with ⟨e1, hK⟩ | ⟨i, E, _, e1, _⟩
    · cases e1
      refine ji_i2l dL_setNote_7 rfl ?_
      refine ji_lastore dL_setNote_8 (e71.trans h71) (by omega) ?_
      refine ji_goto (tgt := 18) dL_setNote_9 rfl ?_
      refine ji_iconst dL_setNote_18 ?_
      refine ji_ireturn dL_setNote_19 rfl rfl ⟨0, a, rfl, by omega, ⟨vp_updL g71 (0 : Int).toNat (jI a).toInt64, rfl, fun _ => rfl⟩, ?_, ?_⟩
      · obtain ⟨fs, e60⟩ := e60
        exact ⟨fs, e60⟩
      · refine (hR _).mono fun r2 h10 hq => ?_
        obtain ⟨v2, q1, q2, q3, q4⟩ := hq
        exact ⟨v2, q1, fun _ => q2 hK, q3.trans rfl, hK ▸ q4⟩
    · cases e1
  · obtain ⟨K, a, hk, e71, e60, hR⟩ := hq
    have hR2 := hR (h9.2 71)
    rw [va_up_id] at hR2
    rcases hk with ⟨e1, _⟩ | ⟨i, E', hi, e1, hK⟩
    · cases e1
    · cases e1
      rcases i with _ | i
      · cases hi
        refine ⟨12, ⟨[], ⟨0, 9, 12, 24⟩, [⟨0, 9, 15, 15⟩], rfl, fun z hz => absurd hz List.not_mem_nil, rfl, by decide, lL_24c, by decide, rfl⟩, ?_⟩
        refine ji_astore_n dL_setNote_12 (by decide) trivial rfl ?_
        refine ji_iconst dL_setNote_13 ?_
        refine ji_ireturn dL_setNote_14 rfl rfl ⟨1, a, rfl, by omega, ⟨g71, e71.trans h71, fun q => absurd q (by omega)⟩, e60, ?_⟩
        have hK' : K = 1 := by omega
        refine hR2.mono fun r2 h10 hq => ?_
        obtain ⟨v2, q1, q2, q3, q4⟩ := hq
        exact ⟨v2, q1, fun q => absurd q (by omega), q3, hK' ▸ q4⟩
      rcases i with _ | i
      · cases hi
        refine ⟨15, ⟨[⟨0, 9, 12, 24⟩], ⟨0, 9, 15, 15⟩, [], rfl, fun z hz => by
            simp only [List.mem_cons, List.not_mem_nil, or_false] at hz
            rcases hz with rfl
            · exact Or.inr ⟨by decide, _, by decide, by decide, lL_24c⟩, rfl, by decide, lL_15c, by decide, rfl⟩, ?_⟩
        refine ji_astore_n dL_setNote_15 (by decide) trivial rfl ?_
        refine ji_iconst dL_setNote_16 ?_
        refine ji_ireturn dL_setNote_17 rfl rfl ⟨2, a, rfl, by omega, ⟨g71, e71.trans h71, fun q => absurd q (by omega)⟩, e60, ?_⟩
        have hK' : K = 2 := by omega
        refine hR2.mono fun r2 h10 hq => ?_
        obtain ⟨v2, q1, q2, q3, q4⟩ := hq
        exact ⟨v2, q1, fun q => absurd q (by omega), q3, hK' ▸ q4⟩
      cases hi

theorem w_removeNote {v : Int} (hp : PR G 11 mX7_removeNote mX8_removeNote [.int (jI v)] [eI, eS] b n h) (h0 : ∃ fs, h 0 = .inl (7, fs)) (h71 : ∃ g, h 71 = .inr (.long, 1, .inr (.inl g))) : WR G mL_removeNote mX8_removeNote [.int (jI v)] b n h := by
  obtain ⟨bc, bs, hbc, hbs, hJ⟩ := hp
  obtain ⟨fs0, h0⟩ := h0
  obtain ⟨g71, h71⟩ := h71
  refine ⟨bc, bs, hbc, hbs, ji_entT (L0 := [some (.ref 0), some (.int (jI v)), some (.ref 71), none]) (by decide) (by decide) (Nat.le_of_ble_eq_true rfl) rfl ?_⟩
  refine ji_aload_n dL_removeNote_0 rfl trivial ?_
  refine ji_iconst dL_removeNote_1 ?_
  refine ji_aload_n dL_removeNote_2 rfl trivial ?_
  refine ji_iload_n dL_removeNote_3 rfl ?_
  refine ji_callVT (bc2 := bc) (bs2 := bs) dL_removeNote_4 hJ rfl h0 rfl rfl wX7_removeNote vX7_removeNote lL_26 rfl (Nat.le_of_ble_eq_true rfl) (Nat.le_refl _) (Nat.le_refl _) (fun r h9 hq => ?_) (fun E h9 hq => ?_)
  · obtain ⟨K, a, hk, e71, e60, hR⟩ := hq
    rcases hk with ⟨e1, hK⟩ | ⟨i, E, _, e1, _⟩
    · cases e1
      refine ji_i2l dL_removeNote_7 rfl ?_
      refine ji_lastore dL_removeNote_8 (e71.trans h71) (by omega) ?_
      refine ji_goto (tgt := 18) dL_removeNote_9 rfl ?_
      refine ji_iconst dL_removeNote_18 ?_
      refine ji_ireturn dL_removeNote_19 rfl rfl ⟨0, a, rfl, by omega, ⟨vp_updL g71 (0 : Int).toNat (jI a).toInt64, rfl, fun _ => rfl⟩, ?_, ?_⟩
      · obtain ⟨fs, e60⟩ := e60
        exact ⟨fs, e60⟩
      · refine (hR _).mono fun r2 h10 hq => ?_
        obtain ⟨v2, q1, q2, q3, q4⟩ := hq
        exact ⟨v2, q1, fun _ => q2 hK, q3.trans rfl, hK ▸ q4⟩
    · cases e1
  · obtain ⟨K, a, hk, e71, e60, hR⟩ := hq
    have hR2 := hR (h9.2 71)
    rw [va_up_id] at hR2
    rcases hk with ⟨e1, _⟩ | ⟨i, E', hi, e1, hK⟩
    · cases e1
    · cases e1
      rcases i with _ | i
      · cases hi
        refine ⟨12, ⟨[], ⟨0, 9, 12, 24⟩, [⟨0, 9, 15, 15⟩], rfl, fun z hz => absurd hz List.not_mem_nil, rfl, by decide, lL_24c, by decide, rfl⟩, ?_⟩
        refine ji_astore_n dL_removeNote_12 (by decide) trivial rfl ?_
        refine ji_iconst dL_removeNote_13 ?_
        refine ji_ireturn dL_removeNote_14 rfl rfl ⟨1, a, rfl, by omega, ⟨g71, e71.trans h71, fun q => absurd q (by omega)⟩, e60, ?_⟩
        have hK' : K = 1 := by omega
        refine hR2.mono fun r2 h10 hq => ?_
        obtain ⟨v2, q1, q2, q3, q4⟩ := hq
        exact ⟨v2, q1, fun q => absurd q (by omega), q3, hK' ▸ q4⟩
      rcases i with _ | i
      · cases hi
        refine ⟨15, ⟨[⟨0, 9, 12, 24⟩], ⟨0, 9, 15, 15⟩, [], rfl, fun z hz => by
            simp only [List.mem_cons, List.not_mem_nil, or_false] at hz
            rcases hz with rfl
            · exact Or.inr ⟨by decide, _, by decide, by decide, lL_24c⟩, rfl, by decide, lL_15c, by decide, rfl⟩, ?_⟩
        refine ji_astore_n dL_removeNote_15 (by decide) trivial rfl ?_
        refine ji_iconst dL_removeNote_16 ?_
        refine ji_ireturn dL_removeNote_17 rfl rfl ⟨2, a, rfl, by omega, ⟨g71, e71.trans h71, fun q => absurd q (by omega)⟩, e60, ?_⟩
        have hK' : K = 2 := by omega
        refine hR2.mono fun r2 h10 hq => ?_
        obtain ⟨v2, q1, q2, q3, q4⟩ := hq
        exact ⟨v2, q1, fun q => absurd q (by omega), q3, hK' ▸ q4⟩
      cases hi

theorem w_setSize {v m : Int} (hp : PR G 11 mX7_setSize mX8_setSize [.int (jI v), .int (jI m)] [eA] b n h) (h0 : ∃ fs, h 0 = .inl (7, fs)) (h71 : ∃ g, h 71 = .inr (.long, 1, .inr (.inl g))) : WR G mL_setSize mX8_setSize [.int (jI v), .int (jI m)] b n h := by
  obtain ⟨bc, bs, hbc, hbs, hJ⟩ := hp
  obtain ⟨fs0, h0⟩ := h0
  obtain ⟨g71, h71⟩ := h71
  refine ⟨bc, bs, hbc, hbs, ji_entT (L0 := [some (.ref 0), some (.int (jI v)), some (.int (jI m)), some (.ref 71), none]) (by decide) (by decide) (Nat.le_of_ble_eq_true rfl) rfl ?_⟩
  refine ji_aload_n dL_setSize_0 rfl trivial ?_
  refine ji_iconst dL_setSize_1 ?_
  refine ji_aload_n dL_setSize_2 rfl trivial ?_
  refine ji_iload_n dL_setSize_3 rfl ?_
  refine ji_iload_n dL_setSize_4 rfl ?_
  refine ji_callVT (bc2 := bc) (bs2 := bs) dL_setSize_5 hJ rfl h0 rfl rfl wX7_setSize vX7_setSize lL_29 rfl (Nat.le_of_ble_eq_true rfl) (Nat.le_refl _) (Nat.le_refl _) (fun r h9 hq => ?_) (fun E h9 hq => ?_)
  · obtain ⟨K, a, hk, e71, e60, hR⟩ := hq
    rcases hk with ⟨e1, hK⟩ | ⟨i, E, _, e1, _⟩
    · cases e1
      refine ji_i2l dL_setSize_8 rfl ?_
      refine ji_lastore dL_setSize_9 (e71.trans h71) (by omega) ?_
      refine ji_goto (tgt := 17) dL_setSize_10 rfl ?_
      refine ji_iconst dL_setSize_17 ?_
      refine ji_ireturn dL_setSize_18 rfl rfl ⟨0, a, rfl, by omega, ⟨vp_updL g71 (0 : Int).toNat (jI a).toInt64, rfl, fun _ => rfl⟩, ?_, ?_⟩
      · obtain ⟨fs, e60⟩ := e60
        exact ⟨fs, e60⟩
      · refine (hR _).mono fun r2 h10 hq => ?_
        obtain ⟨v2, q1, q2, q3, q4⟩ := hq
        exact ⟨v2, q1, fun _ => q2 hK, q3.trans rfl, hK ▸ q4⟩
    · cases e1
  · obtain ⟨K, a, hk, e71, e60, hR⟩ := hq
    have hR2 := hR (h9.2 71)
    rw [va_up_id] at hR2
    rcases hk with ⟨e1, _⟩ | ⟨i, E', hi, e1, hK⟩
    · cases e1
    · cases e1
      rcases i with _ | i
      · cases hi
        refine ⟨13, ⟨[], ⟨0, 10, 13, 13⟩, [], rfl, fun z hz => absurd hz List.not_mem_nil, rfl, by decide, lL_13c, by decide, rfl⟩, ?_⟩
        refine ji_astore dL_setSize_13 (by decide) trivial rfl ?_
        refine ji_iconst dL_setSize_15 ?_
        refine ji_ireturn dL_setSize_16 rfl rfl ⟨1, a, rfl, by omega, ⟨g71, e71.trans h71, fun q => absurd q (by omega)⟩, e60, ?_⟩
        have hK' : K = 1 := by omega
        refine hR2.mono fun r2 h10 hq => ?_
        obtain ⟨v2, q1, q2, q3, q4⟩ := hq
        exact ⟨v2, q1, fun q => absurd q (by omega), q3, hK' ▸ q4⟩
      cases hi

theorem w_setStyle {v m : Int} (hp : PR G 11 mX7_setStyle mX8_setStyle [.int (jI v), .int (jI m)] [eA] b n h) (h0 : ∃ fs, h 0 = .inl (7, fs)) (h71 : ∃ g, h 71 = .inr (.long, 1, .inr (.inl g))) : WR G mL_setStyle mX8_setStyle [.int (jI v), .int (jI m)] b n h := by
  obtain ⟨bc, bs, hbc, hbs, hJ⟩ := hp
  obtain ⟨fs0, h0⟩ := h0
  obtain ⟨g71, h71⟩ := h71
  refine ⟨bc, bs, hbc, hbs, ji_entT (L0 := [some (.ref 0), some (.int (jI v)), some (.int (jI m)), some (.ref 71), none]) (by decide) (by decide) (Nat.le_of_ble_eq_true rfl) rfl ?_⟩
  refine ji_aload_n dL_setStyle_0 rfl trivial ?_
  refine ji_iconst dL_setStyle_1 ?_
  refine ji_aload_n dL_setStyle_2 rfl trivial ?_
  refine ji_iload_n dL_setStyle_3 rfl ?_
  refine ji_iload_n dL_setStyle_4 rfl ?_
  refine ji_callVT (bc2 := bc) (bs2 := bs) dL_setStyle_5 hJ rfl h0 rfl rfl wX7_setStyle vX7_setStyle lL_33 rfl (Nat.le_of_ble_eq_true rfl) (Nat.le_refl _) (Nat.le_refl _) (fun r h9 hq => ?_) (fun E h9 hq => ?_)
  · obtain ⟨K, a, hk, e71, e60, hR⟩ := hq
    rcases hk with ⟨e1, hK⟩ | ⟨i, E, _, e1, _⟩
    · cases e1
      refine ji_i2l dL_setStyle_8 rfl ?_
      refine ji_lastore dL_setStyle_9 (e71.trans h71) (by omega) ?_
      refine ji_goto (tgt := 17) dL_setStyle_10 rfl ?_
      refine ji_iconst dL_setStyle_17 ?_
      refine ji_ireturn dL_setStyle_18 rfl rfl ⟨0, a, rfl, by omega, ⟨vp_updL g71 (0 : Int).toNat (jI a).toInt64, rfl, fun _ => rfl⟩, ?_, ?_⟩
      · obtain ⟨fs, e60⟩ := e60
        exact ⟨fs, e60⟩
      · refine (hR _).mono fun r2 h10 hq => ?_
        obtain ⟨v2, q1, q2, q3, q4⟩ := hq
        exact ⟨v2, q1, fun _ => q2 hK, q3.trans rfl, hK ▸ q4⟩
    · cases e1
  · obtain ⟨K, a, hk, e71, e60, hR⟩ := hq
    have hR2 := hR (h9.2 71)
    rw [va_up_id] at hR2
    rcases hk with ⟨e1, _⟩ | ⟨i, E', hi, e1, hK⟩
    · cases e1
    · cases e1
      rcases i with _ | i
      · cases hi
        refine ⟨13, ⟨[], ⟨0, 10, 13, 13⟩, [], rfl, fun z hz => absurd hz List.not_mem_nil, rfl, by decide, lL_13c, by decide, rfl⟩, ?_⟩
        refine ji_astore dL_setStyle_13 (by decide) trivial rfl ?_
        refine ji_iconst dL_setStyle_15 ?_
        refine ji_ireturn dL_setStyle_16 rfl rfl ⟨1, a, rfl, by omega, ⟨g71, e71.trans h71, fun q => absurd q (by omega)⟩, e60, ?_⟩
        have hK' : K = 1 := by omega
        refine hR2.mono fun r2 h10 hq => ?_
        obtain ⟨v2, q1, q2, q3, q4⟩ := hq
        exact ⟨v2, q1, fun q => absurd q (by omega), q3, hK' ▸ q4⟩
      cases hi

theorem w_page {v m : Int} (hp : PR G 11 mX7_page mX8_page [.int (jI v), .int (jI m)] [eI, eA] b n h) (h0 : ∃ fs, h 0 = .inl (7, fs)) (h71 : ∃ g, h 71 = .inr (.long, 1, .inr (.inl g))) : WR G mL_page mX8_page [.int (jI v), .int (jI m)] b n h := by
  obtain ⟨bc, bs, hbc, hbs, hJ⟩ := hp
  obtain ⟨fs0, h0⟩ := h0
  obtain ⟨g71, h71⟩ := h71
  refine ⟨bc, bs, hbc, hbs, ji_entT (L0 := [some (.ref 0), some (.int (jI v)), some (.int (jI m)), some (.ref 71), none]) (by decide) (by decide) (Nat.le_of_ble_eq_true rfl) rfl ?_⟩
  refine ji_aload_n dL_page_0 rfl trivial ?_
  refine ji_iconst dL_page_1 ?_
  refine ji_aload_n dL_page_2 rfl trivial ?_
  refine ji_iload_n dL_page_3 rfl ?_
  refine ji_iload_n dL_page_4 rfl ?_
  refine ji_callVT (bc2 := bc) (bs2 := bs) dL_page_5 hJ rfl h0 rfl rfl wX7_page vX7_page lL_36 rfl (Nat.le_of_ble_eq_true rfl) (Nat.le_refl _) (Nat.le_refl _) (fun r h9 hq => ?_) (fun E h9 hq => ?_)
  · obtain ⟨K, a, hk, e71, e60, hR⟩ := hq
    rcases hk with ⟨e1, hK⟩ | ⟨i, E, _, e1, _⟩
    · cases e1
      refine ji_i2l dL_page_8 rfl ?_
      refine ji_lastore dL_page_9 (e71.trans h71) (by omega) ?_
      refine ji_goto (tgt := 21) dL_page_10 rfl ?_
      refine ji_iconst dL_page_21 ?_
      refine ji_ireturn dL_page_22 rfl rfl ⟨0, a, rfl, by omega, ⟨vp_updL g71 (0 : Int).toNat (jI a).toInt64, rfl, fun _ => rfl⟩, ?_, ?_⟩
      · obtain ⟨fs, e60⟩ := e60
        exact ⟨fs, e60⟩
      · refine (hR _).mono fun r2 h10 hq => ?_
        obtain ⟨v2, q1, q2, q3, q4⟩ := hq
        exact ⟨v2, q1, fun _ => q2 hK, q3.trans rfl, hK ▸ q4⟩
    · cases e1
  · obtain ⟨K, a, hk, e71, e60, hR⟩ := hq
    have hR2 := hR (h9.2 71)
    rw [va_up_id] at hR2
    rcases hk with ⟨e1, _⟩ | ⟨i, E', hi, e1, hK⟩
    · cases e1
    · cases e1
      rcases i with _ | i
      · cases hi
        refine ⟨13, ⟨[], ⟨0, 10, 13, 24⟩, [⟨0, 10, 17, 13⟩], rfl, fun z hz => absurd hz List.not_mem_nil, rfl, by decide, lL_24c, by decide, rfl⟩, ?_⟩
        refine ji_astore dL_page_13 (by decide) trivial rfl ?_
        refine ji_iconst dL_page_15 ?_
        refine ji_ireturn dL_page_16 rfl rfl ⟨1, a, rfl, by omega, ⟨g71, e71.trans h71, fun q => absurd q (by omega)⟩, e60, ?_⟩
        have hK' : K = 1 := by omega
        refine hR2.mono fun r2 h10 hq => ?_
        obtain ⟨v2, q1, q2, q3, q4⟩ := hq
        exact ⟨v2, q1, fun q => absurd q (by omega), q3, hK' ▸ q4⟩
      rcases i with _ | i
      · cases hi
        refine ⟨17, ⟨[⟨0, 10, 13, 24⟩], ⟨0, 10, 17, 13⟩, [], rfl, fun z hz => by
            simp only [List.mem_cons, List.not_mem_nil, or_false] at hz
            rcases hz with rfl
            · exact Or.inr ⟨by decide, _, by decide, by decide, lL_24c⟩, rfl, by decide, lL_13c, by decide, rfl⟩, ?_⟩
        refine ji_astore dL_page_17 (by decide) trivial rfl ?_
        refine ji_iconst dL_page_19 ?_
        refine ji_ireturn dL_page_20 rfl rfl ⟨2, a, rfl, by omega, ⟨g71, e71.trans h71, fun q => absurd q (by omega)⟩, e60, ?_⟩
        have hK' : K = 2 := by omega
        refine hR2.mono fun r2 h10 hq => ?_
        obtain ⟨v2, q1, q2, q3, q4⟩ := hq
        exact ⟨v2, q1, fun q => absurd q (by omega), q3, hK' ▸ q4⟩
      cases hi

theorem w_line {v m : Int} (hp : PR G 11 mX7_line mX8_line [.int (jI v), .int (jI m)] [eI, eA] b n h) (h0 : ∃ fs, h 0 = .inl (7, fs)) (h71 : ∃ g, h 71 = .inr (.long, 1, .inr (.inl g))) : WR G mL_line mX8_line [.int (jI v), .int (jI m)] b n h := by
  obtain ⟨bc, bs, hbc, hbs, hJ⟩ := hp
  obtain ⟨fs0, h0⟩ := h0
  obtain ⟨g71, h71⟩ := h71
  refine ⟨bc, bs, hbc, hbs, ji_entT (L0 := [some (.ref 0), some (.int (jI v)), some (.int (jI m)), some (.ref 71), none]) (by decide) (by decide) (Nat.le_of_ble_eq_true rfl) rfl ?_⟩
  refine ji_aload_n dL_line_0 rfl trivial ?_
  refine ji_iconst dL_line_1 ?_
  refine ji_aload_n dL_line_2 rfl trivial ?_
  refine ji_iload_n dL_line_3 rfl ?_
  refine ji_iload_n dL_line_4 rfl ?_
  refine ji_callVT (bc2 := bc) (bs2 := bs) dL_line_5 hJ rfl h0 rfl rfl wX7_line vX7_line lL_39 rfl (Nat.le_of_ble_eq_true rfl) (Nat.le_refl _) (Nat.le_refl _) (fun r h9 hq => ?_) (fun E h9 hq => ?_)
  · obtain ⟨K, a, hk, e71, e60, hR⟩ := hq
    rcases hk with ⟨e1, hK⟩ | ⟨i, E, _, e1, _⟩
    · cases e1
      refine ji_i2l dL_line_8 rfl ?_
      refine ji_lastore dL_line_9 (e71.trans h71) (by omega) ?_
      refine ji_goto (tgt := 21) dL_line_10 rfl ?_
      refine ji_iconst dL_line_21 ?_
      refine ji_ireturn dL_line_22 rfl rfl ⟨0, a, rfl, by omega, ⟨vp_updL g71 (0 : Int).toNat (jI a).toInt64, rfl, fun _ => rfl⟩, ?_, ?_⟩
      · obtain ⟨fs, e60⟩ := e60
        exact ⟨fs, e60⟩
      · refine (hR _).mono fun r2 h10 hq => ?_
        obtain ⟨v2, q1, q2, q3, q4⟩ := hq
        exact ⟨v2, q1, fun _ => q2 hK, q3.trans rfl, hK ▸ q4⟩
    · cases e1
  · obtain ⟨K, a, hk, e71, e60, hR⟩ := hq
    have hR2 := hR (h9.2 71)
    rw [va_up_id] at hR2
    rcases hk with ⟨e1, _⟩ | ⟨i, E', hi, e1, hK⟩
    · cases e1
    · cases e1
      rcases i with _ | i
      · cases hi
        refine ⟨13, ⟨[], ⟨0, 10, 13, 24⟩, [⟨0, 10, 17, 13⟩], rfl, fun z hz => absurd hz List.not_mem_nil, rfl, by decide, lL_24c, by decide, rfl⟩, ?_⟩
        refine ji_astore dL_line_13 (by decide) trivial rfl ?_
        refine ji_iconst dL_line_15 ?_
        refine ji_ireturn dL_line_16 rfl rfl ⟨1, a, rfl, by omega, ⟨g71, e71.trans h71, fun q => absurd q (by omega)⟩, e60, ?_⟩
        have hK' : K = 1 := by omega
        refine hR2.mono fun r2 h10 hq => ?_
        obtain ⟨v2, q1, q2, q3, q4⟩ := hq
        exact ⟨v2, q1, fun q => absurd q (by omega), q3, hK' ▸ q4⟩
      rcases i with _ | i
      · cases hi
        refine ⟨17, ⟨[⟨0, 10, 13, 24⟩], ⟨0, 10, 17, 13⟩, [], rfl, fun z hz => by
            simp only [List.mem_cons, List.not_mem_nil, or_false] at hz
            rcases hz with rfl
            · exact Or.inr ⟨by decide, _, by decide, by decide, lL_24c⟩, rfl, by decide, lL_13c, by decide, rfl⟩, ?_⟩
        refine ji_astore dL_line_17 (by decide) trivial rfl ?_
        refine ji_iconst dL_line_19 ?_
        refine ji_ireturn dL_line_20 rfl rfl ⟨2, a, rfl, by omega, ⟨g71, e71.trans h71, fun q => absurd q (by omega)⟩, e60, ?_⟩
        have hK' : K = 2 := by omega
        refine hR2.mono fun r2 h10 hq => ?_
        obtain ⟨v2, q1, q2, q3, q4⟩ := hq
        exact ⟨v2, q1, fun q => absurd q (by omega), q3, hK' ▸ q4⟩
      cases hi

theorem w_shown {v m o : Int} (hp : PR G 11 mX7_shown mX8_shown [.int (jI v), .int (jI m), .int (jI o)] [eI, eA] b n h) (h0 : ∃ fs, h 0 = .inl (7, fs)) (h71 : ∃ g, h 71 = .inr (.long, 1, .inr (.inl g))) : WR G mL_shown mX8_shown [.int (jI v), .int (jI m), .int (jI o)] b n h := by
  obtain ⟨bc, bs, hbc, hbs, hJ⟩ := hp
  obtain ⟨fs0, h0⟩ := h0
  obtain ⟨g71, h71⟩ := h71
  refine ⟨bc, bs, hbc, hbs, ji_entT (L0 := [some (.ref 0), some (.int (jI v)), some (.int (jI m)), some (.int (jI o)), some (.ref 71), none]) (by decide) (by decide) (Nat.le_of_ble_eq_true rfl) rfl ?_⟩
  refine ji_aload dL_shown_0 rfl trivial ?_
  refine ji_iconst dL_shown_2 ?_
  refine ji_aload_n dL_shown_3 rfl trivial ?_
  refine ji_iload_n dL_shown_4 rfl ?_
  refine ji_iload_n dL_shown_5 rfl ?_
  refine ji_iload_n dL_shown_6 rfl ?_
  refine ji_callVT (bc2 := bc) (bs2 := bs) dL_shown_7 hJ rfl h0 rfl rfl wX7_shown vX7_shown lL_42 rfl (Nat.le_of_ble_eq_true rfl) (Nat.le_refl _) (Nat.le_refl _) (fun r h9 hq => ?_) (fun E h9 hq => ?_)
  · obtain ⟨K, a, hk, e71, e60, hR⟩ := hq
    rcases hk with ⟨e1, hK⟩ | ⟨i, E, _, e1, _⟩
    · cases e1
      refine ji_i2l dL_shown_10 rfl ?_
      refine ji_lastore dL_shown_11 (e71.trans h71) (by omega) ?_
      refine ji_goto (tgt := 23) dL_shown_12 rfl ?_
      refine ji_iconst dL_shown_23 ?_
      refine ji_ireturn dL_shown_24 rfl rfl ⟨0, a, rfl, by omega, ⟨vp_updL g71 (0 : Int).toNat (jI a).toInt64, rfl, fun _ => rfl⟩, ?_, ?_⟩
      · obtain ⟨fs, e60⟩ := e60
        exact ⟨fs, e60⟩
      · refine (hR _).mono fun r2 h10 hq => ?_
        obtain ⟨v2, q1, q2, q3, q4⟩ := hq
        exact ⟨v2, q1, fun _ => q2 hK, q3.trans rfl, hK ▸ q4⟩
    · cases e1
  · obtain ⟨K, a, hk, e71, e60, hR⟩ := hq
    have hR2 := hR (h9.2 71)
    rw [va_up_id] at hR2
    rcases hk with ⟨e1, _⟩ | ⟨i, E', hi, e1, hK⟩
    · cases e1
    · cases e1
      rcases i with _ | i
      · cases hi
        refine ⟨15, ⟨[], ⟨0, 12, 15, 24⟩, [⟨0, 12, 19, 13⟩], rfl, fun z hz => absurd hz List.not_mem_nil, rfl, by decide, lL_24c, by decide, rfl⟩, ?_⟩
        refine ji_astore dL_shown_15 (by decide) trivial rfl ?_
        refine ji_iconst dL_shown_17 ?_
        refine ji_ireturn dL_shown_18 rfl rfl ⟨1, a, rfl, by omega, ⟨g71, e71.trans h71, fun q => absurd q (by omega)⟩, e60, ?_⟩
        have hK' : K = 1 := by omega
        refine hR2.mono fun r2 h10 hq => ?_
        obtain ⟨v2, q1, q2, q3, q4⟩ := hq
        exact ⟨v2, q1, fun q => absurd q (by omega), q3, hK' ▸ q4⟩
      rcases i with _ | i
      · cases hi
        refine ⟨19, ⟨[⟨0, 12, 15, 24⟩], ⟨0, 12, 19, 13⟩, [], rfl, fun z hz => by
            simp only [List.mem_cons, List.not_mem_nil, or_false] at hz
            rcases hz with rfl
            · exact Or.inr ⟨by decide, _, by decide, by decide, lL_24c⟩, rfl, by decide, lL_13c, by decide, rfl⟩, ?_⟩
        refine ji_astore dL_shown_19 (by decide) trivial rfl ?_
        refine ji_iconst dL_shown_21 ?_
        refine ji_ireturn dL_shown_22 rfl rfl ⟨2, a, rfl, by omega, ⟨g71, e71.trans h71, fun q => absurd q (by omega)⟩, e60, ?_⟩
        have hK' : K = 2 := by omega
        refine hR2.mono fun r2 h10 hq => ?_
        obtain ⟨v2, q1, q2, q3, q4⟩ := hq
        exact ⟨v2, q1, fun q => absurd q (by omega), q3, hK' ▸ q4⟩
      cases hi

theorem w_noteOn {v m : Int} (hp : PR G 11 mX7_noteOn mX8_noteOn [.int (jI v), .int (jI m)] [eI] b n h) (h0 : ∃ fs, h 0 = .inl (7, fs)) (h71 : ∃ g, h 71 = .inr (.long, 1, .inr (.inl g))) : WR G mL_noteOn mX8_noteOn [.int (jI v), .int (jI m)] b n h := by
  obtain ⟨bc, bs, hbc, hbs, hJ⟩ := hp
  obtain ⟨fs0, h0⟩ := h0
  obtain ⟨g71, h71⟩ := h71
  refine ⟨bc, bs, hbc, hbs, ji_entT (L0 := [some (.ref 0), some (.int (jI v)), some (.int (jI m)), some (.ref 71), none]) (by decide) (by decide) (Nat.le_of_ble_eq_true rfl) rfl ?_⟩
  refine ji_aload_n dL_noteOn_0 rfl trivial ?_
  refine ji_iconst dL_noteOn_1 ?_
  refine ji_aload_n dL_noteOn_2 rfl trivial ?_
  refine ji_iload_n dL_noteOn_3 rfl ?_
  refine ji_iload_n dL_noteOn_4 rfl ?_
  refine ji_callVT (bc2 := bc) (bs2 := bs) dL_noteOn_5 hJ rfl h0 rfl rfl wX7_noteOn vX7_noteOn lL_46 rfl (Nat.le_of_ble_eq_true rfl) (Nat.le_refl _) (Nat.le_refl _) (fun r h9 hq => ?_) (fun E h9 hq => ?_)
  · obtain ⟨K, a, hk, e71, e60, hR⟩ := hq
    rcases hk with ⟨e1, hK⟩ | ⟨i, E, _, e1, _⟩
    · cases e1
      refine ji_i2l dL_noteOn_8 rfl ?_
      refine ji_lastore dL_noteOn_9 (e71.trans h71) (by omega) ?_
      refine ji_goto (tgt := 17) dL_noteOn_10 rfl ?_
      refine ji_iconst dL_noteOn_17 ?_
      refine ji_ireturn dL_noteOn_18 rfl rfl ⟨0, a, rfl, by omega, ⟨vp_updL g71 (0 : Int).toNat (jI a).toInt64, rfl, fun _ => rfl⟩, ?_, ?_⟩
      · obtain ⟨fs, e60⟩ := e60
        exact ⟨fs, e60⟩
      · refine (hR _).mono fun r2 h10 hq => ?_
        obtain ⟨v2, q1, q2, q3, q4⟩ := hq
        exact ⟨v2, q1, fun _ => q2 hK, q3.trans rfl, hK ▸ q4⟩
    · cases e1
  · obtain ⟨K, a, hk, e71, e60, hR⟩ := hq
    have hR2 := hR (h9.2 71)
    rw [va_up_id] at hR2
    rcases hk with ⟨e1, _⟩ | ⟨i, E', hi, e1, hK⟩
    · cases e1
    · cases e1
      rcases i with _ | i
      · cases hi
        refine ⟨13, ⟨[], ⟨0, 10, 13, 24⟩, [], rfl, fun z hz => absurd hz List.not_mem_nil, rfl, by decide, lL_24c, by decide, rfl⟩, ?_⟩
        refine ji_astore dL_noteOn_13 (by decide) trivial rfl ?_
        refine ji_iconst dL_noteOn_15 ?_
        refine ji_ireturn dL_noteOn_16 rfl rfl ⟨1, a, rfl, by omega, ⟨g71, e71.trans h71, fun q => absurd q (by omega)⟩, e60, ?_⟩
        have hK' : K = 1 := by omega
        refine hR2.mono fun r2 h10 hq => ?_
        obtain ⟨v2, q1, q2, q3, q4⟩ := hq
        exact ⟨v2, q1, fun q => absurd q (by omega), q3, hK' ▸ q4⟩
      cases hi

theorem w_pageOf {v m : Int} (hp : PR G 11 mX7_pageOf mX8_pageOf [.int (jI v), .int (jI m)] [eI] b n h) (h0 : ∃ fs, h 0 = .inl (7, fs)) (h71 : ∃ g, h 71 = .inr (.long, 1, .inr (.inl g))) : WR G mL_pageOf mX8_pageOf [.int (jI v), .int (jI m)] b n h := by
  obtain ⟨bc, bs, hbc, hbs, hJ⟩ := hp
  obtain ⟨fs0, h0⟩ := h0
  obtain ⟨g71, h71⟩ := h71
  refine ⟨bc, bs, hbc, hbs, ji_entT (L0 := [some (.ref 0), some (.int (jI v)), some (.int (jI m)), some (.ref 71), none]) (by decide) (by decide) (Nat.le_of_ble_eq_true rfl) rfl ?_⟩
  refine ji_aload_n dL_pageOf_0 rfl trivial ?_
  refine ji_iconst dL_pageOf_1 ?_
  refine ji_aload_n dL_pageOf_2 rfl trivial ?_
  refine ji_iload_n dL_pageOf_3 rfl ?_
  refine ji_iload_n dL_pageOf_4 rfl ?_
  refine ji_callVT (bc2 := bc) (bs2 := bs) dL_pageOf_5 hJ rfl h0 rfl rfl wX7_pageOf vX7_pageOf lL_49 rfl (Nat.le_of_ble_eq_true rfl) (Nat.le_refl _) (Nat.le_refl _) (fun r h9 hq => ?_) (fun E h9 hq => ?_)
  · obtain ⟨K, a, hk, e71, e60, hR⟩ := hq
    rcases hk with ⟨e1, hK⟩ | ⟨i, E, _, e1, _⟩
    · cases e1
      refine ji_i2l dL_pageOf_8 rfl ?_
      refine ji_lastore dL_pageOf_9 (e71.trans h71) (by omega) ?_
      refine ji_goto (tgt := 17) dL_pageOf_10 rfl ?_
      refine ji_iconst dL_pageOf_17 ?_
      refine ji_ireturn dL_pageOf_18 rfl rfl ⟨0, a, rfl, by omega, ⟨vp_updL g71 (0 : Int).toNat (jI a).toInt64, rfl, fun _ => rfl⟩, ?_, ?_⟩
      · obtain ⟨fs, e60⟩ := e60
        exact ⟨fs, e60⟩
      · refine (hR _).mono fun r2 h10 hq => ?_
        obtain ⟨v2, q1, q2, q3, q4⟩ := hq
        exact ⟨v2, q1, fun _ => q2 hK, q3.trans rfl, hK ▸ q4⟩
    · cases e1
  · obtain ⟨K, a, hk, e71, e60, hR⟩ := hq
    have hR2 := hR (h9.2 71)
    rw [va_up_id] at hR2
    rcases hk with ⟨e1, _⟩ | ⟨i, E', hi, e1, hK⟩
    · cases e1
    · cases e1
      rcases i with _ | i
      · cases hi
        refine ⟨13, ⟨[], ⟨0, 10, 13, 24⟩, [], rfl, fun z hz => absurd hz List.not_mem_nil, rfl, by decide, lL_24c, by decide, rfl⟩, ?_⟩
        refine ji_astore dL_pageOf_13 (by decide) trivial rfl ?_
        refine ji_iconst dL_pageOf_15 ?_
        refine ji_ireturn dL_pageOf_16 rfl rfl ⟨1, a, rfl, by omega, ⟨g71, e71.trans h71, fun q => absurd q (by omega)⟩, e60, ?_⟩
        have hK' : K = 1 := by omega
        refine hR2.mono fun r2 h10 hq => ?_
        obtain ⟨v2, q1, q2, q3, q4⟩ := hq
        exact ⟨v2, q1, fun q => absurd q (by omega), q3, hK' ▸ q4⟩
      cases hi

theorem w_floating {v m : Int} (hp : PR G 11 mX7_floating mX8_floating [.int (jI v), .int (jI m)] [eI] b n h) (h0 : ∃ fs, h 0 = .inl (7, fs)) (h71 : ∃ g, h 71 = .inr (.long, 1, .inr (.inl g))) : WR G mL_floating mX8_floating [.int (jI v), .int (jI m)] b n h := by
  obtain ⟨bc, bs, hbc, hbs, hJ⟩ := hp
  obtain ⟨fs0, h0⟩ := h0
  obtain ⟨g71, h71⟩ := h71
  refine ⟨bc, bs, hbc, hbs, ji_entT (L0 := [some (.ref 0), some (.int (jI v)), some (.int (jI m)), some (.ref 71), none]) (by decide) (by decide) (Nat.le_of_ble_eq_true rfl) rfl ?_⟩
  refine ji_aload_n dL_floating_0 rfl trivial ?_
  refine ji_iconst dL_floating_1 ?_
  refine ji_aload_n dL_floating_2 rfl trivial ?_
  refine ji_iload_n dL_floating_3 rfl ?_
  refine ji_iload_n dL_floating_4 rfl ?_
  refine ji_callVT (bc2 := bc) (bs2 := bs) dL_floating_5 hJ rfl h0 rfl rfl wX7_floating vX7_floating lL_52 rfl (Nat.le_of_ble_eq_true rfl) (Nat.le_refl _) (Nat.le_refl _) (fun r h9 hq => ?_) (fun E h9 hq => ?_)
  · obtain ⟨K, a, hk, e71, e60, hR⟩ := hq
    rcases hk with ⟨e1, hK⟩ | ⟨i, E, _, e1, _⟩
    · cases e1
      refine ji_i2l dL_floating_8 rfl ?_
      refine ji_lastore dL_floating_9 (e71.trans h71) (by omega) ?_
      refine ji_goto (tgt := 17) dL_floating_10 rfl ?_
      refine ji_iconst dL_floating_17 ?_
      refine ji_ireturn dL_floating_18 rfl rfl ⟨0, a, rfl, by omega, ⟨vp_updL g71 (0 : Int).toNat (jI a).toInt64, rfl, fun _ => rfl⟩, ?_, ?_⟩
      · obtain ⟨fs, e60⟩ := e60
        exact ⟨fs, e60⟩
      · refine (hR _).mono fun r2 h10 hq => ?_
        obtain ⟨v2, q1, q2, q3, q4⟩ := hq
        exact ⟨v2, q1, fun _ => q2 hK, q3.trans rfl, hK ▸ q4⟩
    · cases e1
  · obtain ⟨K, a, hk, e71, e60, hR⟩ := hq
    have hR2 := hR (h9.2 71)
    rw [va_up_id] at hR2
    rcases hk with ⟨e1, _⟩ | ⟨i, E', hi, e1, hK⟩
    · cases e1
    · cases e1
      rcases i with _ | i
      · cases hi
        refine ⟨13, ⟨[], ⟨0, 10, 13, 24⟩, [], rfl, fun z hz => absurd hz List.not_mem_nil, rfl, by decide, lL_24c, by decide, rfl⟩, ?_⟩
        refine ji_astore dL_floating_13 (by decide) trivial rfl ?_
        refine ji_iconst dL_floating_15 ?_
        refine ji_ireturn dL_floating_16 rfl rfl ⟨1, a, rfl, by omega, ⟨g71, e71.trans h71, fun q => absurd q (by omega)⟩, e60, ?_⟩
        have hK' : K = 1 := by omega
        refine hR2.mono fun r2 h10 hq => ?_
        obtain ⟨v2, q1, q2, q3, q4⟩ := hq
        exact ⟨v2, q1, fun q => absurd q (by omega), q3, hK' ▸ q4⟩
      cases hi

theorem w_go {v m : Int} (hp : PR G 11 mX7_go mX8_go [.int (jI v), .int (jI m)] [eI] b n h) (h0 : ∃ fs, h 0 = .inl (7, fs)) (h71 : ∃ g, h 71 = .inr (.long, 1, .inr (.inl g))) : WR G mL_go mX8_go [.int (jI v), .int (jI m)] b n h := by
  obtain ⟨bc, bs, hbc, hbs, hJ⟩ := hp
  obtain ⟨fs0, h0⟩ := h0
  obtain ⟨g71, h71⟩ := h71
  refine ⟨bc, bs, hbc, hbs, ji_entT (L0 := [some (.ref 0), some (.int (jI v)), some (.int (jI m)), some (.ref 71), none]) (by decide) (by decide) (Nat.le_of_ble_eq_true rfl) rfl ?_⟩
  refine ji_aload_n dL_go_0 rfl trivial ?_
  refine ji_iconst dL_go_1 ?_
  refine ji_aload_n dL_go_2 rfl trivial ?_
  refine ji_iload_n dL_go_3 rfl ?_
  refine ji_iload_n dL_go_4 rfl ?_
  refine ji_callVT (bc2 := bc) (bs2 := bs) dL_go_5 hJ rfl h0 rfl rfl wX7_go vX7_go lL_56 rfl (Nat.le_of_ble_eq_true rfl) (Nat.le_refl _) (Nat.le_refl _) (fun r h9 hq => ?_) (fun E h9 hq => ?_)
  · obtain ⟨K, a, hk, e71, e60, hR⟩ := hq
    rcases hk with ⟨e1, hK⟩ | ⟨i, E, _, e1, _⟩
    · cases e1
      refine ji_i2l dL_go_8 rfl ?_
      refine ji_lastore dL_go_9 (e71.trans h71) (by omega) ?_
      refine ji_goto (tgt := 17) dL_go_10 rfl ?_
      refine ji_iconst dL_go_17 ?_
      refine ji_ireturn dL_go_18 rfl rfl ⟨0, a, rfl, by omega, ⟨vp_updL g71 (0 : Int).toNat (jI a).toInt64, rfl, fun _ => rfl⟩, ?_, ?_⟩
      · obtain ⟨fs, e60⟩ := e60
        exact ⟨fs, e60⟩
      · refine (hR _).mono fun r2 h10 hq => ?_
        obtain ⟨v2, q1, q2, q3, q4⟩ := hq
        exact ⟨v2, q1, fun _ => q2 hK, q3.trans rfl, hK ▸ q4⟩
    · cases e1
  · obtain ⟨K, a, hk, e71, e60, hR⟩ := hq
    have hR2 := hR (h9.2 71)
    rw [va_up_id] at hR2
    rcases hk with ⟨e1, _⟩ | ⟨i, E', hi, e1, hK⟩
    · cases e1
    · cases e1
      rcases i with _ | i
      · cases hi
        refine ⟨13, ⟨[], ⟨0, 10, 13, 24⟩, [], rfl, fun z hz => absurd hz List.not_mem_nil, rfl, by decide, lL_24c, by decide, rfl⟩, ?_⟩
        refine ji_astore dL_go_13 (by decide) trivial rfl ?_
        refine ji_iconst dL_go_15 ?_
        refine ji_ireturn dL_go_16 rfl rfl ⟨1, a, rfl, by omega, ⟨g71, e71.trans h71, fun q => absurd q (by omega)⟩, e60, ?_⟩
        have hK' : K = 1 := by omega
        refine hR2.mono fun r2 h10 hq => ?_
        obtain ⟨v2, q1, q2, q3, q4⟩ := hq
        exact ⟨v2, q1, fun q => absurd q (by omega), q3, hK' ▸ q4⟩
      cases hi

theorem w_back (hp : PR G 11 mX7_back mX8_back [] [eS] b n h) (h0 : ∃ fs, h 0 = .inl (7, fs)) (h71 : ∃ g, h 71 = .inr (.long, 1, .inr (.inl g))) : WR G mL_back mX8_back [] b n h := by
  obtain ⟨bc, bs, hbc, hbs, hJ⟩ := hp
  obtain ⟨fs0, h0⟩ := h0
  obtain ⟨g71, h71⟩ := h71
  refine ⟨bc, bs, hbc, hbs, ji_entT (L0 := [some (.ref 0), some (.ref 71), none]) (by decide) (by decide) (Nat.le_of_ble_eq_true rfl) rfl ?_⟩
  refine ji_aload_n dL_back_0 rfl trivial ?_
  refine ji_iconst dL_back_1 ?_
  refine ji_aload_n dL_back_2 rfl trivial ?_
  refine ji_callVT (bc2 := bc) (bs2 := bs) dL_back_3 hJ rfl h0 rfl rfl wX7_back vX7_back lL_59 rfl (Nat.le_of_ble_eq_true rfl) (Nat.le_refl _) (Nat.le_refl _) (fun r h9 hq => ?_) (fun E h9 hq => ?_)
  · obtain ⟨K, a, hk, e71, e60, hR⟩ := hq
    rcases hk with ⟨e1, hK⟩ | ⟨i, E, _, e1, _⟩
    · cases e1
      refine ji_i2l dL_back_6 rfl ?_
      refine ji_lastore dL_back_7 (e71.trans h71) (by omega) ?_
      refine ji_goto (tgt := 14) dL_back_8 rfl ?_
      refine ji_iconst dL_back_14 ?_
      refine ji_ireturn dL_back_15 rfl rfl ⟨0, a, rfl, by omega, ⟨vp_updL g71 (0 : Int).toNat (jI a).toInt64, rfl, fun _ => rfl⟩, ?_, ?_⟩
      · obtain ⟨fs, e60⟩ := e60
        exact ⟨fs, e60⟩
      · refine (hR _).mono fun r2 h10 hq => ?_
        obtain ⟨v2, q1, q2, q3, q4⟩ := hq
        exact ⟨v2, q1, fun _ => q2 hK, q3.trans rfl, hK ▸ q4⟩
    · cases e1
  · obtain ⟨K, a, hk, e71, e60, hR⟩ := hq
    have hR2 := hR (h9.2 71)
    rw [va_up_id] at hR2
    rcases hk with ⟨e1, _⟩ | ⟨i, E', hi, e1, hK⟩
    · cases e1
    · cases e1
      rcases i with _ | i
      · cases hi
        refine ⟨11, ⟨[], ⟨0, 8, 11, 15⟩, [], rfl, fun z hz => absurd hz List.not_mem_nil, rfl, by decide, lL_15c, by decide, rfl⟩, ?_⟩
        refine ji_astore_n dL_back_11 (by decide) trivial rfl ?_
        refine ji_iconst dL_back_12 ?_
        refine ji_ireturn dL_back_13 rfl rfl ⟨1, a, rfl, by omega, ⟨g71, e71.trans h71, fun q => absurd q (by omega)⟩, e60, ?_⟩
        have hK' : K = 1 := by omega
        refine hR2.mono fun r2 h10 hq => ?_
        obtain ⟨v2, q1, q2, q3, q4⟩ := hq
        exact ⟨v2, q1, fun q => absurd q (by omega), q3, hK' ▸ q4⟩
      cases hi

theorem w_find {v : Int} (hp : PR G 11 mX7_find mX8_find [.int (jI v)] [eS] b n h) (h0 : ∃ fs, h 0 = .inl (7, fs)) (h71 : ∃ g, h 71 = .inr (.long, 1, .inr (.inl g))) : WR G mL_find mX8_find [.int (jI v)] b n h := by
  obtain ⟨bc, bs, hbc, hbs, hJ⟩ := hp
  obtain ⟨fs0, h0⟩ := h0
  obtain ⟨g71, h71⟩ := h71
  refine ⟨bc, bs, hbc, hbs, ji_entT (L0 := [some (.ref 0), some (.int (jI v)), some (.ref 71), none]) (by decide) (by decide) (Nat.le_of_ble_eq_true rfl) rfl ?_⟩
  refine ji_aload_n dL_find_0 rfl trivial ?_
  refine ji_iconst dL_find_1 ?_
  refine ji_aload_n dL_find_2 rfl trivial ?_
  refine ji_iload_n dL_find_3 rfl ?_
  refine ji_callVT (bc2 := bc) (bs2 := bs) dL_find_4 hJ rfl h0 rfl rfl wX7_find vX7_find lL_62 rfl (Nat.le_of_ble_eq_true rfl) (Nat.le_refl _) (Nat.le_refl _) (fun r h9 hq => ?_) (fun E h9 hq => ?_)
  · obtain ⟨K, a, hk, e71, e60, hR⟩ := hq
    rcases hk with ⟨e1, hK⟩ | ⟨i, E, _, e1, _⟩
    · cases e1
      refine ji_i2l dL_find_7 rfl ?_
      refine ji_lastore dL_find_8 (e71.trans h71) (by omega) ?_
      refine ji_goto (tgt := 15) dL_find_9 rfl ?_
      refine ji_iconst dL_find_15 ?_
      refine ji_ireturn dL_find_16 rfl rfl ⟨0, a, rfl, by omega, ⟨vp_updL g71 (0 : Int).toNat (jI a).toInt64, rfl, fun _ => rfl⟩, ?_, ?_⟩
      · obtain ⟨fs, e60⟩ := e60
        exact ⟨fs, e60⟩
      · refine (hR _).mono fun r2 h10 hq => ?_
        obtain ⟨v2, q1, q2, q3, q4⟩ := hq
        exact ⟨v2, q1, fun _ => q2 hK, q3.trans rfl, hK ▸ q4⟩
    · cases e1
  · obtain ⟨K, a, hk, e71, e60, hR⟩ := hq
    have hR2 := hR (h9.2 71)
    rw [va_up_id] at hR2
    rcases hk with ⟨e1, _⟩ | ⟨i, E', hi, e1, hK⟩
    · cases e1
    · cases e1
      rcases i with _ | i
      · cases hi
        refine ⟨12, ⟨[], ⟨0, 9, 12, 15⟩, [], rfl, fun z hz => absurd hz List.not_mem_nil, rfl, by decide, lL_15c, by decide, rfl⟩, ?_⟩
        refine ji_astore_n dL_find_12 (by decide) trivial rfl ?_
        refine ji_iconst dL_find_13 ?_
        refine ji_ireturn dL_find_14 rfl rfl ⟨1, a, rfl, by omega, ⟨g71, e71.trans h71, fun q => absurd q (by omega)⟩, e60, ?_⟩
        have hK' : K = 1 := by omega
        refine hR2.mono fun r2 h10 hq => ?_
        obtain ⟨v2, q1, q2, q3, q4⟩ := hq
        exact ⟨v2, q1, fun q => absurd q (by omega), q3, hK' ▸ q4⟩
      cases hi

theorem w_count {v : Int} (hp : PR G 11 mX7_count mX8_count [.int (jI v)] [eA] b n h) (h0 : ∃ fs, h 0 = .inl (7, fs)) (h71 : ∃ g, h 71 = .inr (.long, 1, .inr (.inl g))) : WR G mL_count mX8_count [.int (jI v)] b n h := by
  obtain ⟨bc, bs, hbc, hbs, hJ⟩ := hp
  obtain ⟨fs0, h0⟩ := h0
  obtain ⟨g71, h71⟩ := h71
  refine ⟨bc, bs, hbc, hbs, ji_entT (L0 := [some (.ref 0), some (.int (jI v)), some (.ref 71), none]) (by decide) (by decide) (Nat.le_of_ble_eq_true rfl) rfl ?_⟩
  refine ji_aload_n dL_count_0 rfl trivial ?_
  refine ji_iconst dL_count_1 ?_
  refine ji_aload_n dL_count_2 rfl trivial ?_
  refine ji_iload_n dL_count_3 rfl ?_
  refine ji_callVT (bc2 := bc) (bs2 := bs) dL_count_4 hJ rfl h0 rfl rfl wX7_count vX7_count lL_66 rfl (Nat.le_of_ble_eq_true rfl) (Nat.le_refl _) (Nat.le_refl _) (fun r h9 hq => ?_) (fun E h9 hq => ?_)
  · obtain ⟨K, a, hk, e71, e60, hR⟩ := hq
    rcases hk with ⟨e1, hK⟩ | ⟨i, E, _, e1, _⟩
    · cases e1
      refine ji_i2l dL_count_7 rfl ?_
      refine ji_lastore dL_count_8 (e71.trans h71) (by omega) ?_
      refine ji_goto (tgt := 15) dL_count_9 rfl ?_
      refine ji_iconst dL_count_15 ?_
      refine ji_ireturn dL_count_16 rfl rfl ⟨0, a, rfl, by omega, ⟨vp_updL g71 (0 : Int).toNat (jI a).toInt64, rfl, fun _ => rfl⟩, ?_, ?_⟩
      · obtain ⟨fs, e60⟩ := e60
        exact ⟨fs, e60⟩
      · refine (hR _).mono fun r2 h10 hq => ?_
        obtain ⟨v2, q1, q2, q3, q4⟩ := hq
        exact ⟨v2, q1, fun _ => q2 hK, q3.trans rfl, hK ▸ q4⟩
    · cases e1
  · obtain ⟨K, a, hk, e71, e60, hR⟩ := hq
    have hR2 := hR (h9.2 71)
    rw [va_up_id] at hR2
    rcases hk with ⟨e1, _⟩ | ⟨i, E', hi, e1, hK⟩
    · cases e1
    · cases e1
      rcases i with _ | i
      · cases hi
        refine ⟨12, ⟨[], ⟨0, 9, 12, 13⟩, [], rfl, fun z hz => absurd hz List.not_mem_nil, rfl, by decide, lL_13c, by decide, rfl⟩, ?_⟩
        refine ji_astore_n dL_count_12 (by decide) trivial rfl ?_
        refine ji_iconst dL_count_13 ?_
        refine ji_ireturn dL_count_14 rfl rfl ⟨1, a, rfl, by omega, ⟨g71, e71.trans h71, fun q => absurd q (by omega)⟩, e60, ?_⟩
        have hK' : K = 1 := by omega
        refine hR2.mono fun r2 h10 hq => ?_
        obtain ⟨v2, q1, q2, q3, q4⟩ := hq
        exact ⟨v2, q1, fun q => absurd q (by omega), q3, hK' ▸ q4⟩
      cases hi

theorem w_paragraph {v m : Int} (hp : PR G 11 mX7_paragraph mX8_paragraph [.int (jI v), .int (jI m)] [eI, eA] b n h) (h0 : ∃ fs, h 0 = .inl (7, fs)) (h71 : ∃ g, h 71 = .inr (.long, 1, .inr (.inl g))) : WR G mL_paragraph mX8_paragraph [.int (jI v), .int (jI m)] b n h := by
  obtain ⟨bc, bs, hbc, hbs, hJ⟩ := hp
  obtain ⟨fs0, h0⟩ := h0
  obtain ⟨g71, h71⟩ := h71
  refine ⟨bc, bs, hbc, hbs, ji_entT (L0 := [some (.ref 0), some (.int (jI v)), some (.int (jI m)), some (.ref 71), none]) (by decide) (by decide) (Nat.le_of_ble_eq_true rfl) rfl ?_⟩
  refine ji_aload_n dL_paragraph_0 rfl trivial ?_
  refine ji_iconst dL_paragraph_1 ?_
  refine ji_aload_n dL_paragraph_2 rfl trivial ?_
  refine ji_iload_n dL_paragraph_3 rfl ?_
  refine ji_iload_n dL_paragraph_4 rfl ?_
  refine ji_callVT (bc2 := bc) (bs2 := bs) dL_paragraph_5 hJ rfl h0 rfl rfl wX7_paragraph vX7_paragraph lL_69 rfl (Nat.le_of_ble_eq_true rfl) (Nat.le_refl _) (Nat.le_refl _) (fun r h9 hq => ?_) (fun E h9 hq => ?_)
  · obtain ⟨K, a, hk, e71, e60, hR⟩ := hq
    rcases hk with ⟨e1, hK⟩ | ⟨i, E, _, e1, _⟩
    · cases e1
      refine ji_i2l dL_paragraph_8 rfl ?_
      refine ji_lastore dL_paragraph_9 (e71.trans h71) (by omega) ?_
      refine ji_goto (tgt := 21) dL_paragraph_10 rfl ?_
      refine ji_iconst dL_paragraph_21 ?_
      refine ji_ireturn dL_paragraph_22 rfl rfl ⟨0, a, rfl, by omega, ⟨vp_updL g71 (0 : Int).toNat (jI a).toInt64, rfl, fun _ => rfl⟩, ?_, ?_⟩
      · obtain ⟨fs, e60⟩ := e60
        exact ⟨fs, e60⟩
      · refine (hR _).mono fun r2 h10 hq => ?_
        obtain ⟨v2, q1, q2, q3, q4⟩ := hq
        exact ⟨v2, q1, fun _ => q2 hK, q3.trans rfl, hK ▸ q4⟩
    · cases e1
  · obtain ⟨K, a, hk, e71, e60, hR⟩ := hq
    have hR2 := hR (h9.2 71)
    rw [va_up_id] at hR2
    rcases hk with ⟨e1, _⟩ | ⟨i, E', hi, e1, hK⟩
    · cases e1
    · cases e1
      rcases i with _ | i
      · cases hi
        refine ⟨13, ⟨[], ⟨0, 10, 13, 24⟩, [⟨0, 10, 17, 13⟩], rfl, fun z hz => absurd hz List.not_mem_nil, rfl, by decide, lL_24c, by decide, rfl⟩, ?_⟩
        refine ji_astore dL_paragraph_13 (by decide) trivial rfl ?_
        refine ji_iconst dL_paragraph_15 ?_
        refine ji_ireturn dL_paragraph_16 rfl rfl ⟨1, a, rfl, by omega, ⟨g71, e71.trans h71, fun q => absurd q (by omega)⟩, e60, ?_⟩
        have hK' : K = 1 := by omega
        refine hR2.mono fun r2 h10 hq => ?_
        obtain ⟨v2, q1, q2, q3, q4⟩ := hq
        exact ⟨v2, q1, fun q => absurd q (by omega), q3, hK' ▸ q4⟩
      rcases i with _ | i
      · cases hi
        refine ⟨17, ⟨[⟨0, 10, 13, 24⟩], ⟨0, 10, 17, 13⟩, [], rfl, fun z hz => by
            simp only [List.mem_cons, List.not_mem_nil, or_false] at hz
            rcases hz with rfl
            · exact Or.inr ⟨by decide, _, by decide, by decide, lL_24c⟩, rfl, by decide, lL_13c, by decide, rfl⟩, ?_⟩
        refine ji_astore dL_paragraph_17 (by decide) trivial rfl ?_
        refine ji_iconst dL_paragraph_19 ?_
        refine ji_ireturn dL_paragraph_20 rfl rfl ⟨2, a, rfl, by omega, ⟨g71, e71.trans h71, fun q => absurd q (by omega)⟩, e60, ?_⟩
        have hK' : K = 2 := by omega
        refine hR2.mono fun r2 h10 hq => ?_
        obtain ⟨v2, q1, q2, q3, q4⟩ := hq
        exact ⟨v2, q1, fun q => absurd q (by omega), q3, hK' ▸ q4⟩
      cases hi

theorem w_letter {v m : Int} (hp : PR G 11 mX7_letter mX8_letter [.int (jI v), .int (jI m)] [eI] b n h) (h0 : ∃ fs, h 0 = .inl (7, fs)) (h71 : ∃ g, h 71 = .inr (.long, 1, .inr (.inl g))) : WR G mL_letter mX8_letter [.int (jI v), .int (jI m)] b n h := by
  obtain ⟨bc, bs, hbc, hbs, hJ⟩ := hp
  obtain ⟨fs0, h0⟩ := h0
  obtain ⟨g71, h71⟩ := h71
  refine ⟨bc, bs, hbc, hbs, ji_entT (L0 := [some (.ref 0), some (.int (jI v)), some (.int (jI m)), some (.ref 71), none]) (by decide) (by decide) (Nat.le_of_ble_eq_true rfl) rfl ?_⟩
  refine ji_aload_n dL_letter_0 rfl trivial ?_
  refine ji_iconst dL_letter_1 ?_
  refine ji_aload_n dL_letter_2 rfl trivial ?_
  refine ji_iload_n dL_letter_3 rfl ?_
  refine ji_iload_n dL_letter_4 rfl ?_
  refine ji_callVT (bc2 := bc) (bs2 := bs) dL_letter_5 hJ rfl h0 rfl rfl wX7_letter vX7_letter lL_72 rfl (Nat.le_of_ble_eq_true rfl) (Nat.le_refl _) (Nat.le_refl _) (fun r h9 hq => ?_) (fun E h9 hq => ?_)
  · obtain ⟨K, a, hk, e71, e60, hR⟩ := hq
    rcases hk with ⟨e1, hK⟩ | ⟨i, E, _, e1, _⟩
    · cases e1
      refine ji_i2l dL_letter_8 rfl ?_
      refine ji_lastore dL_letter_9 (e71.trans h71) (by omega) ?_
      refine ji_goto (tgt := 17) dL_letter_10 rfl ?_
      refine ji_iconst dL_letter_17 ?_
      refine ji_ireturn dL_letter_18 rfl rfl ⟨0, a, rfl, by omega, ⟨vp_updL g71 (0 : Int).toNat (jI a).toInt64, rfl, fun _ => rfl⟩, ?_, ?_⟩
      · obtain ⟨fs, e60⟩ := e60
        exact ⟨fs, e60⟩
      · refine (hR _).mono fun r2 h10 hq => ?_
        obtain ⟨v2, q1, q2, q3, q4⟩ := hq
        exact ⟨v2, q1, fun _ => q2 hK, q3.trans rfl, hK ▸ q4⟩
    · cases e1
  · obtain ⟨K, a, hk, e71, e60, hR⟩ := hq
    have hR2 := hR (h9.2 71)
    rw [va_up_id] at hR2
    rcases hk with ⟨e1, _⟩ | ⟨i, E', hi, e1, hK⟩
    · cases e1
    · cases e1
      rcases i with _ | i
      · cases hi
        refine ⟨13, ⟨[], ⟨0, 10, 13, 24⟩, [], rfl, fun z hz => absurd hz List.not_mem_nil, rfl, by decide, lL_24c, by decide, rfl⟩, ?_⟩
        refine ji_astore dL_letter_13 (by decide) trivial rfl ?_
        refine ji_iconst dL_letter_15 ?_
        refine ji_ireturn dL_letter_16 rfl rfl ⟨1, a, rfl, by omega, ⟨g71, e71.trans h71, fun q => absurd q (by omega)⟩, e60, ?_⟩
        have hK' : K = 1 := by omega
        refine hR2.mono fun r2 h10 hq => ?_
        obtain ⟨v2, q1, q2, q3, q4⟩ := hq
        exact ⟨v2, q1, fun q => absurd q (by omega), q3, hK' ▸ q4⟩
      cases hi

theorem w_annotate {v m o c : Int} (hp : PR G 11 mX7_annotate mX8_annotate [.int (jI v), .int (jI m), .int (jI o), .int (jI c)] [eI, eA, eS] b n h) (h0 : ∃ fs, h 0 = .inl (7, fs)) (h71 : ∃ g, h 71 = .inr (.long, 1, .inr (.inl g))) : WR G mL_annotate mX8_annotate [.int (jI v), .int (jI m), .int (jI o), .int (jI c)] b n h := by
  obtain ⟨bc, bs, hbc, hbs, hJ⟩ := hp
  obtain ⟨fs0, h0⟩ := h0
  obtain ⟨g71, h71⟩ := h71
  refine ⟨bc, bs, hbc, hbs, ji_entT (L0 := [some (.ref 0), some (.int (jI v)), some (.int (jI m)), some (.int (jI o)), some (.int (jI c)), some (.ref 71), none]) (by decide) (by decide) (Nat.le_of_ble_eq_true rfl) rfl ?_⟩
  refine ji_aload dL_annotate_0 rfl trivial ?_
  refine ji_iconst dL_annotate_2 ?_
  refine ji_aload_n dL_annotate_3 rfl trivial ?_
  refine ji_iload_n dL_annotate_4 rfl ?_
  refine ji_iload_n dL_annotate_5 rfl ?_
  refine ji_iload_n dL_annotate_6 rfl ?_
  refine ji_iload dL_annotate_7 rfl ?_
  refine ji_callVT (bc2 := bc) (bs2 := bs) dL_annotate_9 hJ rfl h0 rfl rfl wX7_annotate vX7_annotate lL_75 rfl (Nat.le_of_ble_eq_true rfl) (Nat.le_refl _) (Nat.le_refl _) (fun r h9 hq => ?_) (fun E h9 hq => ?_)
  · obtain ⟨K, a, hk, e71, e60, hR⟩ := hq
    rcases hk with ⟨e1, hK⟩ | ⟨i, E, _, e1, _⟩
    · cases e1
      refine ji_i2l dL_annotate_12 rfl ?_
      refine ji_lastore dL_annotate_13 (e71.trans h71) (by omega) ?_
      refine ji_goto (tgt := 29) dL_annotate_14 rfl ?_
      refine ji_iconst dL_annotate_29 ?_
      refine ji_ireturn dL_annotate_30 rfl rfl ⟨0, a, rfl, by omega, ⟨vp_updL g71 (0 : Int).toNat (jI a).toInt64, rfl, fun _ => rfl⟩, ?_, ?_⟩
      · obtain ⟨fs, e60⟩ := e60
        exact ⟨fs, e60⟩
      · refine (hR _).mono fun r2 h10 hq => ?_
        obtain ⟨v2, q1, q2, q3, q4⟩ := hq
        exact ⟨v2, q1, fun _ => q2 hK, q3.trans rfl, hK ▸ q4⟩
    · cases e1
  · obtain ⟨K, a, hk, e71, e60, hR⟩ := hq
    have hR2 := hR (h9.2 71)
    rw [va_up_id] at hR2
    rcases hk with ⟨e1, _⟩ | ⟨i, E', hi, e1, hK⟩
    · cases e1
    · cases e1
      rcases i with _ | i
      · cases hi
        refine ⟨17, ⟨[], ⟨0, 14, 17, 24⟩, [⟨0, 14, 21, 13⟩, ⟨0, 14, 25, 15⟩], rfl, fun z hz => absurd hz List.not_mem_nil, rfl, by decide, lL_24c, by decide, rfl⟩, ?_⟩
        refine ji_astore dL_annotate_17 (by decide) trivial rfl ?_
        refine ji_iconst dL_annotate_19 ?_
        refine ji_ireturn dL_annotate_20 rfl rfl ⟨1, a, rfl, by omega, ⟨g71, e71.trans h71, fun q => absurd q (by omega)⟩, e60, ?_⟩
        have hK' : K = 1 := by omega
        refine hR2.mono fun r2 h10 hq => ?_
        obtain ⟨v2, q1, q2, q3, q4⟩ := hq
        exact ⟨v2, q1, fun q => absurd q (by omega), q3, hK' ▸ q4⟩
      rcases i with _ | i
      · cases hi
        refine ⟨21, ⟨[⟨0, 14, 17, 24⟩], ⟨0, 14, 21, 13⟩, [⟨0, 14, 25, 15⟩], rfl, fun z hz => by
            simp only [List.mem_cons, List.not_mem_nil, or_false] at hz
            rcases hz with rfl
            · exact Or.inr ⟨by decide, _, by decide, by decide, lL_24c⟩, rfl, by decide, lL_13c, by decide, rfl⟩, ?_⟩
        refine ji_astore dL_annotate_21 (by decide) trivial rfl ?_
        refine ji_iconst dL_annotate_23 ?_
        refine ji_ireturn dL_annotate_24 rfl rfl ⟨2, a, rfl, by omega, ⟨g71, e71.trans h71, fun q => absurd q (by omega)⟩, e60, ?_⟩
        have hK' : K = 2 := by omega
        refine hR2.mono fun r2 h10 hq => ?_
        obtain ⟨v2, q1, q2, q3, q4⟩ := hq
        exact ⟨v2, q1, fun q => absurd q (by omega), q3, hK' ▸ q4⟩
      rcases i with _ | i
      · cases hi
        refine ⟨25, ⟨[⟨0, 14, 17, 24⟩, ⟨0, 14, 21, 13⟩], ⟨0, 14, 25, 15⟩, [], rfl, fun z hz => by
            simp only [List.mem_cons, List.not_mem_nil, or_false] at hz
            rcases hz with rfl | rfl
            · exact Or.inr ⟨by decide, _, by decide, by decide, lL_24c⟩
            · exact Or.inr ⟨by decide, _, by decide, by decide, lL_13c⟩, rfl, by decide, lL_15c, by decide, rfl⟩, ?_⟩
        refine ji_astore dL_annotate_25 (by decide) trivial rfl ?_
        refine ji_iconst dL_annotate_27 ?_
        refine ji_ireturn dL_annotate_28 rfl rfl ⟨3, a, rfl, by omega, ⟨g71, e71.trans h71, fun q => absurd q (by omega)⟩, e60, ?_⟩
        have hK' : K = 3 := by omega
        refine hR2.mono fun r2 h10 hq => ?_
        obtain ⟨v2, q1, q2, q3, q4⟩ := hq
        exact ⟨v2, q1, fun q => absurd q (by omega), q3, hK' ▸ q4⟩
      cases hi

theorem w_annotation {v m : Int} (hp : PR G 11 mX7_annotation mX8_annotation [.int (jI v), .int (jI m)] [eI, eA] b n h) (h0 : ∃ fs, h 0 = .inl (7, fs)) (h71 : ∃ g, h 71 = .inr (.long, 1, .inr (.inl g))) : WR G mL_annotation mX8_annotation [.int (jI v), .int (jI m)] b n h := by
  obtain ⟨bc, bs, hbc, hbs, hJ⟩ := hp
  obtain ⟨fs0, h0⟩ := h0
  obtain ⟨g71, h71⟩ := h71
  refine ⟨bc, bs, hbc, hbs, ji_entT (L0 := [some (.ref 0), some (.int (jI v)), some (.int (jI m)), some (.ref 71), none]) (by decide) (by decide) (Nat.le_of_ble_eq_true rfl) rfl ?_⟩
  refine ji_aload_n dL_annotation_0 rfl trivial ?_
  refine ji_iconst dL_annotation_1 ?_
  refine ji_aload_n dL_annotation_2 rfl trivial ?_
  refine ji_iload_n dL_annotation_3 rfl ?_
  refine ji_iload_n dL_annotation_4 rfl ?_
  refine ji_callVT (bc2 := bc) (bs2 := bs) dL_annotation_5 hJ rfl h0 rfl rfl wX7_annotation vX7_annotation lL_79 rfl (Nat.le_of_ble_eq_true rfl) (Nat.le_refl _) (Nat.le_refl _) (fun r h9 hq => ?_) (fun E h9 hq => ?_)
  · obtain ⟨K, a, hk, e71, e60, hR⟩ := hq
    rcases hk with ⟨e1, hK⟩ | ⟨i, E, _, e1, _⟩
    · cases e1
      refine ji_i2l dL_annotation_8 rfl ?_
      refine ji_lastore dL_annotation_9 (e71.trans h71) (by omega) ?_
      refine ji_goto (tgt := 21) dL_annotation_10 rfl ?_
      refine ji_iconst dL_annotation_21 ?_
      refine ji_ireturn dL_annotation_22 rfl rfl ⟨0, a, rfl, by omega, ⟨vp_updL g71 (0 : Int).toNat (jI a).toInt64, rfl, fun _ => rfl⟩, ?_, ?_⟩
      · obtain ⟨fs, e60⟩ := e60
        exact ⟨fs, e60⟩
      · refine (hR _).mono fun r2 h10 hq => ?_
        obtain ⟨v2, q1, q2, q3, q4⟩ := hq
        exact ⟨v2, q1, fun _ => q2 hK, q3.trans rfl, hK ▸ q4⟩
    · cases e1
  · obtain ⟨K, a, hk, e71, e60, hR⟩ := hq
    have hR2 := hR (h9.2 71)
    rw [va_up_id] at hR2
    rcases hk with ⟨e1, _⟩ | ⟨i, E', hi, e1, hK⟩
    · cases e1
    · cases e1
      rcases i with _ | i
      · cases hi
        refine ⟨13, ⟨[], ⟨0, 10, 13, 24⟩, [⟨0, 10, 17, 13⟩], rfl, fun z hz => absurd hz List.not_mem_nil, rfl, by decide, lL_24c, by decide, rfl⟩, ?_⟩
        refine ji_astore dL_annotation_13 (by decide) trivial rfl ?_
        refine ji_iconst dL_annotation_15 ?_
        refine ji_ireturn dL_annotation_16 rfl rfl ⟨1, a, rfl, by omega, ⟨g71, e71.trans h71, fun q => absurd q (by omega)⟩, e60, ?_⟩
        have hK' : K = 1 := by omega
        refine hR2.mono fun r2 h10 hq => ?_
        obtain ⟨v2, q1, q2, q3, q4⟩ := hq
        exact ⟨v2, q1, fun q => absurd q (by omega), q3, hK' ▸ q4⟩
      rcases i with _ | i
      · cases hi
        refine ⟨17, ⟨[⟨0, 10, 13, 24⟩], ⟨0, 10, 17, 13⟩, [], rfl, fun z hz => by
            simp only [List.mem_cons, List.not_mem_nil, or_false] at hz
            rcases hz with rfl
            · exact Or.inr ⟨by decide, _, by decide, by decide, lL_24c⟩, rfl, by decide, lL_13c, by decide, rfl⟩, ?_⟩
        refine ji_astore dL_annotation_17 (by decide) trivial rfl ?_
        refine ji_iconst dL_annotation_19 ?_
        refine ji_ireturn dL_annotation_20 rfl rfl ⟨2, a, rfl, by omega, ⟨g71, e71.trans h71, fun q => absurd q (by omega)⟩, e60, ?_⟩
        have hK' : K = 2 := by omega
        refine hR2.mono fun r2 h10 hq => ?_
        obtain ⟨v2, q1, q2, q3, q4⟩ := hq
        exact ⟨v2, q1, fun q => absurd q (by omega), q3, hK' ▸ q4⟩
      cases hi

theorem w_removeAnnotation {v : Int} (hp : PR G 11 mX7_removeAnnotation mX8_removeAnnotation [.int (jI v)] [eI] b n h) (h0 : ∃ fs, h 0 = .inl (7, fs)) (h71 : ∃ g, h 71 = .inr (.long, 1, .inr (.inl g))) : WR G mL_removeAnnotation mX8_removeAnnotation [.int (jI v)] b n h := by
  obtain ⟨bc, bs, hbc, hbs, hJ⟩ := hp
  obtain ⟨fs0, h0⟩ := h0
  obtain ⟨g71, h71⟩ := h71
  refine ⟨bc, bs, hbc, hbs, ji_entT (L0 := [some (.ref 0), some (.int (jI v)), some (.ref 71), none]) (by decide) (by decide) (Nat.le_of_ble_eq_true rfl) rfl ?_⟩
  refine ji_aload_n dL_removeAnnotation_0 rfl trivial ?_
  refine ji_iconst dL_removeAnnotation_1 ?_
  refine ji_aload_n dL_removeAnnotation_2 rfl trivial ?_
  refine ji_iload_n dL_removeAnnotation_3 rfl ?_
  refine ji_callVT (bc2 := bc) (bs2 := bs) dL_removeAnnotation_4 hJ rfl h0 rfl rfl wX7_removeAnnotation vX7_removeAnnotation lL_82 rfl (Nat.le_of_ble_eq_true rfl) (Nat.le_refl _) (Nat.le_refl _) (fun r h9 hq => ?_) (fun E h9 hq => ?_)
  · obtain ⟨K, a, hk, e71, e60, hR⟩ := hq
    rcases hk with ⟨e1, hK⟩ | ⟨i, E, _, e1, _⟩
    · cases e1
      refine ji_i2l dL_removeAnnotation_7 rfl ?_
      refine ji_lastore dL_removeAnnotation_8 (e71.trans h71) (by omega) ?_
      refine ji_goto (tgt := 15) dL_removeAnnotation_9 rfl ?_
      refine ji_iconst dL_removeAnnotation_15 ?_
      refine ji_ireturn dL_removeAnnotation_16 rfl rfl ⟨0, a, rfl, by omega, ⟨vp_updL g71 (0 : Int).toNat (jI a).toInt64, rfl, fun _ => rfl⟩, ?_, ?_⟩
      · obtain ⟨fs, e60⟩ := e60
        exact ⟨fs, e60⟩
      · refine (hR _).mono fun r2 h10 hq => ?_
        obtain ⟨v2, q1, q2, q3, q4⟩ := hq
        exact ⟨v2, q1, fun _ => q2 hK, q3.trans rfl, hK ▸ q4⟩
    · cases e1
  · obtain ⟨K, a, hk, e71, e60, hR⟩ := hq
    have hR2 := hR (h9.2 71)
    rw [va_up_id] at hR2
    rcases hk with ⟨e1, _⟩ | ⟨i, E', hi, e1, hK⟩
    · cases e1
    · cases e1
      rcases i with _ | i
      · cases hi
        refine ⟨12, ⟨[], ⟨0, 9, 12, 24⟩, [], rfl, fun z hz => absurd hz List.not_mem_nil, rfl, by decide, lL_24c, by decide, rfl⟩, ?_⟩
        refine ji_astore_n dL_removeAnnotation_12 (by decide) trivial rfl ?_
        refine ji_iconst dL_removeAnnotation_13 ?_
        refine ji_ireturn dL_removeAnnotation_14 rfl rfl ⟨1, a, rfl, by omega, ⟨g71, e71.trans h71, fun q => absurd q (by omega)⟩, e60, ?_⟩
        have hK' : K = 1 := by omega
        refine hR2.mono fun r2 h10 hq => ?_
        obtain ⟨v2, q1, q2, q3, q4⟩ := hq
        exact ⟨v2, q1, fun q => absurd q (by omega), q3, hK' ▸ q4⟩
      cases hi

theorem w_insert {v m : Int} (hp : PR G 11 mX7_insert mX8_insert [.int (jI v), .int (jI m)] [eI, eS] b n h) (h0 : ∃ fs, h 0 = .inl (7, fs)) (h71 : ∃ g, h 71 = .inr (.long, 1, .inr (.inl g))) : WR G mL_insert mX8_insert [.int (jI v), .int (jI m)] b n h := by
  obtain ⟨bc, bs, hbc, hbs, hJ⟩ := hp
  obtain ⟨fs0, h0⟩ := h0
  obtain ⟨g71, h71⟩ := h71
  refine ⟨bc, bs, hbc, hbs, ji_entT (L0 := [some (.ref 0), some (.int (jI v)), some (.int (jI m)), some (.ref 71), none]) (by decide) (by decide) (Nat.le_of_ble_eq_true rfl) rfl ?_⟩
  refine ji_aload_n dL_insert_0 rfl trivial ?_
  refine ji_iconst dL_insert_1 ?_
  refine ji_aload_n dL_insert_2 rfl trivial ?_
  refine ji_iload_n dL_insert_3 rfl ?_
  refine ji_iload_n dL_insert_4 rfl ?_
  refine ji_callVT (bc2 := bc) (bs2 := bs) dL_insert_5 hJ rfl h0 rfl rfl wX7_insert vX7_insert lL_85 rfl (Nat.le_of_ble_eq_true rfl) (Nat.le_refl _) (Nat.le_refl _) (fun r h9 hq => ?_) (fun E h9 hq => ?_)
  · obtain ⟨K, a, hk, e71, e60, hR⟩ := hq
    rcases hk with ⟨e1, hK⟩ | ⟨i, E, _, e1, _⟩
    · cases e1
      refine ji_i2l dL_insert_8 rfl ?_
      refine ji_lastore dL_insert_9 (e71.trans h71) (by omega) ?_
      refine ji_goto (tgt := 21) dL_insert_10 rfl ?_
      refine ji_iconst dL_insert_21 ?_
      refine ji_ireturn dL_insert_22 rfl rfl ⟨0, a, rfl, by omega, ⟨vp_updL g71 (0 : Int).toNat (jI a).toInt64, rfl, fun _ => rfl⟩, ?_, ?_⟩
      · obtain ⟨fs, e60⟩ := e60
        exact ⟨fs, e60⟩
      · refine (hR _).mono fun r2 h10 hq => ?_
        obtain ⟨v2, q1, q2, q3, q4⟩ := hq
        exact ⟨v2, q1, fun _ => q2 hK, q3.trans rfl, hK ▸ q4⟩
    · cases e1
  · obtain ⟨K, a, hk, e71, e60, hR⟩ := hq
    have hR2 := hR (h9.2 71)
    rw [va_up_id] at hR2
    rcases hk with ⟨e1, _⟩ | ⟨i, E', hi, e1, hK⟩
    · cases e1
    · cases e1
      rcases i with _ | i
      · cases hi
        refine ⟨13, ⟨[], ⟨0, 10, 13, 24⟩, [⟨0, 10, 17, 15⟩], rfl, fun z hz => absurd hz List.not_mem_nil, rfl, by decide, lL_24c, by decide, rfl⟩, ?_⟩
        refine ji_astore dL_insert_13 (by decide) trivial rfl ?_
        refine ji_iconst dL_insert_15 ?_
        refine ji_ireturn dL_insert_16 rfl rfl ⟨1, a, rfl, by omega, ⟨g71, e71.trans h71, fun q => absurd q (by omega)⟩, e60, ?_⟩
        have hK' : K = 1 := by omega
        refine hR2.mono fun r2 h10 hq => ?_
        obtain ⟨v2, q1, q2, q3, q4⟩ := hq
        exact ⟨v2, q1, fun q => absurd q (by omega), q3, hK' ▸ q4⟩
      rcases i with _ | i
      · cases hi
        refine ⟨17, ⟨[⟨0, 10, 13, 24⟩], ⟨0, 10, 17, 15⟩, [], rfl, fun z hz => by
            simp only [List.mem_cons, List.not_mem_nil, or_false] at hz
            rcases hz with rfl
            · exact Or.inr ⟨by decide, _, by decide, by decide, lL_24c⟩, rfl, by decide, lL_15c, by decide, rfl⟩, ?_⟩
        refine ji_astore dL_insert_17 (by decide) trivial rfl ?_
        refine ji_iconst dL_insert_19 ?_
        refine ji_ireturn dL_insert_20 rfl rfl ⟨2, a, rfl, by omega, ⟨g71, e71.trans h71, fun q => absurd q (by omega)⟩, e60, ?_⟩
        have hK' : K = 2 := by omega
        refine hR2.mono fun r2 h10 hq => ?_
        obtain ⟨v2, q1, q2, q3, q4⟩ := hq
        exact ⟨v2, q1, fun q => absurd q (by omega), q3, hK' ▸ q4⟩
      cases hi

theorem w_delete {v m o : Int} (hp : PR G 11 mX7_delete mX8_delete [.int (jI v), .int (jI m), .int (jI o)] [eI, eS] b n h) (h0 : ∃ fs, h 0 = .inl (7, fs)) (h71 : ∃ g, h 71 = .inr (.long, 1, .inr (.inl g))) : WR G mL_delete mX8_delete [.int (jI v), .int (jI m), .int (jI o)] b n h := by
  obtain ⟨bc, bs, hbc, hbs, hJ⟩ := hp
  obtain ⟨fs0, h0⟩ := h0
  obtain ⟨g71, h71⟩ := h71
  refine ⟨bc, bs, hbc, hbs, ji_entT (L0 := [some (.ref 0), some (.int (jI v)), some (.int (jI m)), some (.int (jI o)), some (.ref 71), none]) (by decide) (by decide) (Nat.le_of_ble_eq_true rfl) rfl ?_⟩
  refine ji_aload dL_delete_0 rfl trivial ?_
  refine ji_iconst dL_delete_2 ?_
  refine ji_aload_n dL_delete_3 rfl trivial ?_
  refine ji_iload_n dL_delete_4 rfl ?_
  refine ji_iload_n dL_delete_5 rfl ?_
  refine ji_iload_n dL_delete_6 rfl ?_
  refine ji_callVT (bc2 := bc) (bs2 := bs) dL_delete_7 hJ rfl h0 rfl rfl wX7_delete vX7_delete lL_88 rfl (Nat.le_of_ble_eq_true rfl) (Nat.le_refl _) (Nat.le_refl _) (fun r h9 hq => ?_) (fun E h9 hq => ?_)
  · obtain ⟨K, a, hk, e71, e60, hR⟩ := hq
    rcases hk with ⟨e1, hK⟩ | ⟨i, E, _, e1, _⟩
    · cases e1
      refine ji_i2l dL_delete_10 rfl ?_
      refine ji_lastore dL_delete_11 (e71.trans h71) (by omega) ?_
      refine ji_goto (tgt := 23) dL_delete_12 rfl ?_
      refine ji_iconst dL_delete_23 ?_
      refine ji_ireturn dL_delete_24 rfl rfl ⟨0, a, rfl, by omega, ⟨vp_updL g71 (0 : Int).toNat (jI a).toInt64, rfl, fun _ => rfl⟩, ?_, ?_⟩
      · obtain ⟨fs, e60⟩ := e60
        exact ⟨fs, e60⟩
      · refine (hR _).mono fun r2 h10 hq => ?_
        obtain ⟨v2, q1, q2, q3, q4⟩ := hq
        exact ⟨v2, q1, fun _ => q2 hK, q3.trans rfl, hK ▸ q4⟩
    · cases e1
  · obtain ⟨K, a, hk, e71, e60, hR⟩ := hq
    have hR2 := hR (h9.2 71)
    rw [va_up_id] at hR2
    rcases hk with ⟨e1, _⟩ | ⟨i, E', hi, e1, hK⟩
    · cases e1
    · cases e1
      rcases i with _ | i
      · cases hi
        refine ⟨15, ⟨[], ⟨0, 12, 15, 24⟩, [⟨0, 12, 19, 15⟩], rfl, fun z hz => absurd hz List.not_mem_nil, rfl, by decide, lL_24c, by decide, rfl⟩, ?_⟩
        refine ji_astore dL_delete_15 (by decide) trivial rfl ?_
        refine ji_iconst dL_delete_17 ?_
        refine ji_ireturn dL_delete_18 rfl rfl ⟨1, a, rfl, by omega, ⟨g71, e71.trans h71, fun q => absurd q (by omega)⟩, e60, ?_⟩
        have hK' : K = 1 := by omega
        refine hR2.mono fun r2 h10 hq => ?_
        obtain ⟨v2, q1, q2, q3, q4⟩ := hq
        exact ⟨v2, q1, fun q => absurd q (by omega), q3, hK' ▸ q4⟩
      rcases i with _ | i
      · cases hi
        refine ⟨19, ⟨[⟨0, 12, 15, 24⟩], ⟨0, 12, 19, 15⟩, [], rfl, fun z hz => by
            simp only [List.mem_cons, List.not_mem_nil, or_false] at hz
            rcases hz with rfl
            · exact Or.inr ⟨by decide, _, by decide, by decide, lL_24c⟩, rfl, by decide, lL_15c, by decide, rfl⟩, ?_⟩
        refine ji_astore dL_delete_19 (by decide) trivial rfl ?_
        refine ji_iconst dL_delete_21 ?_
        refine ji_ireturn dL_delete_22 rfl rfl ⟨2, a, rfl, by omega, ⟨g71, e71.trans h71, fun q => absurd q (by omega)⟩, e60, ?_⟩
        have hK' : K = 2 := by omega
        refine hR2.mono fun r2 h10 hq => ?_
        obtain ⟨v2, q1, q2, q3, q4⟩ := hq
        exact ⟨v2, q1, fun q => absurd q (by omega), q3, hK' ▸ q4⟩
      cases hi

theorem w_split {v m : Int} (hp : PR G 11 mX7_split mX8_split [.int (jI v), .int (jI m)] [eI, eS] b n h) (h0 : ∃ fs, h 0 = .inl (7, fs)) (h71 : ∃ g, h 71 = .inr (.long, 1, .inr (.inl g))) : WR G mL_split mX8_split [.int (jI v), .int (jI m)] b n h := by
  obtain ⟨bc, bs, hbc, hbs, hJ⟩ := hp
  obtain ⟨fs0, h0⟩ := h0
  obtain ⟨g71, h71⟩ := h71
  refine ⟨bc, bs, hbc, hbs, ji_entT (L0 := [some (.ref 0), some (.int (jI v)), some (.int (jI m)), some (.ref 71), none]) (by decide) (by decide) (Nat.le_of_ble_eq_true rfl) rfl ?_⟩
  refine ji_aload_n dL_split_0 rfl trivial ?_
  refine ji_iconst dL_split_1 ?_
  refine ji_aload_n dL_split_2 rfl trivial ?_
  refine ji_iload_n dL_split_3 rfl ?_
  refine ji_iload_n dL_split_4 rfl ?_
  refine ji_callVT (bc2 := bc) (bs2 := bs) dL_split_5 hJ rfl h0 rfl rfl wX7_split vX7_split lL_91 rfl (Nat.le_of_ble_eq_true rfl) (Nat.le_refl _) (Nat.le_refl _) (fun r h9 hq => ?_) (fun E h9 hq => ?_)
  · obtain ⟨K, a, hk, e71, e60, hR⟩ := hq
    rcases hk with ⟨e1, hK⟩ | ⟨i, E, _, e1, _⟩
    · cases e1
      refine ji_i2l dL_split_8 rfl ?_
      refine ji_lastore dL_split_9 (e71.trans h71) (by omega) ?_
      refine ji_goto (tgt := 21) dL_split_10 rfl ?_
      refine ji_iconst dL_split_21 ?_
      refine ji_ireturn dL_split_22 rfl rfl ⟨0, a, rfl, by omega, ⟨vp_updL g71 (0 : Int).toNat (jI a).toInt64, rfl, fun _ => rfl⟩, ?_, ?_⟩
      · obtain ⟨fs, e60⟩ := e60
        exact ⟨fs, e60⟩
      · refine (hR _).mono fun r2 h10 hq => ?_
        obtain ⟨v2, q1, q2, q3, q4⟩ := hq
        exact ⟨v2, q1, fun _ => q2 hK, q3.trans rfl, hK ▸ q4⟩
    · cases e1
  · obtain ⟨K, a, hk, e71, e60, hR⟩ := hq
    have hR2 := hR (h9.2 71)
    rw [va_up_id] at hR2
    rcases hk with ⟨e1, _⟩ | ⟨i, E', hi, e1, hK⟩
    · cases e1
    · cases e1
      rcases i with _ | i
      · cases hi
        refine ⟨13, ⟨[], ⟨0, 10, 13, 24⟩, [⟨0, 10, 17, 15⟩], rfl, fun z hz => absurd hz List.not_mem_nil, rfl, by decide, lL_24c, by decide, rfl⟩, ?_⟩
        refine ji_astore dL_split_13 (by decide) trivial rfl ?_
        refine ji_iconst dL_split_15 ?_
        refine ji_ireturn dL_split_16 rfl rfl ⟨1, a, rfl, by omega, ⟨g71, e71.trans h71, fun q => absurd q (by omega)⟩, e60, ?_⟩
        have hK' : K = 1 := by omega
        refine hR2.mono fun r2 h10 hq => ?_
        obtain ⟨v2, q1, q2, q3, q4⟩ := hq
        exact ⟨v2, q1, fun q => absurd q (by omega), q3, hK' ▸ q4⟩
      rcases i with _ | i
      · cases hi
        refine ⟨17, ⟨[⟨0, 10, 13, 24⟩], ⟨0, 10, 17, 15⟩, [], rfl, fun z hz => by
            simp only [List.mem_cons, List.not_mem_nil, or_false] at hz
            rcases hz with rfl
            · exact Or.inr ⟨by decide, _, by decide, by decide, lL_24c⟩, rfl, by decide, lL_15c, by decide, rfl⟩, ?_⟩
        refine ji_astore dL_split_17 (by decide) trivial rfl ?_
        refine ji_iconst dL_split_19 ?_
        refine ji_ireturn dL_split_20 rfl rfl ⟨2, a, rfl, by omega, ⟨g71, e71.trans h71, fun q => absurd q (by omega)⟩, e60, ?_⟩
        have hK' : K = 2 := by omega
        refine hR2.mono fun r2 h10 hq => ?_
        obtain ⟨v2, q1, q2, q3, q4⟩ := hq
        exact ⟨v2, q1, fun q => absurd q (by omega), q3, hK' ▸ q4⟩
      cases hi

theorem w_join {v : Int} (hp : PR G 11 mX7_join mX8_join [.int (jI v)] [eI, eS] b n h) (h0 : ∃ fs, h 0 = .inl (7, fs)) (h71 : ∃ g, h 71 = .inr (.long, 1, .inr (.inl g))) : WR G mL_join mX8_join [.int (jI v)] b n h := by
  obtain ⟨bc, bs, hbc, hbs, hJ⟩ := hp
  obtain ⟨fs0, h0⟩ := h0
  obtain ⟨g71, h71⟩ := h71
  refine ⟨bc, bs, hbc, hbs, ji_entT (L0 := [some (.ref 0), some (.int (jI v)), some (.ref 71), none]) (by decide) (by decide) (Nat.le_of_ble_eq_true rfl) rfl ?_⟩
  refine ji_aload_n dL_join_0 rfl trivial ?_
  refine ji_iconst dL_join_1 ?_
  refine ji_aload_n dL_join_2 rfl trivial ?_
  refine ji_iload_n dL_join_3 rfl ?_
  refine ji_callVT (bc2 := bc) (bs2 := bs) dL_join_4 hJ rfl h0 rfl rfl wX7_join vX7_join lL_94 rfl (Nat.le_of_ble_eq_true rfl) (Nat.le_refl _) (Nat.le_refl _) (fun r h9 hq => ?_) (fun E h9 hq => ?_)
  · obtain ⟨K, a, hk, e71, e60, hR⟩ := hq
    rcases hk with ⟨e1, hK⟩ | ⟨i, E, _, e1, _⟩
    · cases e1
      refine ji_i2l dL_join_7 rfl ?_
      refine ji_lastore dL_join_8 (e71.trans h71) (by omega) ?_
      refine ji_goto (tgt := 18) dL_join_9 rfl ?_
      refine ji_iconst dL_join_18 ?_
      refine ji_ireturn dL_join_19 rfl rfl ⟨0, a, rfl, by omega, ⟨vp_updL g71 (0 : Int).toNat (jI a).toInt64, rfl, fun _ => rfl⟩, ?_, ?_⟩
      · obtain ⟨fs, e60⟩ := e60
        exact ⟨fs, e60⟩
      · refine (hR _).mono fun r2 h10 hq => ?_
        obtain ⟨v2, q1, q2, q3, q4⟩ := hq
        exact ⟨v2, q1, fun _ => q2 hK, q3.trans rfl, hK ▸ q4⟩
    · cases e1
  · obtain ⟨K, a, hk, e71, e60, hR⟩ := hq
    have hR2 := hR (h9.2 71)
    rw [va_up_id] at hR2
    rcases hk with ⟨e1, _⟩ | ⟨i, E', hi, e1, hK⟩
    · cases e1
    · cases e1
      rcases i with _ | i
      · cases hi
        refine ⟨12, ⟨[], ⟨0, 9, 12, 24⟩, [⟨0, 9, 15, 15⟩], rfl, fun z hz => absurd hz List.not_mem_nil, rfl, by decide, lL_24c, by decide, rfl⟩, ?_⟩
        refine ji_astore_n dL_join_12 (by decide) trivial rfl ?_
        refine ji_iconst dL_join_13 ?_
        refine ji_ireturn dL_join_14 rfl rfl ⟨1, a, rfl, by omega, ⟨g71, e71.trans h71, fun q => absurd q (by omega)⟩, e60, ?_⟩
        have hK' : K = 1 := by omega
        refine hR2.mono fun r2 h10 hq => ?_
        obtain ⟨v2, q1, q2, q3, q4⟩ := hq
        exact ⟨v2, q1, fun q => absurd q (by omega), q3, hK' ▸ q4⟩
      rcases i with _ | i
      · cases hi
        refine ⟨15, ⟨[⟨0, 9, 12, 24⟩], ⟨0, 9, 15, 15⟩, [], rfl, fun z hz => by
            simp only [List.mem_cons, List.not_mem_nil, or_false] at hz
            rcases hz with rfl
            · exact Or.inr ⟨by decide, _, by decide, by decide, lL_24c⟩, rfl, by decide, lL_15c, by decide, rfl⟩, ?_⟩
        refine ji_astore_n dL_join_15 (by decide) trivial rfl ?_
        refine ji_iconst dL_join_16 ?_
        refine ji_ireturn dL_join_17 rfl rfl ⟨2, a, rfl, by omega, ⟨g71, e71.trans h71, fun q => absurd q (by omega)⟩, e60, ?_⟩
        have hK' : K = 2 := by omega
        refine hR2.mono fun r2 h10 hq => ?_
        obtain ⟨v2, q1, q2, q3, q4⟩ := hq
        exact ⟨v2, q1, fun q => absurd q (by omega), q3, hK' ▸ q4⟩
      cases hi

theorem w_undo (hp : PR G 11 mX7_undo mX8_undo [] [eS] b n h) (h0 : ∃ fs, h 0 = .inl (7, fs)) (h71 : ∃ g, h 71 = .inr (.long, 1, .inr (.inl g))) : WR G mL_undo mX8_undo [] b n h := by
  obtain ⟨bc, bs, hbc, hbs, hJ⟩ := hp
  obtain ⟨fs0, h0⟩ := h0
  obtain ⟨g71, h71⟩ := h71
  refine ⟨bc, bs, hbc, hbs, ji_entT (L0 := [some (.ref 0), some (.ref 71), none]) (by decide) (by decide) (Nat.le_of_ble_eq_true rfl) rfl ?_⟩
  refine ji_aload_n dL_undo_0 rfl trivial ?_
  refine ji_iconst dL_undo_1 ?_
  refine ji_aload_n dL_undo_2 rfl trivial ?_
  refine ji_callVT (bc2 := bc) (bs2 := bs) dL_undo_3 hJ rfl h0 rfl rfl wX7_undo vX7_undo lL_97 rfl (Nat.le_of_ble_eq_true rfl) (Nat.le_refl _) (Nat.le_refl _) (fun r h9 hq => ?_) (fun E h9 hq => ?_)
  · obtain ⟨K, a, hk, e71, e60, hR⟩ := hq
    rcases hk with ⟨e1, hK⟩ | ⟨i, E, _, e1, _⟩
    · cases e1
      refine ji_i2l dL_undo_6 rfl ?_
      refine ji_lastore dL_undo_7 (e71.trans h71) (by omega) ?_
      refine ji_goto (tgt := 14) dL_undo_8 rfl ?_
      refine ji_iconst dL_undo_14 ?_
      refine ji_ireturn dL_undo_15 rfl rfl ⟨0, a, rfl, by omega, ⟨vp_updL g71 (0 : Int).toNat (jI a).toInt64, rfl, fun _ => rfl⟩, ?_, ?_⟩
      · obtain ⟨fs, e60⟩ := e60
        exact ⟨fs, e60⟩
      · refine (hR _).mono fun r2 h10 hq => ?_
        obtain ⟨v2, q1, q2, q3, q4⟩ := hq
        exact ⟨v2, q1, fun _ => q2 hK, q3.trans rfl, hK ▸ q4⟩
    · cases e1
  · obtain ⟨K, a, hk, e71, e60, hR⟩ := hq
    have hR2 := hR (h9.2 71)
    rw [va_up_id] at hR2
    rcases hk with ⟨e1, _⟩ | ⟨i, E', hi, e1, hK⟩
    · cases e1
    · cases e1
      rcases i with _ | i
      · cases hi
        refine ⟨11, ⟨[], ⟨0, 8, 11, 15⟩, [], rfl, fun z hz => absurd hz List.not_mem_nil, rfl, by decide, lL_15c, by decide, rfl⟩, ?_⟩
        refine ji_astore_n dL_undo_11 (by decide) trivial rfl ?_
        refine ji_iconst dL_undo_12 ?_
        refine ji_ireturn dL_undo_13 rfl rfl ⟨1, a, rfl, by omega, ⟨g71, e71.trans h71, fun q => absurd q (by omega)⟩, e60, ?_⟩
        have hK' : K = 1 := by omega
        refine hR2.mono fun r2 h10 hq => ?_
        obtain ⟨v2, q1, q2, q3, q4⟩ := hq
        exact ⟨v2, q1, fun q => absurd q (by omega), q3, hK' ▸ q4⟩
      cases hi

theorem w_ifSize {v m o : Int} (hp : PR G 11 mX7_ifSize mX8_ifSize [.int (jI v), .int (jI m), .int (jI o)] [eA] b n h) (h0 : ∃ fs, h 0 = .inl (7, fs)) (h71 : ∃ g, h 71 = .inr (.long, 1, .inr (.inl g))) : WR G mL_ifSize mX8_ifSize [.int (jI v), .int (jI m), .int (jI o)] b n h := by
  obtain ⟨bc, bs, hbc, hbs, hJ⟩ := hp
  obtain ⟨fs0, h0⟩ := h0
  obtain ⟨g71, h71⟩ := h71
  refine ⟨bc, bs, hbc, hbs, ji_entT (L0 := [some (.ref 0), some (.int (jI v)), some (.int (jI m)), some (.int (jI o)), some (.ref 71), none]) (by decide) (by decide) (Nat.le_of_ble_eq_true rfl) rfl ?_⟩
  refine ji_aload dL_ifSize_0 rfl trivial ?_
  refine ji_iconst dL_ifSize_2 ?_
  refine ji_aload_n dL_ifSize_3 rfl trivial ?_
  refine ji_iload_n dL_ifSize_4 rfl ?_
  refine ji_iload_n dL_ifSize_5 rfl ?_
  refine ji_iload_n dL_ifSize_6 rfl ?_
  refine ji_callVT (bc2 := bc) (bs2 := bs) dL_ifSize_7 hJ rfl h0 rfl rfl wX7_ifSize vX7_ifSize lL_100 rfl (Nat.le_of_ble_eq_true rfl) (Nat.le_refl _) (Nat.le_refl _) (fun r h9 hq => ?_) (fun E h9 hq => ?_)
  · obtain ⟨K, a, hk, e71, e60, hR⟩ := hq
    rcases hk with ⟨e1, hK⟩ | ⟨i, E, _, e1, _⟩
    · cases e1
      refine ji_i2l dL_ifSize_10 rfl ?_
      refine ji_lastore dL_ifSize_11 (e71.trans h71) (by omega) ?_
      refine ji_goto (tgt := 19) dL_ifSize_12 rfl ?_
      refine ji_iconst dL_ifSize_19 ?_
      refine ji_ireturn dL_ifSize_20 rfl rfl ⟨0, a, rfl, by omega, ⟨vp_updL g71 (0 : Int).toNat (jI a).toInt64, rfl, fun _ => rfl⟩, ?_, ?_⟩
      · obtain ⟨fs, e60⟩ := e60
        exact ⟨fs, e60⟩
      · refine (hR _).mono fun r2 h10 hq => ?_
        obtain ⟨v2, q1, q2, q3, q4⟩ := hq
        exact ⟨v2, q1, fun _ => q2 hK, q3.trans rfl, hK ▸ q4⟩
    · cases e1
  · obtain ⟨K, a, hk, e71, e60, hR⟩ := hq
    have hR2 := hR (h9.2 71)
    rw [va_up_id] at hR2
    rcases hk with ⟨e1, _⟩ | ⟨i, E', hi, e1, hK⟩
    · cases e1
    · cases e1
      rcases i with _ | i
      · cases hi
        refine ⟨15, ⟨[], ⟨0, 12, 15, 13⟩, [], rfl, fun z hz => absurd hz List.not_mem_nil, rfl, by decide, lL_13c, by decide, rfl⟩, ?_⟩
        refine ji_astore dL_ifSize_15 (by decide) trivial rfl ?_
        refine ji_iconst dL_ifSize_17 ?_
        refine ji_ireturn dL_ifSize_18 rfl rfl ⟨1, a, rfl, by omega, ⟨g71, e71.trans h71, fun q => absurd q (by omega)⟩, e60, ?_⟩
        have hK' : K = 1 := by omega
        refine hR2.mono fun r2 h10 hq => ?_
        obtain ⟨v2, q1, q2, q3, q4⟩ := hq
        exact ⟨v2, q1, fun q => absurd q (by omega), q3, hK' ▸ q4⟩
      cases hi

theorem w_fit {v : Int} (hp : PR G 11 mX7_fit mX8_fit [.int (jI v)] [eA] b n h) (h0 : ∃ fs, h 0 = .inl (7, fs)) (h71 : ∃ g, h 71 = .inr (.long, 1, .inr (.inl g))) : WR G mL_fit mX8_fit [.int (jI v)] b n h := by
  obtain ⟨bc, bs, hbc, hbs, hJ⟩ := hp
  obtain ⟨fs0, h0⟩ := h0
  obtain ⟨g71, h71⟩ := h71
  refine ⟨bc, bs, hbc, hbs, ji_entT (L0 := [some (.ref 0), some (.int (jI v)), some (.ref 71), none]) (by decide) (by decide) (Nat.le_of_ble_eq_true rfl) rfl ?_⟩
  refine ji_aload_n dL_fit_0 rfl trivial ?_
  refine ji_iconst dL_fit_1 ?_
  refine ji_aload_n dL_fit_2 rfl trivial ?_
  refine ji_iload_n dL_fit_3 rfl ?_
  refine ji_callVT (bc2 := bc) (bs2 := bs) dL_fit_4 hJ rfl h0 rfl rfl wX7_fit vX7_fit lL_103 rfl (Nat.le_of_ble_eq_true rfl) (Nat.le_refl _) (Nat.le_refl _) (fun r h9 hq => ?_) (fun E h9 hq => ?_)
  · obtain ⟨K, a, hk, e71, e60, hR⟩ := hq
    rcases hk with ⟨e1, hK⟩ | ⟨i, E, _, e1, _⟩
    · cases e1
      refine ji_i2l dL_fit_7 rfl ?_
      refine ji_lastore dL_fit_8 (e71.trans h71) (by omega) ?_
      refine ji_goto (tgt := 15) dL_fit_9 rfl ?_
      refine ji_iconst dL_fit_15 ?_
      refine ji_ireturn dL_fit_16 rfl rfl ⟨0, a, rfl, by omega, ⟨vp_updL g71 (0 : Int).toNat (jI a).toInt64, rfl, fun _ => rfl⟩, ?_, ?_⟩
      · obtain ⟨fs, e60⟩ := e60
        exact ⟨fs, e60⟩
      · refine (hR _).mono fun r2 h10 hq => ?_
        obtain ⟨v2, q1, q2, q3, q4⟩ := hq
        exact ⟨v2, q1, fun _ => q2 hK, q3.trans rfl, hK ▸ q4⟩
    · cases e1
  · obtain ⟨K, a, hk, e71, e60, hR⟩ := hq
    have hR2 := hR (h9.2 71)
    rw [va_up_id] at hR2
    rcases hk with ⟨e1, _⟩ | ⟨i, E', hi, e1, hK⟩
    · cases e1
    · cases e1
      rcases i with _ | i
      · cases hi
        refine ⟨12, ⟨[], ⟨0, 9, 12, 13⟩, [], rfl, fun z hz => absurd hz List.not_mem_nil, rfl, by decide, lL_13c, by decide, rfl⟩, ?_⟩
        refine ji_astore_n dL_fit_12 (by decide) trivial rfl ?_
        refine ji_iconst dL_fit_13 ?_
        refine ji_ireturn dL_fit_14 rfl rfl ⟨1, a, rfl, by omega, ⟨g71, e71.trans h71, fun q => absurd q (by omega)⟩, e60, ?_⟩
        have hK' : K = 1 := by omega
        refine hR2.mono fun r2 h10 hq => ?_
        obtain ⟨v2, q1, q2, q3, q4⟩ := hq
        exact ⟨v2, q1, fun q => absurd q (by omega), q3, hK' ▸ q4⟩
      cases hi

end WRAP
