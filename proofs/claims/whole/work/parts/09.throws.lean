/-! The places where an exception is made -/
def ri_HW : List Cond := [.isRef (.static Bundle.tN "UNASSIGNED_STACK" Bundle.steD), .isRef (.static Bundle.tN "SUPPRESSED_SENTINEL" Bundle.listD), .laysStatic Bundle.tN "UNASSIGNED_STACK" Bundle.steD, .laysStatic Bundle.tN "SUPPRESSED_SENTINEL" Bundle.listD]
theorem ri_at126 : ∀ a ∈ Bundle.ownAtoms0 "RoleDesk" 126 "java/util/NoSuchElementException" ri_xs, a ∈ ri_TW ∨ a ∈ ri_HW := by
  have h : ((Bundle.ownAtoms0 "RoleDesk" 126 "java/util/NoSuchElementException" ri_xs).all fun a => decide (a ∈ ri_HW) || (ri_gw a && decide (a ∈ tables_1))) = true := by decide +kernel
  intro a ha
  have h1 := List.all_eq_true.mp h a ha
  rw [Bool.or_eq_true, decide_eq_true_eq, Bool.and_eq_true, decide_eq_true_eq] at h1
  rcases h1 with h1 | h1
  · exact Or.inr h1
  · exact Or.inl (List.mem_filter.mpr ⟨List.mem_append_right _ h1.2, h1.1⟩)
theorem ri_at129 : ∀ a ∈ Bundle.ownAtoms0 "RoleDesk" 129 "java/lang/IllegalArgumentException" ri_xs, a ∈ ri_TW ∨ a ∈ ri_HW := by
  have h : ((Bundle.ownAtoms0 "RoleDesk" 129 "java/lang/IllegalArgumentException" ri_xs).all fun a => decide (a ∈ ri_HW) || (ri_gw a && decide (a ∈ tables_1))) = true := by decide +kernel
  intro a ha
  have h1 := List.all_eq_true.mp h a ha
  rw [Bool.or_eq_true, decide_eq_true_eq, Bool.and_eq_true, decide_eq_true_eq] at h1
  rcases h1 with h1 | h1
  · exact Or.inr h1
  · exact Or.inl (List.mem_filter.mpr ⟨List.mem_append_right _ h1.2, h1.1⟩)
theorem ri_at132 : ∀ a ∈ Bundle.ownAtoms0 "RoleDesk" 132 "java/lang/IllegalStateException" ri_xs, a ∈ ri_TW ∨ a ∈ ri_HW := by
  have h : ((Bundle.ownAtoms0 "RoleDesk" 132 "java/lang/IllegalStateException" ri_xs).all fun a => decide (a ∈ ri_HW) || (ri_gw a && decide (a ∈ tables_1))) = true := by decide +kernel
  intro a ha
  have h1 := List.all_eq_true.mp h a ha
  rw [Bool.or_eq_true, decide_eq_true_eq, Bool.and_eq_true, decide_eq_true_eq] at h1
  rcases h1 with h1 | h1
  · exact Or.inr h1
  · exact Or.inl (List.mem_filter.mpr ⟨List.mem_append_right _ h1.2, h1.1⟩)
theorem ri_ts_ok {mi pc ex x : Nat} (ht : ri_ts mi pc = some ex) (ha : ri_at mi pc = some (.new x)) : ∃ ic, decode (ri_cc mi) (pc + 3) = .ok (.dup, 1) ∧ decode (ri_cc mi) (pc + 3 + 1) = .ok (.invokespecial ic, 3) ∧ decode (ri_cc mi) (pc + 3 + 1 + 3) = .ok (.athrow, 1) ∧ (∀ a ∈ Bundle.ownAtoms0 (ri_nm mi).cls ic (ri_xn ex) ri_xs, a ∈ ri_TW ∨ a ∈ ri_HW) ∧
    Cond.classLink (ri_nm mi).cls x (ri_xn ex) ∈ ri_TW ∧ Cond.instantiable (ri_xn ex) 6 ∈ ri_TW ∧ Cond.initialized (ri_xn ex) ∈ ri_TW ∧ Bundle.fit (ri_xn ex) = true ∧ (∀ n ∈ ri_xs, Bundle.fit n = true) ∧ ri_et mi = [] ∧ ri_pu mi = true ∧ 6 ≤ ri_fr mi ∧ 81 ≤ ri_lo mi := by
  unfold ri_ts at ht
  split at ht
  · rename_i l hl
    have hm := ri_lk_mem hl
    have hp := ri_lk_mem ht
    rcases List.mem_cons.mp hm with e | hm
    · cases e
      rcases List.mem_cons.mp hp with e | hp
      · cases e
        have h0 : ri_at 29 8 = some (.new 124) := by decide +kernel
        cases h0.symm.trans ha
        exact ⟨126, by decide +kernel, by decide +kernel, by decide +kernel, ri_at126, (ri_tw1 (i := 171) rfl rfl), (ri_tw1 (i := 172) rfl rfl), (ri_tw1 (i := 8) rfl rfl), by decide +kernel, by decide +kernel, rfl, rfl, by decide +kernel, by decide +kernel⟩
      · cases hp
    rcases List.mem_cons.mp hm with e | hm
    · cases e
      rcases List.mem_cons.mp hp with e | hp
      · cases e
        have h0 : ri_at 30 8 = some (.new 124) := by decide +kernel
        cases h0.symm.trans ha
        exact ⟨126, by decide +kernel, by decide +kernel, by decide +kernel, ri_at126, (ri_tw1 (i := 171) rfl rfl), (ri_tw1 (i := 172) rfl rfl), (ri_tw1 (i := 8) rfl rfl), by decide +kernel, by decide +kernel, rfl, rfl, by decide +kernel, by decide +kernel⟩
      · cases hp
    rcases List.mem_cons.mp hm with e | hm
    · cases e
      rcases List.mem_cons.mp hp with e | hp
      · cases e
        have h0 : ri_at 31 10 = some (.new 127) := by decide +kernel
        cases h0.symm.trans ha
        exact ⟨129, by decide +kernel, by decide +kernel, by decide +kernel, ri_at129, (ri_tw2 (i := 51) rfl rfl), (ri_tw2 (i := 52) rfl rfl), (ri_tw1 (i := 10) rfl rfl), by decide +kernel, by decide +kernel, rfl, rfl, by decide +kernel, by decide +kernel⟩
      · cases hp
    rcases List.mem_cons.mp hm with e | hm
    · cases e
      rcases List.mem_cons.mp hp with e | hp
      · cases e
        have h0 : ri_at 32 4 = some (.new 130) := by decide +kernel
        cases h0.symm.trans ha
        exact ⟨132, by decide +kernel, by decide +kernel, by decide +kernel, ri_at132, (ri_tw1 (i := 97) rfl rfl), (ri_tw1 (i := 98) rfl rfl), (ri_tw1 (i := 7) rfl rfl), by decide +kernel, by decide +kernel, rfl, rfl, by decide +kernel, by decide +kernel⟩
      · cases hp
    cases hm
  · cases ht
