/-! The reference's order is the closure -/
theorem ri_fo_or (Q : Nat → Bool) : ∀ n, ri_fo (fun i b => b || Q i) n false = ri_ex Q n := by
  intro n
  induction n with
  | zero => rfl
  | succ n ih =>
    show (ri_fo (fun i b => b || Q i) n false || Q n) = (ri_ex Q n || Q n)
    rw [ih]
theorem ri_ex_congr {Q Q' : Nat → Bool} : ∀ {n : Nat}, (∀ i, i < n → Q i = Q' i) → ri_ex Q n = ri_ex Q' n := by
  intro n
  induction n with
  | zero => intro _; rfl
  | succ n ih =>
    intro h
    show (ri_ex Q n || Q n) = (ri_ex Q' n || Q' n)
    rw [ih (fun i hi => h i (by omega)), h n (by omega)]
theorem ri_ex_no {Q : Nat → Bool} {n : Nat} (h : ∀ i, i < n → Q i = false) : ri_ex Q n = false := by
  cases he : ri_ex Q n with
  | false => rfl
  | true =>
    obtain ⟨i, h1, h2⟩ := ri_ex_iff.mp he
    rw [h i h1] at h2
    cases h2
theorem ri_fst_congr {Q Q' : Nat → Bool} : ∀ {n : Nat}, (∀ i, i < n → Q i = Q' i) → ri_fst Q n = ri_fst Q' n := by
  intro n
  induction n with
  | zero => intro _; rfl
  | succ n ih =>
    intro h
    show (if ri_ex Q n = true then ri_fst Q n else if Q n = true then n else n + 1) = (if ri_ex Q' n = true then ri_fst Q' n else if Q' n = true then n else n + 1)
    rw [ih (fun i hi => h i (by omega)), h n (by omega), ri_ex_congr (Q := Q) (Q' := Q') (fun i hi => h i (by omega))]
theorem rb_u_same (B : Nat → Bool) (k : Nat) (b : Bool) : rb_u B k b k = b := by simp [rb_u]
theorem rb_u_ne (B : Nat → Bool) {k j : Nat} (b : Bool) (h : ¬ j = k) : rb_u B k b j = B j := by simp [rb_u, h]
theorem md_fo_set (g : Nat → Bool) (S0 : Nat → Bool) (k : Nat) : ∀ n, ri_fo (fun i S => rb_u S i (g i)) n S0 k = if k < n then g k else S0 k := by
  intro n
  induction n with
  | zero => simp [ri_fo]
  | succ n ih =>
    show rb_u (ri_fo (fun i S => rb_u S i (g i)) n S0) n (g n) k = _
    by_cases e : k = n
    · subst e
      rw [rb_u_same]
      simp
    · rw [rb_u_ne _ _ e, ih]
      by_cases h : k < n
      · rw [if_pos h, if_pos (by omega)]
      · rw [if_neg h, if_neg (by omega)]
theorem md_o1_v (I S0 : Nat → Bool) {k : Nat} (hk : k < 100) : md_o1 I S0 k = (decide (k % 11 = 0) || I k) := by
  unfold md_o1
  rw [md_fo_set (fun k => decide (k % 11 = 0) || I k) S0 k 100, if_pos hk]
theorem md_o2_v (S : Nat → Bool) {b : Nat} (hb : b < 10) : ∀ n, n ≤ 100 → ∀ k, k < 100 → ri_fo (md_o2o b) n S k = if k < n then (S k || (S (k / 10 * 10 + b) && S (10 * b + k % 10))) else S k := by
  intro n
  induction n with
  | zero => intro _ k _; simp [ri_fo]
  | succ n ih =>
    intro hn k hk
    have ih := ih (by omega)
    show md_o2o b n (ri_fo (md_o2o b) n S) k = _
    generalize ri_fo (md_o2o b) n S = T at ih ⊢
    unfold md_o2o
    by_cases e : k = n
    · subst e
      rw [rb_u_same, ih k hk, ih (k / 10 * 10 + b) (by omega), ih (10 * b + k % 10) (by omega)]
      rw [show (k / 10 * 10 + b) / 10 = k / 10 by omega, show (k / 10 * 10 + b) % 10 = b by omega, show (10 * b + k % 10) / 10 = b by omega, show (10 * b + k % 10) % 10 = k % 10 by omega, show b * 10 + b = 10 * b + b by omega]
      rw [if_neg (show ¬ k < k by omega), if_pos (show k < k + 1 by omega)]
      have e1 : (if k / 10 * 10 + b < k then (S (k / 10 * 10 + b) || S (k / 10 * 10 + b) && S (10 * b + b)) else S (k / 10 * 10 + b)) = S (k / 10 * 10 + b) := by
        split
        · cases S (k / 10 * 10 + b) <;> simp
        · rfl
      have e2 : (if 10 * b + k % 10 < k then (S (10 * b + k % 10) || S (10 * b + b) && S (10 * b + k % 10)) else S (10 * b + k % 10)) = S (10 * b + k % 10) := by
        split
        · cases S (10 * b + k % 10) <;> simp
        · rfl
      rw [e1, e2]
    · rw [rb_u_ne _ _ e, ih k hk]
      by_cases h : k < n
      · rw [if_pos h, if_pos (by omega)]
      · rw [if_neg h, if_neg (by omega)]
theorem md_o2_ij (S : Nat → Bool) {b i j : Nat} (hb : b < 10) (hi : i < 10) (hj : j < 10) : md_o2 b S (10 * i + j) = (S (10 * i + j) || (S (10 * i + b) && S (10 * b + j))) := by
  unfold md_o2
  rw [md_o2_v S hb 100 (Nat.le_refl _) (10 * i + j) (by omega), if_pos (by omega), show (10 * i + j) / 10 * 10 + b = 10 * i + b by omega, show (10 * i + j) % 10 = j by omega]
def md_H (I S : Nat → Bool) : Prop := ∀ X : Nat → Bool, rc_is (fun i j => I (10 * i + j)) X (fun j => ri_ex (fun i => X i && S (10 * i + j)) 10)
theorem md_or_H (I S0 : Nat → Bool) : md_H I (md_or I S0) := by
  have key : ∀ m, m ≤ 10 → (∀ i, i < 10 → ri_fo md_o2 m (md_o1 I S0) (10 * i + i) = true) ∧ (∀ i j, i < 10 → j < 10 → I (10 * i + j) = true → ri_fo md_o2 m (md_o1 I S0) (10 * i + j) = true) ∧
      (∀ b i j, b < m → i < 10 → j < 10 → ri_fo md_o2 m (md_o1 I S0) (10 * i + b) = true → ri_fo md_o2 m (md_o1 I S0) (10 * b + j) = true → ri_fo md_o2 m (md_o1 I S0) (10 * i + j) = true) ∧
      (∀ P : Nat → Nat → Prop, (∀ i, P i i) → (∀ i k j, P i k → P k j → P i j) → (∀ i j, i < 10 → j < 10 → I (10 * i + j) = true → P i j) → ∀ i j, i < 10 → j < 10 → ri_fo md_o2 m (md_o1 I S0) (10 * i + j) = true → P i j) := by
    intro m
    induction m with
    | zero =>
      intro _
      refine ⟨fun i hi => ?_, fun i j hi hj h => ?_, fun b i j hb => by omega, fun P hr _ hP i j hi hj h => ?_⟩
      · show md_o1 I S0 (10 * i + i) = true
        rw [md_o1_v I S0 (by omega), decide_eq_true (show (10 * i + i) % 11 = 0 by omega)]
        rfl
      · show md_o1 I S0 (10 * i + j) = true
        rw [md_o1_v I S0 (by omega), h, Bool.or_true]
      · have h : md_o1 I S0 (10 * i + j) = true := h
        rw [md_o1_v I S0 (by omega), Bool.or_eq_true, decide_eq_true_eq] at h
        rcases h with h | h
        · have : i = j := by omega
          rw [this]
          exact hr j
        · exact hP i j hi hj h
    | succ m ih =>
      intro hm
      obtain ⟨h1, h2, h3, h4⟩ := ih (by omega)
      have e : ∀ i j, i < 10 → j < 10 → ri_fo md_o2 (m + 1) (md_o1 I S0) (10 * i + j) = (ri_fo md_o2 m (md_o1 I S0) (10 * i + j) || (ri_fo md_o2 m (md_o1 I S0) (10 * i + m) && ri_fo md_o2 m (md_o1 I S0) (10 * m + j))) := by
        intro i j hi hj
        show md_o2 m (ri_fo md_o2 m (md_o1 I S0)) (10 * i + j) = _
        exact md_o2_ij _ (by omega) hi hj
      generalize ri_fo md_o2 (m + 1) (md_o1 I S0) = T' at e ⊢
      generalize ri_fo md_o2 m (md_o1 I S0) = T at h1 h2 h3 h4 e
      refine ⟨fun i hi => ?_, fun i j hi hj h => ?_, fun b i j hb hi hj a c => ?_, fun P hr ht hP i j hi hj h => ?_⟩
      · rw [e i i hi hi, h1 i hi]; rfl
      · rw [e i j hi hj, h2 i j hi hj h]; rfl
      · rw [e i b hi (by omega)] at a
        rw [e b j (by omega) hj] at c
        rw [e i j hi hj]
        simp only [Bool.or_eq_true, Bool.and_eq_true] at a c ⊢
        by_cases hbm : b = m
        · subst hbm
          right
          refine ⟨?_, ?_⟩
          · rcases a with a | a
            · exact a
            · exact a.1
          · rcases c with c | c
            · exact c
            · exact c.2
        · have hb : b < m := by omega
          rcases a with a | ⟨a1, a2⟩ <;> rcases c with c | ⟨c1, c2⟩
          · exact Or.inl (h3 b i j hb hi hj a c)
          · exact Or.inr ⟨h3 b i m hb hi (by omega) a c1, c2⟩
          · exact Or.inr ⟨a1, h3 b m j hb (by omega) hj a2 c⟩
          · exact Or.inr ⟨a1, c2⟩
      · rw [e i j hi hj] at h
        simp only [Bool.or_eq_true, Bool.and_eq_true] at h
        rcases h with h | ⟨a, c⟩
        · exact h4 P hr ht hP i j hi hj h
        · exact ht i m j (h4 P hr ht hP i m hi (by omega) a) (h4 P hr ht hP m j (by omega) hj c)
  obtain ⟨h1, h2, h3, h4⟩ := key 10 (Nat.le_refl _)
  intro X
  refine rc_of_rel (S := fun i j => md_or I S0 (10 * i + j)) h1 h2 (fun i k j hi hk hj a c => h3 k i j hk hi hj a c) h4 X _ (fun j hj => ?_)
  rw [ri_ex_iff]
  simp only [Bool.and_eq_true]
theorem md_H_congr {I I' S S' : Nat → Bool} (h : md_H I S) (hI : ∀ k, k < 100 → I k = I' k) (hS : ∀ k, k < 100 → S k = S' k) : md_H I' S' := by
  intro X
  refine (h X).congr (fun i j hi hj => hI _ (by omega)) (fun i _ => rfl) (fun j hj => ri_ex_congr fun i hi => ?_)
  rw [hS _ (by omega)]
theorem md_H_one {I S : Nat → Bool} (_h : md_H I S) {i j : Nat} (hi : i < 10) : ri_ex (fun k => decide (k = i) && S (10 * k + j)) 10 = S (10 * i + j) := by
  cases hs : S (10 * i + j) with
  | true => exact ri_ex_iff.mpr ⟨i, hi, by rw [hs]; simp⟩
  | false =>
    refine ri_ex_no fun k _ => ?_
    by_cases e : k = i
    · subst e; rw [hs, Bool.and_false]
    · rw [decide_eq_false e]; rfl
