/-! withJuniors, as a function of ints, is the closure -/
def rj_p (h : Nat → Int32) (x : Int32) : Nat → Int32
  | 0 => x
  | k + 1 => cond (rb_h (rj_p h x k) (nI k)) (rj_p h x k ||| h k) (rj_p h x k)
def rj_w (h : Nat → Int32) : Nat → Int32 → Int32
  | 0, x => x
  | n + 1, x => cond (decide (rj_p h x 10 = x)) (rj_p h x 10) (rj_w h n (rj_p h x 10))
def rb_lo (n : Nat) (x : Int32) : Prop := ∀ j, n ≤ j → rb_t x j = false
section RJ
variable {h : Nat → Int32} {x : Int32}
theorem rj_p_step {k : Nat} (hk : k < 10) : rj_p h x (k + 1) = cond (rb_t (rj_p h x k) k) (rj_p h x k ||| h k) (rj_p h x k) := by
  show cond (rb_h (rj_p h x k) (nI k)) (rj_p h x k ||| h k) (rj_p h x k) = _
  rw [rb_hk _ (by omega)]
theorem rj_p_up {k j : Nat} (hj : rb_t (rj_p h x k) j = true) : rb_t (rj_p h x (k + 1)) j = true := by
  show rb_t (cond _ _ _) j = true
  cases rb_h (rj_p h x k) (nI k)
  · exact hj
  · show rb_t (rj_p h x k ||| h k) j = true
    rw [rb_or, hj, Bool.true_or]
theorem rj_p_mono {k m j : Nat} (hj : rb_t (rj_p h x k) j = true) : rb_t (rj_p h x (k + m)) j = true := by
  induction m with
  | zero => exact hj
  | succ m ih => exact rj_p_up ih
theorem rj_p_lo (hx : rb_lo 10 x) (hh : ∀ r, r < 10 → rb_lo 10 (h r)) : ∀ k, k ≤ 10 → rb_lo 10 (rj_p h x k) := by
  intro k
  induction k with
  | zero => intro _; exact hx
  | succ k ih =>
    intro hk j hj
    rw [rj_p_step (by omega)]
    have h1 := ih (by omega) j hj
    cases rb_t (rj_p h x k) k
    · exact h1
    · show rb_t (rj_p h x k ||| h k) j = false
      rw [rb_or, h1, hh k (by omega) j hj]
      rfl
theorem rj_p_sub {Y : Nat → Bool} (hY : rc_cl (fun i j => rb_t (h i) j) Y) (hXY : ∀ i, i < 10 → rb_t x i = true → Y i = true) : ∀ k, k ≤ 10 → ∀ j, j < 10 → rb_t (rj_p h x k) j = true → Y j = true := by
  intro k
  induction k with
  | zero => intro _ j hj a; exact hXY j hj a
  | succ k ih =>
    intro hk j hj a
    rw [rj_p_step (by omega)] at a
    have ih := ih (by omega)
    cases hb : rb_t (rj_p h x k) k with
    | false => rw [hb] at a; exact ih j hj a
    | true =>
      rw [hb] at a
      have a : rb_t (rj_p h x k ||| h k) j = true := a
      rw [rb_or, Bool.or_eq_true] at a
      rcases a with a | a
      · exact ih j hj a
      · exact hY k j (by omega) hj (ih k (by omega) hb) a
theorem rj_fix (hf : rj_p h x 10 = x) {k : Nat} (hk : k ≤ 10) : rj_p h x k = x := by
  apply rb_ext
  intro j _
  cases hb : rb_t (rj_p h x k) j with
  | true =>
    have := rj_p_mono (m := 10 - k) hb
    rw [show k + (10 - k) = 10 by omega, hf] at this
    exact this.symm
  | false =>
    cases hx : rb_t x j with
    | false => rfl
    | true =>
      have h0 : rb_t (rj_p h x 0) j = true := hx
      have := rj_p_mono (m := k) h0
      rw [Nat.zero_add, hb] at this
      cases this
theorem rj_fix_cl (hf : rj_p h x 10 = x) : rc_cl (fun i j => rb_t (h i) j) (rb_t x) := by
  intro i j hi hj a b
  have h1 := rj_p_step (h := h) (x := x) hi
  rw [rj_fix hf (by omega), rj_fix hf (by omega), a] at h1
  have h2 : x = x ||| h i := h1
  have b : rb_t (h i) j = true := b
  rw [h2, rb_or, b, Bool.or_true]
end RJ
def rj_n (x : Int32) : Nat := (List.range 10).countP (rb_t x)
theorem rj_cnt_lt {p q : Nat → Bool} (hpq : ∀ a, p a = true → q a = true) {a : Nat} (hp : p a = false) (hq : q a = true) : ∀ l : List Nat, a ∈ l → l.countP p < l.countP q := by
  intro l
  induction l with
  | nil => intro h; cases h
  | cons b t ih =>
    intro hm
    rw [List.countP_cons, List.countP_cons]
    have hle : t.countP p ≤ t.countP q := List.countP_mono_left fun x _ => hpq x
    rcases List.mem_cons.mp hm with rfl | hm
    · rw [hp, hq]
      simp
      omega
    · have := ih hm
      cases hb : p b with
      | true => rw [hpq b hb]; simp; omega
      | false => cases q b <;> simp <;> omega
theorem rj_n_lt {x y : Int32} (hx : rb_lo 10 x) (hy : rb_lo 10 y) (hs : ∀ j, rb_t x j = true → rb_t y j = true) (hne : ¬ y = x) : rj_n x < rj_n y := by
  have : ∃ j, rb_t x j = false ∧ rb_t y j = true := by
    refine Classical.byContradiction fun hn => hne (rb_ext fun j _ => ?_)
    cases h1 : rb_t x j with
    | true => exact hs j h1
    | false =>
      cases h2 : rb_t y j with
      | false => rfl
      | true => exact absurd ⟨j, h1, h2⟩ hn
  obtain ⟨j, h1, h2⟩ := this
  have hj : j < 10 := by
    refine Nat.lt_of_not_le fun hge => ?_
    rw [hy j hge] at h2
    cases h2
  exact rj_cnt_lt hs h1 h2 _ (List.mem_range.mpr hj)
theorem rj_n_le (x : Int32) : rj_n x ≤ 10 := by
  have := List.countP_le_length (p := rb_t x) (l := List.range 10)
  rw [List.length_range] at this
  exact this
theorem rj_w_spec {h : Nat → Int32} (hh : ∀ r, r < 10 → rb_lo 10 (h r)) : ∀ (n : Nat) (x : Int32), rb_lo 10 x → 11 ≤ rj_n x + n → rb_lo 10 (rj_w h n x) ∧ rj_p h (rj_w h n x) 10 = rj_w h n x ∧ (∀ j, rb_t x j = true → rb_t (rj_w h n x) j = true) ∧
    ∀ Y : Nat → Bool, rc_cl (fun i j => rb_t (h i) j) Y → (∀ i, i < 10 → rb_t x i = true → Y i = true) → ∀ j, j < 10 → rb_t (rj_w h n x) j = true → Y j = true := by
  intro n
  induction n with
  | zero => intro x hx hn; have := rj_n_le x; omega
  | succ n ih =>
    intro x hx hn
    have hup : ∀ j, rb_t x j = true → rb_t (rj_p h x 10) j = true := fun j hj => by
      have h0 : rb_t (rj_p h x 0) j = true := hj
      have := rj_p_mono (m := 10) h0
      exact this
    show rb_lo 10 (cond (decide (rj_p h x 10 = x)) (rj_p h x 10) (rj_w h n (rj_p h x 10))) ∧ _
    have hw : rj_w h (n + 1) x = cond (decide (rj_p h x 10 = x)) (rj_p h x 10) (rj_w h n (rj_p h x 10)) := rfl
    rw [hw]
    by_cases he : rj_p h x 10 = x
    · rw [decide_eq_true he]
      simp only [cond_true]
      rw [he]
      exact ⟨hx, he, fun j hj => hj, fun Y hY hXY j hj a => hXY j hj a⟩
    · rw [decide_eq_false he]
      simp only [cond_false]
      have hlo := rj_p_lo hx hh 10 (Nat.le_refl _)
      have hlt := rj_n_lt hx hlo hup he
      obtain ⟨a1, a2, a3, a4⟩ := ih (rj_p h x 10) hlo (by omega)
      exact ⟨a1, a2, fun j hj => a3 j (hup j hj), fun Y hY hXY => a4 Y hY (rj_p_sub hY hXY 10 (Nat.le_refl _))⟩
/-- the closure, as withJuniors computes it -/
theorem rj_is {h : Nat → Int32} (hh : ∀ r, r < 10 → rb_lo 10 (h r)) {x : Int32} (hx : rb_lo 10 x) : rb_lo 10 (rj_w h 10 x) ∧ rc_is (fun i j => rb_t (h i) j) (rb_t x) (rb_t (rj_w h 10 x)) := by
  by_cases h0 : x = 0
  · subst h0
    have hp : ∀ k, k ≤ 10 → rj_p h 0 k = 0 := by
      intro k
      induction k with
      | zero => intro _; rfl
      | succ k ih =>
        intro hk
        rw [rj_p_step (by omega), ih (by omega), rb_0]
        rfl
    have hw : rj_w h 10 0 = 0 := by
      show cond (decide (rj_p h 0 10 = 0)) (rj_p h 0 10) _ = 0
      rw [hp 10 (Nat.le_refl _)]
      rfl
    rw [hw]
    exact ⟨hx, rj_fix_cl (hp 10 (Nat.le_refl _)), fun i _ a => a, fun Y _ hXY i hi a => hXY i hi a⟩
  · obtain ⟨j, hj, hb⟩ := rb_ne h0
    have hn : 1 ≤ rj_n x := by
      have hj : j < 10 := by
        refine Nat.lt_of_not_le fun hge => ?_
        rw [hx j hge] at hb
        cases hb
      have := rj_cnt_lt (p := fun _ => false) (q := rb_t x) (fun a h => by cases h) rfl hb (List.range 10) (List.mem_range.mpr hj)
      have h2 : rj_n x = (List.range 10).countP (rb_t x) := rfl
      omega
    obtain ⟨a1, a2, a3, a4⟩ := rj_w_spec hh 10 x hx (by omega)
    exact ⟨a1, rj_fix_cl a2, fun i _ a => a3 i a, fun Y hY hXY => a4 Y hY hXY⟩
