/-! Sets of numbers as ints: bits -/
def rb_t (x : Int32) (j : Nat) : Bool := x.toBitVec.getLsbD j
def rb_b (k : Nat) : Int32 := (1 : Int32) <<< (nI k &&& 31)
theorem rb_ext {x y : Int32} (h : ∀ j, j < 32 → rb_t x j = rb_t y j) : x = y := by
  apply Int32.toBitVec_inj.mp
  apply BitVec.eq_of_getLsbD_eq
  intro j hj
  exact h j hj
theorem rb_hi (x : Int32) {j : Nat} (h : 32 ≤ j) : rb_t x j = false := BitVec.getLsbD_of_ge _ _ h
theorem rb_or (x y : Int32) (j : Nat) : rb_t (x ||| y) j = (rb_t x j || rb_t y j) := by
  unfold rb_t
  rw [Int32.toBitVec_or, BitVec.getLsbD_or]
theorem rb_and (x y : Int32) (j : Nat) : rb_t (x &&& y) j = (rb_t x j && rb_t y j) := by
  unfold rb_t
  rw [Int32.toBitVec_and, BitVec.getLsbD_and]
theorem rb_xor (x y : Int32) (j : Nat) : rb_t (x ^^^ y) j = (rb_t x j ^^ rb_t y j) := by
  unfold rb_t
  rw [Int32.toBitVec_xor, BitVec.getLsbD_xor]
theorem rb_bit : ∀ k, k < 32 → ∀ j, j < 32 → rb_t (rb_b k) j = decide (j = k) := by decide +kernel
theorem rb_m1 : ∀ j, j < 32 → rb_t (-1) j = true := by decide +kernel
theorem rb_0 (j : Nat) : rb_t 0 j = false := by
  unfold rb_t
  simp
theorem rb_not (x : Int32) {j : Nat} (h : j < 32) : rb_t (x ^^^ (-1)) j = !rb_t x j := by
  rw [rb_xor, rb_m1 j h, Bool.xor_true]
theorem rb_zero {x : Int32} (h : ∀ j, j < 32 → rb_t x j = false) : x = 0 := rb_ext fun j hj => by rw [h j hj, rb_0]
theorem rb_ne {x : Int32} (h : ¬ x = 0) : ∃ j, j < 32 ∧ rb_t x j = true := by
  refine Classical.byContradiction fun hn => h (rb_zero fun j hj => ?_)
  cases hb : rb_t x j with
  | false => rfl
  | true => exact absurd ⟨j, hj, hb⟩ hn
/-- the set's question, as the class asks it -/
def rb_h (x n : Int32) : Bool := !(decide (n < 0)) && (!(decide (16 ≤ n)) && decide (¬ (x &&& ((1 : Int32) <<< (n &&& 31))) = 0))
theorem rb_hk (x : Int32) {k : Nat} (hk : k < 16) : rb_h x (nI k) = rb_t x k := by
  have h1 : ∀ k, k < 16 → decide (nI k < 0) = false ∧ decide ((16 : Int32) ≤ nI k) = false := by decide +kernel
  unfold rb_h
  rw [(h1 k hk).1, (h1 k hk).2]
  show decide (¬ (x &&& rb_b k) = 0) = rb_t x k
  cases hb : rb_t x k with
  | true =>
    rw [decide_eq_true_eq]
    intro h0
    have : rb_t (x &&& rb_b k) k = false := by rw [h0, rb_0]
    rw [rb_and, hb, rb_bit k (by omega) k (by omega)] at this
    simp at this
  | false =>
    rw [decide_eq_false_iff_not]
    intro hne
    refine hne (rb_zero fun j hj => ?_)
    rw [rb_and, rb_bit k (by omega) j hj]
    by_cases hjk : j = k
    · subst hjk; rw [hb]; rfl
    · rw [decide_eq_false hjk, Bool.and_false]
theorem rb_nat {n : Int32} {m : Nat} (hm : m < 2 ^ 31) (h0 : ¬ n < 0) (h1 : ¬ nI m ≤ n) : ∃ k, k < m ∧ n = nI k := by
  refine ⟨n.toInt.toNat, ?_, ?_⟩
  · rw [Int32.lt_iff_toInt_lt, Int32.toInt_zero] at h0
    rw [Int32.le_iff_toInt_le, nI_toInt hm] at h1
    omega
  · apply Int32.toInt_inj.mp
    rw [Int32.lt_iff_toInt_lt, Int32.toInt_zero] at h0
    rw [Int32.le_iff_toInt_le, nI_toInt hm] at h1
    rw [nI_toInt (by omega)]
    omega
theorem rb_hs {x n : Int32} (h : rb_h x n = true) : ∃ k, k < 16 ∧ n = nI k ∧ rb_t x k = true := by
  have h2 := h
  unfold rb_h at h
  simp only [Bool.and_eq_true, Bool.not_eq_true', decide_eq_false_iff_not] at h
  obtain ⟨k, hk, rfl⟩ := rb_nat (m := 16) (by decide) h.1 h.2.1
  exact ⟨k, hk, rfl, by rw [← rb_hk x hk]; exact h2⟩
/-! Closure: the least set that holds X and, with a role, what it inherits -/
def rc_cl (I : Nat → Nat → Bool) (Y : Nat → Bool) : Prop := ∀ i j, i < 10 → j < 10 → Y i = true → I i j = true → Y j = true
def rc_in (I : Nat → Nat → Bool) (X : Nat → Bool) (j : Nat) : Prop := ∀ Y : Nat → Bool, rc_cl I Y → (∀ i, i < 10 → X i = true → Y i = true) → Y j = true
/-- R is the closure of X -/
def rc_is (I : Nat → Nat → Bool) (X R : Nat → Bool) : Prop := rc_cl I R ∧ (∀ i, i < 10 → X i = true → R i = true) ∧ ∀ Y : Nat → Bool, rc_cl I Y → (∀ i, i < 10 → X i = true → Y i = true) → ∀ i, i < 10 → R i = true → Y i = true
theorem rc_is.eq {I : Nat → Nat → Bool} {X R R' : Nat → Bool} (h : rc_is I X R) (h' : rc_is I X R') {i : Nat} (hi : i < 10) : R i = R' i := by
  have a := h.2.2 R' h'.1 h'.2.1 i hi
  have b := h'.2.2 R h.1 h.2.1 i hi
  cases h1 : R i <;> cases h2 : R' i <;> simp_all
theorem rc_is.congr {I I' : Nat → Nat → Bool} {X X' R R' : Nat → Bool} (h : rc_is I X R) (hI : ∀ i j, i < 10 → j < 10 → I i j = I' i j) (hX : ∀ i, i < 10 → X i = X' i) (hR : ∀ i, i < 10 → R i = R' i) : rc_is I' X' R' := by
  obtain ⟨h1, h2, h3⟩ := h
  refine ⟨fun i j hi hj a b => ?_, fun i hi a => ?_, fun Y hY hXY i hi a => ?_⟩
  · rw [← hR j hj]
    exact h1 i j hi hj (by rw [hR i hi]; exact a) (by rw [hI i j hi hj]; exact b)
  · rw [← hR i hi]
    exact h2 i hi (by rw [hX i hi]; exact a)
  · exact h3 Y (fun i j hi hj a b => hY i j hi hj a (by rw [← hI i j hi hj]; exact b)) (fun i hi a => hXY i hi (by rw [← hX i hi]; exact a)) i hi (by rw [hR i hi]; exact a)
/-- an edge r to q more -/
theorem rc_edge {I I' : Nat → Nat → Bool} {r q : Nat} (hr : r < 10) (hq : q < 10) (hI : ∀ i j, i < 10 → j < 10 → I' i j = (I i j || (decide (i = r) && decide (j = q)))) {X R G : Nat → Bool} (hR : rc_is I X R) (hG : rc_is I (fun j => decide (j = q)) G) :
    rc_is I' X (fun j => R j || (R r && G j)) := by
  refine ⟨fun i j hi hj a b => ?_, fun i hi a => ?_, fun Y hY hXY i hi a => ?_⟩
  · rw [hI i j hi hj] at b
    simp only [Bool.or_eq_true, Bool.and_eq_true, decide_eq_true_eq] at a b ⊢
    rcases b with b | ⟨rfl, rfl⟩
    · rcases a with a | ⟨a1, a2⟩
      · exact Or.inl (hR.1 i j hi hj a b)
      · exact Or.inr ⟨a1, hG.1 i j hi hj a2 b⟩
    · have hq1 : G j = true := hG.2.1 j hj (by simp)
      rcases a with a | ⟨a1, a2⟩
      · exact Or.inr ⟨a, hq1⟩
      · exact Or.inr ⟨a1, hq1⟩
  · show (R i || R r && G i) = true
    rw [hR.2.1 i hi a, Bool.true_or]
  · have hYI : rc_cl I Y := fun i j hi hj a b => hY i j hi hj a (by rw [hI i j hi hj, b, Bool.true_or])
    simp only [Bool.or_eq_true, Bool.and_eq_true] at a
    rcases a with a | ⟨a1, a2⟩
    · exact hR.2.2 Y hYI hXY i hi a
    · have hr1 : Y r = true := hR.2.2 Y hYI hXY r hr a1
      have hq1 : Y q = true := hY r q hr hq hr1 (by rw [hI r q hr hq]; simp)
      exact hG.2.2 Y hYI (fun i hi a => by rw [decide_eq_true_eq] at a; rw [a]; exact hq1) i hi a2
/-- a reflexive transitive relation that is the least over I gives the closures -/
theorem rc_of_rel {I S : Nat → Nat → Bool} (hr : ∀ i, i < 10 → S i i = true) (hI : ∀ i j, i < 10 → j < 10 → I i j = true → S i j = true) (ht : ∀ i k j, i < 10 → k < 10 → j < 10 → S i k = true → S k j = true → S i j = true)
    (hm : ∀ P : Nat → Nat → Prop, (∀ i, P i i) → (∀ i k j, P i k → P k j → P i j) → (∀ i j, i < 10 → j < 10 → I i j = true → P i j) → ∀ i j, i < 10 → j < 10 → S i j = true → P i j)
    (X R : Nat → Bool) (hR : ∀ j, j < 10 → (R j = true ↔ ∃ i, i < 10 ∧ X i = true ∧ S i j = true)) : rc_is I X R := by
  refine ⟨fun i j hi hj a b => ?_, fun i hi a => ?_, fun Y hY hXY i hi a => ?_⟩
  · obtain ⟨k, hk, a1, a2⟩ := (hR i hi).mp a
    exact (hR j hj).mpr ⟨k, hk, a1, ht k i j hk hi hj a2 (hI i j hi hj b)⟩
  · exact (hR i hi).mpr ⟨i, hi, a, hr i hi⟩
  · obtain ⟨k, hk, a1, a2⟩ := (hR i hi).mp a
    exact hm (fun i j => Y i = true → Y j = true) (fun i h => h) (fun i k j h1 h2 h => h2 (h1 h)) (fun i j hi hj h1 h2 => hY i j hi hj h2 h1) k i hk hi a2 (hXY k hk a1)
