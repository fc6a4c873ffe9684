/-! Counting and masks -/
def rk (B : Nat → Bool) : Nat → Nat
  | 0 => 0
  | n + 1 => rk B n + cond (B n) 1 0
theorem rk_le (B : Nat → Bool) : ∀ n, rk B n ≤ n := by
  intro n
  induction n with
  | zero => exact Nat.le_refl 0
  | succ n ih =>
    show rk B n + cond (B n) 1 0 ≤ n + 1
    cases B n
    · show rk B n + 0 ≤ n + 1; omega
    · show rk B n + 1 ≤ n + 1; omega
theorem rk_congr {B B' : Nat → Bool} : ∀ {n : Nat}, (∀ i, i < n → B i = B' i) → rk B n = rk B' n := by
  intro n
  induction n with
  | zero => intro _; rfl
  | succ n ih =>
    intro h
    show rk B n + cond (B n) 1 0 = rk B' n + cond (B' n) 1 0
    rw [ih (fun i hi => h i (by omega)), h n (by omega)]
theorem rk_mono {B B' : Nat → Bool} : ∀ {n : Nat}, (∀ i, i < n → B i = true → B' i = true) → rk B n ≤ rk B' n := by
  intro n
  induction n with
  | zero => intro _; exact Nat.le_refl 0
  | succ n ih =>
    intro h
    show rk B n + cond (B n) 1 0 ≤ rk B' n + cond (B' n) 1 0
    have h1 := ih (fun i hi => h i (by omega))
    have h2 := h n (by omega)
    cases hb : B n with
    | false => show rk B n + 0 ≤ _; omega
    | true => rw [h2 hb]; show rk B n + 1 ≤ rk B' n + 1; omega
theorem rk_zero {B : Nat → Bool} : ∀ {n : Nat}, (∀ i, i < n → B i = false) → rk B n = 0 := by
  intro n h
  have := rk_mono (B := B) (B' := fun _ => false) (n := n) (fun i hi hb => by rw [h i hi] at hb; cases hb)
  have h0 : ∀ n, rk (fun _ => false) n = 0 := by
    intro n
    induction n with
    | zero => rfl
    | succ n ih => show rk (fun _ => false) n + 0 = 0; omega
  rw [h0] at this
  omega
theorem rk_ext {B : Nat → Bool} {n m : Nat} (h : ∀ i, n ≤ i → B i = false) : rk B (n + m) = rk B n := by
  induction m with
  | zero => rfl
  | succ m ih =>
    show rk B (n + m) + cond (B (n + m)) 1 0 = _
    rw [h (n + m) (by omega), ih]
    rfl
theorem md_cnt_rk (B : Nat → Bool) : ∀ n, md_cnt B n = nI (rk B n) := by
  intro n
  induction n with
  | zero => rfl
  | succ n ih =>
    show cond (B n) (md_cnt B n + 1) (md_cnt B n) = nI (rk B n + cond (B n) 1 0)
    rw [ih]
    cases B n
    · rfl
    · show nI (rk B n) + 1 = nI (rk B n + 1)
      exact nJ_add _ 1
theorem nJ_lt {a b : Nat} (ha : a < 2147483648) (hb : b < 2147483648) : (nI a < nI b) ↔ a < b := by
  rw [Int32.lt_iff_toInt_lt, nI_toInt ha, nI_toInt hb]
  omega
theorem nJ_le {a b : Nat} (ha : a < 2147483648) (hb : b < 2147483648) : (nI a ≤ nI b) ↔ a ≤ b := by
  rw [Int32.le_iff_toInt_le, nI_toInt ha, nI_toInt hb]
  omega
theorem nJ_inj {a b : Nat} (ha : a < 2147483648) (hb : b < 2147483648) (h : nI a = nI b) : a = b := by
  have := congrArg Int32.toInt h
  rw [nI_toInt ha, nI_toInt hb] at this
  omega
theorem nJ_ltm {a b : Nat} {n : Int32} (hab : a ≤ b) (hb : b < 2147483648) (h : nI b < n) : nI a < n := by
  rw [Int32.lt_iff_toInt_lt, nI_toInt hb] at h
  rw [Int32.lt_iff_toInt_lt, nI_toInt (by omega)]
  omega
/-- the same count over natural numbers -/
def rkp1 (n : Nat) : Nat := Nat.sub n (Nat.land (Nat.shiftRight n 1) 1431655765)
def rkp2 (n : Nat) : Nat := Nat.add (Nat.land n 858993459) (Nat.land (Nat.shiftRight n 2) 858993459)
def rkp3 (n : Nat) : Nat := Nat.land (Nat.add n (Nat.shiftRight n 4)) 252645135
def rkp4 (n : Nat) : Nat := Nat.add n (Nat.shiftRight n 8)
def rkp5 (n : Nat) : Nat := Nat.add n (Nat.shiftRight n 16)
def rkp (n : Nat) : Nat := Nat.land (rkp5 (rkp4 (rkp3 (rkp2 (rkp1 n))))) 63
def rkp_t (n j : Nat) : Bool := Nat.beq (Nat.land (Nat.shiftRight n j) 1) 1
def rkp_all (p : Nat → Bool) : Nat → Bool
  | 0 => true
  | n + 1 => p n && rkp_all p n
theorem rkp_all_of {p : Nat → Bool} : ∀ {n : Nat}, rkp_all p n = true → ∀ i, i < n → p i = true := by
  intro n
  induction n with
  | zero => intro _ i hi; omega
  | succ n ih =>
    intro h i hi
    have h : (p n && rkp_all p n) = true := h
    rw [Bool.and_eq_true] at h
    by_cases e : i = n
    · rw [e]; exact h.1
    · exact ih h.2 i (by omega)
theorem rkp_chk0 : rkp_all (fun a => rkp_all (fun b => Nat.beq (rkp (256 * (0 + a) + b)) (rk (rkp_t (256 * (0 + a) + b)) 16)) 256) 16 = true := by decide +kernel
theorem rkp_chk1 : rkp_all (fun a => rkp_all (fun b => Nat.beq (rkp (256 * (16 + a) + b)) (rk (rkp_t (256 * (16 + a) + b)) 16)) 256) 16 = true := by decide +kernel
theorem rkp_chk2 : rkp_all (fun a => rkp_all (fun b => Nat.beq (rkp (256 * (32 + a) + b)) (rk (rkp_t (256 * (32 + a) + b)) 16)) 256) 16 = true := by decide +kernel
theorem rkp_chk3 : rkp_all (fun a => rkp_all (fun b => Nat.beq (rkp (256 * (48 + a) + b)) (rk (rkp_t (256 * (48 + a) + b)) 16)) 256) 16 = true := by decide +kernel
theorem rkp_chk4 : rkp_all (fun a => rkp_all (fun b => Nat.beq (rkp (256 * (64 + a) + b)) (rk (rkp_t (256 * (64 + a) + b)) 16)) 256) 16 = true := by decide +kernel
theorem rkp_chk5 : rkp_all (fun a => rkp_all (fun b => Nat.beq (rkp (256 * (80 + a) + b)) (rk (rkp_t (256 * (80 + a) + b)) 16)) 256) 16 = true := by decide +kernel
theorem rkp_chk6 : rkp_all (fun a => rkp_all (fun b => Nat.beq (rkp (256 * (96 + a) + b)) (rk (rkp_t (256 * (96 + a) + b)) 16)) 256) 16 = true := by decide +kernel
theorem rkp_chk7 : rkp_all (fun a => rkp_all (fun b => Nat.beq (rkp (256 * (112 + a) + b)) (rk (rkp_t (256 * (112 + a) + b)) 16)) 256) 16 = true := by decide +kernel
theorem rkp_chk8 : rkp_all (fun a => rkp_all (fun b => Nat.beq (rkp (256 * (128 + a) + b)) (rk (rkp_t (256 * (128 + a) + b)) 16)) 256) 16 = true := by decide +kernel
theorem rkp_chk9 : rkp_all (fun a => rkp_all (fun b => Nat.beq (rkp (256 * (144 + a) + b)) (rk (rkp_t (256 * (144 + a) + b)) 16)) 256) 16 = true := by decide +kernel
theorem rkp_chk10 : rkp_all (fun a => rkp_all (fun b => Nat.beq (rkp (256 * (160 + a) + b)) (rk (rkp_t (256 * (160 + a) + b)) 16)) 256) 16 = true := by decide +kernel
theorem rkp_chk11 : rkp_all (fun a => rkp_all (fun b => Nat.beq (rkp (256 * (176 + a) + b)) (rk (rkp_t (256 * (176 + a) + b)) 16)) 256) 16 = true := by decide +kernel
theorem rkp_chk12 : rkp_all (fun a => rkp_all (fun b => Nat.beq (rkp (256 * (192 + a) + b)) (rk (rkp_t (256 * (192 + a) + b)) 16)) 256) 16 = true := by decide +kernel
theorem rkp_chk13 : rkp_all (fun a => rkp_all (fun b => Nat.beq (rkp (256 * (208 + a) + b)) (rk (rkp_t (256 * (208 + a) + b)) 16)) 256) 16 = true := by decide +kernel
theorem rkp_chk14 : rkp_all (fun a => rkp_all (fun b => Nat.beq (rkp (256 * (224 + a) + b)) (rk (rkp_t (256 * (224 + a) + b)) 16)) 256) 16 = true := by decide +kernel
theorem rkp_chk15 : rkp_all (fun a => rkp_all (fun b => Nat.beq (rkp (256 * (240 + a) + b)) (rk (rkp_t (256 * (240 + a) + b)) 16)) 256) 16 = true := by decide +kernel
theorem rkp_rk {n : Nat} (h : n < 65536) : rkp n = rk (rkp_t n) 16 := by
  have key : ∀ c, rkp_all (fun a => rkp_all (fun b => Nat.beq (rkp (256 * (16 * c + a) + b)) (rk (rkp_t (256 * (16 * c + a) + b)) 16)) 256) 16 = true → 16 * c ≤ n / 256 → n / 256 < 16 * c + 16 → rkp n = rk (rkp_t n) 16 := by
    intro c hc h1 h2
    have := rkp_all_of (rkp_all_of hc (n / 256 - 16 * c) (by omega)) (n % 256) (by omega)
    rw [show 256 * (16 * c + (n / 256 - 16 * c)) + n % 256 = n by omega] at this
    exact Nat.eq_of_beq_eq_true this
  have hd : n / 4096 < 16 := by omega
  rcases (show n / 4096 = 0 ∨ n / 4096 = 1 ∨ n / 4096 = 2 ∨ n / 4096 = 3 ∨ n / 4096 = 4 ∨ n / 4096 = 5 ∨ n / 4096 = 6 ∨ n / 4096 = 7 ∨ n / 4096 = 8 ∨ n / 4096 = 9 ∨ n / 4096 = 10 ∨ n / 4096 = 11 ∨ n / 4096 = 12 ∨ n / 4096 = 13 ∨ n / 4096 = 14 ∨ n / 4096 = 15 by omega) with e | e | e | e | e | e | e | e | e | e | e | e | e | e | e | e
  · exact key 0 rkp_chk0 (by omega) (by omega)
  · exact key 1 rkp_chk1 (by omega) (by omega)
  · exact key 2 rkp_chk2 (by omega) (by omega)
  · exact key 3 rkp_chk3 (by omega) (by omega)
  · exact key 4 rkp_chk4 (by omega) (by omega)
  · exact key 5 rkp_chk5 (by omega) (by omega)
  · exact key 6 rkp_chk6 (by omega) (by omega)
  · exact key 7 rkp_chk7 (by omega) (by omega)
  · exact key 8 rkp_chk8 (by omega) (by omega)
  · exact key 9 rkp_chk9 (by omega) (by omega)
  · exact key 10 rkp_chk10 (by omega) (by omega)
  · exact key 11 rkp_chk11 (by omega) (by omega)
  · exact key 12 rkp_chk12 (by omega) (by omega)
  · exact key 13 rkp_chk13 (by omega) (by omega)
  · exact key 14 rkp_chk14 (by omega) (by omega)
  · exact key 15 rkp_chk15 (by omega) (by omega)
theorem nJ_bv (n : Nat) : (nI n).toBitVec = BitVec.ofNat 32 n := rfl
theorem rb_t_nat {n j : Nat} (hj : j < 32) : rb_t (nI n) j = n.testBit j := by
  unfold rb_t
  rw [nJ_bv, BitVec.getLsbD_ofNat]
  simp [hj]
theorem rkp_t_bit (n j : Nat) : rkp_t n j = n.testBit j := by
  unfold rkp_t
  rw [Nat.testBit_eq_decide_div_mod_eq]
  show Nat.beq ((n >>> j) &&& 1) 1 = _
  rw [Nat.and_one_is_mod, Nat.shiftRight_eq_div_pow]
  cases h : Nat.beq (n / 2 ^ j % 2) 1 with
  | true => rw [Nat.eq_of_beq_eq_true h]; rfl
  | false =>
    symm
    rw [decide_eq_false_iff_not]
    intro e
    rw [e] at h
    cases h
theorem nJ_and (a b : Nat) : nI a &&& nI b = nI (a &&& b) := by
  apply Int32.toBitVec_inj.mp
  rw [Int32.toBitVec_and, nJ_bv, nJ_bv, nJ_bv]
  exact (BitVec.ofNat_and).symm
theorem nJ_sub {a b : Nat} (h : b ≤ a) : nI a - nI b = nI (a - b) := by
  have e : nI (a - b) + nI b = nI a := by rw [nJ_add, Nat.sub_add_cancel h]
  rw [← e]
  exact Int32.add_sub_cancel _ _
theorem nJ_shr {a k : Nat} (ha : a < 4294967296) (hk : k < 32) : rb_s (nI a) (nI k) = nI (a >>> k) := by
  unfold rb_s
  apply Int32.toBitVec_inj.mp
  apply BitVec.eq_of_toNat_eq
  have hk2 : ∀ k, k < 32 → ((nI k).toUInt32 &&& Int32.toUInt32 31).toNat % 32 = k := by decide +kernel
  show ((nI a).toUInt32 >>> ((nI k).toUInt32 &&& Int32.toUInt32 31)).toNat = (BitVec.ofNat 32 (a >>> k)).toNat
  rw [UInt32.toNat_shiftRight, hk2 k hk, BitVec.toNat_ofNat]
  have e : (nI a).toUInt32.toNat = a := by
    show (BitVec.ofNat 32 a).toNat = a
    rw [BitVec.toNat_ofNat]
    exact Nat.mod_eq_of_lt ha
  rw [e]
  have : a >>> k ≤ a := Nat.shiftRight_le a k
  exact (Nat.mod_eq_of_lt (by omega)).symm
theorem rkp_eq {n : Nat} (h : n < 65536) : rb_c (nI n) = nI (rkp n) := by
  have l1 : (n >>> 1) &&& 1431655765 ≤ n := Nat.le_trans Nat.and_le_left (Nat.shiftRight_le n 1)
  have e1 : rb_c1 (nI n) = nI (rkp1 n) := by
    unfold rb_c1
    rw [show (1 : Int32) = nI 1 from rfl, show (1431655765 : Int32) = nI 1431655765 from rfl, nJ_shr (by omega) (by omega), nJ_and, nJ_sub l1]
    rfl
  have b1 : rkp1 n < 65536 := Nat.lt_of_le_of_lt (Nat.sub_le n _) h
  have e2 : rb_c2 (nI (rkp1 n)) = nI (rkp2 (rkp1 n)) := by
    generalize rkp1 n = m at b1
    unfold rb_c2
    rw [show (2 : Int32) = nI 2 from rfl, show (858993459 : Int32) = nI 858993459 from rfl, nJ_shr (by omega) (by omega), nJ_and, nJ_and, nJ_add]
    rfl
  have b2 : rkp2 (rkp1 n) < 131072 := by
    generalize rkp1 n = m at b1
    have h1 : m &&& 858993459 ≤ m := Nat.and_le_left
    have h2 : (m >>> 2) &&& 858993459 ≤ m := Nat.le_trans Nat.and_le_left (Nat.shiftRight_le m 2)
    show (m &&& 858993459) + ((m >>> 2) &&& 858993459) < 131072
    omega
  have e3 : rb_c3 (nI (rkp2 (rkp1 n))) = nI (rkp3 (rkp2 (rkp1 n))) := by
    generalize rkp2 (rkp1 n) = m at b2
    unfold rb_c3
    rw [show (4 : Int32) = nI 4 from rfl, show (252645135 : Int32) = nI 252645135 from rfl, nJ_shr (by omega) (by omega), nJ_add, nJ_and]
    rfl
  have b3 : rkp3 (rkp2 (rkp1 n)) < 262144 := by
    generalize rkp2 (rkp1 n) = m at b2
    have h1 : m >>> 4 ≤ m := Nat.shiftRight_le m 4
    have h2 : (m + (m >>> 4)) &&& 252645135 ≤ m + (m >>> 4) := Nat.and_le_left
    show (m + (m >>> 4)) &&& 252645135 < 262144
    omega
  have e4 : rb_c4 (nI (rkp3 (rkp2 (rkp1 n)))) = nI (rkp4 (rkp3 (rkp2 (rkp1 n)))) := by
    generalize rkp3 (rkp2 (rkp1 n)) = m at b3
    unfold rb_c4
    rw [show (8 : Int32) = nI 8 from rfl, nJ_shr (by omega) (by omega), nJ_add]
    rfl
  have b4 : rkp4 (rkp3 (rkp2 (rkp1 n))) < 524288 := by
    generalize rkp3 (rkp2 (rkp1 n)) = m at b3
    have h1 : m >>> 8 ≤ m := Nat.shiftRight_le m 8
    show m + (m >>> 8) < 524288
    omega
  have e5 : rb_c5 (nI (rkp4 (rkp3 (rkp2 (rkp1 n))))) = nI (rkp5 (rkp4 (rkp3 (rkp2 (rkp1 n))))) := by
    generalize rkp4 (rkp3 (rkp2 (rkp1 n))) = m at b4
    unfold rb_c5
    rw [show (16 : Int32) = nI 16 from rfl, nJ_shr (by omega) (by omega), nJ_add]
    rfl
  unfold rb_c rkp
  rw [e1, e2, e3, e4, e5, show (63 : Int32) = nI 63 from rfl, nJ_and]
  rfl
theorem rb_nat_of {x : Int32} {k : Nat} (hk : k ≤ 32) (h : rb_lo k x) : ∃ n, n < 2 ^ k ∧ x = nI n := by
  refine ⟨x.toBitVec.toNat, ?_, ?_⟩
  · refine Nat.lt_pow_two_of_testBit _ (fun i hi => ?_)
    exact h i hi
  · apply Int32.toBitVec_inj.mp
    rw [nJ_bv, BitVec.ofNat_toNat, BitVec.setWidth_eq]
/-- the class's count of a set: how many bits it has -/
theorem rb_c_rk {x : Int32} (h : rb_lo 16 x) : rb_c x = nI (rk (rb_t x) 16) := by
  obtain ⟨n, hn, rfl⟩ := rb_nat_of (by omega) h
  rw [rkp_eq hn, rkp_rk hn]
  refine congrArg nI (rk_congr fun i hi => ?_)
  rw [rkp_t_bit, rb_t_nat (by omega)]
theorem rb_lo_mono {a b : Nat} {x : Int32} (hab : a ≤ b) (h : rb_lo a x) : rb_lo b x := fun j hj => h j (by omega)
theorem rb_c_rkN {x : Int32} {N : Nat} (hN : N ≤ 16) (h : rb_lo N x) : rb_c x = nI (rk (rb_t x) N) := by
  rw [rb_c_rk (rb_lo_mono hN h)]
  have e := rk_ext (B := rb_t x) (n := N) (m := 16 - N) (fun i hi => h i hi)
  rw [show N + (16 - N) = 16 by omega] at e
  rw [e]
/-- membership as the reference asks it -/
theorem md_in_t (x : Int32) {k : Nat} (hk : k < 32) : md_in x (nI k) = rb_t x k := by
  have h1 : ∀ k, k < 32 → ((nI k &&& 31).toBitVec.smod 32).toNat = k := by decide +kernel
  have e0 : rb_t (x >>> (nI k &&& 31)) 0 = rb_t x k := by
    unfold rb_t
    rw [Int32.toBitVec_shiftRight, BitVec.sshiftRight_eq', h1 k hk, BitVec.getLsbD_sshiftRight]
    simp [hk]
  have b0 : rb_t 1 0 = true := by decide
  have bj : ∀ j, j < 32 → ¬ j = 0 → rb_t 1 j = false := by decide +kernel
  unfold md_in
  cases hb : rb_t x k with
  | true =>
    rw [decide_eq_true_eq]
    refine rb_ext fun j hj => ?_
    rw [rb_and]
    by_cases h0 : j = 0
    · rw [h0, e0, hb, b0]; rfl
    · rw [bj j hj h0, Bool.and_false]
  | false =>
    rw [decide_eq_false_iff_not]
    intro h
    have : rb_t ((x >>> (nI k &&& 31)) &&& 1) 0 = true := by rw [h]; exact b0
    rw [rb_and, e0, hb] at this
    cases this
theorem rb_add_or {x y : Int32} (h : ∀ j, j < 32 → (rb_t x j && rb_t y j) = false) : x + y = x ||| y := by
  apply Int32.toBitVec_inj.mp
  rw [Int32.toBitVec_add, Int32.toBitVec_or]
  refine BitVec.add_eq_or_of_and_eq_zero _ _ ?_
  have := rb_zero (x := x &&& y) (fun j hj => by rw [rb_and]; exact h j hj)
  have := congrArg Int32.toBitVec this
  rw [Int32.toBitVec_and] at this
  exact this
theorem rb_b_t {k : Nat} (hk : k < 32) (j : Nat) : rb_t (rb_b k) j = decide (j = k) := by
  by_cases hj : j < 32
  · exact rb_bit k hk j hj
  · rw [rb_hi _ (by omega)]
    symm
    exact decide_eq_false (by omega)
theorem md_msk_t (B : Nat → Bool) : ∀ N, N ≤ 32 → ∀ j, rb_t (md_msk B N) j = (decide (j < N) && B j) := by
  intro N
  induction N with
  | zero =>
    intro _ j
    show rb_t 0 j = _
    rw [rb_0]
    simp
  | succ N ih =>
    intro hN j
    have ih := ih (by omega)
    show rb_t (cond (B N) (md_msk B N + rb_b N) (md_msk B N)) j = _
    cases hb : B N with
    | false =>
      show rb_t (md_msk B N) j = _
      rw [ih j]
      by_cases e : j = N
      · subst e; simp [hb]
      · have : decide (j < N + 1) = decide (j < N) := by rw [decide_eq_decide]; omega
        rw [this]
    | true =>
      show rb_t (md_msk B N + rb_b N) j = _
      rw [rb_add_or (fun i hi => by
        rw [ih i, rb_b_t (by omega)]
        by_cases e : i = N
        · subst e; simp
        · simp [e]), rb_or, ih j, rb_b_t (by omega)]
      by_cases e : j = N
      · subst e; simp [hb]
      · have : decide (j < N + 1) = decide (j < N) := by rw [decide_eq_decide]; omega
        rw [this]
        simp [e]
