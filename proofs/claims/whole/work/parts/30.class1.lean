/-! The class's own helpers, as pure runs -/
theorem rx_ge {i N : Nat} (h : i < N) (hN : Nat.blt N 2147483648 = true) : ri_cd .ge (nI i) (nI N) = false := by
  have hN := Nat.le_of_ble_eq_true hN
  exact decide_eq_false (nI_ge h (by omega))
theorem rx_geN {N : Nat} : ri_cd .ge (nI N) (nI N) = true := decide_eq_true (Int32.le_refl _)
abbrev rd_S : Type := Bool × Int32 × Int32 × Int32 × Int32 × (Nat → Int32) × (Nat → Int32) × (Nat → Int32) × (Nat → Int32) × (Nat → Int32) × (Nat → Int32) × (Nat → Int32) × (Nat → Int32)
def rdl (C : rd_S) : Bool := C.1
def rdu (C : rd_S) : Int32 := C.2.1
def rdr (C : rd_S) : Int32 := C.2.2.1
def rds (C : rd_S) : Int32 := C.2.2.2.1
def rdk (C : rd_S) : Int32 := C.2.2.2.2.1
def rda (C : rd_S) : Nat → Int32 := C.2.2.2.2.2.1
def rdg (C : rd_S) : Nat → Int32 := C.2.2.2.2.2.2.1
def rdi (C : rd_S) : Nat → Int32 := C.2.2.2.2.2.2.2.1
def rdo (C : rd_S) : Nat → Int32 := C.2.2.2.2.2.2.2.2.1
def rdv (C : rd_S) : Nat → Int32 := C.2.2.2.2.2.2.2.2.2.1
def rdn (C : rd_S) : Nat → Int32 := C.2.2.2.2.2.2.2.2.2.2.1
def rdm (C : rd_S) : Nat → Int32 := C.2.2.2.2.2.2.2.2.2.2.2.1
def rdb (C : rd_S) : Nat → Int32 := C.2.2.2.2.2.2.2.2.2.2.2.2
def rdU (C : rd_S) (x : Int32) : rd_S := (rdl C, x, rdr C, rds C, rdk C, rda C, rdg C, rdi C, rdo C, rdv C, rdn C, rdm C, rdb C)
def rdR (C : rd_S) (x : Int32) : rd_S := (rdl C, rdu C, x, rds C, rdk C, rda C, rdg C, rdi C, rdo C, rdv C, rdn C, rdm C, rdb C)
def rdS (C : rd_S) (x : Int32) : rd_S := (rdl C, rdu C, rdr C, x, rdk C, rda C, rdg C, rdi C, rdo C, rdv C, rdn C, rdm C, rdb C)
def rdK (C : rd_S) (x : Int32) : rd_S := (rdl C, rdu C, rdr C, rds C, x, rda C, rdg C, rdi C, rdo C, rdv C, rdn C, rdm C, rdb C)
def rdA (C : rd_S) (x : Nat → Int32) : rd_S := (rdl C, rdu C, rdr C, rds C, rdk C, x, rdg C, rdi C, rdo C, rdv C, rdn C, rdm C, rdb C)
def rdG (C : rd_S) (x : Nat → Int32) : rd_S := (rdl C, rdu C, rdr C, rds C, rdk C, rda C, x, rdi C, rdo C, rdv C, rdn C, rdm C, rdb C)
def rdI (C : rd_S) (x : Nat → Int32) : rd_S := (rdl C, rdu C, rdr C, rds C, rdk C, rda C, rdg C, x, rdo C, rdv C, rdn C, rdm C, rdb C)
def rdO (C : rd_S) (x : Nat → Int32) : rd_S := (rdl C, rdu C, rdr C, rds C, rdk C, rda C, rdg C, rdi C, x, rdv C, rdn C, rdm C, rdb C)
def rdV (C : rd_S) (x : Nat → Int32) : rd_S := (rdl C, rdu C, rdr C, rds C, rdk C, rda C, rdg C, rdi C, rdo C, x, rdn C, rdm C, rdb C)
def rdN (C : rd_S) (x : Nat → Int32) : rd_S := (rdl C, rdu C, rdr C, rds C, rdk C, rda C, rdg C, rdi C, rdo C, rdv C, x, rdm C, rdb C)
def rdM (C : rd_S) (x : Nat → Int32) : rd_S := (rdl C, rdu C, rdr C, rds C, rdk C, rda C, rdg C, rdi C, rdo C, rdv C, rdn C, x, rdb C)
def rdB (C : rd_S) (x : Nat → Int32) : rd_S := (rdl C, rdu C, rdr C, rds C, rdk C, rda C, rdg C, rdi C, rdo C, rdv C, rdn C, rdm C, x)
/-- the object and its eight arrays, ahead of what else there is -/
def rd_W (C : rd_S) (r : ri_W) : ri_W :=
  .inr (0, [.int (rb_i (rdl C)), .int (rdu C), .int (rdr C), .int (rds C), .int (rdk C), .ref 2, .ref 3, .ref 4, .ref 5, .ref 6, .ref 7, .ref 8, .ref 9]) ::
  .inl (0, 6, .inl (rda C)) :: .inl (0, 10, .inl (rdg C)) :: .inl (0, 10, .inl (rdi C)) :: .inl (0, 6, .inl (rdo C)) :: .inl (0, 6, .inl (rdv C)) :: .inl (0, 4, .inl (rdn C)) :: .inl (0, 4, .inl (rdm C)) :: .inl (0, 4, .inl (rdb C)) :: r
/-- Integer.bitCount, as it is computed -/
def rb_s (x : Int32) (y : Int32) : Int32 := (x.toUInt32 >>> (y.toUInt32 &&& Int32.toUInt32 31)).toInt32
def rb_c1 (x : Int32) : Int32 := x - (rb_s x 1 &&& 1431655765)
def rb_c2 (x : Int32) : Int32 := (x &&& 858993459) + (rb_s x 2 &&& 858993459)
def rb_c3 (x : Int32) : Int32 := (x + rb_s x 4) &&& 252645135
def rb_c4 (x : Int32) : Int32 := x + rb_s x 8
def rb_c5 (x : Int32) : Int32 := (x + rb_s x 16)
def rb_c (x : Int32) : Int32 := rb_c5 (rb_c4 (rb_c3 (rb_c2 (rb_c1 x)))) &&& 63
section C30
variable {sl : Nat} {sx : Nat → Int32} {w r : ri_W} {C : rd_S}
theorem ri_X.cne {mi pc : Nat} {L : List (Option Value)} {S : List Value} {o : ri_O} {x y : Int32} {off : Int} (ha : ri_at mi pc = some (.if_icmp .ne off)) (h0 : decide (0 ≤ (pc : Int) + off) = true) (kj : decide (x = y) = false → ri_X sl sx mi (ri_tgt pc off, L, S, w) o) (kn : decide (x = y) = true → ri_X sl sx mi (pc + 3, L, S, w) o) : ri_X sl sx mi (pc, L, .int y :: .int x :: S, w) o := by
  refine ri_X.br (b := !(decide (x = y))) (t := ri_tgt pc off) (e := pc + 3) (S1 := S) ha ?_ (fun h => kj (by simpa using h)) (fun h => kn (by simpa using h))
  show (bif decide (0 ≤ (pc : Int) + off) then some (cond (decide (¬ x = y)) (ri_tgt pc off) (pc + 3), L, S, w) else none) = _
  rw [h0, decide_not]
  rfl
theorem ri_X.sh (hd : Nat) {mi pc : Nat} {L : List (Option Value)} {S : List Value} {o : ri_O} {i : Instr} {st1 : ri_St} (ha : ri_at mi pc = some i) (_hb : ri_br i = false) (_hh : Nat.beq pc hd = false) (h : ri_op sl sx mi i pc L S w = some st1) (k : ri_X sl sx mi st1 o) : ri_X sl sx mi (pc, L, S, w) o := ri_X.op ha h k
theorem rm_bit (n : Int32) : ri_M sl sx 26 [.int n] w (.inl (some ((1 : Int32) <<< (n &&& 31))), w, 0, 0) := by
  unfold ri_M
  repeat refine ri_X.s rfl rfl rfl ?_
  exact ri_X.fin rfl rfl
theorem rm_holds (x n : Int32) : ri_M sl sx 27 [.int x, .int n] w (.inl (some (rb_i (rb_h x n))), w, 0, 0) := by
  unfold ri_M
  repeat refine ri_X.s rfl rfl rfl ?_
  refine ri_X.br (b := decide (n < 0)) rfl rfl (fun h => ?_) (fun h => ?_)
  · rw [show rb_h x n = false by unfold rb_h; rw [h]; rfl]
    repeat refine ri_X.s rfl rfl rfl ?_
    exact ri_X.fin rfl rfl
  · repeat refine ri_X.s rfl rfl rfl ?_
    refine ri_X.br (b := decide ((16 : Int32) ≤ n)) rfl rfl (fun h2 => ?_) (fun h2 => ?_)
    · rw [show rb_h x n = false by unfold rb_h; rw [h, h2]; rfl]
      repeat refine ri_X.s rfl rfl rfl ?_
      exact ri_X.fin rfl rfl
    · repeat refine ri_X.s rfl rfl rfl ?_
      refine ri_X.call0 rfl rfl rfl rfl rfl (rm_bit n) ?_
      repeat refine ri_X.s rfl rfl rfl ?_
      refine ri_X.br (b := decide ((x &&& ((1 : Int32) <<< (n &&& 31))) = 0)) rfl rfl (fun h3 => ?_) (fun h3 => ?_)
      · rw [show rb_h x n = false by unfold rb_h; rw [h, h2]; simp at h3; simp [h3]]
        repeat refine ri_X.s rfl rfl rfl ?_
        exact ri_X.fin rfl rfl
      · rw [show rb_h x n = true by unfold rb_h; rw [h, h2]; simp at h3; simp [h3]]
        repeat refine ri_X.s rfl rfl rfl ?_
        exact ri_X.fin rfl rfl
theorem rm_bitCount (x : Int32) : ri_M sl sx 123 [.int x] w (.inl (some (rb_c x)), w, 0, 0) := by
  unfold ri_M
  repeat refine ri_X.s rfl rfl rfl ?_
  exact ri_X.fin rfl rfl
theorem rm_there (x n : Int32) : ri_M sl sx 29 [.int x, .int n] w (cond (rb_h x n) (.inl none, w, 0, 0) (.inr 0, w, 1, 6)) := by
  unfold ri_M
  repeat refine ri_X.s rfl rfl rfl ?_
  refine ri_X.call0 rfl rfl rfl rfl rfl (rm_holds x n) ?_
  refine ri_X.ifn rfl rfl (fun h => ?_) (fun h => ?_)
  · rw [h]
    exact ri_X.fin rfl rfl
  · rw [h]
    exact ri_X.fin rfl rfl
theorem rm_allThere (x n : Int32) : ri_M sl sx 30 [.int x, .int n] w (cond (decide ((n &&& (x ^^^ (-1))) = 0)) (.inl none, w, 0, 0) (.inr 0, w, 1, 6)) := by
  unfold ri_M
  repeat refine ri_X.s rfl rfl rfl ?_
  refine ri_X.br (b := decide ((n &&& (x ^^^ (-1))) = 0)) rfl rfl (fun h => ?_) (fun h => ?_)
  · rw [h]
    exact ri_X.fin rfl rfl
  · rw [h]
    exact ri_X.fin rfl rfl
theorem rm_inBounds (n a z : Int32) : ri_M sl sx 31 [.int n, .int a, .int z] w (cond (decide (n < a) || !(decide (n ≤ z))) (.inr 1, w, 1, 6) (.inl none, w, 0, 0)) := by
  unfold ri_M
  repeat refine ri_X.s rfl rfl rfl ?_
  refine ri_X.br (b := decide (n < a)) rfl rfl (fun h => ?_) (fun h => ?_)
  · rw [h]
    exact ri_X.fin rfl rfl
  · repeat refine ri_X.s rfl rfl rfl ?_
    refine ri_X.br (b := decide (n ≤ z)) rfl rfl (fun h2 => ?_) (fun h2 => ?_)
    · rw [h, h2]
      exact ri_X.fin rfl rfl
    · rw [h, h2]
      exact ri_X.fin rfl rfl
theorem rm_refuseIf (b : Bool) : ri_M sl sx 32 [.int (rb_i b)] w (cond b (.inr 2, w, 1, 6) (.inl none, w, 0, 0)) := by
  unfold ri_M
  repeat refine ri_X.s rfl rfl rfl ?_
  refine ri_X.ifz rfl rfl (fun h => ?_) (fun h => ?_)
  · rw [h]
    exact ri_X.fin rfl rfl
  · rw [h]
    exact ri_X.fin rfl rfl
/-- the least number below N that is free -/
def rd_lf (x : Int32) (N : Nat) : Nat := ri_fst (fun i => !(rb_t x i)) N
theorem rm_leastFree (x : Int32) {N : Nat} (hN : N ≤ 16) : ri_M sl sx 28 [.int x, .int (nI N)] w (.inl (some (nI (rd_lf x N))), w, 0, 0) := by
  unfold ri_M
  repeat refine ri_X.sh 2 rfl rfl rfl rfl ?_
  obtain ⟨h1, h2⟩ := ri_fst_spec (Q := fun i => !(rb_t x i)) N
  refine ri_back (fun i => (2, [some (.int x), some (.int (nI N)), some (.int (nI i))], [], w)) (Q := fun i => !(rb_t x i)) (N := N) ?_ (rd_lf x N) ?_ h2 ?_
  · intro i o hi hq k
    repeat refine ri_X.s rfl rfl rfl ?_
    refine ri_X.bF rfl rfl (rx_ge hi (Nat.ble_eq.mpr (by omega))) ?_
    repeat refine ri_X.s rfl rfl rfl ?_
    refine ri_X.call0 rfl rfl rfl rfl rfl (rm_holds x (nI i)) ?_
    refine ri_X.ifz rfl rfl (fun h => ?_) (fun h => ?_)
    · rw [rb_hk x (by omega)] at h
      rw [h] at hq
      cases hq
    · repeat refine ri_X.sh 2 rfl rfl rfl rfl ?_
      exact ri_X.eq (by simp only [nI_succ, Bool.true_and, Bool.false_and, Bool.and_true, Bool.and_false, Bool.not_true, Bool.not_false, cond_true, cond_false]; try rfl) k
  · show ri_fst (fun i => !(rb_t x i)) N ≤ N
    rcases h1 with h | h <;> omega
  · rcases h1 with ⟨h3, h4, -⟩ | ⟨h3, -⟩
    · repeat refine ri_X.s rfl rfl rfl ?_
      refine ri_X.bF rfl rfl (rx_ge h3 (Nat.ble_eq.mpr (by omega))) ?_
      repeat refine ri_X.s rfl rfl rfl ?_
      refine ri_X.call0 rfl rfl rfl rfl rfl (rm_holds x (nI (rd_lf x N))) ?_
      refine ri_X.ifz rfl rfl (fun h => ?_) (fun h => ?_)
      · repeat refine ri_X.s rfl rfl rfl ?_
        exact ri_X.fin rfl rfl
      · have h3' : rd_lf x N < 16 := Nat.lt_of_lt_of_le h3 hN
        rw [rb_hk x h3'] at h
        have h4 : (!(rb_t x (rd_lf x N))) = true := h4
        rw [h] at h4
        cases h4
    · have h3 : rd_lf x N = N := h3
      rw [h3]
      repeat refine ri_X.s rfl rfl rfl ?_
      refine ri_X.bT rfl rfl rx_geN ?_
      repeat refine ri_X.s rfl rfl rfl ?_
      exact ri_X.fin rfl rfl
theorem rm_withJuniors (x : Int32) : ri_M sl sx 33 [.ref 1, .int x] (rd_W C r) (.inl (some (rj_w (rdi C) 10 x)), rd_W C r, 0, 0) := by
  unfold ri_M
  have inner : ∀ (x0 q : Int32) (d : Nat) (o : ri_O), ri_X sl sx 33 (16, [some (.ref 1), some (.int q), some (.int (rj_p (rdi C) x0 10)), some (.int (nI d)), some (.int x0), some (.int (nI 10))], [], rd_W C r) o → ri_X sl sx 33 (16, [some (.ref 1), some (.int q), some (.int x0), some (.int (nI d)), some (.int x0), some (.int (nI 0))], [], rd_W C r) o := by
    intro x0 q d o k
    refine ri_loop (fun i a => (16, [some (.ref 1), some (.int q), some (.int a), some (.int (nI d)), some (.int x0), some (.int (nI i))], [], rd_W C r)) (fun i a => cond (rb_h a (nI i)) (a ||| rdi C i) a) 10 ?_ (a := x0) ?_
    · intro i a o hi k
      repeat refine ri_X.s rfl rfl rfl ?_
      refine ri_X.bF rfl rfl (rx_ge (N := 10) (hi) rfl) ?_
      repeat refine ri_X.s rfl rfl rfl ?_
      refine ri_X.call0 rfl rfl rfl rfl rfl (rm_holds a (nI i)) ?_
      refine ri_X.ifz rfl rfl (fun h => ?_) (fun h => ?_)
      · repeat refine ri_X.sh 16 rfl rfl rfl rfl ?_
        exact ri_X.eq (by simp only [h, nI_succ, Bool.true_and, Bool.false_and, Bool.and_true, Bool.and_false, Bool.not_true, Bool.not_false, cond_true, cond_false]; try rfl) k
      · repeat refine ri_X.s rfl rfl rfl ?_
        refine ri_X.ald rfl rfl (hi) rfl ?_
        repeat refine ri_X.sh 16 rfl rfl rfl rfl ?_
        exact ri_X.eq (by simp only [h, nI_succ, Bool.true_and, Bool.false_and, Bool.and_true, Bool.and_false, Bool.not_true, Bool.not_false, cond_true, cond_false]; try rfl) k
    · have e : ∀ n, ri_fo (fun i a => cond (rb_h a (nI i)) (a ||| rdi C i) a) n x0 = rj_p (rdi C) x0 n := by
        intro n
        induction n with
        | zero => rfl
        | succ n ih =>
          show cond (rb_h (ri_fo _ n x0) (nI n)) (ri_fo _ n x0 ||| rdi C n) (ri_fo _ n x0) = _
          rw [ih]
          rfl
      rw [e]
      exact k
  have outer : ∀ (n d : Nat) (q x0 : Int32) (v4 v5 : Option Value), d + n = 10 → ri_X sl sx 33 (4, [some (.ref 1), some (.int q), some (.int x0), some (.int (nI d)), v4, v5], [], rd_W C r) (.inl (some (rj_w (rdi C) n x0)), rd_W C r, 0, 0) := by
    intro n
    induction n with
    | zero =>
      intro d q x0 v4 v5 hd
      rw [show d = 10 by omega]
      repeat refine ri_X.s rfl rfl rfl ?_
      refine ri_X.bT rfl rfl (rx_geN (N := 10)) ?_
      repeat refine ri_X.s rfl rfl rfl ?_
      exact ri_X.fin rfl rfl
    | succ n ih =>
      intro d q x0 v4 v5 hd
      repeat refine ri_X.s rfl rfl rfl ?_
      refine ri_X.bF rfl rfl (rx_ge (N := 10) ((by omega)) rfl) ?_
      repeat refine ri_X.sh 16 rfl rfl rfl rfl ?_
      refine inner x0 q d _ ?_
      repeat refine ri_X.s rfl rfl rfl ?_
      refine ri_X.bT rfl rfl (rx_geN (N := 10)) ?_
      repeat refine ri_X.s rfl rfl rfl ?_
      refine ri_X.cne rfl rfl (fun h => ?_) (fun h => ?_)
      · repeat refine ri_X.sh 4 rfl rfl rfl rfl ?_
        have e : rj_w (rdi C) (n + 1) x0 = rj_w (rdi C) n (rj_p (rdi C) x0 10) := by
          show cond (decide (rj_p (rdi C) x0 10 = x0)) _ _ = _
          rw [h]
          rfl
        rw [e]
        have k := ih (d + 1) q (rj_p (rdi C) x0 10) (some (.int x0)) (some (.int (nI 10))) (by omega)
        exact ri_X.eq (by simp only [nI_succ]; try rfl) k
      · repeat refine ri_X.s rfl rfl rfl ?_
        have e : rj_w (rdi C) (n + 1) x0 = rj_p (rdi C) x0 10 := by
          show cond (decide (rj_p (rdi C) x0 10 = x0)) _ _ = _
          rw [h]
          rfl
        rw [e]
        exact ri_X.fin rfl rfl
  repeat refine ri_X.sh 4 rfl rfl rfl rfl ?_
  exact outer 10 0 x x none none rfl
end C30
