/-! The class's private methods, as pure runs -/
theorem rb_io (b : Bool) (w : ri_W) : cond b ((.inl (some 1), w, 0, 0) : ri_O) (.inl (some 0), w, 0, 0) = (.inl (some (rb_i b)), w, 0, 0) := by
  cases b <;> rfl
def rd_had (C : rd_S) (x : Int32) : Int32 := ri_fo (fun i a => cond (rb_h (rj_w (rdi C) 10 x) (nI i)) (a ||| rdg C i) a) 10 0
def rd_sou (C : rd_S) (u : Int32) : Int32 := ri_fo (fun i a => cond (rb_h (rds C) (nI i) && decide (rdo C i = u)) (a ||| rb_b i) a) 6 0
def rd_sok (C : rd_S) (kd : Int32) : Int32 := ri_fo (fun i a => cond (rb_h (rdk C) (nI i) && decide (rdn C i = kd)) (a ||| rb_b i) a) 4 0
def rd_end (C : rd_S) (k : Nat) : rd_S := rdV (rdS C (rds C &&& (rb_b k ^^^ (-1)))) (upd (rdv C) k 0)
def rd_drop (C : rd_S) (ow : Nat → Nat) : rd_S := rdV C (ri_fo (fun s f => cond (decide (f s = 0)) f (upd f s (f s &&& rj_w (rdi C) 10 (rda C (ow s))))) 6 (rdv C))
def rd_tko (C : rd_S) (z : Int32) (k : Nat) (a : Int32 × (Nat → Int32) × Int32) : Int32 × (Nat → Int32) × Int32 :=
  cond (rb_h a.1 (nI k) && !(decide (rdb C k ≤ rb_c (upd a.2.1 k (a.2.1 k &&& z) k)))) (a.1 &&& (rb_b k ^^^ (-1)), upd a.2.1 k (a.2.1 k &&& z), a.2.2 + 1) (a.1, upd a.2.1 k (a.2.1 k &&& z), a.2.2)
def rd_tk (C : rd_S) (z : Int32) : Int32 × (Nat → Int32) × Int32 := ri_fo (rd_tko C z) 4 (rdk C, rdm C, 0)
def rd_brk (C : rd_S) (kd x : Int32) : Bool := ri_ex (fun k => rb_h (rd_sok C kd) (nI k) && !(decide (rb_c (x &&& rdm C k) < rdb C k))) 4
def rd_um (C : rd_S) (x n : Int32) : Bool := ri_ex (fun u => !(decide (rb_c (rj_w (rdi C) 10 (rda C u) &&& x) < n))) 6
def rd_sm (C : rd_S) (x n : Int32) : Bool := ri_ex (fun s => !(decide (rb_c (rdv C s &&& x) < n))) 6
def rd_wb (C : rd_S) (kd x n : Int32) : Bool := cond (decide (kd = 0)) (rd_um C x n) (rd_sm C x n)
def rd_ib (C : rd_S) (ro q : Int32) : Bool := ri_ex (fun u => rb_h (rj_w (rdi C) 10 (rda C u)) ro && rd_brk C 0 (rj_w (rdi C) 10 (rda C u) ||| rj_w (rdi C) 10 ((1 : Int32) <<< (q &&& 31)))) 6
section C31
variable {sl : Nat} {sx : Nat → Int32} {w r : ri_W} {C : rd_S}
theorem rm_had (x : Int32) : ri_M sl sx 34 [.ref 1, .int x] (rd_W C r) (.inl (some (rd_had C x)), rd_W C r, 0, 0) := by
  unfold ri_M
  repeat refine ri_X.s rfl rfl rfl ?_
  refine ri_X.call0 rfl rfl rfl rfl rfl (rm_withJuniors x) ?_
  repeat refine ri_X.sh 11 rfl rfl rfl rfl ?_
  refine ri_loop (fun i a => (11, [some (.ref 1), some (.int x), some (.int (rj_w (rdi C) 10 x)), some (.int a), some (.int (nI i))], [], rd_W C r)) (fun i a => cond (rb_h (rj_w (rdi C) 10 x) (nI i)) (a ||| rdg C i) a) 10 ?_ ?_
  · intro i a o hi k
    repeat refine ri_X.s rfl rfl rfl ?_
    refine ri_X.bF rfl rfl (rx_ge (N := 10) (hi) rfl) ?_
    repeat refine ri_X.s rfl rfl rfl ?_
    refine ri_X.call0 rfl rfl rfl rfl rfl (rm_holds (rj_w (rdi C) 10 x) (nI i)) ?_
    refine ri_X.ifz rfl rfl (fun h => ?_) (fun h => ?_)
    · repeat refine ri_X.sh 11 rfl rfl rfl rfl ?_
      exact ri_X.eq (by simp only [h, nI_succ, Bool.true_and, Bool.false_and, Bool.and_true, Bool.and_false, Bool.not_true, Bool.not_false, cond_true, cond_false]; try rfl) k
    · repeat refine ri_X.s rfl rfl rfl ?_
      refine ri_X.ald rfl rfl (hi) rfl ?_
      repeat refine ri_X.sh 11 rfl rfl rfl rfl ?_
      exact ri_X.eq (by simp only [h, nI_succ, Bool.true_and, Bool.false_and, Bool.and_true, Bool.and_false, Bool.not_true, Bool.not_false, cond_true, cond_false]; try rfl) k
  · repeat refine ri_X.s rfl rfl rfl ?_
    refine ri_X.bT rfl rfl (rx_geN (N := 10)) ?_
    repeat refine ri_X.s rfl rfl rfl ?_
    exact ri_X.fin rfl rfl
theorem rm_sou (u : Int32) : ri_M sl sx 35 [.ref 1, .int u] (rd_W C r) (.inl (some (rd_sou C u)), rd_W C r, 0, 0) := by
  unfold ri_M
  repeat refine ri_X.sh 4 rfl rfl rfl rfl ?_
  refine ri_loop (fun i a => (4, [some (.ref 1), some (.int u), some (.int a), some (.int (nI i))], [], rd_W C r)) (fun i a => cond (rb_h (rds C) (nI i) && decide (rdo C i = u)) (a ||| rb_b i) a) 6 ?_ ?_
  · intro i a o hi k
    repeat refine ri_X.s rfl rfl rfl ?_
    refine ri_X.bF rfl rfl (rx_ge (N := 6) (hi) rfl) ?_
    repeat refine ri_X.s rfl rfl rfl ?_
    refine ri_X.call0 rfl rfl rfl rfl rfl (rm_holds (rds C) (nI i)) ?_
    refine ri_X.ifz rfl rfl (fun h => ?_) (fun h => ?_)
    · repeat refine ri_X.sh 4 rfl rfl rfl rfl ?_
      exact ri_X.eq (by simp only [h, nI_succ, Bool.true_and, Bool.false_and, Bool.and_true, Bool.and_false, Bool.not_true, Bool.not_false, cond_true, cond_false]; try rfl) k
    · repeat refine ri_X.s rfl rfl rfl ?_
      refine ri_X.ald rfl rfl (hi) rfl ?_
      repeat refine ri_X.s rfl rfl rfl ?_
      refine ri_X.cne rfl rfl (fun h2 => ?_) (fun h2 => ?_)
      · repeat refine ri_X.sh 4 rfl rfl rfl rfl ?_
        exact ri_X.eq (by simp only [h, h2, nI_succ, Bool.true_and, Bool.false_and, Bool.and_true, Bool.and_false, Bool.not_true, Bool.not_false, cond_true, cond_false]; try rfl) k
      · repeat refine ri_X.s rfl rfl rfl ?_
        refine ri_X.call0 rfl rfl rfl rfl rfl (rm_bit (nI i)) ?_
        repeat refine ri_X.sh 4 rfl rfl rfl rfl ?_
        exact ri_X.eq (by simp only [h, h2, nI_succ, Bool.true_and, Bool.false_and, Bool.and_true, Bool.and_false, Bool.not_true, Bool.not_false, cond_true, cond_false]; try rfl) k
  · repeat refine ri_X.s rfl rfl rfl ?_
    refine ri_X.bT rfl rfl (rx_geN (N := 6)) ?_
    repeat refine ri_X.s rfl rfl rfl ?_
    exact ri_X.fin rfl rfl
theorem rm_sok (u : Int32) : ri_M sl sx 36 [.ref 1, .int u] (rd_W C r) (.inl (some (rd_sok C u)), rd_W C r, 0, 0) := by
  unfold ri_M
  repeat refine ri_X.sh 4 rfl rfl rfl rfl ?_
  refine ri_loop (fun i a => (4, [some (.ref 1), some (.int u), some (.int a), some (.int (nI i))], [], rd_W C r)) (fun i a => cond (rb_h (rdk C) (nI i) && decide (rdn C i = u)) (a ||| rb_b i) a) 4 ?_ ?_
  · intro i a o hi k
    repeat refine ri_X.s rfl rfl rfl ?_
    refine ri_X.bF rfl rfl (rx_ge (N := 4) (hi) rfl) ?_
    repeat refine ri_X.s rfl rfl rfl ?_
    refine ri_X.call0 rfl rfl rfl rfl rfl (rm_holds (rdk C) (nI i)) ?_
    refine ri_X.ifz rfl rfl (fun h => ?_) (fun h => ?_)
    · repeat refine ri_X.sh 4 rfl rfl rfl rfl ?_
      exact ri_X.eq (by simp only [h, nI_succ, Bool.true_and, Bool.false_and, Bool.and_true, Bool.and_false, Bool.not_true, Bool.not_false, cond_true, cond_false]; try rfl) k
    · repeat refine ri_X.s rfl rfl rfl ?_
      refine ri_X.ald rfl rfl (hi) rfl ?_
      repeat refine ri_X.s rfl rfl rfl ?_
      refine ri_X.cne rfl rfl (fun h2 => ?_) (fun h2 => ?_)
      · repeat refine ri_X.sh 4 rfl rfl rfl rfl ?_
        exact ri_X.eq (by simp only [h, h2, nI_succ, Bool.true_and, Bool.false_and, Bool.and_true, Bool.and_false, Bool.not_true, Bool.not_false, cond_true, cond_false]; try rfl) k
      · repeat refine ri_X.s rfl rfl rfl ?_
        refine ri_X.call0 rfl rfl rfl rfl rfl (rm_bit (nI i)) ?_
        repeat refine ri_X.sh 4 rfl rfl rfl rfl ?_
        exact ri_X.eq (by simp only [h, h2, nI_succ, Bool.true_and, Bool.false_and, Bool.and_true, Bool.and_false, Bool.not_true, Bool.not_false, cond_true, cond_false]; try rfl) k
  · repeat refine ri_X.s rfl rfl rfl ?_
    refine ri_X.bT rfl rfl (rx_geN (N := 4)) ?_
    repeat refine ri_X.s rfl rfl rfl ?_
    exact ri_X.fin rfl rfl
theorem rm_brk (kd x : Int32) : ri_M sl sx 40 [.ref 1, .int kd, .int x] (rd_W C r) (.inl (some (rb_i (rd_brk C kd x))), rd_W C r, 0, 0) := by
  unfold ri_M
  repeat refine ri_X.s rfl rfl rfl ?_
  refine ri_X.call0 rfl rfl rfl rfl rfl (rm_sok kd) ?_
  repeat refine ri_X.sh 9 rfl rfl rfl rfl ?_
  unfold rd_brk
  rw [← rb_io]
  refine ri_loopE (fun i => (9, [some (.ref 1), some (.int kd), some (.int x), some (.int (rd_sok C kd)), some (.int (nI i))], [], rd_W C r)) (fun k => rb_h (rd_sok C kd) (nI k) && !(decide (rb_c (x &&& rdm C k) < rdb C k))) 4 ?_ ?_ ?_
  · intro i o hi hq k
    repeat refine ri_X.s rfl rfl rfl ?_
    refine ri_X.bF rfl rfl (rx_ge (N := 4) (hi) rfl) ?_
    repeat refine ri_X.s rfl rfl rfl ?_
    refine ri_X.call0 rfl rfl rfl rfl rfl (rm_holds (rd_sok C kd) (nI i)) ?_
    refine ri_X.ifz rfl rfl (fun h => ?_) (fun h => ?_)
    · repeat refine ri_X.sh 9 rfl rfl rfl rfl ?_
      exact ri_X.eq (by simp only [nI_succ, Bool.true_and, Bool.false_and, Bool.and_true, Bool.and_false, Bool.not_true, Bool.not_false, cond_true, cond_false]; try rfl) k
    · repeat refine ri_X.s rfl rfl rfl ?_
      refine ri_X.ald rfl rfl (hi) rfl ?_
      repeat refine ri_X.s rfl rfl rfl ?_
      refine ri_X.call0 rfl rfl rfl rfl rfl (rm_bitCount (x &&& rdm C i)) ?_
      repeat refine ri_X.s rfl rfl rfl ?_
      refine ri_X.ald rfl rfl (hi) rfl ?_
      refine ri_X.bT (b := decide (rb_c (x &&& rdm C i) < rdb C i)) rfl rfl ?_ ?_
      · rw [h] at hq
        simpa using hq
      · repeat refine ri_X.sh 9 rfl rfl rfl rfl ?_
        exact ri_X.eq (by simp only [nI_succ, Bool.true_and, Bool.false_and, Bool.and_true, Bool.and_false, Bool.not_true, Bool.not_false, cond_true, cond_false]; try rfl) k
  · intro i hi hq
    rw [Bool.and_eq_true] at hq
    repeat refine ri_X.s rfl rfl rfl ?_
    refine ri_X.bF rfl rfl (rx_ge (N := 4) (hi) rfl) ?_
    repeat refine ri_X.s rfl rfl rfl ?_
    refine ri_X.call0 rfl rfl rfl rfl rfl (rm_holds (rd_sok C kd) (nI i)) ?_
    refine ri_X.ifz rfl rfl (fun h => ?_) (fun h => ?_)
    · rw [h] at hq
      cases hq.1
    · repeat refine ri_X.s rfl rfl rfl ?_
      refine ri_X.ald rfl rfl (hi) rfl ?_
      repeat refine ri_X.s rfl rfl rfl ?_
      refine ri_X.call0 rfl rfl rfl rfl rfl (rm_bitCount (x &&& rdm C i)) ?_
      repeat refine ri_X.s rfl rfl rfl ?_
      refine ri_X.ald rfl rfl (hi) rfl ?_
      refine ri_X.bF (b := decide (rb_c (x &&& rdm C i) < rdb C i)) rfl rfl ?_ ?_
      · simpa using hq.2
      · repeat refine ri_X.s rfl rfl rfl ?_
        exact ri_X.fin rfl rfl
  · repeat refine ri_X.s rfl rfl rfl ?_
    refine ri_X.bT rfl rfl (rx_geN (N := 4)) ?_
    repeat refine ri_X.s rfl rfl rfl ?_
    exact ri_X.fin rfl rfl
theorem rm_um (x n : Int32) : ri_M sl sx 43 [.ref 1, .int x, .int n] (rd_W C r) (.inl (some (rb_i (rd_um C x n))), rd_W C r, 0, 0) := by
  unfold ri_M
  repeat refine ri_X.sh 2 rfl rfl rfl rfl ?_
  unfold rd_um
  rw [← rb_io]
  refine ri_loopE (fun i => (2, [some (.ref 1), some (.int x), some (.int n), some (.int (nI i))], [], rd_W C r)) (fun u => !(decide (rb_c (rj_w (rdi C) 10 (rda C u) &&& x) < n))) 6 ?_ ?_ ?_
  · intro i o hi hq k
    repeat refine ri_X.s rfl rfl rfl ?_
    refine ri_X.bF rfl rfl (rx_ge (N := 6) (hi) rfl) ?_
    repeat refine ri_X.s rfl rfl rfl ?_
    refine ri_X.ald rfl rfl (hi) rfl ?_
    refine ri_X.call0 rfl rfl rfl rfl rfl (rm_withJuniors (rda C i)) ?_
    repeat refine ri_X.s rfl rfl rfl ?_
    refine ri_X.call0 rfl rfl rfl rfl rfl (rm_bitCount (rj_w (rdi C) 10 (rda C i) &&& x)) ?_
    repeat refine ri_X.s rfl rfl rfl ?_
    refine ri_X.bT (b := decide (rb_c (rj_w (rdi C) 10 (rda C i) &&& x) < n)) rfl rfl (by simpa using hq) ?_
    repeat refine ri_X.sh 2 rfl rfl rfl rfl ?_
    exact ri_X.eq (by simp only [nI_succ, Bool.true_and, Bool.false_and, Bool.and_true, Bool.and_false, Bool.not_true, Bool.not_false, cond_true, cond_false]; try rfl) k
  · intro i hi hq
    repeat refine ri_X.s rfl rfl rfl ?_
    refine ri_X.bF rfl rfl (rx_ge (N := 6) (hi) rfl) ?_
    repeat refine ri_X.s rfl rfl rfl ?_
    refine ri_X.ald rfl rfl (hi) rfl ?_
    refine ri_X.call0 rfl rfl rfl rfl rfl (rm_withJuniors (rda C i)) ?_
    repeat refine ri_X.s rfl rfl rfl ?_
    refine ri_X.call0 rfl rfl rfl rfl rfl (rm_bitCount (rj_w (rdi C) 10 (rda C i) &&& x)) ?_
    repeat refine ri_X.s rfl rfl rfl ?_
    refine ri_X.bF (b := decide (rb_c (rj_w (rdi C) 10 (rda C i) &&& x) < n)) rfl rfl (by simpa using hq) ?_
    repeat refine ri_X.s rfl rfl rfl ?_
    exact ri_X.fin rfl rfl
  · repeat refine ri_X.s rfl rfl rfl ?_
    refine ri_X.bT rfl rfl (rx_geN (N := 6)) ?_
    repeat refine ri_X.s rfl rfl rfl ?_
    exact ri_X.fin rfl rfl
theorem rm_sm (x n : Int32) : ri_M sl sx 44 [.ref 1, .int x, .int n] (rd_W C r) (.inl (some (rb_i (rd_sm C x n))), rd_W C r, 0, 0) := by
  unfold ri_M
  repeat refine ri_X.sh 2 rfl rfl rfl rfl ?_
  unfold rd_sm
  rw [← rb_io]
  refine ri_loopE (fun i => (2, [some (.ref 1), some (.int x), some (.int n), some (.int (nI i))], [], rd_W C r)) (fun s => !(decide (rb_c (rdv C s &&& x) < n))) 6 ?_ ?_ ?_
  · intro i o hi hq k
    repeat refine ri_X.s rfl rfl rfl ?_
    refine ri_X.bF rfl rfl (rx_ge (N := 6) (hi) rfl) ?_
    repeat refine ri_X.s rfl rfl rfl ?_
    refine ri_X.ald rfl rfl (hi) rfl ?_
    repeat refine ri_X.s rfl rfl rfl ?_
    refine ri_X.call0 rfl rfl rfl rfl rfl (rm_bitCount (rdv C i &&& x)) ?_
    repeat refine ri_X.s rfl rfl rfl ?_
    refine ri_X.bT (b := decide (rb_c (rdv C i &&& x) < n)) rfl rfl (by simpa using hq) ?_
    repeat refine ri_X.sh 2 rfl rfl rfl rfl ?_
    exact ri_X.eq (by simp only [nI_succ, Bool.true_and, Bool.false_and, Bool.and_true, Bool.and_false, Bool.not_true, Bool.not_false, cond_true, cond_false]; try rfl) k
  · intro i hi hq
    repeat refine ri_X.s rfl rfl rfl ?_
    refine ri_X.bF rfl rfl (rx_ge (N := 6) (hi) rfl) ?_
    repeat refine ri_X.s rfl rfl rfl ?_
    refine ri_X.ald rfl rfl (hi) rfl ?_
    repeat refine ri_X.s rfl rfl rfl ?_
    refine ri_X.call0 rfl rfl rfl rfl rfl (rm_bitCount (rdv C i &&& x)) ?_
    repeat refine ri_X.s rfl rfl rfl ?_
    refine ri_X.bF (b := decide (rb_c (rdv C i &&& x) < n)) rfl rfl (by simpa using hq) ?_
    repeat refine ri_X.s rfl rfl rfl ?_
    exact ri_X.fin rfl rfl
  · repeat refine ri_X.s rfl rfl rfl ?_
    refine ri_X.bT rfl rfl (rx_geN (N := 6)) ?_
    repeat refine ri_X.s rfl rfl rfl ?_
    exact ri_X.fin rfl rfl
theorem rm_wb (kd x n : Int32) : ri_M sl sx 42 [.ref 1, .int kd, .int x, .int n] (rd_W C r) (.inl (some (rb_i (rd_wb C kd x n))), rd_W C r, 0, 0) := by
  unfold ri_M
  unfold rd_wb
  repeat refine ri_X.s rfl rfl rfl ?_
  refine ri_X.br (b := decide (¬ kd = 0)) rfl rfl (fun h => ?_) (fun h => ?_)
  · rw [show decide (kd = 0) = false by simpa using h]
    repeat refine ri_X.s rfl rfl rfl ?_
    refine ri_X.call0 rfl rfl rfl rfl rfl (rm_sm x n) ?_
    exact ri_X.finB rfl rfl
  · rw [show decide (kd = 0) = true by simpa using h]
    repeat refine ri_X.s rfl rfl rfl ?_
    refine ri_X.call0 rfl rfl rfl rfl rfl (rm_um x n) ?_
    repeat refine ri_X.s rfl rfl rfl ?_
    exact ri_X.finB rfl rfl
theorem rm_ib (ro q : Int32) : ri_M sl sx 41 [.ref 1, .int ro, .int q] (rd_W C r) (.inl (some (rb_i (rd_ib C ro q))), rd_W C r, 0, 0) := by
  unfold ri_M
  repeat refine ri_X.s rfl rfl rfl ?_
  refine ri_X.call0 rfl rfl rfl rfl rfl (rm_bit q) ?_
  refine ri_X.call0 rfl rfl rfl rfl rfl (rm_withJuniors ((1 : Int32) <<< (q &&& 31))) ?_
  repeat refine ri_X.sh 12 rfl rfl rfl rfl ?_
  rw [← rb_io]
  have body : ∀ (i : Nat) (v5 : Option Value) (o : ri_O), i < 6 → (∀ v5' : Option Value, (rb_h (rj_w (rdi C) 10 (rda C i)) ro && rd_brk C 0 (rj_w (rdi C) 10 (rda C i) ||| rj_w (rdi C) 10 ((1 : Int32) <<< (q &&& 31)))) = false → ri_X sl sx 41 (12, [some (.ref 1), some (.int ro), some (.int q), some (.int (rj_w (rdi C) 10 ((1 : Int32) <<< (q &&& 31)))), some (.int (nI (i + 1))), v5'], [], rd_W C r) o) →
      ((rb_h (rj_w (rdi C) 10 (rda C i)) ro && rd_brk C 0 (rj_w (rdi C) 10 (rda C i) ||| rj_w (rdi C) 10 ((1 : Int32) <<< (q &&& 31)))) = true → o = (.inl (some 1), rd_W C r, 0, 0)) →
      ri_X sl sx 41 (12, [some (.ref 1), some (.int ro), some (.int q), some (.int (rj_w (rdi C) 10 ((1 : Int32) <<< (q &&& 31)))), some (.int (nI i)), v5], [], rd_W C r) o := by
    intro i v5 o hi kF kT
    repeat refine ri_X.s rfl rfl rfl ?_
    refine ri_X.bF rfl rfl (rx_ge (N := 6) (hi) rfl) ?_
    repeat refine ri_X.s rfl rfl rfl ?_
    refine ri_X.ald rfl rfl (hi) rfl ?_
    refine ri_X.call0 rfl rfl rfl rfl rfl (rm_withJuniors (rda C i)) ?_
    repeat refine ri_X.s rfl rfl rfl ?_
    refine ri_X.call0 rfl rfl rfl rfl rfl (rm_holds (rj_w (rdi C) 10 (rda C i)) ro) ?_
    refine ri_X.ifz rfl rfl (fun h => ?_) (fun h => ?_)
    · repeat refine ri_X.sh 12 rfl rfl rfl rfl ?_
      refine ri_X.eq ?_ (kF (some (.int (rj_w (rdi C) 10 (rda C i)))) (by rw [h]; rfl))
      rw [nI_succ]
      rfl
    · repeat refine ri_X.s rfl rfl rfl ?_
      refine ri_X.call0 rfl rfl rfl rfl rfl (rm_brk 0 (rj_w (rdi C) 10 (rda C i) ||| rj_w (rdi C) 10 ((1 : Int32) <<< (q &&& 31)))) ?_
      refine ri_X.ifz rfl rfl (fun h2 => ?_) (fun h2 => ?_)
      · repeat refine ri_X.sh 12 rfl rfl rfl rfl ?_
        refine ri_X.eq ?_ (kF (some (.int (rj_w (rdi C) 10 (rda C i)))) (by rw [h, h2]; rfl))
        rw [nI_succ]
        rfl
      · rw [kT (by rw [h, h2]; rfl)]
        repeat refine ri_X.s rfl rfl rfl ?_
        exact ri_X.fin rfl rfl
  have main : ∀ (n d : Nat) (v5 : Option Value), d + n = 6 → (∀ j, j < d → (rb_h (rj_w (rdi C) 10 (rda C j)) ro && rd_brk C 0 (rj_w (rdi C) 10 (rda C j) ||| rj_w (rdi C) 10 ((1 : Int32) <<< (q &&& 31)))) = false) →
      ri_X sl sx 41 (12, [some (.ref 1), some (.int ro), some (.int q), some (.int (rj_w (rdi C) 10 ((1 : Int32) <<< (q &&& 31)))), some (.int (nI d)), v5], [], rd_W C r) (cond (rd_ib C ro q) (.inl (some 1), rd_W C r, 0, 0) (.inl (some 0), rd_W C r, 0, 0)) := by
    intro n
    induction n with
    | zero =>
      intro d v5 hd hq
      have e : rd_ib C ro q = false := by
        cases he : rd_ib C ro q with
        | false => rfl
        | true =>
          obtain ⟨j, hj, h1⟩ := ri_ex_iff.mp he
          have := hq j (by omega)
          rw [h1] at this
          cases this
      rw [e, show d = 6 by omega]
      repeat refine ri_X.s rfl rfl rfl ?_
      refine ri_X.bT rfl rfl (rx_geN (N := 6)) ?_
      repeat refine ri_X.s rfl rfl rfl ?_
      exact ri_X.fin rfl rfl
    | succ n ih =>
      intro d v5 hd hq
      refine body d v5 _ (by omega) (fun v5' h => ?_) (fun h => ?_)
      · refine ih (d + 1) v5' (by omega) (fun j hj => ?_)
        by_cases hjd : j = d
        · rw [hjd]; exact h
        · exact hq j (by omega)
      · have e : rd_ib C ro q = true := ri_ex_iff.mpr ⟨d, by omega, h⟩
        rw [e]
        rfl
  exact main 6 0 none rfl (fun j hj => by omega)
end C31
