/-! The class's public methods that loop, and its constructor -/
def rd_dlo (e : Int32) (s : Nat) (D : rd_S) : rd_S := cond (rb_h e (nI s)) (rd_end D s) D
def rd_dl (C : rd_S) (x : Int32) : rd_S := ri_fo (rd_dlo (rd_sou C x)) 6 C
def rd_deleteUser (C : rd_S) (x : Int32) (u : Nat) : rd_R := cond (rb_h (rdu C) x) (.inl (rb_c (rd_sou C x), rdA (rdU (rd_dl C x) (rdu (rd_dl C x) &&& (rb_bt x ^^^ (-1)))) (upd (rda (rd_dl C x)) u 0))) (.inr 0)
def rd_cut (z : Int32) (u : Nat) (f : Nat → Int32) : Nat → Int32 := upd f u (f u &&& z)
def rd_dr1 (C : rd_S) (z : Int32) (u : Nat) : rd_S := rdG (rdI (rdA (rdR C (rdr C &&& z)) (ri_fo (rd_cut z) 6 (rda C))) (upd (ri_fo (rd_cut z) 10 (rdi C)) u 0)) (upd (rdg C) u 0)
def rd_dr2 (C : rd_S) (ow : Nat → Nat) (z : Int32) (u : Nat) : rd_S := rd_drop (rd_dr1 C z u) ow
def rd_deleteRole (C : rd_S) (ow : Nat → Nat) (x : Int32) (u : Nat) : rd_R := cond (rb_h (rdr C) x) (.inl ((rd_tk (rd_dr2 C ow (rb_bt x ^^^ (-1)) u) (rb_bt x ^^^ (-1))).2.2, rdM (rdK (rd_dr2 C ow (rb_bt x ^^^ (-1)) u) (rd_tk (rd_dr2 C ow (rb_bt x ^^^ (-1)) u) (rb_bt x ^^^ (-1))).1) (rd_tk (rd_dr2 C ow (rb_bt x ^^^ (-1)) u) (rb_bt x ^^^ (-1))).2.1)) (.inr 0)
def rd_as1 (C : rd_S) (kd ro n : Int32) (k : Nat) : rd_S := rdB (rdM (rdN (rdK C (rdk C ||| rb_b k)) (upd (rdn C) k kd)) (upd (rdm C) k ro)) (upd (rdb C) k n)
def rd_addSet (C : rd_S) (kd ro n : Int32) : rd_R :=
  cond (decide ((ro &&& (rdr C ^^^ (-1))) = 0)) (cond (decide (kd < 0) || !(decide (kd ≤ 1))) (.inr 1) (cond (decide (n < 2) || !(decide (n ≤ rb_c ro))) (.inr 1) (cond (decide (nI (rd_lf (rdk C) 4) < 4)) (cond (rd_wb C kd ro n) (.inr 2) (.inl (nI (rd_lf (rdk C) 4), rd_as1 C kd ro n (rd_lf (rdk C) 4)))) (.inr 2)))) (.inr 0)
def rd_changeSet (C : rd_S) (x ro n : Int32) (u : Nat) : rd_R :=
  cond (rb_h (rdk C) x) (cond (decide ((ro &&& (rdr C ^^^ (-1))) = 0)) (cond (decide (n < 2) || !(decide (n ≤ rb_c ro))) (.inr 1) (cond (rd_wb C (rdn C u) ro n) (.inr 2) (.inl (rb_c ro, rdB (rdM C (upd (rdm C) u ro)) (upd (rdb C) u n))))) (.inr 0)) (.inr 0)
def rd_open (C : rd_S) (x ro : Int32) (u : Nat) : rd_R :=
  cond (rb_h (rdu C) x) (cond (decide ((ro &&& (rdr C ^^^ (-1))) = 0)) (cond (decide ((ro &&& (rj_w (rdi C) 10 (rda C u) ^^^ (-1))) = 0)) (cond (decide (nI (rd_lf (rds C) 6) < 6)) (cond (rd_brk C 1 ro) (.inr 2)
    (.inl (nI (rd_lf (rds C) 6), rdV (rdO (rdS C (rds C ||| rb_b (rd_lf (rds C) 6))) (upd (rdo C) (rd_lf (rds C) 6) x)) (upd (rdv C) (rd_lf (rds C) 6) ro)))) (.inr 2)) (.inr 2)) (.inr 0)) (.inr 0)
def rd_uoR (C : rd_S) (a : Bool) (u : Nat) : Int32 := cond a (rj_w (rdi C) 10 (rda C u)) (rda C u)
def rd_uo (C : rd_S) (x : Int32) (a : Bool) : Int32 := ri_fo (fun i v => cond (rb_h (rd_uoR C a i) x) (v ||| rb_b i) v) 6 0
def rd_usersOf (C : rd_S) (x : Int32) (a : Bool) : rd_R := cond (rb_h (rdr C) x) (.inl (rd_uo C x a, C)) (.inr 0)
def rd_thereV (C : rd_S) (x : Int32) : Int32 := if x = 0 then rdu C else if x = 1 then rdr C else if x = 2 then rds C else if x = 3 then rd_sok C 0 else if x = 4 then rd_sok C 1 else 0
def rd_mask (n : Int32) (x : Int32) : Int32 := ((1 : Int32) <<< (ri_mm true 0 (ri_mm false x n) &&& 31)) - 1
def rd_new (users roles mode : Int32) : rd_S := (decide (mode = 1), rd_mask 6 users, rd_mask 10 roles, 0, 0, fun _ => 0, fun _ => 0, fun _ => 0, fun _ => 0, fun _ => 0, fun _ => 0, fun _ => 0, fun _ => 0)
section C35
variable {sl : Nat} {sx : Nat → Int32} {w r : ri_W} {C : rd_S} {ow : Nat → Nat}
theorem rd_app (r2 : ri_W) : rd_W C r ++ r2 = rd_W C (r ++ r2) := rfl
theorem ri_X.tswD {mi pc : Nat} {L : List (Option Value)} {S : List Value} {o : ri_O} {x : Int32} {d lo hi : Int} {offs : Array Int} (ha : ri_at mi pc = some (.tableswitch d lo hi offs)) (h : (decide (x.toInt < lo) || decide (hi < x.toInt)) = true) (h0 : decide (0 ≤ (pc : Int) + d) = true) (k : ri_X sl sx mi (ri_tgt pc d, L, S, w) o) : ri_X sl sx mi (pc, L, .int x :: S, w) o := by
  refine ri_X.op ha ?_ k
  show (match (bif decide (x.toInt < lo) || decide (hi < x.toInt) then some d else offs[(x.toInt - lo).toNat]?) with
    | some off => bif decide (0 ≤ (pc : Int) + off) then some (ri_tgt pc off, L, S, w) else none
    | none => none) = _
  rw [h]
  show (bif decide (0 ≤ (pc : Int) + d) then some (ri_tgt pc d, L, S, w) else none) = _
  rw [h0]
  rfl
theorem rm_usersOf (x : Int32) (a : Bool) : ri_M sl sx 20 [.ref 1, .int x, .int (rb_i a)] (rd_W C r) (rd_oc r C (rd_usersOf C x a)) := by
  unfold ri_M rd_usersOf
  repeat refine ri_X.s rfl rfl rfl ?_
  refine ri_X.gu rfl rfl rfl rfl rfl rfl (rm_there (rdr C) x) (fun h1 => by rw [h1]; rfl) (fun h1 => ?_)
  rw [h1]
  simp only [cond_true]
  repeat refine ri_X.sh 13 rfl rfl rfl rfl ?_
  have e : ∀ n, (ri_fo (fun i (q : Int32 × Option Value) => (cond (rb_h (rd_uoR C a i) x) (q.1 ||| rb_b i) q.1, some (Value.int (rd_uoR C a i)))) n (0, none)).1 = ri_fo (fun i v => cond (rb_h (rd_uoR C a i) x) (v ||| rb_b i) v) n 0 := by
    intro n
    induction n with
    | zero => rfl
    | succ n ih =>
      show cond (rb_h (rd_uoR C a n) x) ((ri_fo _ n (0, none)).1 ||| rb_b n) ((ri_fo _ n (0, none)).1) = cond (rb_h (rd_uoR C a n) x) (ri_fo _ n 0 ||| rb_b n) (ri_fo _ n 0)
      rw [ih]
  refine ri_loop (fun i (q : Int32 × Option Value) => (13, [some (.ref 1), some (.int x), some (.int (rb_i a)), some (.int q.1), some (.int (nI i)), q.2], [], rd_W C r)) (fun i (q : Int32 × Option Value) => (cond (rb_h (rd_uoR C a i) x) (q.1 ||| rb_b i) q.1, some (Value.int (rd_uoR C a i)))) 6 ?_ (a := (0, none)) ?_
  · intro i q o hi k
    obtain ⟨v, v5⟩ := q
    have rest : ri_X sl sx 20 (45, [some (.ref 1), some (.int x), some (.int (rb_i a)), some (.int v), some (.int (nI i)), v5], [.int (rd_uoR C a i)], rd_W C r) o := by
      repeat refine ri_X.s rfl rfl rfl ?_
      refine ri_X.call0 rfl rfl rfl rfl rfl (rm_holds (rd_uoR C a i) x) ?_
      refine ri_X.ifz rfl rfl (fun h => ?_) (fun h => ?_)
      · repeat refine ri_X.sh 13 rfl rfl rfl rfl ?_
        exact ri_X.eq (by simp only [h, nI_succ, Bool.true_and, Bool.false_and, Bool.and_true, Bool.and_false, Bool.not_true, Bool.not_false, cond_true, cond_false]; try rfl) k
      · repeat refine ri_X.s rfl rfl rfl ?_
        refine ri_X.call0 rfl rfl rfl rfl rfl (rm_bit (nI i)) ?_
        repeat refine ri_X.sh 13 rfl rfl rfl rfl ?_
        exact ri_X.eq (by simp only [h, nI_succ, Bool.true_and, Bool.false_and, Bool.and_true, Bool.and_false, Bool.not_true, Bool.not_false, cond_true, cond_false]; try rfl) k
    repeat refine ri_X.s rfl rfl rfl ?_
    refine ri_X.bF rfl rfl (rx_ge (N := 6) (hi) rfl) ?_
    repeat refine ri_X.s rfl rfl rfl ?_
    refine ri_X.ifz rfl rfl (fun h => ?_) (fun h => ?_)
    · repeat refine ri_X.s rfl rfl rfl ?_
      refine ri_X.ald rfl rfl (hi) rfl ?_
      have e2 : rd_uoR C a i = rda C i := by unfold rd_uoR; rw [h]; rfl
      rw [e2] at rest
      exact rest
    · repeat refine ri_X.s rfl rfl rfl ?_
      refine ri_X.ald rfl rfl (hi) rfl ?_
      refine ri_X.call0 rfl rfl rfl rfl rfl (rm_withJuniors (rda C i)) ?_
      have e2 : rd_uoR C a i = rj_w (rdi C) 10 (rda C i) := by unfold rd_uoR; rw [h]; rfl
      rw [e2] at rest
      repeat refine ri_X.sh 45 rfl rfl rfl rfl ?_
      exact rest
  · have e6 := e 6
    generalize ri_fo (fun i (q : Int32 × Option Value) => (cond (rb_h (rd_uoR C a i) x) (q.1 ||| rb_b i) q.1, some (Value.int (rd_uoR C a i)))) 6 (0, none) = q at e6
    have e6 : q.1 = rd_uo C x a := e6
    rw [← e6]
    repeat refine ri_X.s rfl rfl rfl ?_
    refine ri_X.bT rfl rfl (rx_geN (N := 6)) ?_
    repeat refine ri_X.s rfl rfl rfl ?_
    exact ri_X.fin rfl rfl
theorem rm_deleteUser (hok : rd_ok C ow) (x : Int32) : ri_M sl sx 2 [.ref 1, .int x] (rd_W C r) (rd_oc r C (rd_deleteUser C x x.toNatClampNeg)) := by
  unfold ri_M rd_deleteUser
  repeat refine ri_X.s rfl rfl rfl ?_
  refine ri_X.gu rfl rfl rfl rfl rfl rfl (rm_there (rdu C) x) (fun h1 => by rw [h1]; rfl) (fun h1 => ?_)
  rw [h1]
  simp only [cond_true]
  obtain ⟨u, hu, rfl, tu⟩ := rb_hs h1
  have hu := hok.1 u tu
  rw [rx16 (by omega)]
  repeat refine ri_X.s rfl rfl rfl ?_
  refine ri_X.call0 rfl rfl rfl rfl rfl (rm_sou (nI u)) ?_
  repeat refine ri_X.sh 16 rfl rfl rfl rfl ?_
  refine ri_loop (fun i D => (16, [some (.ref 1), some (.int (nI u)), some (.int (rd_sou C (nI u))), some (.int (nI i))], [], rd_W D r)) (rd_dlo (rd_sou C (nI u))) 6 ?_ (a := C) ?_
  · intro i D o hi k
    repeat refine ri_X.s rfl rfl rfl ?_
    refine ri_X.bF rfl rfl (rx_ge (N := 6) (hi) rfl) ?_
    repeat refine ri_X.s rfl rfl rfl ?_
    refine ri_X.call0 rfl rfl rfl rfl rfl (rm_holds (rd_sou C (nI u)) (nI i)) ?_
    refine ri_X.ifz rfl rfl (fun h => ?_) (fun h => ?_)
    · repeat refine ri_X.sh 16 rfl rfl rfl rfl ?_
      exact ri_X.eq (by simp only [rd_dlo, h, nI_succ, Bool.true_and, Bool.false_and, Bool.and_true, Bool.and_false, Bool.not_true, Bool.not_false, cond_true, cond_false]; try rfl) k
    · repeat refine ri_X.s rfl rfl rfl ?_
      refine ri_X.call0 rfl rfl rfl rfl rfl (rm_end (C := D) hi) ?_
      repeat refine ri_X.sh 16 rfl rfl rfl rfl ?_
      exact ri_X.eq (by simp only [rd_dlo, h, nI_succ, Bool.true_and, Bool.false_and, Bool.and_true, Bool.and_false, Bool.not_true, Bool.not_false, cond_true, cond_false]; try rfl) k
  · show ri_X sl sx 2 (16, [some (.ref 1), some (.int (nI u)), some (.int (rd_sou C (nI u))), some (.int (nI 6))], [], rd_W (rd_dl C (nI u)) r) _
    generalize rd_dl C (nI u) = D
    repeat refine ri_X.s rfl rfl rfl ?_
    refine ri_X.bT rfl rfl (rx_geN (N := 6)) ?_
    repeat refine ri_X.s rfl rfl rfl ?_
    refine ri_X.call0 rfl rfl rfl rfl rfl (rm_bit (nI u)) ?_
    repeat refine ri_X.s rfl rfl rfl ?_
    rw [rd_WU]
    refine ri_X.ast rfl rfl rfl (hu) rfl ?_
    rw [rd_WA]
    repeat refine ri_X.s rfl rfl rfl ?_
    refine ri_X.call0 rfl rfl rfl rfl rfl (rm_bitCount (rd_sou C (nI u))) ?_
    exact ri_X.fin rfl rfl
theorem rm_deleteRole (hok : rd_ok C ow) (x : Int32) : ri_M sl sx 4 [.ref 1, .int x] (rd_W C r) (rd_oc r C (rd_deleteRole C ow x x.toNatClampNeg)) := by
  unfold ri_M rd_deleteRole
  repeat refine ri_X.s rfl rfl rfl ?_
  refine ri_X.gu rfl rfl rfl rfl rfl rfl (rm_there (rdr C) x) (fun h1 => by rw [h1]; rfl) (fun h1 => ?_)
  rw [h1]
  simp only [cond_true]
  obtain ⟨u, hu, rfl, tu⟩ := rb_hs h1
  have hu := hok.2.1 u tu
  rw [rx16 (by omega)]
  repeat refine ri_X.s rfl rfl rfl ?_
  refine ri_X.call0 rfl rfl rfl rfl rfl (rm_bit (nI u)) ?_
  repeat refine ri_X.sh 25 rfl rfl rfl rfl ?_
  rw [rd_WR]
  generalize hz : rb_bt (nI u) ^^^ (-1) = z
  refine ri_X.eq (st1 := (25, [some (.ref 1), some (.int (nI u)), some (.int (nI 0))], [], rd_W (rdR C (rdr C &&& z)) r)) (by rw [← hz]; rfl) ?_
  have l1 : ∀ (D : rd_S) (o : ri_O), ri_X sl sx 4 (25, [some (.ref 1), some (.int (nI u)), some (.int (nI 6))], [], rd_W (rdA D (ri_fo (rd_cut z) 6 (rda D))) r) o → ri_X sl sx 4 (25, [some (.ref 1), some (.int (nI u)), some (.int (nI 0))], [], rd_W D r) o := by
    intro D o k
    refine ri_loop (fun i f => (25, [some (.ref 1), some (.int (nI u)), some (.int (nI i))], [], rd_W (rdA D f) r)) (rd_cut z) 6 ?_ (a := rda D) k
    intro i f o hi k
    repeat refine ri_X.s rfl rfl rfl ?_
    refine ri_X.bF rfl rfl (rx_ge (N := 6) (hi) rfl) ?_
    repeat refine ri_X.s rfl rfl rfl ?_
    refine ri_X.ald (f := f) rfl rfl hi rfl ?_
    repeat refine ri_X.s rfl rfl rfl ?_
    refine ri_X.call0 rfl rfl rfl rfl rfl (rm_bit (nI u)) ?_
    repeat refine ri_X.s rfl rfl rfl ?_
    refine ri_X.ast (f := f) (x := f i &&& (rb_bt (nI u) ^^^ (-1))) rfl rfl rfl hi rfl ?_
    rw [rd_WA, rdAA, hz]
    repeat refine ri_X.sh 25 rfl rfl rfl rfl ?_
    exact ri_X.eq (by simp only [rd_cut, nI_succ, Bool.true_and, Bool.false_and, Bool.and_true, Bool.and_false, Bool.not_true, Bool.not_false, cond_true, cond_false]; try rfl) k
  have l2 : ∀ (D : rd_S) (o : ri_O), ri_X sl sx 4 (54, [some (.ref 1), some (.int (nI u)), some (.int (nI 10))], [], rd_W (rdI D (ri_fo (rd_cut z) 10 (rdi D))) r) o → ri_X sl sx 4 (54, [some (.ref 1), some (.int (nI u)), some (.int (nI 0))], [], rd_W D r) o := by
    intro D o k
    refine ri_loop (fun i f => (54, [some (.ref 1), some (.int (nI u)), some (.int (nI i))], [], rd_W (rdI D f) r)) (rd_cut z) 10 ?_ (a := rdi D) k
    intro i f o hi k
    repeat refine ri_X.s rfl rfl rfl ?_
    refine ri_X.bF rfl rfl (rx_ge (N := 10) (hi) rfl) ?_
    repeat refine ri_X.s rfl rfl rfl ?_
    refine ri_X.ald (f := f) rfl rfl hi rfl ?_
    repeat refine ri_X.s rfl rfl rfl ?_
    refine ri_X.call0 rfl rfl rfl rfl rfl (rm_bit (nI u)) ?_
    repeat refine ri_X.s rfl rfl rfl ?_
    refine ri_X.ast (f := f) (x := f i &&& (rb_bt (nI u) ^^^ (-1))) rfl rfl rfl hi rfl ?_
    rw [rd_WI, rdII, hz]
    repeat refine ri_X.sh 54 rfl rfl rfl rfl ?_
    exact ri_X.eq (by simp only [rd_cut, nI_succ, Bool.true_and, Bool.false_and, Bool.and_true, Bool.and_false, Bool.not_true, Bool.not_false, cond_true, cond_false]; try rfl) k
  refine l1 _ _ ?_
  have e1 : rda (rdR C (rdr C &&& z)) = rda C := rfl
  rw [e1]
  have hD : ∀ f g : Nat → Int32, rdG (rdI (rdA (rdR C (rdr C &&& z)) f) (upd g u 0)) (upd (rdg C) u 0) = rdG (rdI (rdA (rdR C (rdr C &&& z)) f) (upd g u 0)) (upd (rdg (rdI (rdA (rdR C (rdr C &&& z)) f) (upd g u 0))) u 0) := fun f g => rfl
  unfold rd_dr2 rd_dr1
  generalize ri_fo (rd_cut z) 6 (rda C) = f6
  repeat refine ri_X.s rfl rfl rfl ?_
  refine ri_X.bT rfl rfl (rx_geN (N := 6)) ?_
  repeat refine ri_X.sh 54 rfl rfl rfl rfl ?_
  refine l2 (rdA (rdR C (rdr C &&& z)) f6) _ ?_
  have e2 : rdi (rdA (rdR C (rdr C &&& z)) f6) = rdi C := rfl
  rw [e2]
  generalize ri_fo (rd_cut z) 10 (rdi C) = f10
  repeat refine ri_X.s rfl rfl rfl ?_
  refine ri_X.bT rfl rfl (rx_geN (N := 10)) ?_
  repeat refine ri_X.s rfl rfl rfl ?_
  refine ri_X.ast (f := f10) (x := 0) rfl rfl rfl hu rfl ?_
  rw [rd_WI, rdII]
  repeat refine ri_X.s rfl rfl rfl ?_
  refine ri_X.ast (f := rdg C) (x := 0) rfl rfl rfl hu rfl ?_
  rw [rd_WG]
  repeat refine ri_X.s rfl rfl rfl ?_
  generalize hC1 : rdG (rdI (rdA (rdR C (rdr C &&& z)) f6) (upd f10 u 0)) (upd (rdg C) u 0) = C1
  have ho1 : ∀ s, s < 6 → rdo C1 s = nI (ow s) ∧ ow s < 6 := by
    rw [← hC1]
    exact hok.2.2.2.2
  refine ri_X.call0 rfl rfl rfl rfl rfl (rm_drop (C := C1) (ow := ow) ho1) ?_
  generalize rd_drop C1 ow = C2
  repeat refine ri_X.s rfl rfl rfl ?_
  refine ri_X.call0 rfl rfl rfl rfl rfl (rm_tk (C := C2) (nI u) (T := rd_tk C2 z) (by rw [← hz]; rfl)) ?_
  generalize rd_tk C2 z = T
  exact ri_X.fin rfl rfl
theorem rm_addSet (x ro n : Int32) : ri_M sl sx 11 [.ref 1, .int x, .int ro, .int n] (rd_W C r) (rd_oc r C (rd_addSet C x ro n)) := by
  unfold ri_M rd_addSet
  repeat refine ri_X.s rfl rfl rfl ?_
  refine ri_X.gu rfl rfl rfl rfl rfl rfl (rm_allThere (rdr C) ro) (fun h1 => by rw [h1]; rfl) (fun h1 => ?_)
  rw [h1]
  simp only [cond_true]
  repeat refine ri_X.s rfl rfl rfl ?_
  refine ri_X.gn rfl rfl rfl rfl rfl rfl (rm_inBounds x 0 1) (fun h2 => by rw [h2]; rfl) (fun h2 => ?_)
  rw [h2]
  simp only [cond_false]
  repeat refine ri_X.s rfl rfl rfl ?_
  refine ri_X.call0 rfl rfl rfl rfl rfl (rm_bitCount ro) ?_
  refine ri_X.gn rfl rfl rfl rfl rfl rfl (rm_inBounds n 2 (rb_c ro)) (fun h3 => by rw [h3]; rfl) (fun h3 => ?_)
  rw [h3]
  simp only [cond_false]
  repeat refine ri_X.s rfl rfl rfl ?_
  refine ri_X.call0 rfl rfl rfl rfl rfl (rm_leastFree (rdk C) (N := 4) (by decide)) ?_
  repeat refine ri_X.s rfl rfl rfl ?_
  obtain ⟨hk1, -⟩ := ri_fst_spec (Q := fun i => !(rb_t (rdk C) i)) 4
  have hk1 : rd_lf (rdk C) 4 ≤ 4 := by
    show ri_fst (fun i => !(rb_t (rdk C) i)) 4 ≤ 4
    rcases hk1 with h | h <;> omega
  generalize rd_lf (rdk C) 4 = k at hk1
  refine ri_X.br (b := decide (nI k < 4)) rfl rfl (fun h4 => ?_) (fun h4 => ?_)
  · rw [h4]
    simp only [cond_true]
    have hk : k < 4 := by
      refine Nat.lt_of_not_le fun hge => ?_
      have : k = 4 := by omega
      subst this
      revert h4
      decide
    repeat refine ri_X.s rfl rfl rfl ?_
    refine ri_X.call0 rfl rfl rfl rfl rfl (rm_refuseIf false) ?_
    repeat refine ri_X.s rfl rfl rfl ?_
    refine ri_X.call0 rfl rfl rfl rfl rfl (rm_wb x ro n) ?_
    refine ri_X.gn rfl rfl rfl rfl rfl rfl (rm_refuseIf (rd_wb C x ro n)) (fun h5 => by rw [h5]; rfl) (fun h5 => ?_)
    rw [h5]
    simp only [cond_false]
    repeat refine ri_X.s rfl rfl rfl ?_
    refine ri_X.call0 rfl rfl rfl rfl rfl (rm_bit (nI k)) ?_
    repeat refine ri_X.s rfl rfl rfl ?_
    rw [rd_WK]
    refine ri_X.ast (f := rdn C) rfl rfl rfl hk rfl ?_
    rw [rd_WN]
    repeat refine ri_X.s rfl rfl rfl ?_
    refine ri_X.ast (f := rdm C) rfl rfl rfl hk rfl ?_
    rw [rd_WM]
    repeat refine ri_X.s rfl rfl rfl ?_
    refine ri_X.ast (f := rdb C) rfl rfl rfl hk rfl ?_
    rw [rd_WB]
    repeat refine ri_X.s rfl rfl rfl ?_
    exact ri_X.fin rfl rfl
  · rw [h4]
    repeat refine ri_X.s rfl rfl rfl ?_
    refine ri_X.thr rfl rfl rfl rfl rfl rfl (rm_refuseIf true)
theorem rm_changeSet (hok : rd_ok C ow) (x ro n : Int32) : ri_M sl sx 13 [.ref 1, .int x, .int ro, .int n] (rd_W C r) (rd_oc r C (rd_changeSet C x ro n x.toNatClampNeg)) := by
  unfold ri_M rd_changeSet
  repeat refine ri_X.s rfl rfl rfl ?_
  refine ri_X.gu rfl rfl rfl rfl rfl rfl (rm_there (rdk C) x) (fun h1 => by rw [h1]; rfl) (fun h1 => ?_)
  rw [h1]
  simp only [cond_true]
  obtain ⟨u, hu, rfl, tu⟩ := rb_hs h1
  have hu := hok.2.2.2.1 u tu
  rw [rx16 (by omega)]
  repeat refine ri_X.s rfl rfl rfl ?_
  refine ri_X.gu rfl rfl rfl rfl rfl rfl (rm_allThere (rdr C) ro) (fun h2 => by rw [h2]; rfl) (fun h2 => ?_)
  rw [h2]
  simp only [cond_true]
  repeat refine ri_X.s rfl rfl rfl ?_
  refine ri_X.call0 rfl rfl rfl rfl rfl (rm_bitCount ro) ?_
  refine ri_X.gn rfl rfl rfl rfl rfl rfl (rm_inBounds n 2 (rb_c ro)) (fun h3 => by rw [h3]; rfl) (fun h3 => ?_)
  rw [h3]
  simp only [cond_false]
  repeat refine ri_X.s rfl rfl rfl ?_
  refine ri_X.ald rfl rfl (hu) rfl ?_
  repeat refine ri_X.s rfl rfl rfl ?_
  refine ri_X.call0 rfl rfl rfl rfl rfl (rm_wb (rdn C u) ro n) ?_
  refine ri_X.gn rfl rfl rfl rfl rfl rfl (rm_refuseIf (rd_wb C (rdn C u) ro n)) (fun h5 => by rw [h5]; rfl) (fun h5 => ?_)
  rw [h5]
  simp only [cond_false]
  repeat refine ri_X.s rfl rfl rfl ?_
  refine ri_X.ast (f := rdm C) rfl rfl rfl hu rfl ?_
  rw [rd_WM]
  repeat refine ri_X.s rfl rfl rfl ?_
  refine ri_X.ast (f := rdb C) rfl rfl rfl hu rfl ?_
  rw [rd_WB]
  repeat refine ri_X.s rfl rfl rfl ?_
  refine ri_X.call0 rfl rfl rfl rfl rfl (rm_bitCount ro) ?_
  exact ri_X.fin rfl rfl
theorem rm_open (hok : rd_ok C ow) (x ro : Int32) : ri_M sl sx 14 [.ref 1, .int x, .int ro] (rd_W C r) (rd_oc r C (rd_open C x ro x.toNatClampNeg)) := by
  unfold ri_M rd_open
  repeat refine ri_X.s rfl rfl rfl ?_
  refine ri_X.gu rfl rfl rfl rfl rfl rfl (rm_there (rdu C) x) (fun h1 => by rw [h1]; rfl) (fun h1 => ?_)
  rw [h1]
  simp only [cond_true]
  obtain ⟨u, hu, rfl, tu⟩ := rb_hs h1
  have hu := hok.1 u tu
  rw [rx16 (by omega)]
  repeat refine ri_X.s rfl rfl rfl ?_
  refine ri_X.gu rfl rfl rfl rfl rfl rfl (rm_allThere (rdr C) ro) (fun h2 => by rw [h2]; rfl) (fun h2 => ?_)
  rw [h2]
  simp only [cond_true]
  repeat refine ri_X.s rfl rfl rfl ?_
  refine ri_X.ald rfl rfl (hu) rfl ?_
  refine ri_X.call0 rfl rfl rfl rfl rfl (rm_withJuniors (rda C u)) ?_
  repeat refine ri_X.s rfl rfl rfl ?_
  refine ri_X.br (b := decide ((ro &&& (rj_w (rdi C) 10 (rda C u) ^^^ (-1))) = 0)) rfl rfl (fun h3 => ?_) (fun h3 => ?_)
  · rw [h3]
    simp only [cond_true]
    repeat refine ri_X.s rfl rfl rfl ?_
    refine ri_X.call0 rfl rfl rfl rfl rfl (rm_refuseIf false) ?_
    repeat refine ri_X.s rfl rfl rfl ?_
    refine ri_X.call0 rfl rfl rfl rfl rfl (rm_leastFree (rds C) (N := 6) (by decide)) ?_
    repeat refine ri_X.s rfl rfl rfl ?_
    obtain ⟨hk1, -⟩ := ri_fst_spec (Q := fun i => !(rb_t (rds C) i)) 6
    have hk1 : rd_lf (rds C) 6 ≤ 6 := by
      show ri_fst (fun i => !(rb_t (rds C) i)) 6 ≤ 6
      rcases hk1 with h | h <;> omega
    generalize rd_lf (rds C) 6 = k at hk1
    refine ri_X.br (b := decide (nI k < 6)) rfl rfl (fun h4 => ?_) (fun h4 => ?_)
    · rw [h4]
      simp only [cond_true]
      have hk : k < 6 := by
        refine Nat.lt_of_not_le fun hge => ?_
        have : k = 6 := by omega
        subst this
        revert h4
        decide
      repeat refine ri_X.s rfl rfl rfl ?_
      refine ri_X.call0 rfl rfl rfl rfl rfl (rm_refuseIf false) ?_
      repeat refine ri_X.s rfl rfl rfl ?_
      refine ri_X.call0 rfl rfl rfl rfl rfl (rm_brk 1 ro) ?_
      refine ri_X.gn rfl rfl rfl rfl rfl rfl (rm_refuseIf (rd_brk C 1 ro)) (fun h5 => by rw [h5]; rfl) (fun h5 => ?_)
      rw [h5]
      simp only [cond_false]
      repeat refine ri_X.s rfl rfl rfl ?_
      refine ri_X.call0 rfl rfl rfl rfl rfl (rm_bit (nI k)) ?_
      repeat refine ri_X.s rfl rfl rfl ?_
      rw [rd_WS]
      refine ri_X.ast (f := rdo C) rfl rfl rfl hk rfl ?_
      rw [rd_WO]
      repeat refine ri_X.s rfl rfl rfl ?_
      refine ri_X.ast (f := rdv C) rfl rfl rfl hk rfl ?_
      rw [rd_WV]
      repeat refine ri_X.s rfl rfl rfl ?_
      exact ri_X.fin rfl rfl
    · rw [h4]
      repeat refine ri_X.s rfl rfl rfl ?_
      refine ri_X.thr rfl rfl rfl rfl rfl rfl (rm_refuseIf true)
  · rw [h3]
    repeat refine ri_X.s rfl rfl rfl ?_
    refine ri_X.thr rfl rfl rfl rfl rfl rfl (rm_refuseIf true)
theorem rm_thereM (x : Int32) : ri_M sl sx 25 [.ref 1, .int x] (rd_W C r) (.inl (some (rd_thereV C x)), rd_W C r, 0, 0) := by
  unfold ri_M rd_thereV
  repeat refine ri_X.s rfl rfl rfl ?_
  by_cases h0 : x = 0
  · subst h0
    rw [if_pos rfl]
    refine ri_X.op rfl rfl ?_
    repeat refine ri_X.s rfl rfl rfl ?_
    exact ri_X.fin rfl rfl
  rw [if_neg h0]
  by_cases h1 : x = 1
  · subst h1
    rw [if_pos rfl]
    refine ri_X.op rfl rfl ?_
    repeat refine ri_X.s rfl rfl rfl ?_
    exact ri_X.fin rfl rfl
  rw [if_neg h1]
  by_cases h2 : x = 2
  · subst h2
    rw [if_pos rfl]
    refine ri_X.op rfl rfl ?_
    repeat refine ri_X.s rfl rfl rfl ?_
    exact ri_X.fin rfl rfl
  rw [if_neg h2]
  by_cases h3 : x = 3
  · subst h3
    rw [if_pos rfl]
    refine ri_X.op rfl rfl ?_
    repeat refine ri_X.s rfl rfl rfl ?_
    refine ri_X.call0 rfl rfl rfl rfl rfl (rm_sok 0) ?_
    exact ri_X.fin rfl rfl
  rw [if_neg h3]
  by_cases h4 : x = 4
  · subst h4
    rw [if_pos rfl]
    refine ri_X.op rfl rfl ?_
    repeat refine ri_X.s rfl rfl rfl ?_
    refine ri_X.call0 rfl rfl rfl rfl rfl (rm_sok 1) ?_
    exact ri_X.fin rfl rfl
  rw [if_neg h4]
  refine ri_X.tswD rfl ?_ rfl ?_
  · rw [Bool.or_eq_true, decide_eq_true_eq, decide_eq_true_eq]
    have g : ∀ n : Nat, n < 5 → ¬ x = nI n → ¬ x.toInt = (n : Int) := by
      intro n hn hx e
      apply hx
      apply Int32.toInt_inj.mp
      rw [e, nI_toInt (by omega)]
    have g0 := g 0 (by decide) h0
    have g1 := g 1 (by decide) h1
    have g2 := g 2 (by decide) h2
    have g3 := g 3 (by decide) h3
    have g4 := g 4 (by decide) h4
    omega
  · repeat refine ri_X.s rfl rfl rfl ?_
    exact ri_X.fin rfl rfl
theorem rm_new (users roles mode : Int32) : ri_M sl sx 0 [.ref 1, .int users, .int roles, .int mode] [.inr (0, ri_df 0)] (.inl none, rd_W (rd_new users roles mode) [], 8, 50) := by
  unfold ri_M
  refine ri_X.eqo (o1 := (.inl none, rd_W (rd_new users roles mode) [], 1 + (1 + (1 + (1 + (1 + (1 + (1 + (1 + 0))))))), 6 + (10 + (10 + (6 + (6 + (4 + (4 + (4 + 0))))))))) rfl ?_
  repeat refine ri_X.s rfl rfl rfl ?_
  refine ri_X.mk rfl rfl rfl rfl ?_
  repeat refine ri_X.s rfl rfl rfl ?_
  refine ri_X.mk rfl rfl rfl rfl ?_
  repeat refine ri_X.s rfl rfl rfl ?_
  refine ri_X.mk rfl rfl rfl rfl ?_
  repeat refine ri_X.s rfl rfl rfl ?_
  refine ri_X.mk rfl rfl rfl rfl ?_
  repeat refine ri_X.s rfl rfl rfl ?_
  refine ri_X.mk rfl rfl rfl rfl ?_
  repeat refine ri_X.s rfl rfl rfl ?_
  refine ri_X.mk rfl rfl rfl rfl ?_
  repeat refine ri_X.s rfl rfl rfl ?_
  refine ri_X.mk rfl rfl rfl rfl ?_
  repeat refine ri_X.s rfl rfl rfl ?_
  refine ri_X.mk rfl rfl rfl rfl ?_
  repeat refine ri_X.s rfl rfl rfl ?_
  refine ri_X.cne rfl rfl (fun h => ?_) (fun h => ?_)
  · unfold rd_new
    have h : decide (mode = 1) = false := h
    rw [h]
    repeat refine ri_X.s rfl rfl rfl ?_
    exact ri_X.fin rfl rfl
  · unfold rd_new
    have h : decide (mode = 1) = true := h
    rw [h]
    repeat refine ri_X.s rfl rfl rfl ?_
    exact ri_X.fin rfl rfl
end C35
