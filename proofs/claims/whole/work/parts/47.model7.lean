/-! sets and sessions -/
theorem rx_ne {k N : Nat} (hk : k < N) (hN : N < 2147483648) : decide (nI k = nI N) = false := by
  rw [decide_eq_false_iff_not]
  intro e
  have := congrArg Int32.toNatClampNeg e
  rw [nI_clamp (by omega), nI_clamp (by omega)] at this
  omega
def md_fk (M : md_S) : Nat := ri_fst (fun i => decide (mdk M i < 0)) 4
def md_fs (M : md_S) : Nat := ri_fst (fun i => decide (mdo M i < 0)) 6
def md_many (x : Int32) : Int32 := md_cnt (fun j => md_in x (nI j)) 32
def md_bad (n x : Int32) : Bool := decide (n < 2) || !(decide (n ≤ md_many x))
def md_st0 (M : md_S) (x : Int32) (k : Nat) : md_S := mdD M (md_pl x (mdd M))
def md_swS (M : md_S) (k : Nat) : md_S := mdD (mdM M (md_sw M k).1) (md_sw M k).2
def md_as1' (N : md_S) (n : Int32) (k : Nat) (w : Int32) : md_S := mdN (mdK N (upd (mdk N) k w)) (upd (mdn N) k n)
def md_as2 (M : md_S) (x n : Int32) (k : Nat) (w : Int32) : md_S := md_as1' (md_swS (md_st0 (mdT M 0) x k) k) n k w
def md_as3 (N : md_S) (k : Nat) : Int32 × md_S := cond (md_bk N k) (0, mdK (mdT N 3) (upd (mdk N) k (-1))) (nI k, mdT N 0)
def md_addSet (M : md_S) (w x n : Int32) : Int32 × md_S :=
  cond (md_st M x) (0, mdT M 1) (cond ((!(decide (w = 0)) && !(decide (w = 1))) || md_bad n x) (0, mdT M 2) (cond (decide (md_fk M = 4)) (0, mdT M 3) (md_as3 (md_as2 M x n (md_fk M) w) (md_fk M))))
def md_ds1 (M : md_S) (k : Nat) : md_S := mdK (mdT M 0) (upd (mdk M) k (-1))
def md_deleteSet (M : md_S) (x : Int32) (k : Nat) : Int32 × md_S :=
  cond (md_nk M x) (0, mdT M 1) (md_cnt (fun j => !(decide (mdk (md_ds1 M k) j < 0))) 4, md_ds1 M k)
def md_cs2 (M : md_S) (x n : Int32) (k : Nat) : md_S := mdN (md_swS (md_st0 (mdT M 0) x k) k) (upd (mdn M) k n)
def md_cs3 (N : md_S) (k : Nat) (x was : Int32) : Int32 × md_S := cond (md_bk N k) (0, mdN (md_swS (mdT N 3) k) (upd (mdn N) k was)) (md_many x, mdT N 0)
def md_changeSet (M : md_S) (w x n : Int32) (k : Nat) : Int32 × md_S :=
  cond (md_nk M w || md_st M x) (0, mdT M 1) (cond (md_bad n x) (0, mdT M 2) (md_cs3 (md_cs2 M x n k) k x (mdn M k)))
def md_opV (V : Nat → Bool) (s : Nat) (x : Int32) : Nat → Bool := ri_fo (fun i V => rb_u V (10 * s + i) (md_in x (nI i))) 10 V
def md_op2 (M : md_S) (w x : Int32) (s : Nat) : md_S := mdV (mdO (mdT M 0) (upd (mdo M) s w)) (md_opV (mdv M) s x)
def md_op3 (N : md_S) (s : Nat) : Int32 × md_S := cond (md_ab N) (0, mdO (mdT N 2) (upd (mdo N) s (-1))) (nI s, mdT N 0)
def md_open (M : md_S) (w x : Int32) (u : Nat) : Int32 × md_S :=
  cond (md_nu M w || md_st M x) (0, mdT M 1) (cond (decide (md_fs M = 6) || !(md_ma M u x)) (0, mdT M 2) (md_op3 (md_op2 M w x (md_fs M)) (md_fs M)))
def md_cl1 (M : md_S) (k : Nat) : md_S := mdO (mdT M 0) (upd (mdo M) k (-1))
def md_close (M : md_S) (x : Int32) (k : Nat) : Int32 × md_S :=
  cond (md_ns M x) (0, mdT M 1) (md_cnt (fun j => !(decide (mdo (md_cl1 M k) j < 0))) 6, md_cl1 M k)
def md_ac1 (M : md_S) (k : Nat) (b : Bool) : md_S := mdV (mdT M 0) (rb_u (mdv M) k b)
def md_ac3 (N : md_S) (u v : Nat) : Int32 × md_S := cond (md_ab N) (0, mdV (mdT N 2) (rb_u (mdv N) (10 * u + v) false)) (md_cnt (fun j => mdv N (10 * u + j)) 10, mdT N 0)
def md_activate (M : md_S) (ow : Nat → Nat) (x y : Int32) (u v : Nat) : Int32 × md_S :=
  cond (md_ns M x || md_nr M y) (0, mdT M 1) (cond (mdv M (10 * u + v) || !(md_au M (ow u) v)) (0, mdT M 2) (md_ac3 (md_ac1 M (10 * u + v) true) u v))
def md_deactivate (M : md_S) (x y : Int32) (u v : Nat) : Int32 × md_S :=
  cond (md_ns M x || md_nr M y) (0, mdT M 1) (cond (mdv M (10 * u + v)) (md_cnt (fun j => mdv (md_ac1 M (10 * u + v) false) (10 * u + j)) 10, md_ac1 M (10 * u + v) false) (0, mdT M 2))
section M47
variable {sl : Nat} {sx : Nat → Int32} {r : ri_W} {C : rd_S} {M N : md_S} {ww : ri_W} {ow : Nat → Nat} {o : ri_O}
theorem rn_planswap {k : Nat} (hk : k < 4) : md_sw M k = md_sw M k := rfl
theorem rn_swap2 {k : Nat} (hk : k < 4) : ri_M sl sx 78 [.ref 10, .int (nI k)] (rd_W C (md_W M r)) (.inl none, rd_W C (md_W (md_swS M k) r), 0, 0) := rn_swap hk rfl
theorem rn_plan2 (x : Int32) (k : Nat) : ri_M sl sx 79 [.ref 10, .int x] (rd_W C (md_W M r)) (.inl none, rd_W C (md_W (md_st0 M x k) r), 0, 0) := rn_plan x
theorem rn_asA {k : Nat} (hk : k < 4) (w x n : Int32) : ri_X sl sx 80 (110, [some (.ref 10), some (.int w), some (.int x), some (.int n), some (.int (nI k))], [], rd_W C (md_W N r)) (md_oc r C (md_as3 N k)) := by
  unfold md_as3
  repeat refine ri_X.s rfl rfl rfl ?_
  refine ri_X.call0 rfl rfl rfl rfl rfl (rn_broken hk) ?_
  generalize md_bk N k = bb
  refine ri_X.ifz rfl rfl (fun h => ?_) (fun h => ?_)
  · rw [h]
    simp only [cond_false]
    repeat refine ri_X.s rfl rfl rfl ?_
    refine ri_X.call0 rfl rfl rfl rfl rfl rn_ref0 ?_
    refine ri_X.bT rfl rfl rfl ?_
    repeat refine ri_X.s rfl rfl rfl ?_
    exact ri_X.fin rfl rfl
  · rw [h]
    simp only [cond_true]
    repeat refine ri_X.s rfl rfl rfl ?_
    refine ri_X.call0 rfl rfl rfl rfl rfl rn_ref3 ?_
    refine ri_X.bF rfl rfl rfl ?_
    repeat refine ri_X.s rfl rfl rfl ?_
    refine ri_X.ast (f := mdk N) rfl rfl rfl hk rfl ?_
    rw [md_WK]
    repeat refine ri_X.s rfl rfl rfl ?_
    exact ri_X.fin rfl rfl
theorem rn_asB1 {k : Nat} (hk : k < 4) (w x n : Int32) : ri_X sl sx 80 (94, [some (.ref 10), some (.int w), some (.int x), some (.int n), some (.int (nI k))], [], rd_W C (md_W N r)) (md_oc r C (md_as3 (md_as1' N n k w) k)) := by
  repeat refine ri_X.s rfl rfl rfl ?_
  refine ri_X.ast (f := mdk N) (x := w) rfl rfl rfl hk rfl ?_
  rw [md_WK]
  generalize hN : mdK N (upd (mdk N) k w) = N2
  have e : mdn N = mdn N2 := by rw [← hN]; rfl
  repeat refine ri_X.s rfl rfl rfl ?_
  refine ri_X.ast (f := mdn N2) (x := n) rfl rfl rfl hk rfl ?_
  rw [md_WN]
  have e2 : md_as1' N n k w = mdN N2 (upd (mdn N2) k n) := by
    unfold md_as1'
    rw [hN, e]
  rw [e2]
  exact rn_asA hk w x n
theorem rn_asB {k : Nat} (hk : k < 4) (w x n : Int32) : ri_X sl sx 80 (83, [some (.ref 10), some (.int w), some (.int x), some (.int n), some (.int (nI k))], [], rd_W C (md_W (mdT M 0) r)) (md_oc r C (md_as3 (md_as2 M x n k w) k)) := by
  unfold md_as2
  repeat refine ri_X.s rfl rfl rfl ?_
  refine ri_X.call0 rfl rfl rfl rfl rfl (rn_plan2 x k) ?_
  generalize md_st0 (mdT M 0) x k = N1
  repeat refine ri_X.s rfl rfl rfl ?_
  refine ri_X.call0 rfl rfl rfl rfl rfl (rn_swap2 hk) ?_
  generalize md_swS N1 k = N
  exact rn_asB1 hk w x n
theorem rn_asC {k : Nat} (hk : k ≤ 4) (w x n : Int32) {T : Int32 × md_S} (hT : k < 4 → ri_X sl sx 80 (83, [some (.ref 10), some (.int w), some (.int x), some (.int n), some (.int (nI k))], [], rd_W C (md_W (mdT M 0) r)) (md_oc r C T)) : ri_X sl sx 80 (25, [some (.ref 10), some (.int w), some (.int x), some (.int n), some (.int (nI k))], [], rd_W C (md_W M r)) (md_oc r C (cond (md_st M x) (0, mdT M 1) (cond ((!(decide (w = 0)) && !(decide (w = 1))) || md_bad n x) (0, mdT M 2) (cond (decide (k = 4)) (0, mdT M 3) T)))) := by
  repeat refine ri_X.s rfl rfl rfl ?_
  refine ri_X.call0 rfl rfl rfl rfl rfl (rn_strange x) ?_
  generalize md_st M x = bs
  refine ri_X.ifz rfl rfl (fun h => ?_) (fun h => ?_)
  · rw [h]
    simp only [cond_false]
    have t64 : ri_X sl sx 80 (64, [some (.ref 10), some (.int w), some (.int x), some (.int n), some (.int (nI k))], [.ref 10], rd_W C (md_W M r)) (md_oc r C (cond (decide (k = 4)) (0, mdT M 3) T)) := by
      repeat refine ri_X.s rfl rfl rfl ?_
      refine ri_X.cne (x := nI k) (y := nI 4) rfl rfl (fun h2 => ?_) (fun h2 => ?_)
      · have h4 : k < 4 := by
          have : ¬ k = 4 := by
            intro e
            rw [e] at h2
            exact absurd h2 (by decide)
          omega
        rw [decide_eq_false (show ¬ k = 4 by omega)]
        simp only [cond_false]
        repeat refine ri_X.s rfl rfl rfl ?_
        refine ri_X.call0 rfl rfl rfl rfl rfl rn_ref0 ?_
        refine ri_X.bT rfl rfl rfl ?_
        exact hT h4
      · have h4 : k = 4 := by
          refine Classical.byContradiction fun hne => ?_
          rw [rx_ne (show k < 4 by omega) (by omega)] at h2
          cases h2
        rw [decide_eq_true h4]
        repeat refine ri_X.s rfl rfl rfl ?_
        refine ri_X.call0 rfl rfl rfl rfl rfl rn_ref3 ?_
        refine ri_X.bF rfl rfl rfl ?_
        repeat refine ri_X.s rfl rfl rfl ?_
        exact ri_X.fin rfl rfl
    have t47 : ri_X sl sx 80 (47, [some (.ref 10), some (.int w), some (.int x), some (.int n), some (.int (nI k))], [.ref 10], rd_W C (md_W M r)) (md_oc r C (cond (md_bad n x) (0, mdT M 2) (cond (decide (k = 4)) (0, mdT M 3) T))) := by
      unfold md_bad
      generalize cond (decide (k = 4)) (0, mdT M 3) T = T2 at t64 ⊢
      repeat refine ri_X.s rfl rfl rfl ?_
      refine ri_X.br (b := decide (n < 2)) rfl rfl (fun h2 => ?_) (fun h2 => ?_)
      · rw [h2]
        repeat refine ri_X.s rfl rfl rfl ?_
        refine ri_X.call0 rfl rfl rfl rfl rfl rn_ref2 ?_
        refine ri_X.bF rfl rfl rfl ?_
        repeat refine ri_X.s rfl rfl rfl ?_
        exact ri_X.fin rfl rfl
      · rw [h2]
        repeat refine ri_X.s rfl rfl rfl ?_
        refine ri_X.call0 rfl rfl rfl rfl rfl (rn_many x) ?_
        have e : md_cnt (fun j => md_in x (nI j)) 32 = md_many x := rfl
        rw [e]
        generalize md_many x = c
        refine ri_X.br (b := decide (n ≤ c)) rfl rfl (fun h3 => ?_) (fun h3 => ?_)
        · rw [h3]
          simp only [Bool.not_true, Bool.or_false, cond_false]
          exact t64
        · rw [h3]
          repeat refine ri_X.s rfl rfl rfl ?_
          refine ri_X.call0 rfl rfl rfl rfl rfl rn_ref2 ?_
          refine ri_X.bF rfl rfl rfl ?_
          repeat refine ri_X.s rfl rfl rfl ?_
          exact ri_X.fin rfl rfl
    generalize md_bad n x = bb at t47 ⊢
    generalize cond (decide (k = 4)) (0, mdT M 3) T = T2 at t47 ⊢
    repeat refine ri_X.s rfl rfl rfl ?_
    refine ri_X.br (b := decide (w = 0)) rfl rfl (fun h2 => ?_) (fun h2 => ?_)
    · rw [h2]
      simp only [Bool.not_true, Bool.false_and, Bool.false_or]
      exact t47
    · rw [h2]
      repeat refine ri_X.s rfl rfl rfl ?_
      refine ri_X.cne (x := w) (y := 1) rfl rfl (fun h3 => ?_) (fun h3 => ?_)
      · rw [h3]
        repeat refine ri_X.s rfl rfl rfl ?_
        refine ri_X.call0 rfl rfl rfl rfl rfl rn_ref2 ?_
        refine ri_X.bF rfl rfl rfl ?_
        repeat refine ri_X.s rfl rfl rfl ?_
        exact ri_X.fin rfl rfl
      · rw [h3]
        simp only [Bool.not_true, Bool.and_false, Bool.false_or]
        exact t47
  · rw [h]
    repeat refine ri_X.s rfl rfl rfl ?_
    refine ri_X.call0 rfl rfl rfl rfl rfl rn_ref1 ?_
    refine ri_X.bF rfl rfl rfl ?_
    repeat refine ri_X.s rfl rfl rfl ?_
    exact ri_X.fin rfl rfl
theorem rn_addSet (w x n : Int32) : ri_M sl sx 80 [.ref 10, .int w, .int x, .int n] (rd_W C (md_W M r)) (md_oc r C (md_addSet M w x n)) := by
  unfold ri_M md_addSet
  repeat refine ri_X.sh 3 rfl rfl rfl rfl ?_
  obtain ⟨h1, h2⟩ := ri_fst_spec (Q := fun i => decide (mdk M i < 0)) 4
  have hle : md_fk M ≤ 4 := by
    rcases h1 with h | h
    · exact Nat.le_of_lt h.1
    · exact Nat.le_of_eq h.1
  have tail := rn_asC (sl := sl) (sx := sx) (r := r) (C := C) (M := M) hle w x n (fun h4 => rn_asB h4 w x n)
  generalize md_oc r C (cond (md_st M x) (0, mdT M 1) (cond ((!(decide (w = 0)) && !(decide (w = 1))) || md_bad n x) (0, mdT M 2) (cond (decide (md_fk M = 4)) (0, mdT M 3) (md_as3 (md_as2 M x n (md_fk M) w) (md_fk M))))) = o at tail ⊢
  refine ri_back (fun i => (3, [some (.ref 10), some (.int w), some (.int x), some (.int n), some (.int (nI i))], [], rd_W C (md_W M r))) (Q := fun i => decide (mdk M i < 0)) (N := 4) ?_ (md_fk M) hle h2 ?_
  · clear tail h1 h2 hle
    intro i o hi hq k
    repeat refine ri_X.s rfl rfl rfl ?_
    refine ri_X.bF rfl rfl (rx_ge (N := 4) (hi) rfl) ?_
    repeat refine ri_X.s rfl rfl rfl ?_
    refine ri_X.ald (f := mdk M) rfl rfl hi rfl ?_
    refine ri_X.bF rfl rfl hq ?_
    repeat refine ri_X.sh 3 rfl rfl rfl rfl ?_
    exact ri_X.eq (by simp only [nI_succ]; try rfl) k
  · rcases h1 with ⟨h3, h4, -⟩ | ⟨h3, -⟩
    · have h3 : md_fk M < 4 := h3
      have h4 : decide (mdk M (md_fk M) < 0) = true := h4
      generalize md_fk M = k at h3 h4 tail ⊢
      repeat refine ri_X.s rfl rfl rfl ?_
      refine ri_X.bF rfl rfl (rx_ge (N := 4) (h3) rfl) ?_
      repeat refine ri_X.s rfl rfl rfl ?_
      refine ri_X.ald (f := mdk M) rfl rfl h3 rfl ?_
      refine ri_X.bT rfl rfl h4 ?_
      exact tail
    · have h3 : md_fk M = 4 := h3
      rw [h3] at tail ⊢
      repeat refine ri_X.s rfl rfl rfl ?_
      refine ri_X.bT rfl rfl (rx_geN (N := 4)) ?_
      exact tail
theorem rn_deleteSet (x : Int32) : ri_M sl sx 81 [.ref 10, .int x] (rd_W C (md_W M r)) (md_oc r C (md_deleteSet M x x.toNatClampNeg)) := by
  unfold ri_M md_deleteSet
  repeat refine ri_X.s rfl rfl rfl ?_
  refine ri_X.call0 rfl rfl rfl rfl rfl (rn_noSet x) ?_
  refine ri_X.ifz rfl rfl (fun h1 => ?_) (fun h1 => ?_)
  · rw [h1]
    obtain ⟨k, hk, rfl⟩ := md_nkk h1
    rw [rx16 (by omega)]
    simp only [cond_false]
    repeat refine ri_X.s rfl rfl rfl ?_
    refine ri_X.call0 rfl rfl rfl rfl rfl rn_ref0 ?_
    refine ri_X.bT rfl rfl rfl ?_
    repeat refine ri_X.s rfl rfl rfl ?_
    refine ri_X.ast (f := mdk M) (x := -1) rfl rfl rfl hk rfl ?_
    rw [md_WK]
    have e : mdK (mdT M 0) (upd (mdk M) k (-1)) = md_ds1 M k := rfl
    rw [e]
    generalize md_ds1 M k = N
    repeat refine ri_X.s rfl rfl rfl ?_
    refine ri_X.call0 rfl rfl rfl rfl rfl (rn_sets) ?_
    exact ri_X.fin rfl rfl
  · rw [h1]
    repeat refine ri_X.s rfl rfl rfl ?_
    refine ri_X.call0 rfl rfl rfl rfl rfl rn_ref1 ?_
    refine ri_X.bF rfl rfl rfl ?_
    repeat refine ri_X.s rfl rfl rfl ?_
    exact ri_X.fin rfl rfl
theorem rn_csA {k : Nat} (hk : k < 4) (x n was : Int32) : ri_X sl sx 82 (72, [some (.ref 10), some (.int (nI k)), some (.int x), some (.int n), some (.int was)], [], rd_W C (md_W N r)) (md_oc r C (md_cs3 N k x was)) := by
  unfold md_cs3
  repeat refine ri_X.s rfl rfl rfl ?_
  refine ri_X.call0 rfl rfl rfl rfl rfl (rn_broken hk) ?_
  generalize md_bk N k = bb
  refine ri_X.ifz rfl rfl (fun h => ?_) (fun h => ?_)
  · rw [h]
    simp only [cond_false]
    repeat refine ri_X.s rfl rfl rfl ?_
    refine ri_X.call0 rfl rfl rfl rfl rfl rn_ref0 ?_
    refine ri_X.bT rfl rfl rfl ?_
    repeat refine ri_X.s rfl rfl rfl ?_
    refine ri_X.call0 rfl rfl rfl rfl rfl (rn_many x) ?_
    have e : md_cnt (fun j => md_in x (nI j)) 32 = md_many x := rfl
    rw [e]
    generalize md_many x = c
    exact ri_X.fin rfl rfl
  · rw [h]
    simp only [cond_true]
    repeat refine ri_X.s rfl rfl rfl ?_
    refine ri_X.call0 rfl rfl rfl rfl rfl rn_ref3 ?_
    refine ri_X.bF rfl rfl rfl ?_
    repeat refine ri_X.s rfl rfl rfl ?_
    refine ri_X.call0 rfl rfl rfl rfl rfl (rn_swap2 hk) ?_
    have e : mdn N = mdn (md_swS (mdT N 3) k) := rfl
    rw [e]
    generalize md_swS (mdT N 3) k = N2
    repeat refine ri_X.s rfl rfl rfl ?_
    refine ri_X.ast (f := mdn N2) rfl rfl rfl hk rfl ?_
    rw [md_WN]
    repeat refine ri_X.s rfl rfl rfl ?_
    exact ri_X.fin rfl rfl
theorem rn_csB {k : Nat} (hk : k < 4) (x n : Int32) (v4 : Option Value) : ri_X sl sx 82 (47, [some (.ref 10), some (.int (nI k)), some (.int x), some (.int n), v4], [], rd_W C (md_W (mdT M 0) r)) (md_oc r C (md_cs3 (md_cs2 M x n k) k x (mdn M k))) := by
  repeat refine ri_X.s rfl rfl rfl ?_
  refine ri_X.ald (f := mdn M) rfl rfl hk rfl ?_
  generalize mdn M k = was
  have e2 : mdn M = mdn (md_swS (md_st0 (mdT M 0) x k) k) := rfl
  unfold md_cs2
  rw [e2]
  repeat refine ri_X.s rfl rfl rfl ?_
  refine ri_X.call0 rfl rfl rfl rfl rfl (rn_plan2 x k) ?_
  repeat refine ri_X.s rfl rfl rfl ?_
  refine ri_X.call0 rfl rfl rfl rfl rfl (rn_swap2 hk) ?_
  clear e2
  generalize md_swS (md_st0 (mdT M 0) x k) k = N
  repeat refine ri_X.s rfl rfl rfl ?_
  refine ri_X.ast (f := mdn N) rfl rfl rfl hk rfl ?_
  rw [md_WN]
  exact rn_csA hk x n was
theorem rn_changeSet (w x n : Int32) : ri_M sl sx 82 [.ref 10, .int w, .int x, .int n] (rd_W C (md_W M r)) (md_oc r C (md_changeSet M w x n w.toNatClampNeg)) := by
  unfold ri_M md_changeSet
  repeat refine ri_X.s rfl rfl rfl ?_
  refine ri_X.call0 rfl rfl rfl rfl rfl (rn_noSet w) ?_
  refine ri_X.ifn rfl rfl (fun h1 => ?_) (fun h1 => ?_)
  · rw [h1]
    repeat refine ri_X.s rfl rfl rfl ?_
    refine ri_X.call0 rfl rfl rfl rfl rfl rn_ref1 ?_
    refine ri_X.bF rfl rfl rfl ?_
    repeat refine ri_X.s rfl rfl rfl ?_
    exact ri_X.fin rfl rfl
  · rw [h1]
    obtain ⟨k, hk, rfl⟩ := md_nkk h1
    rw [rx16 (by omega)]
    have tail := fun v4 => rn_csB (sl := sl) (sx := sx) (r := r) (C := C) (M := M) hk x n v4
    generalize md_cs3 (md_cs2 M x n k) k x (mdn M k) = T at tail ⊢
    repeat refine ri_X.s rfl rfl rfl ?_
    refine ri_X.call0 rfl rfl rfl rfl rfl (rn_strange x) ?_
    generalize md_st M x = bs
    refine ri_X.ifz rfl rfl (fun h2 => ?_) (fun h2 => ?_)
    · rw [h2]
      simp only [Bool.or_false, cond_false]
      unfold md_bad
      repeat refine ri_X.s rfl rfl rfl ?_
      refine ri_X.br (b := decide (n < 2)) rfl rfl (fun h2 => ?_) (fun h2 => ?_)
      · rw [h2]
        repeat refine ri_X.s rfl rfl rfl ?_
        refine ri_X.call0 rfl rfl rfl rfl rfl rn_ref2 ?_
        refine ri_X.bF rfl rfl rfl ?_
        repeat refine ri_X.s rfl rfl rfl ?_
        exact ri_X.fin rfl rfl
      · rw [h2]
        repeat refine ri_X.s rfl rfl rfl ?_
        refine ri_X.call0 rfl rfl rfl rfl rfl (rn_many x) ?_
        have e : md_cnt (fun j => md_in x (nI j)) 32 = md_many x := rfl
        rw [e]
        generalize md_many x = c
        refine ri_X.br (b := decide (n ≤ c)) rfl rfl (fun h3 => ?_) (fun h3 => ?_)
        · rw [h3]
          simp only [Bool.not_true, Bool.or_false, cond_false]
          repeat refine ri_X.s rfl rfl rfl ?_
          refine ri_X.call0 rfl rfl rfl rfl rfl rn_ref0 ?_
          refine ri_X.bT rfl rfl rfl ?_
          exact tail _
        · rw [h3]
          repeat refine ri_X.s rfl rfl rfl ?_
          refine ri_X.call0 rfl rfl rfl rfl rfl rn_ref2 ?_
          refine ri_X.bF rfl rfl rfl ?_
          repeat refine ri_X.s rfl rfl rfl ?_
          exact ri_X.fin rfl rfl
    · rw [h2]
      repeat refine ri_X.s rfl rfl rfl ?_
      refine ri_X.call0 rfl rfl rfl rfl rfl rn_ref1 ?_
      refine ri_X.bF rfl rfl rfl ?_
      repeat refine ri_X.s rfl rfl rfl ?_
      exact ri_X.fin rfl rfl
theorem rn_opA {s : Nat} (hs : s < 6) (w x : Int32) (v4 : Option Value) : ri_X sl sx 85 (113, [some (.ref 10), some (.int w), some (.int x), some (.int (nI s)), v4], [], rd_W C (md_W N r)) (md_oc r C (md_op3 N s)) := by
  unfold md_op3
  repeat refine ri_X.s rfl rfl rfl ?_
  refine ri_X.call0 rfl rfl rfl rfl rfl (rn_anyBroken) ?_
  generalize md_ab N = bb
  refine ri_X.ifz rfl rfl (fun h => ?_) (fun h => ?_)
  · rw [h]
    simp only [cond_false]
    repeat refine ri_X.s rfl rfl rfl ?_
    refine ri_X.call0 rfl rfl rfl rfl rfl rn_ref0 ?_
    refine ri_X.bT rfl rfl rfl ?_
    repeat refine ri_X.s rfl rfl rfl ?_
    exact ri_X.fin rfl rfl
  · rw [h]
    simp only [cond_true]
    repeat refine ri_X.s rfl rfl rfl ?_
    refine ri_X.call0 rfl rfl rfl rfl rfl rn_ref2 ?_
    refine ri_X.bF rfl rfl rfl ?_
    repeat refine ri_X.s rfl rfl rfl ?_
    refine ri_X.ast (f := mdo N) rfl rfl rfl hs rfl ?_
    rw [md_WO]
    repeat refine ri_X.s rfl rfl rfl ?_
    exact ri_X.fin rfl rfl
theorem rn_opB {s : Nat} (hs : s < 6) (w x : Int32) (v4 : Option Value) : ri_X sl sx 85 (72, [some (.ref 10), some (.int w), some (.int x), some (.int (nI s)), v4], [], rd_W C (md_W (mdT M 0) r)) (md_oc r C (md_op3 (md_op2 M w x s) s)) := by
  have e2 : mdv M = mdv (mdO (mdT M 0) (upd (mdo M) s w)) := rfl
  unfold md_op2
  rw [e2]
  repeat refine ri_X.s rfl rfl rfl ?_
  refine ri_X.ast (f := mdo M) rfl rfl rfl hs rfl ?_
  rw [md_WO]
  clear e2
  generalize mdO (mdT M 0) (upd (mdo M) s w) = N
  repeat refine ri_X.sh 82 rfl rfl rfl rfl ?_
  have l : ∀ o, ri_X sl sx 85 (82, [some (.ref 10), some (.int w), some (.int x), some (.int (nI s)), some (.int (nI 10))], [], rd_W C (md_W (mdV N (md_opV (mdv N) s x)) r)) o → ri_X sl sx 85 (82, [some (.ref 10), some (.int w), some (.int x), some (.int (nI s)), some (.int (nI 0))], [], rd_W C (md_W N r)) o := by
    intro o k
    refine ri_loop (fun i V => (82, [some (.ref 10), some (.int w), some (.int x), some (.int (nI s)), some (.int (nI i))], [], rd_W C (md_W (mdV N V) r))) (fun i V => rb_u V (10 * s + i) (md_in x (nI i))) 10 ?_ (a := mdv N) k
    intro i V o hi k
    repeat refine ri_X.s rfl rfl rfl ?_
    refine ri_X.bF rfl rfl (rx_ge (N := 10) (hi) rfl) ?_
    repeat refine ri_X.s rfl rfl rfl ?_
    refine ri_X.call0 rfl rfl rfl rfl rfl (rn_in x (nI i)) ?_
    refine ri_X.zstx (B := V) (md_in x (nI i)) (nJ_m10 s i) rfl rfl rfl (by omega) rfl ?_
    rw [md_WV, mdVV]
    repeat refine ri_X.sh 82 rfl rfl rfl rfl ?_
    exact ri_X.eq (by simp only [nI_succ]; try rfl) k
  refine l _ ?_
  generalize mdV N (md_opV (mdv N) s x) = N2
  repeat refine ri_X.s rfl rfl rfl ?_
  refine ri_X.bT rfl rfl (rx_geN (N := 10)) ?_
  exact rn_opA hs w x _
theorem rn_opC {k : Nat} (hk : k ≤ 6) (w x : Int32) {f : Nat → Int32 × md_S} (hT : ∀ u, k < 6 → u < 6 → w = nI u → ri_X sl sx 85 (72, [some (.ref 10), some (.int w), some (.int x), some (.int (nI k)), none], [], rd_W C (md_W (mdT M 0) r)) (md_oc r C (f u))) : ri_X sl sx 85 (23, [some (.ref 10), some (.int w), some (.int x), some (.int (nI k)), none], [], rd_W C (md_W M r)) (md_oc r C (cond (md_nu M w || md_st M x) (0, mdT M 1) (cond (decide (k = 6) || !(md_ma M w.toNatClampNeg x)) (0, mdT M 2) (f w.toNatClampNeg)))) := by
  repeat refine ri_X.s rfl rfl rfl ?_
  refine ri_X.call0 rfl rfl rfl rfl rfl (rn_noUser w) ?_
  refine ri_X.ifn rfl rfl (fun h1 => ?_) (fun h1 => ?_)
  · rw [h1]
    repeat refine ri_X.s rfl rfl rfl ?_
    refine ri_X.call0 rfl rfl rfl rfl rfl rn_ref1 ?_
    refine ri_X.bF rfl rfl rfl ?_
    repeat refine ri_X.s rfl rfl rfl ?_
    exact ri_X.fin rfl rfl
  · rw [h1]
    obtain ⟨u, hu, rfl⟩ := md_nuk h1
    rw [rx16 (by omega)]
    have hT := fun h => hT u h hu rfl
    generalize f u = T at hT ⊢
    repeat refine ri_X.s rfl rfl rfl ?_
    refine ri_X.call0 rfl rfl rfl rfl rfl (rn_strange x) ?_
    generalize md_st M x = bs
    refine ri_X.ifz rfl rfl (fun h2 => ?_) (fun h2 => ?_)
    · rw [h2]
      simp only [Bool.or_false, cond_false]
      repeat refine ri_X.s rfl rfl rfl ?_
      refine ri_X.br (b := decide (nI k = nI 6)) rfl rfl (fun h3 => ?_) (fun h3 => ?_)
      · have h4 : k = 6 := by
          refine Classical.byContradiction fun hne => ?_
          rw [rx_ne (show k < 6 by omega) (by omega)] at h3
          cases h3
        rw [decide_eq_true h4]
        repeat refine ri_X.s rfl rfl rfl ?_
        refine ri_X.call0 rfl rfl rfl rfl rfl rn_ref2 ?_
        refine ri_X.bF rfl rfl rfl ?_
        repeat refine ri_X.s rfl rfl rfl ?_
        exact ri_X.fin rfl rfl
      · have h4 : k < 6 := by
          have : ¬ k = 6 := by
            intro e
            rw [e] at h3
            exact absurd h3 (by decide)
          omega
        rw [decide_eq_false (show ¬ k = 6 by omega)]
        repeat refine ri_X.s rfl rfl rfl ?_
        refine ri_X.call0 rfl rfl rfl rfl rfl (rn_mayAll hu x) ?_
        generalize md_ma M u x = bm
        refine ri_X.ifn rfl rfl (fun h5 => ?_) (fun h5 => ?_)
        · rw [h5]
          simp only [Bool.not_true, Bool.or_false, cond_false]
          repeat refine ri_X.s rfl rfl rfl ?_
          refine ri_X.call0 rfl rfl rfl rfl rfl rn_ref0 ?_
          refine ri_X.bT rfl rfl rfl ?_
          exact hT h4
        · rw [h5]
          repeat refine ri_X.s rfl rfl rfl ?_
          refine ri_X.call0 rfl rfl rfl rfl rfl rn_ref2 ?_
          refine ri_X.bF rfl rfl rfl ?_
          repeat refine ri_X.s rfl rfl rfl ?_
          exact ri_X.fin rfl rfl
    · rw [h2]
      repeat refine ri_X.s rfl rfl rfl ?_
      refine ri_X.call0 rfl rfl rfl rfl rfl rn_ref1 ?_
      refine ri_X.bF rfl rfl rfl ?_
      repeat refine ri_X.s rfl rfl rfl ?_
      exact ri_X.fin rfl rfl
theorem rn_open (w x : Int32) : ri_M sl sx 85 [.ref 10, .int w, .int x] (rd_W C (md_W M r)) (md_oc r C (md_open M w x w.toNatClampNeg)) := by
  unfold ri_M md_open
  repeat refine ri_X.sh 2 rfl rfl rfl rfl ?_
  obtain ⟨h1, h2⟩ := ri_fst_spec (Q := fun i => decide (mdo M i < 0)) 6
  have hle : md_fs M ≤ 6 := by
    rcases h1 with h | h
    · exact Nat.le_of_lt h.1
    · exact Nat.le_of_eq h.1
  have tail := rn_opC (sl := sl) (sx := sx) (r := r) (C := C) (M := M) hle w x (f := fun _ => md_op3 (md_op2 M w x (md_fs M)) (md_fs M)) (fun u h4 _ _ => rn_opB h4 w x none)
  generalize md_oc r C (cond (md_nu M w || md_st M x) (0, mdT M 1) (cond (decide (md_fs M = 6) || !(md_ma M w.toNatClampNeg x)) (0, mdT M 2) (md_op3 (md_op2 M w x (md_fs M)) (md_fs M)))) = o at tail ⊢
  refine ri_back (fun i => (2, [some (.ref 10), some (.int w), some (.int x), some (.int (nI i)), none], [], rd_W C (md_W M r))) (Q := fun i => decide (mdo M i < 0)) (N := 6) ?_ (md_fs M) hle h2 ?_
  · clear tail h1 h2 hle
    intro i o hi hq k
    repeat refine ri_X.s rfl rfl rfl ?_
    refine ri_X.bF rfl rfl (rx_ge (N := 6) (hi) rfl) ?_
    repeat refine ri_X.s rfl rfl rfl ?_
    refine ri_X.ald (f := mdo M) rfl rfl hi rfl ?_
    refine ri_X.bF rfl rfl hq ?_
    repeat refine ri_X.sh 2 rfl rfl rfl rfl ?_
    exact ri_X.eq (by simp only [nI_succ]; try rfl) k
  · rcases h1 with ⟨h3, h4, -⟩ | ⟨h3, -⟩
    · have h3 : md_fs M < 6 := h3
      have h4 : decide (mdo M (md_fs M) < 0) = true := h4
      generalize md_fs M = k at h3 h4 tail ⊢
      repeat refine ri_X.s rfl rfl rfl ?_
      refine ri_X.bF rfl rfl (rx_ge (N := 6) (h3) rfl) ?_
      repeat refine ri_X.s rfl rfl rfl ?_
      refine ri_X.ald (f := mdo M) rfl rfl h3 rfl ?_
      refine ri_X.bT rfl rfl h4 ?_
      exact tail
    · have h3 : md_fs M = 6 := h3
      rw [h3] at tail ⊢
      repeat refine ri_X.s rfl rfl rfl ?_
      refine ri_X.bT rfl rfl (rx_geN (N := 6)) ?_
      exact tail
theorem rn_close (x : Int32) : ri_M sl sx 86 [.ref 10, .int x] (rd_W C (md_W M r)) (md_oc r C (md_close M x x.toNatClampNeg)) := by
  unfold ri_M md_close
  repeat refine ri_X.s rfl rfl rfl ?_
  refine ri_X.call0 rfl rfl rfl rfl rfl (rn_noSession x) ?_
  refine ri_X.ifz rfl rfl (fun h1 => ?_) (fun h1 => ?_)
  · rw [h1]
    obtain ⟨k, hk, rfl⟩ := md_nsk h1
    rw [rx16 (by omega)]
    simp only [cond_false]
    repeat refine ri_X.s rfl rfl rfl ?_
    refine ri_X.call0 rfl rfl rfl rfl rfl rn_ref0 ?_
    refine ri_X.bT rfl rfl rfl ?_
    repeat refine ri_X.s rfl rfl rfl ?_
    refine ri_X.ast (f := mdo M) (x := -1) rfl rfl rfl hk rfl ?_
    rw [md_WO]
    have e : mdO (mdT M 0) (upd (mdo M) k (-1)) = md_cl1 M k := rfl
    rw [e]
    generalize md_cl1 M k = N
    repeat refine ri_X.s rfl rfl rfl ?_
    refine ri_X.call0 rfl rfl rfl rfl rfl (rn_sessions) ?_
    exact ri_X.fin rfl rfl
  · rw [h1]
    repeat refine ri_X.s rfl rfl rfl ?_
    refine ri_X.call0 rfl rfl rfl rfl rfl rn_ref1 ?_
    refine ri_X.bF rfl rfl rfl ?_
    repeat refine ri_X.s rfl rfl rfl ?_
    exact ri_X.fin rfl rfl
theorem rn_acA {u v : Nat} (hu : u < 6) (hv : v < 10) : ri_X sl sx 88 (74, [some (.ref 10), some (.int (nI u)), some (.int (nI v))], [], rd_W C (md_W N r)) (md_oc r C (md_ac3 N u v)) := by
  unfold md_ac3
  repeat refine ri_X.s rfl rfl rfl ?_
  refine ri_X.call0 rfl rfl rfl rfl rfl (rn_anyBroken) ?_
  generalize md_ab N = bb
  refine ri_X.ifz rfl rfl (fun h => ?_) (fun h => ?_)
  · rw [h]
    simp only [cond_false]
    repeat refine ri_X.s rfl rfl rfl ?_
    refine ri_X.call0 rfl rfl rfl rfl rfl rn_ref0 ?_
    refine ri_X.bT rfl rfl rfl ?_
    repeat refine ri_X.s rfl rfl rfl ?_
    refine ri_X.call0 rfl rfl rfl rfl rfl (rn_lives hu) ?_
    exact ri_X.fin rfl rfl
  · rw [h]
    simp only [cond_true]
    repeat refine ri_X.s rfl rfl rfl ?_
    refine ri_X.call0 rfl rfl rfl rfl rfl rn_ref2 ?_
    refine ri_X.bF rfl rfl rfl ?_
    repeat refine ri_X.s rfl rfl rfl ?_
    refine ri_X.zstx (B := mdv N) false (nJ_m10 u v) rfl rfl rfl (by omega) rfl ?_
    rw [md_WV]
    repeat refine ri_X.s rfl rfl rfl ?_
    exact ri_X.fin rfl rfl
theorem rn_acB {u v : Nat} (hu : u < 6) (hv : v < 10) : ri_X sl sx 88 (53, [some (.ref 10), some (.int (nI u)), some (.int (nI v))], [.ref 10], rd_W C (md_W M r)) (md_oc r C (md_ac3 (md_ac1 M (10 * u + v) true) u v)) := by
  repeat refine ri_X.s rfl rfl rfl ?_
  refine ri_X.call0 rfl rfl rfl rfl rfl rn_ref0 ?_
  refine ri_X.bT rfl rfl rfl ?_
  repeat refine ri_X.s rfl rfl rfl ?_
  refine ri_X.zstx (B := mdv M) true (nJ_m10 u v) rfl rfl rfl (by omega) rfl ?_
  rw [md_WV]
  exact rn_acA hu hv
theorem rn_activate (ho : md_ok M ow) (x y : Int32) : ri_M sl sx 88 [.ref 10, .int x, .int y] (rd_W C (md_W M r)) (md_oc r C (md_activate M ow x y x.toNatClampNeg y.toNatClampNeg)) := by
  unfold ri_M md_activate
  repeat refine ri_X.s rfl rfl rfl ?_
  refine ri_X.call0 rfl rfl rfl rfl rfl (rn_noSession x) ?_
  refine ri_X.ifn rfl rfl (fun h1 => ?_) (fun h1 => ?_)
  · rw [h1]
    repeat refine ri_X.s rfl rfl rfl ?_
    refine ri_X.call0 rfl rfl rfl rfl rfl rn_ref1 ?_
    refine ri_X.bF rfl rfl rfl ?_
    repeat refine ri_X.s rfl rfl rfl ?_
    exact ri_X.fin rfl rfl
  · rw [h1]
    obtain ⟨u, hu, rfl⟩ := md_nsk h1
    have hlt : decide (mdo M u < 0) = false := by
      unfold md_ns at h1
      rw [rx16 (by omega)] at h1
      simp only [Bool.or_eq_false_iff, Bool.not_eq_false', decide_eq_true_eq] at h1
      rw [decide_eq_false_iff_not]
      have := h1.2.2
      rw [Int32.le_iff_toInt_le] at this
      rw [Int32.lt_iff_toInt_lt]
      omega
    obtain ⟨eo, hou⟩ := ho u hu hlt
    repeat refine ri_X.s rfl rfl rfl ?_
    refine ri_X.call0 rfl rfl rfl rfl rfl (rn_noRole y) ?_
    refine ri_X.ifz rfl rfl (fun h2 => ?_) (fun h2 => ?_)
    · rw [h2]
      obtain ⟨v, hv, rfl⟩ := md_nrk h2
      rw [rx16 (by omega), rx16 (by omega)]
      simp only [Bool.or_false, cond_false]
      have tail := rn_acB (sl := sl) (sx := sx) (r := r) (C := C) (M := M) hu hv
      generalize md_ac3 (md_ac1 M (10 * u + v) true) u v = T at tail ⊢
      repeat refine ri_X.s rfl rfl rfl ?_
      refine ri_X.zldx (B := mdv M) (nJ_m10 u v) rfl rfl (by omega) rfl ?_
      refine ri_X.ifn rfl rfl (fun h3 => ?_) (fun h3 => ?_)
      · rw [h3]
        repeat refine ri_X.s rfl rfl rfl ?_
        refine ri_X.call0 rfl rfl rfl rfl rfl rn_ref2 ?_
        refine ri_X.bF rfl rfl rfl ?_
        repeat refine ri_X.s rfl rfl rfl ?_
        exact ri_X.fin rfl rfl
      · rw [h3]
        repeat refine ri_X.s rfl rfl rfl ?_
        refine ri_X.ald (f := mdo M) rfl rfl hu rfl ?_
        rw [eo]
        repeat refine ri_X.s rfl rfl rfl ?_
        refine ri_X.call0 rfl rfl rfl rfl rfl (rn_auth hou hv) ?_
        generalize md_au M (ow u) v = ba
        refine ri_X.ifn rfl rfl (fun h4 => ?_) (fun h4 => ?_)
        · rw [h4]
          exact tail
        · rw [h4]
          repeat refine ri_X.s rfl rfl rfl ?_
          refine ri_X.call0 rfl rfl rfl rfl rfl rn_ref2 ?_
          refine ri_X.bF rfl rfl rfl ?_
          repeat refine ri_X.s rfl rfl rfl ?_
          exact ri_X.fin rfl rfl
    · rw [h2]
      repeat refine ri_X.s rfl rfl rfl ?_
      refine ri_X.call0 rfl rfl rfl rfl rfl rn_ref1 ?_
      refine ri_X.bF rfl rfl rfl ?_
      repeat refine ri_X.s rfl rfl rfl ?_
      exact ri_X.fin rfl rfl
theorem rn_deactivate (x y : Int32) : ri_M sl sx 89 [.ref 10, .int x, .int y] (rd_W C (md_W M r)) (md_oc r C (md_deactivate M x y x.toNatClampNeg y.toNatClampNeg)) := by
  unfold ri_M md_deactivate
  repeat refine ri_X.s rfl rfl rfl ?_
  refine ri_X.call0 rfl rfl rfl rfl rfl (rn_noSession x) ?_
  refine ri_X.ifn rfl rfl (fun h1 => ?_) (fun h1 => ?_)
  · rw [h1]
    repeat refine ri_X.s rfl rfl rfl ?_
    refine ri_X.call0 rfl rfl rfl rfl rfl rn_ref1 ?_
    refine ri_X.bF rfl rfl rfl ?_
    repeat refine ri_X.s rfl rfl rfl ?_
    exact ri_X.fin rfl rfl
  · rw [h1]
    obtain ⟨u, hu, rfl⟩ := md_nsk h1
    repeat refine ri_X.s rfl rfl rfl ?_
    refine ri_X.call0 rfl rfl rfl rfl rfl (rn_noRole y) ?_
    refine ri_X.ifz rfl rfl (fun h2 => ?_) (fun h2 => ?_)
    · rw [h2]
      obtain ⟨v, hv, rfl⟩ := md_nrk h2
      rw [rx16 (by omega), rx16 (by omega)]
      repeat refine ri_X.s rfl rfl rfl ?_
      refine ri_X.zldx (B := mdv M) (nJ_m10 u v) rfl rfl (by omega) rfl ?_
      refine ri_X.ifn rfl rfl (fun h3 => ?_) (fun h3 => ?_)
      · rw [h3]
        simp only [Bool.or_false, cond_false, cond_true]
        repeat refine ri_X.s rfl rfl rfl ?_
        refine ri_X.call0 rfl rfl rfl rfl rfl rn_ref0 ?_
        refine ri_X.bT rfl rfl rfl ?_
        repeat refine ri_X.s rfl rfl rfl ?_
        refine ri_X.zstx (B := mdv M) false (nJ_m10 u v) rfl rfl rfl (by omega) rfl ?_
        rw [md_WV]
        have e : mdV (mdT M 0) (rb_u (mdv M) (10 * u + v) false) = md_ac1 M (10 * u + v) false := rfl
        rw [e]
        generalize md_ac1 M (10 * u + v) false = N
        repeat refine ri_X.s rfl rfl rfl ?_
        refine ri_X.call0 rfl rfl rfl rfl rfl (rn_lives hu) ?_
        exact ri_X.fin rfl rfl
      · rw [h3]
        repeat refine ri_X.s rfl rfl rfl ?_
        refine ri_X.call0 rfl rfl rfl rfl rfl rn_ref2 ?_
        refine ri_X.bF rfl rfl rfl ?_
        repeat refine ri_X.s rfl rfl rfl ?_
        exact ri_X.fin rfl rfl
    · rw [h2]
      repeat refine ri_X.s rfl rfl rfl ?_
      refine ri_X.call0 rfl rfl rfl rfl rfl rn_ref1 ?_
      refine ri_X.bF rfl rfl rfl ?_
      repeat refine ri_X.s rfl rfl rfl ?_
      exact ri_X.fin rfl rfl
end M47
