/-! questions -/
def md_msk (B : Nat → Bool) (N : Nat) : Int32 := ri_fo (fun i a => cond (B i) (a + rb_b i) a) N 0
def md_ck (M : md_S) (s p : Nat) : Bool := ri_fo (fun i b => b || (mdv M (10 * s + i) && md_ha M i p)) 10 false
def md_check (M : md_S) (x y : Int32) (u v : Nat) : Int32 × md_S := cond (md_ns M x || md_np y) (0, mdT M 1) (rb_i (md_ck (mdT M 0) u v), mdT M 0)
def md_ro (M : md_S) (a : Bool) (u i : Nat) : Bool := cond a (md_au M u i) (mda M (10 * u + i))
def md_pe (M : md_S) (a : Bool) (u i : Nat) : Bool := cond a (md_ha M u i) (mdg M (16 * u + i))
def md_rolesOf (M : md_S) (x : Int32) (a : Bool) (u : Nat) : Int32 × md_S := cond (md_nu M x) (0, mdT M 1) (md_msk (fun i => md_ro (mdT M 0) a u i) 10, mdT M 0)
def md_usersOf (M : md_S) (x : Int32) (a : Bool) (u : Nat) : Int32 × md_S := cond (md_nr M x) (0, mdT M 1) (md_msk (fun i => md_ro (mdT M 0) a i u) 6, mdT M 0)
def md_permissions (M : md_S) (x : Int32) (a : Bool) (u : Nat) : Int32 × md_S := cond (md_nr M x) (0, mdT M 1) (md_msk (fun i => md_pe (mdT M 0) a u i) 16, mdT M 0)
def md_juniors (M : md_S) (x : Int32) (u : Nat) : Int32 × md_S := cond (md_nr M x) (0, mdT M 1) (md_msk (fun i => mds (mdT M 0) (10 * u + i)) 10, mdT M 0)
def md_active (M : md_S) (x : Int32) (u : Nat) : Int32 × md_S := cond (md_ns M x) (0, mdT M 1) (md_msk (fun i => mdv (mdT M 0) (10 * u + i)) 10, mdT M 0)
def md_sessionsOf (M : md_S) (x : Int32) : Int32 × md_S := cond (md_nu M x) (0, mdT M 1) (md_msk (fun i => decide (mdo (mdT M 0) i = x)) 6, mdT M 0)
def md_ti (M : md_S) (x : Int32) (k : Nat) : Bool := cond (decide (x = 0)) (decide (k < 6) && mdu M k) (cond (decide (x = 1)) (mdr M k) (cond (decide (x = 2)) (decide (k < 6) && !(decide (mdo M k < 0))) ((decide (x = 3) || decide (x = 4)) && (decide (k < 4) && decide (mdk M k = x - 3)))))
def md_there (M : md_S) (x : Int32) : Int32 × md_S := (md_msk (fun k => md_ti (mdT M 0) x k) 10, mdT M 0)
theorem rx_geT {i N : Nat} (h : N ≤ i) (hi : i < 2147483648) : ri_cd .ge (nI i) (nI N) = true := by
  refine decide_eq_true ?_
  show nI N ≤ nI i
  rw [Int32.le_iff_toInt_le, nI_toInt (by omega), nI_toInt hi]
  omega
section M48
variable {sl : Nat} {sx : Nat → Int32} {r : ri_W} {C : rd_S} {M N : md_S} {w : ri_W} {ow : Nat → Nat} {o : ri_O}
theorem rn_check (x y : Int32) : ri_M sl sx 90 [.ref 10, .int x, .int y] (rd_W C (md_W M r)) (md_oc r C (md_check M x y x.toNatClampNeg y.toNatClampNeg)) := by
  unfold ri_M md_check
  repeat refine ri_X.s rfl rfl rfl ?_
  refine ri_X.call0 rfl rfl rfl rfl rfl (rn_noSession x) ?_
  refine ri_X.ifn rfl rfl (fun h1 => ?_) (fun h1 => ?_)
  · rw [h1]
    repeat refine ri_X.s rfl rfl rfl ?_
    refine ri_X.call0 rfl rfl rfl rfl rfl rn_ref1 ?_
    refine ri_X.bF rfl rfl rfl ?_
    repeat refine ri_X.s rfl rfl rfl ?_
    exact ri_X.fin rfl rfl
  · rw [h1]
    obtain ⟨u, hu, rfl⟩ := md_nsk h1
    repeat refine ri_X.s rfl rfl rfl ?_
    refine ri_X.call0 rfl rfl rfl rfl rfl (rn_noPerm y) ?_
    refine ri_X.ifz rfl rfl (fun h2 => ?_) (fun h2 => ?_)
    · rw [h2]
      obtain ⟨v, hv, rfl⟩ := md_npk h2
      rw [rx16 (by omega), rx16 (by omega)]
      simp only [Bool.or_false, cond_false]
      repeat refine ri_X.s rfl rfl rfl ?_
      refine ri_X.call0 rfl rfl rfl rfl rfl rn_ref0 ?_
      refine ri_X.bT rfl rfl rfl ?_
      generalize mdT M 0 = N
      repeat refine ri_X.sh 34 rfl rfl rfl rfl ?_
      have l : ∀ o, ri_X sl sx 90 (34, [some (.ref 10), some (.int (nI u)), some (.int (nI v)), some (.int (rb_i (md_ck N u v))), some (.int (nI 10))], [], rd_W C (md_W N r)) o → ri_X sl sx 90 (34, [some (.ref 10), some (.int (nI u)), some (.int (nI v)), some (.int (rb_i false)), some (.int (nI 0))], [], rd_W C (md_W N r)) o := by
        intro o k
        refine ri_loop (fun i b => (34, [some (.ref 10), some (.int (nI u)), some (.int (nI v)), some (.int (rb_i b)), some (.int (nI i))], [], rd_W C (md_W N r))) (fun i b => b || (mdv N (10 * u + i) && md_ha N i v)) 10 ?_ (a := false) k
        clear k
        intro i b o hi k
        have hh := rn_has (sl := sl) (sx := sx) (r := r) (C := C) (M := N) hi hv
        generalize md_ha N i v = ha at hh k
        repeat refine ri_X.s rfl rfl rfl ?_
        refine ri_X.bF rfl rfl (rx_ge (N := 10) (hi) rfl) ?_
        repeat refine ri_X.s rfl rfl rfl ?_
        refine ri_X.ifn rfl rfl (fun h => ?_) (fun h => ?_)
        · repeat refine ri_X.sh 34 rfl rfl rfl rfl ?_
          exact ri_X.eq (by simp only [h, nI_succ, Bool.true_or]; try rfl) k
        · repeat refine ri_X.s rfl rfl rfl ?_
          refine ri_X.zldx (nJ_m10 u i) rfl rfl (by omega) rfl ?_
          refine ri_X.ifz rfl rfl (fun h2 => ?_) (fun h2 => ?_)
          · repeat refine ri_X.sh 34 rfl rfl rfl rfl ?_
            exact ri_X.eq (by simp only [h, h2, nI_succ, Bool.false_and, Bool.or_false]; try rfl) k
          · repeat refine ri_X.s rfl rfl rfl ?_
            refine ri_X.call0 rfl rfl rfl rfl rfl (hh) ?_
            refine ri_X.ifz rfl rfl (fun h3 => ?_) (fun h3 => ?_)
            · repeat refine ri_X.sh 34 rfl rfl rfl rfl ?_
              exact ri_X.eq (by simp only [h, h2, h3, nI_succ, Bool.and_false, Bool.or_false]; try rfl) k
            · repeat refine ri_X.sh 34 rfl rfl rfl rfl ?_
              exact ri_X.eq (by simp only [h, h2, h3, nI_succ, Bool.and_true, Bool.or_true]; try rfl) k
      refine l _ ?_
      generalize md_ck N u v = b
      repeat refine ri_X.s rfl rfl rfl ?_
      refine ri_X.bT rfl rfl (rx_geN (N := 10)) ?_
      repeat refine ri_X.s rfl rfl rfl ?_
      exact ri_X.finB rfl rfl
    · rw [h2]
      repeat refine ri_X.s rfl rfl rfl ?_
      refine ri_X.call0 rfl rfl rfl rfl rfl rn_ref1 ?_
      refine ri_X.bF rfl rfl rfl ?_
      repeat refine ri_X.s rfl rfl rfl ?_
      exact ri_X.fin rfl rfl
theorem rn_rolesOf (x : Int32) (a : Bool) : ri_M sl sx 91 [.ref 10, .int x, .int (rb_i a)] (rd_W C (md_W M r)) (md_oc r C (md_rolesOf M x a x.toNatClampNeg)) := by
  unfold ri_M md_rolesOf
  repeat refine ri_X.s rfl rfl rfl ?_
  refine ri_X.call0 rfl rfl rfl rfl rfl (rn_noUser x) ?_
  refine ri_X.ifz rfl rfl (fun h1 => ?_) (fun h1 => ?_)
  · rw [h1]
    obtain ⟨u, hu, rfl⟩ := md_nuk h1
    rw [rx16 (by omega)]
    simp only [cond_false]
    repeat refine ri_X.s rfl rfl rfl ?_
    refine ri_X.call0 rfl rfl rfl rfl rfl rn_ref0 ?_
    refine ri_X.bT rfl rfl rfl ?_
    generalize mdT M 0 = N
    repeat refine ri_X.sh 27 rfl rfl rfl rfl ?_
    have l : ∀ o, ri_X sl sx 91 (27, [some (.ref 10), some (.int (nI u)), some (.int (rb_i a)), some (.int (md_msk (fun i => md_ro N a u i) 10)), some (.int (nI 10))], [], rd_W C (md_W N r)) o → ri_X sl sx 91 (27, [some (.ref 10), some (.int (nI u)), some (.int (rb_i a)), some (.int 0), some (.int (nI 0))], [], rd_W C (md_W N r)) o := by
      intro o k
      refine ri_loop (fun i b => (27, [some (.ref 10), some (.int (nI u)), some (.int (rb_i a)), some (.int b), some (.int (nI i))], [], rd_W C (md_W N r))) (fun i b => cond (md_ro N a u i) (b + rb_b i) b) 10 ?_ (a := 0) k
      clear k
      intro i b o hi k
      unfold md_ro at k
      have hh := rn_auth (sl := sl) (sx := sx) (r := r) (C := C) (M := N) hu hi
      generalize md_au N u i = ha at hh k
      repeat refine ri_X.s rfl rfl rfl ?_
      refine ri_X.bF rfl rfl (rx_ge (N := 10) (hi) rfl) ?_
      repeat refine ri_X.s rfl rfl rfl ?_
      refine ri_X.ifz rfl rfl (fun h => ?_) (fun h => ?_)
      · repeat refine ri_X.s rfl rfl rfl ?_
        refine ri_X.zldx (nJ_m10 u i) rfl rfl (by omega) rfl ?_
        refine ri_X.ifz rfl rfl (fun h2 => ?_) (fun h2 => ?_)
        · repeat refine ri_X.sh 27 rfl rfl rfl rfl ?_
          exact ri_X.eq (by simp only [h, h2, nI_succ, cond_false]; try rfl) k
        · repeat refine ri_X.sh 27 rfl rfl rfl rfl ?_
          exact ri_X.eq (by simp only [h, h2, nI_succ, cond_false, cond_true]; try rfl) k
      · repeat refine ri_X.s rfl rfl rfl ?_
        refine ri_X.call0 rfl rfl rfl rfl rfl (hh) ?_
        refine ri_X.ifz rfl rfl (fun h2 => ?_) (fun h2 => ?_)
        · repeat refine ri_X.sh 27 rfl rfl rfl rfl ?_
          exact ri_X.eq (by simp only [h, h2, nI_succ, cond_false, cond_true]; try rfl) k
        · repeat refine ri_X.sh 27 rfl rfl rfl rfl ?_
          exact ri_X.eq (by simp only [h, h2, nI_succ, cond_true]; try rfl) k
    refine l _ ?_
    generalize md_msk (fun i => md_ro N a u i) 10 = b
    repeat refine ri_X.s rfl rfl rfl ?_
    refine ri_X.bT rfl rfl (rx_geN (N := 10)) ?_
    repeat refine ri_X.s rfl rfl rfl ?_
    exact ri_X.fin rfl rfl
  · rw [h1]
    repeat refine ri_X.s rfl rfl rfl ?_
    refine ri_X.call0 rfl rfl rfl rfl rfl rn_ref1 ?_
    refine ri_X.bF rfl rfl rfl ?_
    repeat refine ri_X.s rfl rfl rfl ?_
    exact ri_X.fin rfl rfl
theorem rn_usersOf (x : Int32) (a : Bool) : ri_M sl sx 92 [.ref 10, .int x, .int (rb_i a)] (rd_W C (md_W M r)) (md_oc r C (md_usersOf M x a x.toNatClampNeg)) := by
  unfold ri_M md_usersOf
  repeat refine ri_X.s rfl rfl rfl ?_
  refine ri_X.call0 rfl rfl rfl rfl rfl (rn_noRole x) ?_
  refine ri_X.ifz rfl rfl (fun h1 => ?_) (fun h1 => ?_)
  · rw [h1]
    obtain ⟨u, hu, rfl⟩ := md_nrk h1
    rw [rx16 (by omega)]
    simp only [cond_false]
    repeat refine ri_X.s rfl rfl rfl ?_
    refine ri_X.call0 rfl rfl rfl rfl rfl rn_ref0 ?_
    refine ri_X.bT rfl rfl rfl ?_
    generalize mdT M 0 = N
    repeat refine ri_X.sh 27 rfl rfl rfl rfl ?_
    have l : ∀ o, ri_X sl sx 92 (27, [some (.ref 10), some (.int (nI u)), some (.int (rb_i a)), some (.int (md_msk (fun i => md_ro N a i u) 6)), some (.int (nI 6))], [], rd_W C (md_W N r)) o → ri_X sl sx 92 (27, [some (.ref 10), some (.int (nI u)), some (.int (rb_i a)), some (.int 0), some (.int (nI 0))], [], rd_W C (md_W N r)) o := by
      intro o k
      refine ri_loop (fun i b => (27, [some (.ref 10), some (.int (nI u)), some (.int (rb_i a)), some (.int b), some (.int (nI i))], [], rd_W C (md_W N r))) (fun i b => cond (md_ro N a i u) (b + rb_b i) b) 6 ?_ (a := 0) k
      clear k
      intro i b o hi k
      unfold md_ro at k
      have hh := rn_auth (sl := sl) (sx := sx) (r := r) (C := C) (M := N) hi hu
      generalize md_au N i u = ha at hh k
      repeat refine ri_X.s rfl rfl rfl ?_
      refine ri_X.bF rfl rfl (rx_ge (N := 6) (hi) rfl) ?_
      repeat refine ri_X.s rfl rfl rfl ?_
      refine ri_X.ifz rfl rfl (fun h => ?_) (fun h => ?_)
      · repeat refine ri_X.s rfl rfl rfl ?_
        refine ri_X.zldx (nJ_m10 i u) rfl rfl (by omega) rfl ?_
        refine ri_X.ifz rfl rfl (fun h2 => ?_) (fun h2 => ?_)
        · repeat refine ri_X.sh 27 rfl rfl rfl rfl ?_
          exact ri_X.eq (by simp only [h, h2, nI_succ, cond_false]; try rfl) k
        · repeat refine ri_X.sh 27 rfl rfl rfl rfl ?_
          exact ri_X.eq (by simp only [h, h2, nI_succ, cond_false, cond_true]; try rfl) k
      · repeat refine ri_X.s rfl rfl rfl ?_
        refine ri_X.call0 rfl rfl rfl rfl rfl (hh) ?_
        refine ri_X.ifz rfl rfl (fun h2 => ?_) (fun h2 => ?_)
        · repeat refine ri_X.sh 27 rfl rfl rfl rfl ?_
          exact ri_X.eq (by simp only [h, h2, nI_succ, cond_false, cond_true]; try rfl) k
        · repeat refine ri_X.sh 27 rfl rfl rfl rfl ?_
          exact ri_X.eq (by simp only [h, h2, nI_succ, cond_true]; try rfl) k
    refine l _ ?_
    generalize md_msk (fun i => md_ro N a i u) 6 = b
    repeat refine ri_X.s rfl rfl rfl ?_
    refine ri_X.bT rfl rfl (rx_geN (N := 6)) ?_
    repeat refine ri_X.s rfl rfl rfl ?_
    exact ri_X.fin rfl rfl
  · rw [h1]
    repeat refine ri_X.s rfl rfl rfl ?_
    refine ri_X.call0 rfl rfl rfl rfl rfl rn_ref1 ?_
    refine ri_X.bF rfl rfl rfl ?_
    repeat refine ri_X.s rfl rfl rfl ?_
    exact ri_X.fin rfl rfl
theorem rn_permissions (x : Int32) (a : Bool) : ri_M sl sx 93 [.ref 10, .int x, .int (rb_i a)] (rd_W C (md_W M r)) (md_oc r C (md_permissions M x a x.toNatClampNeg)) := by
  unfold ri_M md_permissions
  repeat refine ri_X.s rfl rfl rfl ?_
  refine ri_X.call0 rfl rfl rfl rfl rfl (rn_noRole x) ?_
  refine ri_X.ifz rfl rfl (fun h1 => ?_) (fun h1 => ?_)
  · rw [h1]
    obtain ⟨u, hu, rfl⟩ := md_nrk h1
    rw [rx16 (by omega)]
    simp only [cond_false]
    repeat refine ri_X.s rfl rfl rfl ?_
    refine ri_X.call0 rfl rfl rfl rfl rfl rn_ref0 ?_
    refine ri_X.bT rfl rfl rfl ?_
    generalize mdT M 0 = N
    repeat refine ri_X.sh 27 rfl rfl rfl rfl ?_
    have l : ∀ o, ri_X sl sx 93 (27, [some (.ref 10), some (.int (nI u)), some (.int (rb_i a)), some (.int (md_msk (fun i => md_pe N a u i) 16)), some (.int (nI 16))], [], rd_W C (md_W N r)) o → ri_X sl sx 93 (27, [some (.ref 10), some (.int (nI u)), some (.int (rb_i a)), some (.int 0), some (.int (nI 0))], [], rd_W C (md_W N r)) o := by
      intro o k
      refine ri_loop (fun i b => (27, [some (.ref 10), some (.int (nI u)), some (.int (rb_i a)), some (.int b), some (.int (nI i))], [], rd_W C (md_W N r))) (fun i b => cond (md_pe N a u i) (b + rb_b i) b) 16 ?_ (a := 0) k
      clear k
      intro i b o hi k
      unfold md_pe at k
      have hh := rn_has (sl := sl) (sx := sx) (r := r) (C := C) (M := N) hu hi
      generalize md_ha N u i = ha at hh k
      repeat refine ri_X.s rfl rfl rfl ?_
      refine ri_X.bF rfl rfl (rx_ge (N := 16) (hi) rfl) ?_
      repeat refine ri_X.s rfl rfl rfl ?_
      refine ri_X.ifz rfl rfl (fun h => ?_) (fun h => ?_)
      · repeat refine ri_X.s rfl rfl rfl ?_
        refine ri_X.zldx (nJ_m16 u i) rfl rfl (by omega) rfl ?_
        refine ri_X.ifz rfl rfl (fun h2 => ?_) (fun h2 => ?_)
        · repeat refine ri_X.sh 27 rfl rfl rfl rfl ?_
          exact ri_X.eq (by simp only [h, h2, nI_succ, cond_false]; try rfl) k
        · repeat refine ri_X.sh 27 rfl rfl rfl rfl ?_
          exact ri_X.eq (by simp only [h, h2, nI_succ, cond_false, cond_true]; try rfl) k
      · repeat refine ri_X.s rfl rfl rfl ?_
        refine ri_X.call0 rfl rfl rfl rfl rfl (hh) ?_
        refine ri_X.ifz rfl rfl (fun h2 => ?_) (fun h2 => ?_)
        · repeat refine ri_X.sh 27 rfl rfl rfl rfl ?_
          exact ri_X.eq (by simp only [h, h2, nI_succ, cond_false, cond_true]; try rfl) k
        · repeat refine ri_X.sh 27 rfl rfl rfl rfl ?_
          exact ri_X.eq (by simp only [h, h2, nI_succ, cond_true]; try rfl) k
    refine l _ ?_
    generalize md_msk (fun i => md_pe N a u i) 16 = b
    repeat refine ri_X.s rfl rfl rfl ?_
    refine ri_X.bT rfl rfl (rx_geN (N := 16)) ?_
    repeat refine ri_X.s rfl rfl rfl ?_
    exact ri_X.fin rfl rfl
  · rw [h1]
    repeat refine ri_X.s rfl rfl rfl ?_
    refine ri_X.call0 rfl rfl rfl rfl rfl rn_ref1 ?_
    refine ri_X.bF rfl rfl rfl ?_
    repeat refine ri_X.s rfl rfl rfl ?_
    exact ri_X.fin rfl rfl
theorem rn_juniors (x : Int32) : ri_M sl sx 94 [.ref 10, .int x] (rd_W C (md_W M r)) (md_oc r C (md_juniors M x x.toNatClampNeg)) := by
  unfold ri_M md_juniors
  repeat refine ri_X.s rfl rfl rfl ?_
  refine ri_X.call0 rfl rfl rfl rfl rfl (rn_noRole x) ?_
  refine ri_X.ifz rfl rfl (fun h1 => ?_) (fun h1 => ?_)
  · rw [h1]
    obtain ⟨u, hu, rfl⟩ := md_nrk h1
    rw [rx16 (by omega)]
    simp only [cond_false]
    repeat refine ri_X.s rfl rfl rfl ?_
    refine ri_X.call0 rfl rfl rfl rfl rfl rn_ref0 ?_
    refine ri_X.bT rfl rfl rfl ?_
    generalize mdT M 0 = N
    repeat refine ri_X.sh 26 rfl rfl rfl rfl ?_
    have l : ∀ o, ri_X sl sx 94 (26, [some (.ref 10), some (.int (nI u)), some (.int (md_msk (fun i => mds N (10 * u + i)) 10)), some (.int (nI 10))], [], rd_W C (md_W N r)) o → ri_X sl sx 94 (26, [some (.ref 10), some (.int (nI u)), some (.int 0), some (.int (nI 0))], [], rd_W C (md_W N r)) o := by
      intro o k
      refine ri_loop (fun i b => (26, [some (.ref 10), some (.int (nI u)), some (.int b), some (.int (nI i))], [], rd_W C (md_W N r))) (fun i b => cond (mds N (10 * u + i)) (b + rb_b i) b) 10 ?_ (a := 0) k
      clear k
      intro i b o hi k
      repeat refine ri_X.s rfl rfl rfl ?_
      refine ri_X.bF rfl rfl (rx_ge (N := 10) (hi) rfl) ?_
      repeat refine ri_X.s rfl rfl rfl ?_
      refine ri_X.zldx (nJ_m10 u i) rfl rfl (by omega) rfl ?_
      refine ri_X.ifz rfl rfl (fun h2 => ?_) (fun h2 => ?_)
      · repeat refine ri_X.sh 26 rfl rfl rfl rfl ?_
        exact ri_X.eq (by simp only [h2, nI_succ, cond_false]; try rfl) k
      · repeat refine ri_X.sh 26 rfl rfl rfl rfl ?_
        exact ri_X.eq (by simp only [h2, nI_succ, cond_true]; try rfl) k
    refine l _ ?_
    generalize md_msk (fun i => mds N (10 * u + i)) 10 = b
    repeat refine ri_X.s rfl rfl rfl ?_
    refine ri_X.bT rfl rfl (rx_geN (N := 10)) ?_
    repeat refine ri_X.s rfl rfl rfl ?_
    exact ri_X.fin rfl rfl
  · rw [h1]
    repeat refine ri_X.s rfl rfl rfl ?_
    refine ri_X.call0 rfl rfl rfl rfl rfl rn_ref1 ?_
    refine ri_X.bF rfl rfl rfl ?_
    repeat refine ri_X.s rfl rfl rfl ?_
    exact ri_X.fin rfl rfl
theorem rn_active (x : Int32) : ri_M sl sx 95 [.ref 10, .int x] (rd_W C (md_W M r)) (md_oc r C (md_active M x x.toNatClampNeg)) := by
  unfold ri_M md_active
  repeat refine ri_X.s rfl rfl rfl ?_
  refine ri_X.call0 rfl rfl rfl rfl rfl (rn_noSession x) ?_
  refine ri_X.ifz rfl rfl (fun h1 => ?_) (fun h1 => ?_)
  · rw [h1]
    obtain ⟨u, hu, rfl⟩ := md_nsk h1
    rw [rx16 (by omega)]
    simp only [cond_false]
    repeat refine ri_X.s rfl rfl rfl ?_
    refine ri_X.call0 rfl rfl rfl rfl rfl rn_ref0 ?_
    refine ri_X.bT rfl rfl rfl ?_
    generalize mdT M 0 = N
    repeat refine ri_X.sh 26 rfl rfl rfl rfl ?_
    have l : ∀ o, ri_X sl sx 95 (26, [some (.ref 10), some (.int (nI u)), some (.int (md_msk (fun i => mdv N (10 * u + i)) 10)), some (.int (nI 10))], [], rd_W C (md_W N r)) o → ri_X sl sx 95 (26, [some (.ref 10), some (.int (nI u)), some (.int 0), some (.int (nI 0))], [], rd_W C (md_W N r)) o := by
      intro o k
      refine ri_loop (fun i b => (26, [some (.ref 10), some (.int (nI u)), some (.int b), some (.int (nI i))], [], rd_W C (md_W N r))) (fun i b => cond (mdv N (10 * u + i)) (b + rb_b i) b) 10 ?_ (a := 0) k
      clear k
      intro i b o hi k
      repeat refine ri_X.s rfl rfl rfl ?_
      refine ri_X.bF rfl rfl (rx_ge (N := 10) (hi) rfl) ?_
      repeat refine ri_X.s rfl rfl rfl ?_
      refine ri_X.zldx (nJ_m10 u i) rfl rfl (by omega) rfl ?_
      refine ri_X.ifz rfl rfl (fun h2 => ?_) (fun h2 => ?_)
      · repeat refine ri_X.sh 26 rfl rfl rfl rfl ?_
        exact ri_X.eq (by simp only [h2, nI_succ, cond_false]; try rfl) k
      · repeat refine ri_X.sh 26 rfl rfl rfl rfl ?_
        exact ri_X.eq (by simp only [h2, nI_succ, cond_true]; try rfl) k
    refine l _ ?_
    generalize md_msk (fun i => mdv N (10 * u + i)) 10 = b
    repeat refine ri_X.s rfl rfl rfl ?_
    refine ri_X.bT rfl rfl (rx_geN (N := 10)) ?_
    repeat refine ri_X.s rfl rfl rfl ?_
    exact ri_X.fin rfl rfl
  · rw [h1]
    repeat refine ri_X.s rfl rfl rfl ?_
    refine ri_X.call0 rfl rfl rfl rfl rfl rn_ref1 ?_
    refine ri_X.bF rfl rfl rfl ?_
    repeat refine ri_X.s rfl rfl rfl ?_
    exact ri_X.fin rfl rfl
theorem rn_sessionsOf (x : Int32) : ri_M sl sx 96 [.ref 10, .int x] (rd_W C (md_W M r)) (md_oc r C (md_sessionsOf M x)) := by
  unfold ri_M md_sessionsOf
  repeat refine ri_X.s rfl rfl rfl ?_
  refine ri_X.call0 rfl rfl rfl rfl rfl (rn_noUser x) ?_
  refine ri_X.ifz rfl rfl (fun h1 => ?_) (fun h1 => ?_)
  · rw [h1]
    simp only [cond_false]
    repeat refine ri_X.s rfl rfl rfl ?_
    refine ri_X.call0 rfl rfl rfl rfl rfl rn_ref0 ?_
    refine ri_X.bT rfl rfl rfl ?_
    generalize mdT M 0 = N
    repeat refine ri_X.sh 26 rfl rfl rfl rfl ?_
    have l : ∀ o, ri_X sl sx 96 (26, [some (.ref 10), some (.int x), some (.int (md_msk (fun i => decide (mdo N i = x)) 6)), some (.int (nI 6))], [], rd_W C (md_W N r)) o → ri_X sl sx 96 (26, [some (.ref 10), some (.int x), some (.int 0), some (.int (nI 0))], [], rd_W C (md_W N r)) o := by
      intro o k
      refine ri_loop (fun i b => (26, [some (.ref 10), some (.int x), some (.int b), some (.int (nI i))], [], rd_W C (md_W N r))) (fun i b => cond (decide (mdo N i = x)) (b + rb_b i) b) 6 ?_ (a := 0) k
      clear k
      intro i b o hi k
      repeat refine ri_X.s rfl rfl rfl ?_
      refine ri_X.bF rfl rfl (rx_ge (N := 6) (hi) rfl) ?_
      repeat refine ri_X.s rfl rfl rfl ?_
      refine ri_X.ald (f := mdo N) rfl rfl hi rfl ?_
      repeat refine ri_X.s rfl rfl rfl ?_
      refine ri_X.cne (x := mdo N i) (y := x) rfl rfl (fun h2 => ?_) (fun h2 => ?_)
      · repeat refine ri_X.sh 26 rfl rfl rfl rfl ?_
        exact ri_X.eq (by simp only [h2, nI_succ, cond_false]; try rfl) k
      · repeat refine ri_X.sh 26 rfl rfl rfl rfl ?_
        exact ri_X.eq (by simp only [h2, nI_succ, cond_true]; try rfl) k
    refine l _ ?_
    generalize md_msk (fun i => decide (mdo N i = x)) 6 = b
    repeat refine ri_X.s rfl rfl rfl ?_
    refine ri_X.bT rfl rfl (rx_geN (N := 6)) ?_
    repeat refine ri_X.s rfl rfl rfl ?_
    exact ri_X.fin rfl rfl
  · rw [h1]
    repeat refine ri_X.s rfl rfl rfl ?_
    refine ri_X.call0 rfl rfl rfl rfl rfl rn_ref1 ?_
    refine ri_X.bF rfl rfl rfl ?_
    repeat refine ri_X.s rfl rfl rfl ?_
    exact ri_X.fin rfl rfl
theorem rn_thereM (x : Int32) : ri_M sl sx 97 [.ref 10, .int x] (rd_W C (md_W M r)) (md_oc r C (md_there M x)) := by
  unfold ri_M md_there
  repeat refine ri_X.sh 9 rfl rfl rfl rfl ?_
  rw [md_WT]
  have e0 : mdT M (ri_ic 0) = mdT M 0 := rfl
  rw [e0]
  clear e0
  generalize mdT M 0 = N
  have e : ∀ n, (ri_fo (fun i (q : Int32 × Option Value) => (cond (md_ti N x i) (q.1 + rb_b i) q.1, some (Value.int (rb_i (md_ti N x i))))) n (0, none)).1 = md_msk (fun i => md_ti N x i) n := by
    intro n
    induction n with
    | zero => rfl
    | succ n ih =>
      show cond _ ((ri_fo _ n (0, none)).1 + _) (ri_fo _ n (0, none)).1 = cond (md_ti N x n) (md_msk _ n + rb_b n) (md_msk _ n)
      rw [ih]
  refine ri_loop (fun i (q : Int32 × Option Value) => (9, [some (.ref 10), some (.int x), some (.int q.1), some (.int (nI i)), q.2], [], rd_W C (md_W N r))) (fun i (q : Int32 × Option Value) => (cond (md_ti N x i) (q.1 + rb_b i) q.1, some (Value.int (rb_i (md_ti N x i))))) 10 ?_ (a := (0, none)) ?_
  · clear e
    intro i q o hi k
    obtain ⟨b, v4⟩ := q
    dsimp only at k ⊢
    have rest : ri_X sl sx 97 (116, [some (.ref 10), some (.int x), some (.int b), some (.int (nI i)), v4], [.int (rb_i (md_ti N x i))], rd_W C (md_W N r)) o := by
      generalize md_ti N x i = ti at k ⊢
      repeat refine ri_X.s rfl rfl rfl ?_
      refine ri_X.ifz rfl rfl (fun h => ?_) (fun h => ?_)
      · rw [h] at k
        repeat refine ri_X.sh 9 rfl rfl rfl rfl ?_
        exact ri_X.eq (by simp only [h, nI_succ, cond_false]; try rfl) k
      · rw [h] at k
        repeat refine ri_X.sh 9 rfl rfl rfl rfl ?_
        exact ri_X.eq (by simp only [h, nI_succ, cond_true]; try rfl) k
    clear k
    unfold md_ti at rest
    repeat refine ri_X.s rfl rfl rfl ?_
    refine ri_X.bF rfl rfl (rx_ge (N := 10) (hi) rfl) ?_
    repeat refine ri_X.s rfl rfl rfl ?_
    refine ri_X.br (b := decide (¬ x = 0)) rfl rfl (fun h0 => ?_) (fun h0 => ?_)
    · rw [show decide (x = 0) = false by simpa using h0] at rest
      simp only [cond_false] at rest
      repeat refine ri_X.s rfl rfl rfl ?_
      refine ri_X.cne (x := x) (y := 1) rfl rfl (fun h1 => ?_) (fun h1 => ?_)
      · rw [h1] at rest
        simp only [cond_false] at rest
        repeat refine ri_X.s rfl rfl rfl ?_
        refine ri_X.cne (x := x) (y := 2) rfl rfl (fun h2 => ?_) (fun h2 => ?_)
        · rw [h2] at rest
          simp only [cond_false] at rest
          have t94 : (decide (x = 3) || decide (x = 4)) = true → ri_X sl sx 97 (94, [some (.ref 10), some (.int x), some (.int b), some (.int (nI i)), v4], [], rd_W C (md_W N r)) o := by
            intro h34
            rw [h34] at rest
            simp only [Bool.true_and] at rest
            repeat refine ri_X.s rfl rfl rfl ?_
            by_cases hi6 : i < 4
            · rw [decide_eq_true hi6] at rest
              simp only [Bool.true_and] at rest
              refine ri_X.bF rfl rfl (rx_ge (N := 4) (hi6) rfl) ?_
              repeat refine ri_X.s rfl rfl rfl ?_
              refine ri_X.ald (f := mdk N) rfl rfl hi6 rfl ?_
              repeat refine ri_X.s rfl rfl rfl ?_
              refine ri_X.cne (x := mdk N i) (y := x - 3) rfl rfl (fun h3 => ?_) (fun h3 => ?_)
              · rw [h3] at rest
                repeat refine ri_X.sh 116 rfl rfl rfl rfl ?_
                exact rest
              · rw [h3] at rest
                repeat refine ri_X.sh 116 rfl rfl rfl rfl ?_
                exact rest
            · rw [decide_eq_false hi6] at rest
              simp only [Bool.false_and] at rest
              refine ri_X.bT rfl rfl (rx_geT (N := 4) (by omega) (by omega)) ?_
              repeat refine ri_X.sh 116 rfl rfl rfl rfl ?_
              exact rest
          repeat refine ri_X.s rfl rfl rfl ?_
          refine ri_X.br (b := decide (x = 3)) rfl rfl (fun h3 => ?_) (fun h3 => ?_)
          · exact t94 (by rw [h3]; rfl)
          · repeat refine ri_X.s rfl rfl rfl ?_
            refine ri_X.cne (x := x) (y := 4) rfl rfl (fun h4 => ?_) (fun h4 => ?_)
            · rw [h3, h4] at rest
              simp only [Bool.or_false, Bool.false_and] at rest
              repeat refine ri_X.sh 116 rfl rfl rfl rfl ?_
              exact rest
            · exact t94 (by rw [h4, Bool.or_true])
        · rw [h2] at rest
          simp only [cond_true] at rest
          repeat refine ri_X.s rfl rfl rfl ?_
          by_cases hi6 : i < 6
          · rw [decide_eq_true hi6] at rest
            simp only [Bool.true_and] at rest
            refine ri_X.bF rfl rfl (rx_ge (N := 6) (hi6) rfl) ?_
            repeat refine ri_X.s rfl rfl rfl ?_
            refine ri_X.ald (f := mdo N) rfl rfl hi6 rfl ?_
            refine ri_X.br (b := decide (mdo N i < 0)) rfl rfl (fun h3 => ?_) (fun h3 => ?_)
            · rw [h3] at rest
              repeat refine ri_X.sh 116 rfl rfl rfl rfl ?_
              exact rest
            · rw [h3] at rest
              repeat refine ri_X.sh 116 rfl rfl rfl rfl ?_
              exact rest
          · rw [decide_eq_false hi6] at rest
            simp only [Bool.false_and] at rest
            refine ri_X.bT rfl rfl (rx_geT (N := 6) (by omega) (by omega)) ?_
            repeat refine ri_X.sh 116 rfl rfl rfl rfl ?_
            exact rest
      · rw [h1] at rest
        simp only [cond_true] at rest
        repeat refine ri_X.s rfl rfl rfl ?_
        refine ri_X.zld (B := mdr N) rfl rfl hi rfl ?_
        repeat refine ri_X.sh 116 rfl rfl rfl rfl ?_
        exact rest
    · rw [show decide (x = 0) = true by simpa using h0] at rest
      simp only [cond_true] at rest
      repeat refine ri_X.s rfl rfl rfl ?_
      by_cases hi6 : i < 6
      · rw [decide_eq_true hi6] at rest
        simp only [Bool.true_and] at rest
        refine ri_X.bF rfl rfl (rx_ge (N := 6) (hi6) rfl) ?_
        repeat refine ri_X.s rfl rfl rfl ?_
        refine ri_X.zld (B := mdu N) rfl rfl hi6 rfl ?_
        refine ri_X.ifz rfl rfl (fun h3 => ?_) (fun h3 => ?_)
        · rw [h3] at rest
          repeat refine ri_X.sh 116 rfl rfl rfl rfl ?_
          exact rest
        · rw [h3] at rest
          repeat refine ri_X.sh 116 rfl rfl rfl rfl ?_
          exact rest
      · rw [decide_eq_false hi6] at rest
        simp only [Bool.false_and] at rest
        refine ri_X.bT rfl rfl (rx_geT (N := 6) (by omega) (by omega)) ?_
        repeat refine ri_X.sh 116 rfl rfl rfl rfl ?_
        exact rest
  · have e6 := e 10
    generalize ri_fo (fun i (q : Int32 × Option Value) => (cond (md_ti N x i) (q.1 + rb_b i) q.1, some (Value.int (rb_i (md_ti N x i))))) 10 (0, none) = q at e6
    rw [← e6]
    repeat refine ri_X.s rfl rfl rfl ?_
    refine ri_X.bT rfl rfl (rx_geN (N := 10)) ?_
    repeat refine ri_X.s rfl rfl rfl ?_
    exact ri_X.fin rfl rfl
end M48
