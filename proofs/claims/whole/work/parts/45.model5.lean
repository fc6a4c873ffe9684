/-! inherit -/
def md_ih2 (N : md_S) (k : Nat) : md_S := md_ord (mdI (mdT N 2) (rb_u (mdi N) k false))
def md_ih3 (N : md_S) (u v : Nat) : Int32 × md_S := cond (md_ab N) (0, md_ih2 N (10 * u + v)) (md_cnt (fun j => mdi N (10 * u + j)) 10, mdT N 0)
def md_ihp (M : md_S) (u : Nat) : Bool := decide (md_cnt (fun j => mdi M (10 * u + j)) 10 ≤ 0)
def md_inherit (M : md_S) (x y : Int32) (u v : Nat) : Int32 × md_S :=
  cond (md_nr M x || md_nr M y) (0, mdT M 1) (cond (mdi M (10 * u + v) || (mds M (10 * v + u) || (mdl M && !(md_ihp M u)))) (0, mdT M 2) (md_ih3 (md_ih1 M (10 * u + v)) u v))
section M45
variable {sl : Nat} {sx : Nat → Int32} {r : ri_W} {C : rd_S} {M N : md_S} {w : ri_W} {ow : Nat → Nat}
theorem rn_inhA {u v : Nat} (hu : u < 10) (hv : v < 10) : ri_X sl sx 75 (112, [some (.ref 10), some (.int (nI u)), some (.int (nI v))], [], rd_W C (md_W (mdT N 2) r)) (md_oc r C (0, md_ih2 N (10 * u + v))) := by
  repeat refine ri_X.s rfl rfl rfl ?_
  refine ri_X.zstx (B := mdi N) false (nJ_m10 u v) rfl rfl rfl (by omega) rfl ?_
  rw [md_WI]
  repeat refine ri_X.s rfl rfl rfl ?_
  refine ri_X.call0 rfl rfl rfl rfl rfl (rn_order) ?_
  have e : md_ord (mdI (mdT N 2) (rb_u (mdi N) (10 * u + v) false)) = md_ih2 N (10 * u + v) := rfl
  rw [e]
  generalize md_ih2 N (10 * u + v) = Z
  repeat refine ri_X.s rfl rfl rfl ?_
  exact ri_X.fin rfl rfl
theorem rn_inhB {u v : Nat} (hu : u < 10) (hv : v < 10) : ri_X sl sx 75 (93, [some (.ref 10), some (.int (nI u)), some (.int (nI v))], [], rd_W C (md_W N r)) (md_oc r C (md_ih3 N u v)) := by
  unfold md_ih3
  repeat refine ri_X.s rfl rfl rfl ?_
  refine ri_X.call0 rfl rfl rfl rfl rfl (rn_anyBroken) ?_
  generalize md_ab N = bb
  refine ri_X.ifz rfl rfl (fun h5 => ?_) (fun h5 => ?_)
  · rw [h5]
    simp only [cond_false]
    repeat refine ri_X.s rfl rfl rfl ?_
    refine ri_X.call0 rfl rfl rfl rfl rfl rn_ref0 ?_
    refine ri_X.bT rfl rfl rfl ?_
    repeat refine ri_X.s rfl rfl rfl ?_
    refine ri_X.call0 rfl rfl rfl rfl rfl (rn_parents hu) ?_
    exact ri_X.fin rfl rfl
  · rw [h5]
    simp only [cond_true]
    repeat refine ri_X.s rfl rfl rfl ?_
    refine ri_X.call0 rfl rfl rfl rfl rfl rn_ref2 ?_
    refine ri_X.bF rfl rfl rfl ?_
    exact rn_inhA hu hv
theorem rn_inhC {u v : Nat} (hu : u < 10) (hv : v < 10) : ri_X sl sx 75 (68, [some (.ref 10), some (.int (nI u)), some (.int (nI v))], [.ref 10], rd_W C (md_W M r)) (md_oc r C (md_ih3 (md_ih1 M (10 * u + v)) u v)) := by
  repeat refine ri_X.s rfl rfl rfl ?_
  refine ri_X.call0 rfl rfl rfl rfl rfl rn_ref0 ?_
  refine ri_X.bT rfl rfl rfl ?_
  repeat refine ri_X.s rfl rfl rfl ?_
  refine ri_X.zstx (B := mdi M) true (nJ_m10 u v) rfl rfl rfl (by omega) rfl ?_
  rw [md_WI]
  repeat refine ri_X.s rfl rfl rfl ?_
  refine ri_X.call0 rfl rfl rfl rfl rfl (rn_order) ?_
  have e : md_ord (mdI (mdT M 0) (rb_u (mdi M) (10 * u + v) true)) = md_ih1 M (10 * u + v) := rfl
  rw [e]
  exact rn_inhB hu hv
theorem rn_inherit (x y : Int32) : ri_M sl sx 75 [.ref 10, .int x, .int y] (rd_W C (md_W M r)) (md_oc r C (md_inherit M x y x.toNatClampNeg y.toNatClampNeg)) := by
  unfold ri_M md_inherit
  repeat refine ri_X.s rfl rfl rfl ?_
  refine ri_X.call0 rfl rfl rfl rfl rfl (rn_noRole x) ?_
  refine ri_X.ifn rfl rfl (fun h1 => ?_) (fun h1 => ?_)
  · rw [h1]
    repeat refine ri_X.s rfl rfl rfl ?_
    refine ri_X.call0 rfl rfl rfl rfl rfl rn_ref1 ?_
    refine ri_X.bF rfl rfl rfl ?_
    repeat refine ri_X.s rfl rfl rfl ?_
    exact ri_X.fin rfl rfl
  · rw [h1]
    obtain ⟨u, hu, rfl⟩ := md_nrk h1
    repeat refine ri_X.s rfl rfl rfl ?_
    refine ri_X.call0 rfl rfl rfl rfl rfl (rn_noRole y) ?_
    refine ri_X.ifz rfl rfl (fun h2 => ?_) (fun h2 => ?_)
    · rw [h2]
      obtain ⟨v, hv, rfl⟩ := md_nrk h2
      rw [rx16 (by omega), rx16 (by omega)]
      simp only [Bool.or_false, cond_false]
      have tail := rn_inhC (sl := sl) (sx := sx) (r := r) (C := C) (M := M) hu hv
      generalize md_ih3 (md_ih1 M (10 * u + v)) u v = T at tail ⊢
      have hpe : decide (md_cnt (fun j => mdi M (10 * u + j)) 10 ≤ 0) = md_ihp M u := rfl
      generalize md_ihp M u = bb at hpe ⊢
      repeat refine ri_X.s rfl rfl rfl ?_
      refine ri_X.zldx (B := mdi M) (nJ_m10 u v) rfl rfl (by omega) rfl ?_
      refine ri_X.ifn rfl rfl (fun h3 => ?_) (fun h3 => ?_)
      · rw [h3]
        repeat refine ri_X.s rfl rfl rfl ?_
        refine ri_X.call0 rfl rfl rfl rfl rfl rn_ref2 ?_
        refine ri_X.bF rfl rfl rfl ?_
        repeat refine ri_X.s rfl rfl rfl ?_
        exact ri_X.fin rfl rfl
      · rw [h3]
        repeat refine ri_X.s rfl rfl rfl ?_
        refine ri_X.zldx (B := mds M) (nJ_m10 v u) rfl rfl (by omega) rfl ?_
        refine ri_X.ifn rfl rfl (fun h4 => ?_) (fun h4 => ?_)
        · rw [h4]
          repeat refine ri_X.s rfl rfl rfl ?_
          refine ri_X.call0 rfl rfl rfl rfl rfl rn_ref2 ?_
          refine ri_X.bF rfl rfl rfl ?_
          repeat refine ri_X.s rfl rfl rfl ?_
          exact ri_X.fin rfl rfl
        · rw [h4]
          repeat refine ri_X.s rfl rfl rfl ?_
          refine ri_X.ifz rfl rfl (fun h5 => ?_) (fun h5 => ?_)
          · rw [h5]
            simp only [Bool.false_or, Bool.or_false, Bool.false_and, cond_false]
            exact tail
          · rw [h5]
            repeat refine ri_X.s rfl rfl rfl ?_
            refine ri_X.call0 rfl rfl rfl rfl rfl (rn_parents hu) ?_
            generalize md_cnt (fun j => mdi M (10 * u + j)) 10 = n at hpe ⊢
            subst hpe
            refine ri_X.br (b := decide (n ≤ 0)) rfl rfl (fun h6 => ?_) (fun h6 => ?_)
            · rw [h6]
              simp only [Bool.false_or, Bool.or_false, Bool.true_and, Bool.not_true, cond_false]
              exact tail
            · rw [h6]
              repeat refine ri_X.s rfl rfl rfl ?_
              refine ri_X.call0 rfl rfl rfl rfl rfl rn_ref2 ?_
              refine ri_X.bF rfl rfl rfl ?_
              repeat refine ri_X.s rfl rfl rfl ?_
              exact ri_X.fin rfl rfl
    · rw [h2]
      repeat refine ri_X.s rfl rfl rfl ?_
      refine ri_X.call0 rfl rfl rfl rfl rfl rn_ref1 ?_
      refine ri_X.bF rfl rfl rfl ?_
      repeat refine ri_X.s rfl rfl rfl ?_
      exact ri_X.fin rfl rfl
end M45
