/-! The reference's public methods, as pure runs -/
def md_oc (r : ri_W) (C : rd_S) (q : Int32 × md_S) : ri_O := (.inl (some q.1), rd_W C (md_W q.2 r), 0, 0)
def md_fu (M : md_S) : Nat := ri_fst (fun i => !(mdu M i)) 6
def md_fr (M : md_S) : Nat := ri_fst (fun i => !(mdr M i)) 10
def md_addUser (M : md_S) : Int32 × md_S := cond (decide (md_fu M = 6)) (0, mdT M 1) (nI (md_fu M), mdU (mdT M 0) (rb_u (mdu M) (md_fu M) true))
def md_addRole (M : md_S) : Int32 × md_S := cond (decide (md_fr M = 10)) (0, mdT M 1) (nI (md_fr M), mdR (mdT M 0) (rb_u (mdr M) (md_fr M) true))
def md_as1 (M : md_S) (k : Nat) : md_S := mdA (mdT M 0) (rb_u (mda M) k true)
def md_assign (M : md_S) (x y : Int32) (u v : Nat) : Int32 × md_S :=
  cond (md_nu M x || md_nr M y) (0, mdT M 1) (cond (mda M (10 * u + v)) (0, mdT M 2)
    (cond (md_ab (md_as1 M (10 * u + v))) (0, mdA (mdT (md_as1 M (10 * u + v)) 2) (rb_u (mda (md_as1 M (10 * u + v))) (10 * u + v) false)) (md_cnt (fun j => mda (md_as1 M (10 * u + v)) (10 * u + j)) 10, mdT (md_as1 M (10 * u + v)) 0)))
def md_da1 (M : md_S) (ow : Nat → Nat) (k : Nat) : md_S := md_set (mdA (mdT M 0) (rb_u (mda M) k false)) ow
def md_deassign (M : md_S) (ow : Nat → Nat) (x y : Int32) (u v : Nat) : Int32 × md_S :=
  cond (md_nu M x || md_nr M y) (0, mdT M 1) (cond (mda M (10 * u + v)) (md_cnt (fun j => mda (md_da1 M ow (10 * u + v)) (10 * u + j)) 10, md_da1 M ow (10 * u + v)) (0, mdT M 2))
def md_gr1 (M : md_S) (k : Nat) (b : Bool) : md_S := mdG (mdT M 0) (rb_u (mdg M) k b)
def md_grant (M : md_S) (x y : Int32) (u v : Nat) : Int32 × md_S :=
  cond (md_nr M x || md_np y) (0, mdT M 1) (cond (mdg M (16 * u + v)) (0, mdT M 2) (md_cnt (fun j => mdg (md_gr1 M (16 * u + v) true) (16 * u + j)) 16, md_gr1 M (16 * u + v) true))
def md_revoke (M : md_S) (x y : Int32) (u v : Nat) : Int32 × md_S :=
  cond (md_nr M x || md_np y) (0, mdT M 1) (cond (mdg M (16 * u + v)) (md_cnt (fun j => mdg (md_gr1 M (16 * u + v) false) (16 * u + j)) 16, md_gr1 M (16 * u + v) false) (0, mdT M 2))
def md_ih1 (M : md_S) (k : Nat) : md_S := md_ord (mdI (mdT M 0) (rb_u (mdi M) k true))
def md_di1 (M : md_S) (ow : Nat → Nat) (k : Nat) : md_S := md_set (mdI (mdT M 0) (rb_u (mdi M) k false)) ow
def md_disinherit (M : md_S) (ow : Nat → Nat) (x y : Int32) (u v : Nat) : Int32 × md_S :=
  cond (md_nr M x || md_nr M y) (0, mdT M 1) (cond (mdi M (10 * u + v)) (md_cnt (fun j => mdi (md_di1 M ow (10 * u + v)) (10 * u + j)) 10, md_di1 M ow (10 * u + v)) (0, mdT M 2))
def md_ok (M : md_S) (ow : Nat → Nat) : Prop := ∀ s, s < 6 → decide (mdo M s < 0) = false → mdo M s = nI (ow s) ∧ ow s < 6
section M44
variable {sl : Nat} {sx : Nat → Int32} {r : ri_W} {C : rd_S} {M : md_S} {w : ri_W} {ow : Nat → Nat}
theorem rn_ref0 : ri_M sl sx 47 [.ref 10, .int 0] (rd_W C (md_W M r)) (.inl (some 0), rd_W C (md_W (mdT M 0) r), 0, 0) := by
  have h := rn_refused (sl := sl) (sx := sx) (r := r) (C := C) (M := M) 0
  rw [show (!(decide ((0 : Int32) ≤ 0))) = false by decide] at h
  exact h
theorem rn_ref1 : ri_M sl sx 47 [.ref 10, .int 1] (rd_W C (md_W M r)) (.inl (some 1), rd_W C (md_W (mdT M 1) r), 0, 0) := by
  have h := rn_refused (sl := sl) (sx := sx) (r := r) (C := C) (M := M) 1
  rw [show (!(decide ((1 : Int32) ≤ 0))) = true by decide] at h
  exact h
theorem rn_ref2 : ri_M sl sx 47 [.ref 10, .int 2] (rd_W C (md_W M r)) (.inl (some 1), rd_W C (md_W (mdT M 2) r), 0, 0) := by
  have h := rn_refused (sl := sl) (sx := sx) (r := r) (C := C) (M := M) 2
  rw [show (!(decide ((2 : Int32) ≤ 0))) = true by decide] at h
  exact h
theorem rn_ref3 : ri_M sl sx 47 [.ref 10, .int 3] (rd_W C (md_W M r)) (.inl (some 1), rd_W C (md_W (mdT M 3) r), 0, 0) := by
  have h := rn_refused (sl := sl) (sx := sx) (r := r) (C := C) (M := M) 3
  rw [show (!(decide ((3 : Int32) ≤ 0))) = true by decide] at h
  exact h
theorem md_nuk {x : Int32} (h : md_nu M x = false) : ∃ k, k < 6 ∧ x = nI k := by
  unfold md_nu at h
  simp only [Bool.or_eq_false_iff] at h
  obtain ⟨k, hk, e⟩ := rb_nat2 (m := 5) (by decide) (of_decide_eq_false h.1) (of_decide_eq_false h.2.1)
  exact ⟨k, hk, e⟩
theorem md_nrk {x : Int32} (h : md_nr M x = false) : ∃ k, k < 10 ∧ x = nI k := by
  unfold md_nr at h
  simp only [Bool.or_eq_false_iff] at h
  obtain ⟨k, hk, e⟩ := rb_nat2 (m := 9) (by decide) (of_decide_eq_false h.1) (of_decide_eq_false h.2.1)
  exact ⟨k, hk, e⟩
theorem md_nsk {x : Int32} (h : md_ns M x = false) : ∃ k, k < 6 ∧ x = nI k := by
  unfold md_ns at h
  simp only [Bool.or_eq_false_iff] at h
  obtain ⟨k, hk, e⟩ := rb_nat2 (m := 5) (by decide) (of_decide_eq_false h.1) (of_decide_eq_false h.2.1)
  exact ⟨k, hk, e⟩
theorem md_nkk {x : Int32} (h : md_nk M x = false) : ∃ k, k < 4 ∧ x = nI k := by
  unfold md_nk at h
  simp only [Bool.or_eq_false_iff] at h
  obtain ⟨k, hk, e⟩ := rb_nat2 (m := 3) (by decide) (of_decide_eq_false h.1) (of_decide_eq_false h.2.1)
  exact ⟨k, hk, e⟩
theorem md_npk {x : Int32} (h : md_np x = false) : ∃ k, k < 16 ∧ x = nI k := by
  unfold md_np at h
  simp only [Bool.or_eq_false_iff, Bool.not_eq_false'] at h
  obtain ⟨k, hk, e⟩ := rb_nat2 (n := x) (m := 15) (by decide) (of_decide_eq_false h.1) (by
    have := of_decide_eq_true h.2
    rw [Int32.le_iff_toInt_le] at this
    rw [Int32.lt_iff_toInt_lt]
    have e : (nI 15).toInt = (15 : Int32).toInt := rfl
    omega)
  exact ⟨k, hk, e⟩
theorem rn_addUser : ri_M sl sx 63 [.ref 10] (rd_W C (md_W M r)) (md_oc r C (md_addUser M)) := by
  unfold ri_M md_addUser
  repeat refine ri_X.sh 2 rfl rfl rfl rfl ?_
  obtain ⟨h1, h2⟩ := ri_fst_spec (Q := fun i => !(mdu M i)) 6
  refine ri_back (fun i => (2, [some (.ref 10), some (.int (nI i))], [], rd_W C (md_W M r))) (Q := fun i => !(mdu M i)) (N := 6) ?_ (md_fu M) ?_ h2 ?_
  · intro i o hi hq k
    have hq : mdu M i = true := by simpa using hq
    repeat refine ri_X.s rfl rfl rfl ?_
    refine ri_X.bF rfl rfl (rx_ge (N := 6) (hi) rfl) ?_
    repeat refine ri_X.s rfl rfl rfl ?_
    refine ri_X.zld (B := mdu M) rfl rfl hi rfl ?_
    rw [hq]
    refine ri_X.bF rfl rfl rfl ?_
    repeat refine ri_X.sh 2 rfl rfl rfl rfl ?_
    exact ri_X.eq (by simp only [nI_succ]; try rfl) k
  · show md_fu M ≤ 6
    rcases h1 with h | h
    · exact Nat.le_of_lt h.1
    · exact Nat.le_of_eq h.1
  · rcases h1 with ⟨h3, h4, -⟩ | ⟨h3, -⟩
    · have h3 : md_fu M < 6 := h3
      have h4 : (!(mdu M (md_fu M))) = true := h4
      have h4 : mdu M (md_fu M) = false := by simpa using h4
      generalize md_fu M = k at h3 h4
      rw [decide_eq_false (show ¬ k = 6 by omega)]
      repeat refine ri_X.s rfl rfl rfl ?_
      refine ri_X.bF rfl rfl (rx_ge (N := 6) (h3) rfl) ?_
      repeat refine ri_X.s rfl rfl rfl ?_
      refine ri_X.zld (B := mdu M) rfl rfl h3 rfl ?_
      rw [h4]
      refine ri_X.bT rfl rfl rfl ?_
      repeat refine ri_X.s rfl rfl rfl ?_
      refine ri_X.cne (x := nI k) (y := 6) rfl rfl (fun h => ?_) (fun h => ?_)
      · repeat refine ri_X.s rfl rfl rfl ?_
        refine ri_X.call0 rfl rfl rfl rfl rfl rn_ref0 ?_
        refine ri_X.bT rfl rfl rfl ?_
        repeat refine ri_X.s rfl rfl rfl ?_
        refine ri_X.zst (B := mdu M) true rfl rfl rfl h3 rfl ?_
        rw [md_WU]
        repeat refine ri_X.s rfl rfl rfl ?_
        exact ri_X.fin rfl rfl
      · exact absurd (of_decide_eq_true h) (by
          intro e
          have := congrArg Int32.toNatClampNeg e
          rw [nI_clamp (by omega)] at this
          have e6 : Int32.toNatClampNeg 6 = 6 := rfl
          omega)
    · have h3 : md_fu M = 6 := h3
      rw [h3]
      repeat refine ri_X.s rfl rfl rfl ?_
      refine ri_X.bT rfl rfl (rx_geN (N := 6)) ?_
      repeat refine ri_X.s rfl rfl rfl ?_
      refine ri_X.cne (x := nI 6) (y := 6) rfl rfl (fun h => ?_) (fun h => ?_)
      · exact absurd h (by decide)
      · repeat refine ri_X.s rfl rfl rfl ?_
        refine ri_X.call0 rfl rfl rfl rfl rfl rn_ref1 ?_
        refine ri_X.bF rfl rfl rfl ?_
        repeat refine ri_X.s rfl rfl rfl ?_
        exact ri_X.fin rfl rfl
theorem rn_addRole : ri_M sl sx 65 [.ref 10] (rd_W C (md_W M r)) (md_oc r C (md_addRole M)) := by
  unfold ri_M md_addRole
  repeat refine ri_X.sh 2 rfl rfl rfl rfl ?_
  obtain ⟨h1, h2⟩ := ri_fst_spec (Q := fun i => !(mdr M i)) 10
  refine ri_back (fun i => (2, [some (.ref 10), some (.int (nI i))], [], rd_W C (md_W M r))) (Q := fun i => !(mdr M i)) (N := 10) ?_ (md_fr M) ?_ h2 ?_
  · intro i o hi hq k
    have hq : mdr M i = true := by simpa using hq
    repeat refine ri_X.s rfl rfl rfl ?_
    refine ri_X.bF rfl rfl (rx_ge (N := 10) (hi) rfl) ?_
    repeat refine ri_X.s rfl rfl rfl ?_
    refine ri_X.zld (B := mdr M) rfl rfl hi rfl ?_
    rw [hq]
    refine ri_X.bF rfl rfl rfl ?_
    repeat refine ri_X.sh 2 rfl rfl rfl rfl ?_
    exact ri_X.eq (by simp only [nI_succ]; try rfl) k
  · show md_fr M ≤ 10
    rcases h1 with h | h
    · exact Nat.le_of_lt h.1
    · exact Nat.le_of_eq h.1
  · rcases h1 with ⟨h3, h4, -⟩ | ⟨h3, -⟩
    · have h3 : md_fr M < 10 := h3
      have h4 : (!(mdr M (md_fr M))) = true := h4
      have h4 : mdr M (md_fr M) = false := by simpa using h4
      generalize md_fr M = k at h3 h4
      rw [decide_eq_false (show ¬ k = 10 by omega)]
      repeat refine ri_X.s rfl rfl rfl ?_
      refine ri_X.bF rfl rfl (rx_ge (N := 10) (h3) rfl) ?_
      repeat refine ri_X.s rfl rfl rfl ?_
      refine ri_X.zld (B := mdr M) rfl rfl h3 rfl ?_
      rw [h4]
      refine ri_X.bT rfl rfl rfl ?_
      repeat refine ri_X.s rfl rfl rfl ?_
      refine ri_X.cne (x := nI k) (y := 10) rfl rfl (fun h => ?_) (fun h => ?_)
      · repeat refine ri_X.s rfl rfl rfl ?_
        refine ri_X.call0 rfl rfl rfl rfl rfl rn_ref0 ?_
        refine ri_X.bT rfl rfl rfl ?_
        repeat refine ri_X.s rfl rfl rfl ?_
        refine ri_X.zst (B := mdr M) true rfl rfl rfl h3 rfl ?_
        rw [md_WR]
        repeat refine ri_X.s rfl rfl rfl ?_
        exact ri_X.fin rfl rfl
      · exact absurd (of_decide_eq_true h) (by
          intro e
          have := congrArg Int32.toNatClampNeg e
          rw [nI_clamp (by omega)] at this
          have e6 : Int32.toNatClampNeg 10 = 10 := rfl
          omega)
    · have h3 : md_fr M = 10 := h3
      rw [h3]
      repeat refine ri_X.s rfl rfl rfl ?_
      refine ri_X.bT rfl rfl (rx_geN (N := 10)) ?_
      repeat refine ri_X.s rfl rfl rfl ?_
      refine ri_X.cne (x := nI 10) (y := 10) rfl rfl (fun h => ?_) (fun h => ?_)
      · exact absurd h (by decide)
      · repeat refine ri_X.s rfl rfl rfl ?_
        refine ri_X.call0 rfl rfl rfl rfl rfl rn_ref1 ?_
        refine ri_X.bF rfl rfl rfl ?_
        repeat refine ri_X.s rfl rfl rfl ?_
        exact ri_X.fin rfl rfl
theorem rn_assign (x y : Int32) : ri_M sl sx 69 [.ref 10, .int x, .int y] (rd_W C (md_W M r)) (md_oc r C (md_assign M x y x.toNatClampNeg y.toNatClampNeg)) := by
  unfold ri_M md_assign
  repeat refine ri_X.s rfl rfl rfl ?_
  refine ri_X.call0 rfl rfl rfl rfl rfl (rn_noUser x) ?_
  refine ri_X.ifn rfl rfl (fun h1 => ?_) (fun h1 => ?_)
  · rw [h1]
    repeat refine ri_X.s rfl rfl rfl ?_
    refine ri_X.call0 rfl rfl rfl rfl rfl rn_ref1 ?_
    refine ri_X.bF rfl rfl rfl ?_
    repeat refine ri_X.s rfl rfl rfl ?_
    exact ri_X.fin rfl rfl
  · rw [h1]
    obtain ⟨u, hu, rfl⟩ := md_nuk h1
    repeat refine ri_X.s rfl rfl rfl ?_
    refine ri_X.call0 rfl rfl rfl rfl rfl (rn_noRole y) ?_
    refine ri_X.ifz rfl rfl (fun h2 => ?_) (fun h2 => ?_)
    · rw [h2]
      obtain ⟨v, hv, rfl⟩ := md_nrk h2
      rw [rx16 (by omega), rx16 (by omega)]
      repeat refine ri_X.s rfl rfl rfl ?_
      refine ri_X.zldx (B := mda M) (nJ_m10 u v) rfl rfl (by omega) rfl ?_
      refine ri_X.ifz rfl rfl (fun h3 => ?_) (fun h3 => ?_)
      · rw [h3]
        simp only [Bool.or_false, cond_false]
        repeat refine ri_X.s rfl rfl rfl ?_
        refine ri_X.call0 rfl rfl rfl rfl rfl rn_ref0 ?_
        refine ri_X.bT rfl rfl rfl ?_
        repeat refine ri_X.s rfl rfl rfl ?_
        refine ri_X.zstx (B := mda M) true (nJ_m10 u v) rfl rfl rfl (by omega) rfl ?_
        rw [md_WA]
        have e : mdA (mdT M 0) (rb_u (mda M) (10 * u + v) true) = md_as1 M (10 * u + v) := rfl
        rw [e]
        generalize md_as1 M (10 * u + v) = N
        repeat refine ri_X.s rfl rfl rfl ?_
        refine ri_X.call0 rfl rfl rfl rfl rfl (rn_anyBroken) ?_
        refine ri_X.ifz rfl rfl (fun h4 => ?_) (fun h4 => ?_)
        · rw [h4]
          repeat refine ri_X.s rfl rfl rfl ?_
          refine ri_X.call0 rfl rfl rfl rfl rfl rn_ref0 ?_
          refine ri_X.bT rfl rfl rfl ?_
          repeat refine ri_X.s rfl rfl rfl ?_
          refine ri_X.call0 rfl rfl rfl rfl rfl (rn_roles hu) ?_
          exact ri_X.fin rfl rfl
        · rw [h4]
          repeat refine ri_X.s rfl rfl rfl ?_
          refine ri_X.call0 rfl rfl rfl rfl rfl rn_ref2 ?_
          refine ri_X.bF rfl rfl rfl ?_
          repeat refine ri_X.s rfl rfl rfl ?_
          refine ri_X.zstx (B := mda N) false (nJ_m10 u v) rfl rfl rfl (by omega) rfl ?_
          rw [md_WA]
          repeat refine ri_X.s rfl rfl rfl ?_
          exact ri_X.fin rfl rfl
      · rw [h3]
        repeat refine ri_X.s rfl rfl rfl ?_
        refine ri_X.call0 rfl rfl rfl rfl rfl rn_ref2 ?_
        refine ri_X.bF rfl rfl rfl ?_
        repeat refine ri_X.s rfl rfl rfl ?_
        exact ri_X.fin rfl rfl
    · rw [h2]
      repeat refine ri_X.s rfl rfl rfl ?_
      refine ri_X.call0 rfl rfl rfl rfl rfl rn_ref1 ?_
      refine ri_X.bF rfl rfl rfl ?_
      repeat refine ri_X.s rfl rfl rfl ?_
      exact ri_X.fin rfl rfl
theorem rn_deassign (ho : md_ok M ow) (x y : Int32) : ri_M sl sx 70 [.ref 10, .int x, .int y] (rd_W C (md_W M r)) (md_oc r C (md_deassign M ow x y x.toNatClampNeg y.toNatClampNeg)) := by
  unfold ri_M md_deassign
  repeat refine ri_X.s rfl rfl rfl ?_
  refine ri_X.call0 rfl rfl rfl rfl rfl (rn_noUser x) ?_
  refine ri_X.ifn rfl rfl (fun h1 => ?_) (fun h1 => ?_)
  · rw [h1]
    repeat refine ri_X.s rfl rfl rfl ?_
    refine ri_X.call0 rfl rfl rfl rfl rfl rn_ref1 ?_
    refine ri_X.bF rfl rfl rfl ?_
    repeat refine ri_X.s rfl rfl rfl ?_
    exact ri_X.fin rfl rfl
  · rw [h1]
    obtain ⟨u, hu, rfl⟩ := md_nuk h1
    repeat refine ri_X.s rfl rfl rfl ?_
    refine ri_X.call0 rfl rfl rfl rfl rfl (rn_noRole y) ?_
    refine ri_X.ifz rfl rfl (fun h2 => ?_) (fun h2 => ?_)
    · rw [h2]
      obtain ⟨v, hv, rfl⟩ := md_nrk h2
      rw [rx16 (by omega), rx16 (by omega)]
      repeat refine ri_X.s rfl rfl rfl ?_
      refine ri_X.zldx (B := mda M) (nJ_m10 u v) rfl rfl (by omega) rfl ?_
      refine ri_X.ifn rfl rfl (fun h3 => ?_) (fun h3 => ?_)
      · rw [h3]
        simp only [Bool.or_false, cond_false, cond_true]
        repeat refine ri_X.s rfl rfl rfl ?_
        refine ri_X.call0 rfl rfl rfl rfl rfl rn_ref0 ?_
        refine ri_X.bT rfl rfl rfl ?_
        repeat refine ri_X.s rfl rfl rfl ?_
        refine ri_X.zstx (B := mda M) false (nJ_m10 u v) rfl rfl rfl (by omega) rfl ?_
        rw [md_WA]
        repeat refine ri_X.s rfl rfl rfl ?_
        refine ri_X.call0 rfl rfl rfl rfl rfl (rn_settle (M := mdA (mdT M 0) (rb_u (mda M) (10 * u + v) false)) (ow := ow) ho) ?_
        have e : md_set (mdA (mdT M 0) (rb_u (mda M) (10 * u + v) false)) ow = md_da1 M ow (10 * u + v) := rfl
        rw [e]
        generalize md_da1 M ow (10 * u + v) = N
        repeat refine ri_X.s rfl rfl rfl ?_
        refine ri_X.call0 rfl rfl rfl rfl rfl (rn_roles hu) ?_
        exact ri_X.fin rfl rfl
      · rw [h3]
        repeat refine ri_X.s rfl rfl rfl ?_
        refine ri_X.call0 rfl rfl rfl rfl rfl rn_ref2 ?_
        refine ri_X.bF rfl rfl rfl ?_
        repeat refine ri_X.s rfl rfl rfl ?_
        exact ri_X.fin rfl rfl
    · rw [h2]
      repeat refine ri_X.s rfl rfl rfl ?_
      refine ri_X.call0 rfl rfl rfl rfl rfl rn_ref1 ?_
      refine ri_X.bF rfl rfl rfl ?_
      repeat refine ri_X.s rfl rfl rfl ?_
      exact ri_X.fin rfl rfl
theorem rn_grant (x y : Int32) : ri_M sl sx 72 [.ref 10, .int x, .int y] (rd_W C (md_W M r)) (md_oc r C (md_grant M x y x.toNatClampNeg y.toNatClampNeg)) := by
  unfold ri_M md_grant
  repeat refine ri_X.s rfl rfl rfl ?_
  refine ri_X.call0 rfl rfl rfl rfl rfl (rn_noRole x) ?_
  refine ri_X.ifn rfl rfl (fun h1 => ?_) (fun h1 => ?_)
  · rw [h1]
    repeat refine ri_X.s rfl rfl rfl ?_
    refine ri_X.call0 rfl rfl rfl rfl rfl rn_ref1 ?_
    refine ri_X.bF rfl rfl rfl ?_
    repeat refine ri_X.s rfl rfl rfl ?_
    exact ri_X.fin rfl rfl
  · rw [h1]
    obtain ⟨u, hu, rfl⟩ := md_nrk h1
    repeat refine ri_X.s rfl rfl rfl ?_
    refine ri_X.call0 rfl rfl rfl rfl rfl (rn_noPerm y) ?_
    refine ri_X.ifz rfl rfl (fun h2 => ?_) (fun h2 => ?_)
    · rw [h2]
      obtain ⟨v, hv, rfl⟩ := md_npk h2
      rw [rx16 (by omega), rx16 (by omega)]
      repeat refine ri_X.s rfl rfl rfl ?_
      refine ri_X.zldx (B := mdg M) (nJ_m16 u v) rfl rfl (by omega) rfl ?_
      refine ri_X.ifz rfl rfl (fun h3 => ?_) (fun h3 => ?_)
      · rw [h3]
        simp only [Bool.or_false, cond_false]
        repeat refine ri_X.s rfl rfl rfl ?_
        refine ri_X.call0 rfl rfl rfl rfl rfl rn_ref0 ?_
        refine ri_X.bT rfl rfl rfl ?_
        repeat refine ri_X.s rfl rfl rfl ?_
        refine ri_X.zstx (B := mdg M) true (nJ_m16 u v) rfl rfl rfl (by omega) rfl ?_
        rw [md_WG]
        have e : mdG (mdT M 0) (rb_u (mdg M) (16 * u + v) true) = md_gr1 M (16 * u + v) true := rfl
        rw [e]
        generalize md_gr1 M (16 * u + v) true = N
        repeat refine ri_X.s rfl rfl rfl ?_
        refine ri_X.call0 rfl rfl rfl rfl rfl (rn_grants hu) ?_
        exact ri_X.fin rfl rfl
      · rw [h3]
        repeat refine ri_X.s rfl rfl rfl ?_
        refine ri_X.call0 rfl rfl rfl rfl rfl rn_ref2 ?_
        refine ri_X.bF rfl rfl rfl ?_
        repeat refine ri_X.s rfl rfl rfl ?_
        exact ri_X.fin rfl rfl
    · rw [h2]
      repeat refine ri_X.s rfl rfl rfl ?_
      refine ri_X.call0 rfl rfl rfl rfl rfl rn_ref1 ?_
      refine ri_X.bF rfl rfl rfl ?_
      repeat refine ri_X.s rfl rfl rfl ?_
      exact ri_X.fin rfl rfl
theorem rn_revoke (x y : Int32) : ri_M sl sx 73 [.ref 10, .int x, .int y] (rd_W C (md_W M r)) (md_oc r C (md_revoke M x y x.toNatClampNeg y.toNatClampNeg)) := by
  unfold ri_M md_revoke
  repeat refine ri_X.s rfl rfl rfl ?_
  refine ri_X.call0 rfl rfl rfl rfl rfl (rn_noRole x) ?_
  refine ri_X.ifn rfl rfl (fun h1 => ?_) (fun h1 => ?_)
  · rw [h1]
    repeat refine ri_X.s rfl rfl rfl ?_
    refine ri_X.call0 rfl rfl rfl rfl rfl rn_ref1 ?_
    refine ri_X.bF rfl rfl rfl ?_
    repeat refine ri_X.s rfl rfl rfl ?_
    exact ri_X.fin rfl rfl
  · rw [h1]
    obtain ⟨u, hu, rfl⟩ := md_nrk h1
    repeat refine ri_X.s rfl rfl rfl ?_
    refine ri_X.call0 rfl rfl rfl rfl rfl (rn_noPerm y) ?_
    refine ri_X.ifz rfl rfl (fun h2 => ?_) (fun h2 => ?_)
    · rw [h2]
      obtain ⟨v, hv, rfl⟩ := md_npk h2
      rw [rx16 (by omega), rx16 (by omega)]
      repeat refine ri_X.s rfl rfl rfl ?_
      refine ri_X.zldx (B := mdg M) (nJ_m16 u v) rfl rfl (by omega) rfl ?_
      refine ri_X.ifn rfl rfl (fun h3 => ?_) (fun h3 => ?_)
      · rw [h3]
        simp only [Bool.or_false, cond_false, cond_true]
        repeat refine ri_X.s rfl rfl rfl ?_
        refine ri_X.call0 rfl rfl rfl rfl rfl rn_ref0 ?_
        refine ri_X.bT rfl rfl rfl ?_
        repeat refine ri_X.s rfl rfl rfl ?_
        refine ri_X.zstx (B := mdg M) false (nJ_m16 u v) rfl rfl rfl (by omega) rfl ?_
        rw [md_WG]
        have e : mdG (mdT M 0) (rb_u (mdg M) (16 * u + v) false) = md_gr1 M (16 * u + v) false := rfl
        rw [e]
        generalize md_gr1 M (16 * u + v) false = N
        repeat refine ri_X.s rfl rfl rfl ?_
        refine ri_X.call0 rfl rfl rfl rfl rfl (rn_grants hu) ?_
        exact ri_X.fin rfl rfl
      · rw [h3]
        repeat refine ri_X.s rfl rfl rfl ?_
        refine ri_X.call0 rfl rfl rfl rfl rfl rn_ref2 ?_
        refine ri_X.bF rfl rfl rfl ?_
        repeat refine ri_X.s rfl rfl rfl ?_
        exact ri_X.fin rfl rfl
    · rw [h2]
      repeat refine ri_X.s rfl rfl rfl ?_
      refine ri_X.call0 rfl rfl rfl rfl rfl rn_ref1 ?_
      refine ri_X.bF rfl rfl rfl ?_
      repeat refine ri_X.s rfl rfl rfl ?_
      exact ri_X.fin rfl rfl
theorem rn_disinherit (ho : md_ok M ow) (x y : Int32) : ri_M sl sx 76 [.ref 10, .int x, .int y] (rd_W C (md_W M r)) (md_oc r C (md_disinherit M ow x y x.toNatClampNeg y.toNatClampNeg)) := by
  unfold ri_M md_disinherit
  repeat refine ri_X.s rfl rfl rfl ?_
  refine ri_X.call0 rfl rfl rfl rfl rfl (rn_noRole x) ?_
  refine ri_X.ifn rfl rfl (fun h1 => ?_) (fun h1 => ?_)
  · rw [h1]
    repeat refine ri_X.s rfl rfl rfl ?_
    refine ri_X.call0 rfl rfl rfl rfl rfl rn_ref1 ?_
    refine ri_X.bF rfl rfl rfl ?_
    repeat refine ri_X.s rfl rfl rfl ?_
    exact ri_X.fin rfl rfl
  · rw [h1]
    obtain ⟨u, hu, rfl⟩ := md_nrk h1
    repeat refine ri_X.s rfl rfl rfl ?_
    refine ri_X.call0 rfl rfl rfl rfl rfl (rn_noRole y) ?_
    refine ri_X.ifz rfl rfl (fun h2 => ?_) (fun h2 => ?_)
    · rw [h2]
      obtain ⟨v, hv, rfl⟩ := md_nrk h2
      rw [rx16 (by omega), rx16 (by omega)]
      repeat refine ri_X.s rfl rfl rfl ?_
      refine ri_X.zldx (B := mdi M) (nJ_m10 u v) rfl rfl (by omega) rfl ?_
      refine ri_X.ifn rfl rfl (fun h3 => ?_) (fun h3 => ?_)
      · rw [h3]
        simp only [Bool.or_false, cond_false, cond_true]
        repeat refine ri_X.s rfl rfl rfl ?_
        refine ri_X.call0 rfl rfl rfl rfl rfl rn_ref0 ?_
        refine ri_X.bT rfl rfl rfl ?_
        repeat refine ri_X.s rfl rfl rfl ?_
        refine ri_X.zstx (B := mdi M) false (nJ_m10 u v) rfl rfl rfl (by omega) rfl ?_
        rw [md_WI]
        repeat refine ri_X.s rfl rfl rfl ?_
        refine ri_X.call0 rfl rfl rfl rfl rfl (rn_settle (M := mdI (mdT M 0) (rb_u (mdi M) (10 * u + v) false)) (ow := ow) ho) ?_
        have e : md_set (mdI (mdT M 0) (rb_u (mdi M) (10 * u + v) false)) ow = md_di1 M ow (10 * u + v) := rfl
        rw [e]
        generalize md_di1 M ow (10 * u + v) = N
        repeat refine ri_X.s rfl rfl rfl ?_
        refine ri_X.call0 rfl rfl rfl rfl rfl (rn_parents hu) ?_
        exact ri_X.fin rfl rfl
      · rw [h3]
        repeat refine ri_X.s rfl rfl rfl ?_
        refine ri_X.call0 rfl rfl rfl rfl rfl rn_ref2 ?_
        refine ri_X.bF rfl rfl rfl ?_
        repeat refine ri_X.s rfl rfl rfl ?_
        exact ri_X.fin rfl rfl
    · rw [h2]
      repeat refine ri_X.s rfl rfl rfl ?_
      refine ri_X.call0 rfl rfl rfl rfl rfl rn_ref1 ?_
      refine ri_X.bF rfl rfl rfl ?_
      repeat refine ri_X.s rfl rfl rfl ?_
      exact ri_X.fin rfl rfl
end M44
