/-! The reference's questions, as pure runs -/
def md_st (M : md_S) (x : Int32) : Bool := ri_fo (fun i b => b || (md_in x (nI i) && md_nr M (nI i))) 32 false
def md_au (M : md_S) (u z : Nat) : Bool := ri_fo (fun q b => b || (mda M (10 * u + q) && mds M (10 * q + z))) 10 false
def md_ha (M : md_S) (u z : Nat) : Bool := ri_fo (fun q b => b || (mds M (10 * u + q) && mdg M (16 * q + z))) 10 false
def md_he (M : md_S) (k w : Nat) (f : Bool) : Int32 := ri_fo (fun j n => cond (mdm M (10 * k + j) && cond f (md_au M w j) (mdv M (10 * w + j))) (n + 1) n) 10 0
def md_ct (M : md_S) (k w : Nat) : Bool := cond (decide (mdk M k = 0)) (mdu M w) (!(decide (mdo M w < 0)))
def md_bk (M : md_S) (k : Nat) : Bool := ri_fo (fun w b => b || (md_ct M k w && !(decide (md_he M k w (decide (mdk M k = 0)) < mdn M k)))) 6 false
def md_ab (M : md_S) : Bool := ri_fo (fun k b => b || (!(decide (mdk M k < 0)) && md_bk M k)) 4 false
def md_ma (M : md_S) (u : Nat) (x : Int32) : Bool := ri_fo (fun i b => b && (!(md_in x (nI i)) || md_au M u i)) 10 true
section M42
variable {sl : Nat} {sx : Nat → Int32} {r : ri_W} {C : rd_S} {M : md_S} {w : ri_W}
theorem rn_strange (x : Int32) : ri_M sl sx 54 [.ref 10, .int x] (rd_W C (md_W M r)) (.inl (some (rb_i (md_st M x))), rd_W C (md_W M r), 0, 0) := by
  unfold ri_M
  repeat refine ri_X.sh 4 rfl rfl rfl rfl ?_
  refine ri_loop (fun i b => (4, [some (.ref 10), some (.int x), some (.int (rb_i b)), some (.int (nI i))], [], rd_W C (md_W M r))) (fun i b => b || (md_in x (nI i) && md_nr M (nI i))) 32 ?_ (a := false) ?_
  · intro i b o hi k
    repeat refine ri_X.s rfl rfl rfl ?_
    refine ri_X.bF rfl rfl (rx_ge (N := 32) (hi) rfl) ?_
    repeat refine ri_X.s rfl rfl rfl ?_
    refine ri_X.ifn rfl rfl (fun h => ?_) (fun h => ?_)
    · repeat refine ri_X.sh 4 rfl rfl rfl rfl ?_
      exact ri_X.eq (by simp only [h, nI_succ, Bool.true_or]; try rfl) k
    · repeat refine ri_X.s rfl rfl rfl ?_
      refine ri_X.call0 rfl rfl rfl rfl rfl (rn_in x (nI i)) ?_
      refine ri_X.ifz rfl rfl (fun h2 => ?_) (fun h2 => ?_)
      · repeat refine ri_X.sh 4 rfl rfl rfl rfl ?_
        exact ri_X.eq (by simp only [h, h2, nI_succ, Bool.false_and, Bool.or_false]; try rfl) k
      · repeat refine ri_X.s rfl rfl rfl ?_
        refine ri_X.call0 rfl rfl rfl rfl rfl (rn_noRole (nI i)) ?_
        refine ri_X.ifz rfl rfl (fun h3 => ?_) (fun h3 => ?_)
        · repeat refine ri_X.sh 4 rfl rfl rfl rfl ?_
          exact ri_X.eq (by simp only [h, h2, h3, nI_succ, Bool.and_false, Bool.or_false]; try rfl) k
        · repeat refine ri_X.sh 4 rfl rfl rfl rfl ?_
          exact ri_X.eq (by simp only [h, h2, h3, nI_succ, Bool.and_true, Bool.or_true]; try rfl) k
  · repeat refine ri_X.s rfl rfl rfl ?_
    refine ri_X.bT rfl rfl (rx_geN (N := 32)) ?_
    repeat refine ri_X.s rfl rfl rfl ?_
    exact ri_X.finB rfl rfl
theorem rn_auth {u z : Nat} (hu : u < 6) (hz : z < 10) : ri_M sl sx 57 [.ref 10, .int (nI u), .int (nI z)] (rd_W C (md_W M r)) (.inl (some (rb_i (md_au M u z))), rd_W C (md_W M r), 0, 0) := by
  unfold ri_M
  repeat refine ri_X.sh 5 rfl rfl rfl rfl ?_
  refine ri_loop (fun i b => (5, [some (.ref 10), some (.int (nI u)), some (.int (nI z)), some (.int (rb_i b)), some (.int (nI i))], [], rd_W C (md_W M r))) (fun q b => b || (mda M (10 * u + q) && mds M (10 * q + z))) 10 ?_ (a := false) ?_
  · intro i b o hi k
    repeat refine ri_X.s rfl rfl rfl ?_
    refine ri_X.bF rfl rfl (rx_ge (N := 10) (hi) rfl) ?_
    repeat refine ri_X.s rfl rfl rfl ?_
    refine ri_X.ifn rfl rfl (fun h => ?_) (fun h => ?_)
    · repeat refine ri_X.sh 5 rfl rfl rfl rfl ?_
      exact ri_X.eq (by simp only [h, nI_succ, Bool.true_or]; try rfl) k
    · repeat refine ri_X.s rfl rfl rfl ?_
      refine ri_X.zldx (nJ_m10 u i) rfl rfl (by omega) rfl ?_
      refine ri_X.ifz rfl rfl (fun h2 => ?_) (fun h2 => ?_)
      · repeat refine ri_X.sh 5 rfl rfl rfl rfl ?_
        exact ri_X.eq (by simp only [h, h2, nI_succ, Bool.false_and, Bool.or_false]; try rfl) k
      · repeat refine ri_X.s rfl rfl rfl ?_
        refine ri_X.zldx (nJ_m10 i z) rfl rfl (by omega) rfl ?_
        refine ri_X.ifz rfl rfl (fun h3 => ?_) (fun h3 => ?_)
        · repeat refine ri_X.sh 5 rfl rfl rfl rfl ?_
          exact ri_X.eq (by simp only [h, h2, h3, nI_succ, Bool.and_false, Bool.or_false]; try rfl) k
        · repeat refine ri_X.sh 5 rfl rfl rfl rfl ?_
          exact ri_X.eq (by simp only [h, h2, h3, nI_succ, Bool.and_true, Bool.or_true]; try rfl) k
  · repeat refine ri_X.s rfl rfl rfl ?_
    refine ri_X.bT rfl rfl (rx_geN (N := 10)) ?_
    repeat refine ri_X.s rfl rfl rfl ?_
    exact ri_X.finB rfl rfl
theorem rn_has {u z : Nat} (hu : u < 10) (hz : z < 16) : ri_M sl sx 58 [.ref 10, .int (nI u), .int (nI z)] (rd_W C (md_W M r)) (.inl (some (rb_i (md_ha M u z))), rd_W C (md_W M r), 0, 0) := by
  unfold ri_M
  repeat refine ri_X.sh 5 rfl rfl rfl rfl ?_
  refine ri_loop (fun i b => (5, [some (.ref 10), some (.int (nI u)), some (.int (nI z)), some (.int (rb_i b)), some (.int (nI i))], [], rd_W C (md_W M r))) (fun q b => b || (mds M (10 * u + q) && mdg M (16 * q + z))) 10 ?_ (a := false) ?_
  · intro i b o hi k
    repeat refine ri_X.s rfl rfl rfl ?_
    refine ri_X.bF rfl rfl (rx_ge (N := 10) (hi) rfl) ?_
    repeat refine ri_X.s rfl rfl rfl ?_
    refine ri_X.ifn rfl rfl (fun h => ?_) (fun h => ?_)
    · repeat refine ri_X.sh 5 rfl rfl rfl rfl ?_
      exact ri_X.eq (by simp only [h, nI_succ, Bool.true_or]; try rfl) k
    · repeat refine ri_X.s rfl rfl rfl ?_
      refine ri_X.zldx (nJ_m10 u i) rfl rfl (by omega) rfl ?_
      refine ri_X.ifz rfl rfl (fun h2 => ?_) (fun h2 => ?_)
      · repeat refine ri_X.sh 5 rfl rfl rfl rfl ?_
        exact ri_X.eq (by simp only [h, h2, nI_succ, Bool.false_and, Bool.or_false]; try rfl) k
      · repeat refine ri_X.s rfl rfl rfl ?_
        refine ri_X.zldx (nJ_m16 i z) rfl rfl (by omega) rfl ?_
        refine ri_X.ifz rfl rfl (fun h3 => ?_) (fun h3 => ?_)
        · repeat refine ri_X.sh 5 rfl rfl rfl rfl ?_
          exact ri_X.eq (by simp only [h, h2, h3, nI_succ, Bool.and_false, Bool.or_false]; try rfl) k
        · repeat refine ri_X.sh 5 rfl rfl rfl rfl ?_
          exact ri_X.eq (by simp only [h, h2, h3, nI_succ, Bool.and_true, Bool.or_true]; try rfl) k
  · repeat refine ri_X.s rfl rfl rfl ?_
    refine ri_X.bT rfl rfl (rx_geN (N := 10)) ?_
    repeat refine ri_X.s rfl rfl rfl ?_
    exact ri_X.finB rfl rfl
theorem rn_held {k w : Nat} (hk : k < 4) (hw : w < 6) (f : Bool) : ri_M sl sx 59 [.ref 10, .int (nI k), .int (nI w), .int (rb_i f)] (rd_W C (md_W M r)) (.inl (some (md_he M k w f)), rd_W C (md_W M r), 0, 0) := by
  unfold ri_M
  repeat refine ri_X.sh 6 rfl rfl rfl rfl ?_
  refine ri_loop (fun i n => (6, [some (.ref 10), some (.int (nI k)), some (.int (nI w)), some (.int (rb_i f)), some (.int n), some (.int (nI i))], [], rd_W C (md_W M r))) (fun j n => cond (mdm M (10 * k + j) && cond f (md_au M w j) (mdv M (10 * w + j))) (n + 1) n) 10 ?_ (a := 0) ?_
  · intro i n o hi k1
    repeat refine ri_X.s rfl rfl rfl ?_
    refine ri_X.bF rfl rfl (rx_ge (N := 10) (hi) rfl) ?_
    repeat refine ri_X.s rfl rfl rfl ?_
    refine ri_X.zldx (nJ_m10 k i) rfl rfl (by omega) rfl ?_
    refine ri_X.ifz rfl rfl (fun h => ?_) (fun h => ?_)
    · repeat refine ri_X.sh 6 rfl rfl rfl rfl ?_
      exact ri_X.eq (by simp only [h, nI_succ, Bool.false_and, cond_false]; try rfl) k1
    · repeat refine ri_X.s rfl rfl rfl ?_
      refine ri_X.ifz rfl rfl (fun h2 => ?_) (fun h2 => ?_)
      · repeat refine ri_X.s rfl rfl rfl ?_
        refine ri_X.zldx (nJ_m10 w i) rfl rfl (by omega) rfl ?_
        refine ri_X.ifz rfl rfl (fun h3 => ?_) (fun h3 => ?_)
        · repeat refine ri_X.sh 6 rfl rfl rfl rfl ?_
          exact ri_X.eq (by simp only [h, h2, h3, nI_succ, Bool.true_and, cond_false]; try rfl) k1
        · repeat refine ri_X.sh 6 rfl rfl rfl rfl ?_
          exact ri_X.eq (by simp only [h, h2, h3, nI_succ, Bool.true_and, cond_false, cond_true]; try rfl) k1
      · repeat refine ri_X.s rfl rfl rfl ?_
        refine ri_X.call0 rfl rfl rfl rfl rfl (rn_auth hw hi) ?_
        refine ri_X.ifz rfl rfl (fun h3 => ?_) (fun h3 => ?_)
        · repeat refine ri_X.sh 6 rfl rfl rfl rfl ?_
          exact ri_X.eq (by simp only [h, h2, h3, nI_succ, Bool.true_and, cond_false, cond_true]; try rfl) k1
        · repeat refine ri_X.sh 6 rfl rfl rfl rfl ?_
          exact ri_X.eq (by simp only [h, h2, h3, nI_succ, Bool.true_and, cond_false, cond_true]; try rfl) k1
  · repeat refine ri_X.s rfl rfl rfl ?_
    refine ri_X.bT rfl rfl (rx_geN (N := 10)) ?_
    repeat refine ri_X.s rfl rfl rfl ?_
    exact ri_X.fin rfl rfl
theorem rn_mayAll {u : Nat} (hu : u < 6) (x : Int32) : ri_M sl sx 84 [.ref 10, .int (nI u), .int x] (rd_W C (md_W M r)) (.inl (some (rb_i (md_ma M u x))), rd_W C (md_W M r), 0, 0) := by
  unfold ri_M
  repeat refine ri_X.sh 5 rfl rfl rfl rfl ?_
  refine ri_loop (fun i b => (5, [some (.ref 10), some (.int (nI u)), some (.int x), some (.int (rb_i b)), some (.int (nI i))], [], rd_W C (md_W M r))) (fun i b => b && (!(md_in x (nI i)) || md_au M u i)) 10 ?_ (a := true) ?_
  · intro i b o hi k
    repeat refine ri_X.s rfl rfl rfl ?_
    refine ri_X.bF rfl rfl (rx_ge (N := 10) (hi) rfl) ?_
    repeat refine ri_X.s rfl rfl rfl ?_
    refine ri_X.ifz rfl rfl (fun h => ?_) (fun h => ?_)
    · repeat refine ri_X.sh 5 rfl rfl rfl rfl ?_
      exact ri_X.eq (by simp only [h, nI_succ, Bool.false_and]; try rfl) k
    · repeat refine ri_X.s rfl rfl rfl ?_
      refine ri_X.call0 rfl rfl rfl rfl rfl (rn_in x (nI i)) ?_
      refine ri_X.ifz rfl rfl (fun h2 => ?_) (fun h2 => ?_)
      · repeat refine ri_X.sh 5 rfl rfl rfl rfl ?_
        exact ri_X.eq (by simp only [h, h2, nI_succ, Bool.not_false, Bool.true_or, Bool.and_true]; try rfl) k
      · repeat refine ri_X.s rfl rfl rfl ?_
        refine ri_X.call0 rfl rfl rfl rfl rfl (rn_auth hu hi) ?_
        refine ri_X.ifz rfl rfl (fun h3 => ?_) (fun h3 => ?_)
        · repeat refine ri_X.sh 5 rfl rfl rfl rfl ?_
          exact ri_X.eq (by simp only [h, h2, h3, nI_succ, Bool.not_true, Bool.false_or, Bool.and_false]; try rfl) k
        · repeat refine ri_X.sh 5 rfl rfl rfl rfl ?_
          exact ri_X.eq (by simp only [h, h2, h3, nI_succ, Bool.not_true, Bool.false_or, Bool.and_true]; try rfl) k
  · repeat refine ri_X.s rfl rfl rfl ?_
    refine ri_X.bT rfl rfl (rx_geN (N := 10)) ?_
    repeat refine ri_X.s rfl rfl rfl ?_
    exact ri_X.finB rfl rfl
theorem rn_broken {k : Nat} (hk : k < 4) : ri_M sl sx 60 [.ref 10, .int (nI k)] (rd_W C (md_W M r)) (.inl (some (rb_i (md_bk M k))), rd_W C (md_W M r), 0, 0) := by
  unfold ri_M
  repeat refine ri_X.sh 4 rfl rfl rfl rfl ?_
  have e : ∀ n, (ri_fo (fun w (q : Bool × Option Value) => (q.1 || (md_ct M k w && !(decide (md_he M k w (decide (mdk M k = 0)) < mdn M k))), some (Value.int (rb_i (md_ct M k w))))) n (false, none)).1 = ri_fo (fun w b => b || (md_ct M k w && !(decide (md_he M k w (decide (mdk M k = 0)) < mdn M k)))) n false := by
    intro n
    induction n with
    | zero => rfl
    | succ n ih =>
      show ((ri_fo _ n (false, none)).1 || _) = (ri_fo _ n false || _)
      rw [ih]
  refine ri_loop (fun i (q : Bool × Option Value) => (4, [some (.ref 10), some (.int (nI k)), some (.int (rb_i q.1)), some (.int (nI i)), q.2], [], rd_W C (md_W M r))) (fun w (q : Bool × Option Value) => (q.1 || (md_ct M k w && !(decide (md_he M k w (decide (mdk M k = 0)) < mdn M k))), some (Value.int (rb_i (md_ct M k w))))) 6 ?_ (a := (false, none)) ?_
  · intro i q o hi k1
    obtain ⟨b, v4⟩ := q
    have rest : ri_X sl sx 60 (42, [some (.ref 10), some (.int (nI k)), some (.int (rb_i b)), some (.int (nI i)), v4], [.int (rb_i (md_ct M k i))], rd_W C (md_W M r)) o := by
      repeat refine ri_X.s rfl rfl rfl ?_
      refine ri_X.ifn rfl rfl (fun h => ?_) (fun h => ?_)
      · repeat refine ri_X.sh 4 rfl rfl rfl rfl ?_
        exact ri_X.eq (by simp only [h, nI_succ, Bool.true_or]; try rfl) k1
      · repeat refine ri_X.s rfl rfl rfl ?_
        refine ri_X.ifz rfl rfl (fun h2 => ?_) (fun h2 => ?_)
        · repeat refine ri_X.sh 4 rfl rfl rfl rfl ?_
          exact ri_X.eq (by simp only [h, h2, nI_succ, Bool.false_and, Bool.or_false]; try rfl) k1
        · repeat refine ri_X.s rfl rfl rfl ?_
          refine ri_X.ald rfl rfl (hk) rfl ?_
          have tail : ri_X sl sx 60 (70, [some (.ref 10), some (.int (nI k)), some (.int (rb_i b)), some (.int (nI i)), some (.int (rb_i (md_ct M k i)))], [.int (rb_i (decide (mdk M k = 0))), .int (nI i), .int (nI k), .ref 10], rd_W C (md_W M r)) o := by
            refine ri_X.call0 rfl rfl rfl rfl rfl (rn_held hk hi (decide (mdk M k = 0))) ?_
            repeat refine ri_X.s rfl rfl rfl ?_
            refine ri_X.ald rfl rfl (hk) rfl ?_
            refine ri_X.br (b := decide (md_he M k i (decide (mdk M k = 0)) < mdn M k)) rfl rfl (fun h3 => ?_) (fun h3 => ?_)
            · repeat refine ri_X.sh 4 rfl rfl rfl rfl ?_
              exact ri_X.eq (by simp only [h, h2, h3, nI_succ, Bool.not_true, Bool.and_false, Bool.or_false]; try rfl) k1
            · repeat refine ri_X.sh 4 rfl rfl rfl rfl ?_
              exact ri_X.eq (by simp only [h, h2, h3, nI_succ, Bool.not_false, Bool.and_true, Bool.or_true]; try rfl) k1
          refine ri_X.br (b := decide (¬ mdk M k = 0)) rfl rfl (fun h3 => ?_) (fun h3 => ?_)
          · rw [show decide (mdk M k = 0) = false by simpa using h3] at tail
            repeat refine ri_X.sh 70 rfl rfl rfl rfl ?_
            exact tail
          · rw [show decide (mdk M k = 0) = true by simpa using h3] at tail
            repeat refine ri_X.sh 70 rfl rfl rfl rfl ?_
            exact tail
    repeat refine ri_X.s rfl rfl rfl ?_
    refine ri_X.bF rfl rfl (rx_ge (N := 6) (hi) rfl) ?_
    repeat refine ri_X.s rfl rfl rfl ?_
    refine ri_X.ald rfl rfl (hk) rfl ?_
    refine ri_X.br (b := decide (¬ mdk M k = 0)) rfl rfl (fun h3 => ?_) (fun h3 => ?_)
    · have e2 : md_ct M k i = !(decide (mdo M i < 0)) := by unfold md_ct; rw [show decide (mdk M k = 0) = false by simpa using h3]; rfl
      rw [e2] at rest
      repeat refine ri_X.s rfl rfl rfl ?_
      refine ri_X.ald rfl rfl (hi) rfl ?_
      refine ri_X.br (b := decide (mdo M i < 0)) rfl rfl (fun h4 => ?_) (fun h4 => ?_)
      · rw [h4] at rest
        repeat refine ri_X.sh 42 rfl rfl rfl rfl ?_
        exact rest
      · rw [h4] at rest
        repeat refine ri_X.sh 42 rfl rfl rfl rfl ?_
        exact rest
    · have e2 : md_ct M k i = mdu M i := by unfold md_ct; rw [show decide (mdk M k = 0) = true by simpa using h3]; rfl
      rw [e2] at rest
      repeat refine ri_X.s rfl rfl rfl ?_
      refine ri_X.zld rfl rfl (hi) rfl ?_
      repeat refine ri_X.sh 42 rfl rfl rfl rfl ?_
      exact rest
  · have e6 := e 6
    generalize ri_fo (fun w (q : Bool × Option Value) => (q.1 || (md_ct M k w && !(decide (md_he M k w (decide (mdk M k = 0)) < mdn M k))), some (Value.int (rb_i (md_ct M k w))))) 6 (false, none) = q at e6
    have e6 : q.1 = md_bk M k := e6
    rw [← e6]
    repeat refine ri_X.s rfl rfl rfl ?_
    refine ri_X.bT rfl rfl (rx_geN (N := 6)) ?_
    repeat refine ri_X.s rfl rfl rfl ?_
    exact ri_X.finB rfl rfl
theorem rn_anyBroken : ri_M sl sx 61 [.ref 10] (rd_W C (md_W M r)) (.inl (some (rb_i (md_ab M))), rd_W C (md_W M r), 0, 0) := by
  unfold ri_M
  repeat refine ri_X.sh 4 rfl rfl rfl rfl ?_
  refine ri_loop (fun i b => (4, [some (.ref 10), some (.int (rb_i b)), some (.int (nI i))], [], rd_W C (md_W M r))) (fun k b => b || (!(decide (mdk M k < 0)) && md_bk M k)) 4 ?_ (a := false) ?_
  · intro i b o hi k
    repeat refine ri_X.s rfl rfl rfl ?_
    refine ri_X.bF rfl rfl (rx_ge (N := 4) (hi) rfl) ?_
    repeat refine ri_X.s rfl rfl rfl ?_
    refine ri_X.ifn rfl rfl (fun h => ?_) (fun h => ?_)
    · repeat refine ri_X.sh 4 rfl rfl rfl rfl ?_
      exact ri_X.eq (by simp only [h, nI_succ, Bool.true_or]; try rfl) k
    · repeat refine ri_X.s rfl rfl rfl ?_
      refine ri_X.ald rfl rfl (hi) rfl ?_
      refine ri_X.br (b := decide (mdk M i < 0)) rfl rfl (fun h2 => ?_) (fun h2 => ?_)
      · repeat refine ri_X.sh 4 rfl rfl rfl rfl ?_
        exact ri_X.eq (by simp only [h, h2, nI_succ, Bool.not_true, Bool.false_and, Bool.or_false]; try rfl) k
      · repeat refine ri_X.s rfl rfl rfl ?_
        refine ri_X.call0 rfl rfl rfl rfl rfl (rn_broken hi) ?_
        refine ri_X.ifz rfl rfl (fun h3 => ?_) (fun h3 => ?_)
        · repeat refine ri_X.sh 4 rfl rfl rfl rfl ?_
          exact ri_X.eq (by simp only [h, h2, h3, nI_succ, Bool.and_false, Bool.or_false]; try rfl) k
        · repeat refine ri_X.sh 4 rfl rfl rfl rfl ?_
          exact ri_X.eq (by simp only [h, h2, h3, nI_succ, Bool.not_false, Bool.and_true, Bool.or_true]; try rfl) k
  · repeat refine ri_X.s rfl rfl rfl ?_
    refine ri_X.bT rfl rfl (rx_geN (N := 4)) ?_
    repeat refine ri_X.s rfl rfl rfl ?_
    exact ri_X.finB rfl rfl
end M42
