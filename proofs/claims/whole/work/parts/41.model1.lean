/-! The reference's small methods, as pure runs -/
def md_nu (M : md_S) (x : Int32) : Bool := decide (x < 0) || (decide (5 < x) || !(mdu M x.toNatClampNeg))
def md_nr (M : md_S) (x : Int32) : Bool := decide (x < 0) || (decide (9 < x) || !(mdr M x.toNatClampNeg))
def md_ns (M : md_S) (x : Int32) : Bool := decide (x < 0) || (decide (5 < x) || !(decide (0 ≤ mdo M x.toNatClampNeg)))
def md_nk (M : md_S) (x : Int32) : Bool := decide (x < 0) || (decide (3 < x) || !(decide (0 ≤ mdk M x.toNatClampNeg)))
def md_np (x : Int32) : Bool := decide (x < 0) || !(decide (x ≤ 15))
def md_cnt (B : Nat → Bool) (N : Nat) : Int32 := ri_fo (fun i n => cond (B i) (n + 1) n) N 0
def md_in (x n : Int32) : Bool := decide (((x >>> (n &&& 31)) &&& 1) = 1)
section M41
variable {sl : Nat} {sx : Nat → Int32} {r : ri_W} {C : rd_S} {M : md_S} {w : ri_W}
theorem rn_thrown : ri_M sl sx 46 [.ref 10] (rd_W C (md_W M r)) (.inl (some (mdt M)), rd_W C (md_W M r), 0, 0) := by
  unfold ri_M
  repeat refine ri_X.s rfl rfl rfl ?_
  exact ri_X.fin rfl rfl
theorem rn_refused (x : Int32) : ri_M sl sx 47 [.ref 10, .int x] (rd_W C (md_W M r)) (.inl (some (rb_i (!(decide (x ≤ 0))))), rd_W C (md_W (mdT M x) r), 0, 0) := by
  unfold ri_M
  repeat refine ri_X.s rfl rfl rfl ?_
  rw [md_WT]
  refine ri_X.br (b := decide (x ≤ 0)) rfl rfl (fun h => ?_) (fun h => ?_)
  · rw [h]
    repeat refine ri_X.s rfl rfl rfl ?_
    exact ri_X.fin rfl rfl
  · rw [h]
    repeat refine ri_X.s rfl rfl rfl ?_
    exact ri_X.fin rfl rfl
theorem rn_noUser (x : Int32) : ri_M sl sx 48 [.ref 10, .int x] (rd_W C (md_W M r)) (.inl (some (rb_i (md_nu M x))), rd_W C (md_W M r), 0, 0) := by
  unfold ri_M md_nu
  repeat refine ri_X.s rfl rfl rfl ?_
  refine ri_X.br (b := decide (x < 0)) rfl rfl (fun h => ?_) (fun h => ?_)
  · rw [h]
    repeat refine ri_X.s rfl rfl rfl ?_
    exact ri_X.fin rfl rfl
  · rw [h]
    repeat refine ri_X.s rfl rfl rfl ?_
    refine ri_X.br (b := decide (5 < x)) rfl rfl (fun h2 => ?_) (fun h2 => ?_)
    · rw [h2]
      repeat refine ri_X.s rfl rfl rfl ?_
      exact ri_X.fin rfl rfl
    · rw [h2]
      obtain ⟨k, hk, rfl⟩ := rb_nat2 (m := 5) (by decide) (of_decide_eq_false h) (of_decide_eq_false h2)
      rw [rx16 (by omega)]
      repeat refine ri_X.s rfl rfl rfl ?_
      refine ri_X.zld rfl rfl (hk) rfl ?_
      refine ri_X.ifn rfl rfl (fun h3 => ?_) (fun h3 => ?_)
      · rw [h3]
        repeat refine ri_X.s rfl rfl rfl ?_
        exact ri_X.fin rfl rfl
      · rw [h3]
        repeat refine ri_X.s rfl rfl rfl ?_
        exact ri_X.fin rfl rfl
theorem rn_noRole (x : Int32) : ri_M sl sx 49 [.ref 10, .int x] (rd_W C (md_W M r)) (.inl (some (rb_i (md_nr M x))), rd_W C (md_W M r), 0, 0) := by
  unfold ri_M md_nr
  repeat refine ri_X.s rfl rfl rfl ?_
  refine ri_X.br (b := decide (x < 0)) rfl rfl (fun h => ?_) (fun h => ?_)
  · rw [h]
    repeat refine ri_X.s rfl rfl rfl ?_
    exact ri_X.fin rfl rfl
  · rw [h]
    repeat refine ri_X.s rfl rfl rfl ?_
    refine ri_X.br (b := decide (9 < x)) rfl rfl (fun h2 => ?_) (fun h2 => ?_)
    · rw [h2]
      repeat refine ri_X.s rfl rfl rfl ?_
      exact ri_X.fin rfl rfl
    · rw [h2]
      obtain ⟨k, hk, rfl⟩ := rb_nat2 (m := 9) (by decide) (of_decide_eq_false h) (of_decide_eq_false h2)
      rw [rx16 (by omega)]
      repeat refine ri_X.s rfl rfl rfl ?_
      refine ri_X.zld rfl rfl (hk) rfl ?_
      refine ri_X.ifn rfl rfl (fun h3 => ?_) (fun h3 => ?_)
      · rw [h3]
        repeat refine ri_X.s rfl rfl rfl ?_
        exact ri_X.fin rfl rfl
      · rw [h3]
        repeat refine ri_X.s rfl rfl rfl ?_
        exact ri_X.fin rfl rfl
theorem rn_noSession (x : Int32) : ri_M sl sx 50 [.ref 10, .int x] (rd_W C (md_W M r)) (.inl (some (rb_i (md_ns M x))), rd_W C (md_W M r), 0, 0) := by
  unfold ri_M md_ns
  repeat refine ri_X.s rfl rfl rfl ?_
  refine ri_X.br (b := decide (x < 0)) rfl rfl (fun h => ?_) (fun h => ?_)
  · rw [h]
    repeat refine ri_X.s rfl rfl rfl ?_
    exact ri_X.fin rfl rfl
  · rw [h]
    repeat refine ri_X.s rfl rfl rfl ?_
    refine ri_X.br (b := decide (5 < x)) rfl rfl (fun h2 => ?_) (fun h2 => ?_)
    · rw [h2]
      repeat refine ri_X.s rfl rfl rfl ?_
      exact ri_X.fin rfl rfl
    · rw [h2]
      obtain ⟨k, hk, rfl⟩ := rb_nat2 (m := 5) (by decide) (of_decide_eq_false h) (of_decide_eq_false h2)
      rw [rx16 (by omega)]
      repeat refine ri_X.s rfl rfl rfl ?_
      refine ri_X.ald rfl rfl (hk) rfl ?_
      refine ri_X.br (b := decide (0 ≤ mdo M k)) rfl rfl (fun h3 => ?_) (fun h3 => ?_)
      · rw [h3]
        repeat refine ri_X.s rfl rfl rfl ?_
        exact ri_X.fin rfl rfl
      · rw [h3]
        repeat refine ri_X.s rfl rfl rfl ?_
        exact ri_X.fin rfl rfl
theorem rn_noSet (x : Int32) : ri_M sl sx 51 [.ref 10, .int x] (rd_W C (md_W M r)) (.inl (some (rb_i (md_nk M x))), rd_W C (md_W M r), 0, 0) := by
  unfold ri_M md_nk
  repeat refine ri_X.s rfl rfl rfl ?_
  refine ri_X.br (b := decide (x < 0)) rfl rfl (fun h => ?_) (fun h => ?_)
  · rw [h]
    repeat refine ri_X.s rfl rfl rfl ?_
    exact ri_X.fin rfl rfl
  · rw [h]
    repeat refine ri_X.s rfl rfl rfl ?_
    refine ri_X.br (b := decide (3 < x)) rfl rfl (fun h2 => ?_) (fun h2 => ?_)
    · rw [h2]
      repeat refine ri_X.s rfl rfl rfl ?_
      exact ri_X.fin rfl rfl
    · rw [h2]
      obtain ⟨k, hk, rfl⟩ := rb_nat2 (m := 3) (by decide) (of_decide_eq_false h) (of_decide_eq_false h2)
      rw [rx16 (by omega)]
      repeat refine ri_X.s rfl rfl rfl ?_
      refine ri_X.ald rfl rfl (hk) rfl ?_
      refine ri_X.br (b := decide (0 ≤ mdk M k)) rfl rfl (fun h3 => ?_) (fun h3 => ?_)
      · rw [h3]
        repeat refine ri_X.s rfl rfl rfl ?_
        exact ri_X.fin rfl rfl
      · rw [h3]
        repeat refine ri_X.s rfl rfl rfl ?_
        exact ri_X.fin rfl rfl
theorem rn_noPerm (x : Int32) : ri_M sl sx 52 [.int x] w (.inl (some (rb_i (md_np x))), w, 0, 0) := by
  unfold ri_M md_np
  repeat refine ri_X.s rfl rfl rfl ?_
  refine ri_X.br (b := decide (x < 0)) rfl rfl (fun h => ?_) (fun h => ?_)
  · rw [h]
    repeat refine ri_X.s rfl rfl rfl ?_
    exact ri_X.fin rfl rfl
  · rw [h]
    repeat refine ri_X.s rfl rfl rfl ?_
    refine ri_X.br (b := decide (x ≤ 15)) rfl rfl (fun h2 => ?_) (fun h2 => ?_)
    · rw [h2]
      repeat refine ri_X.s rfl rfl rfl ?_
      exact ri_X.fin rfl rfl
    · rw [h2]
      repeat refine ri_X.s rfl rfl rfl ?_
      exact ri_X.fin rfl rfl
theorem rn_in (x n : Int32) : ri_M sl sx 53 [.int x, .int n] w (.inl (some (rb_i (md_in x n))), w, 0, 0) := by
  unfold ri_M md_in
  repeat refine ri_X.s rfl rfl rfl ?_
  refine ri_X.cne (x := (x >>> (n &&& 31)) &&& 1) (y := 1) rfl rfl (fun h => ?_) (fun h => ?_)
  · rw [h]
    repeat refine ri_X.s rfl rfl rfl ?_
    exact ri_X.fin rfl rfl
  · rw [h]
    repeat refine ri_X.s rfl rfl rfl ?_
    exact ri_X.fin rfl rfl
theorem rn_many (x : Int32) : ri_M sl sx 55 [.int x] w (.inl (some (md_cnt (fun j => md_in x (nI j)) 32)), w, 0, 0) := by
  unfold ri_M
  repeat refine ri_X.sh 4 rfl rfl rfl rfl ?_
  refine ri_loop (fun i n => (4, [some (.int x), some (.int n), some (.int (nI i))], [], w)) (fun i n => cond (md_in x (nI i)) (n + 1) n) 32 ?_ ?_
  · intro i n o hi k1
    repeat refine ri_X.s rfl rfl rfl ?_
    refine ri_X.bF rfl rfl (rx_ge (N := 32) (hi) rfl) ?_
    repeat refine ri_X.s rfl rfl rfl ?_
    refine ri_X.call0 rfl rfl rfl rfl rfl (rn_in x (nI i)) ?_
    refine ri_X.ifz rfl rfl (fun h => ?_) (fun h => ?_)
    · repeat refine ri_X.sh 4 rfl rfl rfl rfl ?_
      exact ri_X.eq (by simp only [h, nI_succ, cond_false]; try rfl) k1
    · repeat refine ri_X.sh 4 rfl rfl rfl rfl ?_
      exact ri_X.eq (by simp only [h, nI_succ, cond_true]; try rfl) k1
  · repeat refine ri_X.s rfl rfl rfl ?_
    refine ri_X.bT rfl rfl (rx_geN (N := 32)) ?_
    repeat refine ri_X.s rfl rfl rfl ?_
    exact ri_X.fin rfl rfl
theorem rn_sizeOf {k : Nat} (hk : k < 4) : ri_M sl sx 66 [.ref 10, .int (nI k)] (rd_W C (md_W M r)) (.inl (some (md_cnt (fun j => mdm M (10 * k + j)) 10)), rd_W C (md_W M r), 0, 0) := by
  unfold ri_M
  repeat refine ri_X.sh 4 rfl rfl rfl rfl ?_
  refine ri_loop (fun i n => (4, [some (.ref 10), some (.int (nI k)), some (.int n), some (.int (nI i))], [], rd_W C (md_W M r))) (fun i n => cond (mdm M (10 * k + i)) (n + 1) n) 10 ?_ ?_
  · intro i n o hi k1
    repeat refine ri_X.s rfl rfl rfl ?_
    refine ri_X.bF rfl rfl (rx_ge (N := 10) (hi) rfl) ?_
    repeat refine ri_X.s rfl rfl rfl ?_
    refine ri_X.zldx (nJ_m10 k i) rfl rfl (by omega) rfl ?_
    refine ri_X.ifz rfl rfl (fun h => ?_) (fun h => ?_)
    · repeat refine ri_X.sh 4 rfl rfl rfl rfl ?_
      exact ri_X.eq (by simp only [h, nI_succ, cond_false]; try rfl) k1
    · repeat refine ri_X.sh 4 rfl rfl rfl rfl ?_
      exact ri_X.eq (by simp only [h, nI_succ, cond_true]; try rfl) k1
  · repeat refine ri_X.s rfl rfl rfl ?_
    refine ri_X.bT rfl rfl (rx_geN (N := 10)) ?_
    repeat refine ri_X.s rfl rfl rfl ?_
    exact ri_X.fin rfl rfl
theorem rn_roles {k : Nat} (hk : k < 6) : ri_M sl sx 68 [.ref 10, .int (nI k)] (rd_W C (md_W M r)) (.inl (some (md_cnt (fun j => mda M (10 * k + j)) 10)), rd_W C (md_W M r), 0, 0) := by
  unfold ri_M
  repeat refine ri_X.sh 4 rfl rfl rfl rfl ?_
  refine ri_loop (fun i n => (4, [some (.ref 10), some (.int (nI k)), some (.int n), some (.int (nI i))], [], rd_W C (md_W M r))) (fun i n => cond (mda M (10 * k + i)) (n + 1) n) 10 ?_ ?_
  · intro i n o hi k1
    repeat refine ri_X.s rfl rfl rfl ?_
    refine ri_X.bF rfl rfl (rx_ge (N := 10) (hi) rfl) ?_
    repeat refine ri_X.s rfl rfl rfl ?_
    refine ri_X.zldx (nJ_m10 k i) rfl rfl (by omega) rfl ?_
    refine ri_X.ifz rfl rfl (fun h => ?_) (fun h => ?_)
    · repeat refine ri_X.sh 4 rfl rfl rfl rfl ?_
      exact ri_X.eq (by simp only [h, nI_succ, cond_false]; try rfl) k1
    · repeat refine ri_X.sh 4 rfl rfl rfl rfl ?_
      exact ri_X.eq (by simp only [h, nI_succ, cond_true]; try rfl) k1
  · repeat refine ri_X.s rfl rfl rfl ?_
    refine ri_X.bT rfl rfl (rx_geN (N := 10)) ?_
    repeat refine ri_X.s rfl rfl rfl ?_
    exact ri_X.fin rfl rfl
theorem rn_grants {k : Nat} (hk : k < 10) : ri_M sl sx 71 [.ref 10, .int (nI k)] (rd_W C (md_W M r)) (.inl (some (md_cnt (fun j => mdg M (16 * k + j)) 16)), rd_W C (md_W M r), 0, 0) := by
  unfold ri_M
  repeat refine ri_X.sh 4 rfl rfl rfl rfl ?_
  refine ri_loop (fun i n => (4, [some (.ref 10), some (.int (nI k)), some (.int n), some (.int (nI i))], [], rd_W C (md_W M r))) (fun i n => cond (mdg M (16 * k + i)) (n + 1) n) 16 ?_ ?_
  · intro i n o hi k1
    repeat refine ri_X.s rfl rfl rfl ?_
    refine ri_X.bF rfl rfl (rx_ge (N := 16) (hi) rfl) ?_
    repeat refine ri_X.s rfl rfl rfl ?_
    refine ri_X.zldx (nJ_m16 k i) rfl rfl (by omega) rfl ?_
    refine ri_X.ifz rfl rfl (fun h => ?_) (fun h => ?_)
    · repeat refine ri_X.sh 4 rfl rfl rfl rfl ?_
      exact ri_X.eq (by simp only [h, nI_succ, cond_false]; try rfl) k1
    · repeat refine ri_X.sh 4 rfl rfl rfl rfl ?_
      exact ri_X.eq (by simp only [h, nI_succ, cond_true]; try rfl) k1
  · repeat refine ri_X.s rfl rfl rfl ?_
    refine ri_X.bT rfl rfl (rx_geN (N := 16)) ?_
    repeat refine ri_X.s rfl rfl rfl ?_
    exact ri_X.fin rfl rfl
theorem rn_parents {k : Nat} (hk : k < 10) : ri_M sl sx 74 [.ref 10, .int (nI k)] (rd_W C (md_W M r)) (.inl (some (md_cnt (fun j => mdi M (10 * k + j)) 10)), rd_W C (md_W M r), 0, 0) := by
  unfold ri_M
  repeat refine ri_X.sh 4 rfl rfl rfl rfl ?_
  refine ri_loop (fun i n => (4, [some (.ref 10), some (.int (nI k)), some (.int n), some (.int (nI i))], [], rd_W C (md_W M r))) (fun i n => cond (mdi M (10 * k + i)) (n + 1) n) 10 ?_ ?_
  · intro i n o hi k1
    repeat refine ri_X.s rfl rfl rfl ?_
    refine ri_X.bF rfl rfl (rx_ge (N := 10) (hi) rfl) ?_
    repeat refine ri_X.s rfl rfl rfl ?_
    refine ri_X.zldx (nJ_m10 k i) rfl rfl (by omega) rfl ?_
    refine ri_X.ifz rfl rfl (fun h => ?_) (fun h => ?_)
    · repeat refine ri_X.sh 4 rfl rfl rfl rfl ?_
      exact ri_X.eq (by simp only [h, nI_succ, cond_false]; try rfl) k1
    · repeat refine ri_X.sh 4 rfl rfl rfl rfl ?_
      exact ri_X.eq (by simp only [h, nI_succ, cond_true]; try rfl) k1
  · repeat refine ri_X.s rfl rfl rfl ?_
    refine ri_X.bT rfl rfl (rx_geN (N := 10)) ?_
    repeat refine ri_X.s rfl rfl rfl ?_
    exact ri_X.fin rfl rfl
theorem rn_lives {k : Nat} (hk : k < 6) : ri_M sl sx 87 [.ref 10, .int (nI k)] (rd_W C (md_W M r)) (.inl (some (md_cnt (fun j => mdv M (10 * k + j)) 10)), rd_W C (md_W M r), 0, 0) := by
  unfold ri_M
  repeat refine ri_X.sh 4 rfl rfl rfl rfl ?_
  refine ri_loop (fun i n => (4, [some (.ref 10), some (.int (nI k)), some (.int n), some (.int (nI i))], [], rd_W C (md_W M r))) (fun i n => cond (mdv M (10 * k + i)) (n + 1) n) 10 ?_ ?_
  · intro i n o hi k1
    repeat refine ri_X.s rfl rfl rfl ?_
    refine ri_X.bF rfl rfl (rx_ge (N := 10) (hi) rfl) ?_
    repeat refine ri_X.s rfl rfl rfl ?_
    refine ri_X.zldx (nJ_m10 k i) rfl rfl (by omega) rfl ?_
    refine ri_X.ifz rfl rfl (fun h => ?_) (fun h => ?_)
    · repeat refine ri_X.sh 4 rfl rfl rfl rfl ?_
      exact ri_X.eq (by simp only [h, nI_succ, cond_false]; try rfl) k1
    · repeat refine ri_X.sh 4 rfl rfl rfl rfl ?_
      exact ri_X.eq (by simp only [h, nI_succ, cond_true]; try rfl) k1
  · repeat refine ri_X.s rfl rfl rfl ?_
    refine ri_X.bT rfl rfl (rx_geN (N := 10)) ?_
    repeat refine ri_X.s rfl rfl rfl ?_
    exact ri_X.fin rfl rfl
theorem rn_sets : ri_M sl sx 77 [.ref 10] (rd_W C (md_W M r)) (.inl (some (md_cnt (fun j => !(decide (mdk M j < 0))) 4)), rd_W C (md_W M r), 0, 0) := by
  unfold ri_M
  repeat refine ri_X.sh 4 rfl rfl rfl rfl ?_
  refine ri_loop (fun i n => (4, [some (.ref 10), some (.int n), some (.int (nI i))], [], rd_W C (md_W M r))) (fun i n => cond (!(decide (mdk M i < 0))) (n + 1) n) 4 ?_ ?_
  · intro i n o hi k1
    repeat refine ri_X.s rfl rfl rfl ?_
    refine ri_X.bF rfl rfl (rx_ge (N := 4) (hi) rfl) ?_
    repeat refine ri_X.s rfl rfl rfl ?_
    refine ri_X.ald rfl rfl (hi) rfl ?_
    refine ri_X.br (b := decide (mdk M i < 0)) rfl rfl (fun h => ?_) (fun h => ?_)
    · repeat refine ri_X.sh 4 rfl rfl rfl rfl ?_
      exact ri_X.eq (by simp only [h, nI_succ, Bool.not_true, cond_false]; try rfl) k1
    · repeat refine ri_X.sh 4 rfl rfl rfl rfl ?_
      exact ri_X.eq (by simp only [h, nI_succ, Bool.not_false, cond_true]; try rfl) k1
  · repeat refine ri_X.s rfl rfl rfl ?_
    refine ri_X.bT rfl rfl (rx_geN (N := 4)) ?_
    repeat refine ri_X.s rfl rfl rfl ?_
    exact ri_X.fin rfl rfl
theorem rn_sessions : ri_M sl sx 83 [.ref 10] (rd_W C (md_W M r)) (.inl (some (md_cnt (fun j => !(decide (mdo M j < 0))) 6)), rd_W C (md_W M r), 0, 0) := by
  unfold ri_M
  repeat refine ri_X.sh 4 rfl rfl rfl rfl ?_
  refine ri_loop (fun i n => (4, [some (.ref 10), some (.int n), some (.int (nI i))], [], rd_W C (md_W M r))) (fun i n => cond (!(decide (mdo M i < 0))) (n + 1) n) 6 ?_ ?_
  · intro i n o hi k1
    repeat refine ri_X.s rfl rfl rfl ?_
    refine ri_X.bF rfl rfl (rx_ge (N := 6) (hi) rfl) ?_
    repeat refine ri_X.s rfl rfl rfl ?_
    refine ri_X.ald rfl rfl (hi) rfl ?_
    refine ri_X.br (b := decide (mdo M i < 0)) rfl rfl (fun h => ?_) (fun h => ?_)
    · repeat refine ri_X.sh 4 rfl rfl rfl rfl ?_
      exact ri_X.eq (by simp only [h, nI_succ, Bool.not_true, cond_false]; try rfl) k1
    · repeat refine ri_X.sh 4 rfl rfl rfl rfl ?_
      exact ri_X.eq (by simp only [h, nI_succ, Bool.not_false, cond_true]; try rfl) k1
  · repeat refine ri_X.s rfl rfl rfl ?_
    refine ri_X.bT rfl rfl (rx_geN (N := 6)) ?_
    repeat refine ri_X.s rfl rfl rfl ?_
    exact ri_X.fin rfl rfl
end M41
