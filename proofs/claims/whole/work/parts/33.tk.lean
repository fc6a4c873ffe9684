section C32
variable {sl : Nat} {sx : Nat → Int32} {w r : ri_W} {C : rd_S}
theorem rm_tk (z : Int32) {T : Int32 × (Nat → Int32) × Int32} (hT : rd_tk C (((1 : Int32) <<< (z &&& 31)) ^^^ (-1)) = T) : ri_M sl sx 39 [.ref 1, .int z] (rd_W C r) (.inl (some T.2.2), rd_W (rdM (rdK C T.1) T.2.1) r, 0, 0) := by
  unfold ri_M
  repeat refine ri_X.sh 4 rfl rfl rfl rfl ?_
  refine ri_loop (fun i (a : Int32 × (Nat → Int32) × Int32) => (4, [some (.ref 1), some (.int z), some (.int a.2.2), some (.int (nI i))], [], rd_W (rdM (rdK C a.1) a.2.1) r)) (rd_tko C (((1 : Int32) <<< (z &&& 31)) ^^^ (-1))) 4 ?_ (a := (rdk C, rdm C, 0)) ?_
  · intro i a o hi k
    obtain ⟨kt, m, n⟩ := a
    generalize hz : ((1 : Int32) <<< (z &&& 31)) ^^^ (-1) = y at k
    have hk : ∀ (kt2 : Int32) (m2 : Nat → Int32) (n2 : Int32), rd_tko C y i (kt, m, n) = (kt2, m2, n2) → ri_X sl sx 39 (4, [some (.ref 1), some (.int z), some (.int n2), some (.int (nI (i + 1)))], [], rd_W (rdM (rdK C kt2) m2) r) o := by
      intro kt2 m2 n2 e
      rw [e] at k
      exact k
    clear k
    show ri_X sl sx 39 (4, [some (.ref 1), some (.int z), some (.int n), some (.int (nI i))], [], rd_W (rdM (rdK C kt) m) r) o
    repeat refine ri_X.s rfl rfl rfl ?_
    refine ri_X.bF rfl rfl (rx_ge (N := 4) (hi) rfl) ?_
    repeat refine ri_X.s rfl rfl rfl ?_
    refine ri_X.ald rfl rfl (hi) rfl ?_
    repeat refine ri_X.s rfl rfl rfl ?_
    refine ri_X.call0 rfl rfl rfl rfl rfl (rm_bit z) ?_
    repeat refine ri_X.s rfl rfl rfl ?_
    refine ri_X.ast (f := m) (x := m i &&& (((1 : Int32) <<< (z &&& 31)) ^^^ (-1))) rfl rfl rfl hi rfl ?_
    rw [hz, rd_WM, rdMM]
    repeat refine ri_X.s rfl rfl rfl ?_
    refine ri_X.call0 rfl rfl rfl rfl rfl (rm_holds kt (nI i)) ?_
    refine ri_X.ifz rfl rfl (fun h => ?_) (fun h => ?_)
    · repeat refine ri_X.sh 4 rfl rfl rfl rfl ?_
      refine ri_X.eq ?_ (hk kt (upd m i (m i &&& y)) n (by simp only [rd_tko, h, Bool.false_and, cond_false]))
      rw [nI_succ]
      rfl
    · repeat refine ri_X.s rfl rfl rfl ?_
      refine ri_X.ald rfl rfl (hi) rfl ?_
      refine ri_X.call0 rfl rfl rfl rfl rfl (rm_bitCount (upd m i (m i &&& y) i)) ?_
      repeat refine ri_X.s rfl rfl rfl ?_
      refine ri_X.ald rfl rfl (hi) rfl ?_
      refine ri_X.br (b := decide (rdb C i ≤ rb_c (upd m i (m i &&& y) i))) rfl rfl (fun h2 => ?_) (fun h2 => ?_)
      · repeat refine ri_X.sh 4 rfl rfl rfl rfl ?_
        refine ri_X.eq ?_ (hk kt (upd m i (m i &&& y)) n (by simp only [rd_tko, h, h2, Bool.true_and, Bool.not_true, cond_false]))
        rw [nI_succ]
        rfl
      · repeat refine ri_X.s rfl rfl rfl ?_
        refine ri_X.call0 rfl rfl rfl rfl rfl (rm_bit (nI i)) ?_
        repeat refine ri_X.sh 4 rfl rfl rfl rfl ?_
        rw [rd_WK, rdKM, rdKK]
        refine ri_X.eq ?_ (hk (kt &&& (rb_b i ^^^ (-1))) (upd m i (m i &&& y)) (n + 1) (by simp only [rd_tko, h, h2, Bool.true_and, Bool.not_false, cond_true]))
        rw [nI_succ]
        rfl
  · have hT : ri_fo (rd_tko C (((1 : Int32) <<< (z &&& 31)) ^^^ (-1))) 4 (rdk C, rdm C, 0) = T := hT
    rw [hT]
    repeat refine ri_X.s rfl rfl rfl ?_
    refine ri_X.bT rfl rfl (rx_geN (N := 4)) ?_
    repeat refine ri_X.s rfl rfl rfl ?_
    exact ri_X.fin rfl rfl
end C32
