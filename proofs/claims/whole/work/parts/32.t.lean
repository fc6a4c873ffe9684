section C31T
variable {sl : Nat} {sx : Nat → Int32} {w r : ri_W} {C : rd_S}
theorem rm_tk (z : Int32) {T : Int32 × (Nat → Int32) × Int32} (hT : rd_tk C (((1 : Int32) <<< (z &&& 31)) ^^^ (-1)) = T) : ri_M sl sx 39 [.ref 1, .int z] (rd_W C r) (.inl (some T.2.2), rd_W (rdM (rdK C T.1) T.2.1) r, 0, 0) := by
  unfold ri_M
  repeat refine ri_X.sh 4 rfl rfl rfl rfl ?_
  refine ri_loop (fun i (a : Int32 × (Nat → Int32) × Int32) => (4, [some (.ref 1), some (.int z), some (.int a.2.2), some (.int (nI i))], [], rd_W (rdM (rdK C a.1) a.2.1) r)) (rd_tko C (((1 : Int32) <<< (z &&& 31)) ^^^ (-1))) 4 ?_ (a := (rdk C, rdm C, 0)) ?_
  · intro i a o hi k
    obtain ⟨kt, m, n⟩ := a
    generalize hz : ((1 : Int32) <<< (z &&& 31)) ^^^ (-1) = y at k
    have hk : ∀ (kt2 : Int32) (m2 : Nat → Int32) (n2 : Int32), rd_tko C y i (kt, m, n) = (kt2, m2, n2) → ri_X sl sx 39 (4, [some (.ref 1), some (.int z), some (.int n2), some (.int (nI (i + 1)))], [], rd_W (rdM (rdK C kt2) m2) r) o := by
      intro kt2 m2 n2 e
      rw [e] at k
      exact k
    clear k
    repeat refine ri_X.s rfl rfl rfl ?_
    refine ri_X.bF rfl rfl (rx_ge (N := 4) (hi) rfl) ?_
    repeat refine ri_X.s rfl rfl rfl ?_
    refine ri_X.ald rfl rfl (hi) rfl ?_
    repeat refine ri_X.s rfl rfl rfl ?_
    refine ri_X.call0 rfl rfl rfl rfl rfl (rm_bit z) ?_
    repeat refine ri_X.s rfl rfl rfl ?_
    refine ri_X.ast rfl rfl rfl (hi) rfl ?_
    repeat refine ri_X.s rfl rfl rfl ?_
    sorry
  · sorry
end C31T
