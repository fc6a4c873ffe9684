section C32D
variable {sl : Nat} {sx : Nat → Int32} {w r : ri_W} {C : rd_S}
theorem rm_end {k : Nat} (hk : k < 6) : ri_M sl sx 37 [.ref 1, .int (nI k)] (rd_W C r) (.inl none, rd_W (rd_end C k) r, 0, 0) := by
  unfold ri_M
  repeat refine ri_X.s rfl rfl rfl ?_
  refine ri_X.call0 rfl rfl rfl rfl rfl (rm_bit (nI k)) ?_
  repeat refine ri_X.s rfl rfl rfl ?_
  rw [rd_WS]
  refine ri_X.ast rfl rfl rfl (hk) rfl ?_
  rw [rd_WV]
  exact ri_X.fin rfl rfl
theorem rm_drop {ow : Nat → Nat} (ho : ∀ s, s < 6 → rdo C s = nI (ow s) ∧ ow s < 6) : ri_M sl sx 38 [.ref 1] (rd_W C r) (.inl none, rd_W (rd_drop C ow) r, 0, 0) := by
  unfold ri_M
  repeat refine ri_X.sh 2 rfl rfl rfl rfl ?_
  refine ri_loop (fun i f => (2, [some (.ref 1), some (.int (nI i))], [], rd_W (rdV C f) r)) (fun s f => cond (decide (f s = 0)) f (upd f s (f s &&& rj_w (rdi C) 10 (rda C (ow s))))) 6 ?_ (a := rdv C) ?_
  · intro i f o hi k
    repeat refine ri_X.s rfl rfl rfl ?_
    refine ri_X.bF rfl rfl (rx_ge (N := 6) (hi) rfl) ?_
    repeat refine ri_X.s rfl rfl rfl ?_
    refine ri_X.ald rfl rfl (hi) rfl ?_
    repeat refine ri_X.s rfl rfl rfl ?_
    refine ri_X.br (b := decide (f i = 0)) rfl rfl (fun h => ?_) (fun h => ?_)
    · repeat refine ri_X.sh 2 rfl rfl rfl rfl ?_
      exact ri_X.eq (by simp only [h, nI_succ, Bool.true_and, Bool.false_and, Bool.and_true, Bool.and_false, Bool.not_true, Bool.not_false, cond_true, cond_false]; try rfl) k
    · repeat refine ri_X.s rfl rfl rfl ?_
      refine ri_X.ald rfl rfl (hi) rfl ?_
      repeat refine ri_X.s rfl rfl rfl ?_
      refine ri_X.ald rfl rfl (hi) rfl ?_
      have e : rdo (rdV C f) i = nI (ow i) := (ho i hi).1
      rw [e]
      refine ri_X.ald rfl rfl ((ho i hi).2) rfl ?_
      repeat refine ri_X.s rfl rfl rfl ?_
      refine ri_X.call0 rfl rfl rfl rfl rfl (rm_withJuniors (C := rdV C f) (rda C (ow i))) ?_
      repeat refine ri_X.s rfl rfl rfl ?_
      refine ri_X.ast rfl rfl rfl (hi) rfl ?_
      rw [rd_WV, rdVV]
      repeat refine ri_X.sh 2 rfl rfl rfl rfl ?_
      exact ri_X.eq (by simp only [h, nI_succ, Bool.true_and, Bool.false_and, Bool.and_true, Bool.and_false, Bool.not_true, Bool.not_false, cond_true, cond_false]; try rfl) k
  · repeat refine ri_X.s rfl rfl rfl ?_
    refine ri_X.bT rfl rfl (rx_geN (N := 6)) ?_
    exact ri_X.fin rfl rfl
end C32D
