/-! The law from its beginning -/
section L81
variable {sl : Nat} {sx : Nat → Int32} {C : rd_S} {M : md_S} {f : Nat → Int64} {k m : Nat} {v5 v6 : Option Value}
theorem lw_o0 : lw_o (fun _ => 0) = [.inl (1, 1, .inr (.inl (fun _ => 0)))] := rfl
theorem lw_b3 (hs : sl ≤ 2051) (hR : RlE C M) : ∃ (w : ri_W) (c n : Nat), ri_X sl sx 124 (46, [some (.ref 0), some (.ref 1), some (.ref 10), none, none, none, none], [], rd_W C (md_W M [])) (.inl (some 1), w, 1 + c, 1 + n) ∧ c ≤ 512 ∧ n ≤ 6 * 512 := by
  obtain ⟨w, c, n, hx, hc, hn⟩ := lw_loop (sx := sx) hs 512 3 (by omega) (by omega) C M (fun _ => 0) none none hR
  refine ⟨w, c, n, ?_, hc, hn⟩
  repeat refine ri_X.s rfl rfl rfl ?_
  refine ri_X.mk rfl rfl rfl rfl ?_
  repeat refine ri_X.sh 53 rfl rfl rfl rfl ?_
  exact hx
theorem lw_b2 (hs : sl ≤ 2051) (x y z : Int32) (hx0 : (if 0 < sl then sx 0 else 0) = x) (hy0 : (if 1 < sl then sx 1 else 0) = y) (hz0 : (if 2 < sl then sx 2 else 0) = z) (hR : RlE C (md_new x y z)) : ∃ (w : ri_W) (c n : Nat), ri_X sl sx 124 (23, [some (.ref 0), some (.ref 1), none, none, none, none, none], [], rd_W C []) (.inl (some 1), w, 1 + (12 + (1 + c)), 14 + (560 + (1 + n))) ∧ c ≤ 512 ∧ n ≤ 6 * 512 := by
  obtain ⟨w, c, n, hx, hc, hn⟩ := lw_b3 (sx := sx) hs hR
  refine ⟨w, c, n, ?_, hc, hn⟩
  have c0 := lw_cell (sx := sx) (w := rd_W C [.inr (1, ri_df 1)]) (k := 0) (by omega) hs
  have c1 := lw_cell (sx := sx) (w := rd_W C [.inr (1, ri_df 1)]) (k := 1) (by omega) hs
  have c2 := lw_cell (sx := sx) (w := rd_W C [.inr (1, ri_df 1)]) (k := 2) (by omega) hs
  rw [hx0] at c0
  rw [hy0] at c1
  rw [hz0] at c2
  refine ri_X.mk rfl rfl rfl rfl ?_
  rw [rd_app]
  repeat refine ri_X.s rfl rfl rfl ?_
  refine ri_X.call0 rfl rfl rfl rfl rfl c0 ?_
  repeat refine ri_X.s rfl rfl rfl ?_
  refine ri_X.call0 rfl rfl rfl rfl rfl c1 ?_
  repeat refine ri_X.s rfl rfl rfl ?_
  refine ri_X.call0 rfl rfl rfl rfl rfl c2 ?_
  refine ri_X.call rfl rfl rfl rfl rfl (rn_new x y z) ?_
  repeat refine ri_X.sh 46 rfl rfl rfl rfl ?_
  exact hx
theorem lw_b1 (hs : sl ≤ 2051) (x y z : Int32) (hx0 : (if 0 < sl then sx 0 else 0) = x) (hy0 : (if 1 < sl then sx 1 else 0) = y) (hz0 : (if 2 < sl then sx 2 else 0) = z) : ∃ (w : ri_W) (c n : Nat), ri_X sl sx 124 (0, [some (.ref 0), none, none, none, none, none, none], [], []) (.inl (some 1), w, 1 + (8 + (1 + (12 + (1 + c)))), 13 + (50 + (14 + (560 + (1 + n))))) ∧ c ≤ 512 ∧ n ≤ 6 * 512 := by
  obtain ⟨w, c, n, hx, hc, hn⟩ := lw_b2 (C := rd_new x y z) hs x y z hx0 hy0 hz0 ⟨_, Rl_new x y z⟩
  refine ⟨w, c, n, ?_, hc, hn⟩
  have c0 := lw_cell (sx := sx) (w := [.inr (0, ri_df 0)]) (k := 0) (by omega) hs
  have c1 := lw_cell (sx := sx) (w := [.inr (0, ri_df 0)]) (k := 1) (by omega) hs
  have c2 := lw_cell (sx := sx) (w := [.inr (0, ri_df 0)]) (k := 2) (by omega) hs
  rw [hx0] at c0
  rw [hy0] at c1
  rw [hz0] at c2
  refine ri_X.mk rfl rfl rfl rfl ?_
  repeat refine ri_X.s rfl rfl rfl ?_
  refine ri_X.call0 rfl rfl rfl rfl rfl c0 ?_
  repeat refine ri_X.s rfl rfl rfl ?_
  refine ri_X.call0 rfl rfl rfl rfl rfl c1 ?_
  repeat refine ri_X.s rfl rfl rfl ?_
  refine ri_X.call0 rfl rfl rfl rfl rfl c2 ?_
  refine ri_X.call rfl rfl rfl rfl rfl (rm_new x y z) ?_
  repeat refine ri_X.sh 23 rfl rfl rfl rfl ?_
  exact hx
end L81
theorem ri_law : ri_LawRuns := by
  intro sl sx hs
  obtain ⟨w, c, n, hx, hc, hn⟩ := lw_b1 (sl := sl) (sx := sx) hs _ _ _ rfl rfl rfl
  exact ⟨w, _, _, hx, by omega, by omega⟩
