/-! The loop of the law -/
theorem lw_sl4 {sl : Nat} (hs : sl ≤ 2051) : (Int32.ofNat sl - 4).toInt = (sl : Int) - 4 := by
  rw [Int32.toInt_sub]
  have e : (Int32.ofNat sl).toInt = (sl : Int) := nI_toInt (by omega)
  rw [e]
  have e4 : (4 : Int32).toInt = 4 := rfl
  rw [e4]
  unfold Int.bmod
  simp
  omega
theorem lw_gtT {sl k : Nat} (hs : sl ≤ 2051) (hk2 : k ≤ 4000) (hk : sl < k + 4) : decide (Int32.ofNat sl - 4 < nI k) = true := by
  refine decide_eq_true ?_
  rw [Int32.lt_iff_toInt_lt, lw_sl4 hs, nI_toInt (by omega)]
  omega
theorem lw_gtF {sl k : Nat} (hs : sl ≤ 2051) (hk : k + 4 ≤ sl) : decide (Int32.ofNat sl - 4 < nI k) = false := by
  refine decide_eq_false ?_
  rw [Int32.lt_iff_toInt_lt, lw_sl4 hs, nI_toInt (by omega)]
  omega
theorem lw_31 (x : Int32) : ∃ n, n < 32 ∧ x &&& 31 = nI n := by
  have h : rb_lo 5 (x &&& 31) := by
    intro j hj
    rw [rb_and]
    by_cases h : j < 32
    · have : ∀ j, j < 32 → 5 ≤ j → rb_t 31 j = false := by decide +kernel
      rw [this j h hj, Bool.and_false]
    · rw [rb_hi x (by omega), Bool.false_and]
  obtain ⟨n, hn, e⟩ := rb_nat_of (by omega) h
  exact ⟨n, by omega, e⟩
def lw_tg (n : Nat) : Nat := [184, 228, 284, 328, 384, 452, 520, 588, 656, 724, 792, 872, 928, 1008, 1076, 1132, 1200, 1268, 1343, 1427, 1511, 1595, 1651, 1707, 1763].getD n 1788
theorem lw_sw (L : List (Option Value)) (r : List Value) (w : ri_W) : ∀ n, n < 32 → ri_tsw 1719 0 24 #[115, 159, 215, 259, 315, 383, 451, 519, 587, 655, 723, 803, 859, 939, 1007, 1063, 1131, 1199, 1274, 1358, 1442, 1526, 1582, 1638, 1694] 69 L (.int (nI n) :: r) w = some (lw_tg n, L, r, w)
  | 0, _ => rfl
  | 1, _ => rfl
  | 2, _ => rfl
  | 3, _ => rfl
  | 4, _ => rfl
  | 5, _ => rfl
  | 6, _ => rfl
  | 7, _ => rfl
  | 8, _ => rfl
  | 9, _ => rfl
  | 10, _ => rfl
  | 11, _ => rfl
  | 12, _ => rfl
  | 13, _ => rfl
  | 14, _ => rfl
  | 15, _ => rfl
  | 16, _ => rfl
  | 17, _ => rfl
  | 18, _ => rfl
  | 19, _ => rfl
  | 20, _ => rfl
  | 21, _ => rfl
  | 22, _ => rfl
  | 23, _ => rfl
  | 24, _ => rfl
  | 25, _ => rfl
  | 26, _ => rfl
  | 27, _ => rfl
  | 28, _ => rfl
  | 29, _ => rfl
  | 30, _ => rfl
  | 31, _ => rfl
  | n + 32, h => absurd h (by omega)
section L80
variable {sl : Nat} {sx : Nat → Int32} {C : rd_S} {M : md_S} {f : Nat → Int64} {k m : Nat} {v5 v6 : Option Value}
theorem LW.up {st : ri_St} {m' : Nat} (h : LW sl sx m st) (hm : m ≤ m') : LW sl sx m' st := by
  obtain ⟨w, c, n, hx, hc, hn⟩ := h
  exact ⟨w, c, n, hx, by omega, by omega⟩
def lw_nx (sl : Nat) (sx : Nat → Int32) (m k : Nat) : Prop := ∀ C M f v5 v6, RlE C M → LW sl sx m (1788, [some (.ref 0), some (.ref 1), some (.ref 10), some (.ref 23), some (.int (nI k)), v5, v6], [], rd_W C (md_W M (lw_o f)))
theorem lw_t_addUser (hk : k + 4 ≤ sl) (hs : sl ≤ 2051) (hR : RlE C M) (next : lw_nx sl sx m k) : LW sl sx (m + 1) (184, [some (.ref 0), some (.ref 1), some (.ref 10), some (.ref 23), some (.int (nI k)), v5, v6], [], rd_W C (md_W M (lw_o f))) := by
  obtain ⟨ow, h⟩ := hR
  exact lw_k_addUser hk hs (rm_addUser) (fun _ _ => rn_addUser) (ag_addUser h) next
theorem lw_t_deleteUser (hk : k + 4 ≤ sl) (hs : sl ≤ 2051) (hR : RlE C M) (next : lw_nx sl sx m k) : LW sl sx (m + 1) (228, [some (.ref 0), some (.ref 1), some (.ref 10), some (.ref 23), some (.int (nI k)), v5, v6], [], rd_W C (md_W M (lw_o f))) := by
  obtain ⟨ow, h⟩ := hR
  exact lw_k_deleteUser hk hs (rm_deleteUser (Rl_rok h) (sx (k + 1))) (fun _ _ => rn_deleteUser (Rl_mok h) (sx (k + 1))) (ag_deleteUser h (sx (k + 1))) next
theorem lw_t_addRole (hk : k + 4 ≤ sl) (hs : sl ≤ 2051) (hR : RlE C M) (next : lw_nx sl sx m k) : LW sl sx (m + 1) (284, [some (.ref 0), some (.ref 1), some (.ref 10), some (.ref 23), some (.int (nI k)), v5, v6], [], rd_W C (md_W M (lw_o f))) := by
  obtain ⟨ow, h⟩ := hR
  exact lw_k_addRole hk hs (rm_addRole) (fun _ _ => rn_addRole) (ag_addRole h) next
theorem lw_t_deleteRole (hk : k + 4 ≤ sl) (hs : sl ≤ 2051) (hR : RlE C M) (next : lw_nx sl sx m k) : LW sl sx (m + 1) (328, [some (.ref 0), some (.ref 1), some (.ref 10), some (.ref 23), some (.int (nI k)), v5, v6], [], rd_W C (md_W M (lw_o f))) := by
  obtain ⟨ow, h⟩ := hR
  exact lw_k_deleteRole hk hs (rm_deleteRole (Rl_rok h) (sx (k + 1))) (fun _ _ => rn_deleteRole (Rl_mok h) (sx (k + 1))) (ag_deleteRole h (sx (k + 1))) next
theorem lw_t_assign (hk : k + 4 ≤ sl) (hs : sl ≤ 2051) (hR : RlE C M) (next : lw_nx sl sx m k) : LW sl sx (m + 1) (384, [some (.ref 0), some (.ref 1), some (.ref 10), some (.ref 23), some (.int (nI k)), v5, v6], [], rd_W C (md_W M (lw_o f))) := by
  obtain ⟨ow, h⟩ := hR
  exact lw_k_assign hk hs (rm_assign (Rl_rok h) (sx (k + 1)) (sx (k + 2))) (fun _ _ => rn_assign (sx (k + 1)) (sx (k + 2))) (ag_assign h (sx (k + 1)) (sx (k + 2))) next
theorem lw_t_deassign (hk : k + 4 ≤ sl) (hs : sl ≤ 2051) (hR : RlE C M) (next : lw_nx sl sx m k) : LW sl sx (m + 1) (452, [some (.ref 0), some (.ref 1), some (.ref 10), some (.ref 23), some (.int (nI k)), v5, v6], [], rd_W C (md_W M (lw_o f))) := by
  obtain ⟨ow, h⟩ := hR
  exact lw_k_deassign hk hs (rm_deassign (Rl_rok h) (sx (k + 1)) (sx (k + 2))) (fun _ _ => rn_deassign (Rl_mok h) (sx (k + 1)) (sx (k + 2))) (ag_deassign h (sx (k + 1)) (sx (k + 2))) next
theorem lw_t_grant (hk : k + 4 ≤ sl) (hs : sl ≤ 2051) (hR : RlE C M) (next : lw_nx sl sx m k) : LW sl sx (m + 1) (520, [some (.ref 0), some (.ref 1), some (.ref 10), some (.ref 23), some (.int (nI k)), v5, v6], [], rd_W C (md_W M (lw_o f))) := by
  obtain ⟨ow, h⟩ := hR
  exact lw_k_grant hk hs (rm_grant (Rl_rok h) (sx (k + 1)) (sx (k + 2))) (fun _ _ => rn_grant (sx (k + 1)) (sx (k + 2))) (ag_grant h (sx (k + 1)) (sx (k + 2))) next
theorem lw_t_revoke (hk : k + 4 ≤ sl) (hs : sl ≤ 2051) (hR : RlE C M) (next : lw_nx sl sx m k) : LW sl sx (m + 1) (588, [some (.ref 0), some (.ref 1), some (.ref 10), some (.ref 23), some (.int (nI k)), v5, v6], [], rd_W C (md_W M (lw_o f))) := by
  obtain ⟨ow, h⟩ := hR
  exact lw_k_revoke hk hs (rm_revoke (Rl_rok h) (sx (k + 1)) (sx (k + 2))) (fun _ _ => rn_revoke (sx (k + 1)) (sx (k + 2))) (ag_revoke h (sx (k + 1)) (sx (k + 2))) next
theorem lw_t_inherit (hk : k + 4 ≤ sl) (hs : sl ≤ 2051) (hR : RlE C M) (next : lw_nx sl sx m k) : LW sl sx (m + 1) (656, [some (.ref 0), some (.ref 1), some (.ref 10), some (.ref 23), some (.int (nI k)), v5, v6], [], rd_W C (md_W M (lw_o f))) := by
  obtain ⟨ow, h⟩ := hR
  exact lw_k_inherit hk hs (rm_inherit (Rl_rok h) (sx (k + 1)) (sx (k + 2))) (fun _ _ => rn_inherit (sx (k + 1)) (sx (k + 2))) (ag_inherit h (sx (k + 1)) (sx (k + 2))) next
theorem lw_t_disinherit (hk : k + 4 ≤ sl) (hs : sl ≤ 2051) (hR : RlE C M) (next : lw_nx sl sx m k) : LW sl sx (m + 1) (724, [some (.ref 0), some (.ref 1), some (.ref 10), some (.ref 23), some (.int (nI k)), v5, v6], [], rd_W C (md_W M (lw_o f))) := by
  obtain ⟨ow, h⟩ := hR
  exact lw_k_disinherit hk hs (rm_disinherit (Rl_rok h) (sx (k + 1)) (sx (k + 2))) (fun _ _ => rn_disinherit (Rl_mok h) (sx (k + 1)) (sx (k + 2))) (ag_disinherit h (sx (k + 1)) (sx (k + 2))) next
theorem lw_t_addSet (hk : k + 4 ≤ sl) (hs : sl ≤ 2051) (hR : RlE C M) (next : lw_nx sl sx m k) : LW sl sx (m + 1) (792, [some (.ref 0), some (.ref 1), some (.ref 10), some (.ref 23), some (.int (nI k)), v5, v6], [], rd_W C (md_W M (lw_o f))) := by
  obtain ⟨ow, h⟩ := hR
  exact lw_k_addSet hk hs (rm_addSet (sx (k + 1)) (sx (k + 2)) (sx (k + 3))) (fun _ _ => rn_addSet (sx (k + 1)) (sx (k + 2)) (sx (k + 3))) (ag_addSet h (sx (k + 1)) (sx (k + 2)) (sx (k + 3))) next
theorem lw_t_deleteSet (hk : k + 4 ≤ sl) (hs : sl ≤ 2051) (hR : RlE C M) (next : lw_nx sl sx m k) : LW sl sx (m + 1) (872, [some (.ref 0), some (.ref 1), some (.ref 10), some (.ref 23), some (.int (nI k)), v5, v6], [], rd_W C (md_W M (lw_o f))) := by
  obtain ⟨ow, h⟩ := hR
  exact lw_k_deleteSet hk hs (rm_deleteSet (sx (k + 1))) (fun _ _ => rn_deleteSet (sx (k + 1))) (ag_deleteSet h (sx (k + 1))) next
theorem lw_t_changeSet (hk : k + 4 ≤ sl) (hs : sl ≤ 2051) (hR : RlE C M) (next : lw_nx sl sx m k) : LW sl sx (m + 1) (928, [some (.ref 0), some (.ref 1), some (.ref 10), some (.ref 23), some (.int (nI k)), v5, v6], [], rd_W C (md_W M (lw_o f))) := by
  obtain ⟨ow, h⟩ := hR
  exact lw_k_changeSet hk hs (rm_changeSet (Rl_rok h) (sx (k + 1)) (sx (k + 2)) (sx (k + 3))) (fun _ _ => rn_changeSet (sx (k + 1)) (sx (k + 2)) (sx (k + 3))) (ag_changeSet h (sx (k + 1)) (sx (k + 2)) (sx (k + 3))) next
theorem lw_t_open (hk : k + 4 ≤ sl) (hs : sl ≤ 2051) (hR : RlE C M) (next : lw_nx sl sx m k) : LW sl sx (m + 1) (1008, [some (.ref 0), some (.ref 1), some (.ref 10), some (.ref 23), some (.int (nI k)), v5, v6], [], rd_W C (md_W M (lw_o f))) := by
  obtain ⟨ow, h⟩ := hR
  exact lw_k_open hk hs (rm_open (Rl_rok h) (sx (k + 1)) (sx (k + 2))) (fun _ _ => rn_open (sx (k + 1)) (sx (k + 2))) (ag_open h (sx (k + 1)) (sx (k + 2))) next
theorem lw_t_close (hk : k + 4 ≤ sl) (hs : sl ≤ 2051) (hR : RlE C M) (next : lw_nx sl sx m k) : LW sl sx (m + 1) (1076, [some (.ref 0), some (.ref 1), some (.ref 10), some (.ref 23), some (.int (nI k)), v5, v6], [], rd_W C (md_W M (lw_o f))) := by
  obtain ⟨ow, h⟩ := hR
  exact lw_k_close hk hs (rm_close (Rl_rok h) (sx (k + 1))) (fun _ _ => rn_close (sx (k + 1))) (ag_close h (sx (k + 1))) next
theorem lw_t_activate (hk : k + 4 ≤ sl) (hs : sl ≤ 2051) (hR : RlE C M) (next : lw_nx sl sx m k) : LW sl sx (m + 1) (1132, [some (.ref 0), some (.ref 1), some (.ref 10), some (.ref 23), some (.int (nI k)), v5, v6], [], rd_W C (md_W M (lw_o f))) := by
  obtain ⟨ow, h⟩ := hR
  exact lw_k_activate hk hs (rm_activate (Rl_rok h) (sx (k + 1)) (sx (k + 2))) (fun _ _ => rn_activate (Rl_mok h) (sx (k + 1)) (sx (k + 2))) (ag_activate h (sx (k + 1)) (sx (k + 2))) next
theorem lw_t_deactivate (hk : k + 4 ≤ sl) (hs : sl ≤ 2051) (hR : RlE C M) (next : lw_nx sl sx m k) : LW sl sx (m + 1) (1200, [some (.ref 0), some (.ref 1), some (.ref 10), some (.ref 23), some (.int (nI k)), v5, v6], [], rd_W C (md_W M (lw_o f))) := by
  obtain ⟨ow, h⟩ := hR
  exact lw_k_deactivate hk hs (rm_deactivate (Rl_rok h) (sx (k + 1)) (sx (k + 2))) (fun _ _ => rn_deactivate (sx (k + 1)) (sx (k + 2))) (ag_deactivate h (sx (k + 1)) (sx (k + 2))) next
theorem lw_t_check (hk : k + 4 ≤ sl) (hs : sl ≤ 2051) (hR : RlE C M) (next : lw_nx sl sx m k) : LW sl sx (m + 1) (1268, [some (.ref 0), some (.ref 1), some (.ref 10), some (.ref 23), some (.int (nI k)), v5, v6], [], rd_W C (md_W M (lw_o f))) := by
  obtain ⟨ow, h⟩ := hR
  exact lw_k_check hk hs (rm_check (Rl_rok h) (sx (k + 1)) (sx (k + 2))) (fun _ _ => rn_check (sx (k + 1)) (sx (k + 2))) (ag_check h (sx (k + 1)) (sx (k + 2))) (ck_b _ _ _ _) next
theorem lw_t_rolesOf (hk : k + 4 ≤ sl) (hs : sl ≤ 2051) (hR : RlE C M) (next : lw_nx sl sx m k) : LW sl sx (m + 1) (1343, [some (.ref 0), some (.ref 1), some (.ref 10), some (.ref 23), some (.int (nI k)), v5, v6], [], rd_W C (md_W M (lw_o f))) := by
  obtain ⟨ow, h⟩ := hR
  exact lw_k_rolesOf (by rw [Bool.not_not]) hk hs (rm_rolesOf (Rl_rok h) (sx (k + 1)) (!(decide (sx (k + 2) = 0)))) (fun _ _ => rn_rolesOf (sx (k + 1)) (!(decide (sx (k + 2) = 0)))) (ag_rolesOf h (sx (k + 1)) (!(decide (sx (k + 2) = 0)))) next
theorem lw_t_usersOf (hk : k + 4 ≤ sl) (hs : sl ≤ 2051) (hR : RlE C M) (next : lw_nx sl sx m k) : LW sl sx (m + 1) (1427, [some (.ref 0), some (.ref 1), some (.ref 10), some (.ref 23), some (.int (nI k)), v5, v6], [], rd_W C (md_W M (lw_o f))) := by
  obtain ⟨ow, h⟩ := hR
  exact lw_k_usersOf (by rw [Bool.not_not]) hk hs (rm_usersOf (sx (k + 1)) (!(decide (sx (k + 2) = 0)))) (fun _ _ => rn_usersOf (sx (k + 1)) (!(decide (sx (k + 2) = 0)))) (ag_usersOf h (sx (k + 1)) (!(decide (sx (k + 2) = 0)))) next
theorem lw_t_permissions (hk : k + 4 ≤ sl) (hs : sl ≤ 2051) (hR : RlE C M) (next : lw_nx sl sx m k) : LW sl sx (m + 1) (1511, [some (.ref 0), some (.ref 1), some (.ref 10), some (.ref 23), some (.int (nI k)), v5, v6], [], rd_W C (md_W M (lw_o f))) := by
  obtain ⟨ow, h⟩ := hR
  exact lw_k_permissions (by rw [Bool.not_not]) hk hs (rm_permissions (Rl_rok h) (sx (k + 1)) (!(decide (sx (k + 2) = 0)))) (fun _ _ => rn_permissions (sx (k + 1)) (!(decide (sx (k + 2) = 0)))) (ag_permissions h (sx (k + 1)) (!(decide (sx (k + 2) = 0)))) next
theorem lw_t_juniors (hk : k + 4 ≤ sl) (hs : sl ≤ 2051) (hR : RlE C M) (next : lw_nx sl sx m k) : LW sl sx (m + 1) (1595, [some (.ref 0), some (.ref 1), some (.ref 10), some (.ref 23), some (.int (nI k)), v5, v6], [], rd_W C (md_W M (lw_o f))) := by
  obtain ⟨ow, h⟩ := hR
  exact lw_k_juniors hk hs (rm_juniors (sx (k + 1))) (fun _ _ => rn_juniors (sx (k + 1))) (ag_juniors h (sx (k + 1))) next
theorem lw_t_active (hk : k + 4 ≤ sl) (hs : sl ≤ 2051) (hR : RlE C M) (next : lw_nx sl sx m k) : LW sl sx (m + 1) (1651, [some (.ref 0), some (.ref 1), some (.ref 10), some (.ref 23), some (.int (nI k)), v5, v6], [], rd_W C (md_W M (lw_o f))) := by
  obtain ⟨ow, h⟩ := hR
  exact lw_k_active hk hs (rm_active (Rl_rok h) (sx (k + 1))) (fun _ _ => rn_active (sx (k + 1))) (ag_active h (sx (k + 1))) next
theorem lw_t_sessionsOf (hk : k + 4 ≤ sl) (hs : sl ≤ 2051) (hR : RlE C M) (next : lw_nx sl sx m k) : LW sl sx (m + 1) (1707, [some (.ref 0), some (.ref 1), some (.ref 10), some (.ref 23), some (.int (nI k)), v5, v6], [], rd_W C (md_W M (lw_o f))) := by
  obtain ⟨ow, h⟩ := hR
  exact lw_k_sessionsOf hk hs (rm_sessionsOf (sx (k + 1))) (fun _ _ => rn_sessionsOf (sx (k + 1))) (ag_sessionsOf h (sx (k + 1))) next
theorem lw_t_there (hk : k + 4 ≤ sl) (hs : sl ≤ 2051) (hR : RlE C M) (next : lw_nx sl sx m k) : LW sl sx (m + 1) (1763, [some (.ref 0), some (.ref 1), some (.ref 10), some (.ref 23), some (.int (nI k)), v5, v6], [], rd_W C (md_W M (lw_o f))) := by
  obtain ⟨ow, h⟩ := hR
  exact lw_k_there hk hs (rm_thereM (sx (k + 1))) (rn_thereM (sx (k + 1))) (ag_there h (sx (k + 1))) next
theorem lw_turn (hk : k + 4 ≤ sl) (hs : sl ≤ 2051) (hR : RlE C M) (next : lw_nx sl sx m k) : ∀ n, LW sl sx (m + 1) (lw_tg n, [some (.ref 0), some (.ref 1), some (.ref 10), some (.ref 23), some (.int (nI k)), v5, v6], [], rd_W C (md_W M (lw_o f)))
  | 0 => lw_t_addUser hk hs hR next
  | 1 => lw_t_deleteUser hk hs hR next
  | 2 => lw_t_addRole hk hs hR next
  | 3 => lw_t_deleteRole hk hs hR next
  | 4 => lw_t_assign hk hs hR next
  | 5 => lw_t_deassign hk hs hR next
  | 6 => lw_t_grant hk hs hR next
  | 7 => lw_t_revoke hk hs hR next
  | 8 => lw_t_inherit hk hs hR next
  | 9 => lw_t_disinherit hk hs hR next
  | 10 => lw_t_addSet hk hs hR next
  | 11 => lw_t_deleteSet hk hs hR next
  | 12 => lw_t_changeSet hk hs hR next
  | 13 => lw_t_open hk hs hR next
  | 14 => lw_t_close hk hs hR next
  | 15 => lw_t_activate hk hs hR next
  | 16 => lw_t_deactivate hk hs hR next
  | 17 => lw_t_check hk hs hR next
  | 18 => lw_t_rolesOf hk hs hR next
  | 19 => lw_t_usersOf hk hs hR next
  | 20 => lw_t_permissions hk hs hR next
  | 21 => lw_t_juniors hk hs hR next
  | 22 => lw_t_active hk hs hR next
  | 23 => lw_t_sessionsOf hk hs hR next
  | 24 => lw_t_there hk hs hR next
  | n + 25 => (next C M f v5 v6 hR).up (Nat.le_succ m)
theorem lwp_4 (k : Nat) : nI k + 4 = nI (k + 4) := nJ_add k 4
theorem lw_exit (hs : sl ≤ 2051) (hk2 : k ≤ 4000) (hk : sl < k + 4) (w : ri_W) : LW sl sx m (53, [some (.ref 0), some (.ref 1), some (.ref 10), some (.ref 23), some (.int (nI k)), v5, v6], [], w) := by
  refine ⟨w, 0, 0, ?_, by omega, by omega⟩
  repeat refine ri_X.s rfl rfl rfl ?_
  refine ri_X.bT rfl rfl (lw_gtT hs hk2 hk) ?_
  repeat refine ri_X.s rfl rfl rfl ?_
  exact ri_X.finB (b := true) rfl rfl
theorem lw_step (hs : sl ≤ 2051) (hk : k + 4 ≤ sl) (hR : RlE C M) (next : lw_nx sl sx m k) : LW sl sx (m + 1) (53, [some (.ref 0), some (.ref 1), some (.ref 10), some (.ref 23), some (.int (nI k)), v5, v6], [], rd_W C (md_W M (lw_o f))) := by
  obtain ⟨n, hn, e⟩ := lw_31 (sx k)
  obtain ⟨w, c, j, hx, hc, hj⟩ := lw_turn (f := f) (v5 := v5) (v6 := v6) hk hs hR next n
  refine ⟨w, c, j, ?_, hc, hj⟩
  clear next
  repeat refine ri_X.s rfl rfl rfl ?_
  refine ri_X.bF rfl rfl (lw_gtF hs hk) ?_
  repeat refine ri_X.s rfl rfl rfl ?_
  refine ri_X.sld rfl (by omega) (by omega) ?_
  repeat refine ri_X.sh 69 rfl rfl rfl rfl ?_
  show ri_X sl sx 124 (69, _, [.int (sx k &&& 31)], _) _
  rw [e]
  exact ri_X.op rfl (lw_sw _ _ _ n hn) hx
theorem lw_back (h : ∀ C M f v5 v6, RlE C M → LW sl sx m (53, [some (.ref 0), some (.ref 1), some (.ref 10), some (.ref 23), some (.int (nI (k + 4))), v5, v6], [], rd_W C (md_W M (lw_o f)))) : lw_nx sl sx m k := by
  intro C M f v5 v6 hR
  obtain ⟨w, c, j, hx, hc, hj⟩ := h C M f v5 v6 hR
  refine ⟨w, c, j, ?_, hc, hj⟩
  rw [← lwp_4] at hx
  repeat refine ri_X.sh 53 rfl rfl rfl rfl ?_
  exact hx
theorem lw_loop (hs : sl ≤ 2051) : ∀ m k, k ≤ 2100 → sl ≤ k + 3 + 4 * m → ∀ C M f v5 v6, RlE C M → LW sl sx m (53, [some (.ref 0), some (.ref 1), some (.ref 10), some (.ref 23), some (.int (nI k)), v5, v6], [], rd_W C (md_W M (lw_o f))) := by
  intro m
  induction m with
  | zero => intro k hk2 hm C M f v5 v6 _; exact lw_exit hs (by omega) (by omega) _
  | succ m ih =>
    intro k hk2 hm C M f v5 v6 hR
    by_cases hk : k + 4 ≤ sl
    · exact lw_step hs hk hR (lw_back (ih (k + 4) (by omega) (by omega)))
    · exact lw_exit hs (by omega) (by omega) _
end L80
