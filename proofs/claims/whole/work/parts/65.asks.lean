/-! The questions, and the calls that only take away -/
section R65
variable {C : rd_S} {M M' : md_S} {ow : Nat → Nat}
theorem md_msk_eq {B : Nat → Bool} {N : Nat} {x : Int32} (hN : N ≤ 32) (hl : rb_lo N x) (hb : ∀ j, j < N → B j = rb_t x j) : md_msk B N = x := by
  refine rb_ext fun j hj => ?_
  rw [md_msk_t B N hN]
  by_cases h : j < N
  · rw [decide_eq_true h, Bool.true_and, hb j h]
  · rw [decide_eq_false h, Bool.false_and, hl j (by omega)]
theorem rb_fo_t (P : Nat → Bool) : ∀ n, n ≤ 32 → ∀ j, rb_t (ri_fo (fun i v => cond (P i) (v ||| rb_b i) v) n 0) j = (decide (j < n) && P j) := by
  intro n
  induction n with
  | zero => intro _ j; show rb_t 0 j = _; rw [rb_0]; simp
  | succ n ih =>
    intro hn j
    have ih := ih (by omega) j
    show rb_t (cond (P n) (_ ||| rb_b n) _) j = _
    by_cases e : j = n
    · subst e
      cases hb : P j with
      | false =>
        rw [cond_false, ih]
        simp
      | true =>
        rw [cond_true, rb_set _ (by omega)]
        simp
    · have e2 : decide (j < n + 1) = decide (j < n) := by rw [decide_eq_decide]; omega
      rw [e2, ← ih]
      cases P n with
      | false => rfl
      | true => rw [cond_true, rb_set _ (by omega), decide_eq_false e, Bool.or_false]
theorem ag_rolesOf (h : Rl C M ow) (x : Int32) (a : Bool) : lw_ag RlE lw_cB C (rd_rolesOf C x a x.toNatClampNeg) (md_rolesOf M x a x.toNatClampNeg) := by
  obtain ⟨hl, hu, hr, ha, hg, hi, hs, hv, hk, hd, hH, hB, hA⟩ := id h
  unfold rd_rolesOf md_rolesOf
  rw [rl_nu hu x]
  cases hx : rb_h (rdu C) x with
  | false => exact ag_r (cd := lw_cB) (e := 0) h (by decide)
  | true =>
  obtain ⟨u, hu6, hu16, rfl, htu, eu, -⟩ := rb_hx hu.2 hx
  rw [eu]
  refine ag_k h ?_
  cases a with
  | false => exact md_msk_eq (by omega) (ha u hu6).2 (fun j hj => ((ha u hu6).1 j hj).symm)
  | true =>
    refine md_msk_eq (by omega) (rl_cl hi hH (ha u hu6).2).1 (fun j hj => ?_)
    show md_au (mdT M 0) u j = _
    rw [md_au_same (M := M) (M' := mdT M 0) hj (fun _ _ => rfl) (fun _ _ _ _ => rfl)]
    exact rl_au ha hi hH hu6 hj
theorem ag_usersOf (h : Rl C M ow) (x : Int32) (a : Bool) : lw_ag RlE lw_cB C (rd_usersOf C x a) (md_usersOf M x a x.toNatClampNeg) := by
  obtain ⟨hl, hu, hr, ha, hg, hi, hs, hv, hk, hd, hH, hB, hA⟩ := id h
  unfold rd_usersOf md_usersOf
  rw [rl_nr hr x]
  cases hx : rb_h (rdr C) x with
  | false => exact ag_r (cd := lw_cB) (e := 0) h (by decide)
  | true =>
  obtain ⟨u, hu10, hu16, rfl, htu, eu, -⟩ := rb_hx hr.2 hx
  rw [eu]
  refine ag_k h ?_
  refine md_msk_eq (by omega) (fun j hj => ?_) (fun j hj => ?_)
  · unfold rd_uo
    rw [rb_fo_t (fun i => rb_h (rd_uoR C a i) (nI u)) 6 (by omega), decide_eq_false (by omega), Bool.false_and]
  · unfold rd_uo
    rw [rb_fo_t (fun i => rb_h (rd_uoR C a i) (nI u)) 6 (by omega), decide_eq_true hj, Bool.true_and, rb_hk _ hu16]
    cases a with
    | false => exact ((ha j hj).1 u hu10).symm
    | true =>
      show md_au (mdT M 0) j u = rb_t (rj_w (rdi C) 10 (rda C j)) u
      rw [md_au_same (M := M) (M' := mdT M 0) hu10 (fun _ _ => rfl) (fun _ _ _ _ => rfl)]
      exact rl_au ha hi hH hj hu10
theorem rl_had (h : Rl C M ow) {x : Int32} (hx : rb_lo 10 x) : rb_lo 16 (rd_had C x) ∧ ∀ p, p < 16 → rb_t (rd_had C x) p = ri_ex (fun i => rb_t x i && md_ha M i p) 10 := by
  obtain ⟨hl, hu, hr, ha, hg, hi, hs, hv, hk, hd, hH, hB, hA⟩ := id h
  refine ⟨fun p hp => ?_, fun p hp => ?_⟩
  · rw [rd_had_t]
    exact ri_ex_no fun i hi => by rw [(hg i hi).2 p hp, Bool.and_false]
  · rw [rd_had_t, Bool.eq_iff_iff, ri_ex_iff, ri_ex_iff]
    constructor
    · rintro ⟨i, hi10, hh⟩
      rw [Bool.and_eq_true, (rl_cl hi hH hx).2 i hi10, ri_ex_iff] at hh
      obtain ⟨⟨q, hq, hh1⟩, hh2⟩ := hh
      rw [Bool.and_eq_true] at hh1
      refine ⟨q, hq, ?_⟩
      rw [Bool.and_eq_true, md_ha_ex, ri_ex_iff]
      exact ⟨hh1.1, i, hi10, by rw [Bool.and_eq_true, ← (hg i hi10).1 p hp]; exact ⟨hh1.2, hh2⟩⟩
    · rintro ⟨q, hq, hh⟩
      rw [Bool.and_eq_true, md_ha_ex, ri_ex_iff] at hh
      obtain ⟨hh1, i, hi10, hh2⟩ := hh
      rw [Bool.and_eq_true, ← (hg i hi10).1 p hp] at hh2
      refine ⟨i, hi10, ?_⟩
      rw [Bool.and_eq_true, (rl_cl hi hH hx).2 i hi10, ri_ex_iff]
      exact ⟨⟨q, hq, by rw [Bool.and_eq_true]; exact ⟨hh1, hh2.1⟩⟩, hh2.2⟩
theorem md_ha_T (M : md_S) (t : Int32) (u z : Nat) : md_ha (mdT M t) u z = md_ha M u z := by
  rw [md_ha_ex, md_ha_ex]
  exact ri_ex_congr fun q _ => rfl
theorem ag_permissions (h : Rl C M ow) (x : Int32) (a : Bool) : lw_ag RlE lw_cB C (rd_permissions C x a x.toNatClampNeg) (md_permissions M x a x.toNatClampNeg) := by
  obtain ⟨hl, hu, hr, ha, hg, hi, hs, hv, hk, hd, hH, hB, hA⟩ := id h
  unfold rd_permissions md_permissions
  rw [rl_nr hr x]
  cases hx : rb_h (rdr C) x with
  | false => exact ag_r (cd := lw_cB) (e := 0) h (by decide)
  | true =>
  obtain ⟨u, hu10, hu16, rfl, htu, eu, eb⟩ := rb_hx hr.2 hx
  rw [eu, eb]
  refine ag_k h ?_
  cases a with
  | false => exact md_msk_eq (by omega) (hg u hu10).2 (fun j hj => ((hg u hu10).1 j hj).symm)
  | true =>
    have hh := rl_had h (rb_lo_b hu10 (by omega))
    refine md_msk_eq (by omega) hh.1 (fun j hj => ?_)
    show md_ha (mdT M 0) u j = rb_t (rd_had C (rb_b u)) j
    rw [hh.2 j hj, md_ha_T, Bool.eq_iff_iff, ri_ex_iff]
    constructor
    · intro q
      exact ⟨u, hu10, by rw [rb_b_t (by omega), decide_eq_true rfl, q]; rfl⟩
    · rintro ⟨i, hi10, hh⟩
      rw [Bool.and_eq_true, rb_b_t (by omega), decide_eq_true_eq] at hh
      rw [← hh.1]
      exact hh.2
theorem ag_juniors (h : Rl C M ow) (x : Int32) : lw_ag RlE lw_cB C (rd_juniors C x) (md_juniors M x x.toNatClampNeg) := by
  obtain ⟨hl, hu, hr, ha, hg, hi, hs, hv, hk, hd, hH, hB, hA⟩ := id h
  unfold rd_juniors md_juniors
  rw [rl_nr hr x]
  cases hx : rb_h (rdr C) x with
  | false => exact ag_r (cd := lw_cB) (e := 0) h (by decide)
  | true =>
  obtain ⟨u, hu10, hu16, rfl, htu, eu, eb⟩ := rb_hx hr.2 hx
  rw [eu, eb]
  refine ag_k h ?_
  exact md_msk_eq (by omega) (rl_cl hi hH (rb_lo_b hu10 (by omega))).1 (fun j hj => rl_ju hi hH hu10 hj)
theorem ag_active (h : Rl C M ow) (x : Int32) : lw_ag RlE lw_cB C (rd_active C x x.toNatClampNeg) (md_active M x x.toNatClampNeg) := by
  obtain ⟨hl, hu, hr, ha, hg, hi, hs, hv, hk, hd, hH, hB, hA⟩ := id h
  unfold rd_active md_active
  rw [rl_ns hs x]
  cases hx : rb_h (rds C) x with
  | false => exact ag_r (cd := lw_cB) (e := 0) h (by decide)
  | true =>
  obtain ⟨u, hu6, hu16, rfl, htu, eu, eb⟩ := rb_hx hs.1 hx
  rw [eu]
  refine ag_k h ?_
  exact md_msk_eq (by omega) (hv u hu6).1 (fun j hj => ((hv u hu6).2.1 htu j hj).symm)
theorem rl_sou (h : Rl C M ow) {u : Nat} (hu : u < 16) : rb_lo 6 (rd_sou C (nI u)) ∧ ∀ s, s < 6 → rb_t (rd_sou C (nI u)) s = decide (mdo M s = nI u) := by
  obtain ⟨hl, -, hr, ha, hg, hi, hs, hv, hk, hd, hH, hB, hA⟩ := id h
  have e : ∀ s, rb_t (rd_sou C (nI u)) s = (decide (s < 6) && (rb_h (rds C) (nI s) && decide (rdo C s = nI u))) := rb_fo_t (fun i => rb_h (rds C) (nI i) && decide (rdo C i = nI u)) 6 (by omega)
  refine ⟨fun s hs6 => by rw [e, decide_eq_false (by omega), Bool.false_and], fun s hs6 => ?_⟩
  rw [e, decide_eq_true hs6, Bool.true_and, rb_hk _ (by omega)]
  obtain ⟨⟨h1, h2⟩, h3, h4⟩ := hs.2 s hs6
  cases ht : rb_t (rds C) s with
  | true =>
    rw [h1, h4 ht, Bool.true_and]
  | false =>
    rw [Bool.false_and]
    symm
    refine decide_eq_false fun q => ?_
    rw [ht, q, decide_eq_false (nI_pos (by omega))] at h3
    cases h3
theorem ag_sessionsOf (h : Rl C M ow) (x : Int32) : lw_ag RlE lw_cB C (rd_sessionsOf C x) (md_sessionsOf M x) := by
  obtain ⟨hl, hu, hr, ha, hg, hi, hs, hv, hk, hd, hH, hB, hA⟩ := id h
  unfold rd_sessionsOf md_sessionsOf
  rw [rl_nu hu x]
  cases hx : rb_h (rdu C) x with
  | false => exact ag_r (cd := lw_cB) (e := 0) h (by decide)
  | true =>
  obtain ⟨u, hu6, hu16, rfl, htu, eu, -⟩ := rb_hx hu.2 hx
  refine ag_k h ?_
  have hh := rl_sou h hu16
  exact md_msk_eq (by omega) hh.1 (fun j hj => (hh.2 j hj).symm)
theorem ag_check (h : Rl C M ow) (x y : Int32) : lw_ag RlE lw_cB C (rd_check C x y x.toNatClampNeg) (md_check M x y x.toNatClampNeg y.toNatClampNeg) := by
  obtain ⟨hl, hu, hr, ha, hg, hi, hs, hv, hk, hd, hH, hB, hA⟩ := id h
  unfold rd_check md_check
  rw [rl_ns hs x, rl_np y]
  cases hx : rb_h (rds C) x with
  | false => exact ag_r (cd := lw_cB) (e := 0) h (by decide)
  | true =>
  cases hy : rb_h 65535 y with
  | false => exact ag_r (cd := lw_cB) (e := 0) h (by decide)
  | true =>
  obtain ⟨u, hu6, hu16, rfl, htu, eu, -⟩ := rb_hx hs.1 hx
  obtain ⟨v, hv16, rfl, -⟩ := rb_hs hy
  rw [eu, rx16 hv16, rb_hk _ hv16]
  refine ag_k h ?_
  congr 1
  rw [(rl_had h (hv u hu6).1).2 v hv16]
  have e : md_ck (mdT M 0) u v = ri_ex (fun i => mdv (mdT M 0) (10 * u + i) && md_ha (mdT M 0) i v) 10 := ri_fo_or _ 10
  rw [e]
  refine ri_ex_congr fun i hi10 => ?_
  rw [(hv u hu6).2.1 htu i hi10, md_ha_T]
  rfl
theorem ck_b (C : rd_S) (x y : Int32) (u : Nat) : ∀ p, rd_check C x y u = .inl p → ∃ b, p.1 = rb_i b := by
  intro p hp
  unfold rd_check at hp
  cases h1 : rb_h (rds C) x with
  | false => rw [h1] at hp; cases hp
  | true =>
    cases h2 : rb_h 65535 y with
    | false => rw [h1, h2] at hp; cases hp
    | true =>
      rw [h1, h2] at hp
      cases hp
      exact ⟨_, rfl⟩
theorem rl_sok (hk : rl_K (rdk C) (rdn C) (rdm C) (rdb C) (mdk M) (mdn M) (mdm M)) (c : Int32) (hc : decide (c < 0) = false) : md_msk (fun k => decide (k < 4) && decide (mdk M k = c)) 10 = rd_sok C c := by
  have e : ∀ s, rb_t (rd_sok C c) s = (decide (s < 4) && (rb_h (rdk C) (nI s) && decide (rdn C s = c))) := rb_fo_t (fun i => rb_h (rdk C) (nI i) && decide (rdn C i = c)) 4 (by omega)
  refine md_msk_eq (by omega) (fun j hj => by rw [e, decide_eq_false (by omega), Bool.false_and]) (fun j hj => ?_)
  rw [e]
  by_cases h4 : j < 4
  · rw [decide_eq_true h4, Bool.true_and, Bool.true_and, rb_hk _ (by omega)]
    obtain ⟨h1, h2⟩ := hk.2 j h4
    cases ht : rb_t (rdk C) j with
    | true => rw [(h2 ht).1, Bool.true_and]
    | false =>
      rw [Bool.false_and]
      refine decide_eq_false fun q => ?_
      rw [ht, q, hc] at h1
      cases h1
  · rw [decide_eq_false h4, Bool.false_and, Bool.false_and]
theorem ag_there (h : Rl C M ow) (x : Int32) : (md_there M x).1 = rd_thereV C x ∧ RlE C (md_there M x).2 := by
  obtain ⟨hl, hu, hr, ha, hg, hi, hs, hv, hk, hd, hH, hB, hA⟩ := id h
  refine ⟨?_, ow, Rl_T h 0⟩
  show md_msk (fun k => md_ti (mdT M 0) x k) 10 = rd_thereV C x
  unfold rd_thereV
  by_cases h0 : x = 0
  · subst h0
    rw [if_pos rfl]
    refine md_msk_eq (by omega) (rb_lo_mono (by omega) hu.2) (fun j hj => ?_)
    show (decide (j < 6) && mdu M j) = _
    by_cases h6 : j < 6
    · rw [decide_eq_true h6, Bool.true_and, hu.1 j h6]
    · rw [decide_eq_false h6, Bool.false_and, hu.2 j (by omega)]
  rw [if_neg h0]
  by_cases h1 : x = 1
  · subst h1
    rw [if_pos rfl]
    exact md_msk_eq (by omega) hr.2 (fun j hj => (hr.1 j hj).symm)
  rw [if_neg h1]
  by_cases h2 : x = 2
  · subst h2
    rw [if_pos rfl]
    refine md_msk_eq (by omega) (rb_lo_mono (by omega) hs.1) (fun j hj => ?_)
    show (decide (j < 6) && !(decide (mdo M j < 0))) = _
    by_cases h6 : j < 6
    · rw [decide_eq_true h6, Bool.true_and, (hs.2 j h6).2.1]
    · rw [decide_eq_false h6, Bool.false_and, hs.1 j (by omega)]
  rw [if_neg h2]
  have e : ∀ k, md_ti (mdT M 0) x k = ((decide (x = 3) || decide (x = 4)) && (decide (k < 4) && decide (mdk M k = x - 3))) := by
    intro k
    unfold md_ti
    rw [decide_eq_false h0, decide_eq_false h1, decide_eq_false h2]
    rfl
  rw [funext e]
  by_cases h3 : x = 3
  · subst h3
    rw [if_pos rfl]
    exact rl_sok hk 0 (by decide)
  rw [if_neg h3]
  by_cases h4 : x = 4
  · subst h4
    rw [if_pos rfl]
    exact rl_sok hk 1 (by decide)
  rw [if_neg h4, decide_eq_false h3, decide_eq_false h4]
  exact md_msk_eq (by omega) (rb_lo_0 10) (fun j _ => by rw [rb_0]; rfl)
theorem ag_deleteSet (h : Rl C M ow) (x : Int32) : lw_ag RlE lw_cB C (rd_deleteSet C x) (md_deleteSet M x x.toNatClampNeg) := by
  obtain ⟨hl, hu, hr, ha, hg, hi, hs, hv, hk, hd, hH, hB, hA⟩ := id h
  unfold rd_deleteSet md_deleteSet
  rw [rl_nk hk x]
  cases hx : rb_h (rdk C) x with
  | false => exact ag_r (cd := lw_cB) (e := 0) h (by decide)
  | true =>
  obtain ⟨u, hu4, hu16, rfl, htu, eu, eb⟩ := rb_hx hk.1 hx
  rw [eu, eb]
  have hK : rl_K (rdk C &&& (rb_b u ^^^ (-1))) (rdn C) (rdm C) (rdb C) (upd (mdk M) u (-1)) (mdn M) (mdm M) := by
    refine ⟨rb_lo_and hk.1, fun k hk4 => ?_⟩
    rw [rb_clr _ (by omega)]
    by_cases e : k = u
    · subst e
      rw [upj_same, decide_eq_true rfl, Bool.not_true, Bool.and_false]
      exact ⟨rfl, fun q => Bool.noConfusion q⟩
    · rw [upj_ne _ _ e, decide_eq_false e, Bool.not_false, Bool.and_true]
      exact hk.2 k hk4
  refine ⟨rfl, ?_, ow, hl, hu, hr, ha, hg, hi, hs, hv, hK, hd, hH, ?_, ?_⟩
  · show md_cnt (fun j => !(decide (upd (mdk M) u (-1) j < 0))) 4 = rb_c (rdk C &&& (rb_b u ^^^ (-1)))
    rw [md_cnt_rk, rb_c_rkN (N := 4) (by omega) hK.1]
    rw [rk_congr (fun j hj => ((hK.2 j hj).1).symm)]
  · refine md_ab_same hB (fun k hk4 hal => ?_) (fun w hw => ⟨rfl, fun j hj => md_au_same hj (fun _ _ => rfl) (fun _ _ _ _ => rfl)⟩) (fun w hw h => ⟨h, fun _ _ => rfl⟩)
    refine ⟨?_, rfl, fun _ _ => rfl⟩
    change decide (upd (mdk M) u (-1) k < 0) = false at hal
    show upd (mdk M) u (-1) k = mdk M k
    by_cases e : k = u
    · subst e
      rw [upj_same] at hal
      exact absurd hal (by decide)
    · rw [upj_ne _ _ e]
  · exact rl_A_same hA (fun s _ h => ⟨h, fun _ _ h => h⟩) (fun s _ _ r hr hx => (md_au_same (M := M) (M' := md_ds1 M u) hr (fun _ _ => rfl) (fun _ _ _ _ => rfl)).trans hx)
theorem ag_close (h : Rl C M ow) (x : Int32) : lw_ag RlE lw_cB C (rd_close C x x.toNatClampNeg) (md_close M x x.toNatClampNeg) := by
  obtain ⟨hl, hu, hr, ha, hg, hi, hs, hv, hk, hd, hH, hB, hA⟩ := id h
  unfold rd_close md_close
  rw [rl_ns hs x]
  cases hx : rb_h (rds C) x with
  | false => exact ag_r (cd := lw_cB) (e := 0) h (by decide)
  | true =>
  obtain ⟨u, hu6, hu16, rfl, htu, eu, eb⟩ := rb_hx hs.1 hx
  rw [eu]
  have hS : rl_S (rds C &&& (rb_b u ^^^ (-1))) (rdo C) (upd (mdo M) u (-1)) ow := by
    refine ⟨rb_lo_and hs.1, fun s hs6 => ⟨(hs.2 s hs6).1, ?_⟩⟩
    rw [rb_clr _ (by omega)]
    by_cases e : s = u
    · subst e
      rw [upj_same, decide_eq_true rfl, Bool.not_true, Bool.and_false]
      exact ⟨rfl, fun q => Bool.noConfusion q⟩
    · rw [upj_ne _ _ e, decide_eq_false e, Bool.not_false, Bool.and_true]
      exact (hs.2 s hs6).2
  have hV : rl_V (rds C &&& (rb_b u ^^^ (-1))) (upd (rdv C) u 0) (mdv M) := by
    intro s hs6
    rw [rb_clr _ (by omega)]
    by_cases e : s = u
    · subst e
      rw [upj_same, decide_eq_true rfl, Bool.not_true, Bool.and_false]
      exact ⟨rb_lo_0 10, fun q => Bool.noConfusion q, fun _ => rfl⟩
    · rw [upj_ne _ _ e, decide_eq_false e, Bool.not_false, Bool.and_true]
      exact hv s hs6
  have hal : ∀ w, w < 6 → decide (upd (mdo M) u (-1) w < 0) = false → decide (mdo M w < 0) = false := by
    intro w hw q
    by_cases e : w = u
    · subst e
      rw [upj_same] at q
      exact absurd q (by decide)
    · rw [upj_ne _ _ e] at q
      exact q
  refine ⟨rfl, ?_, ow, hl, hu, hr, ha, hg, hi, hS, hV, hk, hd, hH, ?_, ?_⟩
  · show md_cnt (fun j => !(decide (upd (mdo M) u (-1) j < 0))) 6 = rb_c (rds C &&& (rb_b u ^^^ (-1)))
    rw [md_cnt_rk, rb_c_rkN (N := 6) (by omega) hS.1]
    rw [rk_congr (fun j hj => ((hS.2 j hj).2.1).symm)]
  · exact md_ab_same hB (fun k hk4 hal => ⟨rfl, rfl, fun _ _ => rfl⟩) (fun w hw => ⟨rfl, fun j hj => md_au_same hj (fun _ _ => rfl) (fun _ _ _ _ => rfl)⟩) (fun w hw h => ⟨hal w hw h, fun _ _ => rfl⟩)
  · exact rl_A_same hA (fun s hs6 h => ⟨hal s hs6 h, fun _ _ h => h⟩) (fun s _ _ r hr hx => (md_au_same (M := M) (M' := md_cl1 M u) hr (fun _ _ => rfl) (fun _ _ _ _ => rfl)).trans hx)
theorem rl_V_one {x : Int32} {v : Nat → Int32} {V : Nat → Bool} (h : rl_V x v V) {s r : Nat} (_hs : s < 6) (hr : r < 10) (ht : rb_t x s = true) (b : Bool) (y : Int32) (hy : y = cond b (v s ||| rb_b r) (v s &&& (rb_b r ^^^ (-1)))) : rl_V x (upd v s y) (rb_u V (10 * s + r) b) := by
  intro i hi
  obtain ⟨h1, h2, h3⟩ := h i hi
  by_cases e : i = s
  · subst e
    rw [upj_same]
    cases b with
    | true =>
      rw [cond_true] at hy
      subst hy
      refine ⟨rb_lo_or h1 (rb_lo_b hr (by omega)), fun _ j hj => ?_, fun q => by rw [ht] at q; cases q⟩
      rw [rb_set _ (by omega), h2 ht j hj]
      by_cases e2 : j = r
      · subst e2; rw [rb_u_same, decide_eq_true rfl, Bool.or_true]
      · rw [rb_u_ne _ _ (by omega), decide_eq_false e2, Bool.or_false]
    | false =>
      rw [cond_false] at hy
      subst hy
      refine ⟨rb_lo_and h1, fun _ j hj => ?_, fun q => by rw [ht] at q; cases q⟩
      rw [rb_clr _ (by omega), h2 ht j hj]
      by_cases e2 : j = r
      · subst e2; rw [rb_u_same, decide_eq_true rfl, Bool.not_true, Bool.and_false]
      · rw [rb_u_ne _ _ (by omega), decide_eq_false e2, Bool.not_false, Bool.and_true]
  · rw [upj_ne _ _ e]
    exact ⟨h1, fun t j hj => by rw [rb_u_ne _ _ (by omega)]; exact h2 t j hj, h3⟩
theorem rl_V_cnt {x : Int32} {v : Nat → Int32} {V : Nat → Bool} (h : rl_V x v V) {s : Nat} (hs : s < 6) (ht : rb_t x s = true) : md_cnt (fun j => V (10 * s + j)) 10 = rb_c (v s) := by
  rw [md_cnt_rk, rb_c_rkN (N := 10) (by omega) (h s hs).1]
  rw [rk_congr (fun j hj => ((h s hs).2.1 ht j hj).symm)]
theorem ag_deactivate (h : Rl C M ow) (x y : Int32) : lw_ag RlE lw_cC C (rd_deactivate C x y x.toNatClampNeg) (md_deactivate M x y x.toNatClampNeg y.toNatClampNeg) := by
  obtain ⟨hl, hu, hr, ha, hg, hi, hs, hv, hk, hd, hH, hB, hA⟩ := id h
  unfold rd_deactivate md_deactivate
  rw [rl_ns hs x, rl_nr hr y]
  cases hx : rb_h (rds C) x with
  | false => exact ag_r (cd := lw_cC) (e := 0) h (by decide)
  | true =>
  cases hy : rb_h (rdr C) y with
  | false => exact ag_r (cd := lw_cC) (e := 0) h (by decide)
  | true =>
  obtain ⟨u, hu6, hu16, rfl, htu, eu, -⟩ := rb_hx hs.1 hx
  obtain ⟨v, hv10, hv16, rfl, htv, ev, eb⟩ := rb_hx hr.2 hy
  rw [eu, ev, eb, rb_hk _ hv16, (hv u hu6).2.1 htu v hv10]
  cases hb : mdv M (10 * u + v) with
  | false => exact ag_r (cd := lw_cC) (e := 2) h (by decide)
  | true =>
  have hV := rl_V_one hv hu6 hv10 htu false (rdv C u &&& (rb_b v ^^^ (-1))) rfl
  have hsub : ∀ k, rb_u (mdv M) (10 * u + v) false k = true → mdv M k = true := by
    intro k q
    by_cases e : k = 10 * u + v
    · rw [e, rb_u_same] at q; cases q
    · rw [rb_u_ne _ _ e] at q; exact q
  refine ⟨rfl, rl_V_cnt hV hu6 htu, ow, hl, hu, hr, ha, hg, hi, hs, hV, hk, hd, hH, ?_, ?_⟩
  · exact md_nb_mono hB (fun k hk4 hal => ⟨rfl, rfl, fun _ _ q => q⟩) (fun w hw q => ⟨q, fun j hj q => by rw [← md_au_same (M := M) (M' := md_ac1 M (10 * u + v) false) hj (fun _ _ => rfl) (fun _ _ _ _ => rfl)]; exact q⟩) (fun w hw q => ⟨q, fun j _ q => hsub _ q⟩)
  · exact rl_A_same hA (fun s hs6 h => ⟨h, fun _ _ h => hsub _ h⟩) (fun s _ _ r hr hx => (md_au_same (M := M) (M' := md_ac1 M (10 * u + v) false) hr (fun _ _ => rfl) (fun _ _ _ _ => rfl)).trans hx)
end R65
