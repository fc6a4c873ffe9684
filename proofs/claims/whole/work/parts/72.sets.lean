/-! addSet and changeSet -/
section R72
variable {C : rd_S} {M N : md_S} {ow : Nat → Nat}
theorem md_sw_v (B D : Nat → Bool) (k : Nat) : ∀ n, n ≤ 10 → (∀ j, (ri_fo (md_swo k) n (B, D)).1 j = if 10 * k ≤ j ∧ j < 10 * k + n then D (j - 10 * k) else B j) ∧ ∀ j, (ri_fo (md_swo k) n (B, D)).2 j = if j < n then B (10 * k + j) else D j := by
  intro n
  induction n with
  | zero => intro _; exact ⟨fun j => by rw [if_neg (by omega)]; rfl, fun j => by rw [if_neg (by omega)]; rfl⟩
  | succ n ih =>
    intro hn
    obtain ⟨h1, h2⟩ := ih (by omega)
    show (∀ j, (md_swo k n (ri_fo (md_swo k) n (B, D))).1 j = _) ∧ ∀ j, (md_swo k n (ri_fo (md_swo k) n (B, D))).2 j = _
    generalize ri_fo (md_swo k) n (B, D) = q at h1 h2 ⊢
    unfold md_swo
    refine ⟨fun j => ?_, fun j => ?_⟩
    · show rb_u q.1 (10 * k + n) (q.2 n) j = _
      by_cases e : j = 10 * k + n
      · rw [e, rb_u_same, h2, if_neg (by omega), if_pos (by omega)]
        congr 1
        omega
      · rw [rb_u_ne _ _ e, h1]
        by_cases e2 : 10 * k ≤ j ∧ j < 10 * k + n
        · rw [if_pos e2, if_pos (by omega)]
        · rw [if_neg e2, if_neg (by omega)]
    · show rb_u q.2 n (q.1 (10 * k + n)) j = _
      by_cases e : j = n
      · rw [e, rb_u_same, h1, if_neg (by omega), if_pos (by omega)]
      · rw [rb_u_ne _ _ e, h2]
        by_cases e2 : j < n
        · rw [if_pos e2, if_pos (by omega)]
        · rw [if_neg e2, if_neg (by omega)]
theorem md_pl_v (x : Int32) (D : Nat → Bool) {j : Nat} (hj : j < 10) : md_pl x D j = rb_t x j := by
  have := md_fo_set (fun i => md_in x (nI i)) D j 10
  rw [if_pos hj, md_in_t x (by omega)] at this
  exact this
theorem md_sw_ex (X : md_S) (k : Nat) : ∃ B1 D1, md_swS X k = mdD (mdM X B1) D1 ∧ (∀ w r, r < 10 → B1 (10 * w + r) = if w = k then mdd X r else mdm X (10 * w + r)) ∧ ∀ r, r < 10 → D1 r = mdm X (10 * k + r) := by
  obtain ⟨h1, h2⟩ := md_sw_v (mdm X) (mdd X) k 10 (Nat.le_refl _)
  unfold md_swS md_sw
  generalize ri_fo (md_swo k) 10 (mdm X, mdd X) = q at h1 h2
  refine ⟨q.1, q.2, rfl, fun w r hr => ?_, fun r hr => by rw [h2, if_pos hr]⟩
  rw [h1]
  by_cases e : w = k
  · subst e
    rw [if_pos (by omega), if_pos rfl]
    congr 1
    omega
  · rw [if_neg (by omega), if_neg e]
theorem md_many_c {x : Int32} (h : rb_lo 10 x) : md_many x = rb_c x := by
  unfold md_many
  rw [md_cnt_rk, rb_c_rk (rb_lo_mono (by omega) h), rk_congr (B' := rb_t x) (fun j hj => md_in_t x hj)]
  rw [show (32 : Nat) = 16 + 16 from rfl, rk_ext (fun i hi => h i (by omega))]
theorem kd_ok (kd : Int32) : (decide (kd < 0) || !(decide (kd ≤ 1))) = (!(decide (kd = 0)) && !(decide (kd = 1))) := by
  by_cases h0 : kd = 0
  · subst h0; rfl
  · by_cases h1 : kd = 1
    · subst h1; rfl
    · rw [decide_eq_false h0, decide_eq_false h1]
      show _ = true
      rw [Bool.or_eq_true, decide_eq_true_eq, Bool.not_eq_true', decide_eq_false_iff_not]
      rw [Int32.lt_iff_toInt_lt, Int32.le_iff_toInt_le]
      have e0 : (0 : Int32).toInt = 0 := rfl
      have e1 : (1 : Int32).toInt = 1 := rfl
      have n0 : ¬ kd.toInt = 0 := fun q => h0 (Int32.toInt_inj.mp (by rw [q, e0]))
      have n1 : ¬ kd.toInt = 1 := fun q => h1 (Int32.toInt_inj.mp (by rw [q, e1]))
      omega
theorem rb_lo_sub {x y : Int32} (hy : (x &&& (y ^^^ (-1))) = 0) {n : Nat} (hl : rb_lo n y) : rb_lo n x := by
  intro j hj
  by_cases hj32 : j < 32
  · cases hb : rb_t x j with
    | false => rfl
    | true =>
      have := (rb_sub_iff _ _).mp hy j hj32 hb
      rw [hl j hj] at this
      cases this
  · exact rb_hi _ (by omega)
/-- the new set's test -/
theorem rl_wb (h : Rl C M ow) {k0 : Nat} {kd ro n : Int32} (u1 : mdu N = mdu M) (u2 : mda N = mda M) (u3 : mds N = mds M) (u4 : mdo N = mdo M) (u5 : mdv N = mdv M) (hkd : mdk N k0 = kd) (hkd2 : kd = 0 ∨ kd = 1) (hn : mdn N k0 = n) (hn2 : decide (n < 2) = false) (hlo : rb_lo 10 ro) (hm : ∀ r, r < 10 → mdm N (10 * k0 + r) = rb_t ro r) : md_bk N k0 = rd_wb C kd ro n := by
  obtain ⟨hl, hu, hr, ha, hg, hi, hs, hv, hk, hd, hH, hB, hA⟩ := id h
  have eau : ∀ w z, z < 10 → md_au N w z = md_au M w z := fun w z hz => md_au_same hz (fun _ _ => by rw [u2]) (fun _ _ _ _ => by rw [u3])
  rw [md_bk_ex]
  unfold rd_wb
  rcases hkd2 with h0 | h0
  · rw [decide_eq_true h0, cond_true]
    refine ri_ex_congr fun w hw => ?_
    rw [md_hb_v]
    unfold md_ct
    rw [hkd, decide_eq_true h0, cond_true, hn, u1]
    have hcl := rl_cl hi hH (ha w hw).2
    have hll : rb_lo 10 (rj_w (rdi C) 10 (rda C w) &&& ro) := rb_lo_and hcl.1
    rw [rb_c_rkN (N := 10) (by omega) hll]
    have e : rk (fun j => mdm N (10 * k0 + j) && cond true (md_au N w j) (mdv N (10 * w + j))) 10 = rk (rb_t (rj_w (rdi C) 10 (rda C w) &&& ro)) 10 := rk_congr fun j hj => by
      rw [cond_true, hm j hj, eau w j hj, rb_and, ← rl_au ha hi hH hw hj, Bool.and_comm]
    rw [e]
    cases hb : mdu M w with
    | true => rw [Bool.true_and]
    | false =>
      rw [Bool.false_and, rk_zero (n := 10), decide_eq_true (nJ_0lt hn2), Bool.not_true]
      intro j hj
      rw [rb_and, ← rl_au ha hi hH hw hj, md_au_ex, ri_ex_no, Bool.false_and]
      intro q hq
      cases hb2 : mda M (10 * w + q) with
      | false => rw [Bool.false_and]
      | true =>
        have := hd w q hw hq hb2
        rw [hb] at this
        cases this
  · have h00 : ¬ kd = 0 := fun e => by rw [e] at h0; exact absurd h0 (by decide)
    rw [decide_eq_false h00, cond_false]
    refine ri_ex_congr fun w hw => ?_
    rw [md_hb_v]
    unfold md_ct
    rw [hkd, decide_eq_false h00, cond_false, hn, u4, ← (hs.2 w hw).2.1]
    have hll : rb_lo 10 (rdv C w &&& ro) := rb_lo_and (hv w hw).1
    rw [rb_c_rkN (N := 10) (by omega) hll]
    cases hb : rb_t (rds C) w with
    | true =>
      rw [Bool.true_and]
      have e : rk (fun j => mdm N (10 * k0 + j) && cond false (md_au N w j) (mdv N (10 * w + j))) 10 = rk (rb_t (rdv C w &&& ro)) 10 := rk_congr fun j hj => by
        rw [cond_false, hm j hj, u5, rb_and, (hv w hw).2.1 hb j hj, Bool.and_comm]
      rw [e]
    | false =>
      rw [Bool.false_and, rk_zero (n := 10), decide_eq_true (nJ_0lt hn2), Bool.not_true]
      intro j hj
      rw [rb_and, (hv w hw).2.2 hb, rb_0, Bool.false_and]
theorem rl_wb_ab {k0 : Nat} (hB : md_ab M = false) (u1 : mdu N = mdu M) (u2 : mda N = mda M) (u3 : mds N = mds M) (u4 : mdo N = mdo M) (u5 : mdv N = mdv M) (hk : ∀ k, ¬ k = k0 → mdk N k = mdk M k ∧ mdn N k = mdn M k ∧ ∀ r, r < 10 → mdm N (10 * k + r) = mdm M (10 * k + r)) (hb : md_bk N k0 = false) : md_ab N = false := by
  have eau : ∀ w z, z < 10 → md_au N w z = md_au M w z := fun w z hz => md_au_same hz (fun _ _ => by rw [u2]) (fun _ _ _ _ => by rw [u3])
  rw [md_ab_no] at hB ⊢
  intro k hk4 hal w hw
  by_cases e : k = k0
  · subst e
    rw [md_bk_ex] at hb
    exact ri_ex_false hb w hw
  · obtain ⟨e1, e2, e3⟩ := hk k e
    have hB := hB k hk4 (by rw [← e1]; exact hal) w hw
    cases hh : md_hb N k w with
    | false => rfl
    | true =>
      rw [← hB]
      symm
      refine md_hb_mono (M := M) (M' := N) e1 e2 (fun q => ?_) (fun _ j hj q => ?_) hh
      · unfold md_ct at q ⊢
        rw [e1, u1, u4] at q
        exact q
      · rw [e3 j hj, eau w j hj, u5] at q
        exact q
/-- a state with one set written -/
theorem Rl_set {C' : rd_S} (h : Rl C M ow) {k0 : Nat} (t0 : mdl N = mdl M) (u1 : mdu N = mdu M) (t1 : mdr N = mdr M) (u2 : mda N = mda M) (t2 : mdg N = mdg M) (t3 : mdi N = mdi M) (u3 : mds N = mds M) (u4 : mdo N = mdo M) (u5 : mdv N = mdv M)
    (c1 : rdl C' = rdl C) (c2 : rdu C' = rdu C) (c3 : rdr C' = rdr C) (c4 : rda C' = rda C) (c5 : rdg C' = rdg C) (c6 : rdi C' = rdi C) (c7 : rds C' = rds C) (c8 : rdo C' = rdo C) (c9 : rdv C' = rdv C)
    (hk : ∀ k, ¬ k = k0 → mdk N k = mdk M k ∧ mdn N k = mdn M k ∧ ∀ r, r < 10 → mdm N (10 * k + r) = mdm M (10 * k + r)) (hb : md_bk N k0 = false) (hK : rl_K (rdk C') (rdn C') (rdm C') (rdb C') (mdk N) (mdn N) (mdm N)) : Rl C' N ow := by
  obtain ⟨hl, hu, hr, ha, hg, hi, hs, hv, hk', hd, hH, hB, hA⟩ := id h
  have eau : ∀ w z, z < 10 → md_au N w z = md_au M w z := fun w z hz => md_au_same hz (fun _ _ => by rw [u2]) (fun _ _ _ _ => by rw [u3])
  refine ⟨by rw [c1, t0]; exact hl, by rw [c2, u1]; exact hu, by rw [c3, t1]; exact hr, by rw [c4, u2]; exact ha, by rw [c5, t2]; exact hg, by rw [c6, t3]; exact hi, by rw [c7, c8, u4]; exact hs, by rw [c7, c9, u5]; exact hv, hK, by rw [u1, u2]; exact hd, by rw [t3, u3]; exact hH, rl_wb_ab hB u1 u2 u3 u4 u5 hk hb, ?_⟩
  intro s hs6 hal r hr10 q
  rw [eau _ _ hr10]
  rw [u4] at hal
  rw [u5] at q
  exact hA s hs6 hal r hr10 q
theorem md_st0_v (M : md_S) (x : Int32) (k : Nat) : md_st0 (mdT M 0) x k = mdD (mdT M 0) (md_pl x (mdd M)) := rfl
theorem rl_K_put {x : Int32} {n m b K N : Nat → Int32} {B B1 : Nat → Bool} (hk : rl_K x n m b K N B) {k0 : Nat} (hk0 : k0 < 4) {kd ro nn : Int32} (hkd : kd = 0 ∨ kd = 1) (hn : decide (nn < 2) = false) (hlo : rb_lo 10 ro) (hB : ∀ w r, r < 10 → B1 (10 * w + r) = if w = k0 then rb_t ro r else B (10 * w + r)) :
    rl_K (x ||| rb_b k0) (upd n k0 kd) (upd m k0 ro) (upd b k0 nn) (upd K k0 kd) (upd N k0 nn) B1 := by
  have hpos : decide (kd < 0) = false := by rcases hkd with rfl | rfl <;> rfl
  refine ⟨rb_lo_or hk.1 (rb_lo_b hk0 (by omega)), fun k hk4 => ?_⟩
  rw [rb_set _ (by omega)]
  by_cases e : k = k0
  · subst e
    rw [upj_same, upj_same, upj_same, upj_same, upj_same, decide_eq_true rfl, Bool.or_true, hpos]
    exact ⟨rfl, fun _ => ⟨rfl, hkd, rfl, hn, hlo, fun r hr => by rw [hB k r hr, if_pos rfl]⟩⟩
  · rw [upj_ne _ _ e, upj_ne _ _ e, upj_ne _ _ e, upj_ne _ _ e, upj_ne _ _ e, decide_eq_false e, Bool.or_false]
    obtain ⟨h1, h2⟩ := hk.2 k hk4
    refine ⟨h1, fun ht => ?_⟩
    obtain ⟨a1, a2, a3, a4, a5, a6⟩ := h2 ht
    exact ⟨a1, a2, a3, a4, a5, fun r hr => by rw [hB k r hr, if_neg e]; exact a6 r hr⟩
theorem ag_as3 (h : Rl C M ow) {k0 : Nat} {kd ro n : Int32} {B1 : Nat → Bool} (hk0 : k0 < 4) (hdead : decide (mdk M k0 < 0) = true) (hkd2 : kd = 0 ∨ kd = 1) (hn2 : decide (n < 2) = false) (hlo : rb_lo 10 ro) (hBB : ∀ w r, r < 10 → B1 (10 * w + r) = if w = k0 then rb_t ro r else mdm M (10 * w + r))
    (f0 : mdl N = mdl M) (f1 : mdu N = mdu M) (f2 : mdr N = mdr M) (f3 : mda N = mda M) (f4 : mdg N = mdg M) (f5 : mdi N = mdi M) (f6 : mds N = mds M) (f7 : mdo N = mdo M) (f8 : mdv N = mdv M) (f9 : mdk N = upd (mdk M) k0 kd) (f10 : mdn N = upd (mdn M) k0 n) (f11 : mdm N = B1) :
    lw_ag RlE lw_cD C (cond (rd_wb C kd ro n) (.inr 2) (.inl (nI k0, rd_as1 C kd ro n k0))) (md_as3 N k0) := by
  obtain ⟨hl, hu, hr, ha, hg, hi, hs, hv, hk, hd, hH, hB, hA⟩ := id h
  have ewb : md_bk N k0 = rd_wb C kd ro n := rl_wb h f1 f3 f6 f7 f8 (by rw [f9, upj_same]) hkd2 (by rw [f10, upj_same]) hn2 hlo (fun r hr => by rw [f11, hBB k0 r hr, if_pos rfl])
  rw [← ewb]
  unfold md_as3
  cases hbk : md_bk N k0 with
  | true =>
    refine ⟨by decide, rfl, ow, ?_⟩
    show Rl C (mdK (mdT N 3) (upd (mdk N) k0 (-1))) ow
    refine Rl_ext h f0 (fun u _ => congrFun f1 u) (fun u _ => congrFun f2 u) (fun u _ => congrFun f3 u) (fun u _ => congrFun f4 u) (fun u _ => congrFun f5 u) (fun _ _ _ _ => congrFun f6 _) (fun s _ => ?_) (fun k _ => ?_)
    · show decide (mdo N s < 0) = _ ∧ (_ → mdo N s = _ ∧ ∀ r, r < 10 → mdv N (10 * s + r) = _)
      rw [f7, f8]
      exact ⟨rfl, fun _ => ⟨rfl, fun _ _ => rfl⟩⟩
    · show decide (upd (mdk N) k0 (-1) k < 0) = _ ∧ (_ → upd (mdk N) k0 (-1) k = _ ∧ mdn N k = _ ∧ ∀ r, r < 10 → mdm N (10 * k + r) = _)
      by_cases e : k = k0
      · subst e
        rw [upj_same, hdead]
        exact ⟨rfl, fun q => Bool.noConfusion q⟩
      · rw [upj_ne _ _ e, f9, f10, f11, upj_ne _ _ e, upj_ne _ _ e]
        exact ⟨rfl, fun _ => ⟨rfl, rfl, fun r hr => by rw [hBB k r hr, if_neg e]⟩⟩
  | false =>
    refine ⟨rfl, rfl, ow, ?_⟩
    show Rl (rd_as1 C kd ro n k0) (mdT N 0) ow
    refine Rl_T (Rl_set (M := M) (N := N) (k0 := k0) h f0 f1 f2 f3 f4 f5 f6 f7 f8 ?_ ?_ ?_ ?_ ?_ ?_ ?_ ?_ ?_ (fun k e => ?_) hbk ?_) 0
    · simp only [rd_as1, rdl_B, rdl_M, rdl_N, rdl_K]
    · simp only [rd_as1, rdu_B, rdu_M, rdu_N, rdu_K]
    · simp only [rd_as1, rdr_B, rdr_M, rdr_N, rdr_K]
    · simp only [rd_as1, rda_B, rda_M, rda_N, rda_K]
    · simp only [rd_as1, rdg_B, rdg_M, rdg_N, rdg_K]
    · simp only [rd_as1, rdi_B, rdi_M, rdi_N, rdi_K]
    · simp only [rd_as1, rds_B, rds_M, rds_N, rds_K]
    · simp only [rd_as1, rdo_B, rdo_M, rdo_N, rdo_K]
    · simp only [rd_as1, rdv_B, rdv_M, rdv_N, rdv_K]
    · rw [f9, f10, f11, upj_ne _ _ e, upj_ne _ _ e]
      exact ⟨rfl, rfl, fun r hr => by rw [hBB k r hr, if_neg e]⟩
    · rw [f9, f10, f11]
      simp only [rd_as1, rdk_B, rdk_M, rdk_N, rdk_K, rdn_B, rdn_M, rdn_N, rdm_B, rdm_M, rdb_B]
      exact rl_K_put hk hk0 hkd2 hn2 hlo hBB
theorem ag_addSet (h : Rl C M ow) (kd ro n : Int32) : lw_ag RlE lw_cD C (rd_addSet C kd ro n) (md_addSet M kd ro n) := by
  obtain ⟨hl, hu, hr, ha, hg, hi, hs, hv, hk, hd, hH, hB, hA⟩ := id h
  unfold rd_addSet md_addSet
  rw [rl_st hr ro]
  by_cases hy : (ro &&& (rdr C ^^^ (-1))) = 0
  case neg => rw [decide_eq_false hy]; exact ag_r (cd := lw_cD) (e := 0) h (by decide)
  have hlo : rb_lo 10 ro := rb_lo_sub hy hr.2
  have efk : rd_lf (rdk C) 4 = md_fk M := ri_fst_congr fun i hi => by rw [(hk.2 i hi).1, Bool.not_not]
  unfold md_bad
  rw [decide_eq_true hy, kd_ok, efk, md_many_c hlo, Bool.not_true, cond_true, cond_false]
  cases hkd : (!(decide (kd = 0)) && !(decide (kd = 1))) with
  | true =>
    rw [Bool.true_or, cond_true, cond_true]
    exact ag_r (cd := lw_cD) (e := 1) h (by decide)
  | false =>
  have hkd2 : kd = 0 ∨ kd = 1 := by
    by_cases q : kd = 0
    · exact Or.inl q
    · rw [decide_eq_false q, Bool.not_false, Bool.true_and, Bool.not_eq_false', decide_eq_true_eq] at hkd
      exact Or.inr hkd
  rw [Bool.false_or, cond_false]
  cases hbad : (decide (n < 2) || !(decide (n ≤ rb_c ro))) with
  | true => exact ag_r (cd := lw_cD) (e := 1) h (by decide)
  | false =>
  rw [cond_false, cond_false]
  have hn2 : decide (n < 2) = false := (Bool.or_eq_false_iff.mp hbad).1
  have sp := (ri_fst_spec (Q := fun i => decide (mdk M i < 0)) 4).1
  change md_fk M < 4 ∧ decide (mdk M (md_fk M) < 0) = true ∧ _ ∨ md_fk M = 4 ∧ _ at sp
  generalize md_fk M = k0 at sp ⊢
  rcases sp with sp | sp
  case inr =>
    rw [sp.1]
    exact ag_r (cd := lw_cD) (e := 2) h (by decide)
  have hk0 := sp.1
  have e1 : decide (nI k0 < 4) = true := decide_eq_true ((nJ_lt (b := 4) (by omega) (by omega)).mpr hk0)
  rw [e1, decide_eq_false (by omega : ¬ k0 = 4), cond_true, cond_false]
  unfold md_as2
  rw [md_st0_v]
  have hD0 : ∀ j, j < 10 → md_pl ro (mdd M) j = rb_t ro j := fun j hj => md_pl_v _ _ hj
  generalize md_pl ro (mdd M) = D0 at hD0 ⊢
  obtain ⟨B1, D1, eS, hB1, -⟩ := md_sw_ex (mdD (mdT M 0) D0) k0
  rw [eS]
  have hBB : ∀ w r, r < 10 → B1 (10 * w + r) = if w = k0 then rb_t ro r else mdm M (10 * w + r) := by
    intro w r hr
    rw [hB1 w r hr]
    by_cases e : w = k0
    · rw [if_pos e, if_pos e]
      exact hD0 r hr
    · rw [if_neg e, if_neg e]
      rfl
  exact ag_as3 (N := md_as1' (mdD (mdM (mdD (mdT M 0) D0) B1) D1) n k0 kd) h hk0 sp.2.1 hkd2 hn2 hlo hBB (by simp only [md_as1', mdl_N, mdl_K, mdl_D, mdl_M, mdl_T]) (by simp only [md_as1', mdu_N, mdu_K, mdu_D, mdu_M, mdu_T]) (by simp only [md_as1', mdr_N, mdr_K, mdr_D, mdr_M, mdr_T]) (by simp only [md_as1', mda_N, mda_K, mda_D, mda_M, mda_T]) (by simp only [md_as1', mdg_N, mdg_K, mdg_D, mdg_M, mdg_T]) (by simp only [md_as1', mdi_N, mdi_K, mdi_D, mdi_M, mdi_T]) (by simp only [md_as1', mds_N, mds_K, mds_D, mds_M, mds_T]) (by simp only [md_as1', mdo_N, mdo_K, mdo_D, mdo_M, mdo_T]) (by simp only [md_as1', mdv_N, mdv_K, mdv_D, mdv_M, mdv_T]) (by simp only [md_as1', mdk_N, mdk_K, mdk_D, mdk_M, mdk_T]) (by simp only [md_as1', mdn_N, mdn_K, mdn_D, mdn_M, mdn_T]) (by simp only [md_as1', mdm_N, mdm_K, mdm_D, mdm_M])
end R72
