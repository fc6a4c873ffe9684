/-! changeSet, and the new objects -/
section R73
variable {C : rd_S} {M N : md_S} {ow : Nat → Nat}
theorem rl_K_chg {x : Int32} {n m b K N : Nat → Int32} {B B1 : Nat → Bool} (hk : rl_K x n m b K N B) {k0 : Nat} {ro nn : Int32} (hn : decide (nn < 2) = false) (hlo : rb_lo 10 ro) (hB : ∀ w r, r < 10 → B1 (10 * w + r) = if w = k0 then rb_t ro r else B (10 * w + r)) :
    rl_K x n (upd m k0 ro) (upd b k0 nn) K (upd N k0 nn) B1 := by
  refine ⟨hk.1, fun k hk4 => ⟨(hk.2 k hk4).1, fun ht => ?_⟩⟩
  obtain ⟨a1, a2, a3, a4, a5, a6⟩ := (hk.2 k hk4).2 ht
  by_cases e : k = k0
  · subst e
    rw [upj_same, upj_same, upj_same]
    exact ⟨a1, a2, rfl, hn, hlo, fun r hr => by rw [hB k r hr, if_pos rfl]⟩
  · rw [upj_ne _ _ e, upj_ne _ _ e, upj_ne _ _ e]
    exact ⟨a1, a2, a3, a4, a5, fun r hr => by rw [hB k r hr, if_neg e]; exact a6 r hr⟩
theorem ag_cs3 (h : Rl C M ow) {k0 : Nat} {ro n : Int32} {B1 : Nat → Bool} (hk0 : k0 < 4) (ht : rb_t (rdk C) k0 = true) (hn2 : decide (n < 2) = false) (hlo : rb_lo 10 ro) (hBB : ∀ w r, r < 10 → B1 (10 * w + r) = if w = k0 then rb_t ro r else mdm M (10 * w + r)) (hDD : ∀ r, r < 10 → mdd N r = mdm M (10 * k0 + r))
    (f0 : mdl N = mdl M) (f1 : mdu N = mdu M) (f2 : mdr N = mdr M) (f3 : mda N = mda M) (f4 : mdg N = mdg M) (f5 : mdi N = mdi M) (f6 : mds N = mds M) (f7 : mdo N = mdo M) (f8 : mdv N = mdv M) (f9 : mdk N = mdk M) (f10 : mdn N = upd (mdn M) k0 n) (f11 : mdm N = B1) :
    lw_ag RlE lw_cD C (cond (rd_wb C (rdn C k0) ro n) (.inr 2) (.inl (rb_c ro, rdB (rdM C (upd (rdm C) k0 ro)) (upd (rdb C) k0 n)))) (md_cs3 N k0 ro (mdn M k0)) := by
  obtain ⟨hl, hu, hr, ha, hg, hi, hs, hv, hk, hd, hH, hB, hA⟩ := id h
  obtain ⟨a1, a2, a3, a4, a5, a6⟩ := (hk.2 k0 hk0).2 ht
  have ewb : md_bk N k0 = rd_wb C (rdn C k0) ro n := rl_wb h f1 f3 f6 f7 f8 (by rw [f9, a1]) (by rw [a1]; exact a2) (by rw [f10, upj_same]) hn2 hlo (fun r hr => by rw [f11, hBB k0 r hr, if_pos rfl])
  rw [← ewb]
  unfold md_cs3
  cases hbk : md_bk N k0 with
  | true =>
    rw [cond_true, cond_true]
    obtain ⟨B2, D2, e2, hB2, -⟩ := md_sw_ex (mdT N 3) k0
    rw [e2]
    refine ⟨by decide, rfl, ow, ?_⟩
    refine Rl_ext (M' := mdN (mdD (mdM (mdT N 3) B2) D2) (upd (mdn N) k0 (mdn M k0))) h f0 (fun u _ => congrFun f1 u) (fun u _ => congrFun f2 u) (fun u _ => congrFun f3 u) (fun u _ => congrFun f4 u) (fun u _ => congrFun f5 u) (fun _ _ _ _ => congrFun f6 _) (fun s _ => ?_) (fun k _ => ?_)
    · show decide (mdo N s < 0) = _ ∧ (_ → mdo N s = _ ∧ ∀ r, r < 10 → mdv N (10 * s + r) = _)
      rw [f7, f8]
      exact ⟨rfl, fun _ => ⟨rfl, fun _ _ => rfl⟩⟩
    · show decide (mdk N k < 0) = _ ∧ (_ → mdk N k = _ ∧ upd (mdn N) k0 (mdn M k0) k = _ ∧ ∀ r, r < 10 → B2 (10 * k + r) = _)
      rw [f9]
      refine ⟨rfl, fun _ => ⟨rfl, ?_, fun r hr => ?_⟩⟩
      · by_cases e : k = k0
        · rw [e, upj_same]
        · rw [upj_ne _ _ e, f10, upj_ne _ _ e]
      · rw [hB2 k r hr]
        by_cases e : k = k0
        · rw [if_pos e, e]
          exact hDD r hr
        · rw [if_neg e]
          show mdm N (10 * k + r) = _
          rw [f11, hBB k r hr, if_neg e]
  | false =>
    rw [cond_false, cond_false]
    refine ⟨rfl, md_many_c hlo, ow, ?_⟩
    show Rl (rdB (rdM C (upd (rdm C) k0 ro)) (upd (rdb C) k0 n)) (mdT N 0) ow
    refine Rl_T (Rl_set (C' := rdB (rdM C (upd (rdm C) k0 ro)) (upd (rdb C) k0 n)) (M := M) (N := N) (k0 := k0) h f0 f1 f2 f3 f4 f5 f6 f7 f8 rfl rfl rfl rfl rfl rfl rfl rfl rfl (fun k e => ?_) hbk ?_) 0
    · rw [f9, f10, f11, upj_ne _ _ e]
      exact ⟨rfl, rfl, fun r hr => by rw [hBB k r hr, if_neg e]⟩
    · rw [f9, f10, f11]
      exact rl_K_chg hk hn2 hlo hBB
theorem ag_changeSet (h : Rl C M ow) (x ro n : Int32) : lw_ag RlE lw_cD C (rd_changeSet C x ro n x.toNatClampNeg) (md_changeSet M x ro n x.toNatClampNeg) := by
  obtain ⟨hl, hu, hr, ha, hg, hi, hs, hv, hk, hd, hH, hB, hA⟩ := id h
  unfold rd_changeSet md_changeSet
  rw [rl_nk hk x, rl_st hr ro]
  cases hx : rb_h (rdk C) x with
  | false => exact ag_r (cd := lw_cD) (e := 0) h (by decide)
  | true =>
  by_cases hy : (ro &&& (rdr C ^^^ (-1))) = 0
  case neg => rw [decide_eq_false hy]; exact ag_r (cd := lw_cD) (e := 0) h (by decide)
  have hlo : rb_lo 10 ro := rb_lo_sub hy hr.2
  obtain ⟨k0, hk0, hk16, rfl, htk, ek, -⟩ := rb_hx hk.1 hx
  unfold md_bad
  rw [decide_eq_true hy, ek, md_many_c hlo, Bool.not_true, Bool.or_false, cond_true, cond_true, cond_false]
  cases hbad : (decide (n < 2) || !(decide (n ≤ rb_c ro))) with
  | true => exact ag_r (cd := lw_cD) (e := 1) h (by decide)
  | false =>
  rw [cond_false, cond_false]
  have hn2 : decide (n < 2) = false := (Bool.or_eq_false_iff.mp hbad).1
  unfold md_cs2
  rw [md_st0_v]
  have hD0 : ∀ j, j < 10 → md_pl ro (mdd M) j = rb_t ro j := fun j hj => md_pl_v _ _ hj
  generalize md_pl ro (mdd M) = D0 at hD0 ⊢
  obtain ⟨B1, D1, eS, hB1, hD1⟩ := md_sw_ex (mdD (mdT M 0) D0) k0
  rw [eS]
  have hBB : ∀ w r, r < 10 → B1 (10 * w + r) = if w = k0 then rb_t ro r else mdm M (10 * w + r) := by
    intro w r hr
    rw [hB1 w r hr]
    by_cases e : w = k0
    · rw [if_pos e, if_pos e]
      exact hD0 r hr
    · rw [if_neg e, if_neg e]
      rfl
  have hDD : ∀ r, r < 10 → D1 r = mdm M (10 * k0 + r) := fun r hr => hD1 r hr
  exact ag_cs3 (N := mdN (mdD (mdM (mdD (mdT M 0) D0) B1) D1) (upd (mdn M) k0 n)) h hk0 htk hn2 hlo hBB hDD (by simp only [mdl_N, mdl_D, mdl_M, mdl_T]) (by simp only [mdu_N, mdu_D, mdu_M, mdu_T]) (by simp only [mdr_N, mdr_D, mdr_M, mdr_T]) (by simp only [mda_N, mda_D, mda_M, mda_T]) (by simp only [mdg_N, mdg_D, mdg_M, mdg_T]) (by simp only [mdi_N, mdi_D, mdi_M, mdi_T]) (by simp only [mds_N, mds_D, mds_M, mds_T]) (by simp only [mdo_N, mdo_D, mdo_M, mdo_T]) (by simp only [mdv_N, mdv_D, mdv_M, mdv_T]) (by simp only [mdk_N, mdk_D, mdk_M, mdk_T]) (by simp only [mdn_N]) (by simp only [mdm_N, mdm_D, mdm_M])
theorem mk_bits : ∀ m, m ≤ 10 → ∀ j, j < 32 → rb_t (((1 : Int32) <<< (nI m &&& 31)) - 1) j = decide (j < m) := by decide +kernel
theorem rd_mask_U (x : Int32) {n : Nat} (hn : n ≤ 10) : rl_U (rd_mask (nI n) x) (fun i => !(decide (x ≤ nI i))) n := by
  have key : ∃ m, m ≤ n ∧ ri_mm true 0 (ri_mm false x (nI n)) = nI m ∧ ∀ j, j < n → decide (j < m) = !(decide (x ≤ nI j)) := by
    have e0 : (0 : Int32).toInt = 0 := rfl
    have en : ∀ k, k ≤ 10 → (nI k).toInt = (k : Int) := fun k hk => nI_toInt (by omega)
    unfold ri_mm
    rw [cond_true, cond_false]
    by_cases h1 : nI n < x
    · rw [if_pos h1]
      have h1' := h1
      rw [Int32.lt_iff_toInt_lt, en n hn] at h1'
      refine ⟨n, Nat.le_refl _, ?_, fun j hj => ?_⟩
      · by_cases h2 : (0 : Int32) < nI n
        · rw [if_pos h2]
        · rw [if_neg h2]
          rw [Int32.lt_iff_toInt_lt, en n hn, e0] at h2
          have : n = 0 := by omega
          rw [this]
          rfl
      · rw [decide_eq_true hj, decide_eq_false]
        · rfl
        · rw [Int32.le_iff_toInt_le, en j (by omega)]
          omega
    · rw [if_neg h1]
      by_cases h2 : (0 : Int32) < x
      · rw [if_pos h2]
        have h2' := h2
        rw [Int32.lt_iff_toInt_lt, en n hn] at h1
        rw [Int32.lt_iff_toInt_lt, e0] at h2'
        have ex : x = nI x.toInt.toNat := Int32.toInt_inj.mp (by rw [en _ (by omega)]; omega)
        refine ⟨x.toInt.toNat, by omega, ex, fun j hj => ?_⟩
        by_cases h3 : j < x.toInt.toNat
        · rw [decide_eq_true h3, decide_eq_false]
          · rfl
          · rw [Int32.le_iff_toInt_le, en j (by omega)]
            omega
        · rw [decide_eq_false h3, decide_eq_true]
          · rfl
          · rw [Int32.le_iff_toInt_le, en j (by omega)]
            omega
      · rw [if_neg h2]
        refine ⟨0, by omega, rfl, fun j hj => ?_⟩
        rw [Int32.lt_iff_toInt_lt, e0] at h2
        rw [decide_eq_false (by omega), decide_eq_true]
        · rfl
        · rw [Int32.le_iff_toInt_le, en j (by omega)]
          omega
  obtain ⟨m, hm, e, hb⟩ := key
  unfold rd_mask
  rw [e]
  refine ⟨fun j hj => by rw [mk_bits m (by omega) j (by omega)]; exact hb j hj, fun j hj => ?_⟩
  by_cases h32 : j < 32
  · rw [mk_bits m (by omega) j h32]
    exact decide_eq_false (by omega)
  · exact rb_hi _ (by omega)
theorem md_foO (O : Nat → Int32) (s : Nat) : ∀ n, ri_fo (fun i O => upd O i (-1)) n O s = if s < n then -1 else O s := by
  intro n
  induction n with
  | zero => rw [if_neg (by omega)]; rfl
  | succ n ih =>
    show upd (ri_fo (fun i O => upd O i (-1)) n O) n (-1) s = _
    generalize ri_fo (fun i O => upd O i (-1)) n O = G at ih ⊢
    by_cases e : s = n
    · rw [e, upj_same, if_pos (by omega)]
    · rw [upj_ne _ _ e, ih]
      by_cases e2 : s < n
      · rw [if_pos e2, if_pos (by omega)]
      · rw [if_neg e2, if_neg (by omega)]
theorem md_newU_v (M : md_S) (x : Int32) : ∃ U, md_newU M x = mdU M U ∧ ∀ u, u < 6 → U u = !(decide (x ≤ nI u)) := by
  unfold md_newU
  exact ⟨_, rfl, fun u hu => by rw [md_fo_set (fun i => !(decide (x ≤ nI i))), if_pos hu]⟩
theorem md_newR_v (M : md_S) (x : Int32) : ∃ U, md_newR M x = mdR M U ∧ ∀ u, u < 10 → U u = !(decide (x ≤ nI u)) := by
  unfold md_newR
  exact ⟨_, rfl, fun u hu => by rw [md_fo_set (fun i => !(decide (x ≤ nI i))), if_pos hu]⟩
theorem md_newO_v (M : md_S) : ∃ O, md_newO M = mdO M O ∧ ∀ u, u < 6 → O u = -1 := by
  unfold md_newO
  exact ⟨_, rfl, fun u hu => by rw [md_foO, if_pos hu]⟩
theorem md_newK_v (M : md_S) : ∃ O, md_newK M = mdK M O ∧ ∀ u, u < 4 → O u = -1 := by
  unfold md_newK
  exact ⟨_, rfl, fun u hu => by rw [md_foO, if_pos hu]⟩
theorem rl_G_0 (n m : Nat) : rl_G (fun _ => 0) (fun _ => false) n m := fun _ _ => ⟨fun r _ => rb_0 r, rb_lo_0 m⟩
theorem Rl_new (x y z : Int32) : Rl (rd_new x y z) (md_new x y z) (fun _ => 0) := by
  obtain ⟨U, eU, hU⟩ := md_newU_v (md_z (decide (z = 1))) x
  obtain ⟨R, eR, hR⟩ := md_newR_v (mdU (md_z (decide (z = 1))) U) y
  obtain ⟨O, eO, hO⟩ := md_newO_v (mdR (mdU (md_z (decide (z = 1))) U) R)
  obtain ⟨K, eK, hK⟩ := md_newK_v (mdO (mdR (mdU (md_z (decide (z = 1))) U) R) O)
  unfold md_new
  rw [eU, eR, eO, eK]
  have e : ∃ S1, md_ord (mdK (mdO (mdR (mdU (md_z (decide (z = 1))) U) R) O) K) = mdS (mdK (mdO (mdR (mdU (md_z (decide (z = 1))) U) R) O) K) S1 ∧ md_H (fun _ => false) S1 := ⟨_, rfl, md_or_H _ _⟩
  obtain ⟨S1, e1, hH⟩ := e
  rw [e1]
  have hN : ∃ N, mdS (mdK (mdO (mdR (mdU (md_z (decide (z = 1))) U) R) O) K) S1 = N ∧ mdl N = decide (z = 1) ∧ mdu N = U ∧ mdr N = R ∧ mda N = (fun _ => false) ∧ mdg N = (fun _ => false) ∧ mdi N = (fun _ => false) ∧ mdo N = O ∧ mdv N = (fun _ => false) ∧ mdk N = K ∧ mds N = S1 := by
    refine ⟨_, rfl, ?_, ?_, ?_, ?_, ?_, ?_, ?_, ?_, ?_, ?_⟩
    · simp only [mdl_S, mdl_K, mdl_O, mdl_R, mdl_U]; rfl
    · simp only [mdu_S, mdu_K, mdu_O, mdu_R, mdu_U]
    · simp only [mdr_S, mdr_K, mdr_O, mdr_R]
    · simp only [mda_S, mda_K, mda_O, mda_R, mda_U]; rfl
    · simp only [mdg_S, mdg_K, mdg_O, mdg_R, mdg_U]; rfl
    · simp only [mdi_S, mdi_K, mdi_O, mdi_R, mdi_U]; rfl
    · simp only [mdo_S, mdo_K, mdo_O]
    · simp only [mdv_S, mdv_K, mdv_O, mdv_R, mdv_U]; rfl
    · simp only [mdk_S, mdk_K]
    · simp only [mds_S]
  obtain ⟨N, eN, n1, n2, n3, n4, n5, n6, n7, n8, n9, n10⟩ := hN
  rw [eN]
  have hneg : decide ((-1 : Int32) < 0) = true := rfl
  refine ⟨?_, ?_, ?_, ?_, ?_, ?_, ?_, ?_, ?_, ?_, ?_, ?_, ?_⟩
  · rw [n1]; rfl
  · rw [n2]
    have := rd_mask_U x (n := 6) (by omega)
    exact ⟨fun u hu => by rw [hU u hu]; exact this.1 u hu, this.2⟩
  · rw [n3]
    have := rd_mask_U y (n := 10) (by omega)
    exact ⟨fun u hu => by rw [hR u hu]; exact this.1 u hu, this.2⟩
  · rw [n4]; exact rl_G_0 6 10
  · rw [n5]; exact rl_G_0 10 16
  · rw [n6]; exact rl_G_0 10 10
  · rw [n7]
    refine ⟨rb_lo_0 6, fun s hs => ⟨⟨rfl, Nat.zero_lt_succ 5⟩, ?_, fun q => ?_⟩⟩
    · rw [hO s hs, hneg]
      exact rb_0 s
    · have q : rb_t 0 s = true := q
      rw [rb_0] at q
      cases q
  · rw [n8]
    refine fun s hs => ⟨rb_lo_0 10, fun q => ?_, fun _ => rfl⟩
    have q : rb_t 0 s = true := q
    rw [rb_0] at q
    cases q
  · rw [n9]
    refine ⟨rb_lo_0 4, fun k hk => ⟨?_, fun q => ?_⟩⟩
    · rw [hK k hk, hneg]
      exact rb_0 k
    · have q : rb_t 0 k = true := q
      rw [rb_0] at q
      cases q
  · rw [n4]
    intro u r _ _ q
    cases q
  · rw [n6, n10]
    exact hH
  · rw [md_ab_no, n9]
    intro k hk hal
    rw [hK k hk, hneg] at hal
    cases hal
  · intro s hs hal
    rw [n7, hO s hs, hneg] at hal
    cases hal
theorem Rl_rok (h : Rl C M ow) : rd_ok C ow := by
  obtain ⟨hl, hu, hr, ha, hg, hi, hs, hv, hk, hd, hH, hB, hA⟩ := id h
  have key : ∀ {x : Int32} {n : Nat}, rb_lo n x → ∀ k, rb_t x k = true → k < n := by
    intro x n hl k ht
    refine Classical.byContradiction fun hn => ?_
    rw [hl k (by omega)] at ht
    cases ht
  exact ⟨key hu.2, key hr.2, key hs.1, key hk.1, fun s hs6 => (hs.2 s hs6).1⟩
theorem Rl_mok (h : Rl C M ow) : md_ok M ow := by
  obtain ⟨hl, hu, hr, ha, hg, hi, hs, hv, hk, hd, hH, hB, hA⟩ := id h
  intro s hs6 hal
  refine ⟨(hs.2 s hs6).2.2 ?_, (hs.2 s hs6).1.2⟩
  rw [(hs.2 s hs6).2.1, hal]
  rfl
end R73
