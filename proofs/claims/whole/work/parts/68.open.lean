/-! open -/
section R68
variable {C : rd_S} {M M' : md_S} {ow : Nat → Nat}
theorem ri_fo_and (P : Nat → Bool) : ∀ n, ri_fo (fun i b => b && P i) n true = !(ri_ex (fun i => !(P i)) n) := by
  intro n
  induction n with
  | zero => rfl
  | succ n ih =>
    show (ri_fo (fun i b => b && P i) n true && P n) = !(ri_ex (fun i => !(P i)) n || !(P n))
    rw [ih]
    cases ri_ex (fun i => !(P i)) n <;> cases P n <;> rfl
theorem rl_ma (ha : rl_G (rda C) (mda M) 6 10) (hi : rl_G (rdi C) (mdi M) 10 10) (hH : md_H (mdi M) (mds M)) {u : Nat} (hu : u < 6) {x : Int32} (hx : rb_lo 10 x) : md_ma M u x = decide ((x &&& (rj_w (rdi C) 10 (rda C u) ^^^ (-1))) = 0) := by
  have e : md_ma M u x = !(ri_ex (fun i => !(!(md_in x (nI i)) || md_au M u i)) 10) := ri_fo_and _ 10
  rw [e]
  by_cases h : (x &&& (rj_w (rdi C) 10 (rda C u) ^^^ (-1))) = 0
  · rw [decide_eq_true h, ri_ex_no]
    · rfl
    · intro i hi10
      rw [md_in_t x (by omega), rl_au ha hi hH hu hi10]
      cases hb : rb_t x i with
      | false => rfl
      | true => rw [(rb_sub_iff _ _).mp h i (by omega) hb]; rfl
  · rw [decide_eq_false h, Bool.not_eq_false']
    refine Classical.byContradiction fun hn => h ((rb_sub_iff _ _).mpr fun j hj hb => ?_)
    rw [Bool.not_eq_true] at hn
    by_cases hj10 : j < 10
    · have := ri_ex_false hn j hj10
      rw [md_in_t x (by omega), hb, rl_au ha hi hH hu hj10] at this
      simpa using this
    · rw [hx j (by omega)] at hb
      cases hb
theorem md_opV_v (V : Nat → Bool) (s : Nat) (x : Int32) {w r : Nat} (hr : r < 10) : md_opV V s x (10 * w + r) = if w = s then rb_t x r else V (10 * w + r) := by
  have key : ∀ n, n ≤ 10 → ri_fo (fun i V => rb_u V (10 * s + i) (md_in x (nI i))) n V (10 * w + r) = if w = s ∧ r < n then rb_t x r else V (10 * w + r) := by
    intro n
    induction n with
    | zero => intro _; rw [if_neg (by omega)]; rfl
    | succ n ih =>
      intro hn
      have ih := ih (by omega)
      show rb_u (ri_fo _ n V) (10 * s + n) (md_in x (nI n)) (10 * w + r) = _
      by_cases e : 10 * w + r = 10 * s + n
      · have e1 : w = s := by omega
        have e2 : r = n := by omega
        subst e1 e2
        rw [rb_u_same, if_pos ⟨rfl, by omega⟩, md_in_t x (by omega)]
      · rw [rb_u_ne _ _ e, ih]
        by_cases e1 : w = s
        · by_cases e2 : r < n
          · rw [if_pos ⟨e1, e2⟩, if_pos ⟨e1, by omega⟩]
          · rw [if_neg (fun q => e2 q.2), if_neg (fun q => by omega)]
        · rw [if_neg (fun q => e1 q.1), if_neg (fun q => e1 q.1)]
  have := key 10 (Nat.le_refl _)
  unfold md_opV
  rw [this]
  by_cases e1 : w = s
  · rw [if_pos ⟨e1, hr⟩, if_pos e1]
  · rw [if_neg (fun q => e1 q.1), if_neg e1]
theorem md_op2_v (M : md_S) (w x : Int32) (s : Nat) : md_op2 M w x s = mdV (mdO (mdT M 0) (upd (mdo M) s w)) (md_opV (mdv M) s x) := rfl
section OP
variable {u s0 : Nat} {ro : Int32} {V1 : Nat → Bool} {ow' : Nat → Nat}
theorem Rl_opX (h : Rl C M ow) (hd0 : decide (mdo M s0 < 0) = true) (hV : ∀ w r, r < 10 → V1 (10 * w + r) = if w = s0 then rb_t ro r else mdv M (10 * w + r)) (x : Int32) : Rl C (mdO (mdT (mdV (mdO (mdT M 0) (upd (mdo M) s0 x)) V1) 2) (upd (upd (mdo M) s0 x) s0 (-1))) ow := by
  refine Rl_ext h rfl (fun _ _ => rfl) (fun _ _ => rfl) (fun _ _ => rfl) (fun _ _ => rfl) (fun _ _ => rfl) (fun _ _ _ _ => rfl) (fun s _ => ?_) (fun _ _ => ⟨rfl, fun _ => ⟨rfl, rfl, fun _ _ => rfl⟩⟩)
  show decide (upd (upd (mdo M) s0 x) s0 (-1) s < 0) = _ ∧ (_ → upd (upd (mdo M) s0 x) s0 (-1) s = _ ∧ ∀ r, r < 10 → V1 (10 * s + r) = _)
  by_cases e : s = s0
  · subst e
    rw [upj_same, hd0]
    exact ⟨rfl, fun q => by cases q⟩
  · rw [upj_ne _ _ e, upj_ne _ _ e]
    exact ⟨rfl, fun _ => ⟨rfl, fun r hr => by rw [hV s r hr, if_neg e]⟩⟩
theorem rl_op_ab (h : Rl C M ow) (hu6 : u < 6) (hs0 : s0 < 6) (hV : ∀ w r, r < 10 → V1 (10 * w + r) = if w = s0 then rb_t ro r else mdv M (10 * w + r)) : md_ab (mdV (mdO (mdT M 0) (upd (mdo M) s0 (nI u))) V1) = rd_brk C 1 ro := by
  obtain ⟨hl, hu, hr, ha, hg, hi, hs, hv, hk, hd, hH, hB, hA⟩ := id h
  have eau : ∀ w z, z < 10 → md_au (mdV (mdO (mdT M 0) (upd (mdo M) s0 (nI u))) V1) w z = md_au M w z := fun w z hz => md_au_same hz (fun _ _ => rfl) (fun _ _ _ _ => rfl)
  refine rl_ab1 (M := M) (M1 := mdV (mdO (mdT M 0) (upd (mdo M) s0 (nI u))) V1) (w0 := s0) hk hB rfl hs0 (fun k hk4 hal w hw hn hh => ?_) (fun k hk4 hal hkd => ?_)
  · refine md_hb_mono (M := M) (M' := mdV (mdO (mdT M 0) (upd (mdo M) s0 (nI u))) V1) rfl rfl (fun q => ?_) (fun _ j hj q => ?_) hh
    · change cond (decide (mdk M k = 0)) (mdu M w) (!(decide (upd (mdo M) s0 (nI u) w < 0))) = true at q
      show cond (decide (mdk M k = 0)) (mdu M w) (!(decide (mdo M w < 0))) = true
      by_cases h0 : mdk M k = 0
      · rw [decide_eq_true h0, cond_true] at q ⊢
        exact q
      · have h1 := (rl_k2 hk hk4 hal).2.1.resolve_left h0
        rw [decide_eq_false h0, cond_false, upj_ne _ _ (fun e => hn ⟨h1, e⟩)] at q
        rw [decide_eq_false h0, cond_false]
        exact q
    · rw [eau w j hj] at q
      change (mdm M (10 * k + j) && cond (decide (mdk M k = 0)) (md_au M w j) (V1 (10 * w + j))) = true at q
      by_cases h0 : mdk M k = 0
      · rw [decide_eq_true h0, cond_true] at q ⊢
        exact q
      · have h1 := (rl_k2 hk hk4 hal).2.1.resolve_left h0
        rw [decide_eq_false h0, cond_false, hV w j hj, if_neg (fun e => hn ⟨h1, e⟩)] at q
        rw [decide_eq_false h0, cond_false]
        exact q
  · rw [md_hb_v]
    have h0 : ¬ mdk M k = 0 := fun e => by rw [e] at hkd; exact absurd hkd (by decide)
    have e1 : md_ct (mdV (mdO (mdT M 0) (upd (mdo M) s0 (nI u))) V1) k s0 = true := by
      show cond (decide (mdk M k = 0)) _ (!(decide (upd (mdo M) s0 (nI u) s0 < 0))) = true
      rw [decide_eq_false h0, cond_false, upj_same, decide_eq_false (nI_pos (by omega))]
      rfl
    rw [e1, Bool.true_and]
    show (!(decide (nI (rk (fun j => mdm M (10 * k + j) && cond (decide (mdk M k = 0)) (md_au (mdV (mdO (mdT M 0) (upd (mdo M) s0 (nI u))) V1) s0 j) (V1 (10 * s0 + j))) 10) < mdn M k))) = _
    rw [decide_eq_false h0]
    rw [rk_congr (B' := fun j => mdm M (10 * k + j) && rb_t ro j) (fun j hj => ?_)]
    rw [cond_false, hV s0 j hj, if_pos rfl]
theorem Rl_op (h : Rl C M ow) (hw0 : ow' s0 = u) (hw1 : ∀ s, ¬ s = s0 → ow' s = ow s) (hu6 : u < 6) (hs0 : s0 < 6) (hV : ∀ w r, r < 10 → V1 (10 * w + r) = if w = s0 then rb_t ro r else mdv M (10 * w + r)) (hlo : rb_lo 10 ro) (hau : ∀ r, r < 10 → rb_t ro r = true → md_au M u r = true)
    (hb : md_ab (mdV (mdO (mdT M 0) (upd (mdo M) s0 (nI u))) V1) = false) : Rl (rdV (rdO (rdS C (rds C ||| rb_b s0)) (upd (rdo C) s0 (nI u))) (upd (rdv C) s0 ro)) (mdV (mdO (mdT M 0) (upd (mdo M) s0 (nI u))) V1) ow' := by
  obtain ⟨hl, hu, hr, ha, hg, hi, hs, hv, hk, hd, hH, hB, hA⟩ := id h
  have eau : ∀ w z, z < 10 → md_au (mdV (mdO (mdT M 0) (upd (mdo M) s0 (nI u))) V1) w z = md_au M w z := fun w z hz => md_au_same hz (fun _ _ => rfl) (fun _ _ _ _ => rfl)
  have hS : rl_S (rds C ||| rb_b s0) (upd (rdo C) s0 (nI u)) (upd (mdo M) s0 (nI u)) ow' := by
    refine ⟨rb_lo_or hs.1 (rb_lo_b hs0 (by omega)), fun s hs6 => ?_⟩
    rw [rb_set _ (by omega)]
    by_cases e : s = s0
    · subst e
      rw [upj_same, upj_same, hw0, decide_eq_true rfl, Bool.or_true, decide_eq_false (nI_pos (by omega))]
      exact ⟨⟨rfl, hu6⟩, rfl, fun _ => rfl⟩
    · rw [upj_ne _ _ e, upj_ne _ _ e, hw1 s e, decide_eq_false e, Bool.or_false]
      exact hs.2 s hs6
  have hVV : rl_V (rds C ||| rb_b s0) (upd (rdv C) s0 ro) V1 := by
    intro s hs6
    rw [rb_set _ (by omega)]
    by_cases e : s = s0
    · subst e
      rw [upj_same, decide_eq_true rfl, Bool.or_true]
      exact ⟨hlo, fun _ r hr => by rw [hV s r hr, if_pos rfl], fun q => Bool.noConfusion q⟩
    · rw [upj_ne _ _ e, decide_eq_false e, Bool.or_false]
      obtain ⟨h1, h2, h3⟩ := hv s hs6
      exact ⟨h1, fun t r hr => by rw [hV s r hr, if_neg e]; exact h2 t r hr, h3⟩
  refine ⟨hl, hu, hr, ha, hg, hi, hS, hVV, hk, hd, hH, hb, ?_⟩
  intro s hs6 hal r hr10 hx
  change decide (upd (mdo M) s0 (nI u) s < 0) = false at hal
  change V1 (10 * s + r) = true at hx
  rw [eau _ _ hr10]
  rw [hV s r hr10] at hx
  by_cases e : s = s0
  · rw [if_pos e] at hx
    rw [e, hw0]
    exact hau r hr10 hx
  · rw [if_neg e] at hx
    rw [hw1 s e]
    rw [upj_ne _ _ e] at hal
    exact hA s hs6 hal r hr10 hx
end OP
theorem ag_open (h : Rl C M ow) (x ro : Int32) : lw_ag RlE lw_cC C (rd_open C x ro x.toNatClampNeg) (md_open M x ro x.toNatClampNeg) := by
  obtain ⟨hl, hu, hr, ha, hg, hi, hs, hv, hk, hd, hH, hB, hA⟩ := id h
  unfold rd_open md_open
  rw [rl_nu hu x, rl_st hr ro]
  cases hx : rb_h (rdu C) x with
  | false => exact ag_r (cd := lw_cC) (e := 0) h (by decide)
  | true =>
  by_cases hy : (ro &&& (rdr C ^^^ (-1))) = 0
  case neg => rw [decide_eq_false hy]; exact ag_r (cd := lw_cC) (e := 0) h (by decide)
  rw [decide_eq_true hy]
  obtain ⟨u, hu6, hu16, rfl, htu, eu, -⟩ := rb_hx hu.2 hx
  have hlo : rb_lo 10 ro := by
    intro j hj
    by_cases hj32 : j < 32
    · cases hb : rb_t ro j with
      | false => rfl
      | true =>
        have := (rb_sub_iff _ _).mp hy j hj32 hb
        rw [hr.2 j hj] at this
        cases this
    · exact rb_hi _ (by omega)
  have efs : rd_lf (rds C) 6 = md_fs M := ri_fst_congr fun i hi => by rw [(hs.2 i hi).2.1, Bool.not_not]
  rw [eu, efs, ← rl_ma ha hi hH hu6 hlo]
  have sp := (ri_fst_spec (Q := fun i => decide (mdo M i < 0)) 6).1
  change md_fs M < 6 ∧ decide (mdo M (md_fs M) < 0) = true ∧ _ ∨ md_fs M = 6 ∧ _ at sp
  generalize md_fs M = s0 at sp ⊢
  cases hm : md_ma M u ro with
  | false =>
    rw [Bool.not_false, Bool.or_true]
    exact ag_r (cd := lw_cC) (e := 2) h (by decide)
  | true =>
  rw [Bool.not_true, Bool.or_false]
  rcases sp with sp | sp
  case inr =>
    rw [sp.1]
    exact ag_r (cd := lw_cC) (e := 2) h (by decide)
  have e1 : decide (nI s0 < 6) = true := decide_eq_true ((nJ_lt (b := 6) (by have := sp.1; omega) (by omega)).mpr sp.1)
  rw [e1, decide_eq_false (by have := sp.1; omega : ¬ s0 = 6)]
  show lw_ag RlE lw_cC C (cond (rd_brk C 1 ro) _ _) (md_op3 (md_op2 M (nI u) ro s0) s0)
  have hV : ∀ w r, r < 10 → md_opV (mdv M) s0 ro (10 * w + r) = if w = s0 then rb_t ro r else mdv M (10 * w + r) := fun w r hr => md_opV_v _ _ _ hr
  rw [md_op2_v]
  generalize md_opV (mdv M) s0 ro = V1 at hV ⊢
  rw [← rl_op_ab h hu6 sp.1 hV]
  unfold md_op3
  cases hb : md_ab (mdV (mdO (mdT M 0) (upd (mdo M) s0 (nI u))) V1) with
  | true => exact ⟨by decide, rfl, ow, Rl_opX h sp.2.1 hV _⟩
  | false =>
    refine ⟨rfl, rfl, _, Rl_T (Rl_op (ow' := fun s => if s = s0 then u else ow s) h (if_pos rfl) (fun s e => if_neg e) hu6 sp.1 hV hlo (fun r hr hx => ?_) hb) 0⟩
    rw [rl_ma ha hi hH hu6 hlo] at hm
    rw [rl_au ha hi hH hu6 hr]
    exact (rb_sub_iff _ _).mp (of_decide_eq_true hm) r (by omega) hx
end R68
