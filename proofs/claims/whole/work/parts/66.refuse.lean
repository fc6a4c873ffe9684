/-! The calls that a set may refuse -/
section R66
variable {C : rd_S} {M M' : md_S} {ow : Nat → Nat}
theorem rl_al {s : Nat} (hs : rl_S (rds C) (rdo C) (mdo M) ow) (hs6 : s < 6) (ht : rb_t (rds C) s = true) : decide (mdo M s < 0) = false := by
  have := (hs.2 s hs6).2.1
  rw [ht] at this
  simpa using this.symm
theorem rb_u_back {B : Nat → Bool} {k : Nat} (h : B k = false) : rb_u (rb_u B k true) k false = B := by
  funext j
  by_cases e : j = k
  · subst e; rw [rb_u_same, h]
  · rw [rb_u_ne _ _ e, rb_u_ne _ _ e]
theorem ag_assign (h : Rl C M ow) (x y : Int32) : lw_ag RlE lw_cC C (rd_assign C x y x.toNatClampNeg) (md_assign M x y x.toNatClampNeg y.toNatClampNeg) := by
  obtain ⟨hl, hu, hr, ha, hg, hi, hs, hv, hk, hd, hH, hB, hA⟩ := id h
  unfold rd_assign md_assign
  rw [rl_nu hu x, rl_nr hr y]
  cases hx : rb_h (rdu C) x with
  | false => exact ag_r (cd := lw_cC) (e := 0) h (by decide)
  | true =>
  cases hy : rb_h (rdr C) y with
  | false => exact ag_r (cd := lw_cC) (e := 0) h (by decide)
  | true =>
  obtain ⟨u, hu6, hu16, rfl, htu, eu, -⟩ := rb_hx hu.2 hx
  obtain ⟨v, hv10, hv16, rfl, htv, ev, eb⟩ := rb_hx hr.2 hy
  rw [eu, ev, eb, rb_hk _ hv16, (ha u hu6).1 v hv10]
  cases hb : mda M (10 * u + v) with
  | true => exact ag_r (cd := lw_cC) (e := 2) h (by decide)
  | false =>
  have hG := rl_G_set ha (Or.inl rfl) hu6 hv10
  have hau : ∀ w z, w < 6 → z < 10 → md_au (md_as1 M (10 * u + v)) w z = rb_t (rj_w (rdi C) 10 (upd (rda C) u (rda C u ||| rb_b v) w)) z := fun w z hw hz => rl_au (C := rdA C (upd (rda C) u (rda C u ||| rb_b v))) (M := md_as1 M (10 * u + v)) hG hi hH hw hz
  have hne : ∀ w z, w < 6 → z < 10 → ¬ w = u → md_au (md_as1 M (10 * u + v)) w z = md_au M w z := by
    intro w z hw hz e
    refine md_au_same hz (fun q hq => ?_) (fun _ _ _ _ => rfl)
    show rb_u (mda M) (10 * u + v) true (10 * w + q) = _
    rw [rb_u_ne _ _ (by omega)]
  have hup : ∀ w z, w < 6 → z < 10 → md_au M w z = true → md_au (md_as1 M (10 * u + v)) w z = true := by
    intro w z hw hz
    refine md_au_mono hw hz (fun q hq e => ?_) (fun _ _ _ _ e => e)
    show rb_u (mda M) (10 * u + v) true (10 * w + q) = true
    by_cases e2 : 10 * w + q = 10 * u + v
    · rw [e2, rb_u_same]
    · rw [rb_u_ne _ _ e2]; exact e
  have hab : md_ab (md_as1 M (10 * u + v)) = rd_brk C 0 (rj_w (rdi C) 10 (rda C u ||| rb_b v)) := by
    refine rl_ab1 (M := M) (M1 := md_as1 M (10 * u + v)) (w0 := u) hk hB (rfl : mdk (md_as1 M (10 * u + v)) = mdk M) hu6 (fun k hk4 hal w hw hn hh => ?_) (fun k hk4 hal hkd => ?_)
    · refine md_hb_mono (M := M) (M' := md_as1 M (10 * u + v)) rfl rfl (fun q => q) (fun _ j hj q => ?_) hh
      by_cases h0 : mdk M k = 0
      · rw [← hne w j hw hj (fun e => hn ⟨h0, e⟩)]
        exact q
      · rw [decide_eq_false h0] at q ⊢
        exact q
    · rw [md_hb_v]
      have e1 : md_ct (md_as1 M (10 * u + v)) k u = true := by
        show cond (decide (mdk M k = 0)) (mdu M u) _ = true
        rw [decide_eq_true hkd, cond_true, ← hu.1 u hu6]
        exact htu
      rw [e1, Bool.true_and]
      show (!(decide (nI (rk (fun j => mdm M (10 * k + j) && cond (decide (mdk M k = 0)) (md_au (md_as1 M (10 * u + v)) u j) (mdv M (10 * u + j))) 10) < mdn M k))) = _
      rw [decide_eq_true hkd]
      rw [rk_congr (B' := fun j => mdm M (10 * k + j) && rb_t (rj_w (rdi C) 10 (rda C u ||| rb_b v)) j) (fun j hj => ?_)]
      rw [cond_true, hau u j hu6 hj, upj_same]
  rw [← hab]
  cases hbk : md_ab (md_as1 M (10 * u + v)) with
  | true =>
    refine ⟨by decide, rfl, ow, ?_⟩
    show Rl C (mdA (mdT (md_as1 M (10 * u + v)) 2) (rb_u (rb_u (mda M) (10 * u + v) true) (10 * u + v) false)) ow
    rw [rb_u_back hb]
    exact Rl_T h 2
  | false =>
    refine ⟨rfl, rl_G_cnt hG (by omega) hu6, ow, ?_⟩
    show Rl (rdA C (upd (rda C) u (rda C u ||| rb_b v))) (mdT (md_as1 M (10 * u + v)) 0) ow
    refine Rl_T (C := rdA C (upd (rda C) u (rda C u ||| rb_b v))) (M := md_as1 M (10 * u + v)) ⟨hl, hu, hr, hG, hg, hi, hs, hv, hk, ?_, hH, hbk, ?_⟩ 0
    · intro w r hw hr10 hh
      change rb_u (mda M) (10 * u + v) true (10 * w + r) = true at hh
      show mdu M w = true
      by_cases e : w = u
      · rw [e, ← hu.1 u hu6]; exact htu
      · rw [rb_u_ne _ _ (by omega)] at hh
        exact hd w r hw hr10 hh
    · exact rl_A_same hA (fun s _ h => ⟨h, fun _ _ h => h⟩) (fun s hs6 _ r hr hx => hup _ _ (hs.2 s hs6).1.2 hr hx)
theorem ag_activate (h : Rl C M ow) (x y : Int32) : lw_ag RlE lw_cC C (rd_activate C ow x y x.toNatClampNeg) (md_activate M ow x y x.toNatClampNeg y.toNatClampNeg) := by
  obtain ⟨hl, hu, hr, ha, hg, hi, hs, hv, hk, hd, hH, hB, hA⟩ := id h
  unfold rd_activate md_activate
  rw [rl_ns hs x, rl_nr hr y]
  cases hx : rb_h (rds C) x with
  | false => exact ag_r (cd := lw_cC) (e := 0) h (by decide)
  | true =>
  cases hy : rb_h (rdr C) y with
  | false => exact ag_r (cd := lw_cC) (e := 0) h (by decide)
  | true =>
  obtain ⟨u, hu6, hu16, rfl, htu, eu, -⟩ := rb_hx hs.1 hx
  obtain ⟨v, hv10, hv16, rfl, htv, ev, eb⟩ := rb_hx hr.2 hy
  have how := (hs.2 u hu6).1.2
  rw [eu, ev, eb, rb_hk _ hv16, rb_hk _ hv16, (hv u hu6).2.1 htu v hv10, ← rl_au ha hi hH how hv10]
  cases hb : mdv M (10 * u + v) with
  | true => exact ag_r (cd := lw_cC) (e := 2) h (by decide)
  | false =>
  cases hc : md_au M (ow u) v with
  | false => exact ag_r (cd := lw_cC) (e := 2) h (by decide)
  | true =>
  have hV := rl_V_one hv hu6 hv10 htu true (rdv C u ||| rb_b v) rfl
  have eau : ∀ w z, z < 10 → md_au (md_ac1 M (10 * u + v) true) w z = md_au M w z := fun w z hz => md_au_same hz (fun _ _ => rfl) (fun _ _ _ _ => rfl)
  have hne : ∀ w z, z < 10 → ¬ w = u → mdv (md_ac1 M (10 * u + v) true) (10 * w + z) = mdv M (10 * w + z) := by
    intro w z hz e
    show rb_u (mdv M) (10 * u + v) true (10 * w + z) = _
    rw [rb_u_ne _ _ (by omega)]
  have hab : md_ab (md_ac1 M (10 * u + v) true) = rd_brk C 1 (rdv C u ||| rb_b v) := by
    refine rl_ab1 (M := M) (M1 := md_ac1 M (10 * u + v) true) (w0 := u) hk hB (rfl : mdk (md_ac1 M (10 * u + v) true) = mdk M) hu6 (fun k hk4 hal w hw hn hh => ?_) (fun k hk4 hal hkd => ?_)
    · refine md_hb_mono (M := M) (M' := md_ac1 M (10 * u + v) true) rfl rfl (fun q => q) (fun _ j hj q => ?_) hh
      rw [eau w j hj] at q
      by_cases h0 : mdk M k = 0
      · rw [decide_eq_true h0] at q ⊢
        exact q
      · have h1 := (rl_k2 hk hk4 hal).2.1.resolve_left h0
        rw [hne w j hj (fun e => hn ⟨h1, e⟩)] at q
        exact q
    · rw [md_hb_v]
      have h0 : ¬ mdk M k = 0 := fun e => by rw [e] at hkd; exact absurd hkd (by decide)
      have e1 : md_ct (md_ac1 M (10 * u + v) true) k u = true := by
        show cond (decide (mdk M k = 0)) _ (!(decide (mdo M u < 0))) = true
        rw [decide_eq_false h0, cond_false, ← (hs.2 u hu6).2.1]
        exact htu
      rw [e1, Bool.true_and]
      show (!(decide (nI (rk (fun j => mdm M (10 * k + j) && cond (decide (mdk M k = 0)) (md_au (md_ac1 M (10 * u + v) true) u j) (rb_u (mdv M) (10 * u + v) true (10 * u + j))) 10) < mdn M k))) = _
      rw [decide_eq_false h0]
      rw [rk_congr (B' := fun j => mdm M (10 * k + j) && rb_t (rdv C u ||| rb_b v) j) (fun j hj => ?_)]
      have := (hV u hu6).2.1 htu j hj
      rw [upj_same] at this
      rw [cond_false, this]
  rw [← hab]
  show lw_ag RlE lw_cC C (cond (md_ab (md_ac1 M (10 * u + v) true)) _ _) (md_ac3 (md_ac1 M (10 * u + v) true) u v)
  unfold md_ac3
  cases hbk : md_ab (md_ac1 M (10 * u + v) true) with
  | true =>
    refine ⟨by decide, rfl, ow, ?_⟩
    show Rl C (mdV (mdT (md_ac1 M (10 * u + v) true) 2) (rb_u (rb_u (mdv M) (10 * u + v) true) (10 * u + v) false)) ow
    rw [rb_u_back hb]
    exact Rl_T h 2
  | false =>
    refine ⟨rfl, rl_V_cnt hV hu6 htu, ow, ?_⟩
    show Rl (rdV C (upd (rdv C) u (rdv C u ||| rb_b v))) (mdT (md_ac1 M (10 * u + v) true) 0) ow
    refine Rl_T (C := rdV C (upd (rdv C) u (rdv C u ||| rb_b v))) (M := md_ac1 M (10 * u + v) true) ⟨hl, hu, hr, ha, hg, hi, hs, hV, hk, hd, hH, hbk, ?_⟩ 0
    intro s hs6 hal r hr10 hx
    rw [eau _ _ hr10]
    by_cases e : 10 * s + r = 10 * u + v
    · have e1 : s = u := by omega
      have e2 : r = v := by omega
      rw [e1, e2]
      exact hc
    · change rb_u (mdv M) (10 * u + v) true (10 * s + r) = true at hx
      rw [rb_u_ne _ _ e] at hx
      exact hA s hs6 hal r hr10 hx
end R66
