/-! inherit, and open -/
section R67
variable {C : rd_S} {M M' : md_S} {ow : Nat → Nat}
/-- an edge more: what a user then has -/
theorem md_ih_au (hH : md_H (mdi M) (mds M)) {u v w z : Nat} (hu : u < 10) (hv : v < 10) (hz : z < 10) : md_au (md_ih1 M (10 * u + v)) w z = (md_au M w z || (md_au M w u && mds M (10 * v + z))) := by
  have h1 : md_H (rb_u (mdi M) (10 * u + v) true) (mds (md_ih1 M (10 * u + v))) := md_or_H _ _
  have a := h1 (fun q => mda M (10 * w + q))
  have r := hH (fun q => mda M (10 * w + q))
  have g0 := hH (fun q => decide (q = v))
  have g : rc_is (fun i j => mdi M (10 * i + j)) (fun j => decide (j = v)) (fun j => mds M (10 * v + j)) := g0.congr (fun _ _ _ _ => rfl) (fun _ _ => rfl) (fun j _ => md_H_one hH hv)
  have b := rc_edge (I := fun i j => mdi M (10 * i + j)) (I' := fun i j => rb_u (mdi M) (10 * u + v) true (10 * i + j)) hu hv (fun i j hi hj => by
    by_cases e : 10 * i + j = 10 * u + v
    · have e1 : i = u := by omega
      have e2 : j = v := by omega
      subst e1 e2
      show rb_u (mdi M) (10 * i + j) true (10 * i + j) = _
      rw [rb_u_same]
      simp
    · show rb_u (mdi M) (10 * u + v) true (10 * i + j) = _
      rw [rb_u_ne _ _ e]
      by_cases e1 : i = u
      · have e2 : ¬ j = v := fun q => e (by omega)
        rw [decide_eq_false e2, Bool.and_false, Bool.or_false]
      · rw [decide_eq_false e1, Bool.false_and, Bool.or_false]) r g
  have := a.eq b hz
  rw [md_au_ex, md_au_ex, md_au_ex]
  exact this
theorem rl_ihp (hi : rl_G (rdi C) (mdi M) 10 10) {u : Nat} (hu : u < 10) : md_ihp M u = decide (rdi C u = 0) := by
  unfold md_ihp
  rw [rl_G_cnt hi (by omega) hu]
  by_cases h : rdi C u = 0
  · rw [h]
    decide
  · rw [decide_eq_false h]
    refine decide_eq_false fun q => h ?_
    rw [rb_c_rkN (N := 10) (by omega) (hi u hu).2] at q
    have hle := rk_le (rb_t (rdi C u)) 10
    have h0 : rk (rb_t (rdi C u)) 10 ≤ 0 := (nJ_le (b := 0) (by omega) (by omega)).mp q
    refine rb_zero fun j hj => ?_
    by_cases hj10 : j < 10
    · cases ht : rb_t (rdi C u) j with
      | false => rfl
      | true =>
        have : rk (fun i => decide (i = j)) 10 ≤ rk (rb_t (rdi C u)) 10 := rk_mono fun i _ e => by
          rw [decide_eq_true_eq] at e
          rw [e]; exact ht
        have h1 : ∀ j, j < 10 → rk (fun i => decide (i = j)) 10 = 1 := by decide
        rw [h1 j hj10] at this
        omega
    · exact (hi u hu).2 j (by omega)
theorem rl_ib (h : Rl C M ow) {u v : Nat} (hu10 : u < 10) (hv10 : v < 10) : md_ab (md_ih1 M (10 * u + v)) = rd_ib C (nI u) (nI v) := by
  obtain ⟨hl, hu, hr, ha, hg, hi, hs, hv, hk, hd, hH, hB, hA⟩ := id h
  have eN : ∀ w z, z < 10 → md_au (md_ih1 M (10 * u + v)) w z = (md_au M w z || (md_au M w u && mds M (10 * v + z))) := fun w z hz => md_ih_au hH hu10 hv10 hz
  have ebt : ((1 : Int32) <<< (nI v &&& 31)) = rb_b v := rfl
  have ebits : ∀ w j, w < 6 → j < 10 → md_au M w u = true → rb_t (rj_w (rdi C) 10 (rda C w) ||| rj_w (rdi C) 10 (rb_b v)) j = md_au (md_ih1 M (10 * u + v)) w j := by
    intro w j hw hj hc
    rw [rb_or, ← rl_au ha hi hH hw hj, ← rl_ju hi hH hv10 hj, eN w j hj, hc, Bool.true_and]
  generalize hN : md_ih1 M (10 * u + v) = N at eN ebits ⊢
  have ek : mdk N = mdk M := by rw [← hN]; rfl
  have en : mdn N = mdn M := by rw [← hN]; rfl
  have em : mdm N = mdm M := by rw [← hN]; rfl
  have eo : mdo N = mdo M := by rw [← hN]; rfl
  have eu : mdu N = mdu M := by rw [← hN]; rfl
  have ev : mdv N = mdv M := by rw [← hN]; rfl
  have ect : ∀ k w, md_ct N k w = md_ct M k w := fun k w => by unfold md_ct; rw [ek, eu, eo]
  have hno := (md_ab_no M).mp hB
  unfold rd_ib
  rw [ebt, Bool.eq_iff_iff, md_ab_yes, ri_ex_iff, ek]
  constructor
  · rintro ⟨k, hk4, hal, w, hw, hb⟩
    have hbM := hno k hk4 hal w hw
    have h0 : mdk M k = 0 := by
      refine Classical.byContradiction fun h0 => ?_
      have : md_hb M k w = true := md_hb_mono (M := M) (M' := N) (by rw [ek]) (by rw [en]) (by rw [ect]; exact fun q => q) (fun _ j hj q => by
        rw [em, ev, decide_eq_false h0] at q
        rw [decide_eq_false h0]
        exact q) hb
      rw [hbM] at this
      cases this
    have hc : md_au M w u = true := by
      cases hc : md_au M w u with
      | true => rfl
      | false =>
        have : md_hb M k w = true := md_hb_mono (M := M) (M' := N) (by rw [ek]) (by rw [en]) (by rw [ect]; exact fun q => q) (fun _ j hj q => by
          rw [em, eN w j hj, hc, Bool.false_and, Bool.or_false, decide_eq_true h0] at q
          rw [decide_eq_true h0]
          exact q) hb
        rw [hbM] at this
        cases this
    refine ⟨w, hw, ?_⟩
    rw [rb_hk _ (by omega), ← rl_au ha hi hH hw hu10, hc, Bool.true_and, rl_brk hk, ri_ex_iff]
    refine ⟨k, hk4, ?_⟩
    rw [hal, decide_eq_true h0, Bool.not_false, Bool.true_and, Bool.true_and]
    rw [md_hb_v, Bool.and_eq_true] at hb
    have hb2 := hb.2
    rw [em, en, ek] at hb2
    rw [rk_congr (B' := fun j => mdm M (10 * k + j) && cond (decide (mdk M k = 0)) (md_au N w j) (mdv N (10 * w + j))) (fun j hj => by
      rw [ebits w j hw hj hc, decide_eq_true h0, cond_true])]
    exact hb2
  · rintro ⟨w, hw, hb⟩
    rw [rb_hk _ (by omega), ← rl_au ha hi hH hw hu10, Bool.and_eq_true, rl_brk hk, ri_ex_iff] at hb
    obtain ⟨hc, k, hk4, hb⟩ := hb
    rw [Bool.and_eq_true, Bool.and_eq_true, Bool.not_eq_true', decide_eq_true_eq] at hb
    obtain ⟨⟨hal, h0⟩, hb⟩ := hb
    refine ⟨k, hk4, hal, w, hw, ?_⟩
    have huw : mdu M w = true := by
      have hc2 := hc
      rw [md_au_ex, ri_ex_iff] at hc2
      obtain ⟨q, hq, hc2⟩ := hc2
      rw [Bool.and_eq_true] at hc2
      exact hd w q hw hq hc2.1
    rw [md_hb_v, ect, Bool.and_eq_true]
    refine ⟨?_, ?_⟩
    · unfold md_ct
      rw [decide_eq_true h0, cond_true]
      exact huw
    · rw [em, en, ek]
      rw [rk_congr (B' := fun j => mdm M (10 * k + j) && cond (decide (mdk M k = 0)) (md_au N w j) (mdv N (10 * w + j))) (fun j hj => by
        rw [ebits w j hw hj hc, decide_eq_true h0, cond_true])] at hb
      exact hb
theorem md_ih1_v (M : md_S) (k : Nat) : md_ih1 M k = mdS (mdI (mdT M 0) (rb_u (mdi M) k true)) (md_or (rb_u (mdi M) k true) (mds M)) := rfl
theorem Rl_ihy (h : Rl C M ow) {u : Nat} {y : Int32} {I1 S1 : Nat → Bool} (hI : rl_G (upd (rdi C) u y) I1 10 10) (hH1 : md_H I1 S1) (hb : md_ab (mdS (mdI (mdT M 0) I1) S1) = false) (hau : ∀ w z, w < 6 → z < 10 → md_au M w z = true → md_au (mdS (mdI (mdT M 0) I1) S1) w z = true) : Rl (rdI C (upd (rdi C) u y)) (mdS (mdI (mdT M 0) I1) S1) ow := by
  obtain ⟨hl, hu, hr, ha, hg, hi, hs, hv, hk, hd, hH, hB, hA⟩ := id h
  have hA1 : rl_A (mdS (mdI (mdT M 0) I1) S1) ow := fun s hs6 hal r hr hx => hau _ _ (hs.2 s hs6).1.2 hr (hA s hs6 hal r hr hx)
  exact ⟨hl, hu, hr, ha, hg, hI, hs, hv, hk, hd, hH1, hb, hA1⟩
theorem Rl_inherit (h : Rl C M ow) {u v : Nat} (hu10 : u < 10) (hv10 : v < 10) (hb : md_ab (md_ih1 M (10 * u + v)) = false) : Rl (rdI C (upd (rdi C) u (rdi C u ||| rb_b v))) (md_ih1 M (10 * u + v)) ow := by
  obtain ⟨hl, hu, hr, ha, hg, hi, hs, hv, hk, hd, hH, hB, hA⟩ := id h
  have hau : ∀ w z, w < 6 → z < 10 → md_au M w z = true → md_au (md_ih1 M (10 * u + v)) w z = true := by
    intro w z _ hz q
    rw [md_ih_au hH hu10 hv10 hz, q, Bool.true_or]
  have h1 := md_or_H (rb_u (mdi M) (10 * u + v) true) (mds M)
  rw [md_ih1_v] at hb hau ⊢
  generalize md_or (rb_u (mdi M) (10 * u + v) true) (mds M) = S1 at hb hau h1 ⊢
  exact Rl_ihy h (rl_G_set hi (Or.inl rfl) hu10 hv10) h1 hb hau
theorem Rl_ord {N : md_S} (h : Rl C M ow) (e1 : mdl N = mdl M) (e2 : mdu N = mdu M) (e3 : mdr N = mdr M) (e4 : mda N = mda M) (e5 : mdg N = mdg M) (e6 : mdi N = mdi M) (e7 : mdo N = mdo M) (e8 : mdv N = mdv M) (e9 : mdk N = mdk M) (e10 : mdn N = mdn M) (e11 : mdm N = mdm M) : Rl C (md_ord N) ow := by
  obtain ⟨hl, hu, hr, ha, hg, hi, hs, hv, hk, hd, hH, hB, hA⟩ := id h
  have h1 : md_H (mdi N) (md_or (mdi N) (mds N)) := md_or_H _ _
  rw [e6] at h1
  have f6 : mdi (md_ord N) = mdi M := e6
  refine Rl_ext (M' := md_ord N) h e1 (fun u _ => congrFun e2 u) (fun u _ => congrFun e3 u) (fun u _ => congrFun e4 u) (fun u _ => congrFun e5 u) (fun u _ => congrFun f6 u) (fun i j hi hj => ?_) (fun s _ => ?_) (fun k _ => ?_)
  · have := md_H_eq hH h1 hi hj
    rw [← e6] at this
    exact this
  · have g7 : mdo (md_ord N) = mdo M := e7
    have g8 : mdv (md_ord N) = mdv M := e8
    rw [g7, g8]
    exact ⟨rfl, fun _ => ⟨rfl, fun _ _ => rfl⟩⟩
  · have g9 : mdk (md_ord N) = mdk M := e9
    have g10 : mdn (md_ord N) = mdn M := e10
    have g11 : mdm (md_ord N) = mdm M := e11
    rw [g9, g10, g11]
    exact ⟨rfl, fun _ => ⟨rfl, rfl, fun _ _ => rfl⟩⟩
theorem md_cTS (X : md_S) (a : Nat → Bool) (t : Int32) : mdT (mdS X a) t = mdS (mdT X t) a := rfl
theorem md_cTI (X : md_S) (a : Nat → Bool) (t : Int32) : mdT (mdI X a) t = mdI (mdT X t) a := rfl
theorem md_cIS (X : md_S) (a b : Nat → Bool) : mdI (mdS X a) b = mdS (mdI X b) a := rfl
theorem Rl_ihx (h : Rl C M ow) (S1 : Nat → Bool) : Rl C (md_ord (mdS (mdI (mdT M 2) (mdi M)) S1)) ow := Rl_ord h rfl rfl rfl rfl rfl rfl rfl rfl rfl rfl rfl
theorem md_ih2_v (X : md_S) (k : Nat) (I1 S1 : Nat → Bool) : md_ih2 (mdS (mdI X I1) S1) k = md_ord (mdS (mdI (mdT X 2) (rb_u I1 k false)) S1) := rfl
theorem Rl_inheritX (h : Rl C M ow) {u v : Nat} (hb : mdi M (10 * u + v) = false) : Rl C (md_ih2 (md_ih1 M (10 * u + v)) (10 * u + v)) ow := by
  have e : rb_u (rb_u (mdi M) (10 * u + v) true) (10 * u + v) false = mdi M := rb_u_back hb
  generalize 10 * u + v = k at e ⊢
  rw [md_ih1_v]
  generalize md_or (rb_u (mdi M) k true) (mds M) = S1
  rw [md_ih2_v, e, mdTT]
  exact Rl_ihx h _
theorem ag_inherit (h : Rl C M ow) (x y : Int32) : lw_ag RlE lw_cC C (rd_inherit C x y x.toNatClampNeg) (md_inherit M x y x.toNatClampNeg y.toNatClampNeg) := by
  obtain ⟨hl, hu, hr, ha, hg, hi, hs, hv, hk, hd, hH, hB, hA⟩ := id h
  unfold rd_inherit md_inherit
  rw [rl_nr hr x, rl_nr hr y]
  cases hx : rb_h (rdr C) x with
  | false => exact ag_r (cd := lw_cC) (e := 0) h (by decide)
  | true =>
  cases hy : rb_h (rdr C) y with
  | false => exact ag_r (cd := lw_cC) (e := 0) h (by decide)
  | true =>
  obtain ⟨u, hu10, hu16, rfl, htu, eu, -⟩ := rb_hx hr.2 hx
  obtain ⟨v, hv10, hv16, rfl, htv, ev, eb⟩ := rb_hx hr.2 hy
  rw [eu, ev, eb, rb_hk _ hv16, rb_hk _ hu16, (hi u hu10).1 v hv10, ← rl_ju hi hH hv10 hu10, rl_ihp hi hu10, hl, ← rl_ib h hu10 hv10]
  cases hb : mdi M (10 * u + v) with
  | true => exact ag_r (cd := lw_cC) (e := 2) h (by decide)
  | false =>
  cases hc : mds M (10 * v + u) with
  | true => exact ag_r (cd := lw_cC) (e := 2) h (by decide)
  | false =>
  cases hll : (mdl M && !(decide (rdi C u = 0))) with
  | true => exact ag_r (cd := lw_cC) (e := 2) h (by decide)
  | false =>
  show lw_ag RlE lw_cC C (cond (md_ab (md_ih1 M (10 * u + v))) _ _) (md_ih3 (md_ih1 M (10 * u + v)) u v)
  unfold md_ih3
  cases hbk : md_ab (md_ih1 M (10 * u + v)) with
  | true => exact ⟨by decide, rfl, ow, Rl_inheritX h hb⟩
  | false =>
    have hR := Rl_inherit h hu10 hv10 hbk
    exact ⟨rfl, rl_G_cnt hR.2.2.2.2.2.1 (by omega) hu10, ow, Rl_T hR 0⟩
end R67
