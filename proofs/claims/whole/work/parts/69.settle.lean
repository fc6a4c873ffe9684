/-! The settling of the sessions, and the calls that settle -/
section R69
variable {C : rd_S} {M : md_S} {ow : Nat → Nat}
theorem rd_drop_fo (c : Nat → Int32) (v : Nat → Int32) (s : Nat) : ∀ n, ri_fo (fun s f => cond (decide (f s = 0)) f (upd f s (f s &&& c s))) n v s = if s < n then v s &&& c s else v s := by
  intro n
  induction n with
  | zero => rw [if_neg (by omega)]; rfl
  | succ n ih =>
    show cond (decide (ri_fo (fun s f => cond (decide (f s = 0)) f (upd f s (f s &&& c s))) n v n = 0)) (ri_fo _ n v) (upd (ri_fo _ n v) n (ri_fo _ n v n &&& c n)) s = _
    generalize hF : ri_fo (fun s f => cond (decide (f s = 0)) f (upd f s (f s &&& c s))) n v = F at ih ⊢
    by_cases h0 : F n = 0
    · rw [decide_eq_true h0, cond_true, ih]
      by_cases e : s = n
      · subst e
        rw [if_neg (by omega), if_pos (by omega)]
        rw [ih, if_neg (by omega)] at h0
        rw [h0]
        refine (rb_zero fun j _ => ?_).symm
        rw [rb_and, rb_0, Bool.false_and]
      · by_cases e2 : s < n
        · rw [if_pos e2, if_pos (by omega)]
        · rw [if_neg e2, if_neg (by omega)]
    · rw [decide_eq_false h0, cond_false]
      by_cases e : s = n
      · subst e
        rw [upj_same, ih, if_neg (by omega), if_pos (by omega)]
      · rw [upj_ne _ _ e, ih]
        by_cases e2 : s < n
        · rw [if_pos e2, if_pos (by omega)]
        · rw [if_neg e2, if_neg (by omega)]
theorem rd_drop_ex (C : rd_S) (ow : Nat → Nat) : ∃ F, rd_drop C ow = rdV C F ∧ ∀ s, s < 6 → F s = rdv C s &&& rj_w (rdi C) 10 (rda C (ow s)) := by
  unfold rd_drop
  refine ⟨_, rfl, fun s hs => ?_⟩
  have := rd_drop_fo (fun s => rj_w (rdi C) 10 (rda C (ow s))) (rdv C) s 6
  rw [if_pos hs] at this
  exact this
theorem md_seg1 (F : Nat → Bool) (s : Nat) (V : Nat → Bool) (k : Nat) (b : Bool) : ∀ n, n ≤ 10 → (∀ r, r < n → k = 10 * s + r → b = F r) → ri_fo (fun i V => rb_u V (10 * s + i) (V (10 * s + i) && F i)) n V k = if 10 * s ≤ k ∧ k < 10 * s + n then (V k && b) else V k := by
  intro n
  induction n with
  | zero => intro _ _; rw [if_neg (by omega)]; rfl
  | succ n ih =>
    intro hn hb
    have ih := ih (by omega) (fun r hr e => hb r (by omega) e)
    show rb_u (ri_fo (fun i V => rb_u V (10 * s + i) (V (10 * s + i) && F i)) n V) (10 * s + n) (_ && F n) k = _
    generalize ri_fo (fun i V => rb_u V (10 * s + i) (V (10 * s + i) && F i)) n V = G at ih ⊢
    by_cases e : k = 10 * s + n
    · rw [← e, rb_u_same, ih, if_neg (by omega), if_pos (by omega), ← hb n (by omega) e]
    · rw [rb_u_ne _ _ e, ih]
      by_cases e2 : 10 * s ≤ k ∧ k < 10 * s + n
      · rw [if_pos e2, if_pos (by omega)]
      · rw [if_neg e2, if_neg (by omega)]
theorem md_seg2 (F : Nat → Nat → Bool) (V : Nat → Bool) {w r : Nat} (hr : r < 10) : ∀ n, ri_fo (fun s V => ri_fo (fun i V => rb_u V (10 * s + i) (V (10 * s + i) && F s i)) 10 V) n V (10 * w + r) = if w < n then (V (10 * w + r) && F w r) else V (10 * w + r) := by
  intro n
  induction n with
  | zero => rw [if_neg (by omega)]; rfl
  | succ n ih =>
    show ri_fo (fun i V => rb_u V (10 * n + i) (V (10 * n + i) && F n i)) 10 (ri_fo (fun s V => ri_fo (fun i V => rb_u V (10 * s + i) (V (10 * s + i) && F s i)) 10 V) n V) (10 * w + r) = _
    generalize ri_fo (fun s V => ri_fo (fun i V => rb_u V (10 * s + i) (V (10 * s + i) && F s i)) 10 V) n V = G at ih ⊢
    rw [md_seg1 (F n) n G (10 * w + r) (F n r) 10 (Nat.le_refl _) (fun r' hr' e => by have : r = r' := by omega
                                                                                      rw [this]), ih]
    by_cases e : w = n
    · subst e
      rw [if_pos (by omega), if_neg (by omega), if_pos (by omega)]
    · rw [if_neg (by omega)]
      by_cases e2 : w < n
      · rw [if_pos e2, if_pos (by omega)]
      · rw [if_neg e2, if_neg (by omega)]
theorem md_seV_v (M : md_S) (ow : Nat → Nat) (V : Nat → Bool) {w r : Nat} (hw : w < 6) (hr : r < 10) : md_seV M ow V (10 * w + r) = (V (10 * w + r) && (!(decide (mdo M w < 0)) && md_au M (ow w) r)) := by
  have := md_seg2 (fun s i => !(decide (mdo M s < 0)) && md_au M (ow s) i) V (w := w) hr 6
  rw [if_pos hw] at this
  exact this
theorem md_set_ex (M : md_S) (ow : Nat → Nat) : ∃ S1 V1, md_set M ow = mdV (mdS M S1) V1 ∧ md_H (mdi M) S1 ∧ ∀ s r, s < 6 → r < 10 → V1 (10 * s + r) = (mdv M (10 * s + r) && (!(decide (mdo M s < 0)) && md_au (mdS M S1) (ow s) r)) :=
  ⟨md_or (mdi M) (mds M), md_seV (mdS M (md_or (mdi M) (mds M))) ow (mdv M), rfl, md_or_H _ _, fun _ _ hs hr => md_seV_v _ _ _ hs hr⟩
/-- the class's settling is the reference's -/
theorem Rl_settle (hl : rdl C = mdl M) (hu : rl_U (rdu C) (mdu M) 6) (hr : rl_U (rdr C) (mdr M) 10) (ha : rl_G (rda C) (mda M) 6 10) (hg : rl_G (rdg C) (mdg M) 10 16) (hi : rl_G (rdi C) (mdi M) 10 10) (hs : rl_S (rds C) (rdo C) (mdo M) ow) (hv : rl_V (rds C) (rdv C) (mdv M)) (hk : rl_K (rdk C) (rdn C) (rdm C) (rdb C) (mdk M) (mdn M) (mdm M)) (hd : rl_D (mdu M) (mda M))
    (hnb : ∀ S1 V1, md_H (mdi M) S1 → (∀ s r, s < 6 → r < 10 → V1 (10 * s + r) = true → mdv M (10 * s + r) = true) → md_ab (mdV (mdS M S1) V1) = false) : Rl (rd_drop C ow) (md_set M ow) ow := by
  obtain ⟨S1, V1, e, hH, hV1⟩ := md_set_ex M ow
  obtain ⟨F, e2, hF⟩ := rd_drop_ex C ow
  rw [e, e2]
  have eau : ∀ w z, z < 10 → md_au (mdV (mdS M S1) V1) w z = md_au (mdS M S1) w z := fun w z hz => md_au_same hz (fun _ _ => rfl) (fun _ _ _ _ => rfl)
  have hsub : ∀ s r, s < 6 → r < 10 → V1 (10 * s + r) = true → mdv M (10 * s + r) = true := by
    intro s r hs6 hr10 q
    rw [hV1 s r hs6 hr10, Bool.and_eq_true] at q
    exact q.1
  have hVV : rl_V (rds C) F V1 := by
    intro s hs6
    rw [hF s hs6]
    obtain ⟨h1, h2, h3⟩ := hv s hs6
    refine ⟨rb_lo_and h1, fun ht r hr10 => ?_, fun ht => ?_⟩
    · rw [rb_and, h2 ht r hr10, hV1 s r hs6 hr10, ← (hs.2 s hs6).2.1, ht, Bool.true_and]
      congr 1
      exact (rl_au (C := C) (M := mdS M S1) ha hi hH (hs.2 s hs6).1.2 hr10).symm
    · rw [h3 ht]
      refine rb_zero fun j _ => ?_
      rw [rb_and, rb_0, Bool.false_and]
  have hA : rl_A (mdV (mdS M S1) V1) ow := by
    intro s hs6 hal r hr10 q
    change V1 (10 * s + r) = true at q
    rw [hV1 s r hs6 hr10, Bool.and_eq_true, Bool.and_eq_true] at q
    rw [eau _ _ hr10]
    exact q.2.2
  exact ⟨hl, hu, hr, ha, hg, hi, hs, hVV, hk, hd, hH, hnb S1 V1 hH hsub, hA⟩
theorem md_nb_settle {M' : md_S} (hB : md_ab M = false) (hH : md_H (mdi M) (mds M)) (hK : ∀ k, k < 4 → decide (mdk M' k < 0) = false → mdk M' k = mdk M k ∧ mdn M' k = mdn M k ∧ ∀ j, j < 10 → mdm M' (10 * k + j) = true → mdm M (10 * k + j) = true)
    (hU : ∀ w, w < 6 → mdu M' w = true → mdu M w = true) (hA : ∀ w q, w < 6 → q < 10 → mda M' (10 * w + q) = true → mda M (10 * w + q) = true) (hI : ∀ i j, i < 10 → j < 10 → mdi M' (10 * i + j) = true → mdi M (10 * i + j) = true)
    (hO : ∀ w, w < 6 → decide (mdo M' w < 0) = false → decide (mdo M w < 0) = false) (hV : ∀ w r, w < 6 → r < 10 → mdv M' (10 * w + r) = true → mdv M (10 * w + r) = true) (S1 V1 : Nat → Bool) (hS1 : md_H (mdi M') S1) (hV1 : ∀ s r, s < 6 → r < 10 → V1 (10 * s + r) = true → mdv M' (10 * s + r) = true) : md_ab (mdV (mdS M' S1) V1) = false := by
  refine md_nb_mono (M := M) (M' := mdV (mdS M' S1) V1) hB hK (fun w hw q => ⟨hU w hw q, fun j hj q => ?_⟩) (fun w hw q => ⟨hO w hw q, fun j hj q => hV w j hw hj (hV1 w j hw hj q)⟩)
  exact md_au_mono (M := M) (M' := mdV (mdS M' S1) V1) hw hj (fun q hq e => hA w q hw hq e) (fun i j hi hj e => md_H_mono hH hS1 hI hi hj e) q
theorem rb_u_sub {B : Nat → Bool} {k j : Nat} (h : rb_u B k false j = true) : B j = true := by
  by_cases e : j = k
  · rw [e, rb_u_same] at h; cases h
  · rw [rb_u_ne _ _ e] at h; exact h
theorem ag_deassign (h : Rl C M ow) (x y : Int32) : lw_ag RlE lw_cC C (rd_deassign C ow x y x.toNatClampNeg) (md_deassign M ow x y x.toNatClampNeg y.toNatClampNeg) := by
  obtain ⟨hl, hu, hr, ha, hg, hi, hs, hv, hk, hd, hH, hB, hA⟩ := id h
  unfold rd_deassign md_deassign
  rw [rl_nu hu x, rl_nr hr y]
  cases hx : rb_h (rdu C) x with
  | false => exact ag_r (cd := lw_cC) (e := 0) h (by decide)
  | true =>
  cases hy : rb_h (rdr C) y with
  | false => exact ag_r (cd := lw_cC) (e := 0) h (by decide)
  | true =>
  obtain ⟨u, hu6, hu16, rfl, htu, eu, -⟩ := rb_hx hu.2 hx
  obtain ⟨v, hv10, hv16, rfl, htv, ev, eb⟩ := rb_hx hr.2 hy
  rw [eu, ev, eb, rb_hk _ hv16, (ha u hu6).1 v hv10]
  cases hb : mda M (10 * u + v) with
  | false => exact ag_r (cd := lw_cC) (e := 2) h (by decide)
  | true =>
  have hG := rl_G_clr ha (Or.inl rfl) hu6 hv10
  have hR : Rl (rd_drop (rdA C (upd (rda C) u (rda C u &&& (rb_b v ^^^ (-1))))) ow) (md_set (mdA (mdT M 0) (rb_u (mda M) (10 * u + v) false)) ow) ow := by
    refine Rl_settle (C := rdA C (upd (rda C) u (rda C u &&& (rb_b v ^^^ (-1))))) (M := mdA (mdT M 0) (rb_u (mda M) (10 * u + v) false)) hl hu hr hG hg hi hs hv hk ?_ ?_
    · intro w r hw hr10 q
      exact hd w r hw hr10 (rb_u_sub q)
    · exact md_nb_settle (M := M) (M' := mdA (mdT M 0) (rb_u (mda M) (10 * u + v) false)) hB hH (fun _ _ _ => ⟨rfl, rfl, fun _ _ q => q⟩) (fun _ _ q => q) (fun _ _ _ _ q => rb_u_sub q) (fun _ _ _ _ q => q) (fun _ _ q => q) (fun _ _ _ _ q => q)
  have hc := rl_G_cnt hR.2.2.2.1 (by omega) hu6
  exact ⟨rfl, hc, ow, hR⟩
theorem ag_disinherit (h : Rl C M ow) (x y : Int32) : lw_ag RlE lw_cC C (rd_disinherit C ow x y x.toNatClampNeg) (md_disinherit M ow x y x.toNatClampNeg y.toNatClampNeg) := by
  obtain ⟨hl, hu, hr, ha, hg, hi, hs, hv, hk, hd, hH, hB, hA⟩ := id h
  unfold rd_disinherit md_disinherit
  rw [rl_nr hr x, rl_nr hr y]
  cases hx : rb_h (rdr C) x with
  | false => exact ag_r (cd := lw_cC) (e := 0) h (by decide)
  | true =>
  cases hy : rb_h (rdr C) y with
  | false => exact ag_r (cd := lw_cC) (e := 0) h (by decide)
  | true =>
  obtain ⟨u, hu10, hu16, rfl, htu, eu, -⟩ := rb_hx hr.2 hx
  obtain ⟨v, hv10, hv16, rfl, htv, ev, eb⟩ := rb_hx hr.2 hy
  rw [eu, ev, eb, rb_hk _ hv16, (hi u hu10).1 v hv10]
  cases hb : mdi M (10 * u + v) with
  | false => exact ag_r (cd := lw_cC) (e := 2) h (by decide)
  | true =>
  have hG := rl_G_clr hi (Or.inl rfl) hu10 hv10
  have hR : Rl (rd_drop (rdI C (upd (rdi C) u (rdi C u &&& (rb_b v ^^^ (-1))))) ow) (md_set (mdI (mdT M 0) (rb_u (mdi M) (10 * u + v) false)) ow) ow := by
    refine Rl_settle (C := rdI C (upd (rdi C) u (rdi C u &&& (rb_b v ^^^ (-1))))) (M := mdI (mdT M 0) (rb_u (mdi M) (10 * u + v) false)) hl hu hr ha hg hG hs hv hk hd ?_
    exact md_nb_settle (M := M) (M' := mdI (mdT M 0) (rb_u (mdi M) (10 * u + v) false)) hB hH (fun _ _ _ => ⟨rfl, rfl, fun _ _ q => q⟩) (fun _ _ q => q) (fun _ _ _ _ q => q) (fun _ _ _ _ q => rb_u_sub q) (fun _ _ q => q) (fun _ _ _ _ q => q)
  have hc := rl_G_cnt hR.2.2.2.2.2.1 (by omega) hu10
  exact ⟨rfl, hc, ow, hR⟩
end R69
