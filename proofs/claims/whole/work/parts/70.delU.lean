/-! deleteUser -/
section R70
variable {C : rd_S} {M : md_S} {ow : Nat → Nat}
theorem md_fo_clr (p : Nat → Nat) (A : Nat → Bool) (k : Nat) : ∀ n, ri_fo (fun i A => rb_u A (p i) false) n A k = (A k && !(ri_ex (fun i => decide (k = p i)) n)) := by
  intro n
  induction n with
  | zero => show A k = (A k && !false); rw [Bool.not_false, Bool.and_true]
  | succ n ih =>
    show rb_u (ri_fo (fun i A => rb_u A (p i) false) n A) (p n) false k = (A k && !(ri_ex (fun i => decide (k = p i)) n || decide (k = p n)))
    generalize ri_fo (fun i A => rb_u A (p i) false) n A = G at ih ⊢
    by_cases e : k = p n
    · rw [← e, rb_u_same, decide_eq_true rfl, Bool.or_true, Bool.not_true, Bool.and_false]
    · rw [rb_u_ne _ _ e, ih, decide_eq_false e, Bool.or_false]
theorem md_du1_v (A : Nat → Bool) (u : Nat) {w r : Nat} (hr : r < 10) : ri_fo (fun i A => rb_u A (10 * u + i) false) 10 A (10 * w + r) = (A (10 * w + r) && !(decide (w = u))) := by
  rw [md_fo_clr (fun i => 10 * u + i)]
  congr 2
  rw [Bool.eq_iff_iff, ri_ex_iff, decide_eq_true_eq]
  constructor
  · rintro ⟨i, hi, e⟩
    have e := of_decide_eq_true e
    omega
  · intro e
    exact ⟨r, hr, decide_eq_true (by omega)⟩
theorem md_du2_v (O : Nat → Int32) (x : Int32) (s : Nat) : ∀ n, (ri_fo (md_duo x) n (O, 0)).1 s = (if s < n ∧ O s = x then -1 else O s) ∧ (ri_fo (md_duo x) n (O, 0)).2 = nI (rk (fun s => decide (O s = x)) n) := by
  intro n
  induction n generalizing s with
  | zero => exact ⟨by rw [if_neg (fun q => by omega)]; rfl, rfl⟩
  | succ n ih =>
    have h1 := ih s
    have h2 := ih n
    show (md_duo x n (ri_fo (md_duo x) n (O, 0))).1 s = _ ∧ (md_duo x n (ri_fo (md_duo x) n (O, 0))).2 = nI (rk (fun s => decide (O s = x)) n + cond (decide (O n = x)) 1 0)
    generalize ri_fo (md_duo x) n (O, 0) = G at h1 h2 ⊢
    have e3 : G.1 n = O n := by rw [h2.1, if_neg (fun q => by omega)]
    unfold md_duo
    rw [e3]
    by_cases hx : O n = x
    · rw [decide_eq_true hx, cond_true, cond_true]
      refine ⟨?_, ?_⟩
      · show upd G.1 n (-1) s = _
        by_cases e : s = n
        · subst e
          rw [upj_same, if_pos ⟨by omega, hx⟩]
        · rw [upj_ne _ _ e, h1.1]
          by_cases e2 : s < n ∧ O s = x
          · rw [if_pos e2, if_pos ⟨by omega, e2.2⟩]
          · rw [if_neg e2, if_neg (fun q => e2 ⟨by omega, q.2⟩)]
      · show G.2 + 1 = _
        rw [h2.2]
        exact nJ_add _ 1
    · rw [decide_eq_false hx, cond_false, cond_false]
      refine ⟨?_, h2.2⟩
      rw [h1.1]
      by_cases e : s = n
      · subst e
        rw [if_neg (fun q => hx q.2), if_neg (fun q => hx q.2)]
      · by_cases e2 : s < n ∧ O s = x
        · rw [if_pos e2, if_pos ⟨by omega, e2.2⟩]
        · rw [if_neg e2, if_neg (fun q => e2 ⟨by omega, q.2⟩)]
theorem rd_dl_ex (C : rd_S) (e : Int32) : ∀ n, n ≤ 6 → ∃ S V, ri_fo (rd_dlo e) n C = rdV (rdS C S) V ∧ (∀ j, rb_t S j = (rb_t (rds C) j && !(decide (j < n) && rb_t e j))) ∧ ∀ s, V s = if s < n ∧ rb_t e s = true then 0 else rdv C s := by
  intro n
  induction n with
  | zero =>
    intro _
    exact ⟨rds C, rdv C, rfl, fun j => by rw [decide_eq_false (by omega), Bool.false_and, Bool.not_false, Bool.and_true], fun s => by rw [if_neg (fun q => by omega)]⟩
  | succ n ih =>
    intro hn
    obtain ⟨S, V, e1, e2, e3⟩ := ih (by omega)
    have e4 : ri_fo (rd_dlo e) (n + 1) C = cond (rb_h e (nI n)) (rd_end (ri_fo (rd_dlo e) n C) n) (ri_fo (rd_dlo e) n C) := rfl
    rw [e4, e1, rb_hk _ (by omega)]
    cases hb : rb_t e n with
    | false =>
      refine ⟨S, V, rfl, fun j => ?_, fun s => ?_⟩
      · rw [e2]
        by_cases hj : j = n
        · rw [hj, hb, Bool.and_false, Bool.and_false]
        · have : decide (j < n + 1) = decide (j < n) := by rw [decide_eq_decide]; omega
          rw [this]
      · rw [e3]
        by_cases hj : s = n
        · rw [if_neg (fun q => by omega), if_neg (fun q => by rw [hj, hb] at q; cases q.2)]
        · by_cases q : s < n ∧ rb_t e s = true
          · rw [if_pos q, if_pos ⟨by omega, q.2⟩]
          · rw [if_neg q, if_neg (fun q' => q ⟨by omega, q'.2⟩)]
    | true =>
      refine ⟨S &&& (rb_b n ^^^ (-1)), upd V n 0, rfl, fun j => ?_, fun s => ?_⟩
      · rw [rb_clr _ (by omega), e2]
        by_cases hj : j = n
        · rw [decide_eq_true hj, Bool.not_true, Bool.and_false, hj, hb, decide_eq_true (by omega), Bool.true_and, Bool.not_true, Bool.and_false]
        · have : decide (j < n + 1) = decide (j < n) := by rw [decide_eq_decide]; omega
          rw [this, decide_eq_false hj, Bool.not_false, Bool.and_true]
      · by_cases hj : s = n
        · subst hj
          rw [upj_same, if_pos ⟨by omega, hb⟩]
        · rw [upj_ne _ _ hj, e3]
          by_cases q : s < n ∧ rb_t e s = true
          · rw [if_pos q, if_pos ⟨by omega, q.2⟩]
          · rw [if_neg q, if_neg (fun q' => q ⟨by omega, q'.2⟩)]
theorem md_duN_v (M : md_S) (u : Nat) (O1 : Nat → Int32) : mdO (md_duN M u) O1 = mdO (mdA (mdU (mdT M 0) (rb_u (mdu M) u false)) (ri_fo (fun i A => rb_u A (10 * u + i) false) 10 (mda M))) O1 := rfl
theorem Rl_deleteUser (h : Rl C M ow) {u : Nat} (hu6 : u < 6) {S : Int32} {V O1 : Nat → Int32} {A1 : Nat → Bool}
    (hS : ∀ j, rb_t S j = (rb_t (rds C) j && !(decide (j < 6) && rb_t (rd_sou C (nI u)) j))) (hV : ∀ s, V s = if s < 6 ∧ rb_t (rd_sou C (nI u)) s = true then 0 else rdv C s) (hO : ∀ s, s < 6 → O1 s = if mdo M s = nI u then -1 else mdo M s) (hA1 : ∀ w r, r < 10 → A1 (10 * w + r) = (mda M (10 * w + r) && !(decide (w = u)))) :
    Rl (rdA (rdU (rdV (rdS C S) V) (rdu C &&& (rb_b u ^^^ (-1)))) (upd (rda C) u 0)) (md_set (mdO (mdA (mdU (mdT M 0) (rb_u (mdu M) u false)) A1) O1) ow) ow := by
  obtain ⟨hl, hu, hr, ha, hg, hi, hs, hv, hk, hd, hH, hB, hA⟩ := id h
  have hso := (rl_sou h (u := u) (by omega)).2
  have hAl : ∀ s, s < 6 → decide (O1 s < 0) = (decide (mdo M s < 0) || decide (mdo M s = nI u)) := by
    intro s hs6
    rw [hO s hs6]
    by_cases q : mdo M s = nI u
    · rw [if_pos q, decide_eq_true q, Bool.or_true]
      rfl
    · rw [if_neg q, decide_eq_false q, Bool.or_false]
  have hS1 : rl_S S (rdo C) O1 ow := by
    refine ⟨fun j hj => by rw [hS, hs.1 j hj, Bool.false_and], fun s hs6 => ⟨(hs.2 s hs6).1, ?_, ?_⟩⟩
    · rw [hS, decide_eq_true hs6, Bool.true_and, hso s hs6, (hs.2 s hs6).2.1, hAl s hs6, Bool.not_or]
    · intro ht
      rw [hS, decide_eq_true hs6, Bool.true_and, hso s hs6, Bool.and_eq_true, Bool.not_eq_true', decide_eq_false_iff_not] at ht
      rw [hO s hs6, if_neg ht.2]
      exact (hs.2 s hs6).2.2 ht.1
  have hV1 : rl_V S V (mdv M) := by
    intro s hs6
    obtain ⟨h1, h2, h3⟩ := hv s hs6
    rw [hV, hS, decide_eq_true hs6, Bool.true_and]
    cases q : rb_t (rd_sou C (nI u)) s with
    | true =>
      rw [if_pos ⟨hs6, rfl⟩, Bool.not_true, Bool.and_false]
      exact ⟨rb_lo_0 10, fun q => Bool.noConfusion q, fun _ => rfl⟩
    | false =>
      rw [if_neg (fun q => Bool.noConfusion q.2), Bool.not_false, Bool.and_true]
      exact ⟨h1, h2, h3⟩
  have hG : rl_G (upd (rda C) u 0) A1 6 10 := by
    intro w hw
    by_cases e : w = u
    · subst e
      rw [upj_same]
      exact ⟨fun r hr10 => by rw [rb_0, hA1 w r hr10, decide_eq_true rfl, Bool.not_true, Bool.and_false], rb_lo_0 10⟩
    · rw [upj_ne _ _ e]
      exact ⟨fun r hr10 => by rw [(ha w hw).1 r hr10, hA1 w r hr10, decide_eq_false e, Bool.not_false, Bool.and_true], (ha w hw).2⟩
  have hD : rl_D (rb_u (mdu M) u false) A1 := by
    intro w r hw hr10 q
    rw [hA1 w r hr10, Bool.and_eq_true, Bool.not_eq_true', decide_eq_false_iff_not] at q
    rw [rb_u_ne _ _ q.2]
    exact hd w r hw hr10 q.1
  have key : Rl (rd_drop (rdA (rdU (rdV (rdS C S) V) (rdu C &&& (rb_b u ^^^ (-1)))) (upd (rda C) u 0)) ow) (md_set (mdO (mdA (mdU (mdT M 0) (rb_u (mdu M) u false)) A1) O1) ow) ow := by
    refine Rl_settle (C := rdA (rdU (rdV (rdS C S) V) (rdu C &&& (rb_b u ^^^ (-1)))) (upd (rda C) u 0)) (M := mdO (mdA (mdU (mdT M 0) (rb_u (mdu M) u false)) A1) O1) hl (rl_U_clr hu (by omega) hu6) hr hG hg hi hS1 hV1 hk hD ?_
    refine md_nb_settle (M := M) (M' := mdO (mdA (mdU (mdT M 0) (rb_u (mdu M) u false)) A1) O1) hB hH (fun _ _ _ => ⟨rfl, rfl, fun _ _ q => q⟩) (fun _ _ q => rb_u_sub q) (fun w q hw hq e => ?_) (fun _ _ _ _ q => q) (fun w hw q => ?_) (fun _ _ _ _ q => q)
    · change A1 (10 * w + q) = true at e
      rw [hA1 w q hq, Bool.and_eq_true] at e
      exact e.1
    · change decide (O1 w < 0) = false at q
      rw [hAl w hw, Bool.or_eq_false_iff] at q
      exact q.1
  obtain ⟨F, e2, hF⟩ := rd_drop_ex (rdA (rdU (rdV (rdS C S) V) (rdu C &&& (rb_b u ^^^ (-1)))) (upd (rda C) u 0)) ow
  rw [e2] at key
  obtain ⟨S2, V2, e3, -, -⟩ := md_set_ex (mdO (mdA (mdU (mdT M 0) (rb_u (mdu M) u false)) A1) O1) ow
  rw [e3] at key ⊢
  have hFV : ∀ s, s < 6 → F s = V s := by
    intro s hs6
    have hF := hF s hs6
    change F s = V s &&& rj_w (rdi C) 10 (upd (rda C) u 0 (ow s)) at hF
    rw [hF]
    refine rb_ext fun j hj => ?_
    rw [rb_and]
    cases q : rb_t (V s) j with
    | false => rw [Bool.false_and]
    | true =>
      rw [Bool.true_and]
      have hj10 : j < 10 := by
        refine Classical.byContradiction fun hn => ?_
        rw [(hV1 s hs6).1 j (by omega)] at q
        cases q
      have hne : ¬ (s < 6 ∧ rb_t (rd_sou C (nI u)) s = true) := by
        intro q2
        rw [hV, if_pos q2, rb_0] at q
        cases q
      have hns : ¬ mdo M s = nI u := by
        intro q2
        refine hne ⟨hs6, ?_⟩
        rw [hso s hs6]
        exact decide_eq_true q2
      rw [hV, if_neg hne] at q
      cases ht : rb_t (rds C) s with
      | false =>
        rw [(hv s hs6).2.2 ht, rb_0] at q
        cases q
      | true =>
        have hal : decide (mdo M s < 0) = false := rl_al hs hs6 ht
        have how := (hs.2 s hs6).2.2 ht
        have hnu : ¬ ow s = u := fun q2 => hns (by rw [how, q2])
        rw [upj_ne _ _ hnu, ← rl_au ha hi hH (hs.2 s hs6).1.2 hj10]
        rw [(hv s hs6).2.1 ht j hj10] at q
        exact hA s hs6 hal j hj10 q
  obtain ⟨k1, k2, k3, k4, k5, k6, k7, k8, k9, k10, k11, k12, k13⟩ := key
  have k8' : rl_V S F (mdv (mdV (mdS (mdO (mdA (mdU (mdT M 0) (rb_u (mdu M) u false)) A1) O1) S2) V2)) := k8
  have k8'' : rl_V S V (mdv (mdV (mdS (mdO (mdA (mdU (mdT M 0) (rb_u (mdu M) u false)) A1) O1) S2) V2)) := fun s hs6 => by
    rw [← hFV s hs6]
    exact k8' s hs6
  exact ⟨k1, k2, k3, k4, k5, k6, k7, k8'', k9, k10, k11, k12, k13⟩
theorem ag_deleteUser (h : Rl C M ow) (x : Int32) : lw_ag RlE lw_cB C (rd_deleteUser C x x.toNatClampNeg) (md_deleteUser M ow x x.toNatClampNeg) := by
  obtain ⟨hl, hu, hr, ha, hg, hi, hs, hv, hk, hd, hH, hB, hA⟩ := id h
  unfold rd_deleteUser md_deleteUser
  rw [rl_nu hu x]
  cases hx : rb_h (rdu C) x with
  | false => exact ag_r (cd := lw_cB) (e := 0) h (by decide)
  | true =>
  obtain ⟨u, hu6, hu16, rfl, htu, eu, eb⟩ := rb_hx hu.2 hx
  rw [eu, eb, md_duN_v]
  obtain ⟨S, V, e1, e2, e3⟩ := rd_dl_ex C (rd_sou C (nI u)) 6 (Nat.le_refl _)
  have e1 : rd_dl C (nI u) = rdV (rdS C S) V := e1
  rw [e1, show rdu (rdV (rdS C S) V) = rdu C from rfl, show rda (rdV (rdS C S) V) = rda C from rfl]
  have hO := fun s => md_du2_v (mdo M) (nI u) s 6
  unfold md_du2
  generalize ri_fo (md_duo (nI u)) 6 (mdo M, 0) = q at hO ⊢
  have hA1 := fun w r (hr : r < 10) => md_du1_v (mda M) u (w := w) hr
  generalize ri_fo (fun i A => rb_u A (10 * u + i) false) 10 (mda M) = A1 at hA1 ⊢
  have hso := rl_sou h hu16
  have hR := Rl_deleteUser h hu6 e2 e3 (O1 := q.1) (A1 := A1) (fun s hs6 => by
    rw [(hO s).1]
    by_cases e : mdo M s = nI u
    · rw [if_pos e, if_pos ⟨hs6, e⟩]
    · rw [if_neg e, if_neg (fun q => e q.2)]) hA1
  have hc : q.2 = rb_c (rd_sou C (nI u)) := by
    rw [(hO 0).2, rb_c_rkN (N := 6) (by omega) hso.1]
    rw [rk_congr (fun j hj => hso.2 j hj)]
  rw [Bool.not_true, cond_true, cond_false]
  have ht : mdt (md_set (mdO (mdA (mdU (mdT M 0) (rb_u (mdu M) u false)) A1) q.1) ow) = 0 := by
    obtain ⟨S2, V2, e3, -, -⟩ := md_set_ex (mdO (mdA (mdU (mdT M 0) (rb_u (mdu M) u false)) A1) q.1) ow
    rw [e3]
    rfl
  exact ⟨ht, hc, ow, hR⟩
end R70
