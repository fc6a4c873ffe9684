/-! deleteRole -/
section R71
variable {C : rd_S} {M : md_S} {ow : Nat → Nat}
theorem rl_K_clr {x : Int32} {n m b K N : Nat → Int32} {B : Nat → Bool} (hk : rl_K x n m b K N B) {u : Nat} (hu : u < 4) : rl_K (x &&& (rb_b u ^^^ (-1))) n m b (upd K u (-1)) N B := by
  refine ⟨rb_lo_and hk.1, fun k hk4 => ?_⟩
  rw [rb_clr _ (by omega)]
  by_cases e : k = u
  · subst e
    rw [upj_same, decide_eq_true rfl, Bool.not_true, Bool.and_false]
    exact ⟨rfl, fun q => Bool.noConfusion q⟩
  · rw [upj_ne _ _ e, decide_eq_false e, Bool.not_false, Bool.and_true]
    exact hk.2 k hk4
theorem rl_K_cut {x : Int32} {n m b K N : Nat → Int32} {B : Nat → Bool} (hk : rl_K x n m b K N B) {i u : Nat} (_hi : i < 4) (hu : u < 10) : rl_K x n (upd m i (m i &&& (rb_b u ^^^ (-1)))) b K N (rb_u B (10 * i + u) false) := by
  refine ⟨hk.1, fun k hk4 => ⟨(hk.2 k hk4).1, fun ht => ?_⟩⟩
  obtain ⟨h1, h2, h3, h4, h5, h6⟩ := (hk.2 k hk4).2 ht
  by_cases e : k = i
  · subst e
    rw [upj_same]
    refine ⟨h1, h2, h3, h4, rb_lo_and h5, fun r hr => ?_⟩
    rw [rb_clr _ (by omega), h6 r hr]
    by_cases e2 : r = u
    · subst e2; rw [rb_u_same, decide_eq_true rfl, Bool.not_true, Bool.and_false]
    · rw [rb_u_ne _ _ (by omega), decide_eq_false e2, Bool.not_false, Bool.and_true]
  · rw [upj_ne _ _ e]
    exact ⟨h1, h2, h3, h4, h5, fun r hr => by rw [rb_u_ne _ _ (by omega)]; exact h6 r hr⟩
theorem rl_tk {x : Int32} {n m b K N : Nat → Int32} {B : Nat → Bool} {D : rd_S} (eb : rdb D = b) (hk : rl_K x n m b K N B) {u : Nat} (hu : u < 10) : ∀ t, t ≤ 4 → ∀ a q, a = ri_fo (rd_tko D (rb_b u ^^^ (-1))) t (x, m, 0) → q = ri_fo (md_drk N u) t (B, K, 0) →
    rl_K a.1 n a.2.1 b q.2.1 N q.1 ∧ a.2.2 = q.2.2 ∧ (∀ k, k < 4 → decide (q.2.1 k < 0) = false → q.2.1 k = K k) ∧ ∀ k, q.1 k = true → B k = true := by
  intro t
  induction t with
  | zero =>
    intro _ a q ea eq
    subst ea eq
    exact ⟨hk, rfl, fun _ _ _ => rfl, fun _ h => h⟩
  | succ t ih =>
    intro ht a q ea eq
    have ih := ih (by omega) _ _ rfl rfl
    change a = rd_tko D (rb_b u ^^^ (-1)) t (ri_fo (rd_tko D (rb_b u ^^^ (-1))) t (x, m, 0)) at ea
    change q = md_drk N u t (ri_fo (md_drk N u) t (B, K, 0)) at eq
    generalize ri_fo (rd_tko D (rb_b u ^^^ (-1))) t (x, m, 0) = a0 at ih ea
    generalize ri_fo (md_drk N u) t (B, K, 0) = q0 at ih eq
    obtain ⟨i1, i2, i3, i4⟩ := ih
    have hc := rl_K_cut i1 (show t < 4 by omega) hu
    have hsub : ∀ k, rb_u q0.1 (10 * t + u) false k = true → B k = true := fun k h => i4 k (rb_u_sub h)
    have ec : (rb_h a0.1 (nI t) && !(decide (rdb D t ≤ rb_c (upd a0.2.1 t (a0.2.1 t &&& (rb_b u ^^^ (-1))) t)))) = (!(decide (q0.2.1 t < 0)) && !(decide (N t ≤ md_sz (rb_u q0.1 (10 * t + u) false) t))) := by
      rw [rb_hk _ (by omega), (i1.2 t (by omega)).1]
      cases hal : decide (q0.2.1 t < 0) with
      | true => rw [Bool.not_true, Bool.false_and, Bool.false_and]
      | false =>
        have htt : rb_t a0.1 t = true := by rw [(i1.2 t (by omega)).1, hal]; rfl
        obtain ⟨h1, h2, h3, h4, h5, h6⟩ := (hc.2 t (by omega)).2 htt
        have e1 : md_sz (rb_u q0.1 (10 * t + u) false) t = rb_c (upd a0.2.1 t (a0.2.1 t &&& (rb_b u ^^^ (-1))) t) := by
          unfold md_sz
          rw [md_cnt_rk, rb_c_rkN (N := 10) (by omega) h5]
          rw [rk_congr (fun j hj => (h6 j hj).symm)]
        rw [e1, eb, h3]
    unfold rd_tko at ea
    unfold md_drk at eq
    rw [ec] at ea
    cases hcc : (!(decide (q0.2.1 t < 0)) && !(decide (N t ≤ md_sz (rb_u q0.1 (10 * t + u) false) t))) with
    | true =>
      rw [hcc, cond_true] at ea eq
      subst ea eq
      refine ⟨rl_K_clr hc (show t < 4 by omega), ?_, fun k hk4 q => ?_, hsub⟩
      · show a0.2.2 + 1 = q0.2.2 + 1
        rw [i2]
      · change decide (upd q0.2.1 t (-1) k < 0) = false at q
        show upd q0.2.1 t (-1) k = K k
        by_cases e : k = t
        · subst e
          rw [upj_same] at q
          exact absurd q (by decide)
        · rw [upj_ne _ _ e] at q ⊢
          exact i3 k hk4 q
    | false =>
      rw [hcc, cond_false] at ea eq
      subst ea eq
      exact ⟨hc, i2, i3, hsub⟩
theorem rd_cut_v (z : Int32) (f : Nat → Int32) (k : Nat) : ∀ n, ri_fo (rd_cut z) n f k = if k < n then f k &&& z else f k := by
  intro n
  induction n with
  | zero => rw [if_neg (by omega)]; rfl
  | succ n ih =>
    show upd (ri_fo (rd_cut z) n f) n (ri_fo (rd_cut z) n f n &&& z) k = _
    generalize ri_fo (rd_cut z) n f = G at ih ⊢
    by_cases e : k = n
    · subst e
      rw [upj_same, ih, if_neg (by omega), if_pos (by omega)]
    · rw [upj_ne _ _ e, ih]
      by_cases e2 : k < n
      · rw [if_pos e2, if_pos (by omega)]
      · rw [if_neg e2, if_neg (by omega)]
theorem md_drA_v (A : Nat → Bool) {u w r : Nat} (hu : u < 10) (hw : w < 6) (hr : r < 10) : ri_fo (fun i A => rb_u A (10 * i + u) false) 6 A (10 * w + r) = (A (10 * w + r) && !(decide (r = u))) := by
  rw [md_fo_clr (fun i => 10 * i + u)]
  congr 2
  rw [Bool.eq_iff_iff, ri_ex_iff, decide_eq_true_eq]
  constructor
  · rintro ⟨i, hi, e⟩
    have e := of_decide_eq_true e
    omega
  · intro e
    exact ⟨w, hw, decide_eq_true (by omega)⟩
theorem md_drG_v (A : Nat → Bool) {u w r : Nat} (hr : r < 16) : ri_fo (fun i G => rb_u G (16 * u + i) false) 16 A (16 * w + r) = (A (16 * w + r) && !(decide (w = u))) := by
  rw [md_fo_clr (fun i => 16 * u + i)]
  congr 2
  rw [Bool.eq_iff_iff, ri_ex_iff, decide_eq_true_eq]
  constructor
  · rintro ⟨i, hi, e⟩
    have e := of_decide_eq_true e
    omega
  · intro e
    exact ⟨r, hr, decide_eq_true (by omega)⟩
theorem md_fo_clr2 (p p2 : Nat → Nat) (A : Nat → Bool) (k : Nat) : ∀ n, ri_fo (fun i A => rb_u (rb_u A (p i) false) (p2 i) false) n A k = (A k && !(ri_ex (fun i => decide (k = p i) || decide (k = p2 i)) n)) := by
  intro n
  induction n with
  | zero => show A k = (A k && !false); rw [Bool.not_false, Bool.and_true]
  | succ n ih =>
    show rb_u (rb_u (ri_fo (fun i A => rb_u (rb_u A (p i) false) (p2 i) false) n A) (p n) false) (p2 n) false k = (A k && !(ri_ex (fun i => decide (k = p i) || decide (k = p2 i)) n || (decide (k = p n) || decide (k = p2 n))))
    generalize ri_fo (fun i A => rb_u (rb_u A (p i) false) (p2 i) false) n A = G at ih ⊢
    by_cases e2 : k = p2 n
    · rw [← e2, rb_u_same, decide_eq_true rfl, Bool.or_true, Bool.or_true, Bool.not_true, Bool.and_false]
    · rw [rb_u_ne _ _ e2, decide_eq_false e2, Bool.or_false]
      by_cases e : k = p n
      · rw [← e, rb_u_same, decide_eq_true rfl, Bool.or_true, Bool.not_true, Bool.and_false]
      · rw [rb_u_ne _ _ e, ih, decide_eq_false e, Bool.or_false]
theorem md_drI_v (A : Nat → Bool) {u w r : Nat} (hu : u < 10) (hw : w < 10) (hr : r < 10) : ri_fo (fun i I => rb_u (rb_u I (10 * u + i) false) (10 * i + u) false) 10 A (10 * w + r) = (A (10 * w + r) && !(decide (w = u) || decide (r = u))) := by
  rw [md_fo_clr2 (fun i => 10 * u + i) (fun i => 10 * i + u)]
  congr 2
  rw [Bool.eq_iff_iff, ri_ex_iff, Bool.or_eq_true, decide_eq_true_eq, decide_eq_true_eq]
  constructor
  · rintro ⟨i, hi, e⟩
    rw [Bool.or_eq_true, decide_eq_true_eq, decide_eq_true_eq] at e
    omega
  · rintro (e | e)
    · exact ⟨r, hr, by rw [Bool.or_eq_true, decide_eq_true_eq, decide_eq_true_eq]; omega⟩
    · exact ⟨w, hw, by rw [Bool.or_eq_true, decide_eq_true_eq, decide_eq_true_eq]; omega⟩
theorem md_drN_v (M : md_S) (u : Nat) : md_drN M u = mdI (mdG (mdA (mdR (mdT M 0) (rb_u (mdr M) u false)) (ri_fo (fun i A => rb_u A (10 * i + u) false) 6 (mda M))) (ri_fo (fun i G => rb_u G (16 * u + i) false) 16 (mdg M))) (ri_fo (fun i I => rb_u (rb_u I (10 * u + i) false) (10 * i + u) false) 10 (mdi M)) := by
  have e1 : ∀ X, md_drA (mdR (mdT M 0) X) u = mdA (mdR (mdT M 0) X) (ri_fo (fun i A => rb_u A (10 * i + u) false) 6 (mda M)) := fun X => rfl
  have e2 : ∀ X Y, md_drG (mdA (mdR (mdT M 0) X) Y) u = mdG (mdA (mdR (mdT M 0) X) Y) (ri_fo (fun i G => rb_u G (16 * u + i) false) 16 (mdg M)) := fun X Y => rfl
  have e3 : ∀ X Y Z, md_drI (mdG (mdA (mdR (mdT M 0) X) Y) Z) u = mdI (mdG (mdA (mdR (mdT M 0) X) Y) Z) (ri_fo (fun i I => rb_u (rb_u I (10 * u + i) false) (10 * i + u) false) 10 (mdi M)) := fun X Y Z => rfl
  unfold md_drN
  rw [e1, e2, e3]
theorem md_drK_v (M : md_S) (R1 A1 G1 I1 : Nat → Bool) (u : Nat) : md_drK (mdI (mdG (mdA (mdR (mdT M 0) R1) A1) G1) I1) u = ri_fo (md_drk (mdn M) u) 4 (mdm M, mdk M, 0) := rfl
theorem rd_cV (X : rd_S) (F : Nat → Int32) (K1 : Int32) (M1 : Nat → Int32) : rdM (rdK (rdV X F) K1) M1 = rdV (rdM (rdK X K1) M1) F := rfl
theorem rd_drop_c (X : rd_S) (ow : Nat → Nat) (K1 : Int32) (M1 : Nat → Int32) : rdM (rdK (rd_drop X ow) K1) M1 = rd_drop (rdM (rdK X K1) M1) ow := by
  unfold rd_drop
  rw [rd_cV]
  simp only [rdi_M, rdi_K, rda_M, rda_K, rdv_M, rdv_K]
theorem rd_tk_c (X : rd_S) (ow : Nat → Nat) (z : Int32) : rd_tk (rd_drop X ow) z = ri_fo (rd_tko (rd_drop X ow) z) 4 (rdk X, rdm X, 0) := by
  obtain ⟨F, e, -⟩ := rd_drop_ex X ow
  rw [e]
  rfl
theorem Rl_deleteRole (h : Rl C M ow) {u : Nat} (hu10 : u < 10) {a1 i1 K1 : Nat → Int32} {k1 : Int32} {m1 : Nat → Int32} {A1 G1 I1 B1 : Nat → Bool} {C' : rd_S} {M' : md_S}
    (c1 : rdl C' = rdl C) (c2 : rdu C' = rdu C) (c3 : rdr C' = rdr C &&& (rb_b u ^^^ (-1))) (c4 : rda C' = a1) (c5 : rdg C' = upd (rdg C) u 0) (c6 : rdi C' = i1) (c7 : rds C' = rds C) (c8 : rdo C' = rdo C) (c9 : rdv C' = rdv C) (c10 : rdk C' = k1) (c11 : rdn C' = rdn C) (c12 : rdm C' = m1) (c13 : rdb C' = rdb C)
    (e1 : mdl M' = mdl M) (e2 : mdu M' = mdu M) (e3 : mdr M' = rb_u (mdr M) u false) (e4 : mda M' = A1) (e5 : mdg M' = G1) (e6 : mdi M' = I1) (e7 : mdo M' = mdo M) (e8 : mdv M' = mdv M) (e9 : mdk M' = K1) (e10 : mdn M' = mdn M) (e11 : mdm M' = B1)
    (ha1 : rl_G a1 A1 6 10) (hg1 : rl_G (upd (rdg C) u 0) G1 10 16) (hi1 : rl_G i1 I1 10 10) (hk1 : rl_K k1 (rdn C) m1 (rdb C) K1 (mdn M) B1) (hA : ∀ w r, w < 6 → r < 10 → A1 (10 * w + r) = true → mda M (10 * w + r) = true) (hI : ∀ w r, w < 10 → r < 10 → I1 (10 * w + r) = true → mdi M (10 * w + r) = true)
    (hK : ∀ k, k < 4 → decide (K1 k < 0) = false → K1 k = mdk M k) (hBs : ∀ k, B1 k = true → mdm M k = true) : Rl (rd_drop C' ow) (md_set M' ow) ow := by
  obtain ⟨hl, hu, hr, ha, hg, hi, hs, hv, hk, hd, hH, hB, hA0⟩ := id h
  refine Rl_settle (C := C') (M := M') ?_ ?_ ?_ ?_ ?_ ?_ ?_ ?_ ?_ ?_ ?_
  · rw [c1, e1]; exact hl
  · rw [c2, e2]; exact hu
  · rw [c3, e3]; exact rl_U_clr hr (by omega) hu10
  · rw [c4, e4]; exact ha1
  · rw [c5, e5]; exact hg1
  · rw [c6, e6]; exact hi1
  · rw [c7, c8, e7]; exact hs
  · rw [c7, c9, e8]; exact hv
  · rw [c10, c11, c12, c13, e9, e10, e11]; exact hk1
  · rw [e2, e4]
    exact fun w r hw hr10 q => hd w r hw hr10 (hA w r hw hr10 q)
  · refine md_nb_settle (M := M) (M' := M') hB hH ?_ ?_ ?_ ?_ ?_ ?_
    · rw [e9, e10, e11]
      exact fun k hk4 q => ⟨hK k hk4 q, rfl, fun _ _ q => hBs _ q⟩
    · rw [e2]
      exact fun _ _ q => q
    · rw [e4]
      exact hA
    · rw [e6]
      exact hI
    · rw [e7]
      exact fun _ _ q => q
    · rw [e8]
      exact fun _ _ _ _ q => q
theorem ag_deleteRole (h : Rl C M ow) (x : Int32) : lw_ag RlE lw_cB C (rd_deleteRole C ow x x.toNatClampNeg) (md_deleteRole M ow x x.toNatClampNeg) := by
  obtain ⟨hl, hu, hr, ha, hg, hi, hs, hv, hk, hd, hH, hB, hA⟩ := id h
  unfold rd_deleteRole md_deleteRole
  rw [rl_nr hr x]
  cases hx : rb_h (rdr C) x with
  | false => exact ag_r (cd := lw_cB) (e := 0) h (by decide)
  | true =>
  obtain ⟨u, hu10, hu16, rfl, htu, eu, eb⟩ := rb_hx hr.2 hx
  rw [eu, eb, md_drN_v, Bool.not_true, cond_true, cond_false]
  have hA1 := fun w r hw hr => md_drA_v (mda M) (u := u) (w := w) (r := r) hu10 hw hr
  have hG1 := fun w r hr => md_drG_v (mdg M) (u := u) (w := w) (r := r) hr
  have hI1 := fun w r hw hr => md_drI_v (mdi M) (u := u) (w := w) (r := r) hu10 hw hr
  generalize ri_fo (fun i A => rb_u A (10 * i + u) false) 6 (mda M) = A1 at hA1 ⊢
  generalize ri_fo (fun i G => rb_u G (16 * u + i) false) 16 (mdg M) = G1 at hG1 ⊢
  generalize ri_fo (fun i I => rb_u (rb_u I (10 * u + i) false) (10 * i + u) false) 10 (mdi M) = I1 at hI1 ⊢
  rw [md_drK_v]
  unfold rd_dr2
  rw [rd_drop_c, rd_tk_c]
  have ca := fun k => rd_cut_v (rb_b u ^^^ (-1)) (rda C) k 6
  have ci := fun k => rd_cut_v (rb_b u ^^^ (-1)) (rdi C) k 10
  have ek : rdk (rd_dr1 C (rb_b u ^^^ (-1)) u) = rdk C := rfl
  have em : rdm (rd_dr1 C (rb_b u ^^^ (-1)) u) = rdm C := rfl
  have eb : rdb (rd_drop (rd_dr1 C (rb_b u ^^^ (-1)) u) ow) = rdb C := rfl
  rw [ek, em]
  have tk := rl_tk eb hk hu10 4 (Nat.le_refl _) _ _ rfl rfl
  generalize rd_drop (rd_dr1 C (rb_b u ^^^ (-1)) u) ow = D at tk ⊢
  generalize ri_fo (rd_tko D (rb_b u ^^^ (-1))) 4 (rdk C, rdm C, 0) = a at tk ⊢
  generalize ri_fo (md_drk (mdn M) u) 4 (mdm M, mdk M, 0) = q at tk ⊢
  unfold rd_dr1
  generalize ri_fo (rd_cut (rb_b u ^^^ (-1))) 6 (rda C) = a1 at ca ⊢
  generalize ri_fo (rd_cut (rb_b u ^^^ (-1))) 10 (rdi C) = i1 at ci ⊢
  obtain ⟨t1, t2, t3, t4⟩ := tk
  have ha1 : rl_G a1 A1 6 10 := by
    intro w hw
    rw [ca w, if_pos hw]
    refine ⟨fun r hr10 => ?_, rb_lo_and (ha w hw).2⟩
    rw [rb_clr _ (by omega), (ha w hw).1 r hr10, hA1 w r hw hr10]
  have hg1 : rl_G (upd (rdg C) u 0) G1 10 16 := by
    intro w hw
    by_cases e : w = u
    · subst e
      rw [upj_same]
      exact ⟨fun r hr16 => by rw [rb_0, hG1 w r hr16, decide_eq_true rfl, Bool.not_true, Bool.and_false], rb_lo_0 16⟩
    · rw [upj_ne _ _ e]
      exact ⟨fun r hr16 => by rw [(hg w hw).1 r hr16, hG1 w r hr16, decide_eq_false e, Bool.not_false, Bool.and_true], (hg w hw).2⟩
  have hi1 : rl_G (upd i1 u 0) I1 10 10 := by
    intro w hw
    by_cases e : w = u
    · subst e
      rw [upj_same]
      exact ⟨fun r hr10 => by rw [rb_0, hI1 w r hw hr10, decide_eq_true rfl, Bool.true_or, Bool.not_true, Bool.and_false], rb_lo_0 10⟩
    · rw [upj_ne _ _ e, ci w, if_pos hw]
      refine ⟨fun r hr10 => ?_, rb_lo_and (hi w hw).2⟩
      rw [rb_clr _ (by omega), (hi w hw).1 r hr10, hI1 w r hw hr10, decide_eq_false e, Bool.false_or]
  have hR := Rl_deleteRole h hu10 (C' := rdM (rdK (rdG (rdI (rdA (rdR C (rdr C &&& (rb_b u ^^^ (-1)))) a1) (upd i1 u 0)) (upd (rdg C) u 0)) a.1) a.2.1) (M' := md_drS (mdI (mdG (mdA (mdR (mdT M 0) (rb_u (mdr M) u false)) A1) G1) I1) q)
    (by simp only [rdl_M, rdl_K, rdl_G, rdl_I, rdl_A, rdl_R]) (by simp only [rdu_M, rdu_K, rdu_G, rdu_I, rdu_A, rdu_R]) (by simp only [rdr_M, rdr_K, rdr_G, rdr_I, rdr_A, rdr_R]) (by simp only [rda_M, rda_K, rda_G, rda_I, rda_A]) (by simp only [rdg_M, rdg_K, rdg_G]) (by simp only [rdi_M, rdi_K, rdi_G, rdi_I]) (by simp only [rds_M, rds_K, rds_G, rds_I, rds_A, rds_R]) (by simp only [rdo_M, rdo_K, rdo_G, rdo_I, rdo_A, rdo_R]) (by simp only [rdv_M, rdv_K, rdv_G, rdv_I, rdv_A, rdv_R]) (by simp only [rdk_M, rdk_K]) (by simp only [rdn_M, rdn_K, rdn_G, rdn_I, rdn_A, rdn_R]) (by simp only [rdm_M]) (by simp only [rdb_M, rdb_K, rdb_G, rdb_I, rdb_A, rdb_R])
    (by simp only [md_drS, mdl_K, mdl_M, mdl_I, mdl_G, mdl_A, mdl_R, mdl_T]) (by simp only [md_drS, mdu_K, mdu_M, mdu_I, mdu_G, mdu_A, mdu_R, mdu_T]) (by simp only [md_drS, mdr_K, mdr_M, mdr_I, mdr_G, mdr_A, mdr_R]) (by simp only [md_drS, mda_K, mda_M, mda_I, mda_G, mda_A]) (by simp only [md_drS, mdg_K, mdg_M, mdg_I, mdg_G]) (by simp only [md_drS, mdi_K, mdi_M, mdi_I]) (by simp only [md_drS, mdo_K, mdo_M, mdo_I, mdo_G, mdo_A, mdo_R, mdo_T]) (by simp only [md_drS, mdv_K, mdv_M, mdv_I, mdv_G, mdv_A, mdv_R, mdv_T]) (by simp only [md_drS, mdk_K]) (by simp only [md_drS, mdn_K, mdn_M, mdn_I, mdn_G, mdn_A, mdn_R, mdn_T]) (by simp only [md_drS, mdm_K, mdm_M])
    ha1 hg1 hi1 t1 (fun w r hw hr10 e => by rw [hA1 w r hw hr10, Bool.and_eq_true] at e; exact e.1) (fun w r hw hr10 e => by rw [hI1 w r hw hr10, Bool.and_eq_true] at e; exact e.1) t3 t4
  have ht : mdt (md_set (md_drS (mdI (mdG (mdA (mdR (mdT M 0) (rb_u (mdr M) u false)) A1) G1) I1) q) ow) = 0 := by
    obtain ⟨S2, V2, e3, -, -⟩ := md_set_ex (md_drS (mdI (mdG (mdA (mdR (mdT M 0) (rb_u (mdr M) u false)) A1) G1) I1) q) ow
    rw [e3]
    simp only [md_drS, mdt_V, mdt_S, mdt_K, mdt_M, mdt_I, mdt_G, mdt_A, mdt_R, mdt_T]
  exact ⟨ht, t2.symm, ow, hR⟩
end R71
