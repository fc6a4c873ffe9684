/-! The calls without a settling, one by one -/
section R64
variable {C : rd_S} {M M' : md_S} {ow : Nat → Nat}
theorem Rl_ext (h : Rl C M ow) (hl : mdl M' = mdl M) (hu : ∀ u, u < 6 → mdu M' u = mdu M u) (hr : ∀ u, u < 10 → mdr M' u = mdr M u) (ha : ∀ k, k < 60 → mda M' k = mda M k) (hg : ∀ k, k < 160 → mdg M' k = mdg M k) (hi : ∀ k, k < 100 → mdi M' k = mdi M k) (hs : ∀ i j, i < 10 → j < 10 → mds M' (10 * i + j) = mds M (10 * i + j))
    (ho : ∀ s, s < 6 → decide (mdo M' s < 0) = decide (mdo M s < 0) ∧ (decide (mdo M s < 0) = false → mdo M' s = mdo M s ∧ ∀ r, r < 10 → mdv M' (10 * s + r) = mdv M (10 * s + r)))
    (hk : ∀ k, k < 4 → decide (mdk M' k < 0) = decide (mdk M k < 0) ∧ (decide (mdk M k < 0) = false → mdk M' k = mdk M k ∧ mdn M' k = mdn M k ∧ ∀ r, r < 10 → mdm M' (10 * k + r) = mdm M (10 * k + r))) : Rl C M' ow := by
  obtain ⟨h1, h2, h3, h4, h5, h6, h7, h8, h9, h10, h11, h12, h13⟩ := h
  have eau : ∀ w z, w < 6 → z < 10 → md_au M' w z = md_au M w z := fun w z hw hz => md_au_same hz (fun q hq => ha _ (by omega)) hs
  refine ⟨by rw [hl]; exact h1, ⟨fun u hu' => by rw [hu u hu']; exact h2.1 u hu', h2.2⟩, ⟨fun u hu' => by rw [hr u hu']; exact h3.1 u hu', h3.2⟩, fun u hu' => ⟨fun r hr' => by rw [ha _ (by omega)]; exact (h4 u hu').1 r hr', (h4 u hu').2⟩, fun u hu' => ⟨fun r hr' => by rw [hg _ (by omega)]; exact (h5 u hu').1 r hr', (h5 u hu').2⟩, fun u hu' => ⟨fun r hr' => by rw [hi _ (by omega)]; exact (h6 u hu').1 r hr', (h6 u hu').2⟩, ⟨h7.1, fun s hs' => ⟨(h7.2 s hs').1, ?_, ?_⟩⟩, fun s hs' => ⟨(h8 s hs').1, ?_, (h8 s hs').2.2⟩, ⟨h9.1, fun k hk' => ⟨?_, ?_⟩⟩, ?_, ?_, ?_, ?_⟩
  · rw [(ho s hs').1]; exact (h7.2 s hs').2.1
  · intro ht
    have hal : decide (mdo M s < 0) = false := by
      have := (h7.2 s hs').2.1
      rw [ht] at this
      simpa using this.symm
    rw [((ho s hs').2 hal).1]
    exact (h7.2 s hs').2.2 ht
  · intro ht r hr'
    have hal : decide (mdo M s < 0) = false := by
      have := (h7.2 s hs').2.1
      rw [ht] at this
      simpa using this.symm
    rw [((ho s hs').2 hal).2 r hr']
    exact (h8 s hs').2.1 ht r hr'
  · rw [(hk k hk').1]; exact (h9.2 k hk').1
  · intro ht
    have hal : decide (mdk M k < 0) = false := by
      have := (h9.2 k hk').1
      rw [ht] at this
      simpa using this.symm
    obtain ⟨e1, e2, e3⟩ := (hk k hk').2 hal
    obtain ⟨a1, a2, a3, a4, a5, a6⟩ := (h9.2 k hk').2 ht
    rw [e1, e2]
    exact ⟨a1, a2, a3, a4, a5, fun r hr' => by rw [e3 r hr']; exact a6 r hr'⟩
  · intro u r hu' hr' hh
    rw [ha _ (by omega)] at hh
    rw [hu u hu']
    exact h10 u r hu' hr' hh
  · refine md_H_congr h11 (fun k hk' => (hi k hk').symm) (fun k hk' => ?_)
    have := hs (k / 10) (k % 10) (by omega) (by omega)
    rw [Nat.div_add_mod] at this
    exact this.symm
  · refine md_ab_same h12 (fun k hk' h => ?_) (fun w hw => ⟨hu w hw, fun j hj => eau w j hw hj⟩) (fun w hw h => ?_)
    · exact (hk k hk').2 (by rw [← (hk k hk').1]; exact h)
    · have hal : decide (mdo M w < 0) = false := by rw [← (ho w hw).1]; exact h
      exact ⟨hal, ((ho w hw).2 hal).2⟩
  · intro s hs' h r hr' hv
    have hal : decide (mdo M s < 0) = false := by rw [← (ho s hs').1]; exact h
    rw [((ho s hs').2 hal).2 r hr'] at hv
    rw [eau _ _ (h7.2 s hs').1.2 hr']
    exact h13 s hs' hal r hr' hv
theorem Rl_T (h : Rl C M ow) (t : Int32) : Rl C (mdT M t) ow := Rl_ext h rfl (fun _ _ => rfl) (fun _ _ => rfl) (fun _ _ => rfl) (fun _ _ => rfl) (fun _ _ => rfl) (fun _ _ _ _ => rfl) (fun _ _ => ⟨rfl, fun _ => ⟨rfl, fun _ _ => rfl⟩⟩) (fun _ _ => ⟨rfl, fun _ => ⟨rfl, rfl, fun _ _ => rfl⟩⟩)
theorem ag_r {cd : Nat → Int32} {e : Nat} (h : Rl C M ow) (hc : ¬ cd e = 0) : lw_ag RlE cd C (.inr e) (0, mdT M (cd e)) := ⟨hc, rfl, ow, Rl_T h _⟩
theorem ag_k {cd : Nat → Int32} {x y : Int32} (h : Rl C M ow) (e : y = x) : lw_ag RlE cd C (.inl (x, C)) (y, mdT M 0) := ⟨rfl, e, ow, Rl_T h _⟩
theorem rl_G_set {a : Nat → Int32} {A : Nat → Bool} {n m u v : Nat} (h : rl_G a A n m) (hm : m = 10 ∨ m = 16) (hu : u < n) (hv : v < m) : rl_G (upd a u (a u ||| rb_b v)) (rb_u A (m * u + v) true) n m := by
  intro i hi
  by_cases e : i = u
  · subst e
    rw [upj_same]
    refine ⟨fun r hr => ?_, rb_lo_or (h i hi).2 (rb_lo_b hv (by omega))⟩
    rw [rb_set _ (by omega), (h i hi).1 r hr]
    by_cases e2 : r = v
    · subst e2
      rw [rb_u_same, decide_eq_true rfl, Bool.or_true]
    · rw [rb_u_ne _ _ (by omega), decide_eq_false e2, Bool.or_false]
  · rw [upj_ne _ _ e]
    refine ⟨fun r hr => ?_, (h i hi).2⟩
    rw [(h i hi).1 r hr, rb_u_ne]
    rcases hm with rfl | rfl <;> omega
theorem rl_G_clr {a : Nat → Int32} {A : Nat → Bool} {n m u v : Nat} (h : rl_G a A n m) (hm : m = 10 ∨ m = 16) (hu : u < n) (hv : v < m) : rl_G (upd a u (a u &&& (rb_b v ^^^ (-1)))) (rb_u A (m * u + v) false) n m := by
  intro i hi
  by_cases e : i = u
  · subst e
    rw [upj_same]
    refine ⟨fun r hr => ?_, rb_lo_and (h i hi).2⟩
    rw [rb_clr _ (by omega), (h i hi).1 r hr]
    by_cases e2 : r = v
    · subst e2
      rw [rb_u_same, decide_eq_true rfl, Bool.not_true, Bool.and_false]
    · rw [rb_u_ne _ _ (by omega), decide_eq_false e2, Bool.not_false, Bool.and_true]
  · rw [upj_ne _ _ e]
    refine ⟨fun r hr => ?_, (h i hi).2⟩
    rw [(h i hi).1 r hr, rb_u_ne]
    rcases hm with rfl | rfl <;> omega
theorem rl_G_cnt {a : Nat → Int32} {A : Nat → Bool} {n m u : Nat} (h : rl_G a A n m) (hm : m ≤ 16) (hu : u < n) : md_cnt (fun j => A (m * u + j)) m = rb_c (a u) := by
  rw [md_cnt_rk, rb_c_rkN hm (h u hu).2]
  rw [rk_congr (fun j hj => ((h u hu).1 j hj).symm)]
theorem rl_U_set {x : Int32} {U : Nat → Bool} {N n : Nat} (h : rl_U x U N) (hN : N ≤ 32) (hn : n < N) : rl_U (x ||| rb_b n) (rb_u U n true) N := by
  refine ⟨fun u hu => ?_, rb_lo_or h.2 (rb_lo_b hn hN)⟩
  rw [rb_set _ (by omega), h.1 u hu]
  by_cases e : u = n
  · subst e; rw [rb_u_same, decide_eq_true rfl, Bool.or_true]
  · rw [rb_u_ne _ _ e, decide_eq_false e, Bool.or_false]
theorem rl_U_clr {x : Int32} {U : Nat → Bool} {N n : Nat} (h : rl_U x U N) (hN : N ≤ 32) (hn : n < N) : rl_U (x &&& (rb_b n ^^^ (-1))) (rb_u U n false) N := by
  refine ⟨fun u hu => ?_, rb_lo_and h.2⟩
  rw [rb_clr _ (by omega), h.1 u hu]
  by_cases e : u = n
  · subst e; rw [rb_u_same, decide_eq_true rfl, Bool.not_true, Bool.and_false]
  · rw [rb_u_ne _ _ e, decide_eq_false e, Bool.not_false, Bool.and_true]
theorem rl_U_lf {x : Int32} {U : Nat → Bool} {N : Nat} (h : rl_U x U N) : rd_lf x N = ri_fst (fun i => !(U i)) N := ri_fst_congr fun i hi => by rw [h.1 i hi]
theorem rl_k2 {k : Nat} (hk : rl_K (rdk C) (rdn C) (rdm C) (rdb C) (mdk M) (mdn M) (mdm M)) (hk4 : k < 4) (ha : decide (mdk M k < 0) = false) : rb_t (rdk C) k = true ∧ (mdk M k = 0 ∨ mdk M k = 1) ∧ decide (mdn M k < 2) = false := by
  have h1 := (hk.2 k hk4).1
  rw [ha] at h1
  exact ⟨h1, ((hk.2 k hk4).2 h1).2.1, ((hk.2 k hk4).2 h1).2.2.2.1⟩
theorem nJ_0lt {n : Int32} (h : decide (n < 2) = false) : nI 0 < n := by
  have h := of_decide_eq_false h
  rw [Int32.lt_iff_toInt_lt] at h ⊢
  have e1 : (nI 0).toInt = 0 := rfl
  have e2 : (2 : Int32).toInt = 2 := rfl
  omega
theorem rl_A_same (hA : rl_A M ow) (hO : ∀ s, s < 6 → decide (mdo M' s < 0) = false → decide (mdo M s < 0) = false ∧ ∀ r, r < 10 → mdv M' (10 * s + r) = true → mdv M (10 * s + r) = true) (ha : ∀ s, s < 6 → decide (mdo M' s < 0) = false → ∀ r, r < 10 → md_au M (ow s) r = true → md_au M' (ow s) r = true) : rl_A M' ow := by
  intro s hs hal r hr hv
  obtain ⟨h1, h2⟩ := hO s hs hal
  exact ha s hs hal r hr (hA s hs h1 r hr (h2 r hr hv))
theorem Rl_addUser (h : Rl C M ow) {n : Nat} (hn : n < 6) (hun : mdu M n = false) : Rl (rdU C (rdu C ||| rb_b n)) (mdU (mdT M 0) (rb_u (mdu M) n true)) ow := by
  obtain ⟨hl, hu, hr, ha, hg, hi, hs, hv, hk, hd, hH, hB, hA⟩ := id h
  have eau : ∀ w z, z < 10 → md_au (mdU (mdT M 0) (rb_u (mdu M) n true)) w z = md_au M w z := fun w z hz => md_au_same hz (fun _ _ => rfl) (fun _ _ _ _ => rfl)
  refine ⟨hl, rl_U_set hu (by omega) hn, hr, ha, hg, hi, hs, hv, hk, ?_, hH, ?_, ?_⟩
  · intro u r hu6 hr10 hh
    show rb_u (mdu M) n true u = true
    by_cases e : u = n
    · rw [e, rb_u_same]
    · rw [rb_u_ne _ _ e]
      exact hd u r hu6 hr10 hh
  · rw [md_ab_no] at hB ⊢
    intro k hk4 hal w hw
    have hB := hB k hk4 hal w hw
    by_cases e : w = n
    · subst e
      rw [md_hb_v] at hB ⊢
      change (cond (decide (mdk M k = 0)) (mdu M w) (!(decide (mdo M w < 0))) && _) = false at hB
      show (cond (decide (mdk M k = 0)) (rb_u (mdu M) w true w) (!(decide (mdo M w < 0))) && !(decide (nI (rk (fun j => mdm M (10 * k + j) && cond (decide (mdk M k = 0)) (md_au (mdU (mdT M 0) (rb_u (mdu M) w true)) w j) (mdv M (10 * w + j))) 10) < mdn M k))) = false
      cases h0 : decide (mdk M k = 0) with
      | false =>
        rw [h0] at hB
        exact hB
      | true =>
        rw [rk_zero (n := 10), decide_eq_true (nJ_0lt (rl_k2 hk hk4 hal).2.2), Bool.not_true, Bool.and_false]
        intro j hj
        show (_ && md_au _ w j) = false
        rw [eau w j hj, md_au_ex, ri_ex_no, Bool.and_false]
        intro q hq
        cases hb : mda M (10 * w + q) with
        | false => rw [Bool.false_and]
        | true =>
          have := hd w q hw hq hb
          rw [hun] at this
          cases this
    · cases hh : md_hb (mdU (mdT M 0) (rb_u (mdu M) n true)) k w with
      | false => rfl
      | true =>
        rw [← hB]
        symm
        refine md_hb_mono (M := M) (M' := mdU (mdT M 0) (rb_u (mdu M) n true)) rfl rfl ?_ ?_ hh
        · intro hc
          show cond (decide (mdk M k = 0)) (mdu M w) (!(decide (mdo M w < 0))) = true
          rw [← rb_u_ne (mdu M) true e]
          exact hc
        · intro _ j hj hx
          rw [← eau w j hj]
          exact hx
  · exact rl_A_same hA (fun s _ h => ⟨h, fun _ _ h => h⟩) (fun s _ _ r hr hx => by rw [eau _ _ hr]; exact hx)
theorem ag_addUser (h : Rl C M ow) : lw_ag RlE lw_cA C (rd_addUser C) (md_addUser M) := by
  obtain ⟨hl, hu, hr, ha, hg, hi, hs, hv, hk, hd, hH, hB, hA⟩ := id h
  unfold rd_addUser md_addUser
  have e : rd_lf (rdu C) 6 = md_fu M := rl_U_lf hu
  rw [e]
  have sp := (ri_fst_spec (Q := fun i => !(mdu M i)) 6).1
  change md_fu M < 6 ∧ (!(mdu M (md_fu M))) = true ∧ _ ∨ md_fu M = 6 ∧ _ at sp
  generalize md_fu M = n at sp ⊢
  rcases sp with sp | sp
  · have hn := sp.1
    have e1 : decide (nI n < 6) = true := decide_eq_true ((nJ_lt (b := 6) (by omega) (by omega)).mpr hn)
    rw [e1, decide_eq_false (by omega : ¬ n = 6)]
    exact ⟨rfl, rfl, ow, Rl_addUser h hn (by simpa using sp.2.1)⟩
  · rw [sp.1]
    exact ag_r (cd := lw_cA) (e := 2) h (by decide)
theorem Rl_addRole (h : Rl C M ow) {n : Nat} (hn : n < 10) : Rl (rdR C (rdr C ||| rb_b n)) (mdR (mdT M 0) (rb_u (mdr M) n true)) ow := by
  obtain ⟨hl, hu, hr, ha, hg, hi, hs, hv, hk, hd, hH, hB, hA⟩ := id h
  have eau : ∀ w z, z < 10 → md_au (mdR (mdT M 0) (rb_u (mdr M) n true)) w z = md_au M w z := fun w z hz => md_au_same hz (fun _ _ => rfl) (fun _ _ _ _ => rfl)
  refine ⟨hl, hu, rl_U_set hr (by omega) hn, ha, hg, hi, hs, hv, hk, hd, hH, ?_, ?_⟩
  · exact md_ab_same hB (fun _ _ _ => ⟨rfl, rfl, fun _ _ => rfl⟩) (fun w hw => ⟨rfl, fun j hj => eau w j hj⟩) (fun w hw h => ⟨h, fun _ _ => rfl⟩)
  · exact rl_A_same hA (fun s _ h => ⟨h, fun _ _ h => h⟩) (fun s _ _ r hr hx => by rw [eau _ _ hr]; exact hx)
theorem ag_addRole (h : Rl C M ow) : lw_ag RlE lw_cA C (rd_addRole C) (md_addRole M) := by
  obtain ⟨hl, hu, hr, ha, hg, hi, hs, hv, hk, hd, hH, hB, hA⟩ := id h
  unfold rd_addRole md_addRole
  have e : rd_lf (rdr C) 10 = md_fr M := rl_U_lf hr
  rw [e]
  have sp := (ri_fst_spec (Q := fun i => !(mdr M i)) 10).1
  change md_fr M < 10 ∧ _ ∨ md_fr M = 10 ∧ _ at sp
  have sp : md_fr M < 10 ∨ md_fr M = 10 := sp.imp (fun q => q.1) (fun q => q.1)
  generalize md_fr M = n at sp ⊢
  rcases sp with sp | sp
  · have e1 : decide (nI n < 10) = true := decide_eq_true ((nJ_lt (b := 10) (by omega) (by omega)).mpr sp)
    rw [e1, decide_eq_false (by omega : ¬ n = 10)]
    exact ⟨rfl, rfl, ow, Rl_addRole h sp⟩
  · rw [sp]
    exact ag_r (cd := lw_cA) (e := 2) h (by decide)
theorem Rl_grant (h : Rl C M ow) {u v : Nat} {b : Bool} {x : Int32} (hG : rl_G (upd (rdg C) u x) (rb_u (mdg M) (16 * u + v) b) 10 16) : Rl (rdG C (upd (rdg C) u x)) (md_gr1 M (16 * u + v) b) ow := by
  obtain ⟨hl, hu, hr, ha, hg, hi, hs, hv, hk, hd, hH, hB, hA⟩ := id h
  have eau : ∀ w z, z < 10 → md_au (md_gr1 M (16 * u + v) b) w z = md_au M w z := fun w z hz => md_au_same hz (fun _ _ => rfl) (fun _ _ _ _ => rfl)
  refine ⟨hl, hu, hr, ha, hG, hi, hs, hv, hk, hd, hH, ?_, ?_⟩
  · exact md_ab_same hB (fun _ _ _ => ⟨rfl, rfl, fun _ _ => rfl⟩) (fun w hw => ⟨rfl, fun j hj => eau w j hj⟩) (fun w hw h => ⟨h, fun _ _ => rfl⟩)
  · exact rl_A_same hA (fun s _ h => ⟨h, fun _ _ h => h⟩) (fun s _ _ r hr hx => by rw [eau _ _ hr]; exact hx)
theorem ag_grant (h : Rl C M ow) (x y : Int32) : lw_ag RlE lw_cC C (rd_grant C x y x.toNatClampNeg) (md_grant M x y x.toNatClampNeg y.toNatClampNeg) := by
  obtain ⟨hl, hu, hr, ha, hg, hi, hs, hv, hk, hd, hH, hB, hA⟩ := id h
  unfold rd_grant md_grant
  rw [rl_nr hr x, rl_np y]
  cases hx : rb_h (rdr C) x with
  | false => exact ag_r (cd := lw_cC) (e := 0) h (by decide)
  | true =>
  cases hy : rb_h 65535 y with
  | false => exact ag_r (cd := lw_cC) (e := 0) h (by decide)
  | true =>
  obtain ⟨u, hu10, hu16, rfl, htu, eu, -⟩ := rb_hx hr.2 hx
  obtain ⟨v, hv16, rfl, -⟩ := rb_hs hy
  rw [eu, rx16 hv16, rb_hk _ hv16, (hg u hu10).1 v hv16]
  cases hb : mdg M (16 * u + v) with
  | true => exact ag_r (cd := lw_cC) (e := 2) h (by decide)
  | false =>
  have hG := rl_G_set hg (Or.inr rfl) hu10 hv16
  exact ⟨rfl, rl_G_cnt hG (by omega) hu10, ow, Rl_grant h hG⟩
theorem ag_revoke (h : Rl C M ow) (x y : Int32) : lw_ag RlE lw_cC C (rd_revoke C x y x.toNatClampNeg) (md_revoke M x y x.toNatClampNeg y.toNatClampNeg) := by
  obtain ⟨hl, hu, hr, ha, hg, hi, hs, hv, hk, hd, hH, hB, hA⟩ := id h
  unfold rd_revoke md_revoke
  rw [rl_nr hr x, rl_np y]
  cases hx : rb_h (rdr C) x with
  | false => exact ag_r (cd := lw_cC) (e := 0) h (by decide)
  | true =>
  cases hy : rb_h 65535 y with
  | false => exact ag_r (cd := lw_cC) (e := 0) h (by decide)
  | true =>
  obtain ⟨u, hu10, hu16, rfl, htu, eu, -⟩ := rb_hx hr.2 hx
  obtain ⟨v, hv16, rfl, -⟩ := rb_hs hy
  rw [eu, rx16 hv16, rb_hk _ hv16, (hg u hu10).1 v hv16]
  cases hb : mdg M (16 * u + v) with
  | false => exact ag_r (cd := lw_cC) (e := 2) h (by decide)
  | true =>
  have hG := rl_G_clr hg (Or.inr rfl) hu10 hv16
  exact ⟨rfl, rl_G_cnt hG (by omega) hu10, ow, Rl_grant h hG⟩
end R64
