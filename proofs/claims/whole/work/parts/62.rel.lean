/-! The relation of the class's state and the reference's -/
def rl_U (x : Int32) (U : Nat → Bool) (N : Nat) : Prop := (∀ u, u < N → rb_t x u = U u) ∧ rb_lo N x
def rl_G (a : Nat → Int32) (A : Nat → Bool) (n m : Nat) : Prop := ∀ u, u < n → (∀ r, r < m → rb_t (a u) r = A (m * u + r)) ∧ rb_lo m (a u)
def rl_S (x : Int32) (o O : Nat → Int32) (ow : Nat → Nat) : Prop := rb_lo 6 x ∧ ∀ s, s < 6 → (o s = nI (ow s) ∧ ow s < 6) ∧ rb_t x s = !(decide (O s < 0)) ∧ (rb_t x s = true → O s = nI (ow s))
def rl_V (x : Int32) (v : Nat → Int32) (V : Nat → Bool) : Prop := ∀ s, s < 6 → rb_lo 10 (v s) ∧ (rb_t x s = true → ∀ r, r < 10 → rb_t (v s) r = V (10 * s + r)) ∧ (rb_t x s = false → v s = 0)
def rl_K (x : Int32) (n m b K N : Nat → Int32) (B : Nat → Bool) : Prop := rb_lo 4 x ∧ ∀ k, k < 4 → rb_t x k = !(decide (K k < 0)) ∧ (rb_t x k = true → n k = K k ∧ (K k = 0 ∨ K k = 1) ∧ b k = N k ∧ decide (N k < 2) = false ∧ rb_lo 10 (m k) ∧ ∀ r, r < 10 → rb_t (m k) r = B (10 * k + r))
def rl_D (U A : Nat → Bool) : Prop := ∀ u r, u < 6 → r < 10 → A (10 * u + r) = true → U u = true
def rl_A (M : md_S) (ow : Nat → Nat) : Prop := ∀ s, s < 6 → decide (mdo M s < 0) = false → ∀ r, r < 10 → mdv M (10 * s + r) = true → md_au M (ow s) r = true
def Rl (C : rd_S) (M : md_S) (ow : Nat → Nat) : Prop := rdl C = mdl M ∧ rl_U (rdu C) (mdu M) 6 ∧ rl_U (rdr C) (mdr M) 10 ∧ rl_G (rda C) (mda M) 6 10 ∧ rl_G (rdg C) (mdg M) 10 16 ∧ rl_G (rdi C) (mdi M) 10 10 ∧ rl_S (rds C) (rdo C) (mdo M) ow ∧ rl_V (rds C) (rdv C) (mdv M) ∧ rl_K (rdk C) (rdn C) (rdm C) (rdb C) (mdk M) (mdn M) (mdm M) ∧ rl_D (mdu M) (mda M) ∧ md_H (mdi M) (mds M) ∧ md_ab M = false ∧ rl_A M ow
def RlE (C : rd_S) (M : md_S) : Prop := ∃ ow, Rl C M ow
theorem upj_same (f : Nat → Int32) (k : Nat) (x : Int32) : upd f k x k = x := by simp [upd]
theorem upj_ne (f : Nat → Int32) {k j : Nat} (x : Int32) (h : ¬ j = k) : upd f k x j = f j := by simp [upd, h]
theorem rb_set (x : Int32) {k : Nat} (hk : k < 32) (j : Nat) : rb_t (x ||| rb_b k) j = (rb_t x j || decide (j = k)) := by rw [rb_or, rb_b_t hk]
theorem rb_clr (x : Int32) {k : Nat} (hk : k < 32) (j : Nat) : rb_t (x &&& (rb_b k ^^^ (-1))) j = (rb_t x j && !(decide (j = k))) := by
  rw [rb_and]
  by_cases hj : j < 32
  · rw [rb_not _ hj, rb_b_t hk]
  · rw [rb_hi x (by omega)]; rfl
theorem rb_lo_and {n : Nat} {x y : Int32} (h : rb_lo n x) : rb_lo n (x &&& y) := fun j hj => by rw [rb_and, h j hj]; rfl
theorem rb_lo_or {n : Nat} {x y : Int32} (h : rb_lo n x) (h2 : rb_lo n y) : rb_lo n (x ||| y) := fun j hj => by rw [rb_or, h j hj, h2 j hj]; rfl
theorem rb_lo_b {n k : Nat} (hk : k < n) (hn : n ≤ 32) : rb_lo n (rb_b k) := fun j hj => by
  rw [rb_b_t (by omega)]
  exact decide_eq_false (by omega)
theorem rb_lo_0 (n : Nat) : rb_lo n 0 := fun j _ => rb_0 j
theorem nJ_le0 (a : Int32) : decide (0 ≤ a) = !(decide (a < 0)) := by
  by_cases h : a < 0
  · rw [decide_eq_true h, decide_eq_false]
    · rfl
    · rw [Int32.lt_iff_toInt_lt] at h
      rw [Int32.le_iff_toInt_le]
      omega
  · rw [decide_eq_false h, decide_eq_true]
    · rfl
    · rw [Int32.lt_iff_toInt_lt] at h
      rw [Int32.le_iff_toInt_le]
      omega
theorem rl_no {x : Int32} {B : Nat → Bool} {m : Nat} (hm : m < 16) (h : rl_U x B (m + 1)) (n : Int32) : (decide (n < 0) || (decide (nI m < n) || !(B n.toNatClampNeg))) = !(rb_h x n) := by
  cases hh : rb_h x n with
  | true =>
    obtain ⟨k, hk, rfl, tk⟩ := rb_hs hh
    have hkm : k < m + 1 := by
      refine Classical.byContradiction fun hn => ?_
      rw [h.2 k (by omega)] at tk
      cases tk
    rw [rx16 hk, ← h.1 k hkm, tk, decide_eq_false (nI_pos (by omega)), decide_eq_false]
    · rfl
    · rw [nJ_lt (by omega) (by omega)]
      omega
  | false =>
    show _ = true
    refine Classical.byContradiction fun hn => ?_
    simp only [Bool.not_eq_true, Bool.or_eq_false_iff, Bool.not_eq_false', decide_eq_false_iff_not] at hn
    obtain ⟨k, hk, rfl⟩ := rb_nat2 (m := m) (by omega) hn.1 hn.2.1
    have h3 := hn.2.2
    rw [rx16 (by omega), ← h.1 k hk, ← rb_hk x (by omega), hh] at h3
    cases h3
section R62
variable {C : rd_S} {M : md_S} {ow : Nat → Nat}
theorem rl_nu (h : rl_U (rdu C) (mdu M) 6) (n : Int32) : md_nu M n = !(rb_h (rdu C) n) := rl_no (m := 5) (by omega) h n
theorem rl_nr (h : rl_U (rdr C) (mdr M) 10) (n : Int32) : md_nr M n = !(rb_h (rdr C) n) := rl_no (m := 9) (by omega) h n
theorem rl_ns (h : rl_S (rds C) (rdo C) (mdo M) ow) (n : Int32) : md_ns M n = !(rb_h (rds C) n) := rl_no (m := 5) (B := fun s => decide (0 ≤ mdo M s)) (by omega) ⟨fun s hs => by rw [(h.2 s hs).2.1]; exact (nJ_le0 _).symm, h.1⟩ n
theorem rl_nk (h : rl_K (rdk C) (rdn C) (rdm C) (rdb C) (mdk M) (mdn M) (mdm M)) (n : Int32) : md_nk M n = !(rb_h (rdk C) n) := rl_no (m := 3) (B := fun s => decide (0 ≤ mdk M s)) (by omega) ⟨fun s hs => by rw [(h.2 s hs).1]; exact (nJ_le0 _).symm, h.1⟩ n
theorem rb_ones : ∀ k, k < 16 → rb_t 65535 k = true := by decide +kernel
theorem rl_np (n : Int32) : md_np n = !(rb_h 65535 n) := by
  cases hh : rb_h 65535 n with
  | true =>
    obtain ⟨k, hk, rfl, -⟩ := rb_hs hh
    have h15 : nI k ≤ (15 : Int32) := (nJ_le (b := 15) (by omega) (by omega)).mpr (by omega)
    unfold md_np
    rw [decide_eq_false (nI_pos (by omega)), decide_eq_true h15]
    rfl
  | false =>
    show _ = true
    refine Classical.byContradiction fun hn => ?_
    obtain ⟨k, hk, rfl⟩ := md_npk (Bool.not_eq_true _ ▸ hn)
    rw [rb_hk _ hk, rb_ones k hk] at hh
    cases hh
theorem rb_sub_iff (x y : Int32) : (x &&& (y ^^^ (-1))) = 0 ↔ ∀ j, j < 32 → rb_t x j = true → rb_t y j = true := by
  constructor
  · intro h j hj hx
    have : rb_t (x &&& (y ^^^ (-1))) j = false := by rw [h, rb_0]
    rw [rb_and, rb_not _ hj, hx] at this
    simpa using this
  · intro h
    refine rb_zero fun j hj => ?_
    rw [rb_and, rb_not _ hj]
    cases hx : rb_t x j with
    | false => rfl
    | true => rw [h j hj hx]; rfl
theorem rl_st (h : rl_U (rdr C) (mdr M) 10) (x : Int32) : md_st M x = !(decide ((x &&& (rdr C ^^^ (-1))) = 0)) := by
  have e : md_st M x = ri_ex (fun i => md_in x (nI i) && md_nr M (nI i)) 32 := ri_fo_or _ 32
  have hb : ∀ i, i < 32 → md_nr M (nI i) = !(rb_t (rdr C) i) := by
    intro i hi
    rw [rl_nr h]
    by_cases h16 : i < 16
    · rw [rb_hk _ h16]
    · have e2 : rb_h (rdr C) (nI i) = false := by
        have : ∀ i, i < 32 → ¬ i < 16 → decide ((16 : Int32) ≤ nI i) = true := by decide +kernel
        unfold rb_h
        rw [this i hi h16]
        simp
      rw [e2, h.2 i (by omega)]
  rw [e]
  cases hd : decide ((x &&& (rdr C ^^^ (-1))) = 0) with
  | true =>
    refine ri_ex_no fun i hi => ?_
    rw [md_in_t x hi, hb i hi]
    cases hx : rb_t x i with
    | false => rfl
    | true => rw [(rb_sub_iff _ _).mp (of_decide_eq_true hd) i hi hx]; rfl
  | false =>
    show _ = true
    refine Classical.byContradiction fun hn => of_decide_eq_false hd ((rb_sub_iff _ _).mpr fun j hj hx => ?_)
    rw [Bool.not_eq_true] at hn
    have := ri_ex_false hn j hj
    rw [md_in_t x hj, hb j hj, hx] at this
    simpa using this
/-- what the class closes is what the reference's order closes -/
theorem rl_cl (hI : rl_G (rdi C) (mdi M) 10 10) (hH : md_H (mdi M) (mds M)) {x : Int32} (hx : rb_lo 10 x) : rb_lo 10 (rj_w (rdi C) 10 x) ∧ ∀ j, j < 10 → rb_t (rj_w (rdi C) 10 x) j = ri_ex (fun i => rb_t x i && mds M (10 * i + j)) 10 := by
  have h1 := rj_is (h := rdi C) (fun r hr => (hI r hr).2) hx
  refine ⟨h1.1, fun j hj => ?_⟩
  have h2 := (hH (rb_t x)).congr (I' := fun i j => rb_t (rdi C i) j) (X' := rb_t x) (R' := fun j => ri_ex (fun i => rb_t x i && mds M (10 * i + j)) 10) (fun i j hi hj => ((hI i hi).1 j hj).symm) (fun _ _ => rfl) (fun _ _ => rfl)
  exact h1.2.eq h2 hj
theorem md_au_ex (M : md_S) (u z : Nat) : md_au M u z = ri_ex (fun q => mda M (10 * u + q) && mds M (10 * q + z)) 10 := ri_fo_or _ 10
theorem md_ha_ex (M : md_S) (u z : Nat) : md_ha M u z = ri_ex (fun q => mds M (10 * u + q) && mdg M (16 * q + z)) 10 := ri_fo_or _ 10
theorem rl_au (hA : rl_G (rda C) (mda M) 6 10) (hI : rl_G (rdi C) (mdi M) 10 10) (hH : md_H (mdi M) (mds M)) {u z : Nat} (hu : u < 6) (hz : z < 10) : md_au M u z = rb_t (rj_w (rdi C) 10 (rda C u)) z := by
  rw [(rl_cl hI hH (hA u hu).2).2 z hz, md_au_ex]
  exact ri_ex_congr fun i hi => by rw [(hA u hu).1 i hi]
theorem rl_ju (hI : rl_G (rdi C) (mdi M) 10 10) (hH : md_H (mdi M) (mds M)) {u z : Nat} (hu : u < 10) (hz : z < 10) : mds M (10 * u + z) = rb_t (rj_w (rdi C) 10 (rb_b u)) z := by
  rw [(rl_cl hI hH (rb_lo_b hu (by omega))).2 z hz, ← md_H_one hH hu]
  exact ri_ex_congr fun i hi => by rw [rb_b_t (by omega)]
theorem rd_had_t (C : rd_S) (x : Int32) (p : Nat) : rb_t (rd_had C x) p = ri_ex (fun i => rb_t (rj_w (rdi C) 10 x) i && rb_t (rdg C i) p) 10 := by
  have : ∀ n, n ≤ 10 → rb_t (ri_fo (fun i a => cond (rb_h (rj_w (rdi C) 10 x) (nI i)) (a ||| rdg C i) a) n 0) p = ri_ex (fun i => rb_t (rj_w (rdi C) 10 x) i && rb_t (rdg C i) p) n := by
    intro n
    induction n with
    | zero => intro _; exact rb_0 p
    | succ n ih =>
      intro hn
      have ih := ih (by omega)
      show rb_t (cond (rb_h (rj_w (rdi C) 10 x) (nI n)) (_ ||| rdg C n) _) p = (_ || _)
      rw [← ih, rb_hk _ (by omega)]
      cases hb : rb_t (rj_w (rdi C) 10 x) n with
      | false => simp [hb]
      | true => simp [hb, rb_or]
  exact this 10 (Nat.le_refl _)
theorem md_he_rk (M : md_S) (k w : Nat) (f : Bool) : md_he M k w f = nI (rk (fun j => mdm M (10 * k + j) && cond f (md_au M w j) (mdv M (10 * w + j))) 10) := md_cnt_rk _ 10
theorem rd_sok_t (C : rd_S) (kd : Int32) {k : Nat} (hk : k < 4) : rb_h (rd_sok C kd) (nI k) = (rb_t (rdk C) k && decide (rdn C k = kd)) := by
  have : ∀ n, n ≤ 4 → ∀ j, rb_t (ri_fo (fun i a => cond (rb_h (rdk C) (nI i) && decide (rdn C i = kd)) (a ||| rb_b i) a) n 0) j = (decide (j < n) && (rb_t (rdk C) j && decide (rdn C j = kd))) := by
    intro n
    induction n with
    | zero => intro _ j; show rb_t 0 j = _; rw [rb_0]; simp
    | succ n ih =>
      intro hn j
      have ih := ih (by omega) j
      show rb_t (cond (rb_h (rdk C) (nI n) && decide (rdn C n = kd)) (_ ||| rb_b n) _) j = _
      rw [rb_hk _ (by omega)]
      by_cases e : j = n
      · subst e
        cases hb : (rb_t (rdk C) j && decide (rdn C j = kd)) with
        | false =>
          show rb_t (ri_fo _ j 0) j = _
          rw [ih]
          simp
        | true =>
          show rb_t (_ ||| rb_b j) j = _
          rw [rb_set _ (by omega)]
          simp
      · have e2 : decide (j < n + 1) = decide (j < n) := by rw [decide_eq_decide]; omega
        rw [e2, ← ih]
        cases (rb_t (rdk C) n && decide (rdn C n = kd)) with
        | false => rfl
        | true =>
          show rb_t (_ ||| rb_b n) j = _
          rw [rb_set _ (by omega), decide_eq_false e, Bool.or_false]
  rw [rb_hk _ (by omega)]
  show rb_t (ri_fo _ 4 0) k = _
  rw [this 4 (Nat.le_refl _) k, decide_eq_true hk, Bool.true_and]
def md_hb (M : md_S) (k w : Nat) : Bool := md_ct M k w && !(decide (md_he M k w (decide (mdk M k = 0)) < mdn M k))
theorem md_bk_ex (M : md_S) (k : Nat) : md_bk M k = ri_ex (md_hb M k) 6 := ri_fo_or (md_hb M k) 6
theorem md_ab_ex (M : md_S) : md_ab M = ri_ex (fun k => !(decide (mdk M k < 0)) && ri_ex (md_hb M k) 6) 4 := by
  have e : md_ab M = ri_ex (fun k => !(decide (mdk M k < 0)) && md_bk M k) 4 := ri_fo_or _ 4
  rw [e]
  exact ri_ex_congr fun k _ => by rw [md_bk_ex]
theorem md_ab_no (M : md_S) : md_ab M = false ↔ ∀ k, k < 4 → decide (mdk M k < 0) = false → ∀ w, w < 6 → md_hb M k w = false := by
  rw [md_ab_ex]
  constructor
  · intro h k hk ha w hw
    have := ri_ex_false h k hk
    rw [ha] at this
    exact ri_ex_false (by simpa using this) w hw
  · intro h
    refine ri_ex_no fun k hk => ?_
    cases ha : decide (mdk M k < 0) with
    | true => rfl
    | false => rw [ri_ex_no (h k hk ha)]; rfl
theorem md_ab_yes (M : md_S) : md_ab M = true ↔ ∃ k, k < 4 ∧ decide (mdk M k < 0) = false ∧ ∃ w, w < 6 ∧ md_hb M k w = true := by
  rw [md_ab_ex, ri_ex_iff]
  constructor
  · rintro ⟨k, hk, h⟩
    rw [Bool.and_eq_true, ri_ex_iff] at h
    exact ⟨k, hk, by simpa using h.1, h.2⟩
  · rintro ⟨k, hk, ha, h⟩
    refine ⟨k, hk, ?_⟩
    rw [Bool.and_eq_true, ri_ex_iff]
    exact ⟨by rw [ha]; rfl, h⟩
end R62
