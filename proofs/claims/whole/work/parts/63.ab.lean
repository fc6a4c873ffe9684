/-! When a call breaks a set: the reference's sets against the class's -/
section R63
variable {C : rd_S} {M M' : md_S} {ow : Nat → Nat}
theorem md_hb_v (M : md_S) (k w : Nat) : md_hb M k w = (md_ct M k w && !(decide (nI (rk (fun j => mdm M (10 * k + j) && cond (decide (mdk M k = 0)) (md_au M w j) (mdv M (10 * w + j))) 10) < mdn M k))) := by
  unfold md_hb
  rw [md_he_rk]
theorem md_hb_mono {k w : Nat} (hK : mdk M' k = mdk M k) (hN : mdn M' k = mdn M k) (hc : md_ct M' k w = true → md_ct M k w = true)
    (hm : md_ct M' k w = true → ∀ j, j < 10 → (mdm M' (10 * k + j) && cond (decide (mdk M k = 0)) (md_au M' w j) (mdv M' (10 * w + j))) = true → (mdm M (10 * k + j) && cond (decide (mdk M k = 0)) (md_au M w j) (mdv M (10 * w + j))) = true) (h : md_hb M' k w = true) : md_hb M k w = true := by
  rw [md_hb_v, Bool.and_eq_true] at h ⊢
  refine ⟨hc h.1, ?_⟩
  have h2 := h.2
  rw [Bool.not_eq_true', decide_eq_false_iff_not, hN, hK] at h2
  rw [Bool.not_eq_true', decide_eq_false_iff_not]
  intro hlt
  refine h2 (nJ_ltm (rk_mono fun j hj hh => hm h.1 j hj hh) ?_ hlt)
  have := rk_le (fun j => mdm M (10 * k + j) && cond (decide (mdk M k = 0)) (md_au M w j) (mdv M (10 * w + j))) 10
  omega
theorem md_nb_mono (hB : md_ab M = false) (hK : ∀ k, k < 4 → decide (mdk M' k < 0) = false → mdk M' k = mdk M k ∧ mdn M' k = mdn M k ∧ ∀ j, j < 10 → mdm M' (10 * k + j) = true → mdm M (10 * k + j) = true)
    (hU : ∀ w, w < 6 → mdu M' w = true → mdu M w = true ∧ ∀ j, j < 10 → md_au M' w j = true → md_au M w j = true)
    (hO : ∀ w, w < 6 → decide (mdo M' w < 0) = false → decide (mdo M w < 0) = false ∧ ∀ j, j < 10 → mdv M' (10 * w + j) = true → mdv M (10 * w + j) = true) : md_ab M' = false := by
  rw [md_ab_no] at hB ⊢
  intro k hk ha w hw
  obtain ⟨e1, e2, e3⟩ := hK k hk ha
  have hB2 := hB k hk (by rw [← e1]; exact ha) w hw
  cases hh : md_hb M' k w with
  | false => rfl
  | true =>
    rw [← hB2]
    symm
    refine md_hb_mono e1 e2 ?_ ?_ hh
    · unfold md_ct
      rw [e1]
      cases decide (mdk M k = 0) with
      | true => exact fun h => (hU w hw h).1
      | false =>
        intro h
        show (!(decide (mdo M w < 0))) = true
        rw [(hO w hw (by simpa using h)).1]
        rfl
    · unfold md_ct
      rw [e1]
      cases decide (mdk M k = 0) with
      | true =>
        intro h j hj h2
        rw [Bool.and_eq_true] at h2 ⊢
        exact ⟨e3 j hj h2.1, (hU w hw h).2 j hj h2.2⟩
      | false =>
        intro h j hj h2
        rw [Bool.and_eq_true] at h2 ⊢
        exact ⟨e3 j hj h2.1, (hO w hw (by simpa using h)).2 j hj h2.2⟩
theorem md_ab_same (hB : md_ab M = false) (hK : ∀ k, k < 4 → decide (mdk M' k < 0) = false → mdk M' k = mdk M k ∧ mdn M' k = mdn M k ∧ ∀ j, j < 10 → mdm M' (10 * k + j) = mdm M (10 * k + j))
    (hU : ∀ w, w < 6 → mdu M' w = mdu M w ∧ ∀ j, j < 10 → md_au M' w j = md_au M w j)
    (hO : ∀ w, w < 6 → decide (mdo M' w < 0) = false → decide (mdo M w < 0) = false ∧ ∀ j, j < 10 → mdv M' (10 * w + j) = mdv M (10 * w + j)) : md_ab M' = false :=
  md_nb_mono hB (fun k hk h => ⟨(hK k hk h).1, (hK k hk h).2.1, fun j hj h2 => by rw [← (hK k hk h).2.2 j hj]; exact h2⟩) (fun w hw h => ⟨by rw [← (hU w hw).1]; exact h, fun j hj h2 => by rw [← (hU w hw).2 j hj]; exact h2⟩)
    (fun w hw h => ⟨(hO w hw h).1, fun j hj h2 => by rw [← (hO w hw h).2 j hj]; exact h2⟩)
/-- the class's test of one holder's mask -/
theorem rl_brk (hK : rl_K (rdk C) (rdn C) (rdm C) (rdb C) (mdk M) (mdn M) (mdm M)) (kd x : Int32) : rd_brk C kd x = ri_ex (fun k => (!(decide (mdk M k < 0)) && decide (mdk M k = kd)) && !(decide (nI (rk (fun j => mdm M (10 * k + j) && rb_t x j) 10) < mdn M k))) 4 := by
  refine ri_ex_congr fun k hk => ?_
  obtain ⟨h1, h2⟩ := hK.2 k hk
  rw [rd_sok_t C kd hk, ← h1]
  cases ht : rb_t (rdk C) k with
  | false => rw [Bool.false_and, Bool.false_and, Bool.false_and, Bool.false_and]
  | true =>
    obtain ⟨e1, -, e2, -, e3, e4⟩ := h2 ht
    rw [e1, e2, rb_c_rkN (N := 10) (by omega) (fun j hj => by rw [rb_and, e3 j hj, Bool.and_false])]
    rw [rk_congr (B' := fun j => mdm M (10 * k + j) && rb_t x j) (fun j hj => by rw [rb_and, e4 j hj, Bool.and_comm])]
/-- one holder's mask changed: the reference's test is the class's -/
theorem rl_ab1 (hK : rl_K (rdk C) (rdn C) (rdm C) (rdb C) (mdk M) (mdn M) (mdm M)) (hB : md_ab M = false) {M1 : md_S} (e : mdk M1 = mdk M) {kd x : Int32} {w0 : Nat} (hw0 : w0 < 6)
    (h1 : ∀ k, k < 4 → decide (mdk M k < 0) = false → ∀ w, w < 6 → ¬ (mdk M k = kd ∧ w = w0) → md_hb M1 k w = true → md_hb M k w = true)
    (h2 : ∀ k, k < 4 → decide (mdk M k < 0) = false → mdk M k = kd → md_hb M1 k w0 = !(decide (nI (rk (fun j => mdm M (10 * k + j) && rb_t x j) 10) < mdn M k))) : md_ab M1 = rd_brk C kd x := by
  rw [rl_brk hK kd x, md_ab_ex, e]
  refine ri_ex_congr fun k hk => ?_
  cases ha : decide (mdk M k < 0) with
  | true => rw [Bool.not_true, Bool.false_and, Bool.false_and, Bool.false_and]
  | false =>
    have hno := (md_ab_no M).mp hB k hk ha
    rw [Bool.not_false, Bool.true_and, Bool.true_and]
    by_cases hkd : mdk M k = kd
    · rw [decide_eq_true hkd, Bool.true_and, ← h2 k hk ha hkd]
      cases hh : md_hb M1 k w0 with
      | true => exact ri_ex_iff.mpr ⟨w0, hw0, hh⟩
      | false =>
        refine ri_ex_no fun w hw => ?_
        by_cases hww : w = w0
        · rw [hww]; exact hh
        · cases hx : md_hb M1 k w with
          | false => rfl
          | true => rw [← hno w hw]; exact (h1 k hk ha w hw (fun q => hww q.2) hx).symm
    · rw [decide_eq_false hkd, Bool.false_and]
      refine ri_ex_no fun w hw => ?_
      cases hx : md_hb M1 k w with
      | false => rfl
      | true => rw [← hno w hw]; exact (h1 k hk ha w hw (fun q => hkd q.1) hx).symm
theorem md_H_mono {I S I1 S1 : Nat → Bool} (h : md_H I S) (h1 : md_H I1 S1) (hI : ∀ i j, i < 10 → j < 10 → I1 (10 * i + j) = true → I (10 * i + j) = true) {i j : Nat} (hi : i < 10) (hj : j < 10) (hs : S1 (10 * i + j) = true) : S (10 * i + j) = true := by
  have a := h (fun k => decide (k = i))
  have b := h1 (fun k => decide (k = i))
  have e : ri_ex (fun k => decide (k = i) && S1 (10 * k + j)) 10 = true := by rw [md_H_one h1 hi]; exact hs
  have := b.2.2 _ (fun p q hp hq x y => a.1 p q hp hq x (hI p q hp hq y)) a.2.1 j hj e
  rw [← md_H_one h hi]
  exact this
theorem md_H_eq {I S S1 : Nat → Bool} (h : md_H I S) (h1 : md_H I S1) {i j : Nat} (hi : i < 10) (hj : j < 10) : S1 (10 * i + j) = S (10 * i + j) := by
  have a := md_H_mono h h1 (fun _ _ _ _ q => q) hi hj
  have b := md_H_mono h1 h (fun _ _ _ _ q => q) hi hj
  cases h1 : S1 (10 * i + j) <;> cases h2 : S (10 * i + j) <;> simp_all
theorem md_au_mono {u z : Nat} (_hu : u < 6) (hz : z < 10) (hA : ∀ q, q < 10 → mda M' (10 * u + q) = true → mda M (10 * u + q) = true) (hS : ∀ i j, i < 10 → j < 10 → mds M' (10 * i + j) = true → mds M (10 * i + j) = true) (h : md_au M' u z = true) : md_au M u z = true := by
  rw [md_au_ex, ri_ex_iff] at h ⊢
  obtain ⟨q, hq, h⟩ := h
  rw [Bool.and_eq_true] at h
  exact ⟨q, hq, by rw [Bool.and_eq_true]; exact ⟨hA q hq h.1, hS q z hq hz h.2⟩⟩
theorem md_au_same {u z : Nat} (hz : z < 10) (hA : ∀ q, q < 10 → mda M' (10 * u + q) = mda M (10 * u + q)) (hS : ∀ i j, i < 10 → j < 10 → mds M' (10 * i + j) = mds M (10 * i + j)) : md_au M' u z = md_au M u z := by
  rw [md_au_ex, md_au_ex]
  exact ri_ex_congr fun q hq => by rw [hA q hq, hS q z hq hz]
theorem rb_hx {x n : Int32} {N : Nat} (hl : rb_lo N x) (h : rb_h x n = true) : ∃ k, k < N ∧ k < 16 ∧ n = nI k ∧ rb_t x k = true ∧ n.toNatClampNeg = k ∧ rb_bt n = rb_b k := by
  obtain ⟨k, hk, rfl, ht⟩ := rb_hs h
  refine ⟨k, ?_, hk, rfl, ht, rx16 hk, rfl⟩
  refine Classical.byContradiction fun hn => ?_
  rw [hl k (by omega)] at ht
  cases ht
end R63
