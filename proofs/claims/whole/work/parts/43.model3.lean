/-! The reference's stores in loops, as pure runs -/
def md_pl (x : Int32) (D : Nat → Bool) : Nat → Bool := ri_fo (fun i D => rb_u D i (md_in x (nI i))) 10 D
def md_swo (k i : Nat) (q : (Nat → Bool) × (Nat → Bool)) : (Nat → Bool) × (Nat → Bool) := (rb_u q.1 (10 * k + i) (q.2 i), rb_u q.2 i (q.1 (10 * k + i)))
def md_sw (M : md_S) (k : Nat) : (Nat → Bool) × (Nat → Bool) := ri_fo (md_swo k) 10 (mdm M, mdd M)
def md_o1 (I : Nat → Bool) (S : Nat → Bool) : Nat → Bool := ri_fo (fun k S => rb_u S k (decide (k % 11 = 0) || I k)) 100 S
def md_o2o (b k : Nat) (S : Nat → Bool) : Nat → Bool := rb_u S k (S k || (S (k / 10 * 10 + b) && S (10 * b + k % 10)))
def md_o2 (b : Nat) (S : Nat → Bool) : Nat → Bool := ri_fo (md_o2o b) 100 S
def md_or (I S : Nat → Bool) : Nat → Bool := ri_fo md_o2 10 (md_o1 I S)
def md_seo (M : md_S) (ow : Nat → Nat) (s i : Nat) (V : Nat → Bool) : Nat → Bool := rb_u V (10 * s + i) (V (10 * s + i) && (!(decide (mdo M s < 0)) && md_au M (ow s) i))
def md_seV (M : md_S) (ow : Nat → Nat) (V : Nat → Bool) : Nat → Bool := ri_fo (fun s V => ri_fo (md_seo M ow s) 10 V) 6 V
def md_ord (M : md_S) : md_S := mdS M (md_or (mdi M) (mds M))
def md_set (M : md_S) (ow : Nat → Nat) : md_S := mdV (md_ord M) (md_seV (md_ord M) ow (mdv M))
theorem nJ_r11 : ∀ k, k < 100 → decide (nI k - nI k / 11 * 11 = 0) = decide (k % 11 = 0) := by decide +kernel
theorem nJ_d10 : ∀ k, k < 100 → ∀ b, b < 10 → nI k / 10 * 10 + nI b = nI (k / 10 * 10 + b) := by decide +kernel
theorem nJ_r10 : ∀ k, k < 100 → ∀ b, b < 10 → (10 : Int32) * nI b + (nI k - nI k / 10 * 10) = nI (10 * b + k % 10) := by decide +kernel
section M43
variable {sl : Nat} {sx : Nat → Int32} {r : ri_W} {C : rd_S} {M : md_S} {w : ri_W}
theorem md_au_V (V : Nat → Bool) (u z : Nat) : md_au (mdV M V) u z = md_au M u z := rfl
theorem rn_plan (x : Int32) : ri_M sl sx 79 [.ref 10, .int x] (rd_W C (md_W M r)) (.inl none, rd_W C (md_W (mdD M (md_pl x (mdd M))) r), 0, 0) := by
  unfold ri_M
  repeat refine ri_X.sh 2 rfl rfl rfl rfl ?_
  refine ri_loop (fun i D => (2, [some (.ref 10), some (.int x), some (.int (nI i))], [], rd_W C (md_W (mdD M D) r))) (fun i D => rb_u D i (md_in x (nI i))) 10 ?_ (a := mdd M) ?_
  · intro i D o hi k
    repeat refine ri_X.s rfl rfl rfl ?_
    refine ri_X.bF rfl rfl (rx_ge (N := 10) (hi) rfl) ?_
    repeat refine ri_X.s rfl rfl rfl ?_
    refine ri_X.call0 rfl rfl rfl rfl rfl (rn_in x (nI i)) ?_
    refine ri_X.zst ((md_in x (nI i))) rfl rfl rfl (hi) rfl ?_
    rw [md_WD, mdDD]
    repeat refine ri_X.sh 2 rfl rfl rfl rfl ?_
    exact ri_X.eq (by simp only [nI_succ]; try rfl) k
  · show ri_X sl sx 79 (2, [some (.ref 10), some (.int x), some (.int (nI 10))], [], rd_W C (md_W (mdD M (md_pl x (mdd M))) r)) _
    generalize md_pl x (mdd M) = D
    repeat refine ri_X.s rfl rfl rfl ?_
    refine ri_X.bT rfl rfl (rx_geN (N := 10)) ?_
    exact ri_X.fin rfl rfl
theorem mdMD (m d : Nat → Bool) : mdM (mdD M d) m = mdD (mdM M m) d := rfl
theorem rn_swap {k : Nat} (hk : k < 4) {q : (Nat → Bool) × (Nat → Bool)} (hq : md_sw M k = q) : ri_M sl sx 78 [.ref 10, .int (nI k)] (rd_W C (md_W M r)) (.inl none, rd_W C (md_W (mdD (mdM M q.1) q.2) r), 0, 0) := by
  unfold ri_M
  repeat refine ri_X.sh 2 rfl rfl rfl rfl ?_
  have main : ∀ (n d : Nat) (q : (Nat → Bool) × (Nat → Bool)) (v3 : Option Value), d + n = 10 → q = ri_fo (md_swo k) d (mdm M, mdd M) → ri_X sl sx 78 (2, [some (.ref 10), some (.int (nI k)), some (.int (nI d)), v3], [], rd_W C (md_W (mdD (mdM M q.1) q.2) r)) (.inl none, rd_W C (md_W (mdD (mdM M (md_sw M k).1) (md_sw M k).2) r), 0, 0) := by
    intro n
    induction n with
    | zero =>
      intro d q v3 hd hq
      have : d = 10 := by omega
      subst this
      have hq : q = md_sw M k := hq
      rw [← hq]
      repeat refine ri_X.s rfl rfl rfl ?_
      refine ri_X.bT rfl rfl (rx_geN (N := 10)) ?_
      exact ri_X.fin rfl rfl
    | succ n ih =>
      intro d q v3 hd hq
      obtain ⟨m, e⟩ := q
      have k1 := ih (d + 1) (rb_u m (10 * k + d) (e d), rb_u e d (m (10 * k + d))) (some (.int (rb_i (m (10 * k + d))))) (by omega) (by
        show _ = md_swo k d (ri_fo (md_swo k) d (mdm M, mdd M))
        rw [← hq]
        rfl)
      clear ih hq
      generalize ((.inl none, rd_W C (md_W (mdD (mdM M (md_sw M k).1) (md_sw M k).2) r), 0, 0) : ri_O) = o at k1 ⊢
      show ri_X sl sx 78 (2, [some (.ref 10), some (.int (nI k)), some (.int (nI d)), v3], [], rd_W C (md_W (mdD (mdM M m) e) r)) o
      have hd10 : d < 10 := by omega
      repeat refine ri_X.s rfl rfl rfl ?_
      refine ri_X.bF rfl rfl (rx_ge (N := 10) (hd10) rfl) ?_
      repeat refine ri_X.s rfl rfl rfl ?_
      refine ri_X.zldx (B := m) (nJ_m10 k d) rfl rfl (by omega) rfl ?_
      repeat refine ri_X.s rfl rfl rfl ?_
      refine ri_X.zld (B := e) rfl rfl hd10 rfl ?_
      refine ri_X.zstx (B := m) (e d) (nJ_m10 k d) rfl rfl rfl (by omega) rfl ?_
      rw [md_WM, mdMD, mdMM]
      repeat refine ri_X.s rfl rfl rfl ?_
      refine ri_X.zst (B := e) (m (10 * k + d)) rfl rfl rfl hd10 rfl ?_
      rw [md_WD, mdDD]
      repeat refine ri_X.sh 2 rfl rfl rfl rfl ?_
      exact ri_X.eq (by simp only [nI_succ]; try rfl) k1
  have k0 := main 10 0 (mdm M, mdd M) none rfl rfl
  rw [hq] at k0
  exact k0
theorem rn_order : ri_M sl sx 56 [.ref 10] (rd_W C (md_W M r)) (.inl none, rd_W C (md_W (md_ord M) r), 0, 0) := by
  unfold ri_M md_ord
  repeat refine ri_X.sh 2 rfl rfl rfl rfl ?_
  have l1 : ∀ o, ri_X sl sx 56 (2, [some (.ref 10), some (.int (nI 100)), none], [], rd_W C (md_W (mdS M (md_o1 (mdi M) (mds M))) r)) o → ri_X sl sx 56 (2, [some (.ref 10), some (.int (nI 0)), none], [], rd_W C (md_W M r)) o := by
    intro o k
    refine ri_loop (fun i S => (2, [some (.ref 10), some (.int (nI i)), none], [], rd_W C (md_W (mdS M S) r))) (fun k S => rb_u S k (decide (k % 11 = 0) || mdi M k)) 100 ?_ (a := mds M) k
    intro i S o hi k
    repeat refine ri_X.s rfl rfl rfl ?_
    refine ri_X.bF rfl rfl (rx_ge (N := 100) (hi) rfl) ?_
    repeat refine ri_X.s rfl rfl rfl ?_
    refine ri_X.br (b := decide (nI i - nI i / 11 * 11 = 0)) rfl rfl (fun h => ?_) (fun h => ?_)
    · rw [nJ_r11 i hi] at h
      repeat refine ri_X.s rfl rfl rfl ?_
      refine ri_X.zst (B := S) true rfl rfl rfl hi rfl ?_
      rw [md_WS, mdSS]
      repeat refine ri_X.sh 2 rfl rfl rfl rfl ?_
      exact ri_X.eq (by simp only [h, nI_succ, Bool.true_or]; try rfl) k
    · rw [nJ_r11 i hi] at h
      repeat refine ri_X.s rfl rfl rfl ?_
      refine ri_X.zld (B := mdi M) rfl rfl hi rfl ?_
      refine ri_X.ifz rfl rfl (fun h2 => ?_) (fun h2 => ?_)
      · repeat refine ri_X.s rfl rfl rfl ?_
        refine ri_X.zst (B := S) false rfl rfl rfl hi rfl ?_
        rw [md_WS, mdSS]
        repeat refine ri_X.sh 2 rfl rfl rfl rfl ?_
        exact ri_X.eq (by simp only [h, h2, nI_succ, Bool.or_false]; try rfl) k
      · repeat refine ri_X.s rfl rfl rfl ?_
        refine ri_X.zst (B := S) true rfl rfl rfl hi rfl ?_
        rw [md_WS, mdSS]
        repeat refine ri_X.sh 2 rfl rfl rfl rfl ?_
        exact ri_X.eq (by simp only [h, h2, nI_succ, Bool.or_true]; try rfl) k
  have l2 : ∀ (d : Nat) (v2 : Option Value) (S : Nat → Bool) (o : ri_O), d < 10 → ri_X sl sx 56 (43, [some (.ref 10), some (.int (nI (d + 1))), some (.int (nI 100))], [], rd_W C (md_W (mdS M (md_o2 d S)) r)) o → ri_X sl sx 56 (43, [some (.ref 10), some (.int (nI d)), v2], [], rd_W C (md_W (mdS M S) r)) o := by
    intro d v2 S o hd k
    repeat refine ri_X.s rfl rfl rfl ?_
    refine ri_X.bF rfl rfl (rx_ge (N := 10) (hd) rfl) ?_
    repeat refine ri_X.sh 51 rfl rfl rfl rfl ?_
    refine ri_loop (fun i S => (51, [some (.ref 10), some (.int (nI d)), some (.int (nI i))], [], rd_W C (md_W (mdS M S) r))) (md_o2o d) 100 ?_ (a := S) ?_
    · intro i S o hi k
      have b1 : i / 10 * 10 + d < 100 := by omega
      have b2 : 10 * d + i % 10 < 100 := by omega
      repeat refine ri_X.s rfl rfl rfl ?_
      refine ri_X.bF rfl rfl (rx_ge (N := 100) (hi) rfl) ?_
      repeat refine ri_X.s rfl rfl rfl ?_
      refine ri_X.zld (B := S) rfl rfl hi rfl ?_
      refine ri_X.ifn rfl rfl (fun h => ?_) (fun h => ?_)
      · repeat refine ri_X.s rfl rfl rfl ?_
        refine ri_X.zst (B := S) true rfl rfl rfl hi rfl ?_
        rw [md_WS, mdSS]
        repeat refine ri_X.sh 51 rfl rfl rfl rfl ?_
        exact ri_X.eq (by simp only [md_o2o, h, nI_succ, Bool.true_or]; try rfl) k
      · repeat refine ri_X.s rfl rfl rfl ?_
        refine ri_X.zldx (B := S) (nJ_d10 i hi d hd) rfl rfl b1 rfl ?_
        refine ri_X.ifz rfl rfl (fun h2 => ?_) (fun h2 => ?_)
        · repeat refine ri_X.s rfl rfl rfl ?_
          refine ri_X.zst (B := S) false rfl rfl rfl hi rfl ?_
          rw [md_WS, mdSS]
          repeat refine ri_X.sh 51 rfl rfl rfl rfl ?_
          exact ri_X.eq (by simp only [md_o2o, h, h2, nI_succ, Bool.false_and, Bool.or_false]; try rfl) k
        · repeat refine ri_X.s rfl rfl rfl ?_
          refine ri_X.zldx (B := S) (nJ_r10 i hi d hd) rfl rfl b2 rfl ?_
          refine ri_X.ifz rfl rfl (fun h3 => ?_) (fun h3 => ?_)
          · repeat refine ri_X.s rfl rfl rfl ?_
            refine ri_X.zst (B := S) false rfl rfl rfl hi rfl ?_
            rw [md_WS, mdSS]
            repeat refine ri_X.sh 51 rfl rfl rfl rfl ?_
            exact ri_X.eq (by simp only [md_o2o, h, h2, h3, nI_succ, Bool.and_false, Bool.or_false]; try rfl) k
          · repeat refine ri_X.s rfl rfl rfl ?_
            refine ri_X.zst (B := S) true rfl rfl rfl hi rfl ?_
            rw [md_WS, mdSS]
            repeat refine ri_X.sh 51 rfl rfl rfl rfl ?_
            exact ri_X.eq (by simp only [md_o2o, h, h2, h3, nI_succ, Bool.and_true, Bool.or_true]; try rfl) k
    · have e : ri_fo (md_o2o d) 100 S = md_o2 d S := rfl
      rw [e]
      generalize md_o2 d S = S2 at k
      repeat refine ri_X.s rfl rfl rfl ?_
      refine ri_X.bT rfl rfl (rx_geN (N := 100)) ?_
      repeat refine ri_X.sh 43 rfl rfl rfl rfl ?_
      exact ri_X.eq (by simp only [nI_succ]; try rfl) k
  refine l1 _ ?_
  unfold md_or
  generalize md_o1 (mdi M) (mds M) = S1
  repeat refine ri_X.s rfl rfl rfl ?_
  refine ri_X.bT rfl rfl (rx_geN (N := 100)) ?_
  repeat refine ri_X.sh 43 rfl rfl rfl rfl ?_
  have main : ∀ (n d : Nat) (v2 : Option Value) (S : Nat → Bool), d + n = 10 → S = ri_fo md_o2 d S1 → ri_X sl sx 56 (43, [some (.ref 10), some (.int (nI d)), v2], [], rd_W C (md_W (mdS M S) r)) (.inl none, rd_W C (md_W (mdS M (ri_fo md_o2 10 S1)) r), 0, 0) := by
    intro n
    induction n with
    | zero =>
      intro d v2 S hd hS
      have : d = 10 := by omega
      subst this
      rw [← hS]
      repeat refine ri_X.s rfl rfl rfl ?_
      refine ri_X.bT rfl rfl (rx_geN (N := 10)) ?_
      exact ri_X.fin rfl rfl
    | succ n ih =>
      intro d v2 S hd hS
      refine l2 d v2 S _ (by omega) ?_
      exact ih (d + 1) _ _ (by omega) (by rw [hS]; rfl)
  exact main 10 0 none S1 rfl rfl
theorem rn_settle {ow : Nat → Nat} (ho : ∀ s, s < 6 → decide (mdo M s < 0) = false → mdo M s = nI (ow s) ∧ ow s < 6) : ri_M sl sx 62 [.ref 10] (rd_W C (md_W M r)) (.inl none, rd_W C (md_W (md_set M ow) r), 0, 0) := by
  unfold ri_M md_set
  repeat refine ri_X.s rfl rfl rfl ?_
  refine ri_X.call0 rfl rfl rfl rfl rfl (rn_order) ?_
  have ho : ∀ s, s < 6 → decide (mdo (md_ord M) s < 0) = false → mdo (md_ord M) s = nI (ow s) ∧ ow s < 6 := ho
  have hv : mdv M = mdv (md_ord M) := rfl
  rw [hv]
  generalize md_ord M = N at ho
  repeat refine ri_X.sh 6 rfl rfl rfl rfl ?_
  have l2 : ∀ (d : Nat) (v2 : Option Value) (V : Nat → Bool) (o : ri_O), d < 6 → ri_X sl sx 62 (6, [some (.ref 10), some (.int (nI (d + 1))), some (.int (nI 10))], [], rd_W C (md_W (mdV N (ri_fo (md_seo N ow d) 10 V)) r)) o → ri_X sl sx 62 (6, [some (.ref 10), some (.int (nI d)), v2], [], rd_W C (md_W (mdV N V) r)) o := by
    intro d v2 V o hd k
    repeat refine ri_X.s rfl rfl rfl ?_
    refine ri_X.bF rfl rfl (rx_ge (N := 6) (hd) rfl) ?_
    repeat refine ri_X.sh 14 rfl rfl rfl rfl ?_
    refine ri_loop (fun i V => (14, [some (.ref 10), some (.int (nI d)), some (.int (nI i))], [], rd_W C (md_W (mdV N V) r))) (md_seo N ow d) 10 ?_ (a := V) ?_
    · intro i V o hi k
      have b1 : 10 * d + i < 60 := by omega
      repeat refine ri_X.s rfl rfl rfl ?_
      refine ri_X.bF rfl rfl (rx_ge (N := 10) (hi) rfl) ?_
      repeat refine ri_X.s rfl rfl rfl ?_
      refine ri_X.zldx (B := V) (nJ_m10 d i) rfl rfl b1 rfl ?_
      refine ri_X.ifz rfl rfl (fun h => ?_) (fun h => ?_)
      · repeat refine ri_X.s rfl rfl rfl ?_
        refine ri_X.zstx (B := V) false (nJ_m10 d i) rfl rfl rfl b1 rfl ?_
        rw [md_WV, mdVV]
        repeat refine ri_X.sh 14 rfl rfl rfl rfl ?_
        exact ri_X.eq (by simp only [md_seo, h, nI_succ, Bool.false_and]; try rfl) k
      · repeat refine ri_X.s rfl rfl rfl ?_
        refine ri_X.ald (f := mdo N) rfl rfl hd rfl ?_
        refine ri_X.br (b := decide (mdo N d < 0)) rfl rfl (fun h2 => ?_) (fun h2 => ?_)
        · repeat refine ri_X.s rfl rfl rfl ?_
          refine ri_X.zstx (B := V) false (nJ_m10 d i) rfl rfl rfl b1 rfl ?_
          rw [md_WV, mdVV]
          repeat refine ri_X.sh 14 rfl rfl rfl rfl ?_
          exact ri_X.eq (by simp only [md_seo, h, h2, nI_succ, Bool.not_true, Bool.false_and, Bool.and_false]; try rfl) k
        · repeat refine ri_X.s rfl rfl rfl ?_
          refine ri_X.ald (f := mdo N) rfl rfl hd rfl ?_
          rw [(ho d hd h2).1]
          repeat refine ri_X.s rfl rfl rfl ?_
          refine ri_X.call0 rfl rfl rfl rfl rfl (rn_auth (M := mdV N V) (ho d hd h2).2 hi) ?_
          refine ri_X.ifz rfl rfl (fun h3 => ?_) (fun h3 => ?_)
          · have h3 : md_au N (ow d) i = false := h3
            repeat refine ri_X.s rfl rfl rfl ?_
            refine ri_X.zstx (B := V) false (nJ_m10 d i) rfl rfl rfl b1 rfl ?_
            rw [md_WV, mdVV]
            repeat refine ri_X.sh 14 rfl rfl rfl rfl ?_
            exact ri_X.eq (by simp only [md_seo, h, h2, h3, nI_succ, Bool.and_false]; try rfl) k
          · have h3 : md_au N (ow d) i = true := h3
            repeat refine ri_X.s rfl rfl rfl ?_
            refine ri_X.zstx (B := V) true (nJ_m10 d i) rfl rfl rfl b1 rfl ?_
            rw [md_WV, mdVV]
            repeat refine ri_X.sh 14 rfl rfl rfl rfl ?_
            exact ri_X.eq (by simp only [md_seo, h, h2, h3, nI_succ, Bool.not_false, Bool.and_true]; try rfl) k
    · generalize ri_fo (md_seo N ow d) 10 V = V2 at k
      repeat refine ri_X.s rfl rfl rfl ?_
      refine ri_X.bT rfl rfl (rx_geN (N := 10)) ?_
      repeat refine ri_X.sh 6 rfl rfl rfl rfl ?_
      exact ri_X.eq (by simp only [nI_succ]; try rfl) k
  have main : ∀ (n d : Nat) (v2 : Option Value) (V : Nat → Bool), d + n = 6 → V = ri_fo (fun s V => ri_fo (md_seo N ow s) 10 V) d (mdv N) → ri_X sl sx 62 (6, [some (.ref 10), some (.int (nI d)), v2], [], rd_W C (md_W (mdV N V) r)) (.inl none, rd_W C (md_W (mdV N (md_seV N ow (mdv N))) r), 0, 0) := by
    intro n
    induction n with
    | zero =>
      intro d v2 V hd hV
      have : d = 6 := by omega
      subst this
      have hV : V = md_seV N ow (mdv N) := hV
      rw [← hV]
      repeat refine ri_X.s rfl rfl rfl ?_
      refine ri_X.bT rfl rfl (rx_geN (N := 6)) ?_
      exact ri_X.fin rfl rfl
    | succ n ih =>
      intro d v2 V hd hV
      refine l2 d v2 V _ (by omega) ?_
      exact ih (d + 1) _ _ (by omega) (by rw [hV]; rfl)
  exact main 6 0 none (mdv N) rfl rfl
end M43
