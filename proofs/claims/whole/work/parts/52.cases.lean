/-! One turn of the law's loop, by its case -/
def LW (sl : Nat) (sx : Nat → Int32) (m : Nat) (st : ri_St) : Prop := ∃ (w : ri_W) (c n : Nat), ri_X sl sx 124 st (.inl (some 1), w, c, n) ∧ c ≤ m ∧ n ≤ 6 * m
def lw_ag (Rel : rd_S → md_S → Prop) (cd : Nat → Int32) (C : rd_S) (X : rd_R) (q : Int32 × md_S) : Prop := match X with
  | .inl p => mdt q.2 = 0 ∧ q.1 = p.1 ∧ Rel p.2 q.2
  | .inr e => (¬ cd e = 0) ∧ mdt q.2 = cd e ∧ Rel C q.2
theorem lwp_1 (k : Nat) : nI k + 1 = nI (k + 1) := nJ_add k 1
theorem lwp_2 (k : Nat) : nI k + 2 = nI (k + 2) := nJ_add k 2
theorem lwp_3 (k : Nat) : nI k + 3 = nI (k + 3) := nJ_add k 3
theorem lw_cmp (f : Nat → Int64) (x : Int64) : lg_cmp (vp_updL f 0 x 0) x = 0 := by
  have e : vp_updL f 0 x 0 = x := by simp [vp_updL]
  rw [e]
  simp [lg_cmp]
theorem rx_eqT {x : Int32} : ri_cd .eq x x = true := decide_eq_true rfl
theorem rx_neT {x : Int32} (h : ¬ x = 0) : ri_cd .ne x 0 = true := decide_eq_true h
theorem rx_cmpT (f : Nat → Int64) (x : Int64) : ri_cd .eq (lg_cmp (vp_updL f 0 x 0) x) 0 = true := decide_eq_true (lw_cmp f x)
section L52
variable {sl : Nat} {sx : Nat → Int32} {C : rd_S} {M : md_S} {f : Nat → Int64} {w : ri_W} {X : rd_R} {q : Int32 × md_S} {Rel : rd_S → md_S → Prop} {k m : Nat} {v5 v6 : Option Value}
theorem ri_X.sldx {mi pc : Nat} {L : List (Option Value)} {r : List Value} {o : ri_O} {k : Nat} {x : Int32} (hx : x = nI k) (ha : ri_at mi pc = some .iaload) (hk : k < sl) (hn : sl < 2147483648) (kk : ri_X sl sx mi (pc + 1, L, .int (sx k) :: r, w) o) : ri_X sl sx mi (pc, L, .int x :: .ref 0 :: r, w) o := by
  subst hx
  exact ri_X.sld ha hk hn kk
theorem lw_k_addUser (hk : k + 4 ≤ sl) (hs : sl ≤ 2051) (hm : ri_M sl sx 1 [.ref 1] (rd_W C (md_W M (lw_o f))) (rd_oc (md_W M (lw_o f)) C X)) (hq : ∀ C f, ri_M sl sx 63 [.ref 10] (rd_W C (md_W M (lw_o f))) (md_oc (lw_o f) C q)) (hag : lw_ag Rel lw_cA C X q)
    (next : ∀ C M f v5 v6, Rel C M → LW sl sx m (1788, [some (.ref 0), some (.ref 1), some (.ref 10), some (.ref 23), some (.int (nI k)), v5, v6], [], rd_W C (md_W M (lw_o f)))) : LW sl sx (m + 1) (184, [some (.ref 0), some (.ref 1), some (.ref 10), some (.ref 23), some (.int (nI k)), v5, v6], [], rd_W C (md_W M (lw_o f))) := by
  have hw := lw_w_addUser  hm (fun e he => by subst he; exact hag.1)
  clear hm
  obtain ⟨q1, M2⟩ := q
  cases X with
  | inl p =>
    obtain ⟨v, C2⟩ := p
    obtain ⟨h1, h2, h3⟩ := hag
    have h1 : mdt M2 = 0 := h1
    have h2 : q1 = v := h2
    subst h2
    obtain ⟨w, c, n, hx, hc, hn⟩ := next C2 M2 (vp_updL f 0 q1.toInt64) (some (.int 0)) (some (.int q1)) h3
    refine ⟨w, c, n, ?_, by omega, by omega⟩
    clear next
    repeat refine ri_X.s rfl rfl rfl ?_
    refine ri_X.call0 rfl rfl rfl rfl rfl hw ?_
    repeat refine ri_X.s rfl rfl rfl ?_
    refine ri_X.call0 rfl rfl rfl rfl rfl (hq _ _) ?_
    repeat refine ri_X.s rfl rfl rfl ?_
    refine ri_X.call0 rfl rfl rfl rfl rfl rn_thrown ?_
    rw [h1]
    repeat refine ri_X.s rfl rfl rfl ?_
    refine ri_X.bT rfl rfl rx_eqT ?_
    repeat refine ri_X.s rfl rfl rfl ?_
    refine ri_X.bF rfl rfl rfl ?_
    repeat refine ri_X.s rfl rfl rfl ?_
    refine ri_X.bT rfl rfl (rx_cmpT f q1.toInt64) ?_
    repeat refine ri_X.sh 1788 rfl rfl rfl rfl ?_
    exact hx
  | inr e =>
    obtain ⟨h0, h1, h3⟩ := hag
    have h1 : mdt M2 = lw_cA e := h1
    obtain ⟨w, c, n, hx, hc, hn⟩ := next C M2 f (some (.int (lw_cA e))) (some (.int q1)) h3
    refine ⟨w, 1 + c, 6 + n, ?_, by omega, by omega⟩
    clear next
    unfold lw_oc at hw
    dsimp only at hw
    generalize lw_cA e = ce at hw h0 h1 hx ⊢
    repeat refine ri_X.s rfl rfl rfl ?_
    refine ri_X.call rfl rfl rfl rfl rfl hw ?_
    repeat refine ri_X.s rfl rfl rfl ?_
    refine ri_X.call0 rfl rfl rfl rfl rfl (hq _ _) ?_
    repeat refine ri_X.s rfl rfl rfl ?_
    refine ri_X.call0 rfl rfl rfl rfl rfl rn_thrown ?_
    rw [h1]
    repeat refine ri_X.s rfl rfl rfl ?_
    refine ri_X.bT rfl rfl rx_eqT ?_
    repeat refine ri_X.s rfl rfl rfl ?_
    refine ri_X.bT rfl rfl (rx_neT h0) ?_
    repeat refine ri_X.sh 1788 rfl rfl rfl rfl ?_
    exact hx
theorem lw_k_deleteUser (hk : k + 4 ≤ sl) (hs : sl ≤ 2051) (hm : ri_M sl sx 2 [.ref 1, .int (sx (k + 1))] (rd_W C (md_W M (lw_o f))) (rd_oc (md_W M (lw_o f)) C X)) (hq : ∀ C f, ri_M sl sx 64 [.ref 10, .int (sx (k + 1))] (rd_W C (md_W M (lw_o f))) (md_oc (lw_o f) C q)) (hag : lw_ag Rel lw_cB C X q)
    (next : ∀ C M f v5 v6, Rel C M → LW sl sx m (1788, [some (.ref 0), some (.ref 1), some (.ref 10), some (.ref 23), some (.int (nI k)), v5, v6], [], rd_W C (md_W M (lw_o f)))) : LW sl sx (m + 1) (228, [some (.ref 0), some (.ref 1), some (.ref 10), some (.ref 23), some (.int (nI k)), v5, v6], [], rd_W C (md_W M (lw_o f))) := by
  have hw := lw_w_deleteUser _ hm (fun e he => by subst he; exact hag.1)
  clear hm
  obtain ⟨q1, M2⟩ := q
  cases X with
  | inl p =>
    obtain ⟨v, C2⟩ := p
    obtain ⟨h1, h2, h3⟩ := hag
    have h1 : mdt M2 = 0 := h1
    have h2 : q1 = v := h2
    subst h2
    obtain ⟨w, c, n, hx, hc, hn⟩ := next C2 M2 (vp_updL f 0 q1.toInt64) (some (.int 0)) (some (.int q1)) h3
    refine ⟨w, c, n, ?_, by omega, by omega⟩
    clear next
    repeat refine ri_X.s rfl rfl rfl ?_
    refine ri_X.sldx (lwp_1 k) rfl (by omega) (by omega) ?_
    repeat refine ri_X.s rfl rfl rfl ?_
    refine ri_X.call0 rfl rfl rfl rfl rfl hw ?_
    repeat refine ri_X.s rfl rfl rfl ?_
    refine ri_X.sldx (lwp_1 k) rfl (by omega) (by omega) ?_
    repeat refine ri_X.s rfl rfl rfl ?_
    refine ri_X.call0 rfl rfl rfl rfl rfl (hq _ _) ?_
    repeat refine ri_X.s rfl rfl rfl ?_
    refine ri_X.call0 rfl rfl rfl rfl rfl rn_thrown ?_
    rw [h1]
    repeat refine ri_X.s rfl rfl rfl ?_
    refine ri_X.bT rfl rfl rx_eqT ?_
    repeat refine ri_X.s rfl rfl rfl ?_
    refine ri_X.bF rfl rfl rfl ?_
    repeat refine ri_X.s rfl rfl rfl ?_
    refine ri_X.bT rfl rfl (rx_cmpT f q1.toInt64) ?_
    repeat refine ri_X.sh 1788 rfl rfl rfl rfl ?_
    exact hx
  | inr e =>
    obtain ⟨h0, h1, h3⟩ := hag
    have h1 : mdt M2 = lw_cB e := h1
    obtain ⟨w, c, n, hx, hc, hn⟩ := next C M2 f (some (.int (lw_cB e))) (some (.int q1)) h3
    refine ⟨w, 1 + c, 6 + n, ?_, by omega, by omega⟩
    clear next
    unfold lw_oc at hw
    dsimp only at hw
    generalize lw_cB e = ce at hw h0 h1 hx ⊢
    repeat refine ri_X.s rfl rfl rfl ?_
    refine ri_X.sldx (lwp_1 k) rfl (by omega) (by omega) ?_
    repeat refine ri_X.s rfl rfl rfl ?_
    refine ri_X.call rfl rfl rfl rfl rfl hw ?_
    repeat refine ri_X.s rfl rfl rfl ?_
    refine ri_X.sldx (lwp_1 k) rfl (by omega) (by omega) ?_
    repeat refine ri_X.s rfl rfl rfl ?_
    refine ri_X.call0 rfl rfl rfl rfl rfl (hq _ _) ?_
    repeat refine ri_X.s rfl rfl rfl ?_
    refine ri_X.call0 rfl rfl rfl rfl rfl rn_thrown ?_
    rw [h1]
    repeat refine ri_X.s rfl rfl rfl ?_
    refine ri_X.bT rfl rfl rx_eqT ?_
    repeat refine ri_X.s rfl rfl rfl ?_
    refine ri_X.bT rfl rfl (rx_neT h0) ?_
    repeat refine ri_X.sh 1788 rfl rfl rfl rfl ?_
    exact hx
theorem lw_k_addRole (hk : k + 4 ≤ sl) (hs : sl ≤ 2051) (hm : ri_M sl sx 3 [.ref 1] (rd_W C (md_W M (lw_o f))) (rd_oc (md_W M (lw_o f)) C X)) (hq : ∀ C f, ri_M sl sx 65 [.ref 10] (rd_W C (md_W M (lw_o f))) (md_oc (lw_o f) C q)) (hag : lw_ag Rel lw_cA C X q)
    (next : ∀ C M f v5 v6, Rel C M → LW sl sx m (1788, [some (.ref 0), some (.ref 1), some (.ref 10), some (.ref 23), some (.int (nI k)), v5, v6], [], rd_W C (md_W M (lw_o f)))) : LW sl sx (m + 1) (284, [some (.ref 0), some (.ref 1), some (.ref 10), some (.ref 23), some (.int (nI k)), v5, v6], [], rd_W C (md_W M (lw_o f))) := by
  have hw := lw_w_addRole  hm (fun e he => by subst he; exact hag.1)
  clear hm
  obtain ⟨q1, M2⟩ := q
  cases X with
  | inl p =>
    obtain ⟨v, C2⟩ := p
    obtain ⟨h1, h2, h3⟩ := hag
    have h1 : mdt M2 = 0 := h1
    have h2 : q1 = v := h2
    subst h2
    obtain ⟨w, c, n, hx, hc, hn⟩ := next C2 M2 (vp_updL f 0 q1.toInt64) (some (.int 0)) (some (.int q1)) h3
    refine ⟨w, c, n, ?_, by omega, by omega⟩
    clear next
    repeat refine ri_X.s rfl rfl rfl ?_
    refine ri_X.call0 rfl rfl rfl rfl rfl hw ?_
    repeat refine ri_X.s rfl rfl rfl ?_
    refine ri_X.call0 rfl rfl rfl rfl rfl (hq _ _) ?_
    repeat refine ri_X.s rfl rfl rfl ?_
    refine ri_X.call0 rfl rfl rfl rfl rfl rn_thrown ?_
    rw [h1]
    repeat refine ri_X.s rfl rfl rfl ?_
    refine ri_X.bT rfl rfl rx_eqT ?_
    repeat refine ri_X.s rfl rfl rfl ?_
    refine ri_X.bF rfl rfl rfl ?_
    repeat refine ri_X.s rfl rfl rfl ?_
    refine ri_X.bT rfl rfl (rx_cmpT f q1.toInt64) ?_
    repeat refine ri_X.sh 1788 rfl rfl rfl rfl ?_
    exact hx
  | inr e =>
    obtain ⟨h0, h1, h3⟩ := hag
    have h1 : mdt M2 = lw_cA e := h1
    obtain ⟨w, c, n, hx, hc, hn⟩ := next C M2 f (some (.int (lw_cA e))) (some (.int q1)) h3
    refine ⟨w, 1 + c, 6 + n, ?_, by omega, by omega⟩
    clear next
    unfold lw_oc at hw
    dsimp only at hw
    generalize lw_cA e = ce at hw h0 h1 hx ⊢
    repeat refine ri_X.s rfl rfl rfl ?_
    refine ri_X.call rfl rfl rfl rfl rfl hw ?_
    repeat refine ri_X.s rfl rfl rfl ?_
    refine ri_X.call0 rfl rfl rfl rfl rfl (hq _ _) ?_
    repeat refine ri_X.s rfl rfl rfl ?_
    refine ri_X.call0 rfl rfl rfl rfl rfl rn_thrown ?_
    rw [h1]
    repeat refine ri_X.s rfl rfl rfl ?_
    refine ri_X.bT rfl rfl rx_eqT ?_
    repeat refine ri_X.s rfl rfl rfl ?_
    refine ri_X.bT rfl rfl (rx_neT h0) ?_
    repeat refine ri_X.sh 1788 rfl rfl rfl rfl ?_
    exact hx
theorem lw_k_deleteRole (hk : k + 4 ≤ sl) (hs : sl ≤ 2051) (hm : ri_M sl sx 4 [.ref 1, .int (sx (k + 1))] (rd_W C (md_W M (lw_o f))) (rd_oc (md_W M (lw_o f)) C X)) (hq : ∀ C f, ri_M sl sx 67 [.ref 10, .int (sx (k + 1))] (rd_W C (md_W M (lw_o f))) (md_oc (lw_o f) C q)) (hag : lw_ag Rel lw_cB C X q)
    (next : ∀ C M f v5 v6, Rel C M → LW sl sx m (1788, [some (.ref 0), some (.ref 1), some (.ref 10), some (.ref 23), some (.int (nI k)), v5, v6], [], rd_W C (md_W M (lw_o f)))) : LW sl sx (m + 1) (328, [some (.ref 0), some (.ref 1), some (.ref 10), some (.ref 23), some (.int (nI k)), v5, v6], [], rd_W C (md_W M (lw_o f))) := by
  have hw := lw_w_deleteRole _ hm (fun e he => by subst he; exact hag.1)
  clear hm
  obtain ⟨q1, M2⟩ := q
  cases X with
  | inl p =>
    obtain ⟨v, C2⟩ := p
    obtain ⟨h1, h2, h3⟩ := hag
    have h1 : mdt M2 = 0 := h1
    have h2 : q1 = v := h2
    subst h2
    obtain ⟨w, c, n, hx, hc, hn⟩ := next C2 M2 (vp_updL f 0 q1.toInt64) (some (.int 0)) (some (.int q1)) h3
    refine ⟨w, c, n, ?_, by omega, by omega⟩
    clear next
    repeat refine ri_X.s rfl rfl rfl ?_
    refine ri_X.sldx (lwp_1 k) rfl (by omega) (by omega) ?_
    repeat refine ri_X.s rfl rfl rfl ?_
    refine ri_X.call0 rfl rfl rfl rfl rfl hw ?_
    repeat refine ri_X.s rfl rfl rfl ?_
    refine ri_X.sldx (lwp_1 k) rfl (by omega) (by omega) ?_
    repeat refine ri_X.s rfl rfl rfl ?_
    refine ri_X.call0 rfl rfl rfl rfl rfl (hq _ _) ?_
    repeat refine ri_X.s rfl rfl rfl ?_
    refine ri_X.call0 rfl rfl rfl rfl rfl rn_thrown ?_
    rw [h1]
    repeat refine ri_X.s rfl rfl rfl ?_
    refine ri_X.bT rfl rfl rx_eqT ?_
    repeat refine ri_X.s rfl rfl rfl ?_
    refine ri_X.bF rfl rfl rfl ?_
    repeat refine ri_X.s rfl rfl rfl ?_
    refine ri_X.bT rfl rfl (rx_cmpT f q1.toInt64) ?_
    repeat refine ri_X.sh 1788 rfl rfl rfl rfl ?_
    exact hx
  | inr e =>
    obtain ⟨h0, h1, h3⟩ := hag
    have h1 : mdt M2 = lw_cB e := h1
    obtain ⟨w, c, n, hx, hc, hn⟩ := next C M2 f (some (.int (lw_cB e))) (some (.int q1)) h3
    refine ⟨w, 1 + c, 6 + n, ?_, by omega, by omega⟩
    clear next
    unfold lw_oc at hw
    dsimp only at hw
    generalize lw_cB e = ce at hw h0 h1 hx ⊢
    repeat refine ri_X.s rfl rfl rfl ?_
    refine ri_X.sldx (lwp_1 k) rfl (by omega) (by omega) ?_
    repeat refine ri_X.s rfl rfl rfl ?_
    refine ri_X.call rfl rfl rfl rfl rfl hw ?_
    repeat refine ri_X.s rfl rfl rfl ?_
    refine ri_X.sldx (lwp_1 k) rfl (by omega) (by omega) ?_
    repeat refine ri_X.s rfl rfl rfl ?_
    refine ri_X.call0 rfl rfl rfl rfl rfl (hq _ _) ?_
    repeat refine ri_X.s rfl rfl rfl ?_
    refine ri_X.call0 rfl rfl rfl rfl rfl rn_thrown ?_
    rw [h1]
    repeat refine ri_X.s rfl rfl rfl ?_
    refine ri_X.bT rfl rfl rx_eqT ?_
    repeat refine ri_X.s rfl rfl rfl ?_
    refine ri_X.bT rfl rfl (rx_neT h0) ?_
    repeat refine ri_X.sh 1788 rfl rfl rfl rfl ?_
    exact hx
theorem lw_k_assign (hk : k + 4 ≤ sl) (hs : sl ≤ 2051) (hm : ri_M sl sx 5 [.ref 1, .int (sx (k + 1)), .int (sx (k + 2))] (rd_W C (md_W M (lw_o f))) (rd_oc (md_W M (lw_o f)) C X)) (hq : ∀ C f, ri_M sl sx 69 [.ref 10, .int (sx (k + 1)), .int (sx (k + 2))] (rd_W C (md_W M (lw_o f))) (md_oc (lw_o f) C q)) (hag : lw_ag Rel lw_cC C X q)
    (next : ∀ C M f v5 v6, Rel C M → LW sl sx m (1788, [some (.ref 0), some (.ref 1), some (.ref 10), some (.ref 23), some (.int (nI k)), v5, v6], [], rd_W C (md_W M (lw_o f)))) : LW sl sx (m + 1) (384, [some (.ref 0), some (.ref 1), some (.ref 10), some (.ref 23), some (.int (nI k)), v5, v6], [], rd_W C (md_W M (lw_o f))) := by
  have hw := lw_w_assign _ _ hm (fun e he => by subst he; exact hag.1)
  clear hm
  obtain ⟨q1, M2⟩ := q
  cases X with
  | inl p =>
    obtain ⟨v, C2⟩ := p
    obtain ⟨h1, h2, h3⟩ := hag
    have h1 : mdt M2 = 0 := h1
    have h2 : q1 = v := h2
    subst h2
    obtain ⟨w, c, n, hx, hc, hn⟩ := next C2 M2 (vp_updL f 0 q1.toInt64) (some (.int 0)) (some (.int q1)) h3
    refine ⟨w, c, n, ?_, by omega, by omega⟩
    clear next
    repeat refine ri_X.s rfl rfl rfl ?_
    refine ri_X.sldx (lwp_1 k) rfl (by omega) (by omega) ?_
    repeat refine ri_X.s rfl rfl rfl ?_
    refine ri_X.sldx (lwp_2 k) rfl (by omega) (by omega) ?_
    repeat refine ri_X.s rfl rfl rfl ?_
    refine ri_X.call0 rfl rfl rfl rfl rfl hw ?_
    repeat refine ri_X.s rfl rfl rfl ?_
    refine ri_X.sldx (lwp_1 k) rfl (by omega) (by omega) ?_
    repeat refine ri_X.s rfl rfl rfl ?_
    refine ri_X.sldx (lwp_2 k) rfl (by omega) (by omega) ?_
    repeat refine ri_X.s rfl rfl rfl ?_
    refine ri_X.call0 rfl rfl rfl rfl rfl (hq _ _) ?_
    repeat refine ri_X.s rfl rfl rfl ?_
    refine ri_X.call0 rfl rfl rfl rfl rfl rn_thrown ?_
    rw [h1]
    repeat refine ri_X.s rfl rfl rfl ?_
    refine ri_X.bT rfl rfl rx_eqT ?_
    repeat refine ri_X.s rfl rfl rfl ?_
    refine ri_X.bF rfl rfl rfl ?_
    repeat refine ri_X.s rfl rfl rfl ?_
    refine ri_X.bT rfl rfl (rx_cmpT f q1.toInt64) ?_
    repeat refine ri_X.sh 1788 rfl rfl rfl rfl ?_
    exact hx
  | inr e =>
    obtain ⟨h0, h1, h3⟩ := hag
    have h1 : mdt M2 = lw_cC e := h1
    obtain ⟨w, c, n, hx, hc, hn⟩ := next C M2 f (some (.int (lw_cC e))) (some (.int q1)) h3
    refine ⟨w, 1 + c, 6 + n, ?_, by omega, by omega⟩
    clear next
    unfold lw_oc at hw
    dsimp only at hw
    generalize lw_cC e = ce at hw h0 h1 hx ⊢
    repeat refine ri_X.s rfl rfl rfl ?_
    refine ri_X.sldx (lwp_1 k) rfl (by omega) (by omega) ?_
    repeat refine ri_X.s rfl rfl rfl ?_
    refine ri_X.sldx (lwp_2 k) rfl (by omega) (by omega) ?_
    repeat refine ri_X.s rfl rfl rfl ?_
    refine ri_X.call rfl rfl rfl rfl rfl hw ?_
    repeat refine ri_X.s rfl rfl rfl ?_
    refine ri_X.sldx (lwp_1 k) rfl (by omega) (by omega) ?_
    repeat refine ri_X.s rfl rfl rfl ?_
    refine ri_X.sldx (lwp_2 k) rfl (by omega) (by omega) ?_
    repeat refine ri_X.s rfl rfl rfl ?_
    refine ri_X.call0 rfl rfl rfl rfl rfl (hq _ _) ?_
    repeat refine ri_X.s rfl rfl rfl ?_
    refine ri_X.call0 rfl rfl rfl rfl rfl rn_thrown ?_
    rw [h1]
    repeat refine ri_X.s rfl rfl rfl ?_
    refine ri_X.bT rfl rfl rx_eqT ?_
    repeat refine ri_X.s rfl rfl rfl ?_
    refine ri_X.bT rfl rfl (rx_neT h0) ?_
    repeat refine ri_X.sh 1788 rfl rfl rfl rfl ?_
    exact hx
theorem lw_k_deassign (hk : k + 4 ≤ sl) (hs : sl ≤ 2051) (hm : ri_M sl sx 6 [.ref 1, .int (sx (k + 1)), .int (sx (k + 2))] (rd_W C (md_W M (lw_o f))) (rd_oc (md_W M (lw_o f)) C X)) (hq : ∀ C f, ri_M sl sx 70 [.ref 10, .int (sx (k + 1)), .int (sx (k + 2))] (rd_W C (md_W M (lw_o f))) (md_oc (lw_o f) C q)) (hag : lw_ag Rel lw_cC C X q)
    (next : ∀ C M f v5 v6, Rel C M → LW sl sx m (1788, [some (.ref 0), some (.ref 1), some (.ref 10), some (.ref 23), some (.int (nI k)), v5, v6], [], rd_W C (md_W M (lw_o f)))) : LW sl sx (m + 1) (452, [some (.ref 0), some (.ref 1), some (.ref 10), some (.ref 23), some (.int (nI k)), v5, v6], [], rd_W C (md_W M (lw_o f))) := by
  have hw := lw_w_deassign _ _ hm (fun e he => by subst he; exact hag.1)
  clear hm
  obtain ⟨q1, M2⟩ := q
  cases X with
  | inl p =>
    obtain ⟨v, C2⟩ := p
    obtain ⟨h1, h2, h3⟩ := hag
    have h1 : mdt M2 = 0 := h1
    have h2 : q1 = v := h2
    subst h2
    obtain ⟨w, c, n, hx, hc, hn⟩ := next C2 M2 (vp_updL f 0 q1.toInt64) (some (.int 0)) (some (.int q1)) h3
    refine ⟨w, c, n, ?_, by omega, by omega⟩
    clear next
    repeat refine ri_X.s rfl rfl rfl ?_
    refine ri_X.sldx (lwp_1 k) rfl (by omega) (by omega) ?_
    repeat refine ri_X.s rfl rfl rfl ?_
    refine ri_X.sldx (lwp_2 k) rfl (by omega) (by omega) ?_
    repeat refine ri_X.s rfl rfl rfl ?_
    refine ri_X.call0 rfl rfl rfl rfl rfl hw ?_
    repeat refine ri_X.s rfl rfl rfl ?_
    refine ri_X.sldx (lwp_1 k) rfl (by omega) (by omega) ?_
    repeat refine ri_X.s rfl rfl rfl ?_
    refine ri_X.sldx (lwp_2 k) rfl (by omega) (by omega) ?_
    repeat refine ri_X.s rfl rfl rfl ?_
    refine ri_X.call0 rfl rfl rfl rfl rfl (hq _ _) ?_
    repeat refine ri_X.s rfl rfl rfl ?_
    refine ri_X.call0 rfl rfl rfl rfl rfl rn_thrown ?_
    rw [h1]
    repeat refine ri_X.s rfl rfl rfl ?_
    refine ri_X.bT rfl rfl rx_eqT ?_
    repeat refine ri_X.s rfl rfl rfl ?_
    refine ri_X.bF rfl rfl rfl ?_
    repeat refine ri_X.s rfl rfl rfl ?_
    refine ri_X.bT rfl rfl (rx_cmpT f q1.toInt64) ?_
    repeat refine ri_X.sh 1788 rfl rfl rfl rfl ?_
    exact hx
  | inr e =>
    obtain ⟨h0, h1, h3⟩ := hag
    have h1 : mdt M2 = lw_cC e := h1
    obtain ⟨w, c, n, hx, hc, hn⟩ := next C M2 f (some (.int (lw_cC e))) (some (.int q1)) h3
    refine ⟨w, 1 + c, 6 + n, ?_, by omega, by omega⟩
    clear next
    unfold lw_oc at hw
    dsimp only at hw
    generalize lw_cC e = ce at hw h0 h1 hx ⊢
    repeat refine ri_X.s rfl rfl rfl ?_
    refine ri_X.sldx (lwp_1 k) rfl (by omega) (by omega) ?_
    repeat refine ri_X.s rfl rfl rfl ?_
    refine ri_X.sldx (lwp_2 k) rfl (by omega) (by omega) ?_
    repeat refine ri_X.s rfl rfl rfl ?_
    refine ri_X.call rfl rfl rfl rfl rfl hw ?_
    repeat refine ri_X.s rfl rfl rfl ?_
    refine ri_X.sldx (lwp_1 k) rfl (by omega) (by omega) ?_
    repeat refine ri_X.s rfl rfl rfl ?_
    refine ri_X.sldx (lwp_2 k) rfl (by omega) (by omega) ?_
    repeat refine ri_X.s rfl rfl rfl ?_
    refine ri_X.call0 rfl rfl rfl rfl rfl (hq _ _) ?_
    repeat refine ri_X.s rfl rfl rfl ?_
    refine ri_X.call0 rfl rfl rfl rfl rfl rn_thrown ?_
    rw [h1]
    repeat refine ri_X.s rfl rfl rfl ?_
    refine ri_X.bT rfl rfl rx_eqT ?_
    repeat refine ri_X.s rfl rfl rfl ?_
    refine ri_X.bT rfl rfl (rx_neT h0) ?_
    repeat refine ri_X.sh 1788 rfl rfl rfl rfl ?_
    exact hx
theorem lw_k_grant (hk : k + 4 ≤ sl) (hs : sl ≤ 2051) (hm : ri_M sl sx 7 [.ref 1, .int (sx (k + 1)), .int (sx (k + 2))] (rd_W C (md_W M (lw_o f))) (rd_oc (md_W M (lw_o f)) C X)) (hq : ∀ C f, ri_M sl sx 72 [.ref 10, .int (sx (k + 1)), .int (sx (k + 2))] (rd_W C (md_W M (lw_o f))) (md_oc (lw_o f) C q)) (hag : lw_ag Rel lw_cC C X q)
    (next : ∀ C M f v5 v6, Rel C M → LW sl sx m (1788, [some (.ref 0), some (.ref 1), some (.ref 10), some (.ref 23), some (.int (nI k)), v5, v6], [], rd_W C (md_W M (lw_o f)))) : LW sl sx (m + 1) (520, [some (.ref 0), some (.ref 1), some (.ref 10), some (.ref 23), some (.int (nI k)), v5, v6], [], rd_W C (md_W M (lw_o f))) := by
  have hw := lw_w_grant _ _ hm (fun e he => by subst he; exact hag.1)
  clear hm
  obtain ⟨q1, M2⟩ := q
  cases X with
  | inl p =>
    obtain ⟨v, C2⟩ := p
    obtain ⟨h1, h2, h3⟩ := hag
    have h1 : mdt M2 = 0 := h1
    have h2 : q1 = v := h2
    subst h2
    obtain ⟨w, c, n, hx, hc, hn⟩ := next C2 M2 (vp_updL f 0 q1.toInt64) (some (.int 0)) (some (.int q1)) h3
    refine ⟨w, c, n, ?_, by omega, by omega⟩
    clear next
    repeat refine ri_X.s rfl rfl rfl ?_
    refine ri_X.sldx (lwp_1 k) rfl (by omega) (by omega) ?_
    repeat refine ri_X.s rfl rfl rfl ?_
    refine ri_X.sldx (lwp_2 k) rfl (by omega) (by omega) ?_
    repeat refine ri_X.s rfl rfl rfl ?_
    refine ri_X.call0 rfl rfl rfl rfl rfl hw ?_
    repeat refine ri_X.s rfl rfl rfl ?_
    refine ri_X.sldx (lwp_1 k) rfl (by omega) (by omega) ?_
    repeat refine ri_X.s rfl rfl rfl ?_
    refine ri_X.sldx (lwp_2 k) rfl (by omega) (by omega) ?_
    repeat refine ri_X.s rfl rfl rfl ?_
    refine ri_X.call0 rfl rfl rfl rfl rfl (hq _ _) ?_
    repeat refine ri_X.s rfl rfl rfl ?_
    refine ri_X.call0 rfl rfl rfl rfl rfl rn_thrown ?_
    rw [h1]
    repeat refine ri_X.s rfl rfl rfl ?_
    refine ri_X.bT rfl rfl rx_eqT ?_
    repeat refine ri_X.s rfl rfl rfl ?_
    refine ri_X.bF rfl rfl rfl ?_
    repeat refine ri_X.s rfl rfl rfl ?_
    refine ri_X.bT rfl rfl (rx_cmpT f q1.toInt64) ?_
    repeat refine ri_X.sh 1788 rfl rfl rfl rfl ?_
    exact hx
  | inr e =>
    obtain ⟨h0, h1, h3⟩ := hag
    have h1 : mdt M2 = lw_cC e := h1
    obtain ⟨w, c, n, hx, hc, hn⟩ := next C M2 f (some (.int (lw_cC e))) (some (.int q1)) h3
    refine ⟨w, 1 + c, 6 + n, ?_, by omega, by omega⟩
    clear next
    unfold lw_oc at hw
    dsimp only at hw
    generalize lw_cC e = ce at hw h0 h1 hx ⊢
    repeat refine ri_X.s rfl rfl rfl ?_
    refine ri_X.sldx (lwp_1 k) rfl (by omega) (by omega) ?_
    repeat refine ri_X.s rfl rfl rfl ?_
    refine ri_X.sldx (lwp_2 k) rfl (by omega) (by omega) ?_
    repeat refine ri_X.s rfl rfl rfl ?_
    refine ri_X.call rfl rfl rfl rfl rfl hw ?_
    repeat refine ri_X.s rfl rfl rfl ?_
    refine ri_X.sldx (lwp_1 k) rfl (by omega) (by omega) ?_
    repeat refine ri_X.s rfl rfl rfl ?_
    refine ri_X.sldx (lwp_2 k) rfl (by omega) (by omega) ?_
    repeat refine ri_X.s rfl rfl rfl ?_
    refine ri_X.call0 rfl rfl rfl rfl rfl (hq _ _) ?_
    repeat refine ri_X.s rfl rfl rfl ?_
    refine ri_X.call0 rfl rfl rfl rfl rfl rn_thrown ?_
    rw [h1]
    repeat refine ri_X.s rfl rfl rfl ?_
    refine ri_X.bT rfl rfl rx_eqT ?_
    repeat refine ri_X.s rfl rfl rfl ?_
    refine ri_X.bT rfl rfl (rx_neT h0) ?_
    repeat refine ri_X.sh 1788 rfl rfl rfl rfl ?_
    exact hx
theorem lw_k_revoke (hk : k + 4 ≤ sl) (hs : sl ≤ 2051) (hm : ri_M sl sx 8 [.ref 1, .int (sx (k + 1)), .int (sx (k + 2))] (rd_W C (md_W M (lw_o f))) (rd_oc (md_W M (lw_o f)) C X)) (hq : ∀ C f, ri_M sl sx 73 [.ref 10, .int (sx (k + 1)), .int (sx (k + 2))] (rd_W C (md_W M (lw_o f))) (md_oc (lw_o f) C q)) (hag : lw_ag Rel lw_cC C X q)
    (next : ∀ C M f v5 v6, Rel C M → LW sl sx m (1788, [some (.ref 0), some (.ref 1), some (.ref 10), some (.ref 23), some (.int (nI k)), v5, v6], [], rd_W C (md_W M (lw_o f)))) : LW sl sx (m + 1) (588, [some (.ref 0), some (.ref 1), some (.ref 10), some (.ref 23), some (.int (nI k)), v5, v6], [], rd_W C (md_W M (lw_o f))) := by
  have hw := lw_w_revoke _ _ hm (fun e he => by subst he; exact hag.1)
  clear hm
  obtain ⟨q1, M2⟩ := q
  cases X with
  | inl p =>
    obtain ⟨v, C2⟩ := p
    obtain ⟨h1, h2, h3⟩ := hag
    have h1 : mdt M2 = 0 := h1
    have h2 : q1 = v := h2
    subst h2
    obtain ⟨w, c, n, hx, hc, hn⟩ := next C2 M2 (vp_updL f 0 q1.toInt64) (some (.int 0)) (some (.int q1)) h3
    refine ⟨w, c, n, ?_, by omega, by omega⟩
    clear next
    repeat refine ri_X.s rfl rfl rfl ?_
    refine ri_X.sldx (lwp_1 k) rfl (by omega) (by omega) ?_
    repeat refine ri_X.s rfl rfl rfl ?_
    refine ri_X.sldx (lwp_2 k) rfl (by omega) (by omega) ?_
    repeat refine ri_X.s rfl rfl rfl ?_
    refine ri_X.call0 rfl rfl rfl rfl rfl hw ?_
    repeat refine ri_X.s rfl rfl rfl ?_
    refine ri_X.sldx (lwp_1 k) rfl (by omega) (by omega) ?_
    repeat refine ri_X.s rfl rfl rfl ?_
    refine ri_X.sldx (lwp_2 k) rfl (by omega) (by omega) ?_
    repeat refine ri_X.s rfl rfl rfl ?_
    refine ri_X.call0 rfl rfl rfl rfl rfl (hq _ _) ?_
    repeat refine ri_X.s rfl rfl rfl ?_
    refine ri_X.call0 rfl rfl rfl rfl rfl rn_thrown ?_
    rw [h1]
    repeat refine ri_X.s rfl rfl rfl ?_
    refine ri_X.bT rfl rfl rx_eqT ?_
    repeat refine ri_X.s rfl rfl rfl ?_
    refine ri_X.bF rfl rfl rfl ?_
    repeat refine ri_X.s rfl rfl rfl ?_
    refine ri_X.bT rfl rfl (rx_cmpT f q1.toInt64) ?_
    repeat refine ri_X.sh 1788 rfl rfl rfl rfl ?_
    exact hx
  | inr e =>
    obtain ⟨h0, h1, h3⟩ := hag
    have h1 : mdt M2 = lw_cC e := h1
    obtain ⟨w, c, n, hx, hc, hn⟩ := next C M2 f (some (.int (lw_cC e))) (some (.int q1)) h3
    refine ⟨w, 1 + c, 6 + n, ?_, by omega, by omega⟩
    clear next
    unfold lw_oc at hw
    dsimp only at hw
    generalize lw_cC e = ce at hw h0 h1 hx ⊢
    repeat refine ri_X.s rfl rfl rfl ?_
    refine ri_X.sldx (lwp_1 k) rfl (by omega) (by omega) ?_
    repeat refine ri_X.s rfl rfl rfl ?_
    refine ri_X.sldx (lwp_2 k) rfl (by omega) (by omega) ?_
    repeat refine ri_X.s rfl rfl rfl ?_
    refine ri_X.call rfl rfl rfl rfl rfl hw ?_
    repeat refine ri_X.s rfl rfl rfl ?_
    refine ri_X.sldx (lwp_1 k) rfl (by omega) (by omega) ?_
    repeat refine ri_X.s rfl rfl rfl ?_
    refine ri_X.sldx (lwp_2 k) rfl (by omega) (by omega) ?_
    repeat refine ri_X.s rfl rfl rfl ?_
    refine ri_X.call0 rfl rfl rfl rfl rfl (hq _ _) ?_
    repeat refine ri_X.s rfl rfl rfl ?_
    refine ri_X.call0 rfl rfl rfl rfl rfl rn_thrown ?_
    rw [h1]
    repeat refine ri_X.s rfl rfl rfl ?_
    refine ri_X.bT rfl rfl rx_eqT ?_
    repeat refine ri_X.s rfl rfl rfl ?_
    refine ri_X.bT rfl rfl (rx_neT h0) ?_
    repeat refine ri_X.sh 1788 rfl rfl rfl rfl ?_
    exact hx
theorem lw_k_inherit (hk : k + 4 ≤ sl) (hs : sl ≤ 2051) (hm : ri_M sl sx 9 [.ref 1, .int (sx (k + 1)), .int (sx (k + 2))] (rd_W C (md_W M (lw_o f))) (rd_oc (md_W M (lw_o f)) C X)) (hq : ∀ C f, ri_M sl sx 75 [.ref 10, .int (sx (k + 1)), .int (sx (k + 2))] (rd_W C (md_W M (lw_o f))) (md_oc (lw_o f) C q)) (hag : lw_ag Rel lw_cC C X q)
    (next : ∀ C M f v5 v6, Rel C M → LW sl sx m (1788, [some (.ref 0), some (.ref 1), some (.ref 10), some (.ref 23), some (.int (nI k)), v5, v6], [], rd_W C (md_W M (lw_o f)))) : LW sl sx (m + 1) (656, [some (.ref 0), some (.ref 1), some (.ref 10), some (.ref 23), some (.int (nI k)), v5, v6], [], rd_W C (md_W M (lw_o f))) := by
  have hw := lw_w_inherit _ _ hm (fun e he => by subst he; exact hag.1)
  clear hm
  obtain ⟨q1, M2⟩ := q
  cases X with
  | inl p =>
    obtain ⟨v, C2⟩ := p
    obtain ⟨h1, h2, h3⟩ := hag
    have h1 : mdt M2 = 0 := h1
    have h2 : q1 = v := h2
    subst h2
    obtain ⟨w, c, n, hx, hc, hn⟩ := next C2 M2 (vp_updL f 0 q1.toInt64) (some (.int 0)) (some (.int q1)) h3
    refine ⟨w, c, n, ?_, by omega, by omega⟩
    clear next
    repeat refine ri_X.s rfl rfl rfl ?_
    refine ri_X.sldx (lwp_1 k) rfl (by omega) (by omega) ?_
    repeat refine ri_X.s rfl rfl rfl ?_
    refine ri_X.sldx (lwp_2 k) rfl (by omega) (by omega) ?_
    repeat refine ri_X.s rfl rfl rfl ?_
    refine ri_X.call0 rfl rfl rfl rfl rfl hw ?_
    repeat refine ri_X.s rfl rfl rfl ?_
    refine ri_X.sldx (lwp_1 k) rfl (by omega) (by omega) ?_
    repeat refine ri_X.s rfl rfl rfl ?_
    refine ri_X.sldx (lwp_2 k) rfl (by omega) (by omega) ?_
    repeat refine ri_X.s rfl rfl rfl ?_
    refine ri_X.call0 rfl rfl rfl rfl rfl (hq _ _) ?_
    repeat refine ri_X.s rfl rfl rfl ?_
    refine ri_X.call0 rfl rfl rfl rfl rfl rn_thrown ?_
    rw [h1]
    repeat refine ri_X.s rfl rfl rfl ?_
    refine ri_X.bT rfl rfl rx_eqT ?_
    repeat refine ri_X.s rfl rfl rfl ?_
    refine ri_X.bF rfl rfl rfl ?_
    repeat refine ri_X.s rfl rfl rfl ?_
    refine ri_X.bT rfl rfl (rx_cmpT f q1.toInt64) ?_
    repeat refine ri_X.sh 1788 rfl rfl rfl rfl ?_
    exact hx
  | inr e =>
    obtain ⟨h0, h1, h3⟩ := hag
    have h1 : mdt M2 = lw_cC e := h1
    obtain ⟨w, c, n, hx, hc, hn⟩ := next C M2 f (some (.int (lw_cC e))) (some (.int q1)) h3
    refine ⟨w, 1 + c, 6 + n, ?_, by omega, by omega⟩
    clear next
    unfold lw_oc at hw
    dsimp only at hw
    generalize lw_cC e = ce at hw h0 h1 hx ⊢
    repeat refine ri_X.s rfl rfl rfl ?_
    refine ri_X.sldx (lwp_1 k) rfl (by omega) (by omega) ?_
    repeat refine ri_X.s rfl rfl rfl ?_
    refine ri_X.sldx (lwp_2 k) rfl (by omega) (by omega) ?_
    repeat refine ri_X.s rfl rfl rfl ?_
    refine ri_X.call rfl rfl rfl rfl rfl hw ?_
    repeat refine ri_X.s rfl rfl rfl ?_
    refine ri_X.sldx (lwp_1 k) rfl (by omega) (by omega) ?_
    repeat refine ri_X.s rfl rfl rfl ?_
    refine ri_X.sldx (lwp_2 k) rfl (by omega) (by omega) ?_
    repeat refine ri_X.s rfl rfl rfl ?_
    refine ri_X.call0 rfl rfl rfl rfl rfl (hq _ _) ?_
    repeat refine ri_X.s rfl rfl rfl ?_
    refine ri_X.call0 rfl rfl rfl rfl rfl rn_thrown ?_
    rw [h1]
    repeat refine ri_X.s rfl rfl rfl ?_
    refine ri_X.bT rfl rfl rx_eqT ?_
    repeat refine ri_X.s rfl rfl rfl ?_
    refine ri_X.bT rfl rfl (rx_neT h0) ?_
    repeat refine ri_X.sh 1788 rfl rfl rfl rfl ?_
    exact hx
theorem lw_k_disinherit (hk : k + 4 ≤ sl) (hs : sl ≤ 2051) (hm : ri_M sl sx 10 [.ref 1, .int (sx (k + 1)), .int (sx (k + 2))] (rd_W C (md_W M (lw_o f))) (rd_oc (md_W M (lw_o f)) C X)) (hq : ∀ C f, ri_M sl sx 76 [.ref 10, .int (sx (k + 1)), .int (sx (k + 2))] (rd_W C (md_W M (lw_o f))) (md_oc (lw_o f) C q)) (hag : lw_ag Rel lw_cC C X q)
    (next : ∀ C M f v5 v6, Rel C M → LW sl sx m (1788, [some (.ref 0), some (.ref 1), some (.ref 10), some (.ref 23), some (.int (nI k)), v5, v6], [], rd_W C (md_W M (lw_o f)))) : LW sl sx (m + 1) (724, [some (.ref 0), some (.ref 1), some (.ref 10), some (.ref 23), some (.int (nI k)), v5, v6], [], rd_W C (md_W M (lw_o f))) := by
  have hw := lw_w_disinherit _ _ hm (fun e he => by subst he; exact hag.1)
  clear hm
  obtain ⟨q1, M2⟩ := q
  cases X with
  | inl p =>
    obtain ⟨v, C2⟩ := p
    obtain ⟨h1, h2, h3⟩ := hag
    have h1 : mdt M2 = 0 := h1
    have h2 : q1 = v := h2
    subst h2
    obtain ⟨w, c, n, hx, hc, hn⟩ := next C2 M2 (vp_updL f 0 q1.toInt64) (some (.int 0)) (some (.int q1)) h3
    refine ⟨w, c, n, ?_, by omega, by omega⟩
    clear next
    repeat refine ri_X.s rfl rfl rfl ?_
    refine ri_X.sldx (lwp_1 k) rfl (by omega) (by omega) ?_
    repeat refine ri_X.s rfl rfl rfl ?_
    refine ri_X.sldx (lwp_2 k) rfl (by omega) (by omega) ?_
    repeat refine ri_X.s rfl rfl rfl ?_
    refine ri_X.call0 rfl rfl rfl rfl rfl hw ?_
    repeat refine ri_X.s rfl rfl rfl ?_
    refine ri_X.sldx (lwp_1 k) rfl (by omega) (by omega) ?_
    repeat refine ri_X.s rfl rfl rfl ?_
    refine ri_X.sldx (lwp_2 k) rfl (by omega) (by omega) ?_
    repeat refine ri_X.s rfl rfl rfl ?_
    refine ri_X.call0 rfl rfl rfl rfl rfl (hq _ _) ?_
    repeat refine ri_X.s rfl rfl rfl ?_
    refine ri_X.call0 rfl rfl rfl rfl rfl rn_thrown ?_
    rw [h1]
    repeat refine ri_X.s rfl rfl rfl ?_
    refine ri_X.bT rfl rfl rx_eqT ?_
    repeat refine ri_X.s rfl rfl rfl ?_
    refine ri_X.bF rfl rfl rfl ?_
    repeat refine ri_X.s rfl rfl rfl ?_
    refine ri_X.bT rfl rfl (rx_cmpT f q1.toInt64) ?_
    repeat refine ri_X.sh 1788 rfl rfl rfl rfl ?_
    exact hx
  | inr e =>
    obtain ⟨h0, h1, h3⟩ := hag
    have h1 : mdt M2 = lw_cC e := h1
    obtain ⟨w, c, n, hx, hc, hn⟩ := next C M2 f (some (.int (lw_cC e))) (some (.int q1)) h3
    refine ⟨w, 1 + c, 6 + n, ?_, by omega, by omega⟩
    clear next
    unfold lw_oc at hw
    dsimp only at hw
    generalize lw_cC e = ce at hw h0 h1 hx ⊢
    repeat refine ri_X.s rfl rfl rfl ?_
    refine ri_X.sldx (lwp_1 k) rfl (by omega) (by omega) ?_
    repeat refine ri_X.s rfl rfl rfl ?_
    refine ri_X.sldx (lwp_2 k) rfl (by omega) (by omega) ?_
    repeat refine ri_X.s rfl rfl rfl ?_
    refine ri_X.call rfl rfl rfl rfl rfl hw ?_
    repeat refine ri_X.s rfl rfl rfl ?_
    refine ri_X.sldx (lwp_1 k) rfl (by omega) (by omega) ?_
    repeat refine ri_X.s rfl rfl rfl ?_
    refine ri_X.sldx (lwp_2 k) rfl (by omega) (by omega) ?_
    repeat refine ri_X.s rfl rfl rfl ?_
    refine ri_X.call0 rfl rfl rfl rfl rfl (hq _ _) ?_
    repeat refine ri_X.s rfl rfl rfl ?_
    refine ri_X.call0 rfl rfl rfl rfl rfl rn_thrown ?_
    rw [h1]
    repeat refine ri_X.s rfl rfl rfl ?_
    refine ri_X.bT rfl rfl rx_eqT ?_
    repeat refine ri_X.s rfl rfl rfl ?_
    refine ri_X.bT rfl rfl (rx_neT h0) ?_
    repeat refine ri_X.sh 1788 rfl rfl rfl rfl ?_
    exact hx
theorem lw_k_addSet (hk : k + 4 ≤ sl) (hs : sl ≤ 2051) (hm : ri_M sl sx 11 [.ref 1, .int (sx (k + 1)), .int (sx (k + 2)), .int (sx (k + 3))] (rd_W C (md_W M (lw_o f))) (rd_oc (md_W M (lw_o f)) C X)) (hq : ∀ C f, ri_M sl sx 80 [.ref 10, .int (sx (k + 1)), .int (sx (k + 2)), .int (sx (k + 3))] (rd_W C (md_W M (lw_o f))) (md_oc (lw_o f) C q)) (hag : lw_ag Rel lw_cD C X q)
    (next : ∀ C M f v5 v6, Rel C M → LW sl sx m (1788, [some (.ref 0), some (.ref 1), some (.ref 10), some (.ref 23), some (.int (nI k)), v5, v6], [], rd_W C (md_W M (lw_o f)))) : LW sl sx (m + 1) (792, [some (.ref 0), some (.ref 1), some (.ref 10), some (.ref 23), some (.int (nI k)), v5, v6], [], rd_W C (md_W M (lw_o f))) := by
  have hw := lw_w_addSet _ _ _ hm (fun e he => by subst he; exact hag.1)
  clear hm
  obtain ⟨q1, M2⟩ := q
  cases X with
  | inl p =>
    obtain ⟨v, C2⟩ := p
    obtain ⟨h1, h2, h3⟩ := hag
    have h1 : mdt M2 = 0 := h1
    have h2 : q1 = v := h2
    subst h2
    obtain ⟨w, c, n, hx, hc, hn⟩ := next C2 M2 (vp_updL f 0 q1.toInt64) (some (.int 0)) (some (.int q1)) h3
    refine ⟨w, c, n, ?_, by omega, by omega⟩
    clear next
    repeat refine ri_X.s rfl rfl rfl ?_
    refine ri_X.sldx (lwp_1 k) rfl (by omega) (by omega) ?_
    repeat refine ri_X.s rfl rfl rfl ?_
    refine ri_X.sldx (lwp_2 k) rfl (by omega) (by omega) ?_
    repeat refine ri_X.s rfl rfl rfl ?_
    refine ri_X.sldx (lwp_3 k) rfl (by omega) (by omega) ?_
    repeat refine ri_X.s rfl rfl rfl ?_
    refine ri_X.call0 rfl rfl rfl rfl rfl hw ?_
    repeat refine ri_X.s rfl rfl rfl ?_
    refine ri_X.sldx (lwp_1 k) rfl (by omega) (by omega) ?_
    repeat refine ri_X.s rfl rfl rfl ?_
    refine ri_X.sldx (lwp_2 k) rfl (by omega) (by omega) ?_
    repeat refine ri_X.s rfl rfl rfl ?_
    refine ri_X.sldx (lwp_3 k) rfl (by omega) (by omega) ?_
    repeat refine ri_X.s rfl rfl rfl ?_
    refine ri_X.call0 rfl rfl rfl rfl rfl (hq _ _) ?_
    repeat refine ri_X.s rfl rfl rfl ?_
    refine ri_X.call0 rfl rfl rfl rfl rfl rn_thrown ?_
    rw [h1]
    repeat refine ri_X.s rfl rfl rfl ?_
    refine ri_X.bT rfl rfl rx_eqT ?_
    repeat refine ri_X.s rfl rfl rfl ?_
    refine ri_X.bF rfl rfl rfl ?_
    repeat refine ri_X.s rfl rfl rfl ?_
    refine ri_X.bT rfl rfl (rx_cmpT f q1.toInt64) ?_
    repeat refine ri_X.sh 1788 rfl rfl rfl rfl ?_
    exact hx
  | inr e =>
    obtain ⟨h0, h1, h3⟩ := hag
    have h1 : mdt M2 = lw_cD e := h1
    obtain ⟨w, c, n, hx, hc, hn⟩ := next C M2 f (some (.int (lw_cD e))) (some (.int q1)) h3
    refine ⟨w, 1 + c, 6 + n, ?_, by omega, by omega⟩
    clear next
    unfold lw_oc at hw
    dsimp only at hw
    generalize lw_cD e = ce at hw h0 h1 hx ⊢
    repeat refine ri_X.s rfl rfl rfl ?_
    refine ri_X.sldx (lwp_1 k) rfl (by omega) (by omega) ?_
    repeat refine ri_X.s rfl rfl rfl ?_
    refine ri_X.sldx (lwp_2 k) rfl (by omega) (by omega) ?_
    repeat refine ri_X.s rfl rfl rfl ?_
    refine ri_X.sldx (lwp_3 k) rfl (by omega) (by omega) ?_
    repeat refine ri_X.s rfl rfl rfl ?_
    refine ri_X.call rfl rfl rfl rfl rfl hw ?_
    repeat refine ri_X.s rfl rfl rfl ?_
    refine ri_X.sldx (lwp_1 k) rfl (by omega) (by omega) ?_
    repeat refine ri_X.s rfl rfl rfl ?_
    refine ri_X.sldx (lwp_2 k) rfl (by omega) (by omega) ?_
    repeat refine ri_X.s rfl rfl rfl ?_
    refine ri_X.sldx (lwp_3 k) rfl (by omega) (by omega) ?_
    repeat refine ri_X.s rfl rfl rfl ?_
    refine ri_X.call0 rfl rfl rfl rfl rfl (hq _ _) ?_
    repeat refine ri_X.s rfl rfl rfl ?_
    refine ri_X.call0 rfl rfl rfl rfl rfl rn_thrown ?_
    rw [h1]
    repeat refine ri_X.s rfl rfl rfl ?_
    refine ri_X.bT rfl rfl rx_eqT ?_
    repeat refine ri_X.s rfl rfl rfl ?_
    refine ri_X.bT rfl rfl (rx_neT h0) ?_
    repeat refine ri_X.sh 1788 rfl rfl rfl rfl ?_
    exact hx
theorem lw_k_deleteSet (hk : k + 4 ≤ sl) (hs : sl ≤ 2051) (hm : ri_M sl sx 12 [.ref 1, .int (sx (k + 1))] (rd_W C (md_W M (lw_o f))) (rd_oc (md_W M (lw_o f)) C X)) (hq : ∀ C f, ri_M sl sx 81 [.ref 10, .int (sx (k + 1))] (rd_W C (md_W M (lw_o f))) (md_oc (lw_o f) C q)) (hag : lw_ag Rel lw_cB C X q)
    (next : ∀ C M f v5 v6, Rel C M → LW sl sx m (1788, [some (.ref 0), some (.ref 1), some (.ref 10), some (.ref 23), some (.int (nI k)), v5, v6], [], rd_W C (md_W M (lw_o f)))) : LW sl sx (m + 1) (872, [some (.ref 0), some (.ref 1), some (.ref 10), some (.ref 23), some (.int (nI k)), v5, v6], [], rd_W C (md_W M (lw_o f))) := by
  have hw := lw_w_deleteSet _ hm (fun e he => by subst he; exact hag.1)
  clear hm
  obtain ⟨q1, M2⟩ := q
  cases X with
  | inl p =>
    obtain ⟨v, C2⟩ := p
    obtain ⟨h1, h2, h3⟩ := hag
    have h1 : mdt M2 = 0 := h1
    have h2 : q1 = v := h2
    subst h2
    obtain ⟨w, c, n, hx, hc, hn⟩ := next C2 M2 (vp_updL f 0 q1.toInt64) (some (.int 0)) (some (.int q1)) h3
    refine ⟨w, c, n, ?_, by omega, by omega⟩
    clear next
    repeat refine ri_X.s rfl rfl rfl ?_
    refine ri_X.sldx (lwp_1 k) rfl (by omega) (by omega) ?_
    repeat refine ri_X.s rfl rfl rfl ?_
    refine ri_X.call0 rfl rfl rfl rfl rfl hw ?_
    repeat refine ri_X.s rfl rfl rfl ?_
    refine ri_X.sldx (lwp_1 k) rfl (by omega) (by omega) ?_
    repeat refine ri_X.s rfl rfl rfl ?_
    refine ri_X.call0 rfl rfl rfl rfl rfl (hq _ _) ?_
    repeat refine ri_X.s rfl rfl rfl ?_
    refine ri_X.call0 rfl rfl rfl rfl rfl rn_thrown ?_
    rw [h1]
    repeat refine ri_X.s rfl rfl rfl ?_
    refine ri_X.bT rfl rfl rx_eqT ?_
    repeat refine ri_X.s rfl rfl rfl ?_
    refine ri_X.bF rfl rfl rfl ?_
    repeat refine ri_X.s rfl rfl rfl ?_
    refine ri_X.bT rfl rfl (rx_cmpT f q1.toInt64) ?_
    repeat refine ri_X.sh 1788 rfl rfl rfl rfl ?_
    exact hx
  | inr e =>
    obtain ⟨h0, h1, h3⟩ := hag
    have h1 : mdt M2 = lw_cB e := h1
    obtain ⟨w, c, n, hx, hc, hn⟩ := next C M2 f (some (.int (lw_cB e))) (some (.int q1)) h3
    refine ⟨w, 1 + c, 6 + n, ?_, by omega, by omega⟩
    clear next
    unfold lw_oc at hw
    dsimp only at hw
    generalize lw_cB e = ce at hw h0 h1 hx ⊢
    repeat refine ri_X.s rfl rfl rfl ?_
    refine ri_X.sldx (lwp_1 k) rfl (by omega) (by omega) ?_
    repeat refine ri_X.s rfl rfl rfl ?_
    refine ri_X.call rfl rfl rfl rfl rfl hw ?_
    repeat refine ri_X.s rfl rfl rfl ?_
    refine ri_X.sldx (lwp_1 k) rfl (by omega) (by omega) ?_
    repeat refine ri_X.s rfl rfl rfl ?_
    refine ri_X.call0 rfl rfl rfl rfl rfl (hq _ _) ?_
    repeat refine ri_X.s rfl rfl rfl ?_
    refine ri_X.call0 rfl rfl rfl rfl rfl rn_thrown ?_
    rw [h1]
    repeat refine ri_X.s rfl rfl rfl ?_
    refine ri_X.bT rfl rfl rx_eqT ?_
    repeat refine ri_X.s rfl rfl rfl ?_
    refine ri_X.bT rfl rfl (rx_neT h0) ?_
    repeat refine ri_X.sh 1788 rfl rfl rfl rfl ?_
    exact hx
theorem lw_k_changeSet (hk : k + 4 ≤ sl) (hs : sl ≤ 2051) (hm : ri_M sl sx 13 [.ref 1, .int (sx (k + 1)), .int (sx (k + 2)), .int (sx (k + 3))] (rd_W C (md_W M (lw_o f))) (rd_oc (md_W M (lw_o f)) C X)) (hq : ∀ C f, ri_M sl sx 82 [.ref 10, .int (sx (k + 1)), .int (sx (k + 2)), .int (sx (k + 3))] (rd_W C (md_W M (lw_o f))) (md_oc (lw_o f) C q)) (hag : lw_ag Rel lw_cD C X q)
    (next : ∀ C M f v5 v6, Rel C M → LW sl sx m (1788, [some (.ref 0), some (.ref 1), some (.ref 10), some (.ref 23), some (.int (nI k)), v5, v6], [], rd_W C (md_W M (lw_o f)))) : LW sl sx (m + 1) (928, [some (.ref 0), some (.ref 1), some (.ref 10), some (.ref 23), some (.int (nI k)), v5, v6], [], rd_W C (md_W M (lw_o f))) := by
  have hw := lw_w_changeSet _ _ _ hm (fun e he => by subst he; exact hag.1)
  clear hm
  obtain ⟨q1, M2⟩ := q
  cases X with
  | inl p =>
    obtain ⟨v, C2⟩ := p
    obtain ⟨h1, h2, h3⟩ := hag
    have h1 : mdt M2 = 0 := h1
    have h2 : q1 = v := h2
    subst h2
    obtain ⟨w, c, n, hx, hc, hn⟩ := next C2 M2 (vp_updL f 0 q1.toInt64) (some (.int 0)) (some (.int q1)) h3
    refine ⟨w, c, n, ?_, by omega, by omega⟩
    clear next
    repeat refine ri_X.s rfl rfl rfl ?_
    refine ri_X.sldx (lwp_1 k) rfl (by omega) (by omega) ?_
    repeat refine ri_X.s rfl rfl rfl ?_
    refine ri_X.sldx (lwp_2 k) rfl (by omega) (by omega) ?_
    repeat refine ri_X.s rfl rfl rfl ?_
    refine ri_X.sldx (lwp_3 k) rfl (by omega) (by omega) ?_
    repeat refine ri_X.s rfl rfl rfl ?_
    refine ri_X.call0 rfl rfl rfl rfl rfl hw ?_
    repeat refine ri_X.s rfl rfl rfl ?_
    refine ri_X.sldx (lwp_1 k) rfl (by omega) (by omega) ?_
    repeat refine ri_X.s rfl rfl rfl ?_
    refine ri_X.sldx (lwp_2 k) rfl (by omega) (by omega) ?_
    repeat refine ri_X.s rfl rfl rfl ?_
    refine ri_X.sldx (lwp_3 k) rfl (by omega) (by omega) ?_
    repeat refine ri_X.s rfl rfl rfl ?_
    refine ri_X.call0 rfl rfl rfl rfl rfl (hq _ _) ?_
    repeat refine ri_X.s rfl rfl rfl ?_
    refine ri_X.call0 rfl rfl rfl rfl rfl rn_thrown ?_
    rw [h1]
    repeat refine ri_X.s rfl rfl rfl ?_
    refine ri_X.bT rfl rfl rx_eqT ?_
    repeat refine ri_X.s rfl rfl rfl ?_
    refine ri_X.bF rfl rfl rfl ?_
    repeat refine ri_X.s rfl rfl rfl ?_
    refine ri_X.bT rfl rfl (rx_cmpT f q1.toInt64) ?_
    repeat refine ri_X.sh 1788 rfl rfl rfl rfl ?_
    exact hx
  | inr e =>
    obtain ⟨h0, h1, h3⟩ := hag
    have h1 : mdt M2 = lw_cD e := h1
    obtain ⟨w, c, n, hx, hc, hn⟩ := next C M2 f (some (.int (lw_cD e))) (some (.int q1)) h3
    refine ⟨w, 1 + c, 6 + n, ?_, by omega, by omega⟩
    clear next
    unfold lw_oc at hw
    dsimp only at hw
    generalize lw_cD e = ce at hw h0 h1 hx ⊢
    repeat refine ri_X.s rfl rfl rfl ?_
    refine ri_X.sldx (lwp_1 k) rfl (by omega) (by omega) ?_
    repeat refine ri_X.s rfl rfl rfl ?_
    refine ri_X.sldx (lwp_2 k) rfl (by omega) (by omega) ?_
    repeat refine ri_X.s rfl rfl rfl ?_
    refine ri_X.sldx (lwp_3 k) rfl (by omega) (by omega) ?_
    repeat refine ri_X.s rfl rfl rfl ?_
    refine ri_X.call rfl rfl rfl rfl rfl hw ?_
    repeat refine ri_X.s rfl rfl rfl ?_
    refine ri_X.sldx (lwp_1 k) rfl (by omega) (by omega) ?_
    repeat refine ri_X.s rfl rfl rfl ?_
    refine ri_X.sldx (lwp_2 k) rfl (by omega) (by omega) ?_
    repeat refine ri_X.s rfl rfl rfl ?_
    refine ri_X.sldx (lwp_3 k) rfl (by omega) (by omega) ?_
    repeat refine ri_X.s rfl rfl rfl ?_
    refine ri_X.call0 rfl rfl rfl rfl rfl (hq _ _) ?_
    repeat refine ri_X.s rfl rfl rfl ?_
    refine ri_X.call0 rfl rfl rfl rfl rfl rn_thrown ?_
    rw [h1]
    repeat refine ri_X.s rfl rfl rfl ?_
    refine ri_X.bT rfl rfl rx_eqT ?_
    repeat refine ri_X.s rfl rfl rfl ?_
    refine ri_X.bT rfl rfl (rx_neT h0) ?_
    repeat refine ri_X.sh 1788 rfl rfl rfl rfl ?_
    exact hx
theorem lw_k_open (hk : k + 4 ≤ sl) (hs : sl ≤ 2051) (hm : ri_M sl sx 14 [.ref 1, .int (sx (k + 1)), .int (sx (k + 2))] (rd_W C (md_W M (lw_o f))) (rd_oc (md_W M (lw_o f)) C X)) (hq : ∀ C f, ri_M sl sx 85 [.ref 10, .int (sx (k + 1)), .int (sx (k + 2))] (rd_W C (md_W M (lw_o f))) (md_oc (lw_o f) C q)) (hag : lw_ag Rel lw_cC C X q)
    (next : ∀ C M f v5 v6, Rel C M → LW sl sx m (1788, [some (.ref 0), some (.ref 1), some (.ref 10), some (.ref 23), some (.int (nI k)), v5, v6], [], rd_W C (md_W M (lw_o f)))) : LW sl sx (m + 1) (1008, [some (.ref 0), some (.ref 1), some (.ref 10), some (.ref 23), some (.int (nI k)), v5, v6], [], rd_W C (md_W M (lw_o f))) := by
  have hw := lw_w_open _ _ hm (fun e he => by subst he; exact hag.1)
  clear hm
  obtain ⟨q1, M2⟩ := q
  cases X with
  | inl p =>
    obtain ⟨v, C2⟩ := p
    obtain ⟨h1, h2, h3⟩ := hag
    have h1 : mdt M2 = 0 := h1
    have h2 : q1 = v := h2
    subst h2
    obtain ⟨w, c, n, hx, hc, hn⟩ := next C2 M2 (vp_updL f 0 q1.toInt64) (some (.int 0)) (some (.int q1)) h3
    refine ⟨w, c, n, ?_, by omega, by omega⟩
    clear next
    repeat refine ri_X.s rfl rfl rfl ?_
    refine ri_X.sldx (lwp_1 k) rfl (by omega) (by omega) ?_
    repeat refine ri_X.s rfl rfl rfl ?_
    refine ri_X.sldx (lwp_2 k) rfl (by omega) (by omega) ?_
    repeat refine ri_X.s rfl rfl rfl ?_
    refine ri_X.call0 rfl rfl rfl rfl rfl hw ?_
    repeat refine ri_X.s rfl rfl rfl ?_
    refine ri_X.sldx (lwp_1 k) rfl (by omega) (by omega) ?_
    repeat refine ri_X.s rfl rfl rfl ?_
    refine ri_X.sldx (lwp_2 k) rfl (by omega) (by omega) ?_
    repeat refine ri_X.s rfl rfl rfl ?_
    refine ri_X.call0 rfl rfl rfl rfl rfl (hq _ _) ?_
    repeat refine ri_X.s rfl rfl rfl ?_
    refine ri_X.call0 rfl rfl rfl rfl rfl rn_thrown ?_
    rw [h1]
    repeat refine ri_X.s rfl rfl rfl ?_
    refine ri_X.bT rfl rfl rx_eqT ?_
    repeat refine ri_X.s rfl rfl rfl ?_
    refine ri_X.bF rfl rfl rfl ?_
    repeat refine ri_X.s rfl rfl rfl ?_
    refine ri_X.bT rfl rfl (rx_cmpT f q1.toInt64) ?_
    repeat refine ri_X.sh 1788 rfl rfl rfl rfl ?_
    exact hx
  | inr e =>
    obtain ⟨h0, h1, h3⟩ := hag
    have h1 : mdt M2 = lw_cC e := h1
    obtain ⟨w, c, n, hx, hc, hn⟩ := next C M2 f (some (.int (lw_cC e))) (some (.int q1)) h3
    refine ⟨w, 1 + c, 6 + n, ?_, by omega, by omega⟩
    clear next
    unfold lw_oc at hw
    dsimp only at hw
    generalize lw_cC e = ce at hw h0 h1 hx ⊢
    repeat refine ri_X.s rfl rfl rfl ?_
    refine ri_X.sldx (lwp_1 k) rfl (by omega) (by omega) ?_
    repeat refine ri_X.s rfl rfl rfl ?_
    refine ri_X.sldx (lwp_2 k) rfl (by omega) (by omega) ?_
    repeat refine ri_X.s rfl rfl rfl ?_
    refine ri_X.call rfl rfl rfl rfl rfl hw ?_
    repeat refine ri_X.s rfl rfl rfl ?_
    refine ri_X.sldx (lwp_1 k) rfl (by omega) (by omega) ?_
    repeat refine ri_X.s rfl rfl rfl ?_
    refine ri_X.sldx (lwp_2 k) rfl (by omega) (by omega) ?_
    repeat refine ri_X.s rfl rfl rfl ?_
    refine ri_X.call0 rfl rfl rfl rfl rfl (hq _ _) ?_
    repeat refine ri_X.s rfl rfl rfl ?_
    refine ri_X.call0 rfl rfl rfl rfl rfl rn_thrown ?_
    rw [h1]
    repeat refine ri_X.s rfl rfl rfl ?_
    refine ri_X.bT rfl rfl rx_eqT ?_
    repeat refine ri_X.s rfl rfl rfl ?_
    refine ri_X.bT rfl rfl (rx_neT h0) ?_
    repeat refine ri_X.sh 1788 rfl rfl rfl rfl ?_
    exact hx
theorem lw_k_close (hk : k + 4 ≤ sl) (hs : sl ≤ 2051) (hm : ri_M sl sx 15 [.ref 1, .int (sx (k + 1))] (rd_W C (md_W M (lw_o f))) (rd_oc (md_W M (lw_o f)) C X)) (hq : ∀ C f, ri_M sl sx 86 [.ref 10, .int (sx (k + 1))] (rd_W C (md_W M (lw_o f))) (md_oc (lw_o f) C q)) (hag : lw_ag Rel lw_cB C X q)
    (next : ∀ C M f v5 v6, Rel C M → LW sl sx m (1788, [some (.ref 0), some (.ref 1), some (.ref 10), some (.ref 23), some (.int (nI k)), v5, v6], [], rd_W C (md_W M (lw_o f)))) : LW sl sx (m + 1) (1076, [some (.ref 0), some (.ref 1), some (.ref 10), some (.ref 23), some (.int (nI k)), v5, v6], [], rd_W C (md_W M (lw_o f))) := by
  have hw := lw_w_close _ hm (fun e he => by subst he; exact hag.1)
  clear hm
  obtain ⟨q1, M2⟩ := q
  cases X with
  | inl p =>
    obtain ⟨v, C2⟩ := p
    obtain ⟨h1, h2, h3⟩ := hag
    have h1 : mdt M2 = 0 := h1
    have h2 : q1 = v := h2
    subst h2
    obtain ⟨w, c, n, hx, hc, hn⟩ := next C2 M2 (vp_updL f 0 q1.toInt64) (some (.int 0)) (some (.int q1)) h3
    refine ⟨w, c, n, ?_, by omega, by omega⟩
    clear next
    repeat refine ri_X.s rfl rfl rfl ?_
    refine ri_X.sldx (lwp_1 k) rfl (by omega) (by omega) ?_
    repeat refine ri_X.s rfl rfl rfl ?_
    refine ri_X.call0 rfl rfl rfl rfl rfl hw ?_
    repeat refine ri_X.s rfl rfl rfl ?_
    refine ri_X.sldx (lwp_1 k) rfl (by omega) (by omega) ?_
    repeat refine ri_X.s rfl rfl rfl ?_
    refine ri_X.call0 rfl rfl rfl rfl rfl (hq _ _) ?_
    repeat refine ri_X.s rfl rfl rfl ?_
    refine ri_X.call0 rfl rfl rfl rfl rfl rn_thrown ?_
    rw [h1]
    repeat refine ri_X.s rfl rfl rfl ?_
    refine ri_X.bT rfl rfl rx_eqT ?_
    repeat refine ri_X.s rfl rfl rfl ?_
    refine ri_X.bF rfl rfl rfl ?_
    repeat refine ri_X.s rfl rfl rfl ?_
    refine ri_X.bT rfl rfl (rx_cmpT f q1.toInt64) ?_
    repeat refine ri_X.sh 1788 rfl rfl rfl rfl ?_
    exact hx
  | inr e =>
    obtain ⟨h0, h1, h3⟩ := hag
    have h1 : mdt M2 = lw_cB e := h1
    obtain ⟨w, c, n, hx, hc, hn⟩ := next C M2 f (some (.int (lw_cB e))) (some (.int q1)) h3
    refine ⟨w, 1 + c, 6 + n, ?_, by omega, by omega⟩
    clear next
    unfold lw_oc at hw
    dsimp only at hw
    generalize lw_cB e = ce at hw h0 h1 hx ⊢
    repeat refine ri_X.s rfl rfl rfl ?_
    refine ri_X.sldx (lwp_1 k) rfl (by omega) (by omega) ?_
    repeat refine ri_X.s rfl rfl rfl ?_
    refine ri_X.call rfl rfl rfl rfl rfl hw ?_
    repeat refine ri_X.s rfl rfl rfl ?_
    refine ri_X.sldx (lwp_1 k) rfl (by omega) (by omega) ?_
    repeat refine ri_X.s rfl rfl rfl ?_
    refine ri_X.call0 rfl rfl rfl rfl rfl (hq _ _) ?_
    repeat refine ri_X.s rfl rfl rfl ?_
    refine ri_X.call0 rfl rfl rfl rfl rfl rn_thrown ?_
    rw [h1]
    repeat refine ri_X.s rfl rfl rfl ?_
    refine ri_X.bT rfl rfl rx_eqT ?_
    repeat refine ri_X.s rfl rfl rfl ?_
    refine ri_X.bT rfl rfl (rx_neT h0) ?_
    repeat refine ri_X.sh 1788 rfl rfl rfl rfl ?_
    exact hx
theorem lw_k_activate (hk : k + 4 ≤ sl) (hs : sl ≤ 2051) (hm : ri_M sl sx 16 [.ref 1, .int (sx (k + 1)), .int (sx (k + 2))] (rd_W C (md_W M (lw_o f))) (rd_oc (md_W M (lw_o f)) C X)) (hq : ∀ C f, ri_M sl sx 88 [.ref 10, .int (sx (k + 1)), .int (sx (k + 2))] (rd_W C (md_W M (lw_o f))) (md_oc (lw_o f) C q)) (hag : lw_ag Rel lw_cC C X q)
    (next : ∀ C M f v5 v6, Rel C M → LW sl sx m (1788, [some (.ref 0), some (.ref 1), some (.ref 10), some (.ref 23), some (.int (nI k)), v5, v6], [], rd_W C (md_W M (lw_o f)))) : LW sl sx (m + 1) (1132, [some (.ref 0), some (.ref 1), some (.ref 10), some (.ref 23), some (.int (nI k)), v5, v6], [], rd_W C (md_W M (lw_o f))) := by
  have hw := lw_w_activate _ _ hm (fun e he => by subst he; exact hag.1)
  clear hm
  obtain ⟨q1, M2⟩ := q
  cases X with
  | inl p =>
    obtain ⟨v, C2⟩ := p
    obtain ⟨h1, h2, h3⟩ := hag
    have h1 : mdt M2 = 0 := h1
    have h2 : q1 = v := h2
    subst h2
    obtain ⟨w, c, n, hx, hc, hn⟩ := next C2 M2 (vp_updL f 0 q1.toInt64) (some (.int 0)) (some (.int q1)) h3
    refine ⟨w, c, n, ?_, by omega, by omega⟩
    clear next
    repeat refine ri_X.s rfl rfl rfl ?_
    refine ri_X.sldx (lwp_1 k) rfl (by omega) (by omega) ?_
    repeat refine ri_X.s rfl rfl rfl ?_
    refine ri_X.sldx (lwp_2 k) rfl (by omega) (by omega) ?_
    repeat refine ri_X.s rfl rfl rfl ?_
    refine ri_X.call0 rfl rfl rfl rfl rfl hw ?_
    repeat refine ri_X.s rfl rfl rfl ?_
    refine ri_X.sldx (lwp_1 k) rfl (by omega) (by omega) ?_
    repeat refine ri_X.s rfl rfl rfl ?_
    refine ri_X.sldx (lwp_2 k) rfl (by omega) (by omega) ?_
    repeat refine ri_X.s rfl rfl rfl ?_
    refine ri_X.call0 rfl rfl rfl rfl rfl (hq _ _) ?_
    repeat refine ri_X.s rfl rfl rfl ?_
    refine ri_X.call0 rfl rfl rfl rfl rfl rn_thrown ?_
    rw [h1]
    repeat refine ri_X.s rfl rfl rfl ?_
    refine ri_X.bT rfl rfl rx_eqT ?_
    repeat refine ri_X.s rfl rfl rfl ?_
    refine ri_X.bF rfl rfl rfl ?_
    repeat refine ri_X.s rfl rfl rfl ?_
    refine ri_X.bT rfl rfl (rx_cmpT f q1.toInt64) ?_
    repeat refine ri_X.sh 1788 rfl rfl rfl rfl ?_
    exact hx
  | inr e =>
    obtain ⟨h0, h1, h3⟩ := hag
    have h1 : mdt M2 = lw_cC e := h1
    obtain ⟨w, c, n, hx, hc, hn⟩ := next C M2 f (some (.int (lw_cC e))) (some (.int q1)) h3
    refine ⟨w, 1 + c, 6 + n, ?_, by omega, by omega⟩
    clear next
    unfold lw_oc at hw
    dsimp only at hw
    generalize lw_cC e = ce at hw h0 h1 hx ⊢
    repeat refine ri_X.s rfl rfl rfl ?_
    refine ri_X.sldx (lwp_1 k) rfl (by omega) (by omega) ?_
    repeat refine ri_X.s rfl rfl rfl ?_
    refine ri_X.sldx (lwp_2 k) rfl (by omega) (by omega) ?_
    repeat refine ri_X.s rfl rfl rfl ?_
    refine ri_X.call rfl rfl rfl rfl rfl hw ?_
    repeat refine ri_X.s rfl rfl rfl ?_
    refine ri_X.sldx (lwp_1 k) rfl (by omega) (by omega) ?_
    repeat refine ri_X.s rfl rfl rfl ?_
    refine ri_X.sldx (lwp_2 k) rfl (by omega) (by omega) ?_
    repeat refine ri_X.s rfl rfl rfl ?_
    refine ri_X.call0 rfl rfl rfl rfl rfl (hq _ _) ?_
    repeat refine ri_X.s rfl rfl rfl ?_
    refine ri_X.call0 rfl rfl rfl rfl rfl rn_thrown ?_
    rw [h1]
    repeat refine ri_X.s rfl rfl rfl ?_
    refine ri_X.bT rfl rfl rx_eqT ?_
    repeat refine ri_X.s rfl rfl rfl ?_
    refine ri_X.bT rfl rfl (rx_neT h0) ?_
    repeat refine ri_X.sh 1788 rfl rfl rfl rfl ?_
    exact hx
theorem lw_k_deactivate (hk : k + 4 ≤ sl) (hs : sl ≤ 2051) (hm : ri_M sl sx 17 [.ref 1, .int (sx (k + 1)), .int (sx (k + 2))] (rd_W C (md_W M (lw_o f))) (rd_oc (md_W M (lw_o f)) C X)) (hq : ∀ C f, ri_M sl sx 89 [.ref 10, .int (sx (k + 1)), .int (sx (k + 2))] (rd_W C (md_W M (lw_o f))) (md_oc (lw_o f) C q)) (hag : lw_ag Rel lw_cC C X q)
    (next : ∀ C M f v5 v6, Rel C M → LW sl sx m (1788, [some (.ref 0), some (.ref 1), some (.ref 10), some (.ref 23), some (.int (nI k)), v5, v6], [], rd_W C (md_W M (lw_o f)))) : LW sl sx (m + 1) (1200, [some (.ref 0), some (.ref 1), some (.ref 10), some (.ref 23), some (.int (nI k)), v5, v6], [], rd_W C (md_W M (lw_o f))) := by
  have hw := lw_w_deactivate _ _ hm (fun e he => by subst he; exact hag.1)
  clear hm
  obtain ⟨q1, M2⟩ := q
  cases X with
  | inl p =>
    obtain ⟨v, C2⟩ := p
    obtain ⟨h1, h2, h3⟩ := hag
    have h1 : mdt M2 = 0 := h1
    have h2 : q1 = v := h2
    subst h2
    obtain ⟨w, c, n, hx, hc, hn⟩ := next C2 M2 (vp_updL f 0 q1.toInt64) (some (.int 0)) (some (.int q1)) h3
    refine ⟨w, c, n, ?_, by omega, by omega⟩
    clear next
    repeat refine ri_X.s rfl rfl rfl ?_
    refine ri_X.sldx (lwp_1 k) rfl (by omega) (by omega) ?_
    repeat refine ri_X.s rfl rfl rfl ?_
    refine ri_X.sldx (lwp_2 k) rfl (by omega) (by omega) ?_
    repeat refine ri_X.s rfl rfl rfl ?_
    refine ri_X.call0 rfl rfl rfl rfl rfl hw ?_
    repeat refine ri_X.s rfl rfl rfl ?_
    refine ri_X.sldx (lwp_1 k) rfl (by omega) (by omega) ?_
    repeat refine ri_X.s rfl rfl rfl ?_
    refine ri_X.sldx (lwp_2 k) rfl (by omega) (by omega) ?_
    repeat refine ri_X.s rfl rfl rfl ?_
    refine ri_X.call0 rfl rfl rfl rfl rfl (hq _ _) ?_
    repeat refine ri_X.s rfl rfl rfl ?_
    refine ri_X.call0 rfl rfl rfl rfl rfl rn_thrown ?_
    rw [h1]
    repeat refine ri_X.s rfl rfl rfl ?_
    refine ri_X.bT rfl rfl rx_eqT ?_
    repeat refine ri_X.s rfl rfl rfl ?_
    refine ri_X.bF rfl rfl rfl ?_
    repeat refine ri_X.s rfl rfl rfl ?_
    refine ri_X.bT rfl rfl (rx_cmpT f q1.toInt64) ?_
    repeat refine ri_X.sh 1788 rfl rfl rfl rfl ?_
    exact hx
  | inr e =>
    obtain ⟨h0, h1, h3⟩ := hag
    have h1 : mdt M2 = lw_cC e := h1
    obtain ⟨w, c, n, hx, hc, hn⟩ := next C M2 f (some (.int (lw_cC e))) (some (.int q1)) h3
    refine ⟨w, 1 + c, 6 + n, ?_, by omega, by omega⟩
    clear next
    unfold lw_oc at hw
    dsimp only at hw
    generalize lw_cC e = ce at hw h0 h1 hx ⊢
    repeat refine ri_X.s rfl rfl rfl ?_
    refine ri_X.sldx (lwp_1 k) rfl (by omega) (by omega) ?_
    repeat refine ri_X.s rfl rfl rfl ?_
    refine ri_X.sldx (lwp_2 k) rfl (by omega) (by omega) ?_
    repeat refine ri_X.s rfl rfl rfl ?_
    refine ri_X.call rfl rfl rfl rfl rfl hw ?_
    repeat refine ri_X.s rfl rfl rfl ?_
    refine ri_X.sldx (lwp_1 k) rfl (by omega) (by omega) ?_
    repeat refine ri_X.s rfl rfl rfl ?_
    refine ri_X.sldx (lwp_2 k) rfl (by omega) (by omega) ?_
    repeat refine ri_X.s rfl rfl rfl ?_
    refine ri_X.call0 rfl rfl rfl rfl rfl (hq _ _) ?_
    repeat refine ri_X.s rfl rfl rfl ?_
    refine ri_X.call0 rfl rfl rfl rfl rfl rn_thrown ?_
    rw [h1]
    repeat refine ri_X.s rfl rfl rfl ?_
    refine ri_X.bT rfl rfl rx_eqT ?_
    repeat refine ri_X.s rfl rfl rfl ?_
    refine ri_X.bT rfl rfl (rx_neT h0) ?_
    repeat refine ri_X.sh 1788 rfl rfl rfl rfl ?_
    exact hx
theorem lw_k_check (hk : k + 4 ≤ sl) (hs : sl ≤ 2051) (hm : ri_M sl sx 18 [.ref 1, .int (sx (k + 1)), .int (sx (k + 2))] (rd_W C (md_W M (lw_o f))) (rd_oc (md_W M (lw_o f)) C X)) (hq : ∀ C f, ri_M sl sx 90 [.ref 10, .int (sx (k + 1)), .int (sx (k + 2))] (rd_W C (md_W M (lw_o f))) (md_oc (lw_o f) C q)) (hag : lw_ag Rel lw_cB C X q) (hb : ∀ p, X = .inl p → ∃ b, p.1 = rb_i b)
    (next : ∀ C M f v5 v6, Rel C M → LW sl sx m (1788, [some (.ref 0), some (.ref 1), some (.ref 10), some (.ref 23), some (.int (nI k)), v5, v6], [], rd_W C (md_W M (lw_o f)))) : LW sl sx (m + 1) (1268, [some (.ref 0), some (.ref 1), some (.ref 10), some (.ref 23), some (.int (nI k)), v5, v6], [], rd_W C (md_W M (lw_o f))) := by
  have hw := lw_w_check _ _ hm (fun e he => by subst he; exact hag.1) hb
  clear hm
  obtain ⟨q1, M2⟩ := q
  cases X with
  | inl p =>
    obtain ⟨v, C2⟩ := p
    obtain ⟨h1, h2, h3⟩ := hag
    have h1 : mdt M2 = 0 := h1
    have h2 : q1 = v := h2
    subst h2
    obtain ⟨b, hb⟩ := hb _ rfl
    have hb : q1 = rb_i b := hb
    subst hb
    obtain ⟨w, c, n, hx, hc, hn⟩ := next C2 M2 (vp_updL f 0 (rb_i b).toInt64) (some (.int 0)) (some (.int (rb_i b))) h3
    refine ⟨w, c, n, ?_, by omega, by omega⟩
    clear next
    repeat refine ri_X.s rfl rfl rfl ?_
    refine ri_X.sldx (lwp_1 k) rfl (by omega) (by omega) ?_
    repeat refine ri_X.s rfl rfl rfl ?_
    refine ri_X.sldx (lwp_2 k) rfl (by omega) (by omega) ?_
    repeat refine ri_X.s rfl rfl rfl ?_
    refine ri_X.call0 rfl rfl rfl rfl rfl hw ?_
    repeat refine ri_X.s rfl rfl rfl ?_
    refine ri_X.sldx (lwp_1 k) rfl (by omega) (by omega) ?_
    repeat refine ri_X.s rfl rfl rfl ?_
    refine ri_X.sldx (lwp_2 k) rfl (by omega) (by omega) ?_
    repeat refine ri_X.s rfl rfl rfl ?_
    refine ri_X.call0 rfl rfl rfl rfl rfl (hq _ _) ?_
    repeat refine ri_X.s rfl rfl rfl ?_
    refine ri_X.call0 rfl rfl rfl rfl rfl rn_thrown ?_
    rw [h1]
    repeat refine ri_X.s rfl rfl rfl ?_
    refine ri_X.bT rfl rfl rx_eqT ?_
    repeat refine ri_X.s rfl rfl rfl ?_
    refine ri_X.bF rfl rfl rfl ?_
    repeat refine ri_X.s rfl rfl rfl ?_
    refine ri_X.ifz rfl rfl (fun hb => ?_) (fun hb => ?_)
    · subst hb
      repeat refine ri_X.s rfl rfl rfl ?_
      refine ri_X.bT rfl rfl (rx_cmpT f (rb_i false).toInt64) ?_
      repeat refine ri_X.sh 1788 rfl rfl rfl rfl ?_
      exact hx
    · subst hb
      repeat refine ri_X.s rfl rfl rfl ?_
      refine ri_X.bT rfl rfl (rx_cmpT f (rb_i true).toInt64) ?_
      repeat refine ri_X.sh 1788 rfl rfl rfl rfl ?_
      exact hx
  | inr e =>
    obtain ⟨h0, h1, h3⟩ := hag
    have h1 : mdt M2 = lw_cB e := h1
    obtain ⟨w, c, n, hx, hc, hn⟩ := next C M2 f (some (.int (lw_cB e))) (some (.int q1)) h3
    refine ⟨w, 1 + c, 6 + n, ?_, by omega, by omega⟩
    clear next
    unfold lw_oc at hw
    dsimp only at hw
    generalize lw_cB e = ce at hw h0 h1 hx ⊢
    repeat refine ri_X.s rfl rfl rfl ?_
    refine ri_X.sldx (lwp_1 k) rfl (by omega) (by omega) ?_
    repeat refine ri_X.s rfl rfl rfl ?_
    refine ri_X.sldx (lwp_2 k) rfl (by omega) (by omega) ?_
    repeat refine ri_X.s rfl rfl rfl ?_
    refine ri_X.call rfl rfl rfl rfl rfl hw ?_
    repeat refine ri_X.s rfl rfl rfl ?_
    refine ri_X.sldx (lwp_1 k) rfl (by omega) (by omega) ?_
    repeat refine ri_X.s rfl rfl rfl ?_
    refine ri_X.sldx (lwp_2 k) rfl (by omega) (by omega) ?_
    repeat refine ri_X.s rfl rfl rfl ?_
    refine ri_X.call0 rfl rfl rfl rfl rfl (hq _ _) ?_
    repeat refine ri_X.s rfl rfl rfl ?_
    refine ri_X.call0 rfl rfl rfl rfl rfl rn_thrown ?_
    rw [h1]
    repeat refine ri_X.s rfl rfl rfl ?_
    refine ri_X.bT rfl rfl rx_eqT ?_
    repeat refine ri_X.s rfl rfl rfl ?_
    refine ri_X.bT rfl rfl (rx_neT h0) ?_
    repeat refine ri_X.sh 1788 rfl rfl rfl rfl ?_
    exact hx
theorem lw_k_rolesOf {bb : Bool} (hbb : decide (sx (k + 2) = 0) = !bb) (hk : k + 4 ≤ sl) (hs : sl ≤ 2051) (hm : ri_M sl sx 19 [.ref 1, .int (sx (k + 1)), .int (rb_i bb)] (rd_W C (md_W M (lw_o f))) (rd_oc (md_W M (lw_o f)) C X)) (hq : ∀ C f, ri_M sl sx 91 [.ref 10, .int (sx (k + 1)), .int (rb_i bb)] (rd_W C (md_W M (lw_o f))) (md_oc (lw_o f) C q)) (hag : lw_ag Rel lw_cB C X q)
    (next : ∀ C M f v5 v6, Rel C M → LW sl sx m (1788, [some (.ref 0), some (.ref 1), some (.ref 10), some (.ref 23), some (.int (nI k)), v5, v6], [], rd_W C (md_W M (lw_o f)))) : LW sl sx (m + 1) (1343, [some (.ref 0), some (.ref 1), some (.ref 10), some (.ref 23), some (.int (nI k)), v5, v6], [], rd_W C (md_W M (lw_o f))) := by
  have hw := lw_w_rolesOf _ _ hm (fun e he => by subst he; exact hag.1)
  clear hm
  obtain ⟨q1, M2⟩ := q
  cases X with
  | inl p =>
    obtain ⟨v, C2⟩ := p
    obtain ⟨h1, h2, h3⟩ := hag
    have h1 : mdt M2 = 0 := h1
    have h2 : q1 = v := h2
    subst h2
    obtain ⟨w, c, n, hx, hc, hn⟩ := next C2 M2 (vp_updL f 0 q1.toInt64) (some (.int 0)) (some (.int q1)) h3
    refine ⟨w, c, n, ?_, by omega, by omega⟩
    clear next
    cases bb with
    | true =>
      repeat refine ri_X.s rfl rfl rfl ?_
      refine ri_X.sldx (lwp_1 k) rfl (by omega) (by omega) ?_
      repeat refine ri_X.s rfl rfl rfl ?_
      refine ri_X.sldx (lwp_2 k) rfl (by omega) (by omega) ?_
      refine ri_X.bF rfl rfl hbb ?_
      repeat refine ri_X.s rfl rfl rfl ?_
      refine ri_X.call0 rfl rfl rfl rfl rfl hw ?_
      repeat refine ri_X.s rfl rfl rfl ?_
      refine ri_X.sldx (lwp_1 k) rfl (by omega) (by omega) ?_
      repeat refine ri_X.s rfl rfl rfl ?_
      refine ri_X.sldx (lwp_2 k) rfl (by omega) (by omega) ?_
      refine ri_X.bF rfl rfl hbb ?_
      repeat refine ri_X.s rfl rfl rfl ?_
      refine ri_X.call0 rfl rfl rfl rfl rfl (hq _ _) ?_
      repeat refine ri_X.s rfl rfl rfl ?_
      refine ri_X.call0 rfl rfl rfl rfl rfl rn_thrown ?_
      rw [h1]
      repeat refine ri_X.s rfl rfl rfl ?_
      refine ri_X.bT rfl rfl rx_eqT ?_
      repeat refine ri_X.s rfl rfl rfl ?_
      refine ri_X.bF rfl rfl rfl ?_
      repeat refine ri_X.s rfl rfl rfl ?_
      refine ri_X.bT rfl rfl (rx_cmpT f q1.toInt64) ?_
      repeat refine ri_X.sh 1788 rfl rfl rfl rfl ?_
      exact hx
    | false =>
      repeat refine ri_X.s rfl rfl rfl ?_
      refine ri_X.sldx (lwp_1 k) rfl (by omega) (by omega) ?_
      repeat refine ri_X.s rfl rfl rfl ?_
      refine ri_X.sldx (lwp_2 k) rfl (by omega) (by omega) ?_
      refine ri_X.bT rfl rfl hbb ?_
      repeat refine ri_X.s rfl rfl rfl ?_
      refine ri_X.call0 rfl rfl rfl rfl rfl hw ?_
      repeat refine ri_X.s rfl rfl rfl ?_
      refine ri_X.sldx (lwp_1 k) rfl (by omega) (by omega) ?_
      repeat refine ri_X.s rfl rfl rfl ?_
      refine ri_X.sldx (lwp_2 k) rfl (by omega) (by omega) ?_
      refine ri_X.bT rfl rfl hbb ?_
      repeat refine ri_X.s rfl rfl rfl ?_
      refine ri_X.call0 rfl rfl rfl rfl rfl (hq _ _) ?_
      repeat refine ri_X.s rfl rfl rfl ?_
      refine ri_X.call0 rfl rfl rfl rfl rfl rn_thrown ?_
      rw [h1]
      repeat refine ri_X.s rfl rfl rfl ?_
      refine ri_X.bT rfl rfl rx_eqT ?_
      repeat refine ri_X.s rfl rfl rfl ?_
      refine ri_X.bF rfl rfl rfl ?_
      repeat refine ri_X.s rfl rfl rfl ?_
      refine ri_X.bT rfl rfl (rx_cmpT f q1.toInt64) ?_
      repeat refine ri_X.sh 1788 rfl rfl rfl rfl ?_
      exact hx
  | inr e =>
    obtain ⟨h0, h1, h3⟩ := hag
    have h1 : mdt M2 = lw_cB e := h1
    obtain ⟨w, c, n, hx, hc, hn⟩ := next C M2 f (some (.int (lw_cB e))) (some (.int q1)) h3
    refine ⟨w, 1 + c, 6 + n, ?_, by omega, by omega⟩
    clear next
    unfold lw_oc at hw
    dsimp only at hw
    generalize lw_cB e = ce at hw h0 h1 hx ⊢
    cases bb with
    | true =>
      repeat refine ri_X.s rfl rfl rfl ?_
      refine ri_X.sldx (lwp_1 k) rfl (by omega) (by omega) ?_
      repeat refine ri_X.s rfl rfl rfl ?_
      refine ri_X.sldx (lwp_2 k) rfl (by omega) (by omega) ?_
      refine ri_X.bF rfl rfl hbb ?_
      repeat refine ri_X.s rfl rfl rfl ?_
      refine ri_X.call rfl rfl rfl rfl rfl hw ?_
      repeat refine ri_X.s rfl rfl rfl ?_
      refine ri_X.sldx (lwp_1 k) rfl (by omega) (by omega) ?_
      repeat refine ri_X.s rfl rfl rfl ?_
      refine ri_X.sldx (lwp_2 k) rfl (by omega) (by omega) ?_
      refine ri_X.bF rfl rfl hbb ?_
      repeat refine ri_X.s rfl rfl rfl ?_
      refine ri_X.call0 rfl rfl rfl rfl rfl (hq _ _) ?_
      repeat refine ri_X.s rfl rfl rfl ?_
      refine ri_X.call0 rfl rfl rfl rfl rfl rn_thrown ?_
      rw [h1]
      repeat refine ri_X.s rfl rfl rfl ?_
      refine ri_X.bT rfl rfl rx_eqT ?_
      repeat refine ri_X.s rfl rfl rfl ?_
      refine ri_X.bT rfl rfl (rx_neT h0) ?_
      repeat refine ri_X.sh 1788 rfl rfl rfl rfl ?_
      exact hx
    | false =>
      repeat refine ri_X.s rfl rfl rfl ?_
      refine ri_X.sldx (lwp_1 k) rfl (by omega) (by omega) ?_
      repeat refine ri_X.s rfl rfl rfl ?_
      refine ri_X.sldx (lwp_2 k) rfl (by omega) (by omega) ?_
      refine ri_X.bT rfl rfl hbb ?_
      repeat refine ri_X.s rfl rfl rfl ?_
      refine ri_X.call rfl rfl rfl rfl rfl hw ?_
      repeat refine ri_X.s rfl rfl rfl ?_
      refine ri_X.sldx (lwp_1 k) rfl (by omega) (by omega) ?_
      repeat refine ri_X.s rfl rfl rfl ?_
      refine ri_X.sldx (lwp_2 k) rfl (by omega) (by omega) ?_
      refine ri_X.bT rfl rfl hbb ?_
      repeat refine ri_X.s rfl rfl rfl ?_
      refine ri_X.call0 rfl rfl rfl rfl rfl (hq _ _) ?_
      repeat refine ri_X.s rfl rfl rfl ?_
      refine ri_X.call0 rfl rfl rfl rfl rfl rn_thrown ?_
      rw [h1]
      repeat refine ri_X.s rfl rfl rfl ?_
      refine ri_X.bT rfl rfl rx_eqT ?_
      repeat refine ri_X.s rfl rfl rfl ?_
      refine ri_X.bT rfl rfl (rx_neT h0) ?_
      repeat refine ri_X.sh 1788 rfl rfl rfl rfl ?_
      exact hx
theorem lw_k_usersOf {bb : Bool} (hbb : decide (sx (k + 2) = 0) = !bb) (hk : k + 4 ≤ sl) (hs : sl ≤ 2051) (hm : ri_M sl sx 20 [.ref 1, .int (sx (k + 1)), .int (rb_i bb)] (rd_W C (md_W M (lw_o f))) (rd_oc (md_W M (lw_o f)) C X)) (hq : ∀ C f, ri_M sl sx 92 [.ref 10, .int (sx (k + 1)), .int (rb_i bb)] (rd_W C (md_W M (lw_o f))) (md_oc (lw_o f) C q)) (hag : lw_ag Rel lw_cB C X q)
    (next : ∀ C M f v5 v6, Rel C M → LW sl sx m (1788, [some (.ref 0), some (.ref 1), some (.ref 10), some (.ref 23), some (.int (nI k)), v5, v6], [], rd_W C (md_W M (lw_o f)))) : LW sl sx (m + 1) (1427, [some (.ref 0), some (.ref 1), some (.ref 10), some (.ref 23), some (.int (nI k)), v5, v6], [], rd_W C (md_W M (lw_o f))) := by
  have hw := lw_w_usersOf _ _ hm (fun e he => by subst he; exact hag.1)
  clear hm
  obtain ⟨q1, M2⟩ := q
  cases X with
  | inl p =>
    obtain ⟨v, C2⟩ := p
    obtain ⟨h1, h2, h3⟩ := hag
    have h1 : mdt M2 = 0 := h1
    have h2 : q1 = v := h2
    subst h2
    obtain ⟨w, c, n, hx, hc, hn⟩ := next C2 M2 (vp_updL f 0 q1.toInt64) (some (.int 0)) (some (.int q1)) h3
    refine ⟨w, c, n, ?_, by omega, by omega⟩
    clear next
    cases bb with
    | true =>
      repeat refine ri_X.s rfl rfl rfl ?_
      refine ri_X.sldx (lwp_1 k) rfl (by omega) (by omega) ?_
      repeat refine ri_X.s rfl rfl rfl ?_
      refine ri_X.sldx (lwp_2 k) rfl (by omega) (by omega) ?_
      refine ri_X.bF rfl rfl hbb ?_
      repeat refine ri_X.s rfl rfl rfl ?_
      refine ri_X.call0 rfl rfl rfl rfl rfl hw ?_
      repeat refine ri_X.s rfl rfl rfl ?_
      refine ri_X.sldx (lwp_1 k) rfl (by omega) (by omega) ?_
      repeat refine ri_X.s rfl rfl rfl ?_
      refine ri_X.sldx (lwp_2 k) rfl (by omega) (by omega) ?_
      refine ri_X.bF rfl rfl hbb ?_
      repeat refine ri_X.s rfl rfl rfl ?_
      refine ri_X.call0 rfl rfl rfl rfl rfl (hq _ _) ?_
      repeat refine ri_X.s rfl rfl rfl ?_
      refine ri_X.call0 rfl rfl rfl rfl rfl rn_thrown ?_
      rw [h1]
      repeat refine ri_X.s rfl rfl rfl ?_
      refine ri_X.bT rfl rfl rx_eqT ?_
      repeat refine ri_X.s rfl rfl rfl ?_
      refine ri_X.bF rfl rfl rfl ?_
      repeat refine ri_X.s rfl rfl rfl ?_
      refine ri_X.bT rfl rfl (rx_cmpT f q1.toInt64) ?_
      repeat refine ri_X.sh 1788 rfl rfl rfl rfl ?_
      exact hx
    | false =>
      repeat refine ri_X.s rfl rfl rfl ?_
      refine ri_X.sldx (lwp_1 k) rfl (by omega) (by omega) ?_
      repeat refine ri_X.s rfl rfl rfl ?_
      refine ri_X.sldx (lwp_2 k) rfl (by omega) (by omega) ?_
      refine ri_X.bT rfl rfl hbb ?_
      repeat refine ri_X.s rfl rfl rfl ?_
      refine ri_X.call0 rfl rfl rfl rfl rfl hw ?_
      repeat refine ri_X.s rfl rfl rfl ?_
      refine ri_X.sldx (lwp_1 k) rfl (by omega) (by omega) ?_
      repeat refine ri_X.s rfl rfl rfl ?_
      refine ri_X.sldx (lwp_2 k) rfl (by omega) (by omega) ?_
      refine ri_X.bT rfl rfl hbb ?_
      repeat refine ri_X.s rfl rfl rfl ?_
      refine ri_X.call0 rfl rfl rfl rfl rfl (hq _ _) ?_
      repeat refine ri_X.s rfl rfl rfl ?_
      refine ri_X.call0 rfl rfl rfl rfl rfl rn_thrown ?_
      rw [h1]
      repeat refine ri_X.s rfl rfl rfl ?_
      refine ri_X.bT rfl rfl rx_eqT ?_
      repeat refine ri_X.s rfl rfl rfl ?_
      refine ri_X.bF rfl rfl rfl ?_
      repeat refine ri_X.s rfl rfl rfl ?_
      refine ri_X.bT rfl rfl (rx_cmpT f q1.toInt64) ?_
      repeat refine ri_X.sh 1788 rfl rfl rfl rfl ?_
      exact hx
  | inr e =>
    obtain ⟨h0, h1, h3⟩ := hag
    have h1 : mdt M2 = lw_cB e := h1
    obtain ⟨w, c, n, hx, hc, hn⟩ := next C M2 f (some (.int (lw_cB e))) (some (.int q1)) h3
    refine ⟨w, 1 + c, 6 + n, ?_, by omega, by omega⟩
    clear next
    unfold lw_oc at hw
    dsimp only at hw
    generalize lw_cB e = ce at hw h0 h1 hx ⊢
    cases bb with
    | true =>
      repeat refine ri_X.s rfl rfl rfl ?_
      refine ri_X.sldx (lwp_1 k) rfl (by omega) (by omega) ?_
      repeat refine ri_X.s rfl rfl rfl ?_
      refine ri_X.sldx (lwp_2 k) rfl (by omega) (by omega) ?_
      refine ri_X.bF rfl rfl hbb ?_
      repeat refine ri_X.s rfl rfl rfl ?_
      refine ri_X.call rfl rfl rfl rfl rfl hw ?_
      repeat refine ri_X.s rfl rfl rfl ?_
      refine ri_X.sldx (lwp_1 k) rfl (by omega) (by omega) ?_
      repeat refine ri_X.s rfl rfl rfl ?_
      refine ri_X.sldx (lwp_2 k) rfl (by omega) (by omega) ?_
      refine ri_X.bF rfl rfl hbb ?_
      repeat refine ri_X.s rfl rfl rfl ?_
      refine ri_X.call0 rfl rfl rfl rfl rfl (hq _ _) ?_
      repeat refine ri_X.s rfl rfl rfl ?_
      refine ri_X.call0 rfl rfl rfl rfl rfl rn_thrown ?_
      rw [h1]
      repeat refine ri_X.s rfl rfl rfl ?_
      refine ri_X.bT rfl rfl rx_eqT ?_
      repeat refine ri_X.s rfl rfl rfl ?_
      refine ri_X.bT rfl rfl (rx_neT h0) ?_
      repeat refine ri_X.sh 1788 rfl rfl rfl rfl ?_
      exact hx
    | false =>
      repeat refine ri_X.s rfl rfl rfl ?_
      refine ri_X.sldx (lwp_1 k) rfl (by omega) (by omega) ?_
      repeat refine ri_X.s rfl rfl rfl ?_
      refine ri_X.sldx (lwp_2 k) rfl (by omega) (by omega) ?_
      refine ri_X.bT rfl rfl hbb ?_
      repeat refine ri_X.s rfl rfl rfl ?_
      refine ri_X.call rfl rfl rfl rfl rfl hw ?_
      repeat refine ri_X.s rfl rfl rfl ?_
      refine ri_X.sldx (lwp_1 k) rfl (by omega) (by omega) ?_
      repeat refine ri_X.s rfl rfl rfl ?_
      refine ri_X.sldx (lwp_2 k) rfl (by omega) (by omega) ?_
      refine ri_X.bT rfl rfl hbb ?_
      repeat refine ri_X.s rfl rfl rfl ?_
      refine ri_X.call0 rfl rfl rfl rfl rfl (hq _ _) ?_
      repeat refine ri_X.s rfl rfl rfl ?_
      refine ri_X.call0 rfl rfl rfl rfl rfl rn_thrown ?_
      rw [h1]
      repeat refine ri_X.s rfl rfl rfl ?_
      refine ri_X.bT rfl rfl rx_eqT ?_
      repeat refine ri_X.s rfl rfl rfl ?_
      refine ri_X.bT rfl rfl (rx_neT h0) ?_
      repeat refine ri_X.sh 1788 rfl rfl rfl rfl ?_
      exact hx
theorem lw_k_permissions {bb : Bool} (hbb : decide (sx (k + 2) = 0) = !bb) (hk : k + 4 ≤ sl) (hs : sl ≤ 2051) (hm : ri_M sl sx 21 [.ref 1, .int (sx (k + 1)), .int (rb_i bb)] (rd_W C (md_W M (lw_o f))) (rd_oc (md_W M (lw_o f)) C X)) (hq : ∀ C f, ri_M sl sx 93 [.ref 10, .int (sx (k + 1)), .int (rb_i bb)] (rd_W C (md_W M (lw_o f))) (md_oc (lw_o f) C q)) (hag : lw_ag Rel lw_cB C X q)
    (next : ∀ C M f v5 v6, Rel C M → LW sl sx m (1788, [some (.ref 0), some (.ref 1), some (.ref 10), some (.ref 23), some (.int (nI k)), v5, v6], [], rd_W C (md_W M (lw_o f)))) : LW sl sx (m + 1) (1511, [some (.ref 0), some (.ref 1), some (.ref 10), some (.ref 23), some (.int (nI k)), v5, v6], [], rd_W C (md_W M (lw_o f))) := by
  have hw := lw_w_permissions _ _ hm (fun e he => by subst he; exact hag.1)
  clear hm
  obtain ⟨q1, M2⟩ := q
  cases X with
  | inl p =>
    obtain ⟨v, C2⟩ := p
    obtain ⟨h1, h2, h3⟩ := hag
    have h1 : mdt M2 = 0 := h1
    have h2 : q1 = v := h2
    subst h2
    obtain ⟨w, c, n, hx, hc, hn⟩ := next C2 M2 (vp_updL f 0 q1.toInt64) (some (.int 0)) (some (.int q1)) h3
    refine ⟨w, c, n, ?_, by omega, by omega⟩
    clear next
    cases bb with
    | true =>
      repeat refine ri_X.s rfl rfl rfl ?_
      refine ri_X.sldx (lwp_1 k) rfl (by omega) (by omega) ?_
      repeat refine ri_X.s rfl rfl rfl ?_
      refine ri_X.sldx (lwp_2 k) rfl (by omega) (by omega) ?_
      refine ri_X.bF rfl rfl hbb ?_
      repeat refine ri_X.s rfl rfl rfl ?_
      refine ri_X.call0 rfl rfl rfl rfl rfl hw ?_
      repeat refine ri_X.s rfl rfl rfl ?_
      refine ri_X.sldx (lwp_1 k) rfl (by omega) (by omega) ?_
      repeat refine ri_X.s rfl rfl rfl ?_
      refine ri_X.sldx (lwp_2 k) rfl (by omega) (by omega) ?_
      refine ri_X.bF rfl rfl hbb ?_
      repeat refine ri_X.s rfl rfl rfl ?_
      refine ri_X.call0 rfl rfl rfl rfl rfl (hq _ _) ?_
      repeat refine ri_X.s rfl rfl rfl ?_
      refine ri_X.call0 rfl rfl rfl rfl rfl rn_thrown ?_
      rw [h1]
      repeat refine ri_X.s rfl rfl rfl ?_
      refine ri_X.bT rfl rfl rx_eqT ?_
      repeat refine ri_X.s rfl rfl rfl ?_
      refine ri_X.bF rfl rfl rfl ?_
      repeat refine ri_X.s rfl rfl rfl ?_
      refine ri_X.bT rfl rfl (rx_cmpT f q1.toInt64) ?_
      repeat refine ri_X.sh 1788 rfl rfl rfl rfl ?_
      exact hx
    | false =>
      repeat refine ri_X.s rfl rfl rfl ?_
      refine ri_X.sldx (lwp_1 k) rfl (by omega) (by omega) ?_
      repeat refine ri_X.s rfl rfl rfl ?_
      refine ri_X.sldx (lwp_2 k) rfl (by omega) (by omega) ?_
      refine ri_X.bT rfl rfl hbb ?_
      repeat refine ri_X.s rfl rfl rfl ?_
      refine ri_X.call0 rfl rfl rfl rfl rfl hw ?_
      repeat refine ri_X.s rfl rfl rfl ?_
      refine ri_X.sldx (lwp_1 k) rfl (by omega) (by omega) ?_
      repeat refine ri_X.s rfl rfl rfl ?_
      refine ri_X.sldx (lwp_2 k) rfl (by omega) (by omega) ?_
      refine ri_X.bT rfl rfl hbb ?_
      repeat refine ri_X.s rfl rfl rfl ?_
      refine ri_X.call0 rfl rfl rfl rfl rfl (hq _ _) ?_
      repeat refine ri_X.s rfl rfl rfl ?_
      refine ri_X.call0 rfl rfl rfl rfl rfl rn_thrown ?_
      rw [h1]
      repeat refine ri_X.s rfl rfl rfl ?_
      refine ri_X.bT rfl rfl rx_eqT ?_
      repeat refine ri_X.s rfl rfl rfl ?_
      refine ri_X.bF rfl rfl rfl ?_
      repeat refine ri_X.s rfl rfl rfl ?_
      refine ri_X.bT rfl rfl (rx_cmpT f q1.toInt64) ?_
      repeat refine ri_X.sh 1788 rfl rfl rfl rfl ?_
      exact hx
  | inr e =>
    obtain ⟨h0, h1, h3⟩ := hag
    have h1 : mdt M2 = lw_cB e := h1
    obtain ⟨w, c, n, hx, hc, hn⟩ := next C M2 f (some (.int (lw_cB e))) (some (.int q1)) h3
    refine ⟨w, 1 + c, 6 + n, ?_, by omega, by omega⟩
    clear next
    unfold lw_oc at hw
    dsimp only at hw
    generalize lw_cB e = ce at hw h0 h1 hx ⊢
    cases bb with
    | true =>
      repeat refine ri_X.s rfl rfl rfl ?_
      refine ri_X.sldx (lwp_1 k) rfl (by omega) (by omega) ?_
      repeat refine ri_X.s rfl rfl rfl ?_
      refine ri_X.sldx (lwp_2 k) rfl (by omega) (by omega) ?_
      refine ri_X.bF rfl rfl hbb ?_
      repeat refine ri_X.s rfl rfl rfl ?_
      refine ri_X.call rfl rfl rfl rfl rfl hw ?_
      repeat refine ri_X.s rfl rfl rfl ?_
      refine ri_X.sldx (lwp_1 k) rfl (by omega) (by omega) ?_
      repeat refine ri_X.s rfl rfl rfl ?_
      refine ri_X.sldx (lwp_2 k) rfl (by omega) (by omega) ?_
      refine ri_X.bF rfl rfl hbb ?_
      repeat refine ri_X.s rfl rfl rfl ?_
      refine ri_X.call0 rfl rfl rfl rfl rfl (hq _ _) ?_
      repeat refine ri_X.s rfl rfl rfl ?_
      refine ri_X.call0 rfl rfl rfl rfl rfl rn_thrown ?_
      rw [h1]
      repeat refine ri_X.s rfl rfl rfl ?_
      refine ri_X.bT rfl rfl rx_eqT ?_
      repeat refine ri_X.s rfl rfl rfl ?_
      refine ri_X.bT rfl rfl (rx_neT h0) ?_
      repeat refine ri_X.sh 1788 rfl rfl rfl rfl ?_
      exact hx
    | false =>
      repeat refine ri_X.s rfl rfl rfl ?_
      refine ri_X.sldx (lwp_1 k) rfl (by omega) (by omega) ?_
      repeat refine ri_X.s rfl rfl rfl ?_
      refine ri_X.sldx (lwp_2 k) rfl (by omega) (by omega) ?_
      refine ri_X.bT rfl rfl hbb ?_
      repeat refine ri_X.s rfl rfl rfl ?_
      refine ri_X.call rfl rfl rfl rfl rfl hw ?_
      repeat refine ri_X.s rfl rfl rfl ?_
      refine ri_X.sldx (lwp_1 k) rfl (by omega) (by omega) ?_
      repeat refine ri_X.s rfl rfl rfl ?_
      refine ri_X.sldx (lwp_2 k) rfl (by omega) (by omega) ?_
      refine ri_X.bT rfl rfl hbb ?_
      repeat refine ri_X.s rfl rfl rfl ?_
      refine ri_X.call0 rfl rfl rfl rfl rfl (hq _ _) ?_
      repeat refine ri_X.s rfl rfl rfl ?_
      refine ri_X.call0 rfl rfl rfl rfl rfl rn_thrown ?_
      rw [h1]
      repeat refine ri_X.s rfl rfl rfl ?_
      refine ri_X.bT rfl rfl rx_eqT ?_
      repeat refine ri_X.s rfl rfl rfl ?_
      refine ri_X.bT rfl rfl (rx_neT h0) ?_
      repeat refine ri_X.sh 1788 rfl rfl rfl rfl ?_
      exact hx
theorem lw_k_juniors (hk : k + 4 ≤ sl) (hs : sl ≤ 2051) (hm : ri_M sl sx 22 [.ref 1, .int (sx (k + 1))] (rd_W C (md_W M (lw_o f))) (rd_oc (md_W M (lw_o f)) C X)) (hq : ∀ C f, ri_M sl sx 94 [.ref 10, .int (sx (k + 1))] (rd_W C (md_W M (lw_o f))) (md_oc (lw_o f) C q)) (hag : lw_ag Rel lw_cB C X q)
    (next : ∀ C M f v5 v6, Rel C M → LW sl sx m (1788, [some (.ref 0), some (.ref 1), some (.ref 10), some (.ref 23), some (.int (nI k)), v5, v6], [], rd_W C (md_W M (lw_o f)))) : LW sl sx (m + 1) (1595, [some (.ref 0), some (.ref 1), some (.ref 10), some (.ref 23), some (.int (nI k)), v5, v6], [], rd_W C (md_W M (lw_o f))) := by
  have hw := lw_w_juniors _ hm (fun e he => by subst he; exact hag.1)
  clear hm
  obtain ⟨q1, M2⟩ := q
  cases X with
  | inl p =>
    obtain ⟨v, C2⟩ := p
    obtain ⟨h1, h2, h3⟩ := hag
    have h1 : mdt M2 = 0 := h1
    have h2 : q1 = v := h2
    subst h2
    obtain ⟨w, c, n, hx, hc, hn⟩ := next C2 M2 (vp_updL f 0 q1.toInt64) (some (.int 0)) (some (.int q1)) h3
    refine ⟨w, c, n, ?_, by omega, by omega⟩
    clear next
    repeat refine ri_X.s rfl rfl rfl ?_
    refine ri_X.sldx (lwp_1 k) rfl (by omega) (by omega) ?_
    repeat refine ri_X.s rfl rfl rfl ?_
    refine ri_X.call0 rfl rfl rfl rfl rfl hw ?_
    repeat refine ri_X.s rfl rfl rfl ?_
    refine ri_X.sldx (lwp_1 k) rfl (by omega) (by omega) ?_
    repeat refine ri_X.s rfl rfl rfl ?_
    refine ri_X.call0 rfl rfl rfl rfl rfl (hq _ _) ?_
    repeat refine ri_X.s rfl rfl rfl ?_
    refine ri_X.call0 rfl rfl rfl rfl rfl rn_thrown ?_
    rw [h1]
    repeat refine ri_X.s rfl rfl rfl ?_
    refine ri_X.bT rfl rfl rx_eqT ?_
    repeat refine ri_X.s rfl rfl rfl ?_
    refine ri_X.bF rfl rfl rfl ?_
    repeat refine ri_X.s rfl rfl rfl ?_
    refine ri_X.bT rfl rfl (rx_cmpT f q1.toInt64) ?_
    repeat refine ri_X.sh 1788 rfl rfl rfl rfl ?_
    exact hx
  | inr e =>
    obtain ⟨h0, h1, h3⟩ := hag
    have h1 : mdt M2 = lw_cB e := h1
    obtain ⟨w, c, n, hx, hc, hn⟩ := next C M2 f (some (.int (lw_cB e))) (some (.int q1)) h3
    refine ⟨w, 1 + c, 6 + n, ?_, by omega, by omega⟩
    clear next
    unfold lw_oc at hw
    dsimp only at hw
    generalize lw_cB e = ce at hw h0 h1 hx ⊢
    repeat refine ri_X.s rfl rfl rfl ?_
    refine ri_X.sldx (lwp_1 k) rfl (by omega) (by omega) ?_
    repeat refine ri_X.s rfl rfl rfl ?_
    refine ri_X.call rfl rfl rfl rfl rfl hw ?_
    repeat refine ri_X.s rfl rfl rfl ?_
    refine ri_X.sldx (lwp_1 k) rfl (by omega) (by omega) ?_
    repeat refine ri_X.s rfl rfl rfl ?_
    refine ri_X.call0 rfl rfl rfl rfl rfl (hq _ _) ?_
    repeat refine ri_X.s rfl rfl rfl ?_
    refine ri_X.call0 rfl rfl rfl rfl rfl rn_thrown ?_
    rw [h1]
    repeat refine ri_X.s rfl rfl rfl ?_
    refine ri_X.bT rfl rfl rx_eqT ?_
    repeat refine ri_X.s rfl rfl rfl ?_
    refine ri_X.bT rfl rfl (rx_neT h0) ?_
    repeat refine ri_X.sh 1788 rfl rfl rfl rfl ?_
    exact hx
theorem lw_k_active (hk : k + 4 ≤ sl) (hs : sl ≤ 2051) (hm : ri_M sl sx 23 [.ref 1, .int (sx (k + 1))] (rd_W C (md_W M (lw_o f))) (rd_oc (md_W M (lw_o f)) C X)) (hq : ∀ C f, ri_M sl sx 95 [.ref 10, .int (sx (k + 1))] (rd_W C (md_W M (lw_o f))) (md_oc (lw_o f) C q)) (hag : lw_ag Rel lw_cB C X q)
    (next : ∀ C M f v5 v6, Rel C M → LW sl sx m (1788, [some (.ref 0), some (.ref 1), some (.ref 10), some (.ref 23), some (.int (nI k)), v5, v6], [], rd_W C (md_W M (lw_o f)))) : LW sl sx (m + 1) (1651, [some (.ref 0), some (.ref 1), some (.ref 10), some (.ref 23), some (.int (nI k)), v5, v6], [], rd_W C (md_W M (lw_o f))) := by
  have hw := lw_w_active _ hm (fun e he => by subst he; exact hag.1)
  clear hm
  obtain ⟨q1, M2⟩ := q
  cases X with
  | inl p =>
    obtain ⟨v, C2⟩ := p
    obtain ⟨h1, h2, h3⟩ := hag
    have h1 : mdt M2 = 0 := h1
    have h2 : q1 = v := h2
    subst h2
    obtain ⟨w, c, n, hx, hc, hn⟩ := next C2 M2 (vp_updL f 0 q1.toInt64) (some (.int 0)) (some (.int q1)) h3
    refine ⟨w, c, n, ?_, by omega, by omega⟩
    clear next
    repeat refine ri_X.s rfl rfl rfl ?_
    refine ri_X.sldx (lwp_1 k) rfl (by omega) (by omega) ?_
    repeat refine ri_X.s rfl rfl rfl ?_
    refine ri_X.call0 rfl rfl rfl rfl rfl hw ?_
    repeat refine ri_X.s rfl rfl rfl ?_
    refine ri_X.sldx (lwp_1 k) rfl (by omega) (by omega) ?_
    repeat refine ri_X.s rfl rfl rfl ?_
    refine ri_X.call0 rfl rfl rfl rfl rfl (hq _ _) ?_
    repeat refine ri_X.s rfl rfl rfl ?_
    refine ri_X.call0 rfl rfl rfl rfl rfl rn_thrown ?_
    rw [h1]
    repeat refine ri_X.s rfl rfl rfl ?_
    refine ri_X.bT rfl rfl rx_eqT ?_
    repeat refine ri_X.s rfl rfl rfl ?_
    refine ri_X.bF rfl rfl rfl ?_
    repeat refine ri_X.s rfl rfl rfl ?_
    refine ri_X.bT rfl rfl (rx_cmpT f q1.toInt64) ?_
    repeat refine ri_X.sh 1788 rfl rfl rfl rfl ?_
    exact hx
  | inr e =>
    obtain ⟨h0, h1, h3⟩ := hag
    have h1 : mdt M2 = lw_cB e := h1
    obtain ⟨w, c, n, hx, hc, hn⟩ := next C M2 f (some (.int (lw_cB e))) (some (.int q1)) h3
    refine ⟨w, 1 + c, 6 + n, ?_, by omega, by omega⟩
    clear next
    unfold lw_oc at hw
    dsimp only at hw
    generalize lw_cB e = ce at hw h0 h1 hx ⊢
    repeat refine ri_X.s rfl rfl rfl ?_
    refine ri_X.sldx (lwp_1 k) rfl (by omega) (by omega) ?_
    repeat refine ri_X.s rfl rfl rfl ?_
    refine ri_X.call rfl rfl rfl rfl rfl hw ?_
    repeat refine ri_X.s rfl rfl rfl ?_
    refine ri_X.sldx (lwp_1 k) rfl (by omega) (by omega) ?_
    repeat refine ri_X.s rfl rfl rfl ?_
    refine ri_X.call0 rfl rfl rfl rfl rfl (hq _ _) ?_
    repeat refine ri_X.s rfl rfl rfl ?_
    refine ri_X.call0 rfl rfl rfl rfl rfl rn_thrown ?_
    rw [h1]
    repeat refine ri_X.s rfl rfl rfl ?_
    refine ri_X.bT rfl rfl rx_eqT ?_
    repeat refine ri_X.s rfl rfl rfl ?_
    refine ri_X.bT rfl rfl (rx_neT h0) ?_
    repeat refine ri_X.sh 1788 rfl rfl rfl rfl ?_
    exact hx
theorem lw_k_sessionsOf (hk : k + 4 ≤ sl) (hs : sl ≤ 2051) (hm : ri_M sl sx 24 [.ref 1, .int (sx (k + 1))] (rd_W C (md_W M (lw_o f))) (rd_oc (md_W M (lw_o f)) C X)) (hq : ∀ C f, ri_M sl sx 96 [.ref 10, .int (sx (k + 1))] (rd_W C (md_W M (lw_o f))) (md_oc (lw_o f) C q)) (hag : lw_ag Rel lw_cB C X q)
    (next : ∀ C M f v5 v6, Rel C M → LW sl sx m (1788, [some (.ref 0), some (.ref 1), some (.ref 10), some (.ref 23), some (.int (nI k)), v5, v6], [], rd_W C (md_W M (lw_o f)))) : LW sl sx (m + 1) (1707, [some (.ref 0), some (.ref 1), some (.ref 10), some (.ref 23), some (.int (nI k)), v5, v6], [], rd_W C (md_W M (lw_o f))) := by
  have hw := lw_w_sessionsOf _ hm (fun e he => by subst he; exact hag.1)
  clear hm
  obtain ⟨q1, M2⟩ := q
  cases X with
  | inl p =>
    obtain ⟨v, C2⟩ := p
    obtain ⟨h1, h2, h3⟩ := hag
    have h1 : mdt M2 = 0 := h1
    have h2 : q1 = v := h2
    subst h2
    obtain ⟨w, c, n, hx, hc, hn⟩ := next C2 M2 (vp_updL f 0 q1.toInt64) (some (.int 0)) (some (.int q1)) h3
    refine ⟨w, c, n, ?_, by omega, by omega⟩
    clear next
    repeat refine ri_X.s rfl rfl rfl ?_
    refine ri_X.sldx (lwp_1 k) rfl (by omega) (by omega) ?_
    repeat refine ri_X.s rfl rfl rfl ?_
    refine ri_X.call0 rfl rfl rfl rfl rfl hw ?_
    repeat refine ri_X.s rfl rfl rfl ?_
    refine ri_X.sldx (lwp_1 k) rfl (by omega) (by omega) ?_
    repeat refine ri_X.s rfl rfl rfl ?_
    refine ri_X.call0 rfl rfl rfl rfl rfl (hq _ _) ?_
    repeat refine ri_X.s rfl rfl rfl ?_
    refine ri_X.call0 rfl rfl rfl rfl rfl rn_thrown ?_
    rw [h1]
    repeat refine ri_X.s rfl rfl rfl ?_
    refine ri_X.bT rfl rfl rx_eqT ?_
    repeat refine ri_X.s rfl rfl rfl ?_
    refine ri_X.bF rfl rfl rfl ?_
    repeat refine ri_X.s rfl rfl rfl ?_
    refine ri_X.bT rfl rfl (rx_cmpT f q1.toInt64) ?_
    repeat refine ri_X.sh 1788 rfl rfl rfl rfl ?_
    exact hx
  | inr e =>
    obtain ⟨h0, h1, h3⟩ := hag
    have h1 : mdt M2 = lw_cB e := h1
    obtain ⟨w, c, n, hx, hc, hn⟩ := next C M2 f (some (.int (lw_cB e))) (some (.int q1)) h3
    refine ⟨w, 1 + c, 6 + n, ?_, by omega, by omega⟩
    clear next
    unfold lw_oc at hw
    dsimp only at hw
    generalize lw_cB e = ce at hw h0 h1 hx ⊢
    repeat refine ri_X.s rfl rfl rfl ?_
    refine ri_X.sldx (lwp_1 k) rfl (by omega) (by omega) ?_
    repeat refine ri_X.s rfl rfl rfl ?_
    refine ri_X.call rfl rfl rfl rfl rfl hw ?_
    repeat refine ri_X.s rfl rfl rfl ?_
    refine ri_X.sldx (lwp_1 k) rfl (by omega) (by omega) ?_
    repeat refine ri_X.s rfl rfl rfl ?_
    refine ri_X.call0 rfl rfl rfl rfl rfl (hq _ _) ?_
    repeat refine ri_X.s rfl rfl rfl ?_
    refine ri_X.call0 rfl rfl rfl rfl rfl rn_thrown ?_
    rw [h1]
    repeat refine ri_X.s rfl rfl rfl ?_
    refine ri_X.bT rfl rfl rx_eqT ?_
    repeat refine ri_X.s rfl rfl rfl ?_
    refine ri_X.bT rfl rfl (rx_neT h0) ?_
    repeat refine ri_X.sh 1788 rfl rfl rfl rfl ?_
    exact hx
theorem lw_k_there (hk : k + 4 ≤ sl) (hs : sl ≤ 2051) {x : Int32} (hm : ri_M sl sx 25 [.ref 1, .int (sx (k + 1))] (rd_W C (md_W M (lw_o f))) (.inl (some x), rd_W C (md_W M (lw_o f)), 0, 0)) (hq : ri_M sl sx 97 [.ref 10, .int (sx (k + 1))] (rd_W C (md_W M (lw_o f))) (md_oc (lw_o f) C q)) (hag : q.1 = x ∧ Rel C q.2)
    (next : ∀ C M f v5 v6, Rel C M → LW sl sx m (1788, [some (.ref 0), some (.ref 1), some (.ref 10), some (.ref 23), some (.int (nI k)), v5, v6], [], rd_W C (md_W M (lw_o f)))) : LW sl sx (m + 1) (1763, [some (.ref 0), some (.ref 1), some (.ref 10), some (.ref 23), some (.int (nI k)), v5, v6], [], rd_W C (md_W M (lw_o f))) := by
  obtain ⟨q1, M2⟩ := q
  obtain ⟨h1, h3⟩ := hag
  have h1 : q1 = x := h1
  subst h1
  obtain ⟨w, c, n, hx, hc, hn⟩ := next C M2 f v5 v6 h3
  refine ⟨w, c, n, ?_, by omega, by omega⟩
  clear next
  repeat refine ri_X.s rfl rfl rfl ?_
  refine ri_X.sldx (lwp_1 k) rfl (by omega) (by omega) ?_
  repeat refine ri_X.s rfl rfl rfl ?_
  refine ri_X.call0 rfl rfl rfl rfl rfl hm ?_
  repeat refine ri_X.s rfl rfl rfl ?_
  refine ri_X.sldx (lwp_1 k) rfl (by omega) (by omega) ?_
  repeat refine ri_X.s rfl rfl rfl ?_
  refine ri_X.call0 rfl rfl rfl rfl rfl hq ?_
  repeat refine ri_X.s rfl rfl rfl ?_
  refine ri_X.bT rfl rfl rx_eqT ?_
  exact hx
end L52
