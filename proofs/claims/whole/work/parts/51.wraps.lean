/-! The law's own methods, as pure runs -/
def lw_o (f : Nat → Int64) : ri_W := [.inl (1, 1, .inr (.inl f))]
def lw_cA (e : Nat) : Int32 := match e with
  | 2 => 1
  | _ => 0
def lw_cB (e : Nat) : Int32 := match e with
  | 0 => 1
  | _ => 0
def lw_cC (e : Nat) : Int32 := match e with
  | 0 => 1
  | 2 => 2
  | _ => 0
def lw_cD (e : Nat) : Int32 := match e with
  | 0 => 1
  | 1 => 2
  | 2 => 3
  | _ => 0
def lw_oc (cd : Nat → Int32) (M : md_S) (f : Nat → Int64) (C : rd_S) (X : rd_R) : ri_O := match X with
  | .inl q => (.inl (some 0), rd_W q.2 (md_W M (lw_o (vp_updL f 0 q.1.toInt64))), 0, 0)
  | .inr e => (.inl (some (cd e)), rd_W C (md_W M (lw_o f)), 1, 6)
section L51
variable {sl : Nat} {sx : Nat → Int32} {C : rd_S} {M : md_S} {f : Nat → Int64} {w : ri_W} {X : rd_R}
theorem lw_WO (g : Nat → Int64) : (rd_W C (md_W M (lw_o f))).set 22 (.inl (1, 1, .inr (.inl g))) = rd_W C (md_W M (lw_o g)) := rfl
theorem lw_cell {k : Nat} (hk : k < 4) (hs : sl ≤ 2051) : ri_M sl sx 98 [.ref 0, .int (nI k)] w (.inl (some (if k < sl then sx k else 0)), w, 0, 0) := by
  unfold ri_M
  repeat refine ri_X.s rfl rfl rfl ?_
  by_cases h : k < sl
  · rw [if_pos h]
    refine ri_X.bF rfl rfl (b := ri_cd .ge (nI k) (nI sl)) (rx_ge h (Nat.ble_eq.mpr (by omega))) ?_
    repeat refine ri_X.s rfl rfl rfl ?_
    refine ri_X.sld rfl h (by omega) ?_
    repeat refine ri_X.s rfl rfl rfl ?_
    exact ri_X.fin rfl rfl
  · rw [if_neg h]
    refine ri_X.bT rfl rfl (b := ri_cd .ge (nI k) (nI sl)) (rx_geT (by omega) (by omega)) ?_
    repeat refine ri_X.s rfl rfl rfl ?_
    exact ri_X.fin rfl rfl
theorem lw_w_addUser  (hm : ri_M sl sx 1 [.ref 1] (rd_W C (md_W M (lw_o f))) (rd_oc (md_W M (lw_o f)) C X)) (hX : ∀ e, X = .inr e → ¬ lw_cA e = 0) : ri_M sl sx 99 [.ref 1, .ref 23] (rd_W C (md_W M (lw_o f))) (lw_oc lw_cA M f C X) := by
  unfold ri_M
  cases X with
  | inl q =>
    obtain ⟨v, C2⟩ := q
    repeat refine ri_X.s rfl rfl rfl ?_
    refine ri_X.call0 rfl rfl rfl rfl rfl hm ?_
    repeat refine ri_X.s rfl rfl rfl ?_
    rw [lw_WO]
    repeat refine ri_X.s rfl rfl rfl ?_
    exact ri_X.fin rfl rfl
  | inr e =>
    have hX := hX e rfl
    match e, hX, hm with
    | 0, hX, _ => exact absurd rfl hX
    | 1, hX, _ => exact absurd rfl hX
    | 2, _, hm =>
      refine ri_X.eqo (o1 := (.inl (some 1), rd_W C (md_W M (lw_o f)), 1 + 0, 6 + 0)) rfl ?_
      repeat refine ri_X.s rfl rfl rfl ?_
      refine ri_X.cat rfl rfl rfl rfl rfl rfl rfl rfl hm ?_
      repeat refine ri_X.s rfl rfl rfl ?_
      exact ri_X.fin rfl rfl
    | n + 3, hX, _ => exact absurd rfl hX
theorem lw_w_deleteUser (x : Int32) (hm : ri_M sl sx 2 [.ref 1, .int x] (rd_W C (md_W M (lw_o f))) (rd_oc (md_W M (lw_o f)) C X)) (hX : ∀ e, X = .inr e → ¬ lw_cB e = 0) : ri_M sl sx 100 [.ref 1, .int x, .ref 23] (rd_W C (md_W M (lw_o f))) (lw_oc lw_cB M f C X) := by
  unfold ri_M
  cases X with
  | inl q =>
    obtain ⟨v, C2⟩ := q
    repeat refine ri_X.s rfl rfl rfl ?_
    refine ri_X.call0 rfl rfl rfl rfl rfl hm ?_
    repeat refine ri_X.s rfl rfl rfl ?_
    rw [lw_WO]
    repeat refine ri_X.s rfl rfl rfl ?_
    exact ri_X.fin rfl rfl
  | inr e =>
    have hX := hX e rfl
    match e, hX, hm with
    | 0, _, hm =>
      refine ri_X.eqo (o1 := (.inl (some 1), rd_W C (md_W M (lw_o f)), 1 + 0, 6 + 0)) rfl ?_
      repeat refine ri_X.s rfl rfl rfl ?_
      refine ri_X.cat rfl rfl rfl rfl rfl rfl rfl rfl hm ?_
      repeat refine ri_X.s rfl rfl rfl ?_
      exact ri_X.fin rfl rfl
    | 1, hX, _ => exact absurd rfl hX
    | 2, hX, _ => exact absurd rfl hX
    | n + 3, hX, _ => exact absurd rfl hX
theorem lw_w_addRole  (hm : ri_M sl sx 3 [.ref 1] (rd_W C (md_W M (lw_o f))) (rd_oc (md_W M (lw_o f)) C X)) (hX : ∀ e, X = .inr e → ¬ lw_cA e = 0) : ri_M sl sx 101 [.ref 1, .ref 23] (rd_W C (md_W M (lw_o f))) (lw_oc lw_cA M f C X) := by
  unfold ri_M
  cases X with
  | inl q =>
    obtain ⟨v, C2⟩ := q
    repeat refine ri_X.s rfl rfl rfl ?_
    refine ri_X.call0 rfl rfl rfl rfl rfl hm ?_
    repeat refine ri_X.s rfl rfl rfl ?_
    rw [lw_WO]
    repeat refine ri_X.s rfl rfl rfl ?_
    exact ri_X.fin rfl rfl
  | inr e =>
    have hX := hX e rfl
    match e, hX, hm with
    | 0, hX, _ => exact absurd rfl hX
    | 1, hX, _ => exact absurd rfl hX
    | 2, _, hm =>
      refine ri_X.eqo (o1 := (.inl (some 1), rd_W C (md_W M (lw_o f)), 1 + 0, 6 + 0)) rfl ?_
      repeat refine ri_X.s rfl rfl rfl ?_
      refine ri_X.cat rfl rfl rfl rfl rfl rfl rfl rfl hm ?_
      repeat refine ri_X.s rfl rfl rfl ?_
      exact ri_X.fin rfl rfl
    | n + 3, hX, _ => exact absurd rfl hX
theorem lw_w_deleteRole (x : Int32) (hm : ri_M sl sx 4 [.ref 1, .int x] (rd_W C (md_W M (lw_o f))) (rd_oc (md_W M (lw_o f)) C X)) (hX : ∀ e, X = .inr e → ¬ lw_cB e = 0) : ri_M sl sx 102 [.ref 1, .int x, .ref 23] (rd_W C (md_W M (lw_o f))) (lw_oc lw_cB M f C X) := by
  unfold ri_M
  cases X with
  | inl q =>
    obtain ⟨v, C2⟩ := q
    repeat refine ri_X.s rfl rfl rfl ?_
    refine ri_X.call0 rfl rfl rfl rfl rfl hm ?_
    repeat refine ri_X.s rfl rfl rfl ?_
    rw [lw_WO]
    repeat refine ri_X.s rfl rfl rfl ?_
    exact ri_X.fin rfl rfl
  | inr e =>
    have hX := hX e rfl
    match e, hX, hm with
    | 0, _, hm =>
      refine ri_X.eqo (o1 := (.inl (some 1), rd_W C (md_W M (lw_o f)), 1 + 0, 6 + 0)) rfl ?_
      repeat refine ri_X.s rfl rfl rfl ?_
      refine ri_X.cat rfl rfl rfl rfl rfl rfl rfl rfl hm ?_
      repeat refine ri_X.s rfl rfl rfl ?_
      exact ri_X.fin rfl rfl
    | 1, hX, _ => exact absurd rfl hX
    | 2, hX, _ => exact absurd rfl hX
    | n + 3, hX, _ => exact absurd rfl hX
theorem lw_w_assign (x : Int32) (y : Int32) (hm : ri_M sl sx 5 [.ref 1, .int x, .int y] (rd_W C (md_W M (lw_o f))) (rd_oc (md_W M (lw_o f)) C X)) (hX : ∀ e, X = .inr e → ¬ lw_cC e = 0) : ri_M sl sx 103 [.ref 1, .int x, .int y, .ref 23] (rd_W C (md_W M (lw_o f))) (lw_oc lw_cC M f C X) := by
  unfold ri_M
  cases X with
  | inl q =>
    obtain ⟨v, C2⟩ := q
    repeat refine ri_X.s rfl rfl rfl ?_
    refine ri_X.call0 rfl rfl rfl rfl rfl hm ?_
    repeat refine ri_X.s rfl rfl rfl ?_
    rw [lw_WO]
    repeat refine ri_X.s rfl rfl rfl ?_
    exact ri_X.fin rfl rfl
  | inr e =>
    have hX := hX e rfl
    match e, hX, hm with
    | 0, _, hm =>
      refine ri_X.eqo (o1 := (.inl (some 1), rd_W C (md_W M (lw_o f)), 1 + 0, 6 + 0)) rfl ?_
      repeat refine ri_X.s rfl rfl rfl ?_
      refine ri_X.cat rfl rfl rfl rfl rfl rfl rfl rfl hm ?_
      repeat refine ri_X.s rfl rfl rfl ?_
      exact ri_X.fin rfl rfl
    | 1, hX, _ => exact absurd rfl hX
    | 2, _, hm =>
      refine ri_X.eqo (o1 := (.inl (some 2), rd_W C (md_W M (lw_o f)), 1 + 0, 6 + 0)) rfl ?_
      repeat refine ri_X.s rfl rfl rfl ?_
      refine ri_X.cat rfl rfl rfl rfl rfl rfl rfl rfl hm ?_
      repeat refine ri_X.s rfl rfl rfl ?_
      exact ri_X.fin rfl rfl
    | n + 3, hX, _ => exact absurd rfl hX
theorem lw_w_deassign (x : Int32) (y : Int32) (hm : ri_M sl sx 6 [.ref 1, .int x, .int y] (rd_W C (md_W M (lw_o f))) (rd_oc (md_W M (lw_o f)) C X)) (hX : ∀ e, X = .inr e → ¬ lw_cC e = 0) : ri_M sl sx 104 [.ref 1, .int x, .int y, .ref 23] (rd_W C (md_W M (lw_o f))) (lw_oc lw_cC M f C X) := by
  unfold ri_M
  cases X with
  | inl q =>
    obtain ⟨v, C2⟩ := q
    repeat refine ri_X.s rfl rfl rfl ?_
    refine ri_X.call0 rfl rfl rfl rfl rfl hm ?_
    repeat refine ri_X.s rfl rfl rfl ?_
    rw [lw_WO]
    repeat refine ri_X.s rfl rfl rfl ?_
    exact ri_X.fin rfl rfl
  | inr e =>
    have hX := hX e rfl
    match e, hX, hm with
    | 0, _, hm =>
      refine ri_X.eqo (o1 := (.inl (some 1), rd_W C (md_W M (lw_o f)), 1 + 0, 6 + 0)) rfl ?_
      repeat refine ri_X.s rfl rfl rfl ?_
      refine ri_X.cat rfl rfl rfl rfl rfl rfl rfl rfl hm ?_
      repeat refine ri_X.s rfl rfl rfl ?_
      exact ri_X.fin rfl rfl
    | 1, hX, _ => exact absurd rfl hX
    | 2, _, hm =>
      refine ri_X.eqo (o1 := (.inl (some 2), rd_W C (md_W M (lw_o f)), 1 + 0, 6 + 0)) rfl ?_
      repeat refine ri_X.s rfl rfl rfl ?_
      refine ri_X.cat rfl rfl rfl rfl rfl rfl rfl rfl hm ?_
      repeat refine ri_X.s rfl rfl rfl ?_
      exact ri_X.fin rfl rfl
    | n + 3, hX, _ => exact absurd rfl hX
theorem lw_w_grant (x : Int32) (y : Int32) (hm : ri_M sl sx 7 [.ref 1, .int x, .int y] (rd_W C (md_W M (lw_o f))) (rd_oc (md_W M (lw_o f)) C X)) (hX : ∀ e, X = .inr e → ¬ lw_cC e = 0) : ri_M sl sx 105 [.ref 1, .int x, .int y, .ref 23] (rd_W C (md_W M (lw_o f))) (lw_oc lw_cC M f C X) := by
  unfold ri_M
  cases X with
  | inl q =>
    obtain ⟨v, C2⟩ := q
    repeat refine ri_X.s rfl rfl rfl ?_
    refine ri_X.call0 rfl rfl rfl rfl rfl hm ?_
    repeat refine ri_X.s rfl rfl rfl ?_
    rw [lw_WO]
    repeat refine ri_X.s rfl rfl rfl ?_
    exact ri_X.fin rfl rfl
  | inr e =>
    have hX := hX e rfl
    match e, hX, hm with
    | 0, _, hm =>
      refine ri_X.eqo (o1 := (.inl (some 1), rd_W C (md_W M (lw_o f)), 1 + 0, 6 + 0)) rfl ?_
      repeat refine ri_X.s rfl rfl rfl ?_
      refine ri_X.cat rfl rfl rfl rfl rfl rfl rfl rfl hm ?_
      repeat refine ri_X.s rfl rfl rfl ?_
      exact ri_X.fin rfl rfl
    | 1, hX, _ => exact absurd rfl hX
    | 2, _, hm =>
      refine ri_X.eqo (o1 := (.inl (some 2), rd_W C (md_W M (lw_o f)), 1 + 0, 6 + 0)) rfl ?_
      repeat refine ri_X.s rfl rfl rfl ?_
      refine ri_X.cat rfl rfl rfl rfl rfl rfl rfl rfl hm ?_
      repeat refine ri_X.s rfl rfl rfl ?_
      exact ri_X.fin rfl rfl
    | n + 3, hX, _ => exact absurd rfl hX
theorem lw_w_revoke (x : Int32) (y : Int32) (hm : ri_M sl sx 8 [.ref 1, .int x, .int y] (rd_W C (md_W M (lw_o f))) (rd_oc (md_W M (lw_o f)) C X)) (hX : ∀ e, X = .inr e → ¬ lw_cC e = 0) : ri_M sl sx 106 [.ref 1, .int x, .int y, .ref 23] (rd_W C (md_W M (lw_o f))) (lw_oc lw_cC M f C X) := by
  unfold ri_M
  cases X with
  | inl q =>
    obtain ⟨v, C2⟩ := q
    repeat refine ri_X.s rfl rfl rfl ?_
    refine ri_X.call0 rfl rfl rfl rfl rfl hm ?_
    repeat refine ri_X.s rfl rfl rfl ?_
    rw [lw_WO]
    repeat refine ri_X.s rfl rfl rfl ?_
    exact ri_X.fin rfl rfl
  | inr e =>
    have hX := hX e rfl
    match e, hX, hm with
    | 0, _, hm =>
      refine ri_X.eqo (o1 := (.inl (some 1), rd_W C (md_W M (lw_o f)), 1 + 0, 6 + 0)) rfl ?_
      repeat refine ri_X.s rfl rfl rfl ?_
      refine ri_X.cat rfl rfl rfl rfl rfl rfl rfl rfl hm ?_
      repeat refine ri_X.s rfl rfl rfl ?_
      exact ri_X.fin rfl rfl
    | 1, hX, _ => exact absurd rfl hX
    | 2, _, hm =>
      refine ri_X.eqo (o1 := (.inl (some 2), rd_W C (md_W M (lw_o f)), 1 + 0, 6 + 0)) rfl ?_
      repeat refine ri_X.s rfl rfl rfl ?_
      refine ri_X.cat rfl rfl rfl rfl rfl rfl rfl rfl hm ?_
      repeat refine ri_X.s rfl rfl rfl ?_
      exact ri_X.fin rfl rfl
    | n + 3, hX, _ => exact absurd rfl hX
theorem lw_w_inherit (x : Int32) (y : Int32) (hm : ri_M sl sx 9 [.ref 1, .int x, .int y] (rd_W C (md_W M (lw_o f))) (rd_oc (md_W M (lw_o f)) C X)) (hX : ∀ e, X = .inr e → ¬ lw_cC e = 0) : ri_M sl sx 107 [.ref 1, .int x, .int y, .ref 23] (rd_W C (md_W M (lw_o f))) (lw_oc lw_cC M f C X) := by
  unfold ri_M
  cases X with
  | inl q =>
    obtain ⟨v, C2⟩ := q
    repeat refine ri_X.s rfl rfl rfl ?_
    refine ri_X.call0 rfl rfl rfl rfl rfl hm ?_
    repeat refine ri_X.s rfl rfl rfl ?_
    rw [lw_WO]
    repeat refine ri_X.s rfl rfl rfl ?_
    exact ri_X.fin rfl rfl
  | inr e =>
    have hX := hX e rfl
    match e, hX, hm with
    | 0, _, hm =>
      refine ri_X.eqo (o1 := (.inl (some 1), rd_W C (md_W M (lw_o f)), 1 + 0, 6 + 0)) rfl ?_
      repeat refine ri_X.s rfl rfl rfl ?_
      refine ri_X.cat rfl rfl rfl rfl rfl rfl rfl rfl hm ?_
      repeat refine ri_X.s rfl rfl rfl ?_
      exact ri_X.fin rfl rfl
    | 1, hX, _ => exact absurd rfl hX
    | 2, _, hm =>
      refine ri_X.eqo (o1 := (.inl (some 2), rd_W C (md_W M (lw_o f)), 1 + 0, 6 + 0)) rfl ?_
      repeat refine ri_X.s rfl rfl rfl ?_
      refine ri_X.cat rfl rfl rfl rfl rfl rfl rfl rfl hm ?_
      repeat refine ri_X.s rfl rfl rfl ?_
      exact ri_X.fin rfl rfl
    | n + 3, hX, _ => exact absurd rfl hX
theorem lw_w_disinherit (x : Int32) (y : Int32) (hm : ri_M sl sx 10 [.ref 1, .int x, .int y] (rd_W C (md_W M (lw_o f))) (rd_oc (md_W M (lw_o f)) C X)) (hX : ∀ e, X = .inr e → ¬ lw_cC e = 0) : ri_M sl sx 108 [.ref 1, .int x, .int y, .ref 23] (rd_W C (md_W M (lw_o f))) (lw_oc lw_cC M f C X) := by
  unfold ri_M
  cases X with
  | inl q =>
    obtain ⟨v, C2⟩ := q
    repeat refine ri_X.s rfl rfl rfl ?_
    refine ri_X.call0 rfl rfl rfl rfl rfl hm ?_
    repeat refine ri_X.s rfl rfl rfl ?_
    rw [lw_WO]
    repeat refine ri_X.s rfl rfl rfl ?_
    exact ri_X.fin rfl rfl
  | inr e =>
    have hX := hX e rfl
    match e, hX, hm with
    | 0, _, hm =>
      refine ri_X.eqo (o1 := (.inl (some 1), rd_W C (md_W M (lw_o f)), 1 + 0, 6 + 0)) rfl ?_
      repeat refine ri_X.s rfl rfl rfl ?_
      refine ri_X.cat rfl rfl rfl rfl rfl rfl rfl rfl hm ?_
      repeat refine ri_X.s rfl rfl rfl ?_
      exact ri_X.fin rfl rfl
    | 1, hX, _ => exact absurd rfl hX
    | 2, _, hm =>
      refine ri_X.eqo (o1 := (.inl (some 2), rd_W C (md_W M (lw_o f)), 1 + 0, 6 + 0)) rfl ?_
      repeat refine ri_X.s rfl rfl rfl ?_
      refine ri_X.cat rfl rfl rfl rfl rfl rfl rfl rfl hm ?_
      repeat refine ri_X.s rfl rfl rfl ?_
      exact ri_X.fin rfl rfl
    | n + 3, hX, _ => exact absurd rfl hX
theorem lw_w_addSet (x : Int32) (y : Int32) (z : Int32) (hm : ri_M sl sx 11 [.ref 1, .int x, .int y, .int z] (rd_W C (md_W M (lw_o f))) (rd_oc (md_W M (lw_o f)) C X)) (hX : ∀ e, X = .inr e → ¬ lw_cD e = 0) : ri_M sl sx 109 [.ref 1, .int x, .int y, .int z, .ref 23] (rd_W C (md_W M (lw_o f))) (lw_oc lw_cD M f C X) := by
  unfold ri_M
  cases X with
  | inl q =>
    obtain ⟨v, C2⟩ := q
    repeat refine ri_X.s rfl rfl rfl ?_
    refine ri_X.call0 rfl rfl rfl rfl rfl hm ?_
    repeat refine ri_X.s rfl rfl rfl ?_
    rw [lw_WO]
    repeat refine ri_X.s rfl rfl rfl ?_
    exact ri_X.fin rfl rfl
  | inr e =>
    have hX := hX e rfl
    match e, hX, hm with
    | 0, _, hm =>
      refine ri_X.eqo (o1 := (.inl (some 1), rd_W C (md_W M (lw_o f)), 1 + 0, 6 + 0)) rfl ?_
      repeat refine ri_X.s rfl rfl rfl ?_
      refine ri_X.cat rfl rfl rfl rfl rfl rfl rfl rfl hm ?_
      repeat refine ri_X.s rfl rfl rfl ?_
      exact ri_X.fin rfl rfl
    | 1, _, hm =>
      refine ri_X.eqo (o1 := (.inl (some 2), rd_W C (md_W M (lw_o f)), 1 + 0, 6 + 0)) rfl ?_
      repeat refine ri_X.s rfl rfl rfl ?_
      refine ri_X.cat rfl rfl rfl rfl rfl rfl rfl rfl hm ?_
      repeat refine ri_X.s rfl rfl rfl ?_
      exact ri_X.fin rfl rfl
    | 2, _, hm =>
      refine ri_X.eqo (o1 := (.inl (some 3), rd_W C (md_W M (lw_o f)), 1 + 0, 6 + 0)) rfl ?_
      repeat refine ri_X.s rfl rfl rfl ?_
      refine ri_X.cat rfl rfl rfl rfl rfl rfl rfl rfl hm ?_
      repeat refine ri_X.s rfl rfl rfl ?_
      exact ri_X.fin rfl rfl
    | n + 3, hX, _ => exact absurd rfl hX
theorem lw_w_deleteSet (x : Int32) (hm : ri_M sl sx 12 [.ref 1, .int x] (rd_W C (md_W M (lw_o f))) (rd_oc (md_W M (lw_o f)) C X)) (hX : ∀ e, X = .inr e → ¬ lw_cB e = 0) : ri_M sl sx 110 [.ref 1, .int x, .ref 23] (rd_W C (md_W M (lw_o f))) (lw_oc lw_cB M f C X) := by
  unfold ri_M
  cases X with
  | inl q =>
    obtain ⟨v, C2⟩ := q
    repeat refine ri_X.s rfl rfl rfl ?_
    refine ri_X.call0 rfl rfl rfl rfl rfl hm ?_
    repeat refine ri_X.s rfl rfl rfl ?_
    rw [lw_WO]
    repeat refine ri_X.s rfl rfl rfl ?_
    exact ri_X.fin rfl rfl
  | inr e =>
    have hX := hX e rfl
    match e, hX, hm with
    | 0, _, hm =>
      refine ri_X.eqo (o1 := (.inl (some 1), rd_W C (md_W M (lw_o f)), 1 + 0, 6 + 0)) rfl ?_
      repeat refine ri_X.s rfl rfl rfl ?_
      refine ri_X.cat rfl rfl rfl rfl rfl rfl rfl rfl hm ?_
      repeat refine ri_X.s rfl rfl rfl ?_
      exact ri_X.fin rfl rfl
    | 1, hX, _ => exact absurd rfl hX
    | 2, hX, _ => exact absurd rfl hX
    | n + 3, hX, _ => exact absurd rfl hX
theorem lw_w_changeSet (x : Int32) (y : Int32) (z : Int32) (hm : ri_M sl sx 13 [.ref 1, .int x, .int y, .int z] (rd_W C (md_W M (lw_o f))) (rd_oc (md_W M (lw_o f)) C X)) (hX : ∀ e, X = .inr e → ¬ lw_cD e = 0) : ri_M sl sx 111 [.ref 1, .int x, .int y, .int z, .ref 23] (rd_W C (md_W M (lw_o f))) (lw_oc lw_cD M f C X) := by
  unfold ri_M
  cases X with
  | inl q =>
    obtain ⟨v, C2⟩ := q
    repeat refine ri_X.s rfl rfl rfl ?_
    refine ri_X.call0 rfl rfl rfl rfl rfl hm ?_
    repeat refine ri_X.s rfl rfl rfl ?_
    rw [lw_WO]
    repeat refine ri_X.s rfl rfl rfl ?_
    exact ri_X.fin rfl rfl
  | inr e =>
    have hX := hX e rfl
    match e, hX, hm with
    | 0, _, hm =>
      refine ri_X.eqo (o1 := (.inl (some 1), rd_W C (md_W M (lw_o f)), 1 + 0, 6 + 0)) rfl ?_
      repeat refine ri_X.s rfl rfl rfl ?_
      refine ri_X.cat rfl rfl rfl rfl rfl rfl rfl rfl hm ?_
      repeat refine ri_X.s rfl rfl rfl ?_
      exact ri_X.fin rfl rfl
    | 1, _, hm =>
      refine ri_X.eqo (o1 := (.inl (some 2), rd_W C (md_W M (lw_o f)), 1 + 0, 6 + 0)) rfl ?_
      repeat refine ri_X.s rfl rfl rfl ?_
      refine ri_X.cat rfl rfl rfl rfl rfl rfl rfl rfl hm ?_
      repeat refine ri_X.s rfl rfl rfl ?_
      exact ri_X.fin rfl rfl
    | 2, _, hm =>
      refine ri_X.eqo (o1 := (.inl (some 3), rd_W C (md_W M (lw_o f)), 1 + 0, 6 + 0)) rfl ?_
      repeat refine ri_X.s rfl rfl rfl ?_
      refine ri_X.cat rfl rfl rfl rfl rfl rfl rfl rfl hm ?_
      repeat refine ri_X.s rfl rfl rfl ?_
      exact ri_X.fin rfl rfl
    | n + 3, hX, _ => exact absurd rfl hX
theorem lw_w_open (x : Int32) (y : Int32) (hm : ri_M sl sx 14 [.ref 1, .int x, .int y] (rd_W C (md_W M (lw_o f))) (rd_oc (md_W M (lw_o f)) C X)) (hX : ∀ e, X = .inr e → ¬ lw_cC e = 0) : ri_M sl sx 112 [.ref 1, .int x, .int y, .ref 23] (rd_W C (md_W M (lw_o f))) (lw_oc lw_cC M f C X) := by
  unfold ri_M
  cases X with
  | inl q =>
    obtain ⟨v, C2⟩ := q
    repeat refine ri_X.s rfl rfl rfl ?_
    refine ri_X.call0 rfl rfl rfl rfl rfl hm ?_
    repeat refine ri_X.s rfl rfl rfl ?_
    rw [lw_WO]
    repeat refine ri_X.s rfl rfl rfl ?_
    exact ri_X.fin rfl rfl
  | inr e =>
    have hX := hX e rfl
    match e, hX, hm with
    | 0, _, hm =>
      refine ri_X.eqo (o1 := (.inl (some 1), rd_W C (md_W M (lw_o f)), 1 + 0, 6 + 0)) rfl ?_
      repeat refine ri_X.s rfl rfl rfl ?_
      refine ri_X.cat rfl rfl rfl rfl rfl rfl rfl rfl hm ?_
      repeat refine ri_X.s rfl rfl rfl ?_
      exact ri_X.fin rfl rfl
    | 1, hX, _ => exact absurd rfl hX
    | 2, _, hm =>
      refine ri_X.eqo (o1 := (.inl (some 2), rd_W C (md_W M (lw_o f)), 1 + 0, 6 + 0)) rfl ?_
      repeat refine ri_X.s rfl rfl rfl ?_
      refine ri_X.cat rfl rfl rfl rfl rfl rfl rfl rfl hm ?_
      repeat refine ri_X.s rfl rfl rfl ?_
      exact ri_X.fin rfl rfl
    | n + 3, hX, _ => exact absurd rfl hX
theorem lw_w_close (x : Int32) (hm : ri_M sl sx 15 [.ref 1, .int x] (rd_W C (md_W M (lw_o f))) (rd_oc (md_W M (lw_o f)) C X)) (hX : ∀ e, X = .inr e → ¬ lw_cB e = 0) : ri_M sl sx 113 [.ref 1, .int x, .ref 23] (rd_W C (md_W M (lw_o f))) (lw_oc lw_cB M f C X) := by
  unfold ri_M
  cases X with
  | inl q =>
    obtain ⟨v, C2⟩ := q
    repeat refine ri_X.s rfl rfl rfl ?_
    refine ri_X.call0 rfl rfl rfl rfl rfl hm ?_
    repeat refine ri_X.s rfl rfl rfl ?_
    rw [lw_WO]
    repeat refine ri_X.s rfl rfl rfl ?_
    exact ri_X.fin rfl rfl
  | inr e =>
    have hX := hX e rfl
    match e, hX, hm with
    | 0, _, hm =>
      refine ri_X.eqo (o1 := (.inl (some 1), rd_W C (md_W M (lw_o f)), 1 + 0, 6 + 0)) rfl ?_
      repeat refine ri_X.s rfl rfl rfl ?_
      refine ri_X.cat rfl rfl rfl rfl rfl rfl rfl rfl hm ?_
      repeat refine ri_X.s rfl rfl rfl ?_
      exact ri_X.fin rfl rfl
    | 1, hX, _ => exact absurd rfl hX
    | 2, hX, _ => exact absurd rfl hX
    | n + 3, hX, _ => exact absurd rfl hX
theorem lw_w_activate (x : Int32) (y : Int32) (hm : ri_M sl sx 16 [.ref 1, .int x, .int y] (rd_W C (md_W M (lw_o f))) (rd_oc (md_W M (lw_o f)) C X)) (hX : ∀ e, X = .inr e → ¬ lw_cC e = 0) : ri_M sl sx 114 [.ref 1, .int x, .int y, .ref 23] (rd_W C (md_W M (lw_o f))) (lw_oc lw_cC M f C X) := by
  unfold ri_M
  cases X with
  | inl q =>
    obtain ⟨v, C2⟩ := q
    repeat refine ri_X.s rfl rfl rfl ?_
    refine ri_X.call0 rfl rfl rfl rfl rfl hm ?_
    repeat refine ri_X.s rfl rfl rfl ?_
    rw [lw_WO]
    repeat refine ri_X.s rfl rfl rfl ?_
    exact ri_X.fin rfl rfl
  | inr e =>
    have hX := hX e rfl
    match e, hX, hm with
    | 0, _, hm =>
      refine ri_X.eqo (o1 := (.inl (some 1), rd_W C (md_W M (lw_o f)), 1 + 0, 6 + 0)) rfl ?_
      repeat refine ri_X.s rfl rfl rfl ?_
      refine ri_X.cat rfl rfl rfl rfl rfl rfl rfl rfl hm ?_
      repeat refine ri_X.s rfl rfl rfl ?_
      exact ri_X.fin rfl rfl
    | 1, hX, _ => exact absurd rfl hX
    | 2, _, hm =>
      refine ri_X.eqo (o1 := (.inl (some 2), rd_W C (md_W M (lw_o f)), 1 + 0, 6 + 0)) rfl ?_
      repeat refine ri_X.s rfl rfl rfl ?_
      refine ri_X.cat rfl rfl rfl rfl rfl rfl rfl rfl hm ?_
      repeat refine ri_X.s rfl rfl rfl ?_
      exact ri_X.fin rfl rfl
    | n + 3, hX, _ => exact absurd rfl hX
theorem lw_w_deactivate (x : Int32) (y : Int32) (hm : ri_M sl sx 17 [.ref 1, .int x, .int y] (rd_W C (md_W M (lw_o f))) (rd_oc (md_W M (lw_o f)) C X)) (hX : ∀ e, X = .inr e → ¬ lw_cC e = 0) : ri_M sl sx 115 [.ref 1, .int x, .int y, .ref 23] (rd_W C (md_W M (lw_o f))) (lw_oc lw_cC M f C X) := by
  unfold ri_M
  cases X with
  | inl q =>
    obtain ⟨v, C2⟩ := q
    repeat refine ri_X.s rfl rfl rfl ?_
    refine ri_X.call0 rfl rfl rfl rfl rfl hm ?_
    repeat refine ri_X.s rfl rfl rfl ?_
    rw [lw_WO]
    repeat refine ri_X.s rfl rfl rfl ?_
    exact ri_X.fin rfl rfl
  | inr e =>
    have hX := hX e rfl
    match e, hX, hm with
    | 0, _, hm =>
      refine ri_X.eqo (o1 := (.inl (some 1), rd_W C (md_W M (lw_o f)), 1 + 0, 6 + 0)) rfl ?_
      repeat refine ri_X.s rfl rfl rfl ?_
      refine ri_X.cat rfl rfl rfl rfl rfl rfl rfl rfl hm ?_
      repeat refine ri_X.s rfl rfl rfl ?_
      exact ri_X.fin rfl rfl
    | 1, hX, _ => exact absurd rfl hX
    | 2, _, hm =>
      refine ri_X.eqo (o1 := (.inl (some 2), rd_W C (md_W M (lw_o f)), 1 + 0, 6 + 0)) rfl ?_
      repeat refine ri_X.s rfl rfl rfl ?_
      refine ri_X.cat rfl rfl rfl rfl rfl rfl rfl rfl hm ?_
      repeat refine ri_X.s rfl rfl rfl ?_
      exact ri_X.fin rfl rfl
    | n + 3, hX, _ => exact absurd rfl hX
theorem lw_w_check (x : Int32) (y : Int32) (hm : ri_M sl sx 18 [.ref 1, .int x, .int y] (rd_W C (md_W M (lw_o f))) (rd_oc (md_W M (lw_o f)) C X)) (hX : ∀ e, X = .inr e → ¬ lw_cB e = 0) (hb : ∀ p, X = .inl p → ∃ b, p.1 = rb_i b) : ri_M sl sx 116 [.ref 1, .int x, .int y, .ref 23] (rd_W C (md_W M (lw_o f))) (lw_oc lw_cB M f C X) := by
  unfold ri_M
  cases X with
  | inl q =>
    obtain ⟨v, C2⟩ := q
    obtain ⟨b, hb⟩ := hb _ rfl
    have hb : v = rb_i b := hb
    subst hb
    repeat refine ri_X.s rfl rfl rfl ?_
    refine ri_X.call0 rfl rfl rfl rfl rfl hm ?_
    refine ri_X.ifz rfl rfl (fun h => ?_) (fun h => ?_)
    · rw [h]
      repeat refine ri_X.s rfl rfl rfl ?_
      rw [lw_WO]
      repeat refine ri_X.s rfl rfl rfl ?_
      exact ri_X.fin rfl rfl
    · rw [h]
      repeat refine ri_X.s rfl rfl rfl ?_
      rw [lw_WO]
      repeat refine ri_X.s rfl rfl rfl ?_
      exact ri_X.fin rfl rfl
  | inr e =>
    have hX := hX e rfl
    match e, hX, hm with
    | 0, _, hm =>
      refine ri_X.eqo (o1 := (.inl (some 1), rd_W C (md_W M (lw_o f)), 1 + 0, 6 + 0)) rfl ?_
      repeat refine ri_X.s rfl rfl rfl ?_
      refine ri_X.cat rfl rfl rfl rfl rfl rfl rfl rfl hm ?_
      repeat refine ri_X.s rfl rfl rfl ?_
      exact ri_X.fin rfl rfl
    | 1, hX, _ => exact absurd rfl hX
    | 2, hX, _ => exact absurd rfl hX
    | n + 3, hX, _ => exact absurd rfl hX
theorem lw_w_rolesOf (x : Int32) (y : Bool) (hm : ri_M sl sx 19 [.ref 1, .int x, .int (rb_i y)] (rd_W C (md_W M (lw_o f))) (rd_oc (md_W M (lw_o f)) C X)) (hX : ∀ e, X = .inr e → ¬ lw_cB e = 0) : ri_M sl sx 117 [.ref 1, .int x, .int (rb_i y), .ref 23] (rd_W C (md_W M (lw_o f))) (lw_oc lw_cB M f C X) := by
  unfold ri_M
  cases X with
  | inl q =>
    obtain ⟨v, C2⟩ := q
    repeat refine ri_X.s rfl rfl rfl ?_
    refine ri_X.call0 rfl rfl rfl rfl rfl hm ?_
    repeat refine ri_X.s rfl rfl rfl ?_
    rw [lw_WO]
    repeat refine ri_X.s rfl rfl rfl ?_
    exact ri_X.fin rfl rfl
  | inr e =>
    have hX := hX e rfl
    match e, hX, hm with
    | 0, _, hm =>
      refine ri_X.eqo (o1 := (.inl (some 1), rd_W C (md_W M (lw_o f)), 1 + 0, 6 + 0)) rfl ?_
      repeat refine ri_X.s rfl rfl rfl ?_
      refine ri_X.cat rfl rfl rfl rfl rfl rfl rfl rfl hm ?_
      repeat refine ri_X.s rfl rfl rfl ?_
      exact ri_X.fin rfl rfl
    | 1, hX, _ => exact absurd rfl hX
    | 2, hX, _ => exact absurd rfl hX
    | n + 3, hX, _ => exact absurd rfl hX
theorem lw_w_usersOf (x : Int32) (y : Bool) (hm : ri_M sl sx 20 [.ref 1, .int x, .int (rb_i y)] (rd_W C (md_W M (lw_o f))) (rd_oc (md_W M (lw_o f)) C X)) (hX : ∀ e, X = .inr e → ¬ lw_cB e = 0) : ri_M sl sx 118 [.ref 1, .int x, .int (rb_i y), .ref 23] (rd_W C (md_W M (lw_o f))) (lw_oc lw_cB M f C X) := by
  unfold ri_M
  cases X with
  | inl q =>
    obtain ⟨v, C2⟩ := q
    repeat refine ri_X.s rfl rfl rfl ?_
    refine ri_X.call0 rfl rfl rfl rfl rfl hm ?_
    repeat refine ri_X.s rfl rfl rfl ?_
    rw [lw_WO]
    repeat refine ri_X.s rfl rfl rfl ?_
    exact ri_X.fin rfl rfl
  | inr e =>
    have hX := hX e rfl
    match e, hX, hm with
    | 0, _, hm =>
      refine ri_X.eqo (o1 := (.inl (some 1), rd_W C (md_W M (lw_o f)), 1 + 0, 6 + 0)) rfl ?_
      repeat refine ri_X.s rfl rfl rfl ?_
      refine ri_X.cat rfl rfl rfl rfl rfl rfl rfl rfl hm ?_
      repeat refine ri_X.s rfl rfl rfl ?_
      exact ri_X.fin rfl rfl
    | 1, hX, _ => exact absurd rfl hX
    | 2, hX, _ => exact absurd rfl hX
    | n + 3, hX, _ => exact absurd rfl hX
theorem lw_w_permissions (x : Int32) (y : Bool) (hm : ri_M sl sx 21 [.ref 1, .int x, .int (rb_i y)] (rd_W C (md_W M (lw_o f))) (rd_oc (md_W M (lw_o f)) C X)) (hX : ∀ e, X = .inr e → ¬ lw_cB e = 0) : ri_M sl sx 119 [.ref 1, .int x, .int (rb_i y), .ref 23] (rd_W C (md_W M (lw_o f))) (lw_oc lw_cB M f C X) := by
  unfold ri_M
  cases X with
  | inl q =>
    obtain ⟨v, C2⟩ := q
    repeat refine ri_X.s rfl rfl rfl ?_
    refine ri_X.call0 rfl rfl rfl rfl rfl hm ?_
    repeat refine ri_X.s rfl rfl rfl ?_
    rw [lw_WO]
    repeat refine ri_X.s rfl rfl rfl ?_
    exact ri_X.fin rfl rfl
  | inr e =>
    have hX := hX e rfl
    match e, hX, hm with
    | 0, _, hm =>
      refine ri_X.eqo (o1 := (.inl (some 1), rd_W C (md_W M (lw_o f)), 1 + 0, 6 + 0)) rfl ?_
      repeat refine ri_X.s rfl rfl rfl ?_
      refine ri_X.cat rfl rfl rfl rfl rfl rfl rfl rfl hm ?_
      repeat refine ri_X.s rfl rfl rfl ?_
      exact ri_X.fin rfl rfl
    | 1, hX, _ => exact absurd rfl hX
    | 2, hX, _ => exact absurd rfl hX
    | n + 3, hX, _ => exact absurd rfl hX
theorem lw_w_juniors (x : Int32) (hm : ri_M sl sx 22 [.ref 1, .int x] (rd_W C (md_W M (lw_o f))) (rd_oc (md_W M (lw_o f)) C X)) (hX : ∀ e, X = .inr e → ¬ lw_cB e = 0) : ri_M sl sx 120 [.ref 1, .int x, .ref 23] (rd_W C (md_W M (lw_o f))) (lw_oc lw_cB M f C X) := by
  unfold ri_M
  cases X with
  | inl q =>
    obtain ⟨v, C2⟩ := q
    repeat refine ri_X.s rfl rfl rfl ?_
    refine ri_X.call0 rfl rfl rfl rfl rfl hm ?_
    repeat refine ri_X.s rfl rfl rfl ?_
    rw [lw_WO]
    repeat refine ri_X.s rfl rfl rfl ?_
    exact ri_X.fin rfl rfl
  | inr e =>
    have hX := hX e rfl
    match e, hX, hm with
    | 0, _, hm =>
      refine ri_X.eqo (o1 := (.inl (some 1), rd_W C (md_W M (lw_o f)), 1 + 0, 6 + 0)) rfl ?_
      repeat refine ri_X.s rfl rfl rfl ?_
      refine ri_X.cat rfl rfl rfl rfl rfl rfl rfl rfl hm ?_
      repeat refine ri_X.s rfl rfl rfl ?_
      exact ri_X.fin rfl rfl
    | 1, hX, _ => exact absurd rfl hX
    | 2, hX, _ => exact absurd rfl hX
    | n + 3, hX, _ => exact absurd rfl hX
theorem lw_w_active (x : Int32) (hm : ri_M sl sx 23 [.ref 1, .int x] (rd_W C (md_W M (lw_o f))) (rd_oc (md_W M (lw_o f)) C X)) (hX : ∀ e, X = .inr e → ¬ lw_cB e = 0) : ri_M sl sx 121 [.ref 1, .int x, .ref 23] (rd_W C (md_W M (lw_o f))) (lw_oc lw_cB M f C X) := by
  unfold ri_M
  cases X with
  | inl q =>
    obtain ⟨v, C2⟩ := q
    repeat refine ri_X.s rfl rfl rfl ?_
    refine ri_X.call0 rfl rfl rfl rfl rfl hm ?_
    repeat refine ri_X.s rfl rfl rfl ?_
    rw [lw_WO]
    repeat refine ri_X.s rfl rfl rfl ?_
    exact ri_X.fin rfl rfl
  | inr e =>
    have hX := hX e rfl
    match e, hX, hm with
    | 0, _, hm =>
      refine ri_X.eqo (o1 := (.inl (some 1), rd_W C (md_W M (lw_o f)), 1 + 0, 6 + 0)) rfl ?_
      repeat refine ri_X.s rfl rfl rfl ?_
      refine ri_X.cat rfl rfl rfl rfl rfl rfl rfl rfl hm ?_
      repeat refine ri_X.s rfl rfl rfl ?_
      exact ri_X.fin rfl rfl
    | 1, hX, _ => exact absurd rfl hX
    | 2, hX, _ => exact absurd rfl hX
    | n + 3, hX, _ => exact absurd rfl hX
theorem lw_w_sessionsOf (x : Int32) (hm : ri_M sl sx 24 [.ref 1, .int x] (rd_W C (md_W M (lw_o f))) (rd_oc (md_W M (lw_o f)) C X)) (hX : ∀ e, X = .inr e → ¬ lw_cB e = 0) : ri_M sl sx 122 [.ref 1, .int x, .ref 23] (rd_W C (md_W M (lw_o f))) (lw_oc lw_cB M f C X) := by
  unfold ri_M
  cases X with
  | inl q =>
    obtain ⟨v, C2⟩ := q
    repeat refine ri_X.s rfl rfl rfl ?_
    refine ri_X.call0 rfl rfl rfl rfl rfl hm ?_
    repeat refine ri_X.s rfl rfl rfl ?_
    rw [lw_WO]
    repeat refine ri_X.s rfl rfl rfl ?_
    exact ri_X.fin rfl rfl
  | inr e =>
    have hX := hX e rfl
    match e, hX, hm with
    | 0, _, hm =>
      refine ri_X.eqo (o1 := (.inl (some 1), rd_W C (md_W M (lw_o f)), 1 + 0, 6 + 0)) rfl ?_
      repeat refine ri_X.s rfl rfl rfl ?_
      refine ri_X.cat rfl rfl rfl rfl rfl rfl rfl rfl hm ?_
      repeat refine ri_X.s rfl rfl rfl ?_
      exact ri_X.fin rfl rfl
    | 1, hX, _ => exact absurd rfl hX
    | 2, hX, _ => exact absurd rfl hX
    | n + 3, hX, _ => exact absurd rfl hX
end L51
