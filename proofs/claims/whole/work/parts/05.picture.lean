/-! The picture: abstract values, cells, worlds, locals over the machine's -/
def ri_v (b : Nat) (ad : List Nat) (v : Value) : Value := match v with
  | .ref 0 => .ref b
  | .ref (k + 1) => .ref (ad.getD k 0)
  | v => v
def ri_c (ty : Nat → ClassId) (b : Nat) (ad : List Nat) (c : ri_C) : va_E := match c with
  | .inl a => .inl (ty a.1, a.2)
  | .inr o => .inr (o.1, o.2.map (ri_v b ad))
def ri_w (ty : Nat → ClassId) (b : Nat) (ad : List Nat) (w : ri_W) : va_W := List.zipWith (fun a c => (a, ri_c ty b ad c)) ad w
def ri_T (ty : Nat → ClassId) : List (ClassId × FieldType) := [(ty 0, .int), (ty 1, .long), (ty 2, .boolean)]
theorem ri_v_app {b : Nat} {ad ad2 : List Nat} {v : Value} (h : ri_in ad.length v = true) : ri_v b (ad ++ ad2) v = ri_v b ad v := by
  cases v with
  | ref k =>
    cases k with
    | zero => rfl
    | succ k =>
      have hk : k < ad.length := by
        have h1 : Nat.ble (k + 1) ad.length = true := h
        have h2 := Nat.le_of_ble_eq_true h1
        omega
      show Value.ref ((ad ++ ad2).getD k 0) = Value.ref (ad.getD k 0)
      rw [List.getD_eq_getElem?_getD, List.getD_eq_getElem?_getD, List.getElem?_append_left hk]
  | _ => rfl
theorem ri_map_app {b : Nat} {ad ad2 : List Nat} {S : List Value} (h : S.all (ri_in ad.length) = true) : S.map (ri_v b (ad ++ ad2)) = S.map (ri_v b ad) := by
  apply List.map_congr_left
  intro v hv
  exact ri_v_app (List.all_eq_true.mp h v hv)
theorem ri_c_app {ty : Nat → ClassId} {b : Nat} {ad ad2 : List Nat} {c : ri_C} (h : ri_inC ad.length c = true) : ri_c ty b (ad ++ ad2) c = ri_c ty b ad c := by
  cases c with
  | inl a => rfl
  | inr o =>
    show (Sum.inr (o.1, o.2.map (ri_v b (ad ++ ad2))) : va_E) = Sum.inr (o.1, o.2.map (ri_v b ad))
    rw [ri_map_app h]
theorem ri_v_ref {b : Nat} {ad : List Nat} {k a : Nat} (h : ad[k]? = some a) : ri_v b ad (.ref (k + 1)) = .ref a := by
  show Value.ref (ad.getD k 0) = Value.ref a
  rw [List.getD_eq_getElem?_getD, h]
  rfl
theorem ri_v_isref {b : Nat} {ad : List Nat} (k : Nat) : ∃ a, ri_v b ad (.ref k) = .ref a := by
  cases k with
  | zero => exact ⟨_, rfl⟩
  | succ k => exact ⟨_, rfl⟩
theorem ri_w_get {ty : Nat → ClassId} {b : Nat} {ad : List Nat} {w : ri_W} (hl : ad.length = w.length) {k : Nat} {c : ri_C} (h : w[k]? = some c) :
    ∃ a, ad[k]? = some a ∧ (ri_w ty b ad w)[k]? = some (a, ri_c ty b ad c) := by
  have hk : k < ad.length := by
    have := (List.getElem?_eq_some_iff.mp h).1
    omega
  refine ⟨ad[k], List.getElem?_eq_getElem hk, ?_⟩
  unfold ri_w
  rw [List.getElem?_zipWith, List.getElem?_eq_getElem hk, h]
theorem ri_w_set {ty : Nat → ClassId} {b : Nat} {ad : List Nat} {w : ri_W} {k a : Nat} {c : ri_C} (ha : ad[k]? = some a) :
    (ri_w ty b ad w).set k (a, ri_c ty b ad c) = ri_w ty b ad (w.set k c) := by
  apply List.ext_getElem?
  intro i
  unfold ri_w
  rw [List.getElem?_set, List.getElem?_zipWith, List.getElem?_zipWith, List.getElem?_set]
  by_cases hik : k = i
  · subst hik
    have hk := (List.getElem?_eq_some_iff.mp ha).1
    by_cases hw : k < w.length
    · have e1 := (List.getElem?_eq_some_iff.mp ha).2
      simp [ha, hw, hk, List.length_zipWith]
      exact ⟨Nat.lt_min.mpr ⟨hk, hw⟩, e1.symm⟩
    · simp [ha, hw, List.length_zipWith]
      exact Nat.le_trans (Nat.min_le_right _ _) (Nat.le_of_not_lt hw)
  · simp [hik]
theorem ri_w_push {ty : Nat → ClassId} {b : Nat} {ad : List Nat} {w : ri_W} (hl : ad.length = w.length) {q : Nat} {c : ri_C} {x : va_E} (hin : w.all (ri_inC ad.length) = true) (hc : ri_c ty b (ad ++ [q]) c = x) :
    ri_w ty b (ad ++ [q]) (w ++ [c]) = ri_w ty b ad w ++ [(q, x)] := by
  unfold ri_w
  rw [List.zipWith_append hl]
  congr 1
  · apply List.ext_getElem?
    intro i
    rw [List.getElem?_zipWith, List.getElem?_zipWith]
    cases h1 : ad[i]? with
    | none => rfl
    | some a =>
      cases h2 : w[i]? with
      | none => rfl
      | some c2 =>
        have h3 := List.all_eq_true.mp hin c2 (List.mem_of_getElem? h2)
        show some (a, ri_c ty b (ad ++ [q]) c2) = some (a, ri_c ty b ad c2)
        rw [ri_c_app h3]
  · rw [← hc]
    rfl
/-- locals -/
def ri_L (b : Nat) (ad : List Nat) (nL : Nat) (L : List (Option Value)) (ls : Array Slot) : Prop :=
  L.length = nL ∧ ls.size = nL ∧ lv_wf ls ∧ ∀ (i : Nat) (v : Value), L[i]? = some (some v) → v.category = 1 ∧ ls[i]? = some (.val (ri_v b ad v))
def ri_lv (b : Nat) (ad : List Nat) (L : List (Option Value)) : List (Nat × Value) :=
  (List.range L.length).filterMap (fun i => match L[i]? with
    | some (some v) => some (i, ri_v b ad v)
    | _ => none)
theorem ri_cat (b : Nat) (ad : List Nat) (v : Value) : (ri_v b ad v).category = v.category := by
  cases v with
  | ref k => cases k <;> rfl
  | _ => rfl
theorem ri_cats (b : Nat) (ad : List Nat) (S : List Value) : ((S.map (ri_v b ad)).map fun v => v.category) = S.map Value.category := by
  rw [List.map_map]
  apply List.map_congr_left
  intro v _
  exact ri_cat b ad v
section RIL
variable {b : Nat} {ad ad2 : List Nat} {nL : Nat} {L : List (Option Value)} {ls ls' : Array Slot}
theorem ri_L.has (h : ri_L b ad nL L ls) : lv_has ls nL (ri_lv b ad L) := by
  refine ⟨h.2.1, h.2.2.1, fun q hq => ?_⟩
  obtain ⟨i, -, hi⟩ := List.mem_filterMap.mp hq
  cases hL : L[i]? with
  | none => rw [hL] at hi; cases hi
  | some o =>
    cases o with
    | none => rw [hL] at hi; cases hi
    | some v =>
      rw [hL] at hi
      cases hi
      exact (h.2.2.2 i v hL).2
theorem ri_lv_mem {i : Nat} {v : Value} (h : L[i]? = some (some v)) : (i, ri_v b ad v) ∈ ri_lv b ad L :=
  List.mem_filterMap.mpr ⟨i, List.mem_range.mpr (List.getElem?_eq_some_iff.mp h).1, by rw [h]⟩
theorem ri_L.keptAt (h : ri_L b ad nL L ls) {i : Nat} {z : Value} (h' : lv_has ls' nL ((i, z) :: (ri_lv b ad L).filter (fun q => !(q.1 == i) && !(q.1 + 1 == i && q.2.category == 2)))) {j : Nat} {u : Value} (hij : ¬ i = j) (hj : L[j]? = some (some u)) :
    u.category = 1 ∧ ls'[j]? = some (.val (ri_v b ad u)) := by
  have h1 := h.2.2.2 j u hj
  refine ⟨h1.1, ?_⟩
  refine h'.2.2 (j, ri_v b ad u) (List.mem_cons_of_mem _ (List.mem_filter.mpr ⟨ri_lv_mem hj, ?_⟩))
  have e1 : (j == i) = false := by simpa using fun e => hij e.symm
  have e2 : ((ri_v b ad u).category == 2) = false := by rw [ri_cat, h1.1]; rfl
  simp [e1, e2]
theorem ri_L.stored (h : ri_L b ad nL L ls) {i : Nat} {v u : Value} (hi : i < nL) (hc : v.category = 1) (hu : u = ri_v b ad v)
    (h' : lv_has ls' nL ((i, u) :: (ri_lv b ad L).filter (fun q => !(q.1 == i) && !(q.1 + 1 == i && q.2.category == 2)))) : ri_L b ad nL (L.set i (some v)) ls' := by
  refine ⟨by rw [List.length_set]; exact h.1, h'.1, h'.2.1, fun j x hj => ?_⟩
  by_cases hij : i = j
  · subst hij
    rw [List.getElem?_set_self (by rw [h.1]; exact hi)] at hj
    cases hj
    rw [← hu]
    exact ⟨hc, h'.2.2 _ List.mem_cons_self⟩
  · rw [List.getElem?_set_ne hij] at hj
    exact h.keptAt h' hij hj
/-- an unknown local is no claim -/
theorem ri_L.storedN (h : ri_L b ad nL L ls) {i : Nat} {u : Value} (hi : i < nL)
    (h' : lv_has ls' nL ((i, u) :: (ri_lv b ad L).filter (fun q => !(q.1 == i) && !(q.1 + 1 == i && q.2.category == 2)))) : ri_L b ad nL (L.set i none) ls' := by
  refine ⟨by rw [List.length_set]; exact h.1, h'.1, h'.2.1, fun j x hj => ?_⟩
  by_cases hij : i = j
  · subst hij
    rw [List.getElem?_set_self (by rw [h.1]; exact hi)] at hj
    cases hj
  · rw [List.getElem?_set_ne hij] at hj
    exact h.keptAt h' hij hj
theorem ri_L.app (h : ri_L b ad nL L ls) (hin : L.all (ri_inO ad.length) = true) : ri_L b (ad ++ ad2) nL L ls := by
  refine ⟨h.1, h.2.1, h.2.2.1, fun i v hi => ?_⟩
  have h1 := h.2.2.2 i v hi
  have h2 : ri_inO ad.length (some v) = true := List.all_eq_true.mp hin _ (List.mem_of_getElem? hi)
  exact ⟨h1.1, by rw [ri_v_app h2]; exact h1.2⟩
/-- a callee's locals at its entry -/
theorem ri_L.entry {mk : Nat} {as : List Value} (hc : as.all ri_c1 = true) (hn : as.length ≤ ri_mL mk) :
    ri_L b ad (ri_mL mk) (ri_ent mk as) (((as.map (ri_v b ad)).map Slot.val ++ List.replicate (ri_mL mk - (as.map (ri_v b ad)).length) Slot.unset).toArray) := by
  have hc' : ∀ v ∈ as, v.category = 1 := fun v hv => by
    have := List.all_eq_true.mp hc v hv
    exact Nat.eq_of_beq_eq_true this
  have hget : ∀ (i : Nat) (z : Slot), (((as.map (ri_v b ad)).map Slot.val ++ List.replicate (ri_mL mk - (as.map (ri_v b ad)).length) Slot.unset).toArray)[i]? = some z → z = .unset ∨ ∃ v ∈ as, z = .val (ri_v b ad v) := by
    intro i z hz
    rw [List.getElem?_toArray] at hz
    rcases List.mem_append.mp (List.mem_of_getElem? hz) with h | h
    · obtain ⟨u, hu, rfl⟩ := List.mem_map.mp h
      obtain ⟨v, hv, rfl⟩ := List.mem_map.mp hu
      exact Or.inr ⟨v, hv, rfl⟩
    · exact Or.inl (List.eq_of_mem_replicate h)
  refine ⟨?_, ?_, ⟨?_, ?_⟩, ?_⟩
  · simp only [ri_ent, List.length_append, List.length_map, List.length_replicate]
    omega
  · simp only [List.size_toArray, List.length_append, List.length_map, List.length_replicate]
    omega
  · intro i v hi hv2
    rcases hget i _ hi with h | ⟨u, hu, h⟩
    · cases h
    · cases h
      rw [ri_cat, hc' u hu] at hv2
      cases hv2
  · intro i hi
    rcases hget i _ hi with h | ⟨u, hu, h⟩ <;> cases h
  · intro i v hi
    unfold ri_ent at hi
    have hlt : i < as.length := by
      refine Nat.lt_of_not_le fun hge => ?_
      rw [List.getElem?_append_right (by rw [List.length_map]; exact hge)] at hi
      have := List.eq_of_mem_replicate (List.mem_of_getElem? hi)
      cases this
    rw [List.getElem?_append_left (by rw [List.length_map]; exact hlt), List.getElem?_map, List.getElem?_eq_getElem hlt] at hi
    have hv : as[i] = v := by simpa using hi
    refine ⟨hc' v (hv ▸ List.getElem_mem hlt), ?_⟩
    rw [List.getElem?_toArray, List.getElem?_append_left (by simpa using hlt), List.getElem?_map, List.getElem?_map, List.getElem?_eq_getElem hlt, hv]
    rfl
end RIL
/-- what a frame and the heap have of the abstract state -/
def ri_E (D : va_G) (ty : Nat → ClassId) (b : Nat) (A : Nat → Prop) (H0 : Heap) (pu : Bool) (ad : List Nat) (w : ri_W) (H : Heap) (locs : List Loc) : Prop :=
  ad.length = w.length ∧ va_P D ri_cls (ri_w ty b ad w) H ∧ va_D A (ri_w ty b ad w) ∧ va_S A H0 H locs ∧ (pu = true → locs = [])
