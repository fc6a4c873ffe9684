/-! The law's start: what holds there, and stays -/
/-- where a static field lies, its class's statics cell in H -/
def vx_L (C n d : String) (A : Nat → Prop) (U : State) (H : Heap) : Prop := ∃ (c : ClassId) (k : Class) (i : Nat) (f : Field) (a : Nat) (cell : Cell), U.vm.findClass C = some c ∧ U.fieldFound? C n d = some (c, k, i, f) ∧ f.isStatic = true ∧ k.statics = some a ∧ H[a]? = some cell ∧ cell.vm.isStatics = true ∧ cell.cls = c ∧ f.slot < cell.slots.size ∧ k.staticTypes[f.slot]? = some f.type ∧ ¬ A a
theorem vx_L.moved {C n d : String} {A : Nat → Prop} {u U : State} {H : Heap} (hvm : u.vm.Alike U.vm) (h : vx_L C n d A u H) : vx_L C n d A U H := by
  obtain ⟨c, k, i, f, a, cell, h1, h2, h3, h4, h5, h6, h7, h8, h9, h10⟩ := h
  obtain ⟨k', hi', he⟩ := State.fieldFound?_setVm hvm h2
  exact ⟨c, k', i, f, a, cell, by rw [hvm.findClass]; exact h1, hi', h3, by rw [he]; exact h4, h5, h6, h7, h8, by rw [he]; exact h9, h10⟩
theorem vx_L.kept {C n d : String} {A : Nat → Prop} {U : State} {H H1 : Heap} (h : vx_L C n d A U H) (hq : ∀ a : Nat, a < H.size → ¬ A a → H1[a]? = H[a]?) : vx_L C n d A U H1 := by
  obtain ⟨c, k, i, f, a, cell, h1, h2, h3, h4, h5, h6, h7, h8, h9, h10⟩ := h
  exact ⟨c, k, i, f, a, cell, h1, h2, h3, h4, by rw [hq a (Array.getElem?_eq_some_iff.mp h5).1 h10]; exact h5, h6, h7, h8, h9, h10⟩
theorem vx_L.narrow {C n d : String} {A B : Nat → Prop} {U : State} {H : Heap} (h : vx_L C n d A U H) (hAB : ∀ q, B q → A q) : vx_L C n d B U H := by
  obtain ⟨c, k, i, f, a, cell, h1, h2, h3, h4, h5, h6, h7, h8, h9, h10⟩ := h
  exact ⟨c, k, i, f, a, cell, h1, h2, h3, h4, h5, h6, h7, h8, h9, fun z => h10 (hAB _ z)⟩
theorem vx_L.word {C n d : String} {A : Nat → Prop} {s : State} {args : Array Value} (h : vx_L C n d A s s.heap) : (Cond.laysStatic C n d).before args s = true := by
  obtain ⟨c, k, i, f, a, cell, h1, h2, h3, h4, h5, h6, h7, h8, h9, -⟩ := h
  show (Cond.laysStatic C n d).holds args s none s [] = true
  exact Cond.laysStatic_of h1 h2 h3 h4 h5 h6 h7 h8 h9
/-- .. and what it holds: null or some reference -/
def vx_Zq (C n d : String) (A : Nat → Prop) (U : State) (H : Heap) : Prop := va_Zq C n d A U H ∧ vx_L C n d A U H
theorem vx_Zq.moved {C n d : String} {A : Nat → Prop} {u U : State} {H : Heap} (hvm : u.vm.Alike U.vm) (h : vx_Zq C n d A u H) : vx_Zq C n d A U H := ⟨va_Zq.moved hvm h.1, vx_L.moved hvm h.2⟩
theorem vx_Zq.kept {C n d : String} {A : Nat → Prop} {U : State} {H H1 : Heap} (h : vx_Zq C n d A U H) (hq : ∀ a : Nat, a < H.size → ¬ A a → H1[a]? = H[a]?) : vx_Zq C n d A U H1 := ⟨va_Zq.kept h.1 hq, vx_L.kept h.2 hq⟩
theorem vx_Zq.narrow {C n d : String} {A B : Nat → Prop} {U : State} {H : Heap} (h : vx_Zq C n d A U H) (hAB : ∀ q, B q → A q) : vx_Zq C n d B U H := ⟨va_Zq.narrow h.1 hAB, vx_L.narrow h.2 hAB⟩
theorem vx_Zqof {args : Array Value} {s : State} {C n d : String} {A : Nat → Prop} (hl : (Cond.laysStatic C n d).before args s = true) (hini : (Cond.initialized C).before args s = true) (h : (Cond.isRef (.static C n d)).before args s = true) (hA : ∀ a : Nat, a < s.heap.size → ¬ A a) : vx_Zq C n d A s s.heap := by
  refine ⟨va_Zqof hl hini h hA, ?_⟩
  obtain ⟨c, k, i, f, a, cell, h1, h2, h3, h4, h5, h6, h7, h8, h9⟩ := Cond.laysStatic_spec hl
  exact ⟨c, k, i, f, a, cell, h1, h2, h3, h4, h5, h6, h7, h8, h9, hA a (Array.getElem?_eq_some_iff.mp h5).1⟩
theorem vx_isRef {C n d : String} {v : Value} {A : Nat → Prop} {s : State} {args : Array Value} (h : va_Z C n d v A s s.heap) (hv : v.isRef = true) : (Cond.isRef (.static C n d)).before args s = true := by
  obtain ⟨cf, kf, fi, f, a, cell, h1, h2, h3, h4, h5, h6, h7, -⟩ := h
  have he : (Term.static C n d).eval args s none [] s = some v := by
    simp [Term.eval, State.fieldNamed?, h1, h2, h4, h5, h6, h7]
  simp only [Cond.before, Cond.holds, Cond.value, he]
  cases v <;> simp_all [Value.isRef]
theorem vx_isRefq {C n d : String} {A : Nat → Prop} {s : State} {args : Array Value} (h : va_Zq C n d A s s.heap) : (Cond.isRef (.static C n d)).before args s = true := by
  rcases h with h | ⟨t, h⟩
  · exact vx_isRef h rfl
  · exact vx_isRef h rfl
theorem ri_arrK {s : State} {args : Array Value} {t : ArrayType} {ft : FieldType} (hft : newarray.typeOf t = ft) (h : (Cond.arrayClass (newarray.typeOf t)).before args s = true) : ∃ cA : ClassId, ArrOfT s cA ft ∧ s.vm.findClass ("[" ++ ft.toString) = some cA := by
  subst hft
  obtain ⟨cA, kA, comp, h1, h2, h3⟩ := Cond.arrayClass_spec h
  exact ⟨cA, fun n z => ⟨fun k h => (by cases h), kA, h2, comp, h3⟩, h1⟩
theorem ri_K_start {s : State} {args : Array Value} (hts : ∀ w ∈ ri_TW, w.before args s = true) : ∃ (D : va_G) (ty : Nat → ClassId), va_K D ri_cls (ri_T ty) s := by
  obtain ⟨c0, s0, k0⟩ := u_known hts ri_ws0 (hts _ ri_inst0)
  obtain ⟨c1, s1, k1⟩ := u_known hts ri_ws1 (hts _ ri_inst1)
  obtain ⟨a0, p0, q0⟩ := ri_arrK (t := .int) rfl (hts _ ri_arr_int)
  obtain ⟨a1, p1, q1⟩ := ri_arrK (t := .long) rfl (hts _ ri_arr_long)
  obtain ⟨a2, p2, q2⟩ := ri_arrK (t := .boolean) rfl (hts _ ri_arr_bool)
  refine ⟨(fun c => if c = 0 then c0 else c1, fun c => if c = 0 then s0 else s1), fun k => if k = 0 then a0 else if k = 1 then a1 else a2, fun c q hq => ?_, fun k q hq => ?_⟩
  · match c, hq with
    | 0, hq => cases hq; exact k0
    | 1, hq => cases hq; exact k1
    | c + 2, hq => cases hq
  · match k, hq with
    | 0, hq => cases hq; exact ⟨p0, q0⟩
    | 1, hq => cases hq; exact ⟨p1, q1⟩
    | 2, hq => cases hq; exact ⟨p2, q2⟩
    | k + 3, hq => cases hq
/-- the words of the start that are no table's -/
theorem ri_nc_start {s : State} {args : Array Value} (hg : (Jvm.Cond.and given_1 narrow_1).before args s = true) : ∀ ex ct, ri_exk ex = true → ri_exk ct = true → ex ≠ ct → va_Nc (ri_xn ex) (ri_xn ct) s := by
  have hs := flat_of_before _ hg
  intro ex ct h1 h2 hne
  have h1 := Nat.le_of_ble_eq_true h1
  have h2 := Nat.le_of_ble_eq_true h2
  match ex, ct, h1, h2, hne with
  | 0, 0, _, _, h => exact absurd rfl h
  | 0, 1, _, _, _ => exact va_Nc.of (args := args) (hs _ (by decide +kernel))
  | 0, 2, _, _, _ => exact va_Nc.of (args := args) (hs _ (by decide +kernel))
  | 1, 0, _, _, _ => exact va_Nc.of (args := args) (hs _ (by decide +kernel))
  | 1, 1, _, _, h => exact absurd rfl h
  | 1, 2, _, _, _ => exact va_Nc.of (args := args) (hs _ (by decide +kernel))
  | 2, 0, _, _, _ => exact va_Nc.of (args := args) (hs _ (by decide +kernel))
  | 2, 1, _, _, _ => exact va_Nc.of (args := args) (hs _ (by decide +kernel))
  | 2, 2, _, _, h => exact absurd rfl h
  | ex + 3, _, h, _, _ => omega
  | _, ct + 3, _, h, _ => omega
theorem ri_G_start {s : State} {args : Array Value} {D : va_G} {ty : Nat → ClassId} {b sl : Nat} {sx : Nat → Int32} (htbl : ∀ w ∈ lw_tbl, w.before args s = true) (hK : va_K D ri_cls (ri_T ty) s) (hX : va_X b sl sx s s.heap) (hg : (Jvm.Cond.and given_1 narrow_1).before args s = true) :
    ri_G D ty b sl sx (fun q => s.heap.size ≤ q) s.heap s := by
  have hs := flat_of_before _ hg
  have hnc := ri_nc_start hg
  have hini : (Cond.initialized Bundle.tN).before args s = true := htbl _ (List.mem_append_right _ ri_iniT)
  have z1 : vx_Zq Bundle.tN "UNASSIGNED_STACK" Bundle.steD (fun q => s.heap.size ≤ q) s s.heap := vx_Zqof (htbl _ (List.mem_append_right _ ri_lsU)) hini (hs _ (by decide +kernel)) (fun a ha h => by omega)
  have z2 : vx_Zq Bundle.tN "SUPPRESSED_SENTINEL" Bundle.listD (fun q => s.heap.size ≤ q) s s.heap := vx_Zqof (htbl _ (List.mem_append_right _ ri_lsS)) hini (hs _ (by decide +kernel)) (fun a ha h => by omega)
  intro U hW hag
  have y1 := (vx_Zq.moved hW.alike z1).kept (H1 := U.heap) hag
  have y2 := (vx_Zq.moved hW.alike z2).kept (H1 := U.heap) hag
  refine ⟨fun w hw a => ?_, fun w hw a => ?_, hK.moved hW.alike, hX.moved hW.alike, fun ex ct h1 h2 h3 => (hnc ex ct h1 h2 h3).moved hW.alike⟩
  · obtain ⟨h1, h2⟩ := List.mem_filter.mp hw
    exact ri_tw_warm hW h2 (htbl w h1)
  · rcases List.mem_cons.mp hw with rfl | hw
    · exact vx_isRefq y1.1
    · rcases List.mem_cons.mp hw with rfl | hw
      · exact vx_isRefq y2.1
      · rcases List.mem_cons.mp hw with rfl | hw
        · exact y1.2.word
        · rcases List.mem_cons.mp hw with rfl | hw
          · exact y2.2.word
          · cases hw
