/-! Calls walked through, catches, and the whole: the interpreter is sound over the machine -/
section RIC
variable {E : CtlPost} {e : Env} {d : Bool} {acts : List Action} {s : State} {f : JFrame} {a : Addr} {Q : Handler → Pre}
theorem ri_go_cold {x : ExceptionTableEntry} {t : List ExceptionTableEntry} {c : ClassId} {vm' : Vm} (hx : covers x f.pc = true) (h0 : x.catchType ≠ 0) (hg : (Jvm.resolveClass f.method.cls x.catchType).Gives e.toSetting s.vm (.ok c) vm') (hr : vm'.classReady f.method.cls x.catchType c) (hsz : vm'.classes.size ≤ s.vm.classes.size) :
    wp (findHandler.go f a (x :: t)) Q E e d acts s ↔ wp (findHandler.go f a (x :: t)) Q E e d acts (s.setVm vm') := by
  obtain ⟨ha, ht⟩ := hg.op (op := VmOp.resolveClass f.method.cls x.catchType) rfl
  obtain ⟨k, hkd, hres⟩ := hr
  simp only [covers] at hx
  simp [findHandler.go, hx, h0, ha, ht, hsz, resolveClass_memo e hkd hres, VmOp.dirties, VmOp.acts]
  exact Iff.rfl
end RIC
section RIV
variable {p : Program} {l : Launch} {e : Env} {R : Room} {s : State} {m : MethodId} {args : Array Value} {below : List Frame} {meth : Method} {c : Code} {H : Heap} {locs : List Loc} {cells slots : Nat} {Q : State → Prop}
variable {mi pc : Nat} {i : Instr} {ls : Array Slot} {D : va_G} {A : Nat → Prop} {ty : Nat → ClassId} {b sl : Nat} {sx : Nat → Int32} {ad : List Nat} {H0 : Heap} {L L' : List (Option Value)} {S S' : List Value} {w w' : ri_W} {pc' : Nat} {nL K N : Nat} {pu : Bool}
/-- the search through a handler table, classes linked or not yet -/
theorem ri_find_sound (hpl : e.platform.magicAccessors = ({} : Platform).magicAccessors) (hTW : ∀ w ∈ ri_TW, ∀ a : Array Value, w.before a s = true) (hNc : ∀ ex ct, ri_exk ex = true → ri_exk ct = true → ex ≠ ct → va_Nc (ri_xn ex) (ri_xn ct) s) (hown : s.vm.findClass (ri_nm mi).cls = some m.cls) {ex hp x : Nat} {cell : Cell} (hst : cell.vm.isStatics = false) (hfc : s.vm.findClass (ri_xn ex) = some cell.cls) (hex : ri_exk ex = true) {f : JFrame} (hf : f.method = m) (hpc : f.pc = pc) :
    ∀ (es : List ExceptionTableEntry), (∀ q ∈ es, (q.startPc, q.endPc, q.handlerPc, q.catchType) ∈ ri_et mi) → ri_find pc ex (es.map (fun h => (h.startPc, h.endPc, h.handlerPc, h.catchType))) = some hp →
      ∀ U : State, s.WarmedH U.vm → U.heap[x]? = some cell → ∃ vm' : Vm, s.WarmedH vm' ∧ ∀ (Q : Handler → Pre) (E : CtlPost) (d : Bool) (acts : List Action), wp (findHandler.go f x es) Q E e d acts U ↔ Q (.found hp) d acts (U.setVm vm') := by
  subst hf
  subst hpc
  intro es
  induction es with
  | nil => intro _ h; cases h
  | cons y t ih =>
    intro hmem h U hU hcell
    have ih' := ih (fun q hq => hmem q (List.mem_cons_of_mem _ hq))
    rw [List.map_cons] at h
    unfold ri_find at h
    have hcov : covers y f.pc = (Nat.ble y.startPc f.pc && Nat.blt f.pc y.endPc) := by
      unfold covers
      rw [Bool.eq_iff_iff]
      simp [Nat.ble_eq, Nat.blt_eq]
    cases hc : (Nat.ble y.startPc f.pc && Nat.blt f.pc y.endPc) with
    | false =>
      rw [hc] at h
      obtain ⟨vm', h1, h2⟩ := ih' h U hU hcell
      exact ⟨vm', h1, fun Q E d acts => by rw [W.findHandler_go_skip (hcov.trans hc)]; exact h2 Q E d acts⟩
    | true =>
      rw [hc] at h
      dsimp only [cond_true] at h
      obtain ⟨h0, hlk, hxk⟩ := ri_et_ok (hmem y List.mem_cons_self)
      obtain ⟨cT, hcT, hcl⟩ := Cond.classLink_spec hown (hTW _ hlk #[]) e.platform hpl
      obtain ⟨dk, _, _, kt, hd, _, _, _, _, hkt, _, hopen⟩ := hcl.here
      have hcl₀ := hU.classLinks hcl
      have hW' : s.WarmedH (U.vm.noted f.method.cls y.catchType (.cls cT)) := hU.noted hd hopen (State.rightAt_cls hcl)
      have hgives := resolveClass_links e.toSetting hcl₀
      have hready := hcl₀.ready
      have hsz : (U.vm.noted f.method.cls y.catchType (.cls cT)).classes.size ≤ U.vm.classes.size := by rw [Vm.size_noted]; exact Nat.le_refl _
      obtain ⟨kx, hkx⟩ := Vm.classAt_of_findClass hfc
      obtain ⟨kx', hkx', -⟩ := hW'.alike.2.2 _ _ hkx
      obtain ⟨kt', hkt', -⟩ := hW'.alike.2.2 _ _ hkt
      have hgo : ∀ (Q : Handler → Pre) (E : CtlPost) (d : Bool) (acts : List Action), wp (findHandler.go f x (y :: t)) Q E e d acts U ↔
          if s.vm.assignable cell.cls cT = true then Q (.found y.handlerPc) d acts (U.setVm (U.vm.noted f.method.cls y.catchType (.cls cT))) else wp (findHandler.go f x t) Q E e d acts (U.setVm (U.vm.noted f.method.cls y.catchType (.cls cT))) := by
        intro Q E d acts
        rw [ri_go_cold (hcov.trans hc) h0 hgives hready hsz]
        rw [W.findHandler_go_class (s := U.setVm (U.vm.noted f.method.cls y.catchType (.cls cT))) (hcov.trans hc) h0 hready hcell (VmData.ne_statics_of hst) ⟨kx', hkx'⟩ ⟨kt', hkt'⟩]
        show (if (U.vm.noted f.method.cls y.catchType (.cls cT)).assignable cell.cls cT = true then _ else _) ↔ _
        rw [hW'.alike.assignable]
      cases he : Nat.beq (ri_ct y.catchType) ex with
      | true =>
        rw [he] at h
        cases h
        have he := Nat.eq_of_beq_eq_true he
        rw [he] at hcT
        obtain ⟨c3, c4, hc3, hc4, hasg⟩ := Cond.castable_spec (hTW _ (ri_cast hex) #[])
        cases Option.some.inj (hc3.symm.trans hfc)
        cases Option.some.inj (hc4.symm.trans hcT)
        exact ⟨_, hW', fun Q E d acts => by rw [hgo, if_pos hasg]⟩
      | false =>
        rw [he] at h
        have hasg : s.vm.assignable cell.cls cT = false := by
          obtain ⟨c3, c4, hc3, hc4, hasg⟩ := hNc ex (ri_ct y.catchType) hex hxk (fun q => by rw [← q, Nat.beq_refl] at he; cases he)
          cases Option.some.inj (hc3.symm.trans hfc)
          cases Option.some.inj (hc4.symm.trans hcT)
          exact hasg
        obtain ⟨vm', h1, h2⟩ := ih' h (U.setVm (U.vm.noted f.method.cls y.catchType (.cls cT))) hW' hcell
        exact ⟨vm', h1, fun Q E d acts => by rw [hgo, if_neg (by rw [hasg]; decide)]; exact h2 Q E d acts⟩
theorem ri_catch {T : State} (X : Stand p l e R s m args below meth c T locs cells slots) (hTW : ∀ w ∈ ri_TW, ∀ a : Array Value, w.before a s = true) (hNc : ∀ ex ct, ri_exk ex = true → ri_exk ct = true → ex ≠ ct → va_Nc (ri_xn ex) (ri_xn ct) s) (cx : ri_cx mi R s m meth c) {ex hp x : Nat} {cell : Cell} (hcell : T.heap[x]? = some cell) (hst : cell.vm.isStatics = false) (hfc : s.vm.findClass (ri_xn ex) = some cell.cls) (hex : ri_exk ex = true) (hh : ri_hd mi pc ex = some hp) {st : List Value} :
    ∃ vm' : Vm, Stand p l e R s m args below meth c (T.setVm vm') locs cells slots ∧ ∀ target, Steps p.tables e below ((T.setVm vm').setTop (F0 m hp ls [.ref x])) target → Steps p.tables e below ((T.setTop (F0 m pc ls st)).pushFrame (.throwing x)) target := by
  have hpl : e.platform.magicAccessors = ({} : Platform).magicAccessors := by rw [X.admits.platform]
  obtain ⟨hb, hml, -, hlk, hnm, hown, het, hfr, hlo⟩ := cx
  have hmem : ∀ q ∈ c.exceptionTable.toList, (q.startPc, q.endPc, q.handlerPc, q.catchType) ∈ ri_et mi := by
    intro q hq
    rw [← het]
    exact List.mem_map.mpr ⟨q, hq, rfl⟩
  unfold ri_hd at hh
  rw [← het] at hh
  obtain ⟨vm', hW', hwp⟩ := ri_find_sound hpl hTW hNc hown hst hfc hex (f := F0 m pc ls st) rfl rfl c.exceptionTable.toList hmem hh ((T.setTop (F0 m pc ls st)).pushFrame (.throwing x)) (by rw [Stand.throwing_vm]; exact X.warmed) (by rw [Stand.throwing_heap]; exact hcell)
  refine ⟨vm', X.noted hW', fun target hrest => ?_⟩
  have hAt : At T (F0 m pc ls st).method c below := X.here
  obtain ⟨hgo, hw⟩ := hAt.throwing x
  refine Steps.head hgo hw ?_
  rw [stepThread_throwing (frames_entered hAt.top _)]
  have hfr : T.frames.tail = below := X.tail
  rw [hfr]
  have hstep : (stepThrowing e ((T.setTop (F0 m pc ls st)).pushFrame (.throwing x)) x (.java (F0 m pc ls st) :: below)).1 = (((T.setTop (F0 m pc ls st)).pushFrame (.throwing x)).setVm vm').setFrames (.java { F0 m pc ls st with pc := hp, stack := [.ref x] } :: below) := by
    simp only [stepThrowing, searchFrame, vmDo]
    generalize hr : Sem.go _ e false [] ((T.setTop (F0 m pc ls st)).pushFrame (.throwing x)) = res
    obtain ⟨as, rfl, ha⟩ := Sem.eq_ok_of hr (a := Handler.found hp) (s' := ((T.setTop (F0 m pc ls st)).pushFrame (.throwing x)).setVm vm') (acts' := [])
      (by
        simp only [wp_bind']
        rw [W.findHandler_eq (f := F0 m pc ls st) (by rw [Stand.throwing_vm]; exact X.method') X.code, hwp]
        simp)
    rfl
  rw [hstep]
  obtain ⟨g₀, hg⟩ := X.frames_eq
  have hg' : (T.setVm vm').frames = .java g₀ :: below := hg
  rw [State.setTop_of_frames _ hg'] at hrest
  have e1 : (((T.setTop (F0 m pc ls st)).pushFrame (.throwing x)).setVm vm').setFrames (.java { F0 m pc ls st with pc := hp, stack := [.ref x] } :: below) = (T.setVm vm').setFrames (.java (F0 m hp ls [.ref x]) :: below) := by
    show (((T.setTop (F0 m pc ls st)).pushFrame (.throwing x)).setFrames _).setVm vm' = _
    rw [State.pushFrame, State.setFrames_setFrames, State.setTop_of_frames _ hg, State.setFrames_setFrames]
    rfl
  rw [e1]
  exact hrest
/-- a call, the callee walked through -/
theorem ri_call_run (hx : p.tables.exec = Jvm.exec) (hG : ri_G D ty b sl sx A H0 s) (hag : ri_ag H0 A s.heap) (cx : ri_cx mi R s m meth c) (hL : ri_L b ad (ri_mL mi) L ls) (hE : ri_E D ty b A H0 (ri_pu mi) ad w H locs)
    {mk : Nat} {as rest st : List Value} (hInv : ri_Inv p l e R s m args below meth c H locs cells slots pc ls mk (as.map (ri_v b ad)) rest st) {ig : Instr} (hd : decode (ri_cc mi) pc = .ok (ig, 3)) (hcw : ri_cw mk) (hpn : plainFor (ri_nm mk) = true)
    (has : as.all ri_c1 = true) (hasn : as.length ≤ ri_mL mk) (hfr : ri_fr mk < ri_fr mi) (hlo : (rest.map fun v => v.category).sum + (ri_mL mk + 11) + ri_lo mk ≤ ri_lo mi) {r : Option Int32 ⊕ Nat} {w1 : ri_W} {c1 n1 : Nat} (hcells : cells + c1 ≤ R.cells) (hslots : slots + n1 ≤ R.slots)
    (IHc : ∀ (R' : Room) (s' : State) (m' : MethodId) (args' : Array Value) (below' : List Frame) (meth' : Method) (c' : Code), ri_cx mk R' s' m' meth' c' → ri_G D ty b sl sx A H0 s' → ri_ag H0 A s'.heap → c1 ≤ R'.cells → n1 ≤ R'.slots → ∀ (ls' : Array Slot) (H' : Heap), ri_L b ad (ri_mL mk) (ri_ent mk as) ls' → ri_E D ty b A H0 (ri_pu mk) ad w H' [] →
      W p l e R' s' m' args' below' meth' c' H' [] 0 0 (ri_Q D ty b A H0 (ri_pu mk) (ri_gr mk) below' s' c1 n1 ad r w1) (F0 m' 0 ls' []))
    (kk : ∀ (T' : State) (Lc : List Loc) (ad2 : List Nat), Stand p l e R s m args below meth c T' (locs ++ Lc) (cells + c1) (slots + n1) → ri_E D ty b A H0 (ri_pu mk) (ad ++ ad2) w1 T'.heap Lc → (ri_gr mk = false → ad2 = []) → (match r with
      | .inl v => ∃ t, Steps p.tables e below (T'.setTop (F0 m (pc + 3) ls ((v.map Value.int).toList ++ rest))) t ∧ Q t
      | .inr ex => ∀ (x : Nat) (cell : Cell), T'.heap[x]? = some cell → cell.vm.isStatics = false → s.vm.findClass (ri_xn ex) = some cell.cls → ∃ t, Steps p.tables e below ((T'.setTop (F0 m pc ls rest)).pushFrame (.throwing x)) t ∧ Q t)) :
    W p l e R s m args below meth c H locs cells slots Q (F0 m pc ls st) := by
  obtain ⟨hb, hml, -, hlk, hnm, hown, het, hfrR, hloR⟩ := cx
  intro T hT X
  obtain ⟨vm₁, mk', X1, hnamed, hstep⟩ := hInv T hT X
  obtain ⟨hTW, -⟩ := hG s (State.WarmedH.refl s) hag
  obtain ⟨mk0, methk, ck, hn0, q1, q2, q3, q4, q5, q6, q7, q8⟩ := ri_mf_of hTW hcw
  cases hnamed.symm.trans hn0
  have hmk : (T.setVm vm₁).vm.method? mk' = some methk := by rw [X1.warmed.alike.method?]; exact q1
  have hpk : (T.setVm vm₁).plainMethod mk' := State.plainMethod.of_named hpn (X1.named hnamed) hmk
  obtain ⟨Y, hent⟩ := X1.into (g := F0 m pc ls rest) rfl (by rw [hml]; exact hL.2.1) (by rw [hb]; exact hd) (as.map (ri_v b ad)).toArray (R' := { frames := ri_fr mk, locals := ri_lo mk, cells := c1, slots := n1 }) hmk q2 q6 hpk
    (by show ri_fr mk + 1 ≤ _; omega) (by show 2 * 0 + (rest.map fun v => v.category).sum + (ck.maxLocals + 11) + ri_lo mk ≤ R.locals; rw [q4]; omega) hcells hslots
  have hag1 : ri_ag H0 A T.heap := by
    intro q hq hA
    rw [hT]
    exact hE.2.2.2.1.2.1 q hq hA
  have hG1 : ri_G D ty b sl sx A H0 ((T.setVm vm₁).calling (F0 m pc ls rest) mk' (as.map (ri_v b ad)).toArray) := fun U hU hagU => hG U (State.WarmedH.trans X1.warmed hU) hagU
  have hE1 : ri_E D ty b A H0 (ri_pu mk) ad w H [] := ⟨hE.1, hE.2.1, hE.2.2.1, ⟨hE.2.2.2.1.1, hE.2.2.2.1.2.1, fun l hl => by cases hl⟩, fun _ => rfl⟩
  have hcx : ri_cx mk { frames := ri_fr mk, locals := ri_lo mk, cells := c1, slots := n1 } ((T.setVm vm₁).calling (F0 m pc ls rest) mk' (as.map (ri_v b ad)).toArray) mk' methk ck := by
    refine ⟨q3, q4, q5, q6, (name_of_methodNamed hn0 q1).1, ?_, q7, Nat.le_refl _, Nat.le_refl _⟩
    show (T.setVm vm₁).vm.findClass _ = _
    rw [X1.warmed.alike.findClass]
    exact findClass_of_methodNamed hnamed
  have hcat : ∀ v ∈ as.map (ri_v b ad), v.category = 1 := by
    intro v hv
    obtain ⟨u, hu, rfl⟩ := List.mem_map.mp hv
    rw [ri_cat]
    exact Nat.eq_of_beq_eq_true (List.all_eq_true.mp has u hu)
  have hef : entryFrame mk' (as.map (ri_v b ad)).toArray ck.maxLocals = F0 mk' 0 (((as.map (ri_v b ad)).map Slot.val ++ List.replicate (ri_mL mk - (as.map (ri_v b ad)).length) Slot.unset).toArray) [] := by
    rw [entry_eq mk' _ hcat, q4]
  obtain ⟨t, hst, hrun, hWt, ⟨Lc, ad2, hsame, hE2, hgr2⟩, hEn⟩ := IHc _ _ mk' (as.map (ri_v b ad)).toArray (.java (F0 m pc ls rest) :: below) methk ck hcx hG1 hag1 (Nat.le_refl _) (Nat.le_refl _) _ H (ri_L.entry has hasn) hE1 (((T.setVm vm₁).setTop (F0 m pc ls rest)).pushFrame (.java (entryFrame mk' (as.map (ri_v b ad)).toArray ck.maxLocals))) hT Y
  rw [← hef] at hst
  have hst := ri_Steps_weaken (mid := [.java (F0 m pc ls rest)]) hst
  cases r with
  | inl v =>
    obtain ⟨T', X', hW', hsame', ht⟩ := X1.outOf (g := F0 m pc ls rest) rfl (by rw [hb]; exact hd) hEn hWt hsame
    have hth : t.heap = T'.heap := by rw [ht]; rfl
    rw [hth] at hE2
    obtain ⟨t2, a1, b1⟩ := kk T' Lc ad2 X' hE2 hgr2
    refine ⟨t2, hstep t2 fun acts => ?_, b1⟩
    rw [hent acts]
    refine hst.trans ?_
    rw [ht]
    exact a1
  | inr ex =>
    obtain ⟨x, cell, hEn, hcell, hstat, hfc⟩ := hEn
    obtain ⟨T', X', hW', hsame', ht⟩ := X1.outOfThrown (g := F0 m pc ls rest) rfl hEn hWt hsame
    have hth : t.heap = T'.heap := by rw [ht, Stand.throwing_heap]
    rw [hth] at hE2 hcell
    have hfc : s.vm.findClass (ri_xn ex) = some cell.cls := by
      rw [← X1.warmed.alike.findClass]
      exact hfc
    obtain ⟨t2, a1, b1⟩ := kk T' Lc ad2 X' hE2 hgr2 x cell hcell hstat hfc
    refine ⟨t2, hstep t2 fun acts => ?_, b1⟩
    rw [hent acts]
    refine hst.trans ?_
    rw [ht]
    exact a1
theorem ri_rcv_spec {mk : Nat} {as : List Value} (h : ri_rcv mk as w = true) (hk : ∃ ci, ri_kl mk = some ci) : ∃ (a : Nat) (as' : List Value) (fs : List Value) (ci : Nat), as = .ref (a + 1) :: as' ∧ ri_kl mk = some ci ∧ w[a]? = some (.inr (ci, fs)) := by
  obtain ⟨ci, hk⟩ := hk
  unfold ri_rcv at h
  rw [hk] at h
  dsimp only at h
  split at h
  · rename_i a as'
    split at h
    · rename_i cj fs hw
      have h := Nat.eq_of_beq_eq_true h
      subst h
      exact ⟨a, as', fs, cj, rfl, hk, hw⟩
    · cases h
  · cases h
/-- what the check of a call gives -/
theorem ri_cl_spec {mk : Nat} {as : List Value} (h : ri_cl mi i L S w = some (mk, as, S')) :
    ((∃ x, i = .invokestatic x ∧ ri_ca mi x = some (0, mk)) ∨ (∃ x, i = .invokevirtual x ∧ ri_ca mi x = some (1, mk)) ∨ (∃ x, i = .invokespecial x ∧ ri_ca mi x = some (2, mk))) ∧
    S = as.reverse ++ S' ∧ as.length = ri_ar mk ∧ as.all ri_c1 = true ∧ as.length ≤ ri_mL mk ∧ ri_rcv mk as w = true ∧ ri_fr mk < ri_fr mi ∧ (S'.map Value.category).sum + (ri_mL mk + 11) + ri_lo mk ≤ ri_lo mi ∧
    (ri_pu mi = true → ri_pu mk = true) ∧ (ri_gr mk = true → ri_gr mi = true ∧ L.all (ri_inO w.length) = true ∧ S'.all (ri_in w.length) = true) := by
  unfold ri_cl at h
  have key : ∀ (q : Option (Nat × Nat)), (∀ mk n, q = some (mk, n) → ((∃ x, i = .invokestatic x ∧ ri_ca mi x = some (0, mk)) ∨ (∃ x, i = .invokevirtual x ∧ ri_ca mi x = some (1, mk)) ∨ (∃ x, i = .invokespecial x ∧ ri_ca mi x = some (2, mk))) ∧ n = ri_ar mk) → ∀ mk n, q = some (mk, n) →
    ((∃ x, i = .invokestatic x ∧ ri_ca mi x = some (0, mk)) ∨ (∃ x, i = .invokevirtual x ∧ ri_ca mi x = some (1, mk)) ∨ (∃ x, i = .invokespecial x ∧ ri_ca mi x = some (2, mk))) ∧ n = ri_ar mk := fun q h => h
  split at h
  · rename_i mk1 n1 hq
    have hk : ((∃ x, i = .invokestatic x ∧ ri_ca mi x = some (0, mk1)) ∨ (∃ x, i = .invokevirtual x ∧ ri_ca mi x = some (1, mk1)) ∨ (∃ x, i = .invokespecial x ∧ ri_ca mi x = some (2, mk1))) ∧ n1 = ri_ar mk1 := by
      cases i
      case invokestatic x =>
        dsimp only at hq
        split at hq
        · rename_i mk2 hca
          cases hq
          exact ⟨Or.inl ⟨x, rfl, hca⟩, rfl⟩
        · cases hq
      case invokevirtual x =>
        dsimp only at hq
        split at hq
        · rename_i mk2 hca
          cases hq
          exact ⟨Or.inr (Or.inl ⟨x, rfl, hca⟩), rfl⟩
        · cases hq
      case invokespecial x =>
        dsimp only at hq
        split at hq
        · rename_i mk2 hca
          cases hq
          exact ⟨Or.inr (Or.inr ⟨x, rfl, hca⟩), rfl⟩
        · cases hq
      all_goals cases hq
    obtain ⟨hc, h⟩ := ri_bif h
    simp only [Bool.and_eq_true] at hc
    obtain ⟨c1, c2, c3, c4, c5, c6, c7, c8⟩ := hc
    cases h
    obtain ⟨hk, rfl⟩ := hk
    have c1 := Nat.le_of_ble_eq_true c1
    refine ⟨hk, ?_, ?_, ?_, ?_, c4, Nat.le_of_ble_eq_true c5, Nat.le_of_ble_eq_true c6, ?_, ?_⟩
    · rw [List.reverse_reverse, List.take_append_drop]
    · rw [List.length_reverse, List.length_take]; omega
    · rw [List.all_reverse]; exact c2
    · rw [List.length_reverse, List.length_take]
      have := Nat.le_of_ble_eq_true c3
      omega
    · intro q; rw [q] at c7; simpa using c7
    · intro q; rw [q] at c8; simpa using c8
  · cases h
theorem ri_mk_spec {q : ri_St × Nat} (h : ri_mk mi i pc L S w = some q) : ri_gr mi = true ∧ ri_pu mi = false := by
  cases i
  case new x =>
    dsimp only [ri_mk] at h
    split at h
    · obtain ⟨hc, -⟩ := ri_bif h
      simp only [Bool.and_eq_true] at hc
      exact ⟨hc.1.1, by simpa using hc.1.2⟩
    · cases h
  case newarray t =>
    dsimp only [ri_mk] at h
    split at h
    · obtain ⟨hc, -⟩ := ri_bif h
      simp only [Bool.and_eq_true] at hc
      exact ⟨hc.1.1.1, by simpa using hc.1.1.2⟩
    · cases h
  all_goals exact absurd h (by simp [ri_mk])
theorem ri_end_inl {v : Option Int32} {c1 n1 : Nat} (h : ri_end mi i pc S w = some (.inl v, w', c1, n1)) : c1 = 0 ∧ n1 = 0 := by
  cases i
  case ireturn =>
    dsimp only [ri_end] at h
    split at h
    · split at h
      · cases h; exact ⟨rfl, rfl⟩
      · obtain ⟨-, h⟩ := ri_bif h; cases h; exact ⟨rfl, rfl⟩
      · cases h
    · cases h
  case return_ =>
    dsimp only [ri_end] at h
    split at h
    · split at h
      · cases h; exact ⟨rfl, rfl⟩
      · cases h
    · cases h
  case new x =>
    dsimp only [ri_end] at h
    split at h
    · split at h
      · cases h
      · cases h
    · cases h
  all_goals exact absurd h (by simp [ri_end])
theorem ri_pu_hd (h : ri_pu mi = true) : (ri_et mi).isEmpty = true := by
  rw [ri_pu_et h]
  rfl
theorem ri_han_spec {ex hp k : Nat} (h : ri_han mi pc ex = some (hp, k)) : ri_exk ex = true ∧ ∃ hp0, ri_hd mi pc ex = some hp0 ∧ ((ri_at mi hp0 = some (.astore k) ∧ hp = hp0 + 2) ∨ ∃ kf : Fin 4, ri_at mi hp0 = some (.astore_n kf) ∧ k = kf.val ∧ hp = hp0 + 1) := by
  unfold ri_han at h
  split at h
  · rename_i hp0 hh
    split at h
    · rename_i k0 ha
      obtain ⟨he, h⟩ := ri_bif h
      cases h
      exact ⟨he, hp0, hh, Or.inl ⟨ha, rfl⟩⟩
    · rename_i k0 ha
      obtain ⟨he, h⟩ := ri_bif h
      cases h
      exact ⟨he, hp0, hh, Or.inr ⟨k0, ha, rfl, rfl⟩⟩
    · cases h
  · cases h
theorem ri_pu_zero : ∀ (f mi : Nat) (st : ri_St) (v : Option Int32) (w1 : ri_W) (c1 n1 : Nat), ri_run sl sx f mi st = some (.inl v, w1, c1, n1) → ri_pu mi = true → c1 = 0 ∧ n1 = 0 := by
  intro f
  induction f with
  | zero => intro mi st v w1 c1 n1 h; cases h
  | succ f ih =>
    intro mi st v w1 c1 n1 h hpu
    have h : ri_step sl sx (ri_run sl sx f) mi st = some (.inl v, w1, c1, n1) := h
    unfold ri_step at h
    cases hat : ri_at mi st.1 with
    | none => simp only [hat] at h; cases h
    | some i =>
      simp only [hat] at h
      cases hen : ri_end mi i st.1 st.2.2.1 st.2.2.2 with
      | some o1 =>
        simp only [hen] at h
        cases h
        exact ri_end_inl hen
      | none =>
        simp only [hen] at h
        cases hop : ri_op sl sx mi i st.1 st.2.1 st.2.2.1 st.2.2.2 with
        | some st1 => simp only [hop] at h; exact ih _ _ _ _ _ _ h hpu
        | none =>
          simp only [hop] at h
          cases hmk : ri_mk mi i st.1 st.2.1 st.2.2.1 st.2.2.2 with
          | some q => have := (ri_mk_spec hmk).2; rw [hpu] at this; cases this
          | none =>
            simp only [hmk] at h
            cases hcl : ri_cl mi i st.2.1 st.2.2.1 st.2.2.2 with
            | none => simp only [hcl] at h; cases h
            | some q =>
              obtain ⟨mk, as, S1⟩ := q
              simp only [hcl] at h
              obtain ⟨-, -, -, -, -, -, -, -, hpk, -⟩ := ri_cl_spec hcl
              cases hr : ri_run sl sx f mk (0, ri_ent mk as, [], st.2.2.2) with
              | none => simp only [hr] at h; cases h
              | some o1 =>
                obtain ⟨r, w2, c2, n2⟩ := o1
                simp only [hr] at h
                cases r with
                | inl v2 =>
                  obtain ⟨c3, n3, h1, rfl, rfl⟩ := ri_add_some h
                  have e1 := ih _ _ _ _ _ _ hr (hpk hpu)
                  have e2 := ih _ _ _ _ _ _ h1 hpu
                  omega
                | inr ex =>
                  dsimp only at h
                  rw [ri_pu_hd hpu] at h
                  dsimp only [cond_true] at h
                  cases h
/-- THE INTERPRETER IS SOUND -/
theorem ri_sound (hx : p.tables.exec = Jvm.exec) (htr : e.platform.stackTraces = false) (hB : ri_B b A H0) : ∀ (f mi : Nat) (st : ri_St) (r : Option Int32 ⊕ Nat) (w1 : ri_W) (c1 n1 : Nat), ri_run sl sx f mi st = some (r, w1, c1, n1) →
    ∀ (R : Room) (s : State) (m : MethodId) (args : Array Value) (below : List Frame) (meth : Method) (c : Code), ri_cx mi R s m meth c → ri_G D ty b sl sx A H0 s → ri_ag H0 A s.heap →
    ∀ (H : Heap) (locs : List Loc) (cells slots : Nat) (ls : Array Slot) (ad : List Nat) (K N : Nat), ri_L b ad (ri_mL mi) st.2.1 ls → ri_E D ty b A H0 (ri_pu mi) ad st.2.2.2 H locs → (ri_pu mi = true → cells = 0) → cells + c1 ≤ K → slots + n1 ≤ N → K ≤ R.cells → N ≤ R.slots →
      W p l e R s m args below meth c H locs cells slots (ri_Q D ty b A H0 (ri_pu mi) (ri_gr mi) below s K N ad r w1) (F0 m st.1 ls (st.2.2.1.map (ri_v b ad))) := by
  intro f
  induction f with
  | zero => intro mi st r w1 c1 n1 h; cases h
  | succ f ih =>
    intro mi st r w1 c1 n1 h R s m args below meth c cx hG hag H locs cells slots ls ad K N hL hE hpu hcK hsN hKR hNR
    obtain ⟨pc, L, S, w⟩ := st
    dsimp only at hL hE ⊢
    have hF := hG s (State.WarmedH.refl s) hag
    have h : ri_step sl sx (ri_run sl sx f) mi (pc, L, S, w) = some (r, w1, c1, n1) := h
    unfold ri_step at h
    dsimp only at h
    cases hat : ri_at mi pc with
    | none => simp only [hat] at h; cases h
    | some i =>
      simp only [hat] at h
      cases hen : ri_end mi i pc S w with
      | some o1 =>
        simp only [hen] at h
        cases h
        exact ri_end_sound hx htr hF cx hat hL hE hen hpu hcK hsN hKR hNR
      | none =>
        simp only [hen] at h
        cases hop : ri_op sl sx mi i pc L S w with
        | some st1 =>
          obtain ⟨pc1, L1, S1, w2⟩ := st1
          simp only [hop] at h
          exact ri_op_sound hx hB hF cx hat (by omega) (by omega) hL hE hop fun ls' H' locs' hL' hE' => ih mi _ _ _ _ _ h R s m args below meth c cx hG hag H' locs' cells slots ls' ad K N hL' hE' hpu hcK hsN hKR hNR
        | none =>
          simp only [hop] at h
          cases hmk : ri_mk mi i pc L S w with
          | some q =>
            obtain ⟨⟨pc1, L1, S1, w2⟩, n⟩ := q
            simp only [hmk] at h
            obtain ⟨c2, n2, h1, rfl, rfl⟩ := ri_add_some h
            obtain ⟨hgr, hnp⟩ := ri_mk_spec hmk
            refine ri_mk_sound hx hB hF cx hat hL hE hmk (by omega) (by omega) fun q ls' H' locs' hL' hE' => ?_
            refine ri_W_mono (fun t ht => ?_) (ih mi _ _ _ _ _ h1 R s m args below meth c cx hG hag H' locs' (cells + 1) (slots + n) ls' (ad ++ [q]) K N hL' hE' (fun q => by rw [hnp] at q; cases q) (by omega) (by omega) hKR hNR)
            obtain ⟨t1, t2, ⟨Lc, ad2, t3, t4, -⟩, t5⟩ := ht
            exact ⟨t1, t2, ⟨Lc, [q] ++ ad2, t3, by rw [← List.append_assoc]; exact t4, fun q => by rw [hgr] at q; cases q⟩, t5⟩
          | none =>
            simp only [hmk] at h
            cases hcl : ri_cl mi i L S w with
            | none => simp only [hcl] at h; cases h
            | some q =>
              obtain ⟨mk, as, S1⟩ := q
              simp only [hcl] at h
              obtain ⟨hkind, hS, hasn, hasc, hasl, hrcv, hfr, hlo, hpk, hgk⟩ := ri_cl_spec hcl
              cases hr : ri_run sl sx f mk (0, ri_ent mk as, [], w) with
              | none => simp only [hr] at h; cases h
              | some o1 =>
                obtain ⟨r2, w2, c2, n2⟩ := o1
                simp only [hr] at h
                have hb : c.code = ri_cc mi := cx.1
                have hown : s.vm.findClass (ri_nm mi).cls = some m.cls := cx.2.2.2.2.2.1
                obtain ⟨n0, hd, hn0⟩ := ri_at_ok hat
                have hInv : (∃ ig, decode (ri_cc mi) pc = .ok (ig, 3)) ∧ ri_cw mk ∧ plainFor (ri_nm mk) = true ∧ ri_Inv p l e R s m args below meth c H locs cells slots pc ls mk (as.map (ri_v b ad)) (S1.map (ri_v b ad)) (S.map (ri_v b ad)) := by
                  have hSm : S.map (ri_v b ad) = (as.map (ri_v b ad)).reverse ++ S1.map (ri_v b ad) := by rw [hS, List.map_append, List.map_reverse]
                  rw [hSm]
                  rcases hkind with ⟨x, rfl, hca⟩ | ⟨x, rfl, hca⟩ | ⟨x, rfl, hca⟩
                  · cases hn0 rfl
                    obtain ⟨-, -, -, hcw, hp, -⟩ := ri_ca_ok0 hca
                    exact ⟨⟨_, hd⟩, hcw, hp, ri_inv_S hx hF.1 hb hown hca hd (by rw [List.length_map]; exact hasn)⟩
                  · cases hn0 rfl
                    obtain ⟨-, -, -, hcw, hp, -, har, hkl⟩ := ri_ca_ok1 hca
                    obtain ⟨a, as', fs, ci, rfl, hci, hwa⟩ := ri_rcv_spec hrcv (by obtain ⟨ci, _, _, _, q, -⟩ := hkl; exact ⟨ci, q⟩)
                    obtain ⟨aa, had, hget⟩ := ri_w_get (ty := ty) (b := b) hE.1 hwa
                    rw [List.map_cons, ri_v_ref had]
                    refine ⟨⟨_, hd⟩, hcw, hp, ?_⟩
                    rw [List.reverse_cons, List.append_assoc]
                    exact ri_inv_V hx hF.1 hF.2.2.1 hb hown hca hd (hE.2.1 a _ hget) hci (by rw [List.length_map]; exact hasn)
                  · cases hn0 rfl
                    obtain ⟨-, -, -, -, hcw, hp, -, har, hkl⟩ := ri_ca_ok2 hca
                    obtain ⟨a, as', fs, ci, rfl, hci, hwa⟩ := ri_rcv_spec hrcv (by obtain ⟨ci, _, _, _, q, -⟩ := hkl; exact ⟨ci, q⟩)
                    obtain ⟨aa, had, hget⟩ := ri_w_get (ty := ty) (b := b) hE.1 hwa
                    rw [List.map_cons, ri_v_ref had]
                    refine ⟨⟨_, hd⟩, hcw, hp, ?_⟩
                    rw [List.reverse_cons, List.append_assoc]
                    exact ri_inv_I hx hF.1 hb hown hca hd (by rw [List.length_map]; exact hasn)
                obtain ⟨⟨ig, hd3⟩, hcw, hpn, hInv⟩ := hInv
                have hcn : c2 ≤ c1 ∧ n2 ≤ n1 := by
                  cases r2 with
                  | inl v =>
                    obtain ⟨c3, n3, h1, rfl, rfl⟩ := ri_add_some h
                    omega
                  | inr ex =>
                    dsimp only at h
                    cases hh : (ri_et mi).isEmpty with
                    | true => simp only [hh, cond_true] at h; cases h; omega
                    | false =>
                      simp only [hh, cond_false] at h
                      split at h
                      · obtain ⟨-, h⟩ := ri_bif h
                        obtain ⟨c3, n3, h1, rfl, rfl⟩ := ri_add_some h
                        omega
                      · cases h
                refine ri_call_run hx hG hag cx hL hE hInv hd3 hcw hpn hasc hasl hfr (by rw [ri_cats]; exact hlo) (r := r2) (w1 := w2) (c1 := c2) (n1 := n2) (by omega) (by omega) ?_ ?_
                · intro R' s' m' args' below' meth' c' cx' hG' hag' hc' hn' ls' H' hL' hE'
                  exact ih mk _ _ _ _ _ hr R' s' m' args' below' meth' c' cx' hG' hag' H' [] 0 0 ls' ad c2 n2 hL' hE' (fun _ => rfl) (by omega) (by omega) hc' hn'
                · intro T' Lc ad2 X' hE2 hg2
                  have hgrk : (ad2 = [] ∨ (ri_gr mi = true ∧ L.all (ri_inO ad.length) = true ∧ S1.all (ri_in ad.length) = true)) := by
                    cases hg : ri_gr mk with
                    | false => exact Or.inl (hg2 hg)
                    | true => have := hgk hg; rw [← hE.1] at this; exact Or.inr this
                  have hL2 : ri_L b (ad ++ ad2) (ri_mL mi) L ls := by
                    rcases hgrk with q | q
                    · rw [q, List.append_nil]; exact hL
                    · exact hL.app q.2.1
                  have hS2 : S1.map (ri_v b (ad ++ ad2)) = S1.map (ri_v b ad) := by
                    rcases hgrk with q | q
                    · rw [q, List.append_nil]
                    · exact ri_map_app q.2.2
                  have hE3 : ri_E D ty b A H0 (ri_pu mi) (ad ++ ad2) w2 T'.heap (locs ++ Lc) := by
                    refine ⟨hE2.1, hE2.2.1, hE2.2.2.1, ⟨hE2.2.2.2.1.1, hE2.2.2.2.1.2.1, fun l hl => ?_⟩, fun q => ?_⟩
                    · rcases List.mem_append.mp hl with q | q
                      · exact hE.2.2.2.1.2.2 l q
                      · exact hE2.2.2.2.1.2.2 l q
                    · rw [hE.2.2.2.2 q, hE2.2.2.2.2 (hpk q)]; rfl
                  have mono : ∀ (r : Option Int32 ⊕ Nat) (w : ri_W) (t : State), ri_Q D ty b A H0 (ri_pu mi) (ri_gr mi) below s K N (ad ++ ad2) r w t → ri_Q D ty b A H0 (ri_pu mi) (ri_gr mi) below s K N ad r w t := by
                    intro r w t ht
                    obtain ⟨t1, t2, ⟨Lc2, ad3, t3, t4, t6⟩, t5⟩ := ht
                    refine ⟨t1, t2, ⟨Lc2, ad2 ++ ad3, t3, by rw [← List.append_assoc]; exact t4, fun q => ?_⟩, t5⟩
                    rw [t6 q, List.append_nil]
                    rcases hgrk with z | z
                    · exact z
                    · rw [q] at z; cases z.1
                  cases r2 with
                  | inl v =>
                    obtain ⟨c3, n3, h1, rfl, rfl⟩ := ri_add_some h
                    have k := ih mi _ _ _ _ _ h1 R s m args below meth c cx hG hag T'.heap (locs ++ Lc) (cells + c2) (slots + n2) ls (ad ++ ad2) K N hL2 hE3 (fun q => by rw [hpu q, (ri_pu_zero _ _ _ _ _ _ _ hr (hpk q)).1]) (by omega) (by omega) hKR hNR
                    obtain ⟨t, a1, b1⟩ := k T' rfl X'
                    refine ⟨t, ?_, mono _ _ _ b1⟩
                    have e1 : ((v.map Value.int).toList ++ S1).map (ri_v b (ad ++ ad2)) = (v.map Value.int).toList ++ S1.map (ri_v b ad) := by
                      rw [List.map_append, hS2]
                      cases v <;> rfl
                    rw [← e1]
                    exact a1
                  | inr ex =>
                    intro x cell hcell hst hfc
                    dsimp only at h
                    cases hh : (ri_et mi).isEmpty with
                    | true =>
                      simp only [hh, cond_true] at h
                      cases h
                      have hout : ∀ y ∈ c.exceptionTable.toList, covers y (F0 m pc ls (S1.map (ri_v b ad))).pc = false := by
                        intro y hy
                        have het := cx.2.2.2.2.2.2.1
                        rw [List.isEmpty_iff] at hh
                        rw [hh, List.map_eq_nil_iff] at het
                        rw [het] at hy
                        cases hy
                      obtain ⟨u1, u2, u3, u4, u5⟩ := X'.leaveThrown x (g := F0 m pc ls (S1.map (ri_v b ad))) rfl rfl rfl hout cx.2.2.2.1
                      exact ⟨_, u1, u2, u4, ⟨locs ++ Lc, ad2, u5.mono (by omega) (by omega), hE3, fun q => by
                        rcases hgrk with z | z
                        · exact z
                        · rw [q] at z; cases z.1⟩, x, cell, u3, hcell, hst, hfc⟩
                    | false =>
                      simp only [hh, cond_false] at h
                      split at h
                      · rename_i hp k hhan
                        obtain ⟨hk, h⟩ := ri_bif h
                        have hk : k < ri_mL mi := by rw [← hL.1]; exact Nat.le_of_ble_eq_true hk
                        obtain ⟨c3, n3, h1, rfl, rfl⟩ := ri_add_some h
                        obtain ⟨hex, hp0, hhd, hstore⟩ := ri_han_spec hhan
                        obtain ⟨vm', X2, hstep⟩ := ri_catch X' hF.1 hF.2.2.2.2 cx hcell hst hfc hex hhd (ls := ls) (st := S1.map (ri_v b ad))
                        have k2 : ∀ ls' : Array Slot, lv_has ls' (ri_mL mi) ((k, Value.ref x) :: (ri_lv b (ad ++ ad2) L).filter (fun q => !(q.1 == k) && !(q.1 + 1 == k && q.2.category == 2))) → W p l e R s m args below meth c T'.heap (locs ++ Lc) (cells + c2) (slots + n2) (ri_Q D ty b A H0 (ri_pu mi) (ri_gr mi) below s K N (ad ++ ad2) r w1) (F0 m hp ls' []) := by
                          intro ls' hls'
                          exact ih mi _ _ _ _ _ h1 R s m args below meth c cx hG hag T'.heap (locs ++ Lc) (cells + c2) (slots + n2) ls' (ad ++ ad2) K N (hL2.storedN hk hls') hE3 (fun q => by rw [ri_pu_hd q] at hh; cases hh) (by omega) (by omega) hKR hNR
                        have kW : W p l e R s m args below meth c T'.heap (locs ++ Lc) (cells + c2) (slots + n2) (ri_Q D ty b A H0 (ri_pu mi) (ri_gr mi) below s K N (ad ++ ad2) r w1) (F0 m hp0 ls [.ref x]) := by
                          rcases hstore with ⟨ha0, rfl⟩ | ⟨kf, ha0, rfl, rfl⟩
                          · obtain ⟨n4, hd4, hn4⟩ := ri_at_ok ha0
                            cases hn4 rfl
                            exact lv_astore hx hb hd4 hL2.has hk rfl k2
                          · obtain ⟨n4, hd4, hn4⟩ := ri_at_ok ha0
                            cases hn4 rfl
                            exact lv_astore_n hx hb hd4 rfl hL2.has hk rfl k2
                        obtain ⟨t, a1, b1⟩ := kW (T'.setVm vm') rfl X2
                        exact ⟨t, hstep t a1, mono _ _ _ b1⟩
                      · cases h
end RIV
