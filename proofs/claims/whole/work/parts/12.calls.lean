/-! A method's end, a call, a throw, a catch over the machine -/
def ri_En (below : List Frame) (s : State) (r : Option Int32 ⊕ Nat) (t : State) : Prop := match r with
  | .inl v => Ended t below (.returned (v.map Value.int))
  | .inr ex => ∃ (x : Nat) (cell : Cell), Ended t below (.threw x) ∧ t.heap[x]? = some cell ∧ cell.vm.isStatics = false ∧ s.vm.findClass (ri_xn ex) = some cell.cls
def ri_Q (D : va_G) (ty : Nat → ClassId) (b : Nat) (A : Nat → Prop) (H0 : Heap) (pu gr : Bool) (below : List Frame) (s : State) (K N : Nat) (ad : List Nat) (r : Option Int32 ⊕ Nat) (w : ri_W) (t : State) : Prop :=
  t.status = .running ∧ s.WarmedH t.vm ∧ (∃ (Lc : List Loc) (ad2 : List Nat), s.sameButNew ({ t with vm := s.vm } : State) Lc K N ∧ ri_E D ty b A H0 pu (ad ++ ad2) w t.heap Lc ∧ (gr = false → ad2 = [])) ∧ ri_En below s r t
section RIU
variable {p : Program} {l : Launch} {e : Env} {R : Room} {s : State} {m : MethodId} {args : Array Value} {below : List Frame} {meth : Method} {c : Code} {H : Heap} {locs : List Loc} {cells slots : Nat} {Q : State → Prop}
variable {mi pc : Nat} {i : Instr} {ls : Array Slot} {D : va_G} {A : Nat → Prop} {ty : Nat → ClassId} {b sl : Nat} {sx : Nat → Int32} {ad : List Nat} {H0 : Heap} {L L' : List (Option Value)} {S S' : List Value} {w w' : ri_W} {pc' : Nat} {nL K N : Nat} {pu : Bool}
theorem ri_retI (hx : p.tables.exec = Jvm.exec) (hb : c.code = ri_cc mi) {v : Int32} {rt : FieldType} (hr : meth.sig.returnType = some rt) (hn : narrow rt (.int v) = .int v) (hlocks : meth.locks = false) (hd : decode (ri_cc mi) pc = .ok (.ireturn, 1)) :
    W p l e R s m args below meth c H locs cells slots (fun t => t.status = .running ∧ s.WarmedH t.vm ∧ s.sameButNew ({ t with vm := s.vm } : State) locs cells slots ∧ t.heap = H ∧ Ended t below (.returned (some (.int v)))) (F0 m pc ls [.int v]) := by
  intro T hT X
  obtain ⟨fs, hret, hrun, hended, hW, hframe⟩ := X.leave (v := some (.int v)) (fun h => by rw [hr] at h; cases h) hlocks
  have hmeth' : T.vm.method? m = some meth := X.method'
  refine ⟨T.setFrames fs, ?_, hrun, hW, hframe, hT, hended⟩
  jvm_step X.here [X.here.top, hx, hb, hd, hmeth', hr, hn]
  (try refine ⟨rfl, ?_⟩); (try refine ⟨rfl, ?_⟩)
  first | (intro acts; rw [hret _ acts rfl rfl rfl]) | rw [hret _ _ rfl rfl rfl]
  exact Steps.refl _
theorem ri_retV (hx : p.tables.exec = Jvm.exec) (hb : c.code = ri_cc mi) (hr : meth.sig.returnType = none) (hlocks : meth.locks = false) (hd : decode (ri_cc mi) pc = .ok (.return_, 1)) :
    W p l e R s m args below meth c H locs cells slots (fun t => t.status = .running ∧ s.WarmedH t.vm ∧ s.sameButNew ({ t with vm := s.vm } : State) locs cells slots ∧ t.heap = H ∧ Ended t below (.returned none)) (F0 m pc ls []) := by
  intro T hT X
  obtain ⟨fs, hret, hrun, hended, hW, hframe⟩ := X.leave (v := none) (fun _ => rfl) hlocks
  have hmeth' : T.vm.method? m = some meth := X.method'
  refine ⟨T.setFrames fs, ?_, hrun, hW, hframe, hT, hended⟩
  jvm_step X.here [X.here.top, hx, hb, hd, hmeth', hr]
  (try refine ⟨rfl, ?_⟩); (try refine ⟨rfl, ?_⟩)
  first | (intro acts; rw [hret _ acts rfl rfl rfl]) | rw [hret _ _ rfl rfl rfl]
  exact Steps.refl _
/-- the exception is made, and leaves the method -/
theorem ri_throw (hx : p.tables.exec = Jvm.exec) (htr : e.platform.stackTraces = false) (hF : ri_F D ty b sl sx H0 s) (cx : ri_cx mi R s m meth c) {x ex : Nat} (htx : ri_ts mi pc = some ex) (ha : ri_at mi pc = some (.new x))
    (hL : ri_L b ad (ri_mL mi) L ls) (hE : ri_E D ty b A H0 (ri_pu mi) ad w H locs) (hc0 : ri_pu mi = true → cells = 0) (hcK : cells + 1 ≤ K) (hsN : slots + 6 ≤ N) (hKR : K ≤ R.cells) (hNR : N ≤ R.slots) :
    W p l e R s m args below meth c H locs cells slots (ri_Q D ty b A H0 (ri_pu mi) (ri_gr mi) below s K N ad (.inr ex) w) (F0 m pc ls []) := by
  obtain ⟨hb, hml, -, hlk, hnm, hown, het, hfr, hlo⟩ := cx
  obtain ⟨hTW, hHW, hK, hX, -⟩ := hF
  obtain ⟨ic, d1, d2, d3, hat, w1, w2, w3, f1, f2, hnoet, hpu, hfr2, hlo2⟩ := ri_ts_ok htx ha
  obtain ⟨n0, hd, hn0⟩ := ri_at_ok ha
  cases hn0 rfl
  have hlocs : locs = [] := hE.2.2.2.2 hpu
  have hcells : cells = 0 := hc0 hpu
  subst hlocs
  subst hcells
  intro T hT X
  have hsz : s.heap.size = T.heap.size := Nat.le_antisymm X.same.2.1 (by have := X.heapSize; omega)
  obtain ⟨vm', cC, kC, h1, h2, h3, h4, X1, st1⟩ := X.newCold hx hown (hTW _ w1 args) (hTW _ w2 args) (hTW _ w3 args) (g := F0 m pc ls []) rfl (by rw [hb]; exact hd) (by omega) (by omega)
  have hTs : ∀ q : Nat, q < s.heap.size → T.heap[q]? = s.heap[q]? := by
    intro q hq
    obtain ⟨c2, e1, e2, e3, e4⟩ := X.same.2.2.2.2.2 q _ (Array.getElem?_eq_getElem hq)
    have e1 : T.heap[q]? = some c2 := e1
    rw [e1, Array.getElem?_eq_getElem hq]
    congr 1
    rw [e2]
    have : c2.slots = s.heap[q].slots := by
      apply Array.ext_getElem?
      intro j
      exact e4 j (by simp)
    rw [this]
  have kW : W p l e R s m args below meth c ((T.setVm vm').pushCell { cls := cC, slots := kC.instanceTypes.map defaultValue, vm := .none }).heap [] (0 + 1) (slots + 6) (ri_Q D ty b A H0 (ri_pu mi) (ri_gr mi) below s K N ad (.inr ex) w) (F0 m (pc + 3) ls [.ref T.heap.size]) := by
    refine lv_dup hx hb d1 rfl ?_
    intro T2 hT2 X2
    obtain ⟨U, u1, u2, u3, u4, u5, ce, u6, u7⟩ := X2.ctorThrow0 hx htr (own := (ri_nm mi).cls) (cls := ri_xn ex) (names := ri_xs) (ic := ic) hown f1 f2
      (fun a h => by rcases hat a h with q | q; exact hTW _ q args; exact hHW _ q args) (fun x hx => by cases hx) (a := T.heap.size) h1 h2
      (by rw [hT2]; exact State.heap_pushCell_size _ _) (by omega) (g := F0 m (pc + 3 + 1) ls [.ref T.heap.size, .ref T.heap.size]) rfl (by rw [hml]; exact hL.2.1) rfl rfl (rest := []) rfl
      (by rw [hb]; exact d2) (by rw [hb]; exact d3) (by
        intro y hy
        rw [hnoet] at het
        rw [List.map_eq_nil_iff] at het
        rw [het] at hy
        cases hy) (by show 2 + 3 < _; omega) (by show 2 * 0 + _ + _ ≤ _; show 2 * 0 + 1 + (13 * (2 + 1) + 41) ≤ _; omega) hlk
    have hUs : ∀ q : Nat, q < s.heap.size → U.heap[q]? = s.heap[q]? := by
      intro q hq
      obtain ⟨c2, e1, e2, e3, e4⟩ := u5.2.2.2.2.2 q _ (Array.getElem?_eq_getElem hq)
      have e1 : U.heap[q]? = some c2 := e1
      rw [e1, Array.getElem?_eq_getElem hq]
      congr 1
      rw [e2]
      have : c2.slots = s.heap[q].slots := by
        apply Array.ext_getElem?
        intro j
        exact e4 j (by simp)
      rw [this]
    have hUH : ∀ q : Nat, q < H.size → U.heap[q]? = H[q]? := by
      intro q hq
      rw [← hT] at hq ⊢
      rw [← hsz] at hq
      rw [hUs q hq, hTs q hq]
    refine ⟨U, u1, u2, u4, ⟨[], [], u5.mono (by omega) (by omega), ?_, fun _ => rfl⟩, T.heap.size, ce, u3, u6, by rw [u7.vm]; rfl, u7.cls⟩
    rw [List.append_nil]
    refine ⟨hE.1, fun k q hq => (hE.2.1 k q hq).kept (hUH _ (hE.2.1 k q hq).lt), hE.2.2.1, ⟨?_, fun q hq hA => ?_, fun l hl => by cases hl⟩, fun _ => rfl⟩
    · have h1 : s.heap.size ≤ U.heap.size := u5.2.1
      have h2 := hE.2.2.2.1.1
      rw [hsz, hT] at h1
      omega
    · have h2 := hE.2.2.2.1
      have h3 := h2.1
      rw [hUH q (by omega)]
      exact h2.2.1 q hq hA
  obtain ⟨t, a1, b1⟩ := kW _ rfl X1
  exact ⟨t, st1 t a1, b1⟩
/-- a method's own end -/
theorem ri_end_sound (hx : p.tables.exec = Jvm.exec) (htr : e.platform.stackTraces = false) (hF : ri_F D ty b sl sx H0 s) (cx : ri_cx mi R s m meth c) (ha : ri_at mi pc = some i)
    (hL : ri_L b ad (ri_mL mi) L ls) (hE : ri_E D ty b A H0 (ri_pu mi) ad w H locs) {r : Option Int32 ⊕ Nat} {c1 n1 : Nat} (h : ri_end mi i pc S w = some (r, w', c1, n1)) (hc0 : ri_pu mi = true → cells = 0) (hcK : cells + c1 ≤ K) (hsN : slots + n1 ≤ N) (hKR : K ≤ R.cells) (hNR : N ≤ R.slots) :
    W p l e R s m args below meth c H locs cells slots (ri_Q D ty b A H0 (ri_pu mi) (ri_gr mi) below s K N ad r w') (F0 m pc ls (S.map (ri_v b ad))) := by
  have cx0 := cx
  obtain ⟨hb, hml, hrt, hlk, hnm, hown, -, hfr, hlo⟩ := cx
  obtain ⟨n0, hd, hn0⟩ := ri_at_ok ha
  have fin : ∀ (v : Option Int32) (t : State), (t.status = .running ∧ s.WarmedH t.vm ∧ s.sameButNew ({ t with vm := s.vm } : State) locs cells slots ∧ t.heap = H ∧ Ended t below (.returned (v.map Value.int))) → cells ≤ K → slots ≤ N → ri_Q D ty b A H0 (ri_pu mi) (ri_gr mi) below s K N ad (.inl v) w t := by
    intro v t ht h1 h2
    obtain ⟨t1, t2, t3, t4, t5⟩ := ht
    exact ⟨t1, t2, ⟨locs, [], t3.mono h1 h2, by rw [List.append_nil, t4]; exact hE, fun _ => rfl⟩, t5⟩
  cases i
  case ireturn =>
    cases hn0 rfl
    dsimp only [ri_end] at h
    split at h
    · rename_i x
      split at h
      · rename_i hr
        cases h
        exact ri_W_mono (fun t ht => fin (some x) t ht (by omega) (by omega)) (ri_retI hx hb (hrt.trans hr) rfl hlk hd)
      · rename_i hr
        obtain ⟨hv, h⟩ := ri_bif h
        cases h
        refine ri_W_mono (fun t ht => fin (some x) t ht (by omega) (by omega)) (ri_retI hx hb (hrt.trans hr) ?_ hlk hd)
        rw [Bool.or_eq_true, decide_eq_true_eq, decide_eq_true_eq] at hv
        rcases hv with rfl | rfl <;> decide +kernel
      · cases h
    · cases h
  case return_ =>
    cases hn0 rfl
    dsimp only [ri_end] at h
    split at h
    · split at h
      · rename_i hr
        cases h
        exact ri_W_mono (fun t ht => fin none t ht (by omega) (by omega)) (ri_retV hx hb (hrt.trans hr) hlk hd)
      · cases h
    · cases h
  case new x =>
    dsimp only [ri_end] at h
    split at h
    · rename_i ex htx
      split at h
      · cases h
        exact ri_throw hx htr hF cx0 htx ha hL hE hc0 hcK hsN hKR hNR
      · cases h
    · cases h
  all_goals exact absurd h (by simp [ri_end])
theorem ri_Steps_weaken {tb : Tables} {mid : List Frame} {s1 s2 : State} (h : Steps tb e (mid ++ below) s1 s2) : Steps tb e below s1 s2 := by
  obtain ⟨n, hn, hw⟩ := h
  exact ⟨n, hn, fun k hk => (hw k hk).weaken⟩
/-- what the words say of a method -/
def ri_mf (mk : Nat) (U : State) (mk' : MethodId) (methk : Method) (ck : Code) : Prop :=
  U.methodNamed? (ri_nm mk) = some mk' ∧ U.vm.method? mk' = some methk ∧ methk.code = some ck ∧ ck.code = ri_cc mk ∧ ck.maxLocals = ri_mL mk ∧ methk.sig.returnType = ri_rt mk ∧ methk.locks = false ∧
    ck.exceptionTable.toList.map (fun h => (h.startPc, h.endPc, h.handlerPc, h.catchType)) = ri_et mk ∧ parseMethodDescriptor (ri_nm mk).desc = some methk.sig
theorem ri_mf_of {mk : Nat} {U : State} (hTW : ∀ w ∈ ri_TW, ∀ a : Array Value, w.before a U = true) (hcw : ri_cw mk) : ∃ mk' methk ck, ri_mf mk U mk' methk ck := by
  rcases hcw with ⟨h0, hc⟩ | hc
  · have hw := hTW _ hc #[]
    obtain ⟨mk', hn⟩ := Cond.code_named hw
    obtain ⟨methk, ck, q1, q2, q3, q4, q5, q6, q7, q8⟩ := Cond.code_spec hn hw
    refine ⟨mk', methk, ck, hn, q1, q2, q3, q4, q5, q6, ?_, q8⟩
    rw [h0, List.map_eq_nil_iff]
    simpa using q7
  · obtain ⟨mk', methk, ck, hn, q1, q2, q3, q4, q5, q6, q7, q8⟩ := Cond.codeWith_spec (hTW _ hc #[])
    exact ⟨mk', methk, ck, hn, q1, q2, q3, q4, q6, q7, q5, q8⟩
/-- the call's own instruction, up to the callee's entry -/
def ri_Inv (p : Program) (l : Launch) (e : Env) (R : Room) (s : State) (m : MethodId) (args : Array Value) (below : List Frame) (meth : Method) (c : Code) (H : Heap) (locs : List Loc) (cells slots : Nat) (pc : Nat) (ls : Array Slot) (mk : Nat) (as rest st : List Value) : Prop :=
  ∀ T : State, T.heap = H → Stand p l e R s m args below meth c T locs cells slots → ∃ (vm₁ : Vm) (mk' : MethodId), Stand p l e R s m args below meth c (T.setVm vm₁) locs cells slots ∧ s.methodNamed? (ri_nm mk) = some mk' ∧
    ∀ target, (∀ acts, Steps p.tables e below (doInvoke e ((T.setVm vm₁).setTop (F0 m pc ls rest)) acts mk' as.toArray).1 target) → Steps p.tables e below (T.setTop (F0 m pc ls st)) target
theorem ri_inv_S (hx : p.tables.exec = Jvm.exec) (hTW : ∀ w ∈ ri_TW, ∀ a : Array Value, w.before a s = true) (hb : c.code = ri_cc mi) (hown : s.vm.findClass (ri_nm mi).cls = some m.cls) {x mk : Nat} (hca : ri_ca mi x = some (0, mk)) (hd : decode (ri_cc mi) pc = .ok (.invokestatic x, 3)) {as rest : List Value} (hn : as.length = ri_ar mk) :
    ri_Inv p l e R s m args below meth c H locs cells slots pc ls mk as rest (as.reverse ++ rest) := by
  intro T hT X
  obtain ⟨w1, w2, w3, hcw, hp, hy, har⟩ := ri_ca_ok0 hca
  obtain ⟨mk', methk, ck, hnamed, hmeth, -, -, -, -, -, -, hsig⟩ := ri_mf_of hTW hcw
  have hstatic : methk.isStatic = true := Cond.static_spec hnamed hmeth (hTW _ w2 args)
  obtain ⟨kP, hkP, -⟩ := className_of_methodNamed hnamed
  have hinitP : kP.init = .initialized := Cond.initialized_spec (findClass_of_methodNamed hnamed) hkP (hTW _ w3 args)
  obtain ⟨vm₁, X₁, hstep⟩ := X.invokestatic hx hown (hTW _ w1 args) hnamed hmeth hstatic hkP hinitP hy (g := F0 m pc ls (as.reverse ++ rest)) rfl (argsL := as) (rest := rest) (by
    rw [hsig] at har
    exact hn.trans (Option.some.inj har).symm) rfl (by rw [hb]; exact hd)
  exact ⟨vm₁, mk', X₁, hnamed, hstep⟩
theorem ri_inv_V (hx : p.tables.exec = Jvm.exec) (hTW : ∀ w ∈ ri_TW, ∀ a : Array Value, w.before a s = true) (hK : va_K D ri_cls (ri_T ty) s) (hb : c.code = ri_cc mi) (hown : s.vm.findClass (ri_nm mi).cls = some m.cls) {x mk : Nat} (hca : ri_ca mi x = some (1, mk)) (hd : decode (ri_cc mi) pc = .ok (.invokevirtual x, 3)) {a ci : Nat} {fs : List Value} (hP : va_at D ri_cls (a, .inr (ci, fs)) H) (hci : ri_kl mk = some ci) {as rest : List Value} (hn : as.length + 1 = ri_ar mk) :
    ri_Inv p l e R s m args below meth c H locs cells slots pc ls mk (.ref a :: as) rest (as.reverse ++ .ref a :: rest) := by
  intro T hT X
  obtain ⟨w1, w2, w3, hcw, hp, hy, har, hkl⟩ := ri_ca_ok1 hca
  obtain ⟨mk', methk, hnamed, hmeth, hst, hab⟩ := Cond.instanceMethod_spec (hTW _ w2 args)
  have hsig : parseMethodDescriptor (ri_nm mk).desc = some methk.sig := by
    obtain ⟨mk0, methk0, ck, hnamed0, hmeth0, -, -, -, -, -, -, hsig⟩ := ri_mf_of hTW hcw
    have e1 : mk' = mk0 := Option.some.inj (hnamed.symm.trans hnamed0)
    rw [← e1] at hmeth0
    have e2 : methk = methk0 := Option.some.inj (hmeth.symm.trans hmeth0)
    rw [e2]
    exact hsig
  obtain ⟨ci', C, TT, N0, hk', hcl, hCn⟩ := hkl
  cases hci.symm.trans hk'
  obtain ⟨r0, e1, cell, q1, q2, q3, -⟩ := hP
  obtain ⟨-, hfc, -⟩ := hK.1 ci _ hcl
  have hfc : s.vm.findClass (ri_nm mk).cls = some cell.cls := by rw [q2, ← hCn]; exact hfc
  obtain ⟨c2, r2, m2, p1, p2, p3, p4, kP, hkP, hkPi⟩ := Cond.selects_spec (hTW _ w3 args)
  cases hfc.symm.trans p1
  cases (State.methodFound?_of_named hnamed hy).symm.trans p2
  have e3 : mk' = m2 := Option.some.inj (hnamed.symm.trans p3)
  subst e3
  have hselP : selectMethod e.platform s.vm cell.cls mk' = .method mk' := by rw [Launch.admits_selectMethod X.admits]; exact p4
  obtain ⟨vm₁, X₁, hstep⟩ := X.invokevirtual hx hown (hTW _ w1 args) hnamed hmeth hst hkP hkPi hy (a := a) (cell := cell) (by rw [hT]; exact q1)
    (fun z h => by rw [q3] at h; cases h) hselP hmeth hab hkP hkPi (g := F0 m pc ls (as.reverse ++ .ref a :: rest)) rfl (argsL := as) (rest := rest) (by
    rw [hsig] at har
    have har : methk.sig.parameters.length + 1 = ri_ar mk := Option.some.inj har
    omega) rfl (by rw [hb]; exact hd)
  exact ⟨vm₁, mk', X₁, hnamed, hstep⟩
theorem ri_inv_I (hx : p.tables.exec = Jvm.exec) (hTW : ∀ w ∈ ri_TW, ∀ a : Array Value, w.before a s = true) (hb : c.code = ri_cc mi) (hown : s.vm.findClass (ri_nm mi).cls = some m.cls) {x mk : Nat} (hca : ri_ca mi x = some (2, mk)) (hd : decode (ri_cc mi) pc = .ok (.invokespecial x, 3)) {a : Nat} {as rest : List Value} (hn : as.length + 1 = ri_ar mk) :
    ri_Inv p l e R s m args below meth c H locs cells slots pc ls mk (.ref a :: as) rest (as.reverse ++ .ref a :: rest) := by
  intro T hT X
  obtain ⟨w1, w2, w3, hnm, -, hp, hy, har, -⟩ := ri_ca_ok2 hca
  have hpl : e.platform.magicAccessors = ({} : Platform).magicAccessors := by rw [X.admits.platform]
  obtain ⟨mk', methM, cM, kP, vm₁, hnamed, hmethM, hcodeM, -, hlocalsM, -, hkP, -, hW₁, hstep⟩ := Steps.initColdArgs (e := e) X.here hx X.warmed hpl hown hnm hy (hTW _ w1 args) (hTW _ w2 args) (hTW _ w3 args) (f := F0 m pc ls (as.reverse ++ .ref a :: rest)) rfl (a := a) (argsL := as) (rest := rest) (fun sig h => by
    rw [h] at har
    have har : sig.parameters.length + 1 = ri_ar mk := Option.some.inj har
    omega) rfl (by rw [hb]; exact hd)
  exact ⟨vm₁, mk', X.noted hW₁, hnamed, hstep⟩
end RIU
