/-! Facts that stay; what a plain step, a made cell, an end, a call come to over the machine -/
def ri_ag (H0 : Heap) (A : Nat → Prop) (H : Heap) : Prop := ∀ q : Nat, q < H0.size → ¬ A q → H[q]? = H0[q]?
def ri_F (D : va_G) (ty : Nat → ClassId) (b sl : Nat) (sx : Nat → Int32) (H0 : Heap) (U : State) : Prop :=
  (∀ w ∈ ri_TW, ∀ a : Array Value, w.before a U = true) ∧ (∀ w ∈ ri_HW, ∀ a : Array Value, w.before a U = true) ∧ va_K D ri_cls (ri_T ty) U ∧ va_X b sl sx U H0 ∧ ∀ ex ct, ri_exk ex = true → ri_exk ct = true → ex ≠ ct → va_Nc (ri_xn ex) (ri_xn ct) U
def ri_G (D : va_G) (ty : Nat → ClassId) (b sl : Nat) (sx : Nat → Int32) (A : Nat → Prop) (H0 : Heap) (s : State) : Prop :=
  ∀ U : State, s.WarmedH U.vm → ri_ag H0 A U.heap → ri_F D ty b sl sx H0 U
def ri_B (b : Nat) (A : Nat → Prop) (H0 : Heap) : Prop := b < H0.size ∧ ¬ A b ∧ ∀ q : Nat, H0.size ≤ q → A q
def ri_cx (mi : Nat) (R : Room) (s : State) (m : MethodId) (meth : Method) (c : Code) : Prop :=
  c.code = ri_cc mi ∧ c.maxLocals = ri_mL mi ∧ meth.sig.returnType = ri_rt mi ∧ meth.locks = false ∧ meth.name = (ri_nm mi).name ∧ s.vm.findClass (ri_nm mi).cls = some m.cls ∧
    c.exceptionTable.toList.map (fun h => (h.startPc, h.endPc, h.handlerPc, h.catchType)) = ri_et mi ∧ ri_fr mi ≤ R.frames ∧ ri_lo mi ≤ R.locals
section RIT
variable {p : Program} {l : Launch} {e : Env} {R : Room} {s : State} {m : MethodId} {args : Array Value} {below : List Frame} {meth : Method} {c : Code} {H : Heap} {locs : List Loc} {cells slots : Nat} {Q : State → Prop}
variable {mi pc : Nat} {i : Instr} {ls : Array Slot} {D : va_G} {A : Nat → Prop} {ty : Nat → ClassId} {b sl : Nat} {sx : Nat → Int32} {ad : List Nat} {H0 : Heap} {L L' : List (Option Value)} {S S' : List Value} {w w' : ri_W} {pc' : Nat} {nL : Nat}
theorem ri_W_mono {Q' : State → Prop} {g : JFrame} (h : ∀ t, Q t → Q' t) (k : W p l e R s m args below meth c H locs cells slots Q g) : W p l e R s m args below meth c H locs cells slots Q' g := by
  intro T hT X
  obtain ⟨t, a1, b1⟩ := k T hT X
  exact ⟨t, a1, h t b1⟩
set_option maxHeartbeats 1000000 in
theorem ri_op_sound (hx : p.tables.exec = Jvm.exec) (hB : ri_B b A H0) (hF : ri_F D ty b sl sx H0 s) (cx : ri_cx mi R s m meth c) (ha : ri_at mi pc = some i) (hcells : cells ≤ R.cells) (hslots : slots ≤ R.slots)
    (hL : ri_L b ad (ri_mL mi) L ls) (hE : ri_E D ty b A H0 (ri_pu mi) ad w H locs) (h : ri_op sl sx mi i pc L S w = some (pc', L', S', w'))
    (kk : ri_KK p l e R s m args below meth c cells slots Q D ty b A H0 (ri_pu mi) (ri_mL mi) ad pc' L' S' w') : W p l e R s m args below meth c H locs cells slots Q (F0 m pc ls (S.map (ri_v b ad))) := by
  obtain ⟨hb, hml, -, -, hnm, hown, -, hfr, hlo⟩ := cx
  obtain ⟨hTW, -, hK, hX, -⟩ := hF
  obtain ⟨hbl, hbA, -⟩ := hB
  have hts : ∀ w ∈ ri_TW, w.before args s = true := fun w hw => hTW w hw args
  obtain ⟨n, hd, hn⟩ := ri_at_ok ha
  cases i
  case iconst k => cases hn rfl; exact ri_s_push rfl (fun q => lv_iconst hx hb hd (ri_ic_ok k) q) hL hE h kk
  case bipush k => cases hn rfl; exact ri_s_push rfl (fun q => lv_bipush hx hb hd (ri_ib_ok k) q) hL hE h kk
  case sipush k => cases hn rfl; exact ri_s_push rfl (fun q => lv_sipush hx hb hd (ri_is_ok k) q) hL hE h kk
  case lconst k => cases hn rfl; exact ri_s_push rfl (fun q => lv_lconst hx hb hd (ri_lc_ok k) q) hL hE h kk
  case ldc k =>
    cases hn rfl
    dsimp only [ri_op] at h
    split at h
    · rename_i v hv
      exact ri_s_push rfl (fun q => lv_ldc hx hb hown (hts _ (ri_ld_ok hv)) hd q) hL hE h kk
    · cases h
  case ldc_w k =>
    cases hn rfl
    dsimp only [ri_op] at h
    split at h
    · rename_i v hv
      exact ri_s_push rfl (fun q => lv_ldcw hx hb hown (hts _ (ri_ld_ok hv)) hd q) hL hE h kk
    · cases h
  case iload k => cases hn rfl; exact ri_s_ild (fun q1 q => lv_iload hx hb hd q1 q) hL hE h kk
  case iload_n k => cases hn rfl; exact ri_s_ild (fun q1 q => lv_iload_n hx hb hd rfl q1 q) hL hE h kk
  case aload k => cases hn rfl; exact ri_s_ald (fun q1 q => lv_aload hx hb hd q1 q) hL hE h kk
  case aload_n k => cases hn rfl; exact ri_s_ald (fun q1 q => lv_aload_n hx hb hd rfl q1 q) hL hE h kk
  case istore k => cases hn rfl; exact ri_s_ist (fun q1 q2 q => lv_istore hx hb hd hL.has q1 q2 q) hL hE h kk
  case istore_n k => cases hn rfl; exact ri_s_ist (fun q1 q2 q => lv_istore_n hx hb hd rfl hL.has q1 q2 q) hL hE h kk
  case astore k => cases hn rfl; exact ri_s_ast (fun q1 q2 q => lv_astore hx hb hd hL.has q1 q2 q) hL hE h kk
  case astore_n k => cases hn rfl; exact ri_s_ast (fun q1 q2 q => lv_astore_n hx hb hd rfl hL.has q1 q2 q) hL hE h kk
  case iinc k d => cases hn rfl; exact ri_s_inc (ri_ic_ok d) hx hb hd hL hE h kk
  case iadd => cases hn rfl; exact ri_s_bin (fun q => lv_iadd hx hb hd q) hL hE h kk
  case isub => cases hn rfl; exact ri_s_bin (fun q => lv_isub hx hb hd q) hL hE h kk
  case imul => cases hn rfl; exact ri_s_bin (fun q => lv_imul hx hb hd q) hL hE h kk
  case iand => cases hn rfl; exact ri_s_bin (fun q => lv_iand hx hb hd q) hL hE h kk
  case ior => cases hn rfl; exact ri_s_bin (fun q => lv_ior hx hb hd q) hL hE h kk
  case ixor => cases hn rfl; exact ri_s_bin (fun q => lv_ixor hx hb hd q) hL hE h kk
  case ishl => cases hn rfl; exact ri_s_bin (fun q => lv_ishl hx hb hd q) hL hE h kk
  case ishr => cases hn rfl; exact ri_s_bin (fun q => lv_ishr hx hb hd q) hL hE h kk
  case iushr => cases hn rfl; exact ri_s_bin (fun q => lv_iushr hx hb hd rfl q) hL hE h kk
  case idiv => cases hn rfl; exact ri_s_div (fun q1 q => lv_idiv hx hb hd q1 q) hL hE h kk
  case irem => cases hn rfl; exact ri_s_div (fun q1 q => lv_irem hx hb hd q1 q) hL hE h kk
  case dup => cases hn rfl; exact ri_s_dup hx hb hd hL hE h kk
  case pop => cases hn rfl; exact ri_s_pop hx hb hd hL hE h kk
  case dup2 => cases hn rfl; exact ri_s_d2 hx hb hd hL hE h kk
  case ifCond cd off => cases hn rfl; exact ri_s_if hx hb hd hL hE h kk
  case if_icmp cd off => cases hn rfl; exact ri_s_icmp hx hb hd hL hE h kk
  case goto off => cases hn rfl; exact ri_s_goto hx hb hd hL hE h kk
  case tableswitch d lo hi offs => exact ri_s_tsw hx hb hd hL hE h kk
  case i2l => cases hn rfl; exact ri_s_i2l hx hb hd hL hE h kk
  case lcmp => cases hn rfl; exact ri_s_lcmp hx hb hd hL hE h kk
  case getfield x => cases hn rfl; exact ri_s_get hts hown hx hb hd hK hL hE h kk
  case putfield x =>
    cases hn rfl
    dsimp only [ri_op] at h
    cases hpu : ri_pu mi with
    | true => rw [hpu] at h; cases h
    | false =>
      rw [hpu] at h
      exact ri_s_put hpu hts hown hnm hx hb hd hK hL hE h kk
  case iaload => cases hn rfl; exact ri_s_iald hX hbl hbA hx hb hd hK hL hE h kk
  case baload => cases hn rfl; exact ri_s_zald hx hb hd hK hL hE h kk
  case laload => cases hn rfl; exact ri_s_lald hx hb hd hK hL hE h kk
  case iastore =>
    cases hn rfl
    dsimp only [ri_op] at h
    cases hpu : ri_pu mi with
    | true => rw [hpu] at h; cases h
    | false => rw [hpu] at h; exact ri_s_iast hpu hx hb hd hK hL hE h kk
  case bastore =>
    cases hn rfl
    dsimp only [ri_op] at h
    cases hpu : ri_pu mi with
    | true => rw [hpu] at h; cases h
    | false => rw [hpu] at h; exact ri_s_zast hpu hx hb hd hK hL hE h kk
  case lastore =>
    cases hn rfl
    dsimp only [ri_op] at h
    cases hpu : ri_pu mi with
    | true => rw [hpu] at h; cases h
    | false => rw [hpu] at h; exact ri_s_last hpu hx hb hd hK hL hE h kk
  case arraylength => cases hn rfl; exact ri_s_alen hX hbl hbA hx hb hd hK hL hE h kk
  case invokestatic x =>
    cases hn rfl
    dsimp only [ri_op] at h
    split at h
    · rename_i z hca
      obtain ⟨h1, h2, h3, h4⟩ := ri_ca_max hca
      unfold ri_mat at h
      split at h
      · rename_i y x2 r
        obtain ⟨hr, h⟩ := ri_bif h
        unfold ri_rm at hr
        rw [Bool.and_eq_true] at hr
        have hr1 := Nat.le_of_ble_eq_true hr.1
        have hr2 := Nat.le_of_ble_eq_true hr.2
        cases h
        refine va_mmax hx hb (by rw [hml, hL.2.1]) hown (hts _ h1) (hts _ h2) (hts _ h3) (hts _ h4) (by omega) (by rw [ri_cats]; omega) hcells hslots hd ?_
        exact kk ls H locs hL hE
      · cases h
    · rename_i z hca
      obtain ⟨h1, h2, h3, h4⟩ := ri_ca_min hca
      unfold ri_mat at h
      split at h
      · rename_i y x2 r
        obtain ⟨hr, h⟩ := ri_bif h
        unfold ri_rm at hr
        rw [Bool.and_eq_true] at hr
        have hr1 := Nat.le_of_ble_eq_true hr.1
        have hr2 := Nat.le_of_ble_eq_true hr.2
        cases h
        refine va_mmin hx hb (by rw [hml, hL.2.1]) hown (hts _ h1) (hts _ h2) (hts _ h3) (hts _ h4) (by omega) (by rw [ri_cats]; omega) hcells hslots hd ?_
        exact kk ls H locs hL hE
      · cases h
    · cases h
  case invokespecial x =>
    cases hn rfl
    dsimp only [ri_op] at h
    split at h
    · rename_i z hca
      obtain ⟨h1, h2, h3⟩ := ri_ca_obj hca
      unfold ri_obj at h
      split at h
      · rename_i a r
        obtain ⟨hr, h⟩ := ri_bif h
        unfold ri_rm at hr
        rw [Bool.and_eq_true] at hr
        have hr1 := Nat.le_of_ble_eq_true hr.1
        have hr2 := Nat.le_of_ble_eq_true hr.2
        cases h
        refine W.objInit hx hb hown (hts _ h1) (hts _ h2) (hts _ h3) (g := F0 m pc ls _) rfl (by rw [hml]; exact hL.2.1) rfl hd (by omega) (by show 2 * 0 + _ + 12 ≤ _; rw [ri_cats]; omega) ?_
        exact kk ls H locs hL hE
      · cases h
    · cases h
  all_goals exact absurd h (by simp [ri_op])
/-- made cells -/
theorem ri_inAll {n : Nat} {L : List (Option Value)} {S : List Value} {w : ri_W} (h : ri_chk L S w = true) (hl : n = w.length) : L.all (ri_inO n) = true ∧ S.all (ri_in n) = true ∧ w.all (ri_inC n) = true := by
  subst hl
  unfold ri_chk at h
  rw [Bool.and_eq_true, Bool.and_eq_true] at h
  exact h
theorem ri_v_last {q : Nat} (hl : ad.length = w.length) : ri_v b (ad ++ [q]) (.ref (w.length + 1)) = .ref q := by
  apply ri_v_ref
  rw [← hl, List.getElem?_append_right (Nat.le_refl _), Nat.sub_self]
  rfl
abbrev ri_KM (p : Program) (l : Launch) (e : Env) (R : Room) (s : State) (m : MethodId) (args : Array Value) (below : List Frame) (meth : Method) (c : Code) (cells slots : Nat) (Q : State → Prop) (D : va_G) (ty : Nat → ClassId) (b : Nat) (A : Nat → Prop) (H0 : Heap) (pu : Bool) (nL : Nat) (ad : List Nat) (pc' : Nat) (L' : List (Option Value)) (S' : List Value) (w' : ri_W) : Prop :=
  ∀ (q : Nat) (ls' : Array Slot) (H' : Heap) (locs' : List Loc), ri_L b (ad ++ [q]) nL L' ls' → ri_E D ty b A H0 pu (ad ++ [q]) w' H' locs' → W p l e R s m args below meth c H' locs' cells slots Q (F0 m pc' ls' (S'.map (ri_v b (ad ++ [q]))))
theorem ri_arr (hx : p.tables.exec = Jvm.exec) (hB : ri_B b A H0) (hK : va_K D ri_cls (ri_T ty) s) (hb : c.code = ri_cc mi) {t : ArrayType} {t0 : Nat} {ft : FieldType} (ht0 : (ri_T ty)[t0]? = some (ty t0, ft)) (hft : newarray.typeOf t = ft) (hft2 : ∀ C, ft ≠ .object C) (harr : (Cond.arrayClass (newarray.typeOf t)).before args s = true)
    {n : Int32} {r : List Value} {a0 : vp_A} (ha0 : ∀ cA : ClassId, vp_cell cA a0 = arrV cA n.toNatClampNeg (fun _ => defaultValue ft)) (hpu : ri_pu mi = false) (hin : ri_chk L (.int n :: r) w = true) (hn : decide (n < 0) = false) (hn2 : n.toNatClampNeg * componentBytes ft ≤ 536870912) (hd : decode (ri_cc mi) pc = .ok (.newarray t, 2))
    (hcells : cells + 1 ≤ R.cells) (hslots : slots + n.toNatClampNeg ≤ R.slots) (hL : ri_L b ad nL L ls) (hE : ri_E D ty b A H0 (ri_pu mi) ad w H locs)
    (kk : ri_KM p l e R s m args below meth c (cells + 1) (slots + n.toNatClampNeg) Q D ty b A H0 (ri_pu mi) nL ad (pc + 2) L (.ref (w.length + 1) :: r) (w ++ [.inl (t0, a0)])) :
    W p l e R s m args below meth c H locs cells slots Q (F0 m pc ls ((Value.int n :: r).map (ri_v b ad))) := by
  obtain ⟨i1, i2, i3⟩ := ri_inAll hin hE.1
  refine va_newa hx hb harr hft hK hE.2.1 hE.2.2.1 hE.2.2.2.1 hB.2.2 ha0 (of_decide_eq_false hn) rfl hn2 hcells hslots hd fun q cA H1 k1 k2 k3 k4 => ?_
  have hcA : cA = ty t0 := by
    have e1 := ((hK.2 t0 _ ht0).2)
    have e2 := ((k1.2 (ri_T ty).length (cA, ft) (by rw [List.getElem?_append_right (Nat.le_refl _), Nat.sub_self]; rfl)).2)
    have f1 : s.vm.findClass ("[" ++ ft.toString) = some (ty t0) := by
      cases ft <;> first | exact absurd rfl (hft2 _) | exact e1
    have f2 : s.vm.findClass ("[" ++ ft.toString) = some cA := by
      cases ft <;> first | exact absurd rfl (hft2 _) | exact e2
    exact Option.some.inj (f2.symm.trans f1)
  subst hcA
  have hw : ri_w ty b (ad ++ [q]) (w ++ [.inl (t0, a0)]) = ri_w ty b ad w ++ [(q, .inl (ty t0, a0))] := ri_w_push hE.1 i3 rfl
  have k := kk q ls H1 locs (hL.app i1) ⟨by rw [List.length_append, List.length_append, hE.1]; rfl, by rw [hw]; exact k2, by rw [hw]; exact k3, k4, hE.2.2.2.2⟩
  rw [List.map_cons, ri_v_last hE.1] at k
  rw [List.all_cons, Bool.and_eq_true] at i2
  rw [ri_map_app i2.2] at k
  exact k
set_option maxHeartbeats 1000000 in
theorem ri_mk_sound (hx : p.tables.exec = Jvm.exec) (hB : ri_B b A H0) (hF : ri_F D ty b sl sx H0 s) (cx : ri_cx mi R s m meth c) (ha : ri_at mi pc = some i) {n : Nat}
    (hL : ri_L b ad (ri_mL mi) L ls) (hE : ri_E D ty b A H0 (ri_pu mi) ad w H locs) (h : ri_mk mi i pc L S w = some ((pc', L', S', w'), n)) (hcells : cells + 1 ≤ R.cells) (hslots : slots + n ≤ R.slots)
    (kk : ri_KM p l e R s m args below meth c (cells + 1) (slots + n) Q D ty b A H0 (ri_pu mi) (ri_mL mi) ad pc' L' S' w') : W p l e R s m args below meth c H locs cells slots Q (F0 m pc ls (S.map (ri_v b ad))) := by
  obtain ⟨hb, hml, -, -, hnm, hown, -, hfr, hlo⟩ := cx
  obtain ⟨hTW, -, hK, hX, -⟩ := hF
  have hts : ∀ w ∈ ri_TW, w.before args s = true := fun w hw => hTW w hw args
  obtain ⟨n0, hd, hn0⟩ := ri_at_ok ha
  cases i
  case new x =>
    cases hn0 rfl
    dsimp only [ri_mk] at h
    split at h
    · rename_i ci hne
      obtain ⟨hc, h⟩ := ri_bif h
      rw [Bool.and_eq_true, Bool.and_eq_true] at hc
      have hpu : ri_pu mi = false := by simpa using hc.1.2
      obtain ⟨i1, i2, i3⟩ := ri_inAll hc.2 hE.1
      cases h
      obtain ⟨C, T, N, hcl, hws, hty, w1, w2, w3, hlen, hdf, hnr⟩ := ri_ne_ok hne
      rw [hlen] at hslots kk
      refine va_new hx hb hts hws (ri_ft ci) hty hown (hts _ w1) (hts _ w2) (hts _ w3) hK hE.2.1 hE.2.2.1 hE.2.2.2.1 hB.2.2 hcl hdf hcells hslots hd fun q H1 k2 k3 k4 => ?_
      have hmap : (ri_df ci).map (ri_v b (ad ++ [q])) = ri_df ci := by
        have hid : (ri_df ci).map (ri_v b (ad ++ [q])) = (ri_df ci).map id := by
          apply List.map_congr_left
          intro v hv
          have := List.all_eq_true.mp hnr v hv
          cases v <;> first | rfl | cases this
        rw [hid, List.map_id]
      have hw : ri_w ty b (ad ++ [q]) (w ++ [.inr (ci, ri_df ci)]) = ri_w ty b ad w ++ [(q, .inr (ci, ri_df ci))] := by
        refine ri_w_push hE.1 i3 ?_
        show (Sum.inr (ci, (ri_df ci).map (ri_v b (ad ++ [q]))) : va_E) = _
        rw [hmap]
      have k := kk q ls H1 locs (hL.app i1) ⟨by rw [List.length_append, List.length_append, hE.1]; rfl, by rw [hw]; exact k2, by rw [hw]; exact k3, k4, hE.2.2.2.2⟩
      rw [List.map_cons, ri_v_last hE.1, ri_map_app i2] at k
      exact k
    · cases h
  case newarray t =>
    cases hn0 rfl
    dsimp only [ri_mk] at h
    split at h
    · rename_i nn r
      obtain ⟨hc, h⟩ := ri_bif h
      rw [Bool.and_eq_true, Bool.and_eq_true, Bool.and_eq_true, Bool.and_eq_true] at hc
      obtain ⟨⟨⟨-, hpu⟩, hin⟩, hn1, hn2⟩ := hc
      have hpu : ri_pu mi = false := by simpa using hpu
      have hn1 : decide (nn < 0) = false := by simpa using hn1
      have hn2 := Nat.le_of_ble_eq_true hn2
      split at h
      · cases h
        exact ri_arr (t0 := 0) hx hB hK hb rfl rfl (fun C q => by cases q) (hts _ ri_arr_int) (fun cA => rfl) hpu hin hn1 (by show _ * 4 ≤ _; omega) hd hcells hslots hL hE kk
      · cases h
        exact ri_arr (t0 := 1) hx hB hK hb rfl rfl (fun C q => by cases q) (hts _ ri_arr_long) (fun cA => rfl) hpu hin hn1 (by show _ * 8 ≤ _; omega) hd hcells hslots hL hE kk
      · cases h
        exact ri_arr (t0 := 2) hx hB hK hb rfl rfl (fun C q => by cases q) (hts _ ri_arr_bool) (fun cA => rfl) hpu hin hn1 (by show _ * 1 ≤ _; omega) hd hcells hslots hL hE kk
      · cases h
    · cases h
  all_goals exact absurd h (by simp [ri_mk])
end RIT
