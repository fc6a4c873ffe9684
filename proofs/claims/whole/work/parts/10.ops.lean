/-! Plain instructions over the machine: a lemma a kind -/
section RIS
variable {p : Program} {l : Launch} {e : Env} {R : Room} {s : State} {m : MethodId} {args : Array Value} {below : List Frame} {meth : Method} {c : Code} {H : Heap} {locs : List Loc} {cells slots : Nat} {Q : State → Prop}
variable {cc : ByteArray} {pc : Nat} {ls : Array Slot} {D : va_G} {A : Nat → Prop} {ty : Nat → ClassId} {b : Nat} {ad : List Nat} {H0 : Heap} {L L' : List (Option Value)} {S S' : List Value} {w w' : ri_W} {pc' : Nat} {pu : Bool} {nL : Nat}
abbrev ri_KK (p : Program) (l : Launch) (e : Env) (R : Room) (s : State) (m : MethodId) (args : Array Value) (below : List Frame) (meth : Method) (c : Code) (cells slots : Nat) (Q : State → Prop) (D : va_G) (ty : Nat → ClassId) (b : Nat) (A : Nat → Prop) (H0 : Heap) (pu : Bool) (nL : Nat) (ad : List Nat) (pc' : Nat) (L' : List (Option Value)) (S' : List Value) (w' : ri_W) : Prop :=
  ∀ (ls' : Array Slot) (H' : Heap) (locs' : List Loc), ri_L b ad nL L' ls' → ri_E D ty b A H0 pu ad w' H' locs' → W p l e R s m args below meth c H' locs' cells slots Q (F0 m pc' ls' (S'.map (ri_v b ad)))
theorem ri_s_push {v : Value} {n : Nat} (hv : ri_v b ad v = v) (hrow : ∀ {rest : List Value}, W p l e R s m args below meth c H locs cells slots Q (F0 m (pc + n) ls (v :: rest)) → W p l e R s m args below meth c H locs cells slots Q (F0 m pc ls rest)) (hL : ri_L b ad nL L ls) (hE : ri_E D ty b A H0 pu ad w H locs) (h : ri_push v n pc L S w = some (pc', L', S', w')) (kk : ri_KK p l e R s m args below meth c cells slots Q D ty b A H0 pu nL ad pc' L' S' w') : W p l e R s m args below meth c H locs cells slots Q (F0 m pc ls (S.map (ri_v b ad))) := by
  cases h
  refine hrow ?_
  have k := kk ls H locs hL hE
  rw [List.map_cons, hv] at k
  exact k
theorem ri_s_bin {f : Int32 → Int32 → Int32} (hrow : ∀ {x y : Int32} {rest : List Value}, W p l e R s m args below meth c H locs cells slots Q (F0 m (pc + 1) ls (.int (f x y) :: rest)) → W p l e R s m args below meth c H locs cells slots Q (F0 m pc ls (.int y :: .int x :: rest))) (hL : ri_L b ad nL L ls) (hE : ri_E D ty b A H0 pu ad w H locs) (h : ri_bin f pc L S w = some (pc', L', S', w')) (kk : ri_KK p l e R s m args below meth c cells slots Q D ty b A H0 pu nL ad pc' L' S' w') : W p l e R s m args below meth c H locs cells slots Q (F0 m pc ls (S.map (ri_v b ad))) := by
  unfold ri_bin at h
  split at h
  · cases h; exact hrow (kk ls H locs hL hE)
  · cases h
theorem ri_s_div {f : Int32 → Int32 → Int32} (hrow : ∀ {x y : Int32} {rest : List Value}, ¬ y = 0 → W p l e R s m args below meth c H locs cells slots Q (F0 m (pc + 1) ls (.int (f x y) :: rest)) → W p l e R s m args below meth c H locs cells slots Q (F0 m pc ls (.int y :: .int x :: rest))) (hL : ri_L b ad nL L ls) (hE : ri_E D ty b A H0 pu ad w H locs) (h : ri_div f pc L S w = some (pc', L', S', w')) (kk : ri_KK p l e R s m args below meth c cells slots Q D ty b A H0 pu nL ad pc' L' S' w') : W p l e R s m args below meth c H locs cells slots Q (F0 m pc ls (S.map (ri_v b ad))) := by
  unfold ri_div at h
  split at h
  · rename_i y x r
    cases hy : decide (y = 0) with
    | true => rw [hy] at h; cases h
    | false =>
      rw [hy] at h
      cases h
      exact hrow (of_decide_eq_false hy) (kk ls H locs hL hE)
  · cases h
theorem ri_s_ild {k n : Nat} (hrow : ∀ {x : Int32} {rest : List Value}, ls[k]? = some (.val (.int x)) → W p l e R s m args below meth c H locs cells slots Q (F0 m (pc + n) ls (.int x :: rest)) → W p l e R s m args below meth c H locs cells slots Q (F0 m pc ls rest)) (hL : ri_L b ad nL L ls) (hE : ri_E D ty b A H0 pu ad w H locs) (h : ri_ild k n pc L S w = some (pc', L', S', w')) (kk : ri_KK p l e R s m args below meth c cells slots Q D ty b A H0 pu nL ad pc' L' S' w') : W p l e R s m args below meth c H locs cells slots Q (F0 m pc ls (S.map (ri_v b ad))) := by
  unfold ri_ild at h
  split at h
  · rename_i x hk
    cases h
    exact hrow (hL.2.2.2 k _ hk).2 (kk ls H locs hL hE)
  · cases h
theorem ri_s_ald {k n : Nat} (hrow : ∀ {x : Nat} {rest : List Value}, ls[k]? = some (.val (.ref x)) → W p l e R s m args below meth c H locs cells slots Q (F0 m (pc + n) ls (.ref x :: rest)) → W p l e R s m args below meth c H locs cells slots Q (F0 m pc ls rest)) (hL : ri_L b ad nL L ls) (hE : ri_E D ty b A H0 pu ad w H locs) (h : ri_ald k n pc L S w = some (pc', L', S', w')) (kk : ri_KK p l e R s m args below meth c cells slots Q D ty b A H0 pu nL ad pc' L' S' w') : W p l e R s m args below meth c H locs cells slots Q (F0 m pc ls (S.map (ri_v b ad))) := by
  unfold ri_ald at h
  split at h
  · rename_i x hk
    cases h
    obtain ⟨a, ha⟩ := ri_v_isref (b := b) (ad := ad) x
    have h1 := (hL.2.2.2 k _ hk).2
    rw [ha] at h1
    refine hrow h1 ?_
    have k1 := kk ls H locs hL hE
    rw [List.map_cons, ha] at k1
    exact k1
  · cases h
theorem ri_s_ist {k n : Nat} (hrow : ∀ {x : Int32} {rest : List Value} {lv' : List (Nat × Value)}, k < nL → (k, Value.int x) :: (ri_lv b ad L).filter (fun q => !(q.1 == k) && !(q.1 + 1 == k && q.2.category == 2)) = lv' → (∀ ls', lv_has ls' nL lv' → W p l e R s m args below meth c H locs cells slots Q (F0 m (pc + n) ls' rest)) → W p l e R s m args below meth c H locs cells slots Q (F0 m pc ls (.int x :: rest))) (hL : ri_L b ad nL L ls) (hE : ri_E D ty b A H0 pu ad w H locs) (h : ri_ist k n pc L S w = some (pc', L', S', w')) (kk : ri_KK p l e R s m args below meth c cells slots Q D ty b A H0 pu nL ad pc' L' S' w') : W p l e R s m args below meth c H locs cells slots Q (F0 m pc ls (S.map (ri_v b ad))) := by
  unfold ri_ist at h
  split at h
  · rename_i x r
    obtain ⟨hk, h⟩ := ri_bif h
    have hk : k < nL := by rw [← hL.1]; exact Nat.le_of_ble_eq_true hk
    cases h
    exact hrow hk rfl fun ls' h' => kk ls' H locs (hL.stored hk rfl rfl h') hE
  · cases h
theorem ri_s_ast {k n : Nat} (hrow : ∀ {x : Nat} {rest : List Value} {lv' : List (Nat × Value)}, k < nL → (k, Value.ref x) :: (ri_lv b ad L).filter (fun q => !(q.1 == k) && !(q.1 + 1 == k && q.2.category == 2)) = lv' → (∀ ls', lv_has ls' nL lv' → W p l e R s m args below meth c H locs cells slots Q (F0 m (pc + n) ls' rest)) → W p l e R s m args below meth c H locs cells slots Q (F0 m pc ls (.ref x :: rest))) (hL : ri_L b ad nL L ls) (hE : ri_E D ty b A H0 pu ad w H locs) (h : ri_ast k n pc L S w = some (pc', L', S', w')) (kk : ri_KK p l e R s m args below meth c cells slots Q D ty b A H0 pu nL ad pc' L' S' w') : W p l e R s m args below meth c H locs cells slots Q (F0 m pc ls (S.map (ri_v b ad))) := by
  unfold ri_ast at h
  split at h
  · rename_i x r
    obtain ⟨hk, h⟩ := ri_bif h
    have hk : k < nL := by rw [← hL.1]; exact Nat.le_of_ble_eq_true hk
    cases h
    obtain ⟨a, ha⟩ := ri_v_isref (b := b) (ad := ad) x
    rw [List.map_cons, ha]
    exact hrow hk rfl fun ls' h' => kk ls' H locs (hL.stored hk rfl ha.symm h') hE
  · cases h
theorem ri_s_inc {k : Nat} {d : Int32} {dd : Int} (hdd : Int32.ofInt dd = d) (hx : p.tables.exec = Jvm.exec) (hb : c.code = cc) (hd : decode cc pc = .ok (.iinc k dd, 3)) (hL : ri_L b ad nL L ls) (hE : ri_E D ty b A H0 pu ad w H locs) (h : ri_inc k d pc L S w = some (pc', L', S', w')) (kk : ri_KK p l e R s m args below meth c cells slots Q D ty b A H0 pu nL ad pc' L' S' w') : W p l e R s m args below meth c H locs cells slots Q (F0 m pc ls (S.map (ri_v b ad))) := by
  unfold ri_inc at h
  split at h
  · rename_i x hk
    cases h
    have hk2 : k < nL := by rw [← hL.1]; exact (List.getElem?_eq_some_iff.mp hk).1
    obtain ⟨j, hj⟩ := List.getElem?_of_mem (ri_lv_mem (b := b) (ad := ad) hk)
    refine lv_iinc hx hb hd hL.has hj (by rw [hdd]) hk2 rfl fun ls' h' => kk ls' H locs (hL.stored hk2 rfl rfl h') hE
  · cases h
theorem ri_s_dup (hx : p.tables.exec = Jvm.exec) (hb : c.code = cc) (hd : decode cc pc = .ok (.dup, 1)) (hL : ri_L b ad nL L ls) (hE : ri_E D ty b A H0 pu ad w H locs) (h : ri_dup pc L S w = some (pc', L', S', w')) (kk : ri_KK p l e R s m args below meth c cells slots Q D ty b A H0 pu nL ad pc' L' S' w') : W p l e R s m args below meth c H locs cells slots Q (F0 m pc ls (S.map (ri_v b ad))) := by
  unfold ri_dup at h
  split at h
  · rename_i x r
    obtain ⟨hc, h⟩ := ri_bif h
    cases h
    exact lv_dup hx hb hd (by rw [ri_cat]; exact Nat.eq_of_beq_eq_true hc) (kk ls H locs hL hE)
  · cases h
theorem ri_s_pop (hx : p.tables.exec = Jvm.exec) (hb : c.code = cc) (hd : decode cc pc = .ok (.pop, 1)) (hL : ri_L b ad nL L ls) (hE : ri_E D ty b A H0 pu ad w H locs) (h : ri_pop pc L S w = some (pc', L', S', w')) (kk : ri_KK p l e R s m args below meth c cells slots Q D ty b A H0 pu nL ad pc' L' S' w') : W p l e R s m args below meth c H locs cells slots Q (F0 m pc ls (S.map (ri_v b ad))) := by
  unfold ri_pop at h
  split at h
  · rename_i x r
    obtain ⟨hc, h⟩ := ri_bif h
    cases h
    exact lv_pop hx hb hd (by rw [ri_cat]; exact Nat.eq_of_beq_eq_true hc) (kk ls H locs hL hE)
  · cases h
theorem ri_s_d2 (hx : p.tables.exec = Jvm.exec) (hb : c.code = cc) (hd : decode cc pc = .ok (.dup2, 1)) (hL : ri_L b ad nL L ls) (hE : ri_E D ty b A H0 pu ad w H locs) (h : ri_d2 pc L S w = some (pc', L', S', w')) (kk : ri_KK p l e R s m args below meth c cells slots Q D ty b A H0 pu nL ad pc' L' S' w') : W p l e R s m args below meth c H locs cells slots Q (F0 m pc ls (S.map (ri_v b ad))) := by
  unfold ri_d2 at h
  split at h
  · rename_i x y r
    obtain ⟨hc, h⟩ := ri_bif h
    rw [Bool.and_eq_true] at hc
    cases h
    exact lv_dup2_11 hx hb hd (by rw [ri_cat]; exact Nat.eq_of_beq_eq_true hc.1) (by rw [ri_cat]; exact Nat.eq_of_beq_eq_true hc.2) (kk ls H locs hL hE)
  · cases h
theorem ri_s_if {cd : Jvm.ClassFile.Cond} {off : Int} (hx : p.tables.exec = Jvm.exec) (hb : c.code = cc) (hd : decode cc pc = .ok (.ifCond cd off, 3)) (hL : ri_L b ad nL L ls) (hE : ri_E D ty b A H0 pu ad w H locs) (h : ri_if cd off pc L S w = some (pc', L', S', w')) (kk : ri_KK p l e R s m args below meth c cells slots Q D ty b A H0 pu nL ad pc' L' S' w') : W p l e R s m args below meth c H locs cells slots Q (F0 m pc ls (S.map (ri_v b ad))) := by
  unfold ri_if at h
  split at h
  · rename_i x r
    obtain ⟨ho, h⟩ := ri_bif h
    have ho := of_decide_eq_true ho
    cases h
    have ht : (pc : Int) + off = (ri_tgt pc off : Int) := (Int.toNat_of_nonneg ho).symm
    have k1 := kk ls H locs hL hE
    cases cd
    · exact lv_if_eq hx hb hd ht (fun q => by simpa [ri_cd, q] using k1) (fun q => by simpa [ri_cd, q] using k1)
    · exact lv_if_ne hx hb hd ht (fun q => by simpa [ri_cd, q] using k1) (fun q => by simpa [ri_cd, q] using k1)
    · exact lv_if_lt hx hb hd ht (fun q => by simpa [ri_cd, q] using k1) (fun q => by simpa [ri_cd, q] using k1)
    · exact lv_if_ge hx hb hd ht (fun q => by simpa [ri_cd, q] using k1) (fun q => by simpa [ri_cd, q] using k1)
    · exact lv_if_gt hx hb hd ht (fun q => by simpa [ri_cd, q] using k1) (fun q => by simpa [ri_cd, q] using k1)
    · exact lv_if_le hx hb hd ht (fun q => by simpa [ri_cd, q] using k1) (fun q => by simpa [ri_cd, q] using k1)
  · cases h
theorem ri_s_icmp {cd : Jvm.ClassFile.Cond} {off : Int} (hx : p.tables.exec = Jvm.exec) (hb : c.code = cc) (hd : decode cc pc = .ok (.if_icmp cd off, 3)) (hL : ri_L b ad nL L ls) (hE : ri_E D ty b A H0 pu ad w H locs) (h : ri_icmp cd off pc L S w = some (pc', L', S', w')) (kk : ri_KK p l e R s m args below meth c cells slots Q D ty b A H0 pu nL ad pc' L' S' w') : W p l e R s m args below meth c H locs cells slots Q (F0 m pc ls (S.map (ri_v b ad))) := by
  unfold ri_icmp at h
  split at h
  · rename_i y x r
    obtain ⟨ho, h⟩ := ri_bif h
    have ho := of_decide_eq_true ho
    cases h
    have ht : (pc : Int) + off = (ri_tgt pc off : Int) := (Int.toNat_of_nonneg ho).symm
    have k1 := kk ls H locs hL hE
    cases cd
    · exact lv_icmp_eq hx hb hd ht (fun q => by simpa [ri_cd, q] using k1) (fun q => by simpa [ri_cd, q] using k1)
    · exact lv_icmp_ne hx hb hd ht (fun q => by simpa [ri_cd, q] using k1) (fun q => by simpa [ri_cd, q] using k1)
    · exact lv_icmp_lt hx hb hd ht (fun q => by simpa [ri_cd, q] using k1) (fun q => by simpa [ri_cd, q] using k1)
    · exact lv_icmp_ge hx hb hd ht (fun q => by simpa [ri_cd, q] using k1) (fun q => by simpa [ri_cd, q] using k1)
    · exact lv_icmp_gt hx hb hd ht (fun q => by simpa [ri_cd, q] using k1) (fun q => by simpa [ri_cd, q] using k1)
    · exact lv_icmp_le hx hb hd ht (fun q => by simpa [ri_cd, q] using k1) (fun q => by simpa [ri_cd, q] using k1)
  · cases h
theorem ri_s_goto {off : Int} (hx : p.tables.exec = Jvm.exec) (hb : c.code = cc) (hd : decode cc pc = .ok (.goto off, 3)) (hL : ri_L b ad nL L ls) (hE : ri_E D ty b A H0 pu ad w H locs) (h : ri_goto off pc L S w = some (pc', L', S', w')) (kk : ri_KK p l e R s m args below meth c cells slots Q D ty b A H0 pu nL ad pc' L' S' w') : W p l e R s m args below meth c H locs cells slots Q (F0 m pc ls (S.map (ri_v b ad))) := by
  unfold ri_goto at h
  obtain ⟨ho, h⟩ := ri_bif h
  have ho := of_decide_eq_true ho
  cases h
  exact lv_goto hx hb hd (Int.toNat_of_nonneg ho).symm (kk ls H locs hL hE)
theorem ri_s_tsw {d lo hi : Int} {offs : Array Int} {len : Nat} (hx : p.tables.exec = Jvm.exec) (hb : c.code = cc) (hd : decode cc pc = .ok (.tableswitch d lo hi offs, len)) (hL : ri_L b ad nL L ls) (hE : ri_E D ty b A H0 pu ad w H locs) (h : ri_tsw d lo hi offs pc L S w = some (pc', L', S', w')) (kk : ri_KK p l e R s m args below meth c cells slots Q D ty b A H0 pu nL ad pc' L' S' w') : W p l e R s m args below meth c H locs cells slots Q (F0 m pc ls (S.map (ri_v b ad))) := by
  unfold ri_tsw at h
  split at h
  · rename_i x r
    cases hc : decide (x.toInt < lo) || decide (hi < x.toInt) with
    | true =>
      rw [hc] at h
      dsimp only [cond_true] at h
      obtain ⟨ho, h⟩ := ri_bif h
      cases h
      rw [Bool.or_eq_true, decide_eq_true_eq, decide_eq_true_eq] at hc
      exact lv_tableOut hx hb hd hc (Int.toNat_of_nonneg (of_decide_eq_true ho)).symm (kk ls H locs hL hE)
    | false =>
      rw [hc] at h
      dsimp only [cond_false] at h
      rw [Bool.or_eq_false_iff, decide_eq_false_iff_not, decide_eq_false_iff_not] at hc
      split at h
      · rename_i off ho2
        obtain ⟨ho, h⟩ := ri_bif h
        cases h
        exact lv_tableIn hx hb hd hc.1 hc.2 ho2 (Int.toNat_of_nonneg (of_decide_eq_true ho)).symm (kk ls H locs hL hE)
      · cases h
  · cases h
theorem ri_s_i2l (hx : p.tables.exec = Jvm.exec) (hb : c.code = cc) (hd : decode cc pc = .ok (.i2l, 1)) (hL : ri_L b ad nL L ls) (hE : ri_E D ty b A H0 pu ad w H locs) (h : ri_i2l pc L S w = some (pc', L', S', w')) (kk : ri_KK p l e R s m args below meth c cells slots Q D ty b A H0 pu nL ad pc' L' S' w') : W p l e R s m args below meth c H locs cells slots Q (F0 m pc ls (S.map (ri_v b ad))) := by
  unfold ri_i2l at h
  split at h
  · cases h; exact lv_i2l hx hb hd rfl (kk ls H locs hL hE)
  · cases h
theorem ri_s_lcmp (hx : p.tables.exec = Jvm.exec) (hb : c.code = cc) (hd : decode cc pc = .ok (.lcmp, 1)) (hL : ri_L b ad nL L ls) (hE : ri_E D ty b A H0 pu ad w H locs) (h : ri_lcmp pc L S w = some (pc', L', S', w')) (kk : ri_KK p l e R s m args below meth c cells slots Q D ty b A H0 pu nL ad pc' L' S' w') : W p l e R s m args below meth c H locs cells slots Q (F0 m pc ls (S.map (ri_v b ad))) := by
  unfold ri_lcmp at h
  split at h
  · cases h; exact W.lcmp hx hb hd (kk ls H locs hL hE)
  · cases h
theorem ri_in32_spec {i : Int32} {n : Nat} (h : ri_in32 i n = true) : vp_in i n := by
  unfold ri_in32 at h
  rw [Bool.and_eq_true] at h
  intro q
  rcases q with q | q
  · rw [decide_eq_true q] at h
    cases h.1
  · have := Nat.le_of_ble_eq_true h.2
    omega
theorem ri_Te0 {ty : Nat → ClassId} : (ri_T ty)[0]? = some (ty 0, .int) := rfl
theorem ri_Te1 {ty : Nat → ClassId} : (ri_T ty)[1]? = some (ty 1, .long) := rfl
theorem ri_Te2 {ty : Nat → ClassId} : (ri_T ty)[2]? = some (ty 2, .boolean) := rfl
theorem ri_s_iald {sl : Nat} {sx : Nat → Int32} (hX : va_X b sl sx s H0) (hbl : b < H0.size) (hbA : ¬ A b) (hx : p.tables.exec = Jvm.exec) (hb : c.code = cc) (hd : decode cc pc = .ok (.iaload, 1)) (hK : va_K D ri_cls (ri_T ty) s) (hL : ri_L b ad nL L ls) (hE : ri_E D ty b A H0 pu ad w H locs) (h : ri_iald sl sx pc L S w = some (pc', L', S', w')) (kk : ri_KK p l e R s m args below meth c cells slots Q D ty b A H0 pu nL ad pc' L' S' w') : W p l e R s m args below meth c H locs cells slots Q (F0 m pc ls (S.map (ri_v b ad))) := by
  unfold ri_iald at h
  split at h
  · rename_i i r
    obtain ⟨hi, h⟩ := ri_bif h
    cases h
    exact va_sld hx hb hX hbl hbA hE.2.2.2.1 (ri_in32_spec hi) hd (kk ls H locs hL hE)
  · rename_i i a r
    split at h
    · rename_i n f hw
      obtain ⟨hi, h⟩ := ri_bif h
      cases h
      obtain ⟨aa, had, hget⟩ := ri_w_get (ty := ty) (b := b) hE.1 hw
      rw [List.map_cons, List.map_cons, ri_v_ref had]
      exact va_iald hx hb hK hE.2.1 a 0 hget ri_Te0 (ri_in32_spec hi) hd (kk ls H locs hL hE)
    · cases h
  · cases h
theorem ri_s_zald (hx : p.tables.exec = Jvm.exec) (hb : c.code = cc) (hd : decode cc pc = .ok (.baload, 1)) (hK : va_K D ri_cls (ri_T ty) s) (hL : ri_L b ad nL L ls) (hE : ri_E D ty b A H0 pu ad w H locs) (h : ri_zald pc L S w = some (pc', L', S', w')) (kk : ri_KK p l e R s m args below meth c cells slots Q D ty b A H0 pu nL ad pc' L' S' w') : W p l e R s m args below meth c H locs cells slots Q (F0 m pc ls (S.map (ri_v b ad))) := by
  unfold ri_zald at h
  split at h
  · rename_i i a r
    split at h
    · rename_i n f hw
      obtain ⟨hi, h⟩ := ri_bif h
      cases h
      obtain ⟨aa, had, hget⟩ := ri_w_get (ty := ty) (b := b) hE.1 hw
      rw [List.map_cons, List.map_cons, ri_v_ref had]
      exact va_zald hx hb hK hE.2.1 a 2 hget ri_Te2 (ri_in32_spec hi) hd (kk ls H locs hL hE)
    · cases h
  · cases h
theorem ri_s_lald (hx : p.tables.exec = Jvm.exec) (hb : c.code = cc) (hd : decode cc pc = .ok (.laload, 1)) (hK : va_K D ri_cls (ri_T ty) s) (hL : ri_L b ad nL L ls) (hE : ri_E D ty b A H0 pu ad w H locs) (h : ri_lald pc L S w = some (pc', L', S', w')) (kk : ri_KK p l e R s m args below meth c cells slots Q D ty b A H0 pu nL ad pc' L' S' w') : W p l e R s m args below meth c H locs cells slots Q (F0 m pc ls (S.map (ri_v b ad))) := by
  unfold ri_lald at h
  split at h
  · rename_i i a r
    split at h
    · rename_i n f hw
      obtain ⟨hi, h⟩ := ri_bif h
      cases h
      obtain ⟨aa, had, hget⟩ := ri_w_get (ty := ty) (b := b) hE.1 hw
      rw [List.map_cons, List.map_cons, ri_v_ref had]
      exact va_lald hx hb hK hE.2.1 a 1 hget ri_Te1 (ri_in32_spec hi) hd (kk ls H locs hL hE)
    · cases h
  · cases h
theorem ri_s_iast (hpu : pu = false) (hx : p.tables.exec = Jvm.exec) (hb : c.code = cc) (hd : decode cc pc = .ok (.iastore, 1)) (hK : va_K D ri_cls (ri_T ty) s) (hL : ri_L b ad nL L ls) (hE : ri_E D ty b A H0 pu ad w H locs) (h : ri_iast pc L S w = some (pc', L', S', w')) (kk : ri_KK p l e R s m args below meth c cells slots Q D ty b A H0 pu nL ad pc' L' S' w') : W p l e R s m args below meth c H locs cells slots Q (F0 m pc ls (S.map (ri_v b ad))) := by
  unfold ri_iast at h
  split at h
  · rename_i x i a r
    split at h
    · rename_i n f hw
      obtain ⟨hi, h⟩ := ri_bif h
      cases h
      obtain ⟨aa, had, hget⟩ := ri_w_get (ty := ty) (b := b) hE.1 hw
      rw [List.map_cons, List.map_cons, List.map_cons, ri_v_ref had]
      refine va_iast hx hb hK hE.2.1 hE.2.2.1 hE.2.2.2.1 a 0 hget ri_Te0 (ri_in32_spec hi) hd fun H1 locs1 h1 h2 h3 => kk ls H1 locs1 hL ⟨by rw [List.length_set]; exact hE.1, ?_, ?_, h3, fun q => absurd q (by rw [hpu]; decide)⟩
      · rw [← ri_w_set had]; exact h1
      · rw [← ri_w_set had]; exact h2
    · cases h
  · cases h
theorem ri_s_zast (hpu : pu = false) (hx : p.tables.exec = Jvm.exec) (hb : c.code = cc) (hd : decode cc pc = .ok (.bastore, 1)) (hK : va_K D ri_cls (ri_T ty) s) (hL : ri_L b ad nL L ls) (hE : ri_E D ty b A H0 pu ad w H locs) (h : ri_zast pc L S w = some (pc', L', S', w')) (kk : ri_KK p l e R s m args below meth c cells slots Q D ty b A H0 pu nL ad pc' L' S' w') : W p l e R s m args below meth c H locs cells slots Q (F0 m pc ls (S.map (ri_v b ad))) := by
  unfold ri_zast at h
  split at h
  · rename_i x i a r
    split at h
    · rename_i n f hw
      obtain ⟨hi, h⟩ := ri_bif h
      cases h
      obtain ⟨aa, had, hget⟩ := ri_w_get (ty := ty) (b := b) hE.1 hw
      rw [List.map_cons, List.map_cons, List.map_cons, ri_v_ref had]
      refine va_zast hx hb hK hE.2.1 hE.2.2.1 hE.2.2.2.1 a 2 hget ri_Te2 (ri_in32_spec hi) hd fun H1 locs1 h1 h2 h3 => kk ls H1 locs1 hL ⟨by rw [List.length_set]; exact hE.1, ?_, ?_, h3, fun q => absurd q (by rw [hpu]; decide)⟩
      · rw [← ri_w_set had]; exact h1
      · rw [← ri_w_set had]; exact h2
    · cases h
  · cases h
theorem ri_s_last (hpu : pu = false) (hx : p.tables.exec = Jvm.exec) (hb : c.code = cc) (hd : decode cc pc = .ok (.lastore, 1)) (hK : va_K D ri_cls (ri_T ty) s) (hL : ri_L b ad nL L ls) (hE : ri_E D ty b A H0 pu ad w H locs) (h : ri_last pc L S w = some (pc', L', S', w')) (kk : ri_KK p l e R s m args below meth c cells slots Q D ty b A H0 pu nL ad pc' L' S' w') : W p l e R s m args below meth c H locs cells slots Q (F0 m pc ls (S.map (ri_v b ad))) := by
  unfold ri_last at h
  split at h
  · rename_i x i a r
    split at h
    · rename_i n f hw
      obtain ⟨hi, h⟩ := ri_bif h
      cases h
      obtain ⟨aa, had, hget⟩ := ri_w_get (ty := ty) (b := b) hE.1 hw
      rw [List.map_cons, List.map_cons, List.map_cons, ri_v_ref had]
      refine va_last hx hb hK hE.2.1 hE.2.2.1 hE.2.2.2.1 a 1 hget ri_Te1 (ri_in32_spec hi) hd fun H1 locs1 h1 h2 h3 => kk ls H1 locs1 hL ⟨by rw [List.length_set]; exact hE.1, ?_, ?_, h3, fun q => absurd q (by rw [hpu]; decide)⟩
      · rw [← ri_w_set had]; exact h1
      · rw [← ri_w_set had]; exact h2
    · cases h
  · cases h
theorem ri_s_alen {sl : Nat} {sx : Nat → Int32} (hX : va_X b sl sx s H0) (hbl : b < H0.size) (hbA : ¬ A b) (hx : p.tables.exec = Jvm.exec) (hb : c.code = cc) (hd : decode cc pc = .ok (.arraylength, 1)) (hK : va_K D ri_cls (ri_T ty) s) (hL : ri_L b ad nL L ls) (hE : ri_E D ty b A H0 pu ad w H locs) (h : ri_alen sl pc L S w = some (pc', L', S', w')) (kk : ri_KK p l e R s m args below meth c cells slots Q D ty b A H0 pu nL ad pc' L' S' w') : W p l e R s m args below meth c H locs cells slots Q (F0 m pc ls (S.map (ri_v b ad))) := by
  unfold ri_alen at h
  split at h
  · cases h
    exact va_slen hx hb hX hbl hbA hE.2.2.2.1 hd (kk ls H locs hL hE)
  · rename_i a r
    split at h
    · rename_i t n f hw
      obtain ⟨hi, h⟩ := ri_bif h
      have hi := Nat.le_of_ble_eq_true hi
      cases h
      obtain ⟨aa, had, hget⟩ := ri_w_get (ty := ty) (b := b) hE.1 hw
      rw [List.map_cons, ri_v_ref had]
      match t, hi, hget with
      | 0, _, hget => exact va_alen hx hb hK hE.2.1 a 0 hget ri_Te0 rfl hd (kk ls H locs hL hE)
      | 1, _, hget => exact va_alen hx hb hK hE.2.1 a 1 hget ri_Te1 rfl hd (kk ls H locs hL hE)
      | 2, _, hget => exact va_alen hx hb hK hE.2.1 a 2 hget ri_Te2 rfl hd (kk ls H locs hL hE)
      | t + 3, hi, _ => omega
    · cases h
  · cases h
theorem ri_fit_spec {ft : FieldType} {v : Value} (h : ri_fit ft v = true) : narrow ft (ri_v b ad v) = ri_v b ad v ∧ fits ft (ri_v b ad v) = true := by
  unfold ri_fit at h
  split at h
  · exact ⟨rfl, rfl⟩
  · rename_i x
    rw [Bool.or_eq_true, decide_eq_true_eq, decide_eq_true_eq] at h
    rcases h with rfl | rfl <;> exact ⟨by show narrow .boolean (.int _) = .int _; decide +kernel, by show fits .boolean (.int _) = true; decide +kernel⟩
  · rename_i k
    obtain ⟨a, ha⟩ := ri_v_isref (b := b) (ad := ad) k
    rw [ha]
    exact ⟨rfl, rfl⟩
  · rename_i k
    obtain ⟨a, ha⟩ := ri_v_isref (b := b) (ad := ad) k
    rw [ha]
    exact ⟨rfl, rfl⟩
  · cases h
theorem ri_s_get {mi x : Nat} (hts : ∀ w ∈ ri_TW, w.before args s = true) (hown : s.vm.findClass (ri_nm mi).cls = some m.cls) (hx : p.tables.exec = Jvm.exec) (hb : c.code = cc) (hd : decode cc pc = .ok (.getfield x, 3)) (hK : va_K D ri_cls (ri_T ty) s) (hL : ri_L b ad nL L ls) (hE : ri_E D ty b A H0 pu ad w H locs) (h : ri_get mi x pc L S w = some (pc', L', S', w')) (kk : ri_KK p l e R s m args below meth c cells slots Q D ty b A H0 pu nL ad pc' L' S' w') : W p l e R s m args below meth c H locs cells slots Q (F0 m pc ls (S.map (ri_v b ad))) := by
  unfold ri_get at h
  split at h
  · rename_i ci k hfl
    obtain ⟨C, T, N, hcl, hkN, hT1, hlk, hws, -⟩ := ri_fl_ok hfl
    split at h
    · rename_i a r
      split at h
      · rename_i cj fs hw
        obtain ⟨hc, h2⟩ := ri_bif h
        clear h
        have hc := Nat.eq_of_beq_eq_true hc
        subst hc
        cases hv : fs[k]? with
        | none => rw [hv] at h2; cases h2
        | some v =>
          rw [hv] at h2
          cases h2
          obtain ⟨aa, had, hget⟩ := ri_w_get (ty := ty) (b := b) hE.1 hw
          rw [List.map_cons, ri_v_ref had]
          exact va_get hx hb hts hws hown hK hE.2.1 a hget hcl k hkN (hts _ hlk) (fun x q => by rw [hT1] at q; exact q) (v := ri_v b ad v) (by rw [List.getElem?_map, hv]; rfl) hd (kk ls H locs hL hE)
      · cases h
    · cases h
  · cases h
theorem ri_s_put {mi x : Nat} (hpu : pu = false) (hts : ∀ w ∈ ri_TW, w.before args s = true) (hown : s.vm.findClass (ri_nm mi).cls = some m.cls) (hnm : meth.name = (ri_nm mi).name) (hx : p.tables.exec = Jvm.exec) (hb : c.code = cc) (hd : decode cc pc = .ok (.putfield x, 3)) (hK : va_K D ri_cls (ri_T ty) s) (hL : ri_L b ad nL L ls) (hE : ri_E D ty b A H0 pu ad w H locs) (h : ri_put mi x pc L S w = some (pc', L', S', w')) (kk : ri_KK p l e R s m args below meth c cells slots Q D ty b A H0 pu nL ad pc' L' S' w') : W p l e R s m args below meth c H locs cells slots Q (F0 m pc ls (S.map (ri_v b ad))) := by
  unfold ri_put at h
  split at h
  · rename_i ci k hfl
    obtain ⟨C, T, N, hcl, hkN, hT1, hlk, hws, hty, hdis, hpk⟩ := ri_fl_ok hfl
    split at h
    · rename_i v a rr
      split at h
      · rename_i cj fs hw
        obtain ⟨hc, h2⟩ := ri_bif h
        clear h
        rw [Bool.and_eq_true, Bool.and_eq_true, Bool.and_eq_true] at hc
        obtain ⟨hc, hfit, hkl, hpk2⟩ := hc
        have hc := Nat.eq_of_beq_eq_true hc
        have hkl := Nat.le_of_ble_eq_true hkl
        subst hc
        cases h2
        obtain ⟨aa, had, hget⟩ := ri_w_get (ty := ty) (b := b) hE.1 hw
        rw [List.map_cons, List.map_cons, ri_v_ref had]
        obtain ⟨hn1, hn2⟩ := ri_fit_spec (b := b) (ad := ad) hfit
        have hcell : ri_c ty b ad (.inr (cj, fs.set k v)) = .inr (cj, (fs.map (ri_v b ad)).set k (ri_v b ad v)) := by
          show (Sum.inr (cj, (fs.set k v).map (ri_v b ad)) : va_E) = _
          rw [List.map_set]
        have fin : ∀ (H1 : Heap) (locs1 : List Loc), va_P D ri_cls ((ri_w ty b ad w).set a (aa, .inr (cj, (fs.map (ri_v b ad)).set k (ri_v b ad v)))) H1 → va_D A ((ri_w ty b ad w).set a (aa, .inr (cj, (fs.map (ri_v b ad)).set k (ri_v b ad v)))) → va_S A H0 H1 locs1 → ri_E D ty b A H0 pu ad (w.set a (.inr (cj, fs.set k v))) H1 locs1 := by
          intro H1 locs1 h1 h2 h3
          rw [← hcell, ri_w_set had] at h1 h2
          exact ⟨by rw [List.length_set]; exact hE.1, h1, h2, h3, fun q => absurd q (by rw [hpu]; decide)⟩
        rcases hpk hpk2 with q | ⟨q1, q2, q3⟩
        · exact va_put hx hb hts hws (ri_ft cj) hty hdis hown hK hE.2.1 hE.2.2.1 hE.2.2.2.1 a hget hcl k hkN (hts _ hlk) (fun x q => by rw [hT1] at q; exact q) q (hty k hkN) hn1 hn2 (by rw [List.length_map]; exact hkl) hd (fun H1 locs1 h1 h2 h3 => kk ls H1 locs1 hL (fin H1 locs1 h1 h2 h3))
        · exact va_putF hx hb hts hws (ri_ft cj) hty hdis hown hK hE.2.1 hE.2.2.1 hE.2.2.2.1 a hget hcl k hkN (hts _ hlk) (fun x q => by rw [hT1] at q; exact q) q1 (by rw [hnm]; exact q2) (hT1.trans q3) (hty k hkN) hn1 hn2 (by rw [List.length_map]; exact hkl) hd (fun H1 locs1 h1 h2 h3 => kk ls H1 locs1 hL (fin H1 locs1 h1 h2 h3))
      · cases h
    · cases h
  · cases h
end RIS
