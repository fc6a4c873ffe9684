/-! What the tables say of each method -/
theorem ri_da_at {r : ri_Row} {lo n pc : Nat} (h : ri_da r lo n = true) (h1 : lo ≤ pc) (h2 : pc < lo + n) {i : Instr} (hi : r.2.2.2.2.2.2.2.2.2.2.2.2.2.2 pc = some i) : ri_dec r.2.2.1 pc i = true := by
  have h3 := List.all_eq_true.mp h (pc - lo) (List.mem_range.mpr (by omega))
  rw [show lo + (pc - lo) = pc by omega, hi] at h3
  exact h3
def ri_DQ (r : ri_Row) : Prop := ∀ (pc : Nat) (i : Instr), pc < r.2.2.2.2.2.2.2.2.2.2.2.2.2.1 → r.2.2.2.2.2.2.2.2.2.2.2.2.2.2 pc = some i → ri_dec r.2.2.1 pc i = true
theorem ri_dq0 {r : ri_Row} (h : ri_da r 0 r.2.2.2.2.2.2.2.2.2.2.2.2.2.1 = true) : ri_DQ r := fun pc i h1 h2 => ri_da_at h (Nat.zero_le _) (by omega) h2
theorem ri_dqL : ri_DQ ri_r124 := by
  intro pc i h1 h2
  have h1 : pc < 1796 := h1
  by_cases q0 : pc < 36
  · exact ri_da_at ri_dL0 (by omega) (by omega) h2
  by_cases q36 : pc < 72
  · exact ri_da_at ri_dL36 (by omega) (by omega) h2
  by_cases q72 : pc < 108
  · exact ri_da_at ri_dL72 (by omega) (by omega) h2
  by_cases q108 : pc < 144
  · exact ri_da_at ri_dL108 (by omega) (by omega) h2
  by_cases q144 : pc < 180
  · exact ri_da_at ri_dL144 (by omega) (by omega) h2
  by_cases q180 : pc < 216
  · exact ri_da_at ri_dL180 (by omega) (by omega) h2
  by_cases q216 : pc < 252
  · exact ri_da_at ri_dL216 (by omega) (by omega) h2
  by_cases q252 : pc < 288
  · exact ri_da_at ri_dL252 (by omega) (by omega) h2
  by_cases q288 : pc < 324
  · exact ri_da_at ri_dL288 (by omega) (by omega) h2
  by_cases q324 : pc < 360
  · exact ri_da_at ri_dL324 (by omega) (by omega) h2
  by_cases q360 : pc < 396
  · exact ri_da_at ri_dL360 (by omega) (by omega) h2
  by_cases q396 : pc < 432
  · exact ri_da_at ri_dL396 (by omega) (by omega) h2
  by_cases q432 : pc < 468
  · exact ri_da_at ri_dL432 (by omega) (by omega) h2
  by_cases q468 : pc < 504
  · exact ri_da_at ri_dL468 (by omega) (by omega) h2
  by_cases q504 : pc < 540
  · exact ri_da_at ri_dL504 (by omega) (by omega) h2
  by_cases q540 : pc < 576
  · exact ri_da_at ri_dL540 (by omega) (by omega) h2
  by_cases q576 : pc < 612
  · exact ri_da_at ri_dL576 (by omega) (by omega) h2
  by_cases q612 : pc < 648
  · exact ri_da_at ri_dL612 (by omega) (by omega) h2
  by_cases q648 : pc < 684
  · exact ri_da_at ri_dL648 (by omega) (by omega) h2
  by_cases q684 : pc < 720
  · exact ri_da_at ri_dL684 (by omega) (by omega) h2
  by_cases q720 : pc < 756
  · exact ri_da_at ri_dL720 (by omega) (by omega) h2
  by_cases q756 : pc < 792
  · exact ri_da_at ri_dL756 (by omega) (by omega) h2
  by_cases q792 : pc < 828
  · exact ri_da_at ri_dL792 (by omega) (by omega) h2
  by_cases q828 : pc < 864
  · exact ri_da_at ri_dL828 (by omega) (by omega) h2
  by_cases q864 : pc < 900
  · exact ri_da_at ri_dL864 (by omega) (by omega) h2
  by_cases q900 : pc < 936
  · exact ri_da_at ri_dL900 (by omega) (by omega) h2
  by_cases q936 : pc < 972
  · exact ri_da_at ri_dL936 (by omega) (by omega) h2
  by_cases q972 : pc < 1008
  · exact ri_da_at ri_dL972 (by omega) (by omega) h2
  by_cases q1008 : pc < 1044
  · exact ri_da_at ri_dL1008 (by omega) (by omega) h2
  by_cases q1044 : pc < 1080
  · exact ri_da_at ri_dL1044 (by omega) (by omega) h2
  by_cases q1080 : pc < 1116
  · exact ri_da_at ri_dL1080 (by omega) (by omega) h2
  by_cases q1116 : pc < 1152
  · exact ri_da_at ri_dL1116 (by omega) (by omega) h2
  by_cases q1152 : pc < 1188
  · exact ri_da_at ri_dL1152 (by omega) (by omega) h2
  by_cases q1188 : pc < 1224
  · exact ri_da_at ri_dL1188 (by omega) (by omega) h2
  by_cases q1224 : pc < 1260
  · exact ri_da_at ri_dL1224 (by omega) (by omega) h2
  by_cases q1260 : pc < 1296
  · exact ri_da_at ri_dL1260 (by omega) (by omega) h2
  by_cases q1296 : pc < 1332
  · exact ri_da_at ri_dL1296 (by omega) (by omega) h2
  by_cases q1332 : pc < 1368
  · exact ri_da_at ri_dL1332 (by omega) (by omega) h2
  by_cases q1368 : pc < 1404
  · exact ri_da_at ri_dL1368 (by omega) (by omega) h2
  by_cases q1404 : pc < 1440
  · exact ri_da_at ri_dL1404 (by omega) (by omega) h2
  by_cases q1440 : pc < 1476
  · exact ri_da_at ri_dL1440 (by omega) (by omega) h2
  by_cases q1476 : pc < 1512
  · exact ri_da_at ri_dL1476 (by omega) (by omega) h2
  by_cases q1512 : pc < 1548
  · exact ri_da_at ri_dL1512 (by omega) (by omega) h2
  by_cases q1548 : pc < 1584
  · exact ri_da_at ri_dL1548 (by omega) (by omega) h2
  by_cases q1584 : pc < 1620
  · exact ri_da_at ri_dL1584 (by omega) (by omega) h2
  by_cases q1620 : pc < 1656
  · exact ri_da_at ri_dL1620 (by omega) (by omega) h2
  by_cases q1656 : pc < 1692
  · exact ri_da_at ri_dL1656 (by omega) (by omega) h2
  by_cases q1692 : pc < 1728
  · exact ri_da_at ri_dL1692 (by omega) (by omega) h2
  by_cases q1728 : pc < 1764
  · exact ri_da_at ri_dL1728 (by omega) (by omega) h2
  exact ri_da_at ri_dL1764 (by omega) (by omega) h2
def ri_ms0 : List ri_Row := [ri_r0, ri_r1, ri_r2, ri_r3, ri_r4, ri_r5, ri_r6, ri_r7, ri_r8, ri_r9, ri_r10, ri_r11, ri_r12, ri_r13, ri_r14, ri_r15]
theorem ri_dqs0 : ∀ r ∈ ri_ms0, ri_DQ r := List.forall_mem_cons.mpr ⟨ri_dq0 ri_da0, List.forall_mem_cons.mpr ⟨ri_dq0 ri_da1, List.forall_mem_cons.mpr ⟨ri_dq0 ri_da2, List.forall_mem_cons.mpr ⟨ri_dq0 ri_da3, List.forall_mem_cons.mpr ⟨ri_dq0 ri_da4, List.forall_mem_cons.mpr ⟨ri_dq0 ri_da5, List.forall_mem_cons.mpr ⟨ri_dq0 ri_da6, List.forall_mem_cons.mpr ⟨ri_dq0 ri_da7, List.forall_mem_cons.mpr ⟨ri_dq0 ri_da8, List.forall_mem_cons.mpr ⟨ri_dq0 ri_da9, List.forall_mem_cons.mpr ⟨ri_dq0 ri_da10, List.forall_mem_cons.mpr ⟨ri_dq0 ri_da11, List.forall_mem_cons.mpr ⟨ri_dq0 ri_da12, List.forall_mem_cons.mpr ⟨ri_dq0 ri_da13, List.forall_mem_cons.mpr ⟨ri_dq0 ri_da14, List.forall_mem_cons.mpr ⟨ri_dq0 ri_da15, fun _ h => absurd h List.not_mem_nil⟩⟩⟩⟩⟩⟩⟩⟩⟩⟩⟩⟩⟩⟩⟩⟩
def ri_ms1 : List ri_Row := [ri_r16, ri_r17, ri_r18, ri_r19, ri_r20, ri_r21, ri_r22, ri_r23, ri_r24, ri_r25, ri_r26, ri_r27, ri_r28, ri_r29, ri_r30, ri_r31]
theorem ri_dqs1 : ∀ r ∈ ri_ms1, ri_DQ r := List.forall_mem_cons.mpr ⟨ri_dq0 ri_da16, List.forall_mem_cons.mpr ⟨ri_dq0 ri_da17, List.forall_mem_cons.mpr ⟨ri_dq0 ri_da18, List.forall_mem_cons.mpr ⟨ri_dq0 ri_da19, List.forall_mem_cons.mpr ⟨ri_dq0 ri_da20, List.forall_mem_cons.mpr ⟨ri_dq0 ri_da21, List.forall_mem_cons.mpr ⟨ri_dq0 ri_da22, List.forall_mem_cons.mpr ⟨ri_dq0 ri_da23, List.forall_mem_cons.mpr ⟨ri_dq0 ri_da24, List.forall_mem_cons.mpr ⟨ri_dq0 ri_da25, List.forall_mem_cons.mpr ⟨ri_dq0 ri_da26, List.forall_mem_cons.mpr ⟨ri_dq0 ri_da27, List.forall_mem_cons.mpr ⟨ri_dq0 ri_da28, List.forall_mem_cons.mpr ⟨ri_dq0 ri_da29, List.forall_mem_cons.mpr ⟨ri_dq0 ri_da30, List.forall_mem_cons.mpr ⟨ri_dq0 ri_da31, fun _ h => absurd h List.not_mem_nil⟩⟩⟩⟩⟩⟩⟩⟩⟩⟩⟩⟩⟩⟩⟩⟩
def ri_ms2 : List ri_Row := [ri_r32, ri_r33, ri_r34, ri_r35, ri_r36, ri_r37, ri_r38, ri_r39, ri_r40, ri_r41, ri_r42, ri_r43, ri_r44, ri_r45, ri_r46, ri_r47]
theorem ri_dqs2 : ∀ r ∈ ri_ms2, ri_DQ r := List.forall_mem_cons.mpr ⟨ri_dq0 ri_da32, List.forall_mem_cons.mpr ⟨ri_dq0 ri_da33, List.forall_mem_cons.mpr ⟨ri_dq0 ri_da34, List.forall_mem_cons.mpr ⟨ri_dq0 ri_da35, List.forall_mem_cons.mpr ⟨ri_dq0 ri_da36, List.forall_mem_cons.mpr ⟨ri_dq0 ri_da37, List.forall_mem_cons.mpr ⟨ri_dq0 ri_da38, List.forall_mem_cons.mpr ⟨ri_dq0 ri_da39, List.forall_mem_cons.mpr ⟨ri_dq0 ri_da40, List.forall_mem_cons.mpr ⟨ri_dq0 ri_da41, List.forall_mem_cons.mpr ⟨ri_dq0 ri_da42, List.forall_mem_cons.mpr ⟨ri_dq0 ri_da43, List.forall_mem_cons.mpr ⟨ri_dq0 ri_da44, List.forall_mem_cons.mpr ⟨ri_dq0 ri_da45, List.forall_mem_cons.mpr ⟨ri_dq0 ri_da46, List.forall_mem_cons.mpr ⟨ri_dq0 ri_da47, fun _ h => absurd h List.not_mem_nil⟩⟩⟩⟩⟩⟩⟩⟩⟩⟩⟩⟩⟩⟩⟩⟩
def ri_ms3 : List ri_Row := [ri_r48, ri_r49, ri_r50, ri_r51, ri_r52, ri_r53, ri_r54, ri_r55, ri_r56, ri_r57, ri_r58, ri_r59, ri_r60, ri_r61, ri_r62, ri_r63]
theorem ri_dqs3 : ∀ r ∈ ri_ms3, ri_DQ r := List.forall_mem_cons.mpr ⟨ri_dq0 ri_da48, List.forall_mem_cons.mpr ⟨ri_dq0 ri_da49, List.forall_mem_cons.mpr ⟨ri_dq0 ri_da50, List.forall_mem_cons.mpr ⟨ri_dq0 ri_da51, List.forall_mem_cons.mpr ⟨ri_dq0 ri_da52, List.forall_mem_cons.mpr ⟨ri_dq0 ri_da53, List.forall_mem_cons.mpr ⟨ri_dq0 ri_da54, List.forall_mem_cons.mpr ⟨ri_dq0 ri_da55, List.forall_mem_cons.mpr ⟨ri_dq0 ri_da56, List.forall_mem_cons.mpr ⟨ri_dq0 ri_da57, List.forall_mem_cons.mpr ⟨ri_dq0 ri_da58, List.forall_mem_cons.mpr ⟨ri_dq0 ri_da59, List.forall_mem_cons.mpr ⟨ri_dq0 ri_da60, List.forall_mem_cons.mpr ⟨ri_dq0 ri_da61, List.forall_mem_cons.mpr ⟨ri_dq0 ri_da62, List.forall_mem_cons.mpr ⟨ri_dq0 ri_da63, fun _ h => absurd h List.not_mem_nil⟩⟩⟩⟩⟩⟩⟩⟩⟩⟩⟩⟩⟩⟩⟩⟩
def ri_ms4 : List ri_Row := [ri_r64, ri_r65, ri_r66, ri_r67, ri_r68, ri_r69, ri_r70, ri_r71, ri_r72, ri_r73, ri_r74, ri_r75, ri_r76, ri_r77, ri_r78, ri_r79]
theorem ri_dqs4 : ∀ r ∈ ri_ms4, ri_DQ r := List.forall_mem_cons.mpr ⟨ri_dq0 ri_da64, List.forall_mem_cons.mpr ⟨ri_dq0 ri_da65, List.forall_mem_cons.mpr ⟨ri_dq0 ri_da66, List.forall_mem_cons.mpr ⟨ri_dq0 ri_da67, List.forall_mem_cons.mpr ⟨ri_dq0 ri_da68, List.forall_mem_cons.mpr ⟨ri_dq0 ri_da69, List.forall_mem_cons.mpr ⟨ri_dq0 ri_da70, List.forall_mem_cons.mpr ⟨ri_dq0 ri_da71, List.forall_mem_cons.mpr ⟨ri_dq0 ri_da72, List.forall_mem_cons.mpr ⟨ri_dq0 ri_da73, List.forall_mem_cons.mpr ⟨ri_dq0 ri_da74, List.forall_mem_cons.mpr ⟨ri_dq0 ri_da75, List.forall_mem_cons.mpr ⟨ri_dq0 ri_da76, List.forall_mem_cons.mpr ⟨ri_dq0 ri_da77, List.forall_mem_cons.mpr ⟨ri_dq0 ri_da78, List.forall_mem_cons.mpr ⟨ri_dq0 ri_da79, fun _ h => absurd h List.not_mem_nil⟩⟩⟩⟩⟩⟩⟩⟩⟩⟩⟩⟩⟩⟩⟩⟩
def ri_ms5 : List ri_Row := [ri_r80, ri_r81, ri_r82, ri_r83, ri_r84, ri_r85, ri_r86, ri_r87, ri_r88, ri_r89, ri_r90, ri_r91, ri_r92, ri_r93, ri_r94, ri_r95]
theorem ri_dqs5 : ∀ r ∈ ri_ms5, ri_DQ r := List.forall_mem_cons.mpr ⟨ri_dq0 ri_da80, List.forall_mem_cons.mpr ⟨ri_dq0 ri_da81, List.forall_mem_cons.mpr ⟨ri_dq0 ri_da82, List.forall_mem_cons.mpr ⟨ri_dq0 ri_da83, List.forall_mem_cons.mpr ⟨ri_dq0 ri_da84, List.forall_mem_cons.mpr ⟨ri_dq0 ri_da85, List.forall_mem_cons.mpr ⟨ri_dq0 ri_da86, List.forall_mem_cons.mpr ⟨ri_dq0 ri_da87, List.forall_mem_cons.mpr ⟨ri_dq0 ri_da88, List.forall_mem_cons.mpr ⟨ri_dq0 ri_da89, List.forall_mem_cons.mpr ⟨ri_dq0 ri_da90, List.forall_mem_cons.mpr ⟨ri_dq0 ri_da91, List.forall_mem_cons.mpr ⟨ri_dq0 ri_da92, List.forall_mem_cons.mpr ⟨ri_dq0 ri_da93, List.forall_mem_cons.mpr ⟨ri_dq0 ri_da94, List.forall_mem_cons.mpr ⟨ri_dq0 ri_da95, fun _ h => absurd h List.not_mem_nil⟩⟩⟩⟩⟩⟩⟩⟩⟩⟩⟩⟩⟩⟩⟩⟩
def ri_ms6 : List ri_Row := [ri_r96, ri_r97, ri_r98, ri_r99, ri_r100, ri_r101, ri_r102, ri_r103, ri_r104, ri_r105, ri_r106, ri_r107, ri_r108, ri_r109, ri_r110, ri_r111]
theorem ri_dqs6 : ∀ r ∈ ri_ms6, ri_DQ r := List.forall_mem_cons.mpr ⟨ri_dq0 ri_da96, List.forall_mem_cons.mpr ⟨ri_dq0 ri_da97, List.forall_mem_cons.mpr ⟨ri_dq0 ri_da98, List.forall_mem_cons.mpr ⟨ri_dq0 ri_da99, List.forall_mem_cons.mpr ⟨ri_dq0 ri_da100, List.forall_mem_cons.mpr ⟨ri_dq0 ri_da101, List.forall_mem_cons.mpr ⟨ri_dq0 ri_da102, List.forall_mem_cons.mpr ⟨ri_dq0 ri_da103, List.forall_mem_cons.mpr ⟨ri_dq0 ri_da104, List.forall_mem_cons.mpr ⟨ri_dq0 ri_da105, List.forall_mem_cons.mpr ⟨ri_dq0 ri_da106, List.forall_mem_cons.mpr ⟨ri_dq0 ri_da107, List.forall_mem_cons.mpr ⟨ri_dq0 ri_da108, List.forall_mem_cons.mpr ⟨ri_dq0 ri_da109, List.forall_mem_cons.mpr ⟨ri_dq0 ri_da110, List.forall_mem_cons.mpr ⟨ri_dq0 ri_da111, fun _ h => absurd h List.not_mem_nil⟩⟩⟩⟩⟩⟩⟩⟩⟩⟩⟩⟩⟩⟩⟩⟩
def ri_ms7 : List ri_Row := [ri_r112, ri_r113, ri_r114, ri_r115, ri_r116, ri_r117, ri_r118, ri_r119, ri_r120, ri_r121, ri_r122, ri_r123, ri_r124]
theorem ri_dqs7 : ∀ r ∈ ri_ms7, ri_DQ r := List.forall_mem_cons.mpr ⟨ri_dq0 ri_da112, List.forall_mem_cons.mpr ⟨ri_dq0 ri_da113, List.forall_mem_cons.mpr ⟨ri_dq0 ri_da114, List.forall_mem_cons.mpr ⟨ri_dq0 ri_da115, List.forall_mem_cons.mpr ⟨ri_dq0 ri_da116, List.forall_mem_cons.mpr ⟨ri_dq0 ri_da117, List.forall_mem_cons.mpr ⟨ri_dq0 ri_da118, List.forall_mem_cons.mpr ⟨ri_dq0 ri_da119, List.forall_mem_cons.mpr ⟨ri_dq0 ri_da120, List.forall_mem_cons.mpr ⟨ri_dq0 ri_da121, List.forall_mem_cons.mpr ⟨ri_dq0 ri_da122, List.forall_mem_cons.mpr ⟨ri_dq0 ri_da123, List.forall_mem_cons.mpr ⟨ri_dqL, fun _ h => absurd h List.not_mem_nil⟩⟩⟩⟩⟩⟩⟩⟩⟩⟩⟩⟩⟩
set_option maxRecDepth 20000 in
theorem ri_ms_eq : ri_ms = ri_ms0 ++ (ri_ms1 ++ (ri_ms2 ++ (ri_ms3 ++ (ri_ms4 ++ (ri_ms5 ++ (ri_ms6 ++ (ri_ms7))))))) := rfl
theorem ri_dq (mi : Nat) : ri_DQ (ri_mt mi) := by
  refine ri_all (Q := ri_DQ) ?_ (fun pc i h1 _ => absurd h1 (Nat.not_lt_zero _)) mi
  rw [ri_ms_eq]
  exact List.forall_mem_append.mpr ⟨ri_dqs0, List.forall_mem_append.mpr ⟨ri_dqs1, List.forall_mem_append.mpr ⟨ri_dqs2, List.forall_mem_append.mpr ⟨ri_dqs3, List.forall_mem_append.mpr ⟨ri_dqs4, List.forall_mem_append.mpr ⟨ri_dqs5, List.forall_mem_append.mpr ⟨ri_dqs6, ri_dqs7⟩⟩⟩⟩⟩⟩⟩
theorem ri_at_ok {mi pc : Nat} {i : Instr} (h : ri_at mi pc = some i) : ∃ n, decode (ri_cc mi) pc = .ok (i, n) ∧ (ri_sw i = false → n = ri_len i) := by
  unfold ri_at at h
  cases hb : Nat.blt pc (ri_mt mi).2.2.2.2.2.2.2.2.2.2.2.2.2.1 with
  | false => rw [hb] at h; cases h
  | true =>
    rw [hb] at h
    have h1 := ri_dq mi pc i (Nat.le_of_ble_eq_true hb) h
    unfold ri_dec at h1
    split at h1
    · rename_i j n hd
      rw [Bool.and_eq_true, decide_eq_true_eq, Bool.or_eq_true] at h1
      obtain ⟨rfl, h2⟩ := h1
      refine ⟨n, hd, fun hs => ?_⟩
      rcases h2 with h2 | h2
      · rw [h2] at hs; cases hs
      · exact Nat.eq_of_beq_eq_true h2
    · cases h1
theorem ri_nm_on (mi : Nat) : (ri_nm mi).cls = ri_on (ri_oc mi) := by
  have h : (ri_ms.all fun r => decide (r.2.1.cls = ri_on r.1)) = true := by decide +kernel
  exact ri_all (Q := fun r => r.2.1.cls = ri_on r.1) (fun r hr => of_decide_eq_true (List.all_eq_true.mp h r hr)) rfl mi
theorem ri_pu_et {mi : Nat} (h : ri_pu mi = true) : ri_et mi = [] := by
  have h0 : (ri_ms.all fun r => !(r.2.2.2.2.2.2.2.2.2.2.2.2.1) || r.2.2.2.2.2.1.isEmpty) = true := by decide +kernel
  refine ri_all (Q := fun r => r.2.2.2.2.2.2.2.2.2.2.2.2.1 = true → r.2.2.2.2.2.1 = []) (fun r hr hp => ?_) (fun _ => rfl) mi h
  have h1 := List.all_eq_true.mp h0 r hr
  rw [hp] at h1
  exact List.isEmpty_iff.mp h1
/-- the words of a method's code -/
def ri_cw (km : Nat) : Prop := (ri_et km = [] ∧ Cond.code (ri_nm km) (ri_cc km) (ri_mL km) (ri_rt km) ∈ ri_TW) ∨ Cond.codeWith (ri_nm km) (ri_cc km) (ri_mL km) (ri_rt km) (ri_et km) ∈ ri_TW
def ri_MP (km : Nat) : Prop := ri_cw km ∧ plainFor (ri_nm km) = true ∧ ((ri_nm km).cls ≠ "java/lang/invoke/MethodHandle" ∧ (ri_nm km).cls ≠ "java/lang/invoke/VarHandle") ∧ (match ri_kd km with
  | 0 => Cond.static (ri_nm km) ∈ ri_TW ∧ Cond.initialized (ri_nm km).cls ∈ ri_TW ∧ (parseMethodDescriptor (ri_nm km).desc).map (fun d => d.parameters.length) = some (ri_ar km)
  | 1 => Cond.instanceMethod (ri_nm km) ∈ ri_TW ∧ Cond.selects (ri_nm km).cls (ri_nm km) (ri_nm km) ∈ ri_TW ∧ (parseMethodDescriptor (ri_nm km).desc).map (fun d => d.parameters.length + 1) = some (ri_ar km) ∧ ∃ ci C T N, ri_kl km = some ci ∧ ri_cls[ci]? = some (C, T, N) ∧ C = (ri_nm km).cls
  | _ => Cond.instanceMethod (ri_nm km) ∈ ri_TW ∧ Cond.code (ri_nm km) (ri_cc km) (ri_mL km) none ∈ ri_TW ∧ (ri_nm km).name = "<init>" ∧ (parseMethodDescriptor (ri_nm km).desc).map (fun d => d.parameters.length + 1) = some (ri_ar km) ∧ ∃ ci C T N, ri_kl km = some ci ∧ ri_cls[ci]? = some (C, T, N) ∧ C = (ri_nm km).cls)
theorem ri_mp0 : ri_MP 0 := ⟨Or.inl ⟨rfl, (ri_tw1 (i := 15) rfl rfl)⟩, by decide +kernel, ⟨by decide +kernel, by decide +kernel⟩, (ri_tw1 (i := 14) rfl rfl), (ri_tw1 (i := 15) rfl rfl), rfl, by decide +kernel, ⟨0, _, _, _, rfl, rfl, rfl⟩⟩
theorem ri_mp1 : ri_MP 1 := ⟨Or.inl ⟨rfl, (ri_tw1 (i := 90) rfl rfl)⟩, by decide +kernel, ⟨by decide +kernel, by decide +kernel⟩, (ri_tw1 (i := 88) rfl rfl), (ri_tw1 (i := 89) rfl rfl), by decide +kernel, ⟨0, _, _, _, rfl, rfl, rfl⟩⟩
theorem ri_mp2 : ri_MP 2 := ⟨Or.inl ⟨rfl, (ri_tw1 (i := 167) rfl rfl)⟩, by decide +kernel, ⟨by decide +kernel, by decide +kernel⟩, (ri_tw1 (i := 165) rfl rfl), (ri_tw1 (i := 166) rfl rfl), by decide +kernel, ⟨0, _, _, _, rfl, rfl, rfl⟩⟩
theorem ri_mp3 : ri_MP 3 := ⟨Or.inl ⟨rfl, (ri_tw1 (i := 206) rfl rfl)⟩, by decide +kernel, ⟨by decide +kernel, by decide +kernel⟩, (ri_tw1 (i := 204) rfl rfl), (ri_tw1 (i := 205) rfl rfl), by decide +kernel, ⟨0, _, _, _, rfl, rfl, rfl⟩⟩
theorem ri_mp4 : ri_MP 4 := ⟨Or.inl ⟨rfl, (ri_tw1 (i := 213) rfl rfl)⟩, by decide +kernel, ⟨by decide +kernel, by decide +kernel⟩, (ri_tw1 (i := 211) rfl rfl), (ri_tw1 (i := 212) rfl rfl), by decide +kernel, ⟨0, _, _, _, rfl, rfl, rfl⟩⟩
theorem ri_mp5 : ri_MP 5 := ⟨Or.inl ⟨rfl, (ri_tw1 (i := 232) rfl rfl)⟩, by decide +kernel, ⟨by decide +kernel, by decide +kernel⟩, (ri_tw1 (i := 230) rfl rfl), (ri_tw1 (i := 231) rfl rfl), by decide +kernel, ⟨0, _, _, _, rfl, rfl, rfl⟩⟩
theorem ri_mp6 : ri_MP 6 := ⟨Or.inl ⟨rfl, (ri_tw2 (i := 3) rfl rfl)⟩, by decide +kernel, ⟨by decide +kernel, by decide +kernel⟩, (ri_tw2 (i := 1) rfl rfl), (ri_tw2 (i := 2) rfl rfl), by decide +kernel, ⟨0, _, _, _, rfl, rfl, rfl⟩⟩
theorem ri_mp7 : ri_MP 7 := ⟨Or.inl ⟨rfl, (ri_tw2 (i := 10) rfl rfl)⟩, by decide +kernel, ⟨by decide +kernel, by decide +kernel⟩, (ri_tw2 (i := 8) rfl rfl), (ri_tw2 (i := 9) rfl rfl), by decide +kernel, ⟨0, _, _, _, rfl, rfl, rfl⟩⟩
theorem ri_mp8 : ri_MP 8 := ⟨Or.inl ⟨rfl, (ri_tw2 (i := 18) rfl rfl)⟩, by decide +kernel, ⟨by decide +kernel, by decide +kernel⟩, (ri_tw2 (i := 16) rfl rfl), (ri_tw2 (i := 17) rfl rfl), by decide +kernel, ⟨0, _, _, _, rfl, rfl, rfl⟩⟩
theorem ri_mp9 : ri_MP 9 := ⟨Or.inl ⟨rfl, (ri_tw2 (i := 25) rfl rfl)⟩, by decide +kernel, ⟨by decide +kernel, by decide +kernel⟩, (ri_tw2 (i := 23) rfl rfl), (ri_tw2 (i := 24) rfl rfl), by decide +kernel, ⟨0, _, _, _, rfl, rfl, rfl⟩⟩
theorem ri_mp10 : ri_MP 10 := ⟨Or.inl ⟨rfl, (ri_tw2 (i := 36) rfl rfl)⟩, by decide +kernel, ⟨by decide +kernel, by decide +kernel⟩, (ri_tw2 (i := 34) rfl rfl), (ri_tw2 (i := 35) rfl rfl), by decide +kernel, ⟨0, _, _, _, rfl, rfl, rfl⟩⟩
theorem ri_mp11 : ri_MP 11 := ⟨Or.inl ⟨rfl, (ri_tw2 (i := 44) rfl rfl)⟩, by decide +kernel, ⟨by decide +kernel, by decide +kernel⟩, (ri_tw2 (i := 42) rfl rfl), (ri_tw2 (i := 43) rfl rfl), by decide +kernel, ⟨0, _, _, _, rfl, rfl, rfl⟩⟩
theorem ri_mp12 : ri_MP 12 := ⟨Or.inl ⟨rfl, (ri_tw2 (i := 84) rfl rfl)⟩, by decide +kernel, ⟨by decide +kernel, by decide +kernel⟩, (ri_tw2 (i := 82) rfl rfl), (ri_tw2 (i := 83) rfl rfl), by decide +kernel, ⟨0, _, _, _, rfl, rfl, rfl⟩⟩
theorem ri_mp13 : ri_MP 13 := ⟨Or.inl ⟨rfl, (ri_tw2 (i := 91) rfl rfl)⟩, by decide +kernel, ⟨by decide +kernel, by decide +kernel⟩, (ri_tw2 (i := 89) rfl rfl), (ri_tw2 (i := 90) rfl rfl), by decide +kernel, ⟨0, _, _, _, rfl, rfl, rfl⟩⟩
theorem ri_mp14 : ri_MP 14 := ⟨Or.inl ⟨rfl, (ri_tw2 (i := 98) rfl rfl)⟩, by decide +kernel, ⟨by decide +kernel, by decide +kernel⟩, (ri_tw2 (i := 96) rfl rfl), (ri_tw2 (i := 97) rfl rfl), by decide +kernel, ⟨0, _, _, _, rfl, rfl, rfl⟩⟩
theorem ri_mp15 : ri_MP 15 := ⟨Or.inl ⟨rfl, (ri_tw2 (i := 105) rfl rfl)⟩, by decide +kernel, ⟨by decide +kernel, by decide +kernel⟩, (ri_tw2 (i := 103) rfl rfl), (ri_tw2 (i := 104) rfl rfl), by decide +kernel, ⟨0, _, _, _, rfl, rfl, rfl⟩⟩
theorem ri_mp16 : ri_MP 16 := ⟨Or.inl ⟨rfl, (ri_tw2 (i := 112) rfl rfl)⟩, by decide +kernel, ⟨by decide +kernel, by decide +kernel⟩, (ri_tw2 (i := 110) rfl rfl), (ri_tw2 (i := 111) rfl rfl), by decide +kernel, ⟨0, _, _, _, rfl, rfl, rfl⟩⟩
theorem ri_mp17 : ri_MP 17 := ⟨Or.inl ⟨rfl, (ri_tw2 (i := 119) rfl rfl)⟩, by decide +kernel, ⟨by decide +kernel, by decide +kernel⟩, (ri_tw2 (i := 117) rfl rfl), (ri_tw2 (i := 118) rfl rfl), by decide +kernel, ⟨0, _, _, _, rfl, rfl, rfl⟩⟩
theorem ri_mp18 : ri_MP 18 := ⟨Or.inl ⟨rfl, (ri_tw2 (i := 126) rfl rfl)⟩, by decide +kernel, ⟨by decide +kernel, by decide +kernel⟩, (ri_tw2 (i := 124) rfl rfl), (ri_tw2 (i := 125) rfl rfl), by decide +kernel, ⟨0, _, _, _, rfl, rfl, rfl⟩⟩
theorem ri_mp19 : ri_MP 19 := ⟨Or.inl ⟨rfl, (ri_tw2 (i := 137) rfl rfl)⟩, by decide +kernel, ⟨by decide +kernel, by decide +kernel⟩, (ri_tw2 (i := 135) rfl rfl), (ri_tw2 (i := 136) rfl rfl), by decide +kernel, ⟨0, _, _, _, rfl, rfl, rfl⟩⟩
theorem ri_mp20 : ri_MP 20 := ⟨Or.inl ⟨rfl, (ri_tw2 (i := 144) rfl rfl)⟩, by decide +kernel, ⟨by decide +kernel, by decide +kernel⟩, (ri_tw2 (i := 142) rfl rfl), (ri_tw2 (i := 143) rfl rfl), by decide +kernel, ⟨0, _, _, _, rfl, rfl, rfl⟩⟩
theorem ri_mp21 : ri_MP 21 := ⟨Or.inl ⟨rfl, (ri_tw2 (i := 151) rfl rfl)⟩, by decide +kernel, ⟨by decide +kernel, by decide +kernel⟩, (ri_tw2 (i := 149) rfl rfl), (ri_tw2 (i := 150) rfl rfl), by decide +kernel, ⟨0, _, _, _, rfl, rfl, rfl⟩⟩
theorem ri_mp22 : ri_MP 22 := ⟨Or.inl ⟨rfl, (ri_tw2 (i := 158) rfl rfl)⟩, by decide +kernel, ⟨by decide +kernel, by decide +kernel⟩, (ri_tw2 (i := 156) rfl rfl), (ri_tw2 (i := 157) rfl rfl), by decide +kernel, ⟨0, _, _, _, rfl, rfl, rfl⟩⟩
theorem ri_mp23 : ri_MP 23 := ⟨Or.inl ⟨rfl, (ri_tw2 (i := 165) rfl rfl)⟩, by decide +kernel, ⟨by decide +kernel, by decide +kernel⟩, (ri_tw2 (i := 163) rfl rfl), (ri_tw2 (i := 164) rfl rfl), by decide +kernel, ⟨0, _, _, _, rfl, rfl, rfl⟩⟩
theorem ri_mp24 : ri_MP 24 := ⟨Or.inl ⟨rfl, (ri_tw2 (i := 172) rfl rfl)⟩, by decide +kernel, ⟨by decide +kernel, by decide +kernel⟩, (ri_tw2 (i := 170) rfl rfl), (ri_tw2 (i := 171) rfl rfl), by decide +kernel, ⟨0, _, _, _, rfl, rfl, rfl⟩⟩
theorem ri_mp25 : ri_MP 25 := ⟨Or.inl ⟨rfl, (ri_tw1 (i := 69) rfl rfl)⟩, by decide +kernel, ⟨by decide +kernel, by decide +kernel⟩, (ri_tw1 (i := 67) rfl rfl), (ri_tw1 (i := 68) rfl rfl), by decide +kernel, ⟨0, _, _, _, rfl, rfl, rfl⟩⟩
theorem ri_mp26 : ri_MP 26 := ⟨Or.inl ⟨rfl, (ri_tw1 (i := 79) rfl rfl)⟩, by decide +kernel, ⟨by decide +kernel, by decide +kernel⟩, (ri_tw1 (i := 78) rfl rfl), (ri_tw1 (i := 1) rfl rfl), by decide +kernel⟩
theorem ri_mp27 : ri_MP 27 := ⟨Or.inl ⟨rfl, (ri_tw1 (i := 76) rfl rfl)⟩, by decide +kernel, ⟨by decide +kernel, by decide +kernel⟩, (ri_tw1 (i := 75) rfl rfl), (ri_tw1 (i := 1) rfl rfl), by decide +kernel⟩
theorem ri_mp28 : ri_MP 28 := ⟨Or.inl ⟨rfl, (ri_tw1 (i := 93) rfl rfl)⟩, by decide +kernel, ⟨by decide +kernel, by decide +kernel⟩, (ri_tw1 (i := 92) rfl rfl), (ri_tw1 (i := 1) rfl rfl), by decide +kernel⟩
theorem ri_mp29 : ri_MP 29 := ⟨Or.inl ⟨rfl, (ri_tw1 (i := 170) rfl rfl)⟩, by decide +kernel, ⟨by decide +kernel, by decide +kernel⟩, (ri_tw1 (i := 169) rfl rfl), (ri_tw1 (i := 1) rfl rfl), by decide +kernel⟩
theorem ri_mp30 : ri_MP 30 := ⟨Or.inl ⟨rfl, (ri_tw2 (i := 47) rfl rfl)⟩, by decide +kernel, ⟨by decide +kernel, by decide +kernel⟩, (ri_tw2 (i := 46) rfl rfl), (ri_tw1 (i := 1) rfl rfl), by decide +kernel⟩
theorem ri_mp31 : ri_MP 31 := ⟨Or.inl ⟨rfl, (ri_tw2 (i := 50) rfl rfl)⟩, by decide +kernel, ⟨by decide +kernel, by decide +kernel⟩, (ri_tw2 (i := 49) rfl rfl), (ri_tw1 (i := 1) rfl rfl), by decide +kernel⟩
theorem ri_mp32 : ri_MP 32 := ⟨Or.inl ⟨rfl, (ri_tw1 (i := 96) rfl rfl)⟩, by decide +kernel, ⟨by decide +kernel, by decide +kernel⟩, (ri_tw1 (i := 95) rfl rfl), (ri_tw1 (i := 1) rfl rfl), by decide +kernel⟩
theorem ri_mp33 : ri_MP 33 := ⟨Or.inl ⟨rfl, (ri_tw1 (i := 221) rfl rfl)⟩, by decide +kernel, ⟨by decide +kernel, by decide +kernel⟩, (ri_tw1 (i := 220) rfl rfl), (ri_tws (i := 5) rfl rfl), by decide +kernel, ⟨0, _, _, _, rfl, rfl, rfl⟩⟩
theorem ri_mp34 : ri_MP 34 := ⟨Or.inl ⟨rfl, (ri_tw2 (i := 130) rfl rfl)⟩, by decide +kernel, ⟨by decide +kernel, by decide +kernel⟩, (ri_tw2 (i := 129) rfl rfl), (ri_tws (i := 12) rfl rfl), by decide +kernel, ⟨0, _, _, _, rfl, rfl, rfl⟩⟩
theorem ri_mp35 : ri_MP 35 := ⟨Or.inl ⟨rfl, (ri_tw1 (i := 189) rfl rfl)⟩, by decide +kernel, ⟨by decide +kernel, by decide +kernel⟩, (ri_tw1 (i := 188) rfl rfl), (ri_tws (i := 2) rfl rfl), by decide +kernel, ⟨0, _, _, _, rfl, rfl, rfl⟩⟩
theorem ri_mp36 : ri_MP 36 := ⟨Or.inl ⟨rfl, (ri_tw1 (i := 73) rfl rfl)⟩, by decide +kernel, ⟨by decide +kernel, by decide +kernel⟩, (ri_tw1 (i := 72) rfl rfl), (ri_tws (i := 0) rfl rfl), by decide +kernel, ⟨0, _, _, _, rfl, rfl, rfl⟩⟩
theorem ri_mp37 : ri_MP 37 := ⟨Or.inl ⟨rfl, (ri_tw1 (i := 193) rfl rfl)⟩, by decide +kernel, ⟨by decide +kernel, by decide +kernel⟩, (ri_tw1 (i := 192) rfl rfl), (ri_tws (i := 3) rfl rfl), by decide +kernel, ⟨0, _, _, _, rfl, rfl, rfl⟩⟩
theorem ri_mp38 : ri_MP 38 := ⟨Or.inl ⟨rfl, (ri_tw1 (i := 217) rfl rfl)⟩, by decide +kernel, ⟨by decide +kernel, by decide +kernel⟩, (ri_tw1 (i := 216) rfl rfl), (ri_tws (i := 4) rfl rfl), by decide +kernel, ⟨0, _, _, _, rfl, rfl, rfl⟩⟩
theorem ri_mp39 : ri_MP 39 := ⟨Or.inl ⟨rfl, (ri_tw1 (i := 225) rfl rfl)⟩, by decide +kernel, ⟨by decide +kernel, by decide +kernel⟩, (ri_tw1 (i := 224) rfl rfl), (ri_tws (i := 6) rfl rfl), by decide +kernel, ⟨0, _, _, _, rfl, rfl, rfl⟩⟩
theorem ri_mp40 : ri_MP 40 := ⟨Or.inl ⟨rfl, (ri_tw1 (i := 236) rfl rfl)⟩, by decide +kernel, ⟨by decide +kernel, by decide +kernel⟩, (ri_tw1 (i := 235) rfl rfl), (ri_tws (i := 7) rfl rfl), by decide +kernel, ⟨0, _, _, _, rfl, rfl, rfl⟩⟩
theorem ri_mp41 : ri_MP 41 := ⟨Or.inl ⟨rfl, (ri_tw2 (i := 29) rfl rfl)⟩, by decide +kernel, ⟨by decide +kernel, by decide +kernel⟩, (ri_tw2 (i := 28) rfl rfl), (ri_tws (i := 8) rfl rfl), by decide +kernel, ⟨0, _, _, _, rfl, rfl, rfl⟩⟩
theorem ri_mp42 : ri_MP 42 := ⟨Or.inl ⟨rfl, (ri_tw2 (i := 69) rfl rfl)⟩, by decide +kernel, ⟨by decide +kernel, by decide +kernel⟩, (ri_tw2 (i := 68) rfl rfl), (ri_tws (i := 9) rfl rfl), by decide +kernel, ⟨0, _, _, _, rfl, rfl, rfl⟩⟩
theorem ri_mp43 : ri_MP 43 := ⟨Or.inl ⟨rfl, (ri_tw2 (i := 73) rfl rfl)⟩, by decide +kernel, ⟨by decide +kernel, by decide +kernel⟩, (ri_tw2 (i := 72) rfl rfl), (ri_tws (i := 10) rfl rfl), by decide +kernel, ⟨0, _, _, _, rfl, rfl, rfl⟩⟩
theorem ri_mp44 : ri_MP 44 := ⟨Or.inl ⟨rfl, (ri_tw2 (i := 77) rfl rfl)⟩, by decide +kernel, ⟨by decide +kernel, by decide +kernel⟩, (ri_tw2 (i := 76) rfl rfl), (ri_tws (i := 11) rfl rfl), by decide +kernel, ⟨0, _, _, _, rfl, rfl, rfl⟩⟩
theorem ri_mp45 : ri_MP 45 := ⟨Or.inl ⟨rfl, (ri_tw2 (i := 177) rfl rfl)⟩, by decide +kernel, ⟨by decide +kernel, by decide +kernel⟩, (ri_tw2 (i := 176) rfl rfl), (ri_tw2 (i := 177) rfl rfl), rfl, by decide +kernel, ⟨1, _, _, _, rfl, rfl, rfl⟩⟩
theorem ri_mp46 : ri_MP 46 := ⟨Or.inl ⟨rfl, (ri_tw2 (i := 230) rfl rfl)⟩, by decide +kernel, ⟨by decide +kernel, by decide +kernel⟩, (ri_tw2 (i := 228) rfl rfl), (ri_tw2 (i := 229) rfl rfl), by decide +kernel, ⟨1, _, _, _, rfl, rfl, rfl⟩⟩
theorem ri_mp47 : ri_MP 47 := ⟨Or.inl ⟨rfl, (ri_tw2 (i := 238) rfl rfl)⟩, by decide +kernel, ⟨by decide +kernel, by decide +kernel⟩, (ri_tw2 (i := 237) rfl rfl), (ri_tws (i := 14) rfl rfl), by decide +kernel, ⟨1, _, _, _, rfl, rfl, rfl⟩⟩
theorem ri_mp48 : ri_MP 48 := ⟨Or.inl ⟨rfl, (ri_tw3 (i := 6) rfl rfl)⟩, by decide +kernel, ⟨by decide +kernel, by decide +kernel⟩, (ri_tw3 (i := 5) rfl rfl), (ri_tws (i := 15) rfl rfl), by decide +kernel, ⟨1, _, _, _, rfl, rfl, rfl⟩⟩
theorem ri_mp49 : ri_MP 49 := ⟨Or.inl ⟨rfl, (ri_tw3 (i := 26) rfl rfl)⟩, by decide +kernel, ⟨by decide +kernel, by decide +kernel⟩, (ri_tw3 (i := 25) rfl rfl), (ri_tws (i := 18) rfl rfl), by decide +kernel, ⟨1, _, _, _, rfl, rfl, rfl⟩⟩
theorem ri_mp50 : ri_MP 50 := ⟨Or.inl ⟨rfl, (ri_tw3 (i := 135) rfl rfl)⟩, by decide +kernel, ⟨by decide +kernel, by decide +kernel⟩, (ri_tw3 (i := 134) rfl rfl), (ri_tws (i := 32) rfl rfl), by decide +kernel, ⟨1, _, _, _, rfl, rfl, rfl⟩⟩
theorem ri_mp51 : ri_MP 51 := ⟨Or.inl ⟨rfl, (ri_tw3 (i := 111) rfl rfl)⟩, by decide +kernel, ⟨by decide +kernel, by decide +kernel⟩, (ri_tw3 (i := 110) rfl rfl), (ri_tws (i := 29) rfl rfl), by decide +kernel, ⟨1, _, _, _, rfl, rfl, rfl⟩⟩
theorem ri_mp52 : ri_MP 52 := ⟨Or.inl ⟨rfl, (ri_tw3 (i := 61) rfl rfl)⟩, by decide +kernel, ⟨by decide +kernel, by decide +kernel⟩, (ri_tw3 (i := 60) rfl rfl), (ri_tw1 (i := 3) rfl rfl), by decide +kernel⟩
theorem ri_mp53 : ri_MP 53 := ⟨Or.inl ⟨rfl, (ri_tw3 (i := 92) rfl rfl)⟩, by decide +kernel, ⟨by decide +kernel, by decide +kernel⟩, (ri_tw3 (i := 91) rfl rfl), (ri_tw1 (i := 3) rfl rfl), by decide +kernel⟩
theorem ri_mp54 : ri_MP 54 := ⟨Or.inl ⟨rfl, (ri_tw3 (i := 89) rfl rfl)⟩, by decide +kernel, ⟨by decide +kernel, by decide +kernel⟩, (ri_tw3 (i := 88) rfl rfl), (ri_tws (i := 26) rfl rfl), by decide +kernel, ⟨1, _, _, _, rfl, rfl, rfl⟩⟩
theorem ri_mp55 : ri_MP 55 := ⟨Or.inl ⟨rfl, (ri_tw3 (i := 95) rfl rfl)⟩, by decide +kernel, ⟨by decide +kernel, by decide +kernel⟩, (ri_tw3 (i := 94) rfl rfl), (ri_tw1 (i := 3) rfl rfl), by decide +kernel⟩
theorem ri_mp56 : ri_MP 56 := ⟨Or.inl ⟨rfl, (ri_tw2 (i := 182) rfl rfl)⟩, by decide +kernel, ⟨by decide +kernel, by decide +kernel⟩, (ri_tw2 (i := 181) rfl rfl), (ri_tws (i := 13) rfl rfl), by decide +kernel, ⟨1, _, _, _, rfl, rfl, rfl⟩⟩
theorem ri_mp57 : ri_MP 57 := ⟨Or.inl ⟨rfl, (ri_tw3 (i := 14) rfl rfl)⟩, by decide +kernel, ⟨by decide +kernel, by decide +kernel⟩, (ri_tw3 (i := 13) rfl rfl), (ri_tws (i := 17) rfl rfl), by decide +kernel, ⟨1, _, _, _, rfl, rfl, rfl⟩⟩
theorem ri_mp58 : ri_MP 58 := ⟨Or.inl ⟨rfl, (ri_tw3 (i := 159) rfl rfl)⟩, by decide +kernel, ⟨by decide +kernel, by decide +kernel⟩, (ri_tw3 (i := 158) rfl rfl), (ri_tws (i := 35) rfl rfl), by decide +kernel, ⟨1, _, _, _, rfl, rfl, rfl⟩⟩
theorem ri_mp59 : ri_MP 59 := ⟨Or.inl ⟨rfl, (ri_tw3 (i := 46) rfl rfl)⟩, by decide +kernel, ⟨by decide +kernel, by decide +kernel⟩, (ri_tw3 (i := 45) rfl rfl), (ri_tws (i := 22) rfl rfl), by decide +kernel, ⟨1, _, _, _, rfl, rfl, rfl⟩⟩
theorem ri_mp60 : ri_MP 60 := ⟨Or.inl ⟨rfl, (ri_tw3 (i := 42) rfl rfl)⟩, by decide +kernel, ⟨by decide +kernel, by decide +kernel⟩, (ri_tw3 (i := 41) rfl rfl), (ri_tws (i := 21) rfl rfl), by decide +kernel, ⟨1, _, _, _, rfl, rfl, rfl⟩⟩
theorem ri_mp61 : ri_MP 61 := ⟨Or.inl ⟨rfl, (ri_tw3 (i := 38) rfl rfl)⟩, by decide +kernel, ⟨by decide +kernel, by decide +kernel⟩, (ri_tw3 (i := 37) rfl rfl), (ri_tws (i := 20) rfl rfl), by decide +kernel, ⟨1, _, _, _, rfl, rfl, rfl⟩⟩
theorem ri_mp62 : ri_MP 62 := ⟨Or.inl ⟨rfl, (ri_tw3 (i := 10) rfl rfl)⟩, by decide +kernel, ⟨by decide +kernel, by decide +kernel⟩, (ri_tw3 (i := 9) rfl rfl), (ri_tws (i := 16) rfl rfl), by decide +kernel, ⟨1, _, _, _, rfl, rfl, rfl⟩⟩
theorem ri_mp63 : ri_MP 63 := ⟨Or.inl ⟨rfl, (ri_tw2 (i := 234) rfl rfl)⟩, by decide +kernel, ⟨by decide +kernel, by decide +kernel⟩, (ri_tw2 (i := 232) rfl rfl), (ri_tw2 (i := 233) rfl rfl), by decide +kernel, ⟨1, _, _, _, rfl, rfl, rfl⟩⟩
theorem ri_mp64 : ri_MP 64 := ⟨Or.inl ⟨rfl, (ri_tw3 (i := 2) rfl rfl)⟩, by decide +kernel, ⟨by decide +kernel, by decide +kernel⟩, (ri_tw3 (i := 0) rfl rfl), (ri_tw3 (i := 1) rfl rfl), by decide +kernel, ⟨1, _, _, _, rfl, rfl, rfl⟩⟩
theorem ri_mp65 : ri_MP 65 := ⟨Or.inl ⟨rfl, (ri_tw3 (i := 18) rfl rfl)⟩, by decide +kernel, ⟨by decide +kernel, by decide +kernel⟩, (ri_tw3 (i := 16) rfl rfl), (ri_tw3 (i := 17) rfl rfl), by decide +kernel, ⟨1, _, _, _, rfl, rfl, rfl⟩⟩
theorem ri_mp66 : ri_MP 66 := ⟨Or.inl ⟨rfl, (ri_tw3 (i := 30) rfl rfl)⟩, by decide +kernel, ⟨by decide +kernel, by decide +kernel⟩, (ri_tw3 (i := 29) rfl rfl), (ri_tws (i := 19) rfl rfl), by decide +kernel, ⟨1, _, _, _, rfl, rfl, rfl⟩⟩
theorem ri_mp67 : ri_MP 67 := ⟨Or.inl ⟨rfl, (ri_tw3 (i := 22) rfl rfl)⟩, by decide +kernel, ⟨by decide +kernel, by decide +kernel⟩, (ri_tw3 (i := 20) rfl rfl), (ri_tw3 (i := 21) rfl rfl), by decide +kernel, ⟨1, _, _, _, rfl, rfl, rfl⟩⟩
theorem ri_mp68 : ri_MP 68 := ⟨Or.inl ⟨rfl, (ri_tw3 (i := 50) rfl rfl)⟩, by decide +kernel, ⟨by decide +kernel, by decide +kernel⟩, (ri_tw3 (i := 49) rfl rfl), (ri_tws (i := 23) rfl rfl), by decide +kernel, ⟨1, _, _, _, rfl, rfl, rfl⟩⟩
theorem ri_mp69 : ri_MP 69 := ⟨Or.inl ⟨rfl, (ri_tw3 (i := 34) rfl rfl)⟩, by decide +kernel, ⟨by decide +kernel, by decide +kernel⟩, (ri_tw3 (i := 32) rfl rfl), (ri_tw3 (i := 33) rfl rfl), by decide +kernel, ⟨1, _, _, _, rfl, rfl, rfl⟩⟩
theorem ri_mp70 : ri_MP 70 := ⟨Or.inl ⟨rfl, (ri_tw3 (i := 54) rfl rfl)⟩, by decide +kernel, ⟨by decide +kernel, by decide +kernel⟩, (ri_tw3 (i := 52) rfl rfl), (ri_tw3 (i := 53) rfl rfl), by decide +kernel, ⟨1, _, _, _, rfl, rfl, rfl⟩⟩
theorem ri_mp71 : ri_MP 71 := ⟨Or.inl ⟨rfl, (ri_tw3 (i := 65) rfl rfl)⟩, by decide +kernel, ⟨by decide +kernel, by decide +kernel⟩, (ri_tw3 (i := 64) rfl rfl), (ri_tws (i := 24) rfl rfl), by decide +kernel, ⟨1, _, _, _, rfl, rfl, rfl⟩⟩
theorem ri_mp72 : ri_MP 72 := ⟨Or.inl ⟨rfl, (ri_tw3 (i := 58) rfl rfl)⟩, by decide +kernel, ⟨by decide +kernel, by decide +kernel⟩, (ri_tw3 (i := 56) rfl rfl), (ri_tw3 (i := 57) rfl rfl), by decide +kernel, ⟨1, _, _, _, rfl, rfl, rfl⟩⟩
theorem ri_mp73 : ri_MP 73 := ⟨Or.inl ⟨rfl, (ri_tw3 (i := 69) rfl rfl)⟩, by decide +kernel, ⟨by decide +kernel, by decide +kernel⟩, (ri_tw3 (i := 67) rfl rfl), (ri_tw3 (i := 68) rfl rfl), by decide +kernel, ⟨1, _, _, _, rfl, rfl, rfl⟩⟩
theorem ri_mp74 : ri_MP 74 := ⟨Or.inl ⟨rfl, (ri_tw3 (i := 77) rfl rfl)⟩, by decide +kernel, ⟨by decide +kernel, by decide +kernel⟩, (ri_tw3 (i := 76) rfl rfl), (ri_tws (i := 25) rfl rfl), by decide +kernel, ⟨1, _, _, _, rfl, rfl, rfl⟩⟩
theorem ri_mp75 : ri_MP 75 := ⟨Or.inl ⟨rfl, (ri_tw3 (i := 73) rfl rfl)⟩, by decide +kernel, ⟨by decide +kernel, by decide +kernel⟩, (ri_tw3 (i := 71) rfl rfl), (ri_tw3 (i := 72) rfl rfl), by decide +kernel, ⟨1, _, _, _, rfl, rfl, rfl⟩⟩
theorem ri_mp76 : ri_MP 76 := ⟨Or.inl ⟨rfl, (ri_tw3 (i := 81) rfl rfl)⟩, by decide +kernel, ⟨by decide +kernel, by decide +kernel⟩, (ri_tw3 (i := 79) rfl rfl), (ri_tw3 (i := 80) rfl rfl), by decide +kernel, ⟨1, _, _, _, rfl, rfl, rfl⟩⟩
theorem ri_mp77 : ri_MP 77 := ⟨Or.inl ⟨rfl, (ri_tw3 (i := 115) rfl rfl)⟩, by decide +kernel, ⟨by decide +kernel, by decide +kernel⟩, (ri_tw3 (i := 114) rfl rfl), (ri_tws (i := 30) rfl rfl), by decide +kernel, ⟨1, _, _, _, rfl, rfl, rfl⟩⟩
theorem ri_mp78 : ri_MP 78 := ⟨Or.inl ⟨rfl, (ri_tw3 (i := 103) rfl rfl)⟩, by decide +kernel, ⟨by decide +kernel, by decide +kernel⟩, (ri_tw3 (i := 102) rfl rfl), (ri_tws (i := 28) rfl rfl), by decide +kernel, ⟨1, _, _, _, rfl, rfl, rfl⟩⟩
theorem ri_mp79 : ri_MP 79 := ⟨Or.inl ⟨rfl, (ri_tw3 (i := 99) rfl rfl)⟩, by decide +kernel, ⟨by decide +kernel, by decide +kernel⟩, (ri_tw3 (i := 98) rfl rfl), (ri_tws (i := 27) rfl rfl), by decide +kernel, ⟨1, _, _, _, rfl, rfl, rfl⟩⟩
theorem ri_mp80 : ri_MP 80 := ⟨Or.inl ⟨rfl, (ri_tw3 (i := 85) rfl rfl)⟩, by decide +kernel, ⟨by decide +kernel, by decide +kernel⟩, (ri_tw3 (i := 83) rfl rfl), (ri_tw3 (i := 84) rfl rfl), by decide +kernel, ⟨1, _, _, _, rfl, rfl, rfl⟩⟩
theorem ri_mp81 : ri_MP 81 := ⟨Or.inl ⟨rfl, (ri_tw3 (i := 107) rfl rfl)⟩, by decide +kernel, ⟨by decide +kernel, by decide +kernel⟩, (ri_tw3 (i := 105) rfl rfl), (ri_tw3 (i := 106) rfl rfl), by decide +kernel, ⟨1, _, _, _, rfl, rfl, rfl⟩⟩
theorem ri_mp82 : ri_MP 82 := ⟨Or.inl ⟨rfl, (ri_tw3 (i := 119) rfl rfl)⟩, by decide +kernel, ⟨by decide +kernel, by decide +kernel⟩, (ri_tw3 (i := 117) rfl rfl), (ri_tw3 (i := 118) rfl rfl), by decide +kernel, ⟨1, _, _, _, rfl, rfl, rfl⟩⟩
theorem ri_mp83 : ri_MP 83 := ⟨Or.inl ⟨rfl, (ri_tw3 (i := 139) rfl rfl)⟩, by decide +kernel, ⟨by decide +kernel, by decide +kernel⟩, (ri_tw3 (i := 138) rfl rfl), (ri_tws (i := 33) rfl rfl), by decide +kernel, ⟨1, _, _, _, rfl, rfl, rfl⟩⟩
theorem ri_mp84 : ri_MP 84 := ⟨Or.inl ⟨rfl, (ri_tw3 (i := 127) rfl rfl)⟩, by decide +kernel, ⟨by decide +kernel, by decide +kernel⟩, (ri_tw3 (i := 126) rfl rfl), (ri_tws (i := 31) rfl rfl), by decide +kernel, ⟨1, _, _, _, rfl, rfl, rfl⟩⟩
theorem ri_mp85 : ri_MP 85 := ⟨Or.inl ⟨rfl, (ri_tw3 (i := 123) rfl rfl)⟩, by decide +kernel, ⟨by decide +kernel, by decide +kernel⟩, (ri_tw3 (i := 121) rfl rfl), (ri_tw3 (i := 122) rfl rfl), by decide +kernel, ⟨1, _, _, _, rfl, rfl, rfl⟩⟩
theorem ri_mp86 : ri_MP 86 := ⟨Or.inl ⟨rfl, (ri_tw3 (i := 131) rfl rfl)⟩, by decide +kernel, ⟨by decide +kernel, by decide +kernel⟩, (ri_tw3 (i := 129) rfl rfl), (ri_tw3 (i := 130) rfl rfl), by decide +kernel, ⟨1, _, _, _, rfl, rfl, rfl⟩⟩
theorem ri_mp87 : ri_MP 87 := ⟨Or.inl ⟨rfl, (ri_tw3 (i := 147) rfl rfl)⟩, by decide +kernel, ⟨by decide +kernel, by decide +kernel⟩, (ri_tw3 (i := 146) rfl rfl), (ri_tws (i := 34) rfl rfl), by decide +kernel, ⟨1, _, _, _, rfl, rfl, rfl⟩⟩
theorem ri_mp88 : ri_MP 88 := ⟨Or.inl ⟨rfl, (ri_tw3 (i := 143) rfl rfl)⟩, by decide +kernel, ⟨by decide +kernel, by decide +kernel⟩, (ri_tw3 (i := 141) rfl rfl), (ri_tw3 (i := 142) rfl rfl), by decide +kernel, ⟨1, _, _, _, rfl, rfl, rfl⟩⟩
theorem ri_mp89 : ri_MP 89 := ⟨Or.inl ⟨rfl, (ri_tw3 (i := 151) rfl rfl)⟩, by decide +kernel, ⟨by decide +kernel, by decide +kernel⟩, (ri_tw3 (i := 149) rfl rfl), (ri_tw3 (i := 150) rfl rfl), by decide +kernel, ⟨1, _, _, _, rfl, rfl, rfl⟩⟩
theorem ri_mp90 : ri_MP 90 := ⟨Or.inl ⟨rfl, (ri_tw3 (i := 155) rfl rfl)⟩, by decide +kernel, ⟨by decide +kernel, by decide +kernel⟩, (ri_tw3 (i := 153) rfl rfl), (ri_tw3 (i := 154) rfl rfl), by decide +kernel, ⟨1, _, _, _, rfl, rfl, rfl⟩⟩
theorem ri_mp91 : ri_MP 91 := ⟨Or.inl ⟨rfl, (ri_tw3 (i := 163) rfl rfl)⟩, by decide +kernel, ⟨by decide +kernel, by decide +kernel⟩, (ri_tw3 (i := 161) rfl rfl), (ri_tw3 (i := 162) rfl rfl), by decide +kernel, ⟨1, _, _, _, rfl, rfl, rfl⟩⟩
theorem ri_mp92 : ri_MP 92 := ⟨Or.inl ⟨rfl, (ri_tw3 (i := 167) rfl rfl)⟩, by decide +kernel, ⟨by decide +kernel, by decide +kernel⟩, (ri_tw3 (i := 165) rfl rfl), (ri_tw3 (i := 166) rfl rfl), by decide +kernel, ⟨1, _, _, _, rfl, rfl, rfl⟩⟩
theorem ri_mp93 : ri_MP 93 := ⟨Or.inl ⟨rfl, (ri_tw3 (i := 171) rfl rfl)⟩, by decide +kernel, ⟨by decide +kernel, by decide +kernel⟩, (ri_tw3 (i := 169) rfl rfl), (ri_tw3 (i := 170) rfl rfl), by decide +kernel, ⟨1, _, _, _, rfl, rfl, rfl⟩⟩
theorem ri_mp94 : ri_MP 94 := ⟨Or.inl ⟨rfl, (ri_tw3 (i := 175) rfl rfl)⟩, by decide +kernel, ⟨by decide +kernel, by decide +kernel⟩, (ri_tw3 (i := 173) rfl rfl), (ri_tw3 (i := 174) rfl rfl), by decide +kernel, ⟨1, _, _, _, rfl, rfl, rfl⟩⟩
theorem ri_mp95 : ri_MP 95 := ⟨Or.inl ⟨rfl, (ri_tw3 (i := 179) rfl rfl)⟩, by decide +kernel, ⟨by decide +kernel, by decide +kernel⟩, (ri_tw3 (i := 177) rfl rfl), (ri_tw3 (i := 178) rfl rfl), by decide +kernel, ⟨1, _, _, _, rfl, rfl, rfl⟩⟩
theorem ri_mp96 : ri_MP 96 := ⟨Or.inl ⟨rfl, (ri_tw3 (i := 183) rfl rfl)⟩, by decide +kernel, ⟨by decide +kernel, by decide +kernel⟩, (ri_tw3 (i := 181) rfl rfl), (ri_tw3 (i := 182) rfl rfl), by decide +kernel, ⟨1, _, _, _, rfl, rfl, rfl⟩⟩
theorem ri_mp97 : ri_MP 97 := ⟨Or.inl ⟨rfl, (ri_tw3 (i := 187) rfl rfl)⟩, by decide +kernel, ⟨by decide +kernel, by decide +kernel⟩, (ri_tw3 (i := 185) rfl rfl), (ri_tw3 (i := 186) rfl rfl), by decide +kernel, ⟨1, _, _, _, rfl, rfl, rfl⟩⟩
theorem ri_mp98 : ri_MP 98 := ⟨Or.inl ⟨rfl, (ri_tw1 (i := 82) rfl rfl)⟩, by decide +kernel, ⟨by decide +kernel, by decide +kernel⟩, (ri_tw1 (i := 81) rfl rfl), (ri_tw1 (i := 0) rfl rfl), by decide +kernel⟩
theorem ri_mp99 : ri_MP 99 := ⟨Or.inr (ri_tw1 (i := 85) rfl rfl), by decide +kernel, ⟨by decide +kernel, by decide +kernel⟩, (ri_tw1 (i := 84) rfl rfl), (ri_tw1 (i := 0) rfl rfl), by decide +kernel⟩
theorem ri_mp100 : ri_MP 100 := ⟨Or.inr (ri_tw1 (i := 162) rfl rfl), by decide +kernel, ⟨by decide +kernel, by decide +kernel⟩, (ri_tw1 (i := 161) rfl rfl), (ri_tw1 (i := 0) rfl rfl), by decide +kernel⟩
theorem ri_mp101 : ri_MP 101 := ⟨Or.inr (ri_tw1 (i := 202) rfl rfl), by decide +kernel, ⟨by decide +kernel, by decide +kernel⟩, (ri_tw1 (i := 201) rfl rfl), (ri_tw1 (i := 0) rfl rfl), by decide +kernel⟩
theorem ri_mp102 : ri_MP 102 := ⟨Or.inr (ri_tw1 (i := 209) rfl rfl), by decide +kernel, ⟨by decide +kernel, by decide +kernel⟩, (ri_tw1 (i := 208) rfl rfl), (ri_tw1 (i := 0) rfl rfl), by decide +kernel⟩
theorem ri_mp103 : ri_MP 103 := ⟨Or.inr (ri_tw1 (i := 228) rfl rfl), by decide +kernel, ⟨by decide +kernel, by decide +kernel⟩, (ri_tw1 (i := 227) rfl rfl), (ri_tw1 (i := 0) rfl rfl), by decide +kernel⟩
theorem ri_mp104 : ri_MP 104 := ⟨Or.inr (ri_tw1 (i := 239) rfl rfl), by decide +kernel, ⟨by decide +kernel, by decide +kernel⟩, (ri_tw1 (i := 238) rfl rfl), (ri_tw1 (i := 0) rfl rfl), by decide +kernel⟩
theorem ri_mp105 : ri_MP 105 := ⟨Or.inr (ri_tw2 (i := 6) rfl rfl), by decide +kernel, ⟨by decide +kernel, by decide +kernel⟩, (ri_tw2 (i := 5) rfl rfl), (ri_tw1 (i := 0) rfl rfl), by decide +kernel⟩
theorem ri_mp106 : ri_MP 106 := ⟨Or.inr (ri_tw2 (i := 14) rfl rfl), by decide +kernel, ⟨by decide +kernel, by decide +kernel⟩, (ri_tw2 (i := 13) rfl rfl), (ri_tw1 (i := 0) rfl rfl), by decide +kernel⟩
theorem ri_mp107 : ri_MP 107 := ⟨Or.inr (ri_tw2 (i := 21) rfl rfl), by decide +kernel, ⟨by decide +kernel, by decide +kernel⟩, (ri_tw2 (i := 20) rfl rfl), (ri_tw1 (i := 0) rfl rfl), by decide +kernel⟩
theorem ri_mp108 : ri_MP 108 := ⟨Or.inr (ri_tw2 (i := 32) rfl rfl), by decide +kernel, ⟨by decide +kernel, by decide +kernel⟩, (ri_tw2 (i := 31) rfl rfl), (ri_tw1 (i := 0) rfl rfl), by decide +kernel⟩
theorem ri_mp109 : ri_MP 109 := ⟨Or.inr (ri_tw2 (i := 39) rfl rfl), by decide +kernel, ⟨by decide +kernel, by decide +kernel⟩, (ri_tw2 (i := 38) rfl rfl), (ri_tw1 (i := 0) rfl rfl), by decide +kernel⟩
theorem ri_mp110 : ri_MP 110 := ⟨Or.inr (ri_tw2 (i := 80) rfl rfl), by decide +kernel, ⟨by decide +kernel, by decide +kernel⟩, (ri_tw2 (i := 79) rfl rfl), (ri_tw1 (i := 0) rfl rfl), by decide +kernel⟩
theorem ri_mp111 : ri_MP 111 := ⟨Or.inr (ri_tw2 (i := 87) rfl rfl), by decide +kernel, ⟨by decide +kernel, by decide +kernel⟩, (ri_tw2 (i := 86) rfl rfl), (ri_tw1 (i := 0) rfl rfl), by decide +kernel⟩
theorem ri_mp112 : ri_MP 112 := ⟨Or.inr (ri_tw2 (i := 94) rfl rfl), by decide +kernel, ⟨by decide +kernel, by decide +kernel⟩, (ri_tw2 (i := 93) rfl rfl), (ri_tw1 (i := 0) rfl rfl), by decide +kernel⟩
theorem ri_mp113 : ri_MP 113 := ⟨Or.inr (ri_tw2 (i := 101) rfl rfl), by decide +kernel, ⟨by decide +kernel, by decide +kernel⟩, (ri_tw2 (i := 100) rfl rfl), (ri_tw1 (i := 0) rfl rfl), by decide +kernel⟩
theorem ri_mp114 : ri_MP 114 := ⟨Or.inr (ri_tw2 (i := 108) rfl rfl), by decide +kernel, ⟨by decide +kernel, by decide +kernel⟩, (ri_tw2 (i := 107) rfl rfl), (ri_tw1 (i := 0) rfl rfl), by decide +kernel⟩
theorem ri_mp115 : ri_MP 115 := ⟨Or.inr (ri_tw2 (i := 115) rfl rfl), by decide +kernel, ⟨by decide +kernel, by decide +kernel⟩, (ri_tw2 (i := 114) rfl rfl), (ri_tw1 (i := 0) rfl rfl), by decide +kernel⟩
theorem ri_mp116 : ri_MP 116 := ⟨Or.inr (ri_tw2 (i := 122) rfl rfl), by decide +kernel, ⟨by decide +kernel, by decide +kernel⟩, (ri_tw2 (i := 121) rfl rfl), (ri_tw1 (i := 0) rfl rfl), by decide +kernel⟩
theorem ri_mp117 : ri_MP 117 := ⟨Or.inr (ri_tw2 (i := 133) rfl rfl), by decide +kernel, ⟨by decide +kernel, by decide +kernel⟩, (ri_tw2 (i := 132) rfl rfl), (ri_tw1 (i := 0) rfl rfl), by decide +kernel⟩
theorem ri_mp118 : ri_MP 118 := ⟨Or.inr (ri_tw2 (i := 140) rfl rfl), by decide +kernel, ⟨by decide +kernel, by decide +kernel⟩, (ri_tw2 (i := 139) rfl rfl), (ri_tw1 (i := 0) rfl rfl), by decide +kernel⟩
theorem ri_mp119 : ri_MP 119 := ⟨Or.inr (ri_tw2 (i := 147) rfl rfl), by decide +kernel, ⟨by decide +kernel, by decide +kernel⟩, (ri_tw2 (i := 146) rfl rfl), (ri_tw1 (i := 0) rfl rfl), by decide +kernel⟩
theorem ri_mp120 : ri_MP 120 := ⟨Or.inr (ri_tw2 (i := 154) rfl rfl), by decide +kernel, ⟨by decide +kernel, by decide +kernel⟩, (ri_tw2 (i := 153) rfl rfl), (ri_tw1 (i := 0) rfl rfl), by decide +kernel⟩
theorem ri_mp121 : ri_MP 121 := ⟨Or.inr (ri_tw2 (i := 161) rfl rfl), by decide +kernel, ⟨by decide +kernel, by decide +kernel⟩, (ri_tw2 (i := 160) rfl rfl), (ri_tw1 (i := 0) rfl rfl), by decide +kernel⟩
theorem ri_mp122 : ri_MP 122 := ⟨Or.inr (ri_tw2 (i := 168) rfl rfl), by decide +kernel, ⟨by decide +kernel, by decide +kernel⟩, (ri_tw2 (i := 167) rfl rfl), (ri_tw1 (i := 0) rfl rfl), by decide +kernel⟩
theorem ri_mp123 : ri_MP 123 := ⟨Or.inl ⟨rfl, (ri_tw1 (i := 196) rfl rfl)⟩, by decide +kernel, ⟨by decide +kernel, by decide +kernel⟩, (ri_tw1 (i := 195) rfl rfl), (ri_tw1 (i := 9) rfl rfl), by decide +kernel⟩
