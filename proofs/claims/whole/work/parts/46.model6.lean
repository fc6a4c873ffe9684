/-! deleteUser, deleteRole -/
theorem mdMK {M : md_S} (m : Nat → Bool) (k : Nat → Int32) : mdM (mdK M k) m = mdK (mdM M m) k := rfl
def md_du1 (M : md_S) (u : Nat) : md_S := mdA M (ri_fo (fun i A => rb_u A (10 * u + i) false) 10 (mda M))
def md_duo (x : Int32) (s : Nat) (q : (Nat → Int32) × Int32) : (Nat → Int32) × Int32 := cond (decide (q.1 s = x)) (upd q.1 s (-1), q.2 + 1) q
def md_du2 (O : Nat → Int32) (x : Int32) : (Nat → Int32) × Int32 := ri_fo (md_duo x) 6 (O, 0)
def md_duN (M : md_S) (u : Nat) : md_S := md_du1 (mdU (mdT M 0) (rb_u (mdu M) u false)) u
def md_deleteUser (M : md_S) (ow : Nat → Nat) (x : Int32) (u : Nat) : Int32 × md_S :=
  cond (md_nu M x) (0, mdT M 1) ((md_du2 (mdo M) x).2, md_set (mdO (md_duN M u) (md_du2 (mdo M) x).1) ow)
def md_drA (M : md_S) (u : Nat) : md_S := mdA M (ri_fo (fun i A => rb_u A (10 * i + u) false) 6 (mda M))
def md_drG (M : md_S) (u : Nat) : md_S := mdG M (ri_fo (fun i G => rb_u G (16 * u + i) false) 16 (mdg M))
def md_drI (M : md_S) (u : Nat) : md_S := mdI M (ri_fo (fun i I => rb_u (rb_u I (10 * u + i) false) (10 * i + u) false) 10 (mdi M))
def md_sz (m : Nat → Bool) (i : Nat) : Int32 := md_cnt (fun j => m (10 * i + j)) 10
def md_drk (n : Nat → Int32) (u i : Nat) (q : (Nat → Bool) × (Nat → Int32) × Int32) : (Nat → Bool) × (Nat → Int32) × Int32 :=
  cond (!(decide (q.2.1 i < 0)) && !(decide (n i ≤ md_sz (rb_u q.1 (10 * i + u) false) i))) (rb_u q.1 (10 * i + u) false, upd q.2.1 i (-1), q.2.2 + 1) (rb_u q.1 (10 * i + u) false, q.2.1, q.2.2)
def md_drK (M : md_S) (u : Nat) : (Nat → Bool) × (Nat → Int32) × Int32 := ri_fo (md_drk (mdn M) u) 4 (mdm M, mdk M, 0)
def md_drN (M : md_S) (u : Nat) : md_S := md_drI (md_drG (md_drA (mdR (mdT M 0) (rb_u (mdr M) u false)) u) u) u
def md_drS (M : md_S) (q : (Nat → Bool) × (Nat → Int32) × Int32) : md_S := mdK (mdM M q.1) q.2.1
def md_deleteRole (M : md_S) (ow : Nat → Nat) (x : Int32) (u : Nat) : Int32 × md_S :=
  cond (md_nr M x) (0, mdT M 1) ((md_drK (md_drN M u) u).2.2, md_set (md_drS (md_drN M u) (md_drK (md_drN M u) u)) ow)
theorem md_du2_or (x : Int32) (O : Nat → Int32) (c : Int32) (n s : Nat) : (ri_fo (md_duo x) n (O, c)).1 s = O s ∨ (ri_fo (md_duo x) n (O, c)).1 s = -1 := by
  induction n with
  | zero => exact Or.inl rfl
  | succ n ih =>
    show (md_duo x n (ri_fo (md_duo x) n (O, c))).1 s = O s ∨ (md_duo x n (ri_fo (md_duo x) n (O, c))).1 s = -1
    generalize ri_fo (md_duo x) n (O, c) = q at ih
    unfold md_duo
    cases decide (q.1 n = x) with
    | false => exact ih
    | true =>
      show upd q.1 n (-1) s = O s ∨ upd q.1 n (-1) s = -1
      unfold upd
      by_cases h : s = n
      · right; simp [h]
      · simp only [h, if_false]; exact ih
section M46
variable {sl : Nat} {sx : Nat → Int32} {r : ri_W} {C : rd_S} {M N : md_S} {w : ri_W} {ow : Nat → Nat} {o : ri_O}
theorem rn_duA {u : Nat} (hu : u < 6) (k : ri_X sl sx 64 (31, [some (.ref 10), some (.int (nI u)), some (.int (nI 10)), none], [], rd_W C (md_W (md_du1 N u) r)) o) : ri_X sl sx 64 (31, [some (.ref 10), some (.int (nI u)), some (.int (nI 0)), none], [], rd_W C (md_W N r)) o := by
  refine ri_loop (fun i A => (31, [some (.ref 10), some (.int (nI u)), some (.int (nI i)), none], [], rd_W C (md_W (mdA N A) r))) (fun i A => rb_u A (10 * u + i) false) 10 ?_ (a := mda N) k
  intro i A o hi k
  repeat refine ri_X.s rfl rfl rfl ?_
  refine ri_X.bF rfl rfl (rx_ge (N := 10) (hi) rfl) ?_
  repeat refine ri_X.s rfl rfl rfl ?_
  refine ri_X.zstx (B := A) false (nJ_m10 u i) rfl rfl rfl (by omega) rfl ?_
  rw [md_WA, mdAA]
  repeat refine ri_X.sh 31 rfl rfl rfl rfl ?_
  exact ri_X.eq (by simp only [nI_succ]; try rfl) k
theorem rn_duB (x : Int32) {q : (Nat → Int32) × Int32} (hq : md_du2 (mdo N) x = q) (k : ri_X sl sx 64 (59, [some (.ref 10), some (.int x), some (.int q.2), some (.int (nI 6))], [], rd_W C (md_W (mdO N q.1) r)) o) : ri_X sl sx 64 (59, [some (.ref 10), some (.int x), some (.int 0), some (.int (nI 0))], [], rd_W C (md_W N r)) o := by
  subst hq
  refine ri_loop (fun i (q : (Nat → Int32) × Int32) => (59, [some (.ref 10), some (.int x), some (.int q.2), some (.int (nI i))], [], rd_W C (md_W (mdO N q.1) r))) (md_duo x) 6 ?_ (a := (mdo N, 0)) k
  clear k
  intro i q o hi k
  obtain ⟨O, n⟩ := q
  repeat refine ri_X.s rfl rfl rfl ?_
  refine ri_X.bF rfl rfl (rx_ge (N := 6) (hi) rfl) ?_
  repeat refine ri_X.s rfl rfl rfl ?_
  refine ri_X.ald (f := O) rfl rfl hi rfl ?_
  repeat refine ri_X.s rfl rfl rfl ?_
  refine ri_X.cne (x := O i) (y := x) rfl rfl (fun h => ?_) (fun h => ?_)
  · repeat refine ri_X.sh 59 rfl rfl rfl rfl ?_
    exact ri_X.eq (by simp only [md_duo, h, cond_false, nI_succ]; try rfl) k
  · repeat refine ri_X.s rfl rfl rfl ?_
    refine ri_X.ast (f := O) rfl rfl rfl hi rfl ?_
    rw [md_WO, mdOO]
    repeat refine ri_X.sh 59 rfl rfl rfl rfl ?_
    exact ri_X.eq (by simp only [md_duo, h, cond_true, nI_succ]; try rfl) k
theorem rn_deleteUser (ho : md_ok M ow) (x : Int32) : ri_M sl sx 64 [.ref 10, .int x] (rd_W C (md_W M r)) (md_oc r C (md_deleteUser M ow x x.toNatClampNeg)) := by
  unfold ri_M md_deleteUser
  repeat refine ri_X.s rfl rfl rfl ?_
  refine ri_X.call0 rfl rfl rfl rfl rfl (rn_noUser x) ?_
  refine ri_X.ifz rfl rfl (fun h1 => ?_) (fun h1 => ?_)
  · rw [h1]
    obtain ⟨u, hu, rfl⟩ := md_nuk h1
    rw [rx16 (by omega)]
    simp only [cond_false]
    repeat refine ri_X.s rfl rfl rfl ?_
    refine ri_X.call0 rfl rfl rfl rfl rfl rn_ref0 ?_
    refine ri_X.bT rfl rfl rfl ?_
    repeat refine ri_X.s rfl rfl rfl ?_
    refine ri_X.zst (B := mdu M) false rfl rfl rfl hu rfl ?_
    rw [md_WU]
    repeat refine ri_X.sh 31 rfl rfl rfl rfl ?_
    refine rn_duA hu ?_
    have e : md_du1 (mdU (mdT M 0) (rb_u (mdu M) u false)) u = md_duN M u := rfl
    rw [e]
    have eo : mdo M = mdo (md_duN M u) := rfl
    rw [eo]
    have ho : md_ok (md_duN M u) ow := ho
    generalize md_duN M u = N at ho ⊢
    repeat refine ri_X.s rfl rfl rfl ?_
    refine ri_X.bT rfl rfl (rx_geN (N := 10)) ?_
    repeat refine ri_X.sh 59 rfl rfl rfl rfl ?_
    have hd := fun s => md_du2_or (nI u) (mdo N) 0 6 s
    have ed : ri_fo (md_duo (nI u)) 6 (mdo N, 0) = md_du2 (mdo N) (nI u) := rfl
    rw [ed] at hd
    generalize hq : md_du2 (mdo N) (nI u) = q at hd ⊢
    refine rn_duB (nI u) hq ?_
    have ho2 : md_ok (mdO N q.1) ow := by
      intro s hs h
      have h : decide (q.1 s < 0) = false := h
      show q.1 s = nI (ow s) ∧ ow s < 6
      rcases hd s with e | e
      · rw [e] at h ⊢
        exact ho s hs h
      · rw [e] at h
        exact absurd h (by decide)
    generalize mdO N q.1 = N2 at ho2 ⊢
    repeat refine ri_X.s rfl rfl rfl ?_
    refine ri_X.bT rfl rfl (rx_geN (N := 6)) ?_
    repeat refine ri_X.s rfl rfl rfl ?_
    refine ri_X.call0 rfl rfl rfl rfl rfl (rn_settle (ow := ow) ho2) ?_
    generalize md_set N2 ow = N3
    repeat refine ri_X.s rfl rfl rfl ?_
    exact ri_X.fin rfl rfl
  · rw [h1]
    repeat refine ri_X.s rfl rfl rfl ?_
    refine ri_X.call0 rfl rfl rfl rfl rfl rn_ref1 ?_
    refine ri_X.bF rfl rfl rfl ?_
    repeat refine ri_X.s rfl rfl rfl ?_
    exact ri_X.fin rfl rfl
theorem rn_drA {u : Nat} (hu : u < 10) (k : ri_X sl sx 67 (31, [some (.ref 10), some (.int (nI u)), some (.int (nI 6)), none], [], rd_W C (md_W (md_drA N u) r)) o) : ri_X sl sx 67 (31, [some (.ref 10), some (.int (nI u)), some (.int (nI 0)), none], [], rd_W C (md_W N r)) o := by
  refine ri_loop (fun i A => (31, [some (.ref 10), some (.int (nI u)), some (.int (nI i)), none], [], rd_W C (md_W (mdA N A) r))) (fun i A => rb_u A (10 * i + u) false) 6 ?_ (a := mda N) k
  intro i A o hi k
  repeat refine ri_X.s rfl rfl rfl ?_
  refine ri_X.bF rfl rfl (rx_ge (N := 6) (hi) rfl) ?_
  repeat refine ri_X.s rfl rfl rfl ?_
  refine ri_X.zstx (B := A) false (nJ_m10 i u) rfl rfl rfl (by omega) rfl ?_
  rw [md_WA, mdAA]
  repeat refine ri_X.sh 31 rfl rfl rfl rfl ?_
  exact ri_X.eq (by simp only [nI_succ]; try rfl) k
theorem rn_drG {u : Nat} (hu : u < 10) (k : ri_X sl sx 67 (57, [some (.ref 10), some (.int (nI u)), some (.int (nI 16)), none], [], rd_W C (md_W (md_drG N u) r)) o) : ri_X sl sx 67 (57, [some (.ref 10), some (.int (nI u)), some (.int (nI 0)), none], [], rd_W C (md_W N r)) o := by
  refine ri_loop (fun i A => (57, [some (.ref 10), some (.int (nI u)), some (.int (nI i)), none], [], rd_W C (md_W (mdG N A) r))) (fun i A => rb_u A (16 * u + i) false) 16 ?_ (a := mdg N) k
  intro i A o hi k
  repeat refine ri_X.s rfl rfl rfl ?_
  refine ri_X.bF rfl rfl (rx_ge (N := 16) (hi) rfl) ?_
  repeat refine ri_X.s rfl rfl rfl ?_
  refine ri_X.zstx (B := A) false (nJ_m16 u i) rfl rfl rfl (by omega) rfl ?_
  rw [md_WG, mdGG]
  repeat refine ri_X.sh 57 rfl rfl rfl rfl ?_
  exact ri_X.eq (by simp only [nI_succ]; try rfl) k
theorem rn_drI {u : Nat} (hu : u < 10) (k : ri_X sl sx 67 (83, [some (.ref 10), some (.int (nI u)), some (.int (nI 10)), none], [], rd_W C (md_W (md_drI N u) r)) o) : ri_X sl sx 67 (83, [some (.ref 10), some (.int (nI u)), some (.int (nI 0)), none], [], rd_W C (md_W N r)) o := by
  refine ri_loop (fun i A => (83, [some (.ref 10), some (.int (nI u)), some (.int (nI i)), none], [], rd_W C (md_W (mdI N A) r))) (fun i A => rb_u (rb_u A (10 * u + i) false) (10 * i + u) false) 10 ?_ (a := mdi N) k
  intro i A o hi k
  repeat refine ri_X.s rfl rfl rfl ?_
  refine ri_X.bF rfl rfl (rx_ge (N := 10) (hi) rfl) ?_
  repeat refine ri_X.s rfl rfl rfl ?_
  refine ri_X.zstx (B := A) false (nJ_m10 u i) rfl rfl rfl (by omega) rfl ?_
  rw [md_WI, mdII]
  repeat refine ri_X.s rfl rfl rfl ?_
  refine ri_X.zstx (B := rb_u A (10 * u + i) false) false (nJ_m10 i u) rfl rfl rfl (by omega) rfl ?_
  rw [md_WI, mdII]
  repeat refine ri_X.sh 83 rfl rfl rfl rfl ?_
  exact ri_X.eq (by simp only [nI_succ]; try rfl) k
theorem rn_drK {u : Nat} (hu : u < 10) {q : (Nat → Bool) × (Nat → Int32) × Int32} (hq : md_drK N u = q) (k : ri_X sl sx 67 (123, [some (.ref 10), some (.int (nI u)), some (.int q.2.2), some (.int (nI 4))], [], rd_W C (md_W (md_drS N q) r)) o) : ri_X sl sx 67 (123, [some (.ref 10), some (.int (nI u)), some (.int 0), some (.int (nI 0))], [], rd_W C (md_W N r)) o := by
  subst hq
  refine ri_loop (fun i (q : (Nat → Bool) × (Nat → Int32) × Int32) => (123, [some (.ref 10), some (.int (nI u)), some (.int q.2.2), some (.int (nI i))], [], rd_W C (md_W (mdK (mdM N q.1) q.2.1) r))) (md_drk (mdn N) u) 4 ?_ (a := (mdm N, mdk N, 0)) k
  clear k
  intro i q o hi k
  obtain ⟨m, kk, n⟩ := q
  unfold md_drk at k
  dsimp only at k ⊢
  repeat refine ri_X.s rfl rfl rfl ?_
  refine ri_X.bF rfl rfl (rx_ge (N := 4) (hi) rfl) ?_
  repeat refine ri_X.s rfl rfl rfl ?_
  refine ri_X.zstx (B := m) false (nJ_m10 i u) rfl rfl rfl (by omega) rfl ?_
  rw [md_WM, mdMK, mdMM]
  generalize rb_u m (10 * i + u) false = m2 at k ⊢
  repeat refine ri_X.s rfl rfl rfl ?_
  refine ri_X.ald (f := kk) rfl rfl hi rfl ?_
  refine ri_X.br (b := decide (kk i < 0)) rfl rfl (fun h => ?_) (fun h => ?_)
  · simp only [h, Bool.not_true, Bool.false_and, cond_false] at k
    repeat refine ri_X.sh 123 rfl rfl rfl rfl ?_
    exact ri_X.eq (by simp only [nI_succ]; try rfl) k
  · have hs := rn_sizeOf (sl := sl) (sx := sx) (r := r) (C := C) (M := mdK (mdM N m2) kk) hi
    have e : md_cnt (fun j => mdm (mdK (mdM N m2) kk) (10 * i + j)) 10 = md_sz m2 i := rfl
    rw [e] at hs
    generalize md_sz m2 i = c at hs k
    repeat refine ri_X.s rfl rfl rfl ?_
    refine ri_X.call0 rfl rfl rfl rfl rfl (hs) ?_
    repeat refine ri_X.s rfl rfl rfl ?_
    refine ri_X.ald (f := mdn N) rfl rfl hi rfl ?_
    refine ri_X.br (b := decide (mdn N i ≤ c)) rfl rfl (fun h2 => ?_) (fun h2 => ?_)
    · simp only [h, h2, Bool.not_true, Bool.and_false, cond_false] at k
      repeat refine ri_X.sh 123 rfl rfl rfl rfl ?_
      exact ri_X.eq (by simp only [nI_succ]; try rfl) k
    · simp only [h, h2, Bool.not_false, Bool.and_true, cond_true] at k
      repeat refine ri_X.s rfl rfl rfl ?_
      refine ri_X.ast (f := kk) rfl rfl rfl hi rfl ?_
      rw [md_WK, mdKK]
      repeat refine ri_X.sh 123 rfl rfl rfl rfl ?_
      exact ri_X.eq (by simp only [nI_succ]; try rfl) k
theorem md_ok_drN {u : Nat} (ho : md_ok M ow) (q : (Nat → Bool) × (Nat → Int32) × Int32) : md_ok (md_drS (md_drN M u) q) ow := ho
theorem rn_deleteRole (ho : md_ok M ow) (x : Int32) : ri_M sl sx 67 [.ref 10, .int x] (rd_W C (md_W M r)) (md_oc r C (md_deleteRole M ow x x.toNatClampNeg)) := by
  unfold ri_M md_deleteRole
  repeat refine ri_X.s rfl rfl rfl ?_
  refine ri_X.call0 rfl rfl rfl rfl rfl (rn_noRole x) ?_
  refine ri_X.ifz rfl rfl (fun h1 => ?_) (fun h1 => ?_)
  · rw [h1]
    obtain ⟨u, hu, rfl⟩ := md_nrk h1
    rw [rx16 (by omega)]
    simp only [cond_false]
    repeat refine ri_X.s rfl rfl rfl ?_
    refine ri_X.call0 rfl rfl rfl rfl rfl rn_ref0 ?_
    refine ri_X.bT rfl rfl rfl ?_
    repeat refine ri_X.s rfl rfl rfl ?_
    refine ri_X.zst (B := mdr M) false rfl rfl rfl hu rfl ?_
    rw [md_WR]
    have ho := fun q => md_ok_drN (u := u) ho q
    unfold md_drN at ho ⊢
    generalize mdR (mdT M 0) (rb_u (mdr M) u false) = N0 at ho ⊢
    repeat refine ri_X.sh 31 rfl rfl rfl rfl ?_
    refine rn_drA hu ?_
    generalize md_drA N0 u = N1 at ho ⊢
    repeat refine ri_X.s rfl rfl rfl ?_
    refine ri_X.bT rfl rfl (rx_geN (N := 6)) ?_
    repeat refine ri_X.sh 57 rfl rfl rfl rfl ?_
    refine rn_drG hu ?_
    generalize md_drG N1 u = N2 at ho ⊢
    repeat refine ri_X.s rfl rfl rfl ?_
    refine ri_X.bT rfl rfl (rx_geN (N := 16)) ?_
    repeat refine ri_X.sh 83 rfl rfl rfl rfl ?_
    refine rn_drI hu ?_
    generalize md_drI N2 u = N3 at ho ⊢
    repeat refine ri_X.s rfl rfl rfl ?_
    refine ri_X.bT rfl rfl (rx_geN (N := 10)) ?_
    repeat refine ri_X.sh 123 rfl rfl rfl rfl ?_
    generalize hq : md_drK N3 u = q
    refine rn_drK hu hq ?_
    have ho := ho q
    generalize md_drS N3 q = N4 at ho ⊢
    repeat refine ri_X.s rfl rfl rfl ?_
    refine ri_X.bT rfl rfl (rx_geN (N := 4)) ?_
    repeat refine ri_X.s rfl rfl rfl ?_
    refine ri_X.call0 rfl rfl rfl rfl rfl (rn_settle (ow := ow) ho) ?_
    generalize md_set N4 ow = N5
    repeat refine ri_X.s rfl rfl rfl ?_
    exact ri_X.fin rfl rfl
  · rw [h1]
    repeat refine ri_X.s rfl rfl rfl ?_
    refine ri_X.call0 rfl rfl rfl rfl rfl rn_ref1 ?_
    refine ri_X.bF rfl rfl rfl ?_
    repeat refine ri_X.s rfl rfl rfl ?_
    exact ri_X.fin rfl rfl
end M46
