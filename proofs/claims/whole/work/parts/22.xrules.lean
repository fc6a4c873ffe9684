/-! Rules for walking a run by hand -/
def rb_i (b : Bool) : Int32 := cond b 1 0
def rb_u (B : Nat → Bool) (k : Nat) (b : Bool) : Nat → Bool := fun j => if j = k then b else B j
theorem rb_i_upd (B : Nat → Bool) (k : Nat) (b : Bool) : upd (fun j => rb_i (B j)) k (rb_i b) = fun j => rb_i (rb_u B k b j) := by
  funext j
  unfold upd rb_u
  by_cases h : j = k <;> simp [h]
theorem rb_i_nar (b : Bool) : vp_nar .boolean (rb_i b) = rb_i b := by
  cases b <;> decide +kernel
theorem rb_i_eq0 (b : Bool) : decide (rb_i b = 0) = !b := by
  cases b <;> decide +kernel
theorem rb_i_01 (b : Bool) : (decide (rb_i b = 0) || decide (rb_i b = 1)) = true := by
  cases b <;> decide +kernel
theorem rx_in {k n : Nat} (h : k < n) (hn : Nat.blt n 2147483648 = true) : ri_in32 (nI k) n = true := by
  have hn := Nat.le_of_ble_eq_true hn
  unfold ri_in32
  rw [nI_clamp (by omega), decide_eq_false (nI_pos (by omega))]
  show Nat.blt k n = true
  exact Nat.ble_eq.mpr h
theorem rx_cl {k n : Nat} (h : k < n) (hn : Nat.blt n 2147483648 = true) : (nI k).toNatClampNeg = k := by
  have hn := Nat.le_of_ble_eq_true hn
  exact nI_clamp (by omega)
def ri_br (i : Instr) : Bool := match i with
  | .ifCond _ _ => true
  | .if_icmp _ _ => true
  | .tableswitch _ _ _ _ => true
  | _ => false
section RX
variable {sl : Nat} {sx : Nat → Int32} {mi : Nat} {st st1 : ri_St} {o : ri_O} {i : Instr} {pc : Nat} {L : List (Option Value)} {S r : List Value} {w : ri_W}
theorem ri_X.eq (h : st1 = st) (k : ri_X sl sx mi st1 o) : ri_X sl sx mi st o := h ▸ k
theorem ri_X.eqo {o1 : ri_O} (h : o1 = o) (k : ri_X sl sx mi st o1) : ri_X sl sx mi st o := h ▸ k
theorem ri_X.s (ha : ri_at mi pc = some i) (_hb : ri_br i = false) (h : ri_op sl sx mi i pc L S w = some st1) (k : ri_X sl sx mi st1 o) : ri_X sl sx mi (pc, L, S, w) o := ri_X.op ha h k
theorem ri_X.bT {b : Bool} {t e : Nat} {S1 : List Value} (ha : ri_at mi pc = some i) (h : ri_op sl sx mi i pc L S w = some (cond b t e, L, S1, w)) (hb : b = true) (k : ri_X sl sx mi (t, L, S1, w) o) : ri_X sl sx mi (pc, L, S, w) o := by
  subst hb
  exact ri_X.op ha h k
theorem ri_X.bF {b : Bool} {t e : Nat} {S1 : List Value} (ha : ri_at mi pc = some i) (h : ri_op sl sx mi i pc L S w = some (cond b t e, L, S1, w)) (hb : b = false) (k : ri_X sl sx mi (e, L, S1, w) o) : ri_X sl sx mi (pc, L, S, w) o := by
  subst hb
  exact ri_X.op ha h k
theorem ri_X.ifz {b : Bool} {off : Int} (ha : ri_at mi pc = some (.ifCond .eq off)) (h0 : decide (0 ≤ (pc : Int) + off) = true) (kf : b = false → ri_X sl sx mi (ri_tgt pc off, L, r, w) o) (kt : b = true → ri_X sl sx mi (pc + 3, L, r, w) o) : ri_X sl sx mi (pc, L, .int (rb_i b) :: r, w) o := by
  refine ri_X.br (b := !b) (t := ri_tgt pc off) (e := pc + 3) (S1 := r) ha ?_ (fun h => kf (by simpa using h)) (fun h => kt (by simpa using h))
  show (bif decide (0 ≤ (pc : Int) + off) then some (cond (decide (rb_i b = 0)) (ri_tgt pc off) (pc + 3), L, r, w) else none) = _
  rw [h0, rb_i_eq0]
  rfl
theorem ri_X.ifn {b : Bool} {off : Int} (ha : ri_at mi pc = some (.ifCond .ne off)) (h0 : decide (0 ≤ (pc : Int) + off) = true) (kt : b = true → ri_X sl sx mi (ri_tgt pc off, L, r, w) o) (kf : b = false → ri_X sl sx mi (pc + 3, L, r, w) o) : ri_X sl sx mi (pc, L, .int (rb_i b) :: r, w) o := by
  refine ri_X.br (b := b) (t := ri_tgt pc off) (e := pc + 3) (S1 := r) ha ?_ kt kf
  show (bif decide (0 ≤ (pc : Int) + off) then some (cond (decide (¬ rb_i b = 0)) (ri_tgt pc off) (pc + 3), L, r, w) else none) = _
  rw [h0, decide_not, rb_i_eq0, Bool.not_not]
  rfl
theorem ri_X.finB {b : Bool} (ha : ri_at mi pc = some .ireturn) (hr : ri_rt mi = some .boolean) : ri_X sl sx mi (pc, L, [.int (rb_i b)], w) (.inl (some (rb_i b)), w, 0, 0) := by
  refine ri_X.fin ha ?_
  dsimp only [ri_end]
  rw [hr]
  dsimp only
  rw [rb_i_01]
  rfl
theorem ri_X.ald {a n k : Nat} {f : Nat → Int32} (ha : ri_at mi pc = some .iaload) (hw : w[a]? = some (.inl (0, n, .inl f))) (hk : k < n) (hn : Nat.blt n 2147483648 = true) (kk : ri_X sl sx mi (pc + 1, L, .int (f k) :: r, w) o) : ri_X sl sx mi (pc, L, .int (nI k) :: .ref (a + 1) :: r, w) o := by
  refine ri_X.op ha ?_ kk
  dsimp only [ri_op, ri_iald]
  rw [hw]
  show (bif ri_in32 (nI k) n then some (pc + 1, L, Value.int (f (nI k).toNatClampNeg) :: r, w) else none) = _
  rw [rx_in hk hn, rx_cl hk hn]
  rfl
theorem ri_X.ast {a n k : Nat} {f : Nat → Int32} {x : Int32} (ha : ri_at mi pc = some .iastore) (hp : ri_pu mi = false) (hw : w[a]? = some (.inl (0, n, .inl f))) (hk : k < n) (hn : Nat.blt n 2147483648 = true) (kk : ri_X sl sx mi (pc + 1, L, r, w.set a (.inl (0, n, .inl (upd f k x)))) o) : ri_X sl sx mi (pc, L, .int x :: .int (nI k) :: .ref (a + 1) :: r, w) o := by
  refine ri_X.op ha ?_ kk
  dsimp only [ri_op, ri_iast]
  rw [hp, hw]
  show (bif ri_in32 (nI k) n then some (pc + 1, L, r, w.set a (.inl (0, n, .inl (upd f (nI k).toNatClampNeg x)))) else none) = _
  rw [rx_in hk hn, rx_cl hk hn]
  rfl
theorem ri_X.zld {a n k : Nat} {B : Nat → Bool} (ha : ri_at mi pc = some .baload) (hw : w[a]? = some (.inl (2, n, .inl (fun j => rb_i (B j))))) (hk : k < n) (hn : Nat.blt n 2147483648 = true) (kk : ri_X sl sx mi (pc + 1, L, .int (rb_i (B k)) :: r, w) o) : ri_X sl sx mi (pc, L, .int (nI k) :: .ref (a + 1) :: r, w) o := by
  refine ri_X.op ha ?_ kk
  dsimp only [ri_op, ri_zald]
  rw [hw]
  show (bif ri_in32 (nI k) n then some (pc + 1, L, Value.int (rb_i (B (nI k).toNatClampNeg)) :: r, w) else none) = _
  rw [rx_in hk hn, rx_cl hk hn]
  rfl
theorem ri_X.zst {a n k : Nat} {B : Nat → Bool} (b : Bool) (ha : ri_at mi pc = some .bastore) (hp : ri_pu mi = false) (hw : w[a]? = some (.inl (2, n, .inl (fun j => rb_i (B j))))) (hk : k < n) (hn : Nat.blt n 2147483648 = true) (kk : ri_X sl sx mi (pc + 1, L, r, w.set a (.inl (2, n, .inl (fun j => rb_i (rb_u B k b j))))) o) : ri_X sl sx mi (pc, L, .int (rb_i b) :: .int (nI k) :: .ref (a + 1) :: r, w) o := by
  refine ri_X.op ha ?_ kk
  dsimp only [ri_op, ri_zast]
  rw [hp, hw]
  show (bif ri_in32 (nI k) n then some (pc + 1, L, r, w.set a (.inl (2, n, .inl (upd (fun j => rb_i (B j)) (nI k).toNatClampNeg (vp_nar .boolean (rb_i b)))))) else none) = _
  rw [rx_in hk hn, rx_cl hk hn, rb_i_nar, rb_i_upd]
  rfl
theorem ri_X.sld {k : Nat} (ha : ri_at mi pc = some .iaload) (hk : k < sl) (hn : sl < 2147483648) (kk : ri_X sl sx mi (pc + 1, L, .int (sx k) :: r, w) o) : ri_X sl sx mi (pc, L, .int (nI k) :: .ref 0 :: r, w) o := by
  refine ri_X.op ha ?_ kk
  dsimp only [ri_op, ri_iald]
  rw [rx_in hk (Nat.ble_eq.mpr hn), rx_cl hk (Nat.ble_eq.mpr hn)]
  rfl
/-- a fold over the numbers below n -/
def ri_fo {α : Type} (g : Nat → α → α) : Nat → α → α
  | 0, a => a
  | n + 1, a => g n (ri_fo g n a)
theorem ri_loop {α : Type} (st : Nat → α → ri_St) (g : Nat → α → α) (N : Nat) (hstep : ∀ i a o, i < N → ri_X sl sx mi (st (i + 1) (g i a)) o → ri_X sl sx mi (st i a) o) {a : α} {o : ri_O} (k : ri_X sl sx mi (st N (ri_fo g N a)) o) : ri_X sl sx mi (st 0 a) o := by
  have : ∀ n, n ≤ N → ri_X sl sx mi (st n (ri_fo g n a)) o → ri_X sl sx mi (st 0 a) o := by
    intro n
    induction n with
    | zero => intro _ h; exact h
    | succ n ih => intro hn h; exact ih (by omega) (hstep n _ o (by omega) h)
  exact this N (Nat.le_refl _) k
def ri_ex (Q : Nat → Bool) : Nat → Bool
  | 0 => false
  | n + 1 => ri_ex Q n || Q n
theorem ri_ex_true {Q : Nat → Bool} : ∀ {n : Nat}, ri_ex Q n = true → ∃ i, i < n ∧ Q i = true ∧ ∀ j, j < i → Q j = false := by
  intro n
  induction n with
  | zero => intro h; cases h
  | succ n ih =>
    intro h
    cases he : ri_ex Q n with
    | true =>
      obtain ⟨i, h1, h2, h3⟩ := ih he
      exact ⟨i, by omega, h2, h3⟩
    | false =>
      have hq : Q n = true := by
        have h : (ri_ex Q n || Q n) = true := h
        rw [he] at h
        exact h
      refine ⟨n, by omega, hq, fun j hj => ?_⟩
      have : ∀ m, ri_ex Q m = false → ∀ j, j < m → Q j = false := by
        intro m
        induction m with
        | zero => intro _ j hj; omega
        | succ m ihm =>
          intro h j hj
          have h : (ri_ex Q m || Q m) = false := h
          rw [Bool.or_eq_false_iff] at h
          by_cases hjm : j = m
          · rw [hjm]; exact h.2
          · exact ihm h.1 j (by omega)
      exact this n he j hj
theorem ri_ex_false {Q : Nat → Bool} : ∀ {n : Nat}, ri_ex Q n = false → ∀ j, j < n → Q j = false := by
  intro n
  induction n with
  | zero => intro _ j hj; omega
  | succ n ih =>
    intro h j hj
    have h : (ri_ex Q n || Q n) = false := h
    rw [Bool.or_eq_false_iff] at h
    by_cases hjn : j = n
    · rw [hjn]; exact h.2
    · exact ih h.1 j (by omega)
theorem ri_ex_iff {Q : Nat → Bool} {n : Nat} : ri_ex Q n = true ↔ ∃ i, i < n ∧ Q i = true := by
  constructor
  · intro h
    obtain ⟨i, h1, h2, -⟩ := ri_ex_true h
    exact ⟨i, h1, h2⟩
  · rintro ⟨i, h1, h2⟩
    cases he : ri_ex Q n with
    | true => rfl
    | false => rw [ri_ex_false he i h1] at h2; cases h2
theorem ri_back (st : Nat → ri_St) {Q : Nat → Bool} {N : Nat} (hF : ∀ i o, i < N → Q i = false → ri_X sl sx mi (st (i + 1)) o → ri_X sl sx mi (st i) o) {o : ri_O} : ∀ n, n ≤ N → (∀ j, j < n → Q j = false) → ri_X sl sx mi (st n) o → ri_X sl sx mi (st 0) o := by
  intro n
  induction n with
  | zero => intro _ _ h; exact h
  | succ n ih => intro hn hq h; exact ih (by omega) (fun j hj => hq j (by omega)) (hF n o (by omega) (hq n (by omega)) h)
/-- a loop that leaves at the first number with Q -/
theorem ri_loopE (st : Nat → ri_St) (Q : Nat → Bool) (N : Nat) {oT oF : ri_O} (hF : ∀ i o, i < N → Q i = false → ri_X sl sx mi (st (i + 1)) o → ri_X sl sx mi (st i) o) (hT : ∀ i, i < N → Q i = true → ri_X sl sx mi (st i) oT) (k : ri_X sl sx mi (st N) oF) : ri_X sl sx mi (st 0) (cond (ri_ex Q N) oT oF) := by
  cases he : ri_ex Q N with
  | true =>
    obtain ⟨i, h1, h2, h3⟩ := ri_ex_true he
    exact ri_back st hF i (by omega) h3 (hT i h1 h2)
  | false => exact ri_back st hF N (Nat.le_refl _) (ri_ex_false he) k
/-- the first number below n with Q, or n -/
def ri_fst (Q : Nat → Bool) : Nat → Nat
  | 0 => 0
  | n + 1 => if ri_ex Q n = true then ri_fst Q n else if Q n = true then n else n + 1
theorem ri_fst_spec {Q : Nat → Bool} : ∀ n, (ri_fst Q n < n ∧ Q (ri_fst Q n) = true ∧ ri_ex Q n = true ∨ ri_fst Q n = n ∧ ri_ex Q n = false) ∧ ∀ j, j < ri_fst Q n → Q j = false := by
  intro n
  induction n with
  | zero => exact ⟨Or.inr ⟨rfl, rfl⟩, fun j hj => by simp [ri_fst] at hj⟩
  | succ n ih =>
    have e1 : ri_ex Q (n + 1) = (ri_ex Q n || Q n) := rfl
    by_cases h1 : ri_ex Q n = true
    · have e2 : ri_fst Q (n + 1) = ri_fst Q n := by simp [ri_fst, h1]
      rw [e2, e1, h1]
      rcases ih.1 with h | h
      · exact ⟨Or.inl ⟨by omega, h.2.1, rfl⟩, ih.2⟩
      · rw [h.2] at h1; cases h1
    · have h1' : ri_ex Q n = false := by simpa using h1
      by_cases h2 : Q n = true
      · have e2 : ri_fst Q (n + 1) = n := by simp [ri_fst, h1', h2]
        rw [e2, e1, h2]
        exact ⟨Or.inl ⟨by omega, rfl, by simp⟩, fun j hj => ri_ex_false h1' j hj⟩
      · have h2' : Q n = false := by simpa using h2
        have e2 : ri_fst Q (n + 1) = n + 1 := by simp [ri_fst, h1', h2']
        rw [e2, e1, h1', h2']
        refine ⟨Or.inr ⟨rfl, rfl⟩, fun j hj => ?_⟩
        by_cases hjn : j = n
        · rw [hjn]; exact h2'
        · exact ri_ex_false h1' j (by omega)
end RX
