/-! The interpreter is monotone in its fuel; runs as big steps, goal first -/
theorem ri_bif {α : Type} {b : Bool} {x : Option α} {y : α} (h : (bif b then x else none) = some y) : b = true ∧ x = some y := by
  cases b
  · cases h
  · exact ⟨rfl, h⟩
theorem ri_add_some {c n : Nat} {o : Option ri_O} {r : Option Int32 ⊕ Nat} {w : ri_W} {c1 n1 : Nat} (h : ri_add c n o = some (r, w, c1, n1)) : ∃ c2 n2, o = some (r, w, c2, n2) ∧ c1 = c + c2 ∧ n1 = n + n2 := by
  cases o with
  | none => cases h
  | some q =>
    obtain ⟨r2, w2, c2, n2⟩ := q
    cases h
    exact ⟨c2, n2, rfl, rfl, rfl⟩
theorem ri_step_mono {sl : Nat} {sx : Nat → Int32} {r1 r2 : Nat → ri_St → Option ri_O} (h : ∀ mi st o, r1 mi st = some o → r2 mi st = some o) {mi : Nat} {st : ri_St} {o : ri_O} (hs : ri_step sl sx r1 mi st = some o) : ri_step sl sx r2 mi st = some o := by
  have hadd : ∀ (c n : Nat) (mi : Nat) (st : ri_St) (o : ri_O), ri_add c n (r1 mi st) = some o → ri_add c n (r2 mi st) = some o := by
    intro c n mi st o q
    cases hr : r1 mi st with
    | none => rw [hr] at q; cases q
    | some o1 => rw [h _ _ _ hr]; rw [hr] at q; exact q
  unfold ri_step at hs ⊢
  cases hat : ri_at mi st.1 with
  | none => simp only [hat] at hs; cases hs
  | some i =>
    simp only [hat] at hs ⊢
    cases hen : ri_end mi i st.1 st.2.2.1 st.2.2.2 with
    | some o1 => simp only [hen] at hs ⊢; exact hs
    | none =>
      simp only [hen] at hs ⊢
      cases hop : ri_op sl sx mi i st.1 st.2.1 st.2.2.1 st.2.2.2 with
      | some st1 => simp only [hop] at hs ⊢; exact h _ _ _ hs
      | none =>
        simp only [hop] at hs ⊢
        cases hmk : ri_mk mi i st.1 st.2.1 st.2.2.1 st.2.2.2 with
        | some q => simp only [hmk] at hs ⊢; exact hadd _ _ _ _ _ hs
        | none =>
          simp only [hmk] at hs ⊢
          cases hcl : ri_cl mi i st.2.1 st.2.2.1 st.2.2.2 with
          | none => simp only [hcl] at hs; cases hs
          | some q =>
            obtain ⟨mk, as, S1⟩ := q
            simp only [hcl] at hs ⊢
            cases hr : r1 mk (0, ri_ent mk as, [], st.2.2.2) with
            | none => simp only [hr] at hs; cases hs
            | some o1 =>
              rw [h _ _ _ hr]
              obtain ⟨r, w1, c1, n1⟩ := o1
              simp only [hr] at hs
              cases r with
              | inl v => exact hadd _ _ _ _ _ hs
              | inr ex =>
                dsimp only at hs ⊢
                cases hh : (ri_et mi).isEmpty with
                | true => simp only [hh, cond_true] at hs ⊢; exact hs
                | false =>
                  simp only [hh, cond_false] at hs ⊢
                  cases hn : ri_han mi st.1 ex with
                  | none => simp only [hn] at hs; cases hs
                  | some y =>
                    simp only [hn] at hs ⊢
                    obtain ⟨hb, hs⟩ := ri_bif hs
                    rw [hb]
                    exact hadd _ _ _ _ _ hs
theorem ri_run_succ {sl : Nat} {sx : Nat → Int32} : ∀ (f mi : Nat) (st : ri_St) (o : ri_O), ri_run sl sx f mi st = some o → ri_run sl sx (f + 1) mi st = some o := by
  intro f
  induction f with
  | zero => intro mi st o h; cases h
  | succ f ih => intro mi st o h; exact ri_step_mono ih h
theorem ri_run_le {sl : Nat} {sx : Nat → Int32} {f g : Nat} (hfg : f ≤ g) {mi : Nat} {st : ri_St} {o : ri_O} (h : ri_run sl sx f mi st = some o) : ri_run sl sx g mi st = some o := by
  obtain ⟨k, rfl⟩ := Nat.exists_eq_add_of_le hfg
  induction k with
  | zero => exact h
  | succ k ih => exact ri_run_succ _ _ _ _ (ih (Nat.le_add_right _ _))
/-- a run comes to o -/
def ri_X (sl : Nat) (sx : Nat → Int32) (mi : Nat) (st : ri_St) (o : ri_O) : Prop := ∃ f, ri_run sl sx f mi st = some o
/-- a method, called with as in the world w, comes to o -/
def ri_M (sl : Nat) (sx : Nat → Int32) (mk : Nat) (as : List Value) (w : ri_W) (o : ri_O) : Prop := ri_X sl sx mk (0, ri_ent mk as, [], w) o
theorem ri_op_end {sl : Nat} {sx : Nat → Int32} {mi : Nat} {i : Instr} {pc : Nat} {L : List (Option Value)} {S : List Value} {w : ri_W} {st : ri_St} (h : ri_op sl sx mi i pc L S w = some st) : ri_end mi i pc S w = none := by
  cases i <;> first | rfl | cases h
/-- plain steps, n of them -/
def ri_go (sl : Nat) (sx : Nat → Int32) (mi : Nat) : Nat → ri_St → Option ri_St
  | 0, st => some st
  | n + 1, st => match ri_at mi st.1 with
    | none => none
    | some i => match ri_op sl sx mi i st.1 st.2.1 st.2.2.1 st.2.2.2 with
      | some st' => ri_go sl sx mi n st'
      | none => none
section RIX
variable {sl : Nat} {sx : Nat → Int32} {mi : Nat} {st st1 : ri_St} {o : ri_O} {i : Instr} {pc : Nat} {L : List (Option Value)} {S : List Value} {w : ri_W}
theorem ri_X.op (ha : ri_at mi pc = some i) (h : ri_op sl sx mi i pc L S w = some st1) (k : ri_X sl sx mi st1 o) : ri_X sl sx mi (pc, L, S, w) o := by
  obtain ⟨f, hf⟩ := k
  refine ⟨f + 1, ?_⟩
  show ri_step sl sx (ri_run sl sx f) mi (pc, L, S, w) = some o
  unfold ri_step
  simp only [ha, ri_op_end h, h]
  exact hf
theorem ri_X.go (n : Nat) (h : ri_go sl sx mi n st = some st1) (k : ri_X sl sx mi st1 o) : ri_X sl sx mi st o := by
  induction n generalizing st with
  | zero => cases h; exact k
  | succ n ih =>
    obtain ⟨pc, L, S, w⟩ := st
    unfold ri_go at h
    cases ha : ri_at mi pc with
    | none => simp only [ha] at h; cases h
    | some i =>
      simp only [ha] at h
      cases hop : ri_op sl sx mi i pc L S w with
      | none => simp only [hop] at h; cases h
      | some st2 => simp only [hop] at h; exact ri_X.op ha hop (ih h)
theorem ri_X.br {b : Bool} {t e : Nat} {S1 : List Value} (ha : ri_at mi pc = some i) (h : ri_op sl sx mi i pc L S w = some (cond b t e, L, S1, w)) (kt : b = true → ri_X sl sx mi (t, L, S1, w) o) (kf : b = false → ri_X sl sx mi (e, L, S1, w) o) : ri_X sl sx mi (pc, L, S, w) o := by
  refine ri_X.op ha h ?_
  cases b
  · exact kf rfl
  · exact kt rfl
theorem ri_X.fin (ha : ri_at mi pc = some i) (h : ri_end mi i pc S w = some o) : ri_X sl sx mi (pc, L, S, w) o := by
  refine ⟨1, ?_⟩
  show ri_step sl sx (ri_run sl sx 0) mi (pc, L, S, w) = some o
  unfold ri_step
  simp only [ha, h]
theorem ri_X.mk {n : Nat} {r : Option Int32 ⊕ Nat} {w1 : ri_W} {c1 n1 : Nat} (ha : ri_at mi pc = some i) (he : ri_end mi i pc S w = none) (hop : ri_op sl sx mi i pc L S w = none) (h : ri_mk mi i pc L S w = some (st1, n)) (k : ri_X sl sx mi st1 (r, w1, c1, n1)) : ri_X sl sx mi (pc, L, S, w) (r, w1, 1 + c1, n + n1) := by
  obtain ⟨f, hf⟩ := k
  refine ⟨f + 1, ?_⟩
  show ri_step sl sx (ri_run sl sx f) mi (pc, L, S, w) = _
  unfold ri_step
  simp only [ha, he, hop, h, hf]
  rfl
theorem ri_X.call {mk : Nat} {as S1 : List Value} {v : Option Int32} {w1 w2 : ri_W} {r : Option Int32 ⊕ Nat} {c1 n1 c2 n2 : Nat} (ha : ri_at mi pc = some i) (he : ri_end mi i pc S w = none) (hop : ri_op sl sx mi i pc L S w = none) (hmk : ri_mk mi i pc L S w = none) (h : ri_cl mi i L S w = some (mk, as, S1))
    (hm : ri_M sl sx mk as w (.inl v, w1, c1, n1)) (k : ri_X sl sx mi (pc + 3, L, (v.map Value.int).toList ++ S1, w1) (r, w2, c2, n2)) : ri_X sl sx mi (pc, L, S, w) (r, w2, c1 + c2, n1 + n2) := by
  obtain ⟨f, hf⟩ := k
  obtain ⟨g, hg⟩ := hm
  refine ⟨max f g + 1, ?_⟩
  show ri_step sl sx (ri_run sl sx (max f g)) mi (pc, L, S, w) = _
  unfold ri_step
  simp only [ha, he, hop, hmk, h, ri_run_le (Nat.le_max_right f g) hg, ri_run_le (Nat.le_max_left f g) hf]
  rfl
theorem ri_X.call0 {mk : Nat} {as S1 : List Value} {v : Option Int32} {w1 : ri_W} (ha : ri_at mi pc = some i) (he : ri_end mi i pc S w = none) (hop : ri_op sl sx mi i pc L S w = none) (hmk : ri_mk mi i pc L S w = none) (h : ri_cl mi i L S w = some (mk, as, S1))
    (hm : ri_M sl sx mk as w (.inl v, w1, 0, 0)) (k : ri_X sl sx mi (pc + 3, L, (v.map Value.int).toList ++ S1, w1) o) : ri_X sl sx mi (pc, L, S, w) o := by
  obtain ⟨r, w2, c2, n2⟩ := o
  have := ri_X.call ha he hop hmk h hm k
  rwa [Nat.zero_add, Nat.zero_add] at this
theorem ri_X.thr {mk : Nat} {as S1 : List Value} {ex : Nat} {w1 : ri_W} {c1 n1 : Nat} (ha : ri_at mi pc = some i) (he : ri_end mi i pc S w = none) (hop : ri_op sl sx mi i pc L S w = none) (hmk : ri_mk mi i pc L S w = none) (h : ri_cl mi i L S w = some (mk, as, S1)) (hh : (ri_et mi).isEmpty = true)
    (hm : ri_M sl sx mk as w (.inr ex, w1, c1, n1)) : ri_X sl sx mi (pc, L, S, w) (.inr ex, w1, c1, n1) := by
  obtain ⟨g, hg⟩ := hm
  refine ⟨g + 1, ?_⟩
  show ri_step sl sx (ri_run sl sx g) mi (pc, L, S, w) = _
  unfold ri_step
  simp only [ha, he, hop, hmk, h, hg, hh, cond_true]
theorem ri_X.cat {mk : Nat} {as S1 : List Value} {ex hp kk : Nat} {w1 w2 : ri_W} {r : Option Int32 ⊕ Nat} {c1 n1 c2 n2 : Nat} (ha : ri_at mi pc = some i) (he : ri_end mi i pc S w = none) (hop : ri_op sl sx mi i pc L S w = none) (hmk : ri_mk mi i pc L S w = none) (h : ri_cl mi i L S w = some (mk, as, S1)) (hh : (ri_et mi).isEmpty = false) (hn : ri_han mi pc ex = some (hp, kk)) (hk : Nat.blt kk L.length = true)
    (hm : ri_M sl sx mk as w (.inr ex, w1, c1, n1)) (k : ri_X sl sx mi (hp, L.set kk none, [], w1) (r, w2, c2, n2)) : ri_X sl sx mi (pc, L, S, w) (r, w2, c1 + c2, n1 + n2) := by
  obtain ⟨f, hf⟩ := k
  obtain ⟨g, hg⟩ := hm
  refine ⟨max f g + 1, ?_⟩
  show ri_step sl sx (ri_run sl sx (max f g)) mi (pc, L, S, w) = _
  unfold ri_step
  simp only [ha, he, hop, hmk, h, ri_run_le (Nat.le_max_right f g) hg, ri_run_le (Nat.le_max_left f g) hf, hh, hn, hk, cond_true, cond_false]
  rfl
end RIX
