/-! The class's public methods: what they come to -/
abbrev rd_R : Type := (Int32 × rd_S) ⊕ Nat
def rd_oc (r : ri_W) (C : rd_S) (x : rd_R) : ri_O := match x with
  | .inl q => (.inl (some q.1), rd_W q.2 r, 0, 0)
  | .inr ex => (.inr ex, rd_W C r, 1, 6)
def rd_ok (C : rd_S) (ow : Nat → Nat) : Prop := (∀ k, rb_t (rdu C) k = true → k < 6) ∧ (∀ k, rb_t (rdr C) k = true → k < 10) ∧ (∀ k, rb_t (rds C) k = true → k < 6) ∧ (∀ k, rb_t (rdk C) k = true → k < 4) ∧ ∀ s, s < 6 → rdo C s = nI (ow s) ∧ ow s < 6
theorem rx16 {k : Nat} (h : k < 16) : (nI k).toNatClampNeg = k := nI_clamp (by omega)
def rb_bt (n : Int32) : Int32 := (1 : Int32) <<< (n &&& 31)
def rd_addUser (C : rd_S) : rd_R := cond (decide (nI (rd_lf (rdu C) 6) < 6)) (.inl (nI (rd_lf (rdu C) 6), rdU C (rdu C ||| rb_b (rd_lf (rdu C) 6)))) (.inr 2)
def rd_addRole (C : rd_S) : rd_R := cond (decide (nI (rd_lf (rdr C) 10) < 10)) (.inl (nI (rd_lf (rdr C) 10), rdR C (rdr C ||| rb_b (rd_lf (rdr C) 10)))) (.inr 2)
def rd_assign (C : rd_S) (x y : Int32) (u : Nat) : rd_R :=
  cond (rb_h (rdu C) x) (cond (rb_h (rdr C) y) (cond (rb_h (rda C u) y) (.inr 2) (cond (rd_brk C 0 (rj_w (rdi C) 10 (rda C u ||| rb_bt y))) (.inr 2) (.inl (rb_c (upd (rda C) u (rda C u ||| rb_bt y) u), rdA C (upd (rda C) u (rda C u ||| rb_bt y)))))) (.inr 0)) (.inr 0)
def rd_deassign (C : rd_S) (ow : Nat → Nat) (x y : Int32) (u : Nat) : rd_R :=
  cond (rb_h (rdu C) x) (cond (rb_h (rdr C) y) (cond (rb_h (rda C u) y) (.inl (rb_c (upd (rda C) u (rda C u &&& (rb_bt y ^^^ (-1))) u), rd_drop (rdA C (upd (rda C) u (rda C u &&& (rb_bt y ^^^ (-1))))) ow)) (.inr 2)) (.inr 0)) (.inr 0)
def rd_grant (C : rd_S) (x y : Int32) (u : Nat) : rd_R :=
  cond (rb_h (rdr C) x) (cond (rb_h 65535 y) (cond (rb_h (rdg C u) y) (.inr 2) (.inl (rb_c (upd (rdg C) u (rdg C u ||| rb_bt y) u), rdG C (upd (rdg C) u (rdg C u ||| rb_bt y))))) (.inr 0)) (.inr 0)
def rd_revoke (C : rd_S) (x y : Int32) (u : Nat) : rd_R :=
  cond (rb_h (rdr C) x) (cond (rb_h 65535 y) (cond (rb_h (rdg C u) y) (.inl (rb_c (upd (rdg C) u (rdg C u &&& (rb_bt y ^^^ (-1))) u), rdG C (upd (rdg C) u (rdg C u &&& (rb_bt y ^^^ (-1)))))) (.inr 2)) (.inr 0)) (.inr 0)
def rd_disinherit (C : rd_S) (ow : Nat → Nat) (x y : Int32) (u : Nat) : rd_R :=
  cond (rb_h (rdr C) x) (cond (rb_h (rdr C) y) (cond (rb_h (rdi C u) y) (.inl (rb_c (upd (rdi C) u (rdi C u &&& (rb_bt y ^^^ (-1))) u), rd_drop (rdI C (upd (rdi C) u (rdi C u &&& (rb_bt y ^^^ (-1))))) ow)) (.inr 2)) (.inr 0)) (.inr 0)
def rd_inherit (C : rd_S) (x y : Int32) (u : Nat) : rd_R :=
  cond (rb_h (rdr C) x) (cond (rb_h (rdr C) y) (cond (rb_h (rdi C u) y) (.inr 2) (cond (rb_h (rj_w (rdi C) 10 (rb_bt y)) x) (.inr 2) (cond (rdl C && !(decide (rdi C u = 0))) (.inr 2) (cond (rd_ib C x y) (.inr 2)
    (.inl (rb_c (upd (rdi C) u (rdi C u ||| rb_bt y) u), rdI C (upd (rdi C) u (rdi C u ||| rb_bt y)))))))) (.inr 0)) (.inr 0)
def rd_deleteSet (C : rd_S) (x : Int32) : rd_R := cond (rb_h (rdk C) x) (.inl (rb_c (rdk C &&& (rb_bt x ^^^ (-1))), rdK C (rdk C &&& (rb_bt x ^^^ (-1))))) (.inr 0)
def rd_close (C : rd_S) (x : Int32) (u : Nat) : rd_R := cond (rb_h (rds C) x) (.inl (rb_c (rds C &&& (rb_b u ^^^ (-1))), rd_end C u)) (.inr 0)
def rd_check (C : rd_S) (x y : Int32) (u : Nat) : rd_R := cond (rb_h (rds C) x) (cond (rb_h 65535 y) (.inl (rb_i (rb_h (rd_had C (rdv C u)) y), C)) (.inr 0)) (.inr 0)
def rd_rolesOf (C : rd_S) (x : Int32) (a : Bool) (u : Nat) : rd_R := cond (rb_h (rdu C) x) (.inl (cond a (rj_w (rdi C) 10 (rda C u)) (rda C u), C)) (.inr 0)
def rd_permissions (C : rd_S) (x : Int32) (a : Bool) (u : Nat) : rd_R := cond (rb_h (rdr C) x) (.inl (cond a (rd_had C (rb_bt x)) (rdg C u), C)) (.inr 0)
def rd_juniors (C : rd_S) (x : Int32) : rd_R := cond (rb_h (rdr C) x) (.inl (rj_w (rdi C) 10 (rb_bt x), C)) (.inr 0)
def rd_active (C : rd_S) (x : Int32) (u : Nat) : rd_R := cond (rb_h (rds C) x) (.inl (rdv C u, C)) (.inr 0)
def rd_sessionsOf (C : rd_S) (x : Int32) : rd_R := cond (rb_h (rdu C) x) (.inl (rd_sou C x, C)) (.inr 0)
def rd_deactivate (C : rd_S) (x y : Int32) (u : Nat) : rd_R :=
  cond (rb_h (rds C) x) (cond (rb_h (rdr C) y) (cond (rb_h (rdv C u) y) (.inl (rb_c (upd (rdv C) u (rdv C u &&& (rb_bt y ^^^ (-1))) u), rdV C (upd (rdv C) u (rdv C u &&& (rb_bt y ^^^ (-1)))))) (.inr 2)) (.inr 0)) (.inr 0)
def rd_activate (C : rd_S) (ow : Nat → Nat) (x y : Int32) (u : Nat) : rd_R :=
  cond (rb_h (rds C) x) (cond (rb_h (rdr C) y) (cond (rb_h (rdv C u) y) (.inr 2) (cond (rb_h (rj_w (rdi C) 10 (rda C (ow u))) y) (cond (rd_brk C 1 (rdv C u ||| rb_bt y)) (.inr 2) (.inl (rb_c (upd (rdv C) u (rdv C u ||| rb_bt y) u), rdV C (upd (rdv C) u (rdv C u ||| rb_bt y))))) (.inr 2))) (.inr 0)) (.inr 0)
section C34
variable {sl : Nat} {sx : Nat → Int32} {w r : ri_W} {C : rd_S} {ow : Nat → Nat}
theorem ri_X.gu {mi pc : Nat} {L : List (Option Value)} {S S1 : List Value} {o : ri_O} {i : Instr} {km ex : Nat} {as : List Value} {b : Bool} {w1 w2 : ri_W} {c1 n1 : Nat} (ha : ri_at mi pc = some i) (he : ri_end mi i pc S w = none) (hop : ri_op sl sx mi i pc L S w = none) (hmk : ri_mk mi i pc L S w = none) (h : ri_cl mi i L S w = some (km, as, S1)) (hh : (ri_et mi).isEmpty = true)
    (hm : ri_M sl sx km as w (cond b (.inl none, w1, 0, 0) (.inr ex, w2, c1, n1))) (kf : b = false → (.inr ex, w2, c1, n1) = o) (kt : b = true → ri_X sl sx mi (pc + 3, L, S1, w1) o) : ri_X sl sx mi (pc, L, S, w) o := by
  cases b with
  | false => exact kf rfl ▸ ri_X.thr ha he hop hmk h hh hm
  | true => exact ri_X.call0 ha he hop hmk h hm (kt rfl)
theorem ri_X.gn {mi pc : Nat} {L : List (Option Value)} {S S1 : List Value} {o : ri_O} {i : Instr} {km ex : Nat} {as : List Value} {b : Bool} {w1 w2 : ri_W} {c1 n1 : Nat} (ha : ri_at mi pc = some i) (he : ri_end mi i pc S w = none) (hop : ri_op sl sx mi i pc L S w = none) (hmk : ri_mk mi i pc L S w = none) (h : ri_cl mi i L S w = some (km, as, S1)) (hh : (ri_et mi).isEmpty = true)
    (hm : ri_M sl sx km as w (cond b (.inr ex, w2, c1, n1) (.inl none, w1, 0, 0))) (kf : b = true → (.inr ex, w2, c1, n1) = o) (kt : b = false → ri_X sl sx mi (pc + 3, L, S1, w1) o) : ri_X sl sx mi (pc, L, S, w) o := by
  cases b with
  | true => exact kf rfl ▸ ri_X.thr ha he hop hmk h hh hm
  | false => exact ri_X.call0 ha he hop hmk h hm (kt rfl)
theorem rm_addUser : ri_M sl sx 1 [.ref 1] (rd_W C r) (rd_oc r C (rd_addUser C)) := by
  unfold ri_M rd_addUser
  repeat refine ri_X.s rfl rfl rfl ?_
  refine ri_X.call0 rfl rfl rfl rfl rfl (rm_leastFree (rdu C) (N := 6) (by decide)) ?_
  repeat refine ri_X.s rfl rfl rfl ?_
  refine ri_X.br (b := decide (nI (rd_lf (rdu C) 6) < 6)) rfl rfl (fun h => ?_) (fun h => ?_)
  · rw [h]
    simp only [cond_true]
    repeat refine ri_X.s rfl rfl rfl ?_
    refine ri_X.call0 rfl rfl rfl rfl rfl (rm_refuseIf false) ?_
    repeat refine ri_X.s rfl rfl rfl ?_
    refine ri_X.call0 rfl rfl rfl rfl rfl (rm_bit (nI (rd_lf (rdu C) 6))) ?_
    repeat refine ri_X.s rfl rfl rfl ?_
    rw [rd_WU]
    exact ri_X.fin rfl rfl
  · rw [h]
    repeat refine ri_X.s rfl rfl rfl ?_
    refine ri_X.thr rfl rfl rfl rfl rfl rfl (rm_refuseIf true)
theorem rm_addRole : ri_M sl sx 3 [.ref 1] (rd_W C r) (rd_oc r C (rd_addRole C)) := by
  unfold ri_M rd_addRole
  repeat refine ri_X.s rfl rfl rfl ?_
  refine ri_X.call0 rfl rfl rfl rfl rfl (rm_leastFree (rdr C) (N := 10) (by decide)) ?_
  repeat refine ri_X.s rfl rfl rfl ?_
  refine ri_X.br (b := decide (nI (rd_lf (rdr C) 10) < 10)) rfl rfl (fun h => ?_) (fun h => ?_)
  · rw [h]
    simp only [cond_true]
    repeat refine ri_X.s rfl rfl rfl ?_
    refine ri_X.call0 rfl rfl rfl rfl rfl (rm_refuseIf false) ?_
    repeat refine ri_X.s rfl rfl rfl ?_
    refine ri_X.call0 rfl rfl rfl rfl rfl (rm_bit (nI (rd_lf (rdr C) 10))) ?_
    repeat refine ri_X.s rfl rfl rfl ?_
    rw [rd_WR]
    exact ri_X.fin rfl rfl
  · rw [h]
    repeat refine ri_X.s rfl rfl rfl ?_
    refine ri_X.thr rfl rfl rfl rfl rfl rfl (rm_refuseIf true)
theorem rm_assign (hok : rd_ok C ow) (x y : Int32) : ri_M sl sx 5 [.ref 1, .int x, .int y] (rd_W C r) (rd_oc r C (rd_assign C x y x.toNatClampNeg)) := by
  unfold ri_M rd_assign
  repeat refine ri_X.s rfl rfl rfl ?_
  refine ri_X.gu rfl rfl rfl rfl rfl rfl (rm_there (rdu C) x) (fun h1 => by rw [h1]; rfl) (fun h1 => ?_)
  rw [h1]
  simp only [cond_true]
  obtain ⟨u, hu, rfl, tu⟩ := rb_hs h1
  have hu := hok.1 u tu
  rw [rx16 (by omega)]
  repeat refine ri_X.s rfl rfl rfl ?_
  refine ri_X.gu rfl rfl rfl rfl rfl rfl (rm_there (rdr C) y) (fun h2 => by rw [h2]; rfl) (fun h2 => ?_)
  rw [h2]
  simp only [cond_true]
  repeat refine ri_X.s rfl rfl rfl ?_
  refine ri_X.ald rfl rfl (hu) rfl ?_
  repeat refine ri_X.s rfl rfl rfl ?_
  refine ri_X.call0 rfl rfl rfl rfl rfl (rm_holds (rda C u) y) ?_
  refine ri_X.gn rfl rfl rfl rfl rfl rfl (rm_refuseIf (rb_h (rda C u) y)) (fun h3 => by rw [h3]; rfl) (fun h3 => ?_)
  rw [h3]
  simp only [cond_false]
  repeat refine ri_X.s rfl rfl rfl ?_
  refine ri_X.ald rfl rfl (hu) rfl ?_
  repeat refine ri_X.s rfl rfl rfl ?_
  refine ri_X.call0 rfl rfl rfl rfl rfl (rm_bit y) ?_
  repeat refine ri_X.s rfl rfl rfl ?_
  refine ri_X.call0 rfl rfl rfl rfl rfl (rm_withJuniors (rda C u ||| rb_bt y)) ?_
  refine ri_X.call0 rfl rfl rfl rfl rfl (rm_brk 0 (rj_w (rdi C) 10 (rda C u ||| rb_bt y))) ?_
  refine ri_X.gn rfl rfl rfl rfl rfl rfl (rm_refuseIf (rd_brk C 0 (rj_w (rdi C) 10 (rda C u ||| rb_bt y)))) (fun h4 => by rw [h4]; rfl) (fun h4 => ?_)
  rw [h4]
  simp only [cond_false]
  repeat refine ri_X.s rfl rfl rfl ?_
  refine ri_X.ald rfl rfl (hu) rfl ?_
  repeat refine ri_X.s rfl rfl rfl ?_
  refine ri_X.call0 rfl rfl rfl rfl rfl (rm_bit y) ?_
  repeat refine ri_X.s rfl rfl rfl ?_
  refine ri_X.ast rfl rfl rfl (hu) rfl ?_
  rw [rd_WA]
  repeat refine ri_X.s rfl rfl rfl ?_
  refine ri_X.ald rfl rfl (hu) rfl ?_
  refine ri_X.call0 rfl rfl rfl rfl rfl (rm_bitCount (upd (rda C) u (rda C u ||| rb_bt y) u)) ?_
  exact ri_X.fin rfl rfl
theorem rm_deassign (hok : rd_ok C ow) (x y : Int32) : ri_M sl sx 6 [.ref 1, .int x, .int y] (rd_W C r) (rd_oc r C (rd_deassign C ow x y x.toNatClampNeg)) := by
  unfold ri_M rd_deassign
  repeat refine ri_X.s rfl rfl rfl ?_
  refine ri_X.gu rfl rfl rfl rfl rfl rfl (rm_there (rdu C) x) (fun h1 => by rw [h1]; rfl) (fun h1 => ?_)
  rw [h1]
  simp only [cond_true]
  obtain ⟨u, hu, rfl, tu⟩ := rb_hs h1
  have hu := hok.1 u tu
  rw [rx16 (by omega)]
  repeat refine ri_X.s rfl rfl rfl ?_
  refine ri_X.gu rfl rfl rfl rfl rfl rfl (rm_there (rdr C) y) (fun h2 => by rw [h2]; rfl) (fun h2 => ?_)
  rw [h2]
  simp only [cond_true]
  repeat refine ri_X.s rfl rfl rfl ?_
  refine ri_X.ald rfl rfl (hu) rfl ?_
  repeat refine ri_X.s rfl rfl rfl ?_
  refine ri_X.call0 rfl rfl rfl rfl rfl (rm_holds (rda C u) y) ?_
  refine ri_X.ifn rfl rfl (fun h3 => ?_) (fun h3 => ?_)
  · rw [h3]
    simp only [cond_true]
    repeat refine ri_X.s rfl rfl rfl ?_
    refine ri_X.call0 rfl rfl rfl rfl rfl (rm_refuseIf false) ?_
    repeat refine ri_X.s rfl rfl rfl ?_
    refine ri_X.ald rfl rfl (hu) rfl ?_
    repeat refine ri_X.s rfl rfl rfl ?_
    refine ri_X.call0 rfl rfl rfl rfl rfl (rm_bit y) ?_
    repeat refine ri_X.s rfl rfl rfl ?_
    refine ri_X.ast rfl rfl rfl (hu) rfl ?_
    rw [rd_WA]
    repeat refine ri_X.s rfl rfl rfl ?_
    refine ri_X.call0 rfl rfl rfl rfl rfl (rm_drop (C := rdA C (upd (rda C) u (rda C u &&& (rb_bt y ^^^ (-1))))) (ow := ow) hok.2.2.2.2) ?_
    repeat refine ri_X.s rfl rfl rfl ?_
    refine ri_X.ald (f := upd (rda C) u (rda C u &&& (rb_bt y ^^^ (-1)))) rfl rfl hu rfl ?_
    refine ri_X.call0 rfl rfl rfl rfl rfl (rm_bitCount (upd (rda C) u (rda C u &&& (rb_bt y ^^^ (-1))) u)) ?_
    exact ri_X.fin rfl rfl
  · rw [h3]
    repeat refine ri_X.s rfl rfl rfl ?_
    refine ri_X.thr rfl rfl rfl rfl rfl rfl (rm_refuseIf true)
theorem rm_grant (hok : rd_ok C ow) (x y : Int32) : ri_M sl sx 7 [.ref 1, .int x, .int y] (rd_W C r) (rd_oc r C (rd_grant C x y x.toNatClampNeg)) := by
  unfold ri_M rd_grant
  repeat refine ri_X.s rfl rfl rfl ?_
  refine ri_X.gu rfl rfl rfl rfl rfl rfl (rm_there (rdr C) x) (fun h1 => by rw [h1]; rfl) (fun h1 => ?_)
  rw [h1]
  simp only [cond_true]
  obtain ⟨u, hu, rfl, tu⟩ := rb_hs h1
  have hu := hok.2.1 u tu
  rw [rx16 (by omega)]
  repeat refine ri_X.s rfl rfl rfl ?_
  refine ri_X.gu rfl rfl rfl rfl rfl rfl (rm_there 65535 y) (fun h2 => by rw [h2]; rfl) (fun h2 => ?_)
  rw [h2]
  simp only [cond_true]
  repeat refine ri_X.s rfl rfl rfl ?_
  refine ri_X.ald rfl rfl (hu) rfl ?_
  repeat refine ri_X.s rfl rfl rfl ?_
  refine ri_X.call0 rfl rfl rfl rfl rfl (rm_holds (rdg C u) y) ?_
  refine ri_X.gn rfl rfl rfl rfl rfl rfl (rm_refuseIf (rb_h (rdg C u) y)) (fun h3 => by rw [h3]; rfl) (fun h3 => ?_)
  rw [h3]
  simp only [cond_false]
  repeat refine ri_X.s rfl rfl rfl ?_
  refine ri_X.ald rfl rfl (hu) rfl ?_
  repeat refine ri_X.s rfl rfl rfl ?_
  refine ri_X.call0 rfl rfl rfl rfl rfl (rm_bit y) ?_
  repeat refine ri_X.s rfl rfl rfl ?_
  refine ri_X.ast rfl rfl rfl (hu) rfl ?_
  rw [rd_WG]
  repeat refine ri_X.s rfl rfl rfl ?_
  refine ri_X.ald rfl rfl (hu) rfl ?_
  refine ri_X.call0 rfl rfl rfl rfl rfl (rm_bitCount (upd (rdg C) u (rdg C u ||| rb_bt y) u)) ?_
  exact ri_X.fin rfl rfl
theorem rm_revoke (hok : rd_ok C ow) (x y : Int32) : ri_M sl sx 8 [.ref 1, .int x, .int y] (rd_W C r) (rd_oc r C (rd_revoke C x y x.toNatClampNeg)) := by
  unfold ri_M rd_revoke
  repeat refine ri_X.s rfl rfl rfl ?_
  refine ri_X.gu rfl rfl rfl rfl rfl rfl (rm_there (rdr C) x) (fun h1 => by rw [h1]; rfl) (fun h1 => ?_)
  rw [h1]
  simp only [cond_true]
  obtain ⟨u, hu, rfl, tu⟩ := rb_hs h1
  have hu := hok.2.1 u tu
  rw [rx16 (by omega)]
  repeat refine ri_X.s rfl rfl rfl ?_
  refine ri_X.gu rfl rfl rfl rfl rfl rfl (rm_there 65535 y) (fun h2 => by rw [h2]; rfl) (fun h2 => ?_)
  rw [h2]
  simp only [cond_true]
  repeat refine ri_X.s rfl rfl rfl ?_
  refine ri_X.ald rfl rfl (hu) rfl ?_
  repeat refine ri_X.s rfl rfl rfl ?_
  refine ri_X.call0 rfl rfl rfl rfl rfl (rm_holds (rdg C u) y) ?_
  refine ri_X.ifn rfl rfl (fun h3 => ?_) (fun h3 => ?_)
  · rw [h3]
    simp only [cond_true]
    repeat refine ri_X.s rfl rfl rfl ?_
    refine ri_X.call0 rfl rfl rfl rfl rfl (rm_refuseIf false) ?_
    repeat refine ri_X.s rfl rfl rfl ?_
    refine ri_X.ald rfl rfl (hu) rfl ?_
    repeat refine ri_X.s rfl rfl rfl ?_
    refine ri_X.call0 rfl rfl rfl rfl rfl (rm_bit y) ?_
    repeat refine ri_X.s rfl rfl rfl ?_
    refine ri_X.ast rfl rfl rfl (hu) rfl ?_
    rw [rd_WG]
    repeat refine ri_X.s rfl rfl rfl ?_
    refine ri_X.ald rfl rfl (hu) rfl ?_
    refine ri_X.call0 rfl rfl rfl rfl rfl (rm_bitCount (upd (rdg C) u (rdg C u &&& (rb_bt y ^^^ (-1))) u)) ?_
    exact ri_X.fin rfl rfl
  · rw [h3]
    repeat refine ri_X.s rfl rfl rfl ?_
    refine ri_X.thr rfl rfl rfl rfl rfl rfl (rm_refuseIf true)
theorem rm_disinherit (hok : rd_ok C ow) (x y : Int32) : ri_M sl sx 10 [.ref 1, .int x, .int y] (rd_W C r) (rd_oc r C (rd_disinherit C ow x y x.toNatClampNeg)) := by
  unfold ri_M rd_disinherit
  repeat refine ri_X.s rfl rfl rfl ?_
  refine ri_X.gu rfl rfl rfl rfl rfl rfl (rm_there (rdr C) x) (fun h1 => by rw [h1]; rfl) (fun h1 => ?_)
  rw [h1]
  simp only [cond_true]
  obtain ⟨u, hu, rfl, tu⟩ := rb_hs h1
  have hu := hok.2.1 u tu
  rw [rx16 (by omega)]
  repeat refine ri_X.s rfl rfl rfl ?_
  refine ri_X.gu rfl rfl rfl rfl rfl rfl (rm_there (rdr C) y) (fun h2 => by rw [h2]; rfl) (fun h2 => ?_)
  rw [h2]
  simp only [cond_true]
  repeat refine ri_X.s rfl rfl rfl ?_
  refine ri_X.ald rfl rfl (hu) rfl ?_
  repeat refine ri_X.s rfl rfl rfl ?_
  refine ri_X.call0 rfl rfl rfl rfl rfl (rm_holds (rdi C u) y) ?_
  refine ri_X.ifn rfl rfl (fun h3 => ?_) (fun h3 => ?_)
  · rw [h3]
    simp only [cond_true]
    repeat refine ri_X.s rfl rfl rfl ?_
    refine ri_X.call0 rfl rfl rfl rfl rfl (rm_refuseIf false) ?_
    repeat refine ri_X.s rfl rfl rfl ?_
    refine ri_X.ald rfl rfl (hu) rfl ?_
    repeat refine ri_X.s rfl rfl rfl ?_
    refine ri_X.call0 rfl rfl rfl rfl rfl (rm_bit y) ?_
    repeat refine ri_X.s rfl rfl rfl ?_
    refine ri_X.ast rfl rfl rfl (hu) rfl ?_
    rw [rd_WI]
    repeat refine ri_X.s rfl rfl rfl ?_
    refine ri_X.call0 rfl rfl rfl rfl rfl (rm_drop (C := rdI C (upd (rdi C) u (rdi C u &&& (rb_bt y ^^^ (-1))))) (ow := ow) hok.2.2.2.2) ?_
    repeat refine ri_X.s rfl rfl rfl ?_
    refine ri_X.ald (f := upd (rdi C) u (rdi C u &&& (rb_bt y ^^^ (-1)))) rfl rfl hu rfl ?_
    refine ri_X.call0 rfl rfl rfl rfl rfl (rm_bitCount (upd (rdi C) u (rdi C u &&& (rb_bt y ^^^ (-1))) u)) ?_
    exact ri_X.fin rfl rfl
  · rw [h3]
    repeat refine ri_X.s rfl rfl rfl ?_
    refine ri_X.thr rfl rfl rfl rfl rfl rfl (rm_refuseIf true)
theorem rm_inherit (hok : rd_ok C ow) (x y : Int32) : ri_M sl sx 9 [.ref 1, .int x, .int y] (rd_W C r) (rd_oc r C (rd_inherit C x y x.toNatClampNeg)) := by
  unfold ri_M rd_inherit
  repeat refine ri_X.s rfl rfl rfl ?_
  refine ri_X.gu rfl rfl rfl rfl rfl rfl (rm_there (rdr C) x) (fun h1 => by rw [h1]; rfl) (fun h1 => ?_)
  rw [h1]
  simp only [cond_true]
  obtain ⟨u, hu, rfl, tu⟩ := rb_hs h1
  have hu := hok.2.1 u tu
  rw [rx16 (by omega)]
  repeat refine ri_X.s rfl rfl rfl ?_
  refine ri_X.gu rfl rfl rfl rfl rfl rfl (rm_there (rdr C) y) (fun h2 => by rw [h2]; rfl) (fun h2 => ?_)
  rw [h2]
  simp only [cond_true]
  repeat refine ri_X.s rfl rfl rfl ?_
  refine ri_X.ald rfl rfl (hu) rfl ?_
  repeat refine ri_X.s rfl rfl rfl ?_
  refine ri_X.call0 rfl rfl rfl rfl rfl (rm_holds (rdi C u) y) ?_
  refine ri_X.gn rfl rfl rfl rfl rfl rfl (rm_refuseIf (rb_h (rdi C u) y)) (fun h3 => by rw [h3]; rfl) (fun h3 => ?_)
  rw [h3]
  simp only [cond_false]
  repeat refine ri_X.s rfl rfl rfl ?_
  refine ri_X.call0 rfl rfl rfl rfl rfl (rm_bit y) ?_
  refine ri_X.call0 rfl rfl rfl rfl rfl (rm_withJuniors (rb_bt y)) ?_
  repeat refine ri_X.s rfl rfl rfl ?_
  refine ri_X.call0 rfl rfl rfl rfl rfl (rm_holds (rj_w (rdi C) 10 (rb_bt y)) (nI u)) ?_
  refine ri_X.gn rfl rfl rfl rfl rfl rfl (rm_refuseIf (rb_h (rj_w (rdi C) 10 (rb_bt y)) (nI u))) (fun h4 => by rw [h4]; rfl) (fun h4 => ?_)
  rw [h4]
  simp only [cond_false]
  have rest : (rdl C && !(decide (rdi C u = 0))) = false → ri_X sl sx 9 (68, [some (.ref 1), some (.int (nI u)), some (.int y)], [], rd_W C r) (rd_oc r C (cond (rd_ib C (nI u) y) (.inr 2) (.inl (rb_c (upd (rdi C) u (rdi C u ||| rb_bt y) u), rdI C (upd (rdi C) u (rdi C u ||| rb_bt y)))))) := by
    intro _
    repeat refine ri_X.s rfl rfl rfl ?_
    refine ri_X.call0 rfl rfl rfl rfl rfl (rm_ib (nI u) y) ?_
    refine ri_X.gn rfl rfl rfl rfl rfl rfl (rm_refuseIf (rd_ib C (nI u) y)) (fun h6 => by rw [h6]; rfl) (fun h6 => ?_)
    rw [h6]
    simp only [cond_false]
    repeat refine ri_X.s rfl rfl rfl ?_
    refine ri_X.ald rfl rfl (hu) rfl ?_
    repeat refine ri_X.s rfl rfl rfl ?_
    refine ri_X.call0 rfl rfl rfl rfl rfl (rm_bit y) ?_
    repeat refine ri_X.s rfl rfl rfl ?_
    refine ri_X.ast rfl rfl rfl (hu) rfl ?_
    rw [rd_WI]
    repeat refine ri_X.s rfl rfl rfl ?_
    refine ri_X.ald rfl rfl (hu) rfl ?_
    refine ri_X.call0 rfl rfl rfl rfl rfl (rm_bitCount (upd (rdi C) u (rdi C u ||| rb_bt y) u)) ?_
    exact ri_X.fin rfl rfl
  repeat refine ri_X.s rfl rfl rfl ?_
  refine ri_X.ifz rfl rfl (fun h5 => ?_) (fun h5 => ?_)
  · rw [h5] at rest ⊢
    simp only [Bool.false_and, cond_false] at rest ⊢
    repeat refine ri_X.s rfl rfl rfl ?_
    refine ri_X.call0 rfl rfl rfl rfl rfl (rm_refuseIf false) ?_
    exact rest trivial
  · repeat refine ri_X.s rfl rfl rfl ?_
    refine ri_X.ald rfl rfl (hu) rfl ?_
    refine ri_X.br (b := decide (rdi C u = 0)) rfl rfl (fun h6 => ?_) (fun h6 => ?_)
    · rw [h5, h6] at rest ⊢
      simp only [Bool.not_true, Bool.and_false, cond_false] at rest ⊢
      repeat refine ri_X.s rfl rfl rfl ?_
      refine ri_X.call0 rfl rfl rfl rfl rfl (rm_refuseIf false) ?_
      exact rest trivial
    · rw [h5, h6]
      repeat refine ri_X.s rfl rfl rfl ?_
      refine ri_X.thr rfl rfl rfl rfl rfl rfl (rm_refuseIf true)
theorem rm_deleteSet (x : Int32) : ri_M sl sx 12 [.ref 1, .int x] (rd_W C r) (rd_oc r C (rd_deleteSet C x)) := by
  unfold ri_M rd_deleteSet
  repeat refine ri_X.s rfl rfl rfl ?_
  refine ri_X.gu rfl rfl rfl rfl rfl rfl (rm_there (rdk C) x) (fun h1 => by rw [h1]; rfl) (fun h1 => ?_)
  rw [h1]
  simp only [cond_true]
  repeat refine ri_X.s rfl rfl rfl ?_
  refine ri_X.call0 rfl rfl rfl rfl rfl (rm_bit x) ?_
  repeat refine ri_X.s rfl rfl rfl ?_
  rw [rd_WK]
  refine ri_X.call0 rfl rfl rfl rfl rfl (rm_bitCount (rdk C &&& (rb_bt x ^^^ (-1)))) ?_
  exact ri_X.fin rfl rfl
theorem rm_close (hok : rd_ok C ow) (x : Int32) : ri_M sl sx 15 [.ref 1, .int x] (rd_W C r) (rd_oc r C (rd_close C x x.toNatClampNeg)) := by
  unfold ri_M rd_close
  repeat refine ri_X.s rfl rfl rfl ?_
  refine ri_X.gu rfl rfl rfl rfl rfl rfl (rm_there (rds C) x) (fun h1 => by rw [h1]; rfl) (fun h1 => ?_)
  rw [h1]
  simp only [cond_true]
  obtain ⟨u, hu, rfl, tu⟩ := rb_hs h1
  have hu := hok.2.2.1 u tu
  rw [rx16 (by omega)]
  repeat refine ri_X.s rfl rfl rfl ?_
  refine ri_X.call0 rfl rfl rfl rfl rfl (rm_end hu) ?_
  repeat refine ri_X.s rfl rfl rfl ?_
  refine ri_X.call0 rfl rfl rfl rfl rfl (rm_bitCount (rds C &&& (rb_b u ^^^ (-1)))) ?_
  exact ri_X.fin rfl rfl
theorem rm_check (hok : rd_ok C ow) (x y : Int32) : ri_M sl sx 18 [.ref 1, .int x, .int y] (rd_W C r) (rd_oc r C (rd_check C x y x.toNatClampNeg)) := by
  unfold ri_M rd_check
  repeat refine ri_X.s rfl rfl rfl ?_
  refine ri_X.gu rfl rfl rfl rfl rfl rfl (rm_there (rds C) x) (fun h1 => by rw [h1]; rfl) (fun h1 => ?_)
  rw [h1]
  simp only [cond_true]
  obtain ⟨u, hu, rfl, tu⟩ := rb_hs h1
  have hu := hok.2.2.1 u tu
  rw [rx16 (by omega)]
  repeat refine ri_X.s rfl rfl rfl ?_
  refine ri_X.gu rfl rfl rfl rfl rfl rfl (rm_there 65535 y) (fun h2 => by rw [h2]; rfl) (fun h2 => ?_)
  rw [h2]
  simp only [cond_true]
  repeat refine ri_X.s rfl rfl rfl ?_
  refine ri_X.ald rfl rfl (hu) rfl ?_
  refine ri_X.call0 rfl rfl rfl rfl rfl (rm_had (rdv C u)) ?_
  repeat refine ri_X.s rfl rfl rfl ?_
  refine ri_X.call0 rfl rfl rfl rfl rfl (rm_holds (rd_had C (rdv C u)) y) ?_
  exact ri_X.finB rfl rfl
theorem rm_rolesOf (hok : rd_ok C ow) (x : Int32) (a : Bool) : ri_M sl sx 19 [.ref 1, .int x, .int (rb_i a)] (rd_W C r) (rd_oc r C (rd_rolesOf C x a x.toNatClampNeg)) := by
  unfold ri_M rd_rolesOf
  repeat refine ri_X.s rfl rfl rfl ?_
  refine ri_X.gu rfl rfl rfl rfl rfl rfl (rm_there (rdu C) x) (fun h1 => by rw [h1]; rfl) (fun h1 => ?_)
  rw [h1]
  simp only [cond_true]
  obtain ⟨u, hu, rfl, tu⟩ := rb_hs h1
  have hu := hok.1 u tu
  rw [rx16 (by omega)]
  repeat refine ri_X.s rfl rfl rfl ?_
  refine ri_X.ifz rfl rfl (fun h2 => ?_) (fun h2 => ?_)
  · rw [h2]
    repeat refine ri_X.s rfl rfl rfl ?_
    refine ri_X.ald rfl rfl (hu) rfl ?_
    exact ri_X.fin rfl rfl
  · rw [h2]
    repeat refine ri_X.s rfl rfl rfl ?_
    refine ri_X.ald rfl rfl (hu) rfl ?_
    refine ri_X.call0 rfl rfl rfl rfl rfl (rm_withJuniors (rda C u)) ?_
    repeat refine ri_X.s rfl rfl rfl ?_
    exact ri_X.fin rfl rfl
theorem rm_permissions (hok : rd_ok C ow) (x : Int32) (a : Bool) : ri_M sl sx 21 [.ref 1, .int x, .int (rb_i a)] (rd_W C r) (rd_oc r C (rd_permissions C x a x.toNatClampNeg)) := by
  unfold ri_M rd_permissions
  repeat refine ri_X.s rfl rfl rfl ?_
  refine ri_X.gu rfl rfl rfl rfl rfl rfl (rm_there (rdr C) x) (fun h1 => by rw [h1]; rfl) (fun h1 => ?_)
  rw [h1]
  simp only [cond_true]
  obtain ⟨u, hu, rfl, tu⟩ := rb_hs h1
  have hu := hok.2.1 u tu
  rw [rx16 (by omega)]
  repeat refine ri_X.s rfl rfl rfl ?_
  refine ri_X.ifz rfl rfl (fun h2 => ?_) (fun h2 => ?_)
  · rw [h2]
    repeat refine ri_X.s rfl rfl rfl ?_
    refine ri_X.ald rfl rfl (hu) rfl ?_
    exact ri_X.fin rfl rfl
  · rw [h2]
    repeat refine ri_X.s rfl rfl rfl ?_
    refine ri_X.call0 rfl rfl rfl rfl rfl (rm_bit (nI u)) ?_
    refine ri_X.call0 rfl rfl rfl rfl rfl (rm_had (rb_bt (nI u))) ?_
    repeat refine ri_X.s rfl rfl rfl ?_
    exact ri_X.fin rfl rfl
theorem rm_juniors (x : Int32) : ri_M sl sx 22 [.ref 1, .int x] (rd_W C r) (rd_oc r C (rd_juniors C x)) := by
  unfold ri_M rd_juniors
  repeat refine ri_X.s rfl rfl rfl ?_
  refine ri_X.gu rfl rfl rfl rfl rfl rfl (rm_there (rdr C) x) (fun h1 => by rw [h1]; rfl) (fun h1 => ?_)
  rw [h1]
  simp only [cond_true]
  repeat refine ri_X.s rfl rfl rfl ?_
  refine ri_X.call0 rfl rfl rfl rfl rfl (rm_bit x) ?_
  refine ri_X.call0 rfl rfl rfl rfl rfl (rm_withJuniors (rb_bt x)) ?_
  exact ri_X.fin rfl rfl
theorem rm_active (hok : rd_ok C ow) (x : Int32) : ri_M sl sx 23 [.ref 1, .int x] (rd_W C r) (rd_oc r C (rd_active C x x.toNatClampNeg)) := by
  unfold ri_M rd_active
  repeat refine ri_X.s rfl rfl rfl ?_
  refine ri_X.gu rfl rfl rfl rfl rfl rfl (rm_there (rds C) x) (fun h1 => by rw [h1]; rfl) (fun h1 => ?_)
  rw [h1]
  simp only [cond_true]
  obtain ⟨u, hu, rfl, tu⟩ := rb_hs h1
  have hu := hok.2.2.1 u tu
  rw [rx16 (by omega)]
  repeat refine ri_X.s rfl rfl rfl ?_
  refine ri_X.ald rfl rfl (hu) rfl ?_
  exact ri_X.fin rfl rfl
theorem rm_sessionsOf (x : Int32) : ri_M sl sx 24 [.ref 1, .int x] (rd_W C r) (rd_oc r C (rd_sessionsOf C x)) := by
  unfold ri_M rd_sessionsOf
  repeat refine ri_X.s rfl rfl rfl ?_
  refine ri_X.gu rfl rfl rfl rfl rfl rfl (rm_there (rdu C) x) (fun h1 => by rw [h1]; rfl) (fun h1 => ?_)
  rw [h1]
  simp only [cond_true]
  repeat refine ri_X.s rfl rfl rfl ?_
  refine ri_X.call0 rfl rfl rfl rfl rfl (rm_sou x) ?_
  exact ri_X.fin rfl rfl
theorem rm_deactivate (hok : rd_ok C ow) (x y : Int32) : ri_M sl sx 17 [.ref 1, .int x, .int y] (rd_W C r) (rd_oc r C (rd_deactivate C x y x.toNatClampNeg)) := by
  unfold ri_M rd_deactivate
  repeat refine ri_X.s rfl rfl rfl ?_
  refine ri_X.gu rfl rfl rfl rfl rfl rfl (rm_there (rds C) x) (fun h1 => by rw [h1]; rfl) (fun h1 => ?_)
  rw [h1]
  simp only [cond_true]
  obtain ⟨u, hu, rfl, tu⟩ := rb_hs h1
  have hu := hok.2.2.1 u tu
  rw [rx16 (by omega)]
  repeat refine ri_X.s rfl rfl rfl ?_
  refine ri_X.gu rfl rfl rfl rfl rfl rfl (rm_there (rdr C) y) (fun h2 => by rw [h2]; rfl) (fun h2 => ?_)
  rw [h2]
  simp only [cond_true]
  repeat refine ri_X.s rfl rfl rfl ?_
  refine ri_X.ald rfl rfl (hu) rfl ?_
  repeat refine ri_X.s rfl rfl rfl ?_
  refine ri_X.call0 rfl rfl rfl rfl rfl (rm_holds (rdv C u) y) ?_
  refine ri_X.ifn rfl rfl (fun h3 => ?_) (fun h3 => ?_)
  · rw [h3]
    simp only [cond_true]
    repeat refine ri_X.s rfl rfl rfl ?_
    refine ri_X.call0 rfl rfl rfl rfl rfl (rm_refuseIf false) ?_
    repeat refine ri_X.s rfl rfl rfl ?_
    refine ri_X.ald rfl rfl (hu) rfl ?_
    repeat refine ri_X.s rfl rfl rfl ?_
    refine ri_X.call0 rfl rfl rfl rfl rfl (rm_bit y) ?_
    repeat refine ri_X.s rfl rfl rfl ?_
    refine ri_X.ast rfl rfl rfl (hu) rfl ?_
    rw [rd_WV]
    repeat refine ri_X.s rfl rfl rfl ?_
    refine ri_X.ald rfl rfl (hu) rfl ?_
    refine ri_X.call0 rfl rfl rfl rfl rfl (rm_bitCount (upd (rdv C) u (rdv C u &&& (rb_bt y ^^^ (-1))) u)) ?_
    exact ri_X.fin rfl rfl
  · rw [h3]
    repeat refine ri_X.s rfl rfl rfl ?_
    refine ri_X.thr rfl rfl rfl rfl rfl rfl (rm_refuseIf true)
theorem rm_activate (hok : rd_ok C ow) (x y : Int32) : ri_M sl sx 16 [.ref 1, .int x, .int y] (rd_W C r) (rd_oc r C (rd_activate C ow x y x.toNatClampNeg)) := by
  unfold ri_M rd_activate
  repeat refine ri_X.s rfl rfl rfl ?_
  refine ri_X.gu rfl rfl rfl rfl rfl rfl (rm_there (rds C) x) (fun h1 => by rw [h1]; rfl) (fun h1 => ?_)
  rw [h1]
  simp only [cond_true]
  obtain ⟨u, hu, rfl, tu⟩ := rb_hs h1
  have hu := hok.2.2.1 u tu
  rw [rx16 (by omega)]
  repeat refine ri_X.s rfl rfl rfl ?_
  refine ri_X.gu rfl rfl rfl rfl rfl rfl (rm_there (rdr C) y) (fun h2 => by rw [h2]; rfl) (fun h2 => ?_)
  rw [h2]
  simp only [cond_true]
  repeat refine ri_X.s rfl rfl rfl ?_
  refine ri_X.ald rfl rfl (hu) rfl ?_
  repeat refine ri_X.s rfl rfl rfl ?_
  refine ri_X.call0 rfl rfl rfl rfl rfl (rm_holds (rdv C u) y) ?_
  refine ri_X.gn rfl rfl rfl rfl rfl rfl (rm_refuseIf (rb_h (rdv C u) y)) (fun h3 => by rw [h3]; rfl) (fun h3 => ?_)
  rw [h3]
  simp only [cond_false]
  repeat refine ri_X.s rfl rfl rfl ?_
  refine ri_X.ald rfl rfl (hu) rfl ?_
  rw [(hok.2.2.2.2 u hu).1]
  refine ri_X.ald rfl rfl ((hok.2.2.2.2 u hu).2) rfl ?_
  refine ri_X.call0 rfl rfl rfl rfl rfl (rm_withJuniors (rda C (ow u))) ?_
  repeat refine ri_X.s rfl rfl rfl ?_
  refine ri_X.call0 rfl rfl rfl rfl rfl (rm_holds (rj_w (rdi C) 10 (rda C (ow u))) y) ?_
  refine ri_X.ifn rfl rfl (fun h4 => ?_) (fun h4 => ?_)
  · rw [h4]
    simp only [cond_true]
    repeat refine ri_X.s rfl rfl rfl ?_
    refine ri_X.call0 rfl rfl rfl rfl rfl (rm_refuseIf false) ?_
    repeat refine ri_X.s rfl rfl rfl ?_
    refine ri_X.ald rfl rfl (hu) rfl ?_
    repeat refine ri_X.s rfl rfl rfl ?_
    refine ri_X.call0 rfl rfl rfl rfl rfl (rm_bit y) ?_
    repeat refine ri_X.s rfl rfl rfl ?_
    refine ri_X.call0 rfl rfl rfl rfl rfl (rm_brk 1 (rdv C u ||| rb_bt y)) ?_
    refine ri_X.gn rfl rfl rfl rfl rfl rfl (rm_refuseIf (rd_brk C 1 (rdv C u ||| rb_bt y))) (fun h5 => by rw [h5]; rfl) (fun h5 => ?_)
    rw [h5]
    simp only [cond_false]
    repeat refine ri_X.s rfl rfl rfl ?_
    refine ri_X.ald rfl rfl (hu) rfl ?_
    repeat refine ri_X.s rfl rfl rfl ?_
    refine ri_X.call0 rfl rfl rfl rfl rfl (rm_bit y) ?_
    repeat refine ri_X.s rfl rfl rfl ?_
    refine ri_X.ast rfl rfl rfl (hu) rfl ?_
    rw [rd_WV]
    repeat refine ri_X.s rfl rfl rfl ?_
    refine ri_X.ald rfl rfl (hu) rfl ?_
    refine ri_X.call0 rfl rfl rfl rfl rfl (rm_bitCount (upd (rdv C) u (rdv C u ||| rb_bt y) u)) ?_
    exact ri_X.fin rfl rfl
  · rw [h4]
    repeat refine ri_X.s rfl rfl rfl ?_
    refine ri_X.thr rfl rfl rfl rfl rfl rfl (rm_refuseIf true)
end C34
