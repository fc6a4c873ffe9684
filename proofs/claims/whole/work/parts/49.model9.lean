/-! the reference's constructor -/
def md_z (b : Bool) : md_S := (0, b, fun _ => false, fun _ => false, fun _ => false, fun _ => false, fun _ => false, fun _ => 0, fun _ => false, fun _ => 0, fun _ => 0, fun _ => false, fun _ => false, fun _ => false)
def md_newU (M : md_S) (x : Int32) : md_S := mdU M (ri_fo (fun i U => rb_u U i (!(decide (x ≤ nI i)))) 6 (mdu M))
def md_newR (M : md_S) (x : Int32) : md_S := mdR M (ri_fo (fun i U => rb_u U i (!(decide (x ≤ nI i)))) 10 (mdr M))
def md_newO (M : md_S) : md_S := mdO M (ri_fo (fun i O => upd O i (-1)) 6 (mdo M))
def md_newK (M : md_S) : md_S := mdK M (ri_fo (fun i O => upd O i (-1)) 4 (mdk M))
def md_new (users roles mode : Int32) : md_S := md_ord (md_newK (md_newO (md_newR (md_newU (md_z (decide (mode = 1))) users) roles)))
section M49
variable {sl : Nat} {sx : Nat → Int32} {r : ri_W} {C : rd_S} {M N : md_S} {w : ri_W} {ow : Nat → Nat} {o : ri_O}
theorem rn_newU (x y z : Int32) (k : ri_X sl sx 45 (116, [some (.ref 10), some (.int x), some (.int y), some (.int z), some (.int (nI 6))], [], rd_W C (md_W (md_newU N x) r)) o) : ri_X sl sx 45 (116, [some (.ref 10), some (.int x), some (.int y), some (.int z), some (.int (nI 0))], [], rd_W C (md_W N r)) o := by
  refine ri_loop (fun i A => (116, [some (.ref 10), some (.int x), some (.int y), some (.int z), some (.int (nI i))], [], rd_W C (md_W (mdU N A) r))) (fun i U => rb_u U i (!(decide (x ≤ nI i)))) 6 ?_ (a := mdu N) k
  clear k
  intro i A o hi k
  repeat refine ri_X.s rfl rfl rfl ?_
  refine ri_X.bF rfl rfl (rx_ge (N := 6) (hi) rfl) ?_
  repeat refine ri_X.s rfl rfl rfl ?_
  refine ri_X.br (b := decide (x ≤ nI i)) rfl rfl (fun h => ?_) (fun h => ?_)
  · repeat refine ri_X.s rfl rfl rfl ?_
    refine ri_X.zst (B := A) false rfl rfl rfl hi rfl ?_
    rw [md_WU, mdUU]
    repeat refine ri_X.sh 116 rfl rfl rfl rfl ?_
    exact ri_X.eq (by simp only [h, nI_succ, Bool.not_true]; try rfl) k
  · repeat refine ri_X.s rfl rfl rfl ?_
    refine ri_X.zst (B := A) true rfl rfl rfl hi rfl ?_
    rw [md_WU, mdUU]
    repeat refine ri_X.sh 116 rfl rfl rfl rfl ?_
    exact ri_X.eq (by simp only [h, nI_succ, Bool.not_false]; try rfl) k
theorem rn_newR (x y z : Int32) (k : ri_X sl sx 45 (150, [some (.ref 10), some (.int x), some (.int y), some (.int z), some (.int (nI 10))], [], rd_W C (md_W (md_newR N y) r)) o) : ri_X sl sx 45 (150, [some (.ref 10), some (.int x), some (.int y), some (.int z), some (.int (nI 0))], [], rd_W C (md_W N r)) o := by
  refine ri_loop (fun i A => (150, [some (.ref 10), some (.int x), some (.int y), some (.int z), some (.int (nI i))], [], rd_W C (md_W (mdR N A) r))) (fun i U => rb_u U i (!(decide (y ≤ nI i)))) 10 ?_ (a := mdr N) k
  clear k
  intro i A o hi k
  repeat refine ri_X.s rfl rfl rfl ?_
  refine ri_X.bF rfl rfl (rx_ge (N := 10) (hi) rfl) ?_
  repeat refine ri_X.s rfl rfl rfl ?_
  refine ri_X.br (b := decide (y ≤ nI i)) rfl rfl (fun h => ?_) (fun h => ?_)
  · repeat refine ri_X.s rfl rfl rfl ?_
    refine ri_X.zst (B := A) false rfl rfl rfl hi rfl ?_
    rw [md_WR, mdRR]
    repeat refine ri_X.sh 150 rfl rfl rfl rfl ?_
    exact ri_X.eq (by simp only [h, nI_succ, Bool.not_true]; try rfl) k
  · repeat refine ri_X.s rfl rfl rfl ?_
    refine ri_X.zst (B := A) true rfl rfl rfl hi rfl ?_
    rw [md_WR, mdRR]
    repeat refine ri_X.sh 150 rfl rfl rfl rfl ?_
    exact ri_X.eq (by simp only [h, nI_succ, Bool.not_false]; try rfl) k
theorem rn_newO (x y z : Int32) (k : ri_X sl sx 45 (184, [some (.ref 10), some (.int x), some (.int y), some (.int z), some (.int (nI 6))], [], rd_W C (md_W (md_newO N) r)) o) : ri_X sl sx 45 (184, [some (.ref 10), some (.int x), some (.int y), some (.int z), some (.int (nI 0))], [], rd_W C (md_W N r)) o := by
  refine ri_loop (fun i A => (184, [some (.ref 10), some (.int x), some (.int y), some (.int z), some (.int (nI i))], [], rd_W C (md_W (mdO N A) r))) (fun i O => upd O i (-1)) 6 ?_ (a := mdo N) k
  clear k
  intro i A o hi k
  repeat refine ri_X.s rfl rfl rfl ?_
  refine ri_X.bF rfl rfl (rx_ge (N := 6) (hi) rfl) ?_
  repeat refine ri_X.s rfl rfl rfl ?_
  refine ri_X.ast (f := A) (x := -1) rfl rfl rfl hi rfl ?_
  rw [md_WO, mdOO]
  repeat refine ri_X.sh 184 rfl rfl rfl rfl ?_
  exact ri_X.eq (by simp only [nI_succ]; try rfl) k
theorem rn_newK (x y z : Int32) (k : ri_X sl sx 45 (208, [some (.ref 10), some (.int x), some (.int y), some (.int z), some (.int (nI 4))], [], rd_W C (md_W (md_newK N) r)) o) : ri_X sl sx 45 (208, [some (.ref 10), some (.int x), some (.int y), some (.int z), some (.int (nI 0))], [], rd_W C (md_W N r)) o := by
  refine ri_loop (fun i A => (208, [some (.ref 10), some (.int x), some (.int y), some (.int z), some (.int (nI i))], [], rd_W C (md_W (mdK N A) r))) (fun i O => upd O i (-1)) 4 ?_ (a := mdk N) k
  clear k
  intro i A o hi k
  repeat refine ri_X.s rfl rfl rfl ?_
  refine ri_X.bF rfl rfl (rx_ge (N := 4) (hi) rfl) ?_
  repeat refine ri_X.s rfl rfl rfl ?_
  refine ri_X.ast (f := A) (x := -1) rfl rfl rfl hi rfl ?_
  rw [md_WK, mdKK]
  repeat refine ri_X.sh 208 rfl rfl rfl rfl ?_
  exact ri_X.eq (by simp only [nI_succ]; try rfl) k
theorem rn_new2 (x y z : Int32) : ri_X sl sx 45 (116, [some (.ref 10), some (.int x), some (.int y), some (.int z), some (.int (nI 0))], [], rd_W C (md_W N r)) (.inl none, rd_W C (md_W (md_ord (md_newK (md_newO (md_newR (md_newU N x) y)))) r), 0, 0) := by
  refine rn_newU x y z ?_
  generalize md_newU N x = N1
  repeat refine ri_X.s rfl rfl rfl ?_
  refine ri_X.bT rfl rfl (rx_geN (N := 6)) ?_
  repeat refine ri_X.sh 150 rfl rfl rfl rfl ?_
  refine rn_newR x y z ?_
  generalize md_newR N1 y = N2
  repeat refine ri_X.s rfl rfl rfl ?_
  refine ri_X.bT rfl rfl (rx_geN (N := 10)) ?_
  repeat refine ri_X.sh 184 rfl rfl rfl rfl ?_
  refine rn_newO x y z ?_
  generalize md_newO N2 = N3
  repeat refine ri_X.s rfl rfl rfl ?_
  refine ri_X.bT rfl rfl (rx_geN (N := 6)) ?_
  repeat refine ri_X.sh 208 rfl rfl rfl rfl ?_
  refine rn_newK x y z ?_
  generalize md_newK N3 = N4
  repeat refine ri_X.s rfl rfl rfl ?_
  refine ri_X.bT rfl rfl (rx_geN (N := 4)) ?_
  repeat refine ri_X.s rfl rfl rfl ?_
  refine ri_X.call0 rfl rfl rfl rfl rfl (rn_order) ?_
  generalize md_ord N4 = N5
  exact ri_X.fin rfl rfl
theorem rn_new3 (x y z : Int32) : ri_X sl sx 45 (99, [some (.ref 10), some (.int x), some (.int y), some (.int z), none], [], rd_W C [.inr (1, [.int 0, .int 0, .ref 11, .ref 12, .ref 13, .ref 14, .ref 15, .ref 16, .ref 17, .ref 18, .ref 19, .ref 20, .ref 21, .ref 22]), .inl (2, 6, .inl (fun _ => 0)), .inl (2, 10, .inl (fun _ => 0)), .inl (2, 60, .inl (fun _ => 0)), .inl (2, 160, .inl (fun _ => 0)), .inl (2, 100, .inl (fun _ => 0)), .inl (0, 6, .inl (fun _ => 0)), .inl (2, 60, .inl (fun _ => 0)), .inl (0, 4, .inl (fun _ => 0)), .inl (0, 4, .inl (fun _ => 0)), .inl (2, 40, .inl (fun _ => 0)), .inl (2, 100, .inl (fun _ => 0)), .inl (2, 10, .inl (fun _ => 0))]) (.inl none, rd_W C (md_W (md_new x y z) []), 0, 0) := by
  repeat refine ri_X.s rfl rfl rfl ?_
  refine ri_X.cne (x := z) (y := 1) rfl rfl (fun h => ?_) (fun h => ?_)
  · unfold md_new
    rw [h]
    repeat refine ri_X.sh 116 rfl rfl rfl rfl ?_
    refine ri_X.eq (st1 := (116, [some (.ref 10), some (.int x), some (.int y), some (.int z), some (.int (nI 0))], [], rd_W C (md_W (md_z false) []))) rfl ?_
    exact rn_new2 x y z
  · unfold md_new
    rw [h]
    repeat refine ri_X.sh 116 rfl rfl rfl rfl ?_
    refine ri_X.eq (st1 := (116, [some (.ref 10), some (.int x), some (.int y), some (.int z), some (.int (nI 0))], [], rd_W C (md_W (md_z true) []))) rfl ?_
    exact rn_new2 x y z
theorem rn_nw11 {R : Option Int32 ⊕ Nat} {W1 : ri_W} {c1 n1 : Nat} (x y z : Int32) (k : ri_X sl sx 45 (99, [some (.ref 10), some (.int x), some (.int y), some (.int z), none], [], rd_W C [.inr (1, [.int 0, .int 0, .ref 11, .ref 12, .ref 13, .ref 14, .ref 15, .ref 16, .ref 17, .ref 18, .ref 19, .ref 20, .ref 21, .ref 22]), .inl (2, 6, .inl (fun _ => 0)), .inl (2, 10, .inl (fun _ => 0)), .inl (2, 60, .inl (fun _ => 0)), .inl (2, 160, .inl (fun _ => 0)), .inl (2, 100, .inl (fun _ => 0)), .inl (0, 6, .inl (fun _ => 0)), .inl (2, 60, .inl (fun _ => 0)), .inl (0, 4, .inl (fun _ => 0)), .inl (0, 4, .inl (fun _ => 0)), .inl (2, 40, .inl (fun _ => 0)), .inl (2, 100, .inl (fun _ => 0)), .inl (2, 10, .inl (fun _ => 0))]) (R, W1, c1, n1)) : ri_X sl sx 45 (91, [some (.ref 10), some (.int x), some (.int y), some (.int z), none], [], rd_W C [.inr (1, [.int 0, .int 0, .ref 11, .ref 12, .ref 13, .ref 14, .ref 15, .ref 16, .ref 17, .ref 18, .ref 19, .ref 20, .ref 21, .null]), .inl (2, 6, .inl (fun _ => 0)), .inl (2, 10, .inl (fun _ => 0)), .inl (2, 60, .inl (fun _ => 0)), .inl (2, 160, .inl (fun _ => 0)), .inl (2, 100, .inl (fun _ => 0)), .inl (0, 6, .inl (fun _ => 0)), .inl (2, 60, .inl (fun _ => 0)), .inl (0, 4, .inl (fun _ => 0)), .inl (0, 4, .inl (fun _ => 0)), .inl (2, 40, .inl (fun _ => 0)), .inl (2, 100, .inl (fun _ => 0))]) (R, W1, 1 + c1, 10 + n1) := by
  repeat refine ri_X.s rfl rfl rfl ?_
  refine ri_X.mk rfl rfl rfl rfl ?_
  repeat refine ri_X.sh 99 rfl rfl rfl rfl ?_
  exact ri_X.eq rfl k
theorem rn_nw10 {R : Option Int32 ⊕ Nat} {W1 : ri_W} {c1 n1 : Nat} (x y z : Int32) (k : ri_X sl sx 45 (91, [some (.ref 10), some (.int x), some (.int y), some (.int z), none], [], rd_W C [.inr (1, [.int 0, .int 0, .ref 11, .ref 12, .ref 13, .ref 14, .ref 15, .ref 16, .ref 17, .ref 18, .ref 19, .ref 20, .ref 21, .null]), .inl (2, 6, .inl (fun _ => 0)), .inl (2, 10, .inl (fun _ => 0)), .inl (2, 60, .inl (fun _ => 0)), .inl (2, 160, .inl (fun _ => 0)), .inl (2, 100, .inl (fun _ => 0)), .inl (0, 6, .inl (fun _ => 0)), .inl (2, 60, .inl (fun _ => 0)), .inl (0, 4, .inl (fun _ => 0)), .inl (0, 4, .inl (fun _ => 0)), .inl (2, 40, .inl (fun _ => 0)), .inl (2, 100, .inl (fun _ => 0))]) (R, W1, c1, n1)) : ri_X sl sx 45 (83, [some (.ref 10), some (.int x), some (.int y), some (.int z), none], [], rd_W C [.inr (1, [.int 0, .int 0, .ref 11, .ref 12, .ref 13, .ref 14, .ref 15, .ref 16, .ref 17, .ref 18, .ref 19, .ref 20, .null, .null]), .inl (2, 6, .inl (fun _ => 0)), .inl (2, 10, .inl (fun _ => 0)), .inl (2, 60, .inl (fun _ => 0)), .inl (2, 160, .inl (fun _ => 0)), .inl (2, 100, .inl (fun _ => 0)), .inl (0, 6, .inl (fun _ => 0)), .inl (2, 60, .inl (fun _ => 0)), .inl (0, 4, .inl (fun _ => 0)), .inl (0, 4, .inl (fun _ => 0)), .inl (2, 40, .inl (fun _ => 0))]) (R, W1, 1 + c1, 100 + n1) := by
  repeat refine ri_X.s rfl rfl rfl ?_
  refine ri_X.mk rfl rfl rfl rfl ?_
  repeat refine ri_X.sh 91 rfl rfl rfl rfl ?_
  exact ri_X.eq rfl k
theorem rn_nw9 {R : Option Int32 ⊕ Nat} {W1 : ri_W} {c1 n1 : Nat} (x y z : Int32) (k : ri_X sl sx 45 (83, [some (.ref 10), some (.int x), some (.int y), some (.int z), none], [], rd_W C [.inr (1, [.int 0, .int 0, .ref 11, .ref 12, .ref 13, .ref 14, .ref 15, .ref 16, .ref 17, .ref 18, .ref 19, .ref 20, .null, .null]), .inl (2, 6, .inl (fun _ => 0)), .inl (2, 10, .inl (fun _ => 0)), .inl (2, 60, .inl (fun _ => 0)), .inl (2, 160, .inl (fun _ => 0)), .inl (2, 100, .inl (fun _ => 0)), .inl (0, 6, .inl (fun _ => 0)), .inl (2, 60, .inl (fun _ => 0)), .inl (0, 4, .inl (fun _ => 0)), .inl (0, 4, .inl (fun _ => 0)), .inl (2, 40, .inl (fun _ => 0))]) (R, W1, c1, n1)) : ri_X sl sx 45 (75, [some (.ref 10), some (.int x), some (.int y), some (.int z), none], [], rd_W C [.inr (1, [.int 0, .int 0, .ref 11, .ref 12, .ref 13, .ref 14, .ref 15, .ref 16, .ref 17, .ref 18, .ref 19, .null, .null, .null]), .inl (2, 6, .inl (fun _ => 0)), .inl (2, 10, .inl (fun _ => 0)), .inl (2, 60, .inl (fun _ => 0)), .inl (2, 160, .inl (fun _ => 0)), .inl (2, 100, .inl (fun _ => 0)), .inl (0, 6, .inl (fun _ => 0)), .inl (2, 60, .inl (fun _ => 0)), .inl (0, 4, .inl (fun _ => 0)), .inl (0, 4, .inl (fun _ => 0))]) (R, W1, 1 + c1, 40 + n1) := by
  repeat refine ri_X.s rfl rfl rfl ?_
  refine ri_X.mk rfl rfl rfl rfl ?_
  repeat refine ri_X.sh 83 rfl rfl rfl rfl ?_
  exact ri_X.eq rfl k
theorem rn_nw8 {R : Option Int32 ⊕ Nat} {W1 : ri_W} {c1 n1 : Nat} (x y z : Int32) (k : ri_X sl sx 45 (75, [some (.ref 10), some (.int x), some (.int y), some (.int z), none], [], rd_W C [.inr (1, [.int 0, .int 0, .ref 11, .ref 12, .ref 13, .ref 14, .ref 15, .ref 16, .ref 17, .ref 18, .ref 19, .null, .null, .null]), .inl (2, 6, .inl (fun _ => 0)), .inl (2, 10, .inl (fun _ => 0)), .inl (2, 60, .inl (fun _ => 0)), .inl (2, 160, .inl (fun _ => 0)), .inl (2, 100, .inl (fun _ => 0)), .inl (0, 6, .inl (fun _ => 0)), .inl (2, 60, .inl (fun _ => 0)), .inl (0, 4, .inl (fun _ => 0)), .inl (0, 4, .inl (fun _ => 0))]) (R, W1, c1, n1)) : ri_X sl sx 45 (68, [some (.ref 10), some (.int x), some (.int y), some (.int z), none], [], rd_W C [.inr (1, [.int 0, .int 0, .ref 11, .ref 12, .ref 13, .ref 14, .ref 15, .ref 16, .ref 17, .ref 18, .null, .null, .null, .null]), .inl (2, 6, .inl (fun _ => 0)), .inl (2, 10, .inl (fun _ => 0)), .inl (2, 60, .inl (fun _ => 0)), .inl (2, 160, .inl (fun _ => 0)), .inl (2, 100, .inl (fun _ => 0)), .inl (0, 6, .inl (fun _ => 0)), .inl (2, 60, .inl (fun _ => 0)), .inl (0, 4, .inl (fun _ => 0))]) (R, W1, 1 + c1, 4 + n1) := by
  repeat refine ri_X.s rfl rfl rfl ?_
  refine ri_X.mk rfl rfl rfl rfl ?_
  repeat refine ri_X.sh 75 rfl rfl rfl rfl ?_
  exact ri_X.eq rfl k
theorem rn_nw7 {R : Option Int32 ⊕ Nat} {W1 : ri_W} {c1 n1 : Nat} (x y z : Int32) (k : ri_X sl sx 45 (68, [some (.ref 10), some (.int x), some (.int y), some (.int z), none], [], rd_W C [.inr (1, [.int 0, .int 0, .ref 11, .ref 12, .ref 13, .ref 14, .ref 15, .ref 16, .ref 17, .ref 18, .null, .null, .null, .null]), .inl (2, 6, .inl (fun _ => 0)), .inl (2, 10, .inl (fun _ => 0)), .inl (2, 60, .inl (fun _ => 0)), .inl (2, 160, .inl (fun _ => 0)), .inl (2, 100, .inl (fun _ => 0)), .inl (0, 6, .inl (fun _ => 0)), .inl (2, 60, .inl (fun _ => 0)), .inl (0, 4, .inl (fun _ => 0))]) (R, W1, c1, n1)) : ri_X sl sx 45 (61, [some (.ref 10), some (.int x), some (.int y), some (.int z), none], [], rd_W C [.inr (1, [.int 0, .int 0, .ref 11, .ref 12, .ref 13, .ref 14, .ref 15, .ref 16, .ref 17, .null, .null, .null, .null, .null]), .inl (2, 6, .inl (fun _ => 0)), .inl (2, 10, .inl (fun _ => 0)), .inl (2, 60, .inl (fun _ => 0)), .inl (2, 160, .inl (fun _ => 0)), .inl (2, 100, .inl (fun _ => 0)), .inl (0, 6, .inl (fun _ => 0)), .inl (2, 60, .inl (fun _ => 0))]) (R, W1, 1 + c1, 4 + n1) := by
  repeat refine ri_X.s rfl rfl rfl ?_
  refine ri_X.mk rfl rfl rfl rfl ?_
  repeat refine ri_X.sh 68 rfl rfl rfl rfl ?_
  exact ri_X.eq rfl k
theorem rn_nw6 {R : Option Int32 ⊕ Nat} {W1 : ri_W} {c1 n1 : Nat} (x y z : Int32) (k : ri_X sl sx 45 (61, [some (.ref 10), some (.int x), some (.int y), some (.int z), none], [], rd_W C [.inr (1, [.int 0, .int 0, .ref 11, .ref 12, .ref 13, .ref 14, .ref 15, .ref 16, .ref 17, .null, .null, .null, .null, .null]), .inl (2, 6, .inl (fun _ => 0)), .inl (2, 10, .inl (fun _ => 0)), .inl (2, 60, .inl (fun _ => 0)), .inl (2, 160, .inl (fun _ => 0)), .inl (2, 100, .inl (fun _ => 0)), .inl (0, 6, .inl (fun _ => 0)), .inl (2, 60, .inl (fun _ => 0))]) (R, W1, c1, n1)) : ri_X sl sx 45 (53, [some (.ref 10), some (.int x), some (.int y), some (.int z), none], [], rd_W C [.inr (1, [.int 0, .int 0, .ref 11, .ref 12, .ref 13, .ref 14, .ref 15, .ref 16, .null, .null, .null, .null, .null, .null]), .inl (2, 6, .inl (fun _ => 0)), .inl (2, 10, .inl (fun _ => 0)), .inl (2, 60, .inl (fun _ => 0)), .inl (2, 160, .inl (fun _ => 0)), .inl (2, 100, .inl (fun _ => 0)), .inl (0, 6, .inl (fun _ => 0))]) (R, W1, 1 + c1, 60 + n1) := by
  repeat refine ri_X.s rfl rfl rfl ?_
  refine ri_X.mk rfl rfl rfl rfl ?_
  repeat refine ri_X.sh 61 rfl rfl rfl rfl ?_
  exact ri_X.eq rfl k
theorem rn_nw5 {R : Option Int32 ⊕ Nat} {W1 : ri_W} {c1 n1 : Nat} (x y z : Int32) (k : ri_X sl sx 45 (53, [some (.ref 10), some (.int x), some (.int y), some (.int z), none], [], rd_W C [.inr (1, [.int 0, .int 0, .ref 11, .ref 12, .ref 13, .ref 14, .ref 15, .ref 16, .null, .null, .null, .null, .null, .null]), .inl (2, 6, .inl (fun _ => 0)), .inl (2, 10, .inl (fun _ => 0)), .inl (2, 60, .inl (fun _ => 0)), .inl (2, 160, .inl (fun _ => 0)), .inl (2, 100, .inl (fun _ => 0)), .inl (0, 6, .inl (fun _ => 0))]) (R, W1, c1, n1)) : ri_X sl sx 45 (45, [some (.ref 10), some (.int x), some (.int y), some (.int z), none], [], rd_W C [.inr (1, [.int 0, .int 0, .ref 11, .ref 12, .ref 13, .ref 14, .ref 15, .null, .null, .null, .null, .null, .null, .null]), .inl (2, 6, .inl (fun _ => 0)), .inl (2, 10, .inl (fun _ => 0)), .inl (2, 60, .inl (fun _ => 0)), .inl (2, 160, .inl (fun _ => 0)), .inl (2, 100, .inl (fun _ => 0))]) (R, W1, 1 + c1, 6 + n1) := by
  repeat refine ri_X.s rfl rfl rfl ?_
  refine ri_X.mk rfl rfl rfl rfl ?_
  repeat refine ri_X.sh 53 rfl rfl rfl rfl ?_
  exact ri_X.eq rfl k
theorem rn_nw4 {R : Option Int32 ⊕ Nat} {W1 : ri_W} {c1 n1 : Nat} (x y z : Int32) (k : ri_X sl sx 45 (45, [some (.ref 10), some (.int x), some (.int y), some (.int z), none], [], rd_W C [.inr (1, [.int 0, .int 0, .ref 11, .ref 12, .ref 13, .ref 14, .ref 15, .null, .null, .null, .null, .null, .null, .null]), .inl (2, 6, .inl (fun _ => 0)), .inl (2, 10, .inl (fun _ => 0)), .inl (2, 60, .inl (fun _ => 0)), .inl (2, 160, .inl (fun _ => 0)), .inl (2, 100, .inl (fun _ => 0))]) (R, W1, c1, n1)) : ri_X sl sx 45 (37, [some (.ref 10), some (.int x), some (.int y), some (.int z), none], [], rd_W C [.inr (1, [.int 0, .int 0, .ref 11, .ref 12, .ref 13, .ref 14, .null, .null, .null, .null, .null, .null, .null, .null]), .inl (2, 6, .inl (fun _ => 0)), .inl (2, 10, .inl (fun _ => 0)), .inl (2, 60, .inl (fun _ => 0)), .inl (2, 160, .inl (fun _ => 0))]) (R, W1, 1 + c1, 100 + n1) := by
  repeat refine ri_X.s rfl rfl rfl ?_
  refine ri_X.mk rfl rfl rfl rfl ?_
  repeat refine ri_X.sh 45 rfl rfl rfl rfl ?_
  exact ri_X.eq rfl k
theorem rn_nw3 {R : Option Int32 ⊕ Nat} {W1 : ri_W} {c1 n1 : Nat} (x y z : Int32) (k : ri_X sl sx 45 (37, [some (.ref 10), some (.int x), some (.int y), some (.int z), none], [], rd_W C [.inr (1, [.int 0, .int 0, .ref 11, .ref 12, .ref 13, .ref 14, .null, .null, .null, .null, .null, .null, .null, .null]), .inl (2, 6, .inl (fun _ => 0)), .inl (2, 10, .inl (fun _ => 0)), .inl (2, 60, .inl (fun _ => 0)), .inl (2, 160, .inl (fun _ => 0))]) (R, W1, c1, n1)) : ri_X sl sx 45 (28, [some (.ref 10), some (.int x), some (.int y), some (.int z), none], [], rd_W C [.inr (1, [.int 0, .int 0, .ref 11, .ref 12, .ref 13, .null, .null, .null, .null, .null, .null, .null, .null, .null]), .inl (2, 6, .inl (fun _ => 0)), .inl (2, 10, .inl (fun _ => 0)), .inl (2, 60, .inl (fun _ => 0))]) (R, W1, 1 + c1, 160 + n1) := by
  repeat refine ri_X.s rfl rfl rfl ?_
  refine ri_X.mk rfl rfl rfl rfl ?_
  repeat refine ri_X.sh 37 rfl rfl rfl rfl ?_
  exact ri_X.eq rfl k
theorem rn_nw2 {R : Option Int32 ⊕ Nat} {W1 : ri_W} {c1 n1 : Nat} (x y z : Int32) (k : ri_X sl sx 45 (28, [some (.ref 10), some (.int x), some (.int y), some (.int z), none], [], rd_W C [.inr (1, [.int 0, .int 0, .ref 11, .ref 12, .ref 13, .null, .null, .null, .null, .null, .null, .null, .null, .null]), .inl (2, 6, .inl (fun _ => 0)), .inl (2, 10, .inl (fun _ => 0)), .inl (2, 60, .inl (fun _ => 0))]) (R, W1, c1, n1)) : ri_X sl sx 45 (20, [some (.ref 10), some (.int x), some (.int y), some (.int z), none], [], rd_W C [.inr (1, [.int 0, .int 0, .ref 11, .ref 12, .null, .null, .null, .null, .null, .null, .null, .null, .null, .null]), .inl (2, 6, .inl (fun _ => 0)), .inl (2, 10, .inl (fun _ => 0))]) (R, W1, 1 + c1, 60 + n1) := by
  repeat refine ri_X.s rfl rfl rfl ?_
  refine ri_X.mk rfl rfl rfl rfl ?_
  repeat refine ri_X.sh 28 rfl rfl rfl rfl ?_
  exact ri_X.eq rfl k
theorem rn_nw1 {R : Option Int32 ⊕ Nat} {W1 : ri_W} {c1 n1 : Nat} (x y z : Int32) (k : ri_X sl sx 45 (20, [some (.ref 10), some (.int x), some (.int y), some (.int z), none], [], rd_W C [.inr (1, [.int 0, .int 0, .ref 11, .ref 12, .null, .null, .null, .null, .null, .null, .null, .null, .null, .null]), .inl (2, 6, .inl (fun _ => 0)), .inl (2, 10, .inl (fun _ => 0))]) (R, W1, c1, n1)) : ri_X sl sx 45 (12, [some (.ref 10), some (.int x), some (.int y), some (.int z), none], [], rd_W C [.inr (1, [.int 0, .int 0, .ref 11, .null, .null, .null, .null, .null, .null, .null, .null, .null, .null, .null]), .inl (2, 6, .inl (fun _ => 0))]) (R, W1, 1 + c1, 10 + n1) := by
  repeat refine ri_X.s rfl rfl rfl ?_
  refine ri_X.mk rfl rfl rfl rfl ?_
  repeat refine ri_X.sh 20 rfl rfl rfl rfl ?_
  exact ri_X.eq rfl k
theorem rn_nw0 {R : Option Int32 ⊕ Nat} {W1 : ri_W} {c1 n1 : Nat} (x y z : Int32) (k : ri_X sl sx 45 (12, [some (.ref 10), some (.int x), some (.int y), some (.int z), none], [], rd_W C [.inr (1, [.int 0, .int 0, .ref 11, .null, .null, .null, .null, .null, .null, .null, .null, .null, .null, .null]), .inl (2, 6, .inl (fun _ => 0))]) (R, W1, c1, n1)) : ri_X sl sx 45 (0, [some (.ref 10), some (.int x), some (.int y), some (.int z), none], [], rd_W C [.inr (1, [.int 0, .int 0, .null, .null, .null, .null, .null, .null, .null, .null, .null, .null, .null, .null])]) (R, W1, 1 + c1, 6 + n1) := by
  repeat refine ri_X.s rfl rfl rfl ?_
  refine ri_X.mk rfl rfl rfl rfl ?_
  repeat refine ri_X.sh 12 rfl rfl rfl rfl ?_
  exact ri_X.eq rfl k
theorem rn_new (x y z : Int32) : ri_M sl sx 45 [.ref 10, .int x, .int y, .int z] (rd_W C [.inr (1, ri_df 1)]) (.inl none, rd_W C (md_W (md_new x y z) []), 12, 560) := by
  unfold ri_M
  have k := rn_new3 (sl := sl) (sx := sx) (C := C) x y z
  have k := rn_nw11 x y z k
  have k := rn_nw10 x y z k
  have k := rn_nw9 x y z k
  have k := rn_nw8 x y z k
  have k := rn_nw7 x y z k
  have k := rn_nw6 x y z k
  have k := rn_nw5 x y z k
  have k := rn_nw4 x y z k
  have k := rn_nw3 x y z k
  have k := rn_nw2 x y z k
  have k := rn_nw1 x y z k
  have k := rn_nw0 x y z k
  have e : ∀ (c n c2 n2 : Nat), c = c2 → n = n2 → ∀ st, ri_X sl sx 45 st (.inl none, rd_W C (md_W (md_new x y z) []), c, n) → ri_X sl sx 45 st (.inl none, rd_W C (md_W (md_new x y z) []), c2, n2) := by
    intro c n c2 n2 h1 h2 st k
    subst h1
    subst h2
    exact k
  exact e _ _ _ _ (by omega) (by omega) _ k
end M49
