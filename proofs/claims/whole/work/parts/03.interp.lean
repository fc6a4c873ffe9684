/-! The interpreter: plain instructions. An abstract reference is a place: 0 the script, k + 1 the world's cell k. The tables (ri_at, ri_ld, ri_fl, ri_ca, ri_ne, ri_tx, ri_hd, ri_mL, ri_rt, ri_gr, ri_fr, ri_lo) stand in the part before. -/
abbrev ri_C : Type := (Nat × vp_A) ⊕ (Nat × List Value)
abbrev ri_W : Type := List ri_C
abbrev ri_St : Type := Nat × List (Option Value) × List Value × ri_W
abbrev ri_O : Type := (Option Int32 ⊕ Nat) × ri_W × Nat × Nat
def ri_tgt (pc : Nat) (off : Int) : Nat := ((pc : Int) + off).toNat
def ri_cd (c : Jvm.ClassFile.Cond) (x y : Int32) : Bool := match c with
  | .eq => decide (x = y)
  | .ne => decide (¬ x = y)
  | .lt => decide (x < y)
  | .ge => decide (y ≤ x)
  | .gt => decide (y < x)
  | .le => decide (x ≤ y)
def ri_c1 (v : Value) : Bool := Nat.beq v.category 1
def ri_push (v : Value) (n pc : Nat) (L : List (Option Value)) (S : List Value) (w : ri_W) : Option ri_St := some (pc + n, L, v :: S, w)
def ri_ild (k n pc : Nat) (L : List (Option Value)) (S : List Value) (w : ri_W) : Option ri_St := match L[k]? with
  | some (some (.int x)) => some (pc + n, L, .int x :: S, w)
  | _ => none
def ri_ald (k n pc : Nat) (L : List (Option Value)) (S : List Value) (w : ri_W) : Option ri_St := match L[k]? with
  | some (some (.ref x)) => some (pc + n, L, .ref x :: S, w)
  | _ => none
def ri_ist (k n pc : Nat) (L : List (Option Value)) (S : List Value) (w : ri_W) : Option ri_St := match S with
  | .int x :: r => bif Nat.blt k L.length then some (pc + n, L.set k (some (.int x)), r, w) else none
  | _ => none
def ri_ast (k n pc : Nat) (L : List (Option Value)) (S : List Value) (w : ri_W) : Option ri_St := match S with
  | .ref x :: r => bif Nat.blt k L.length then some (pc + n, L.set k (some (.ref x)), r, w) else none
  | _ => none
def ri_inc (k : Nat) (d : Int32) (pc : Nat) (L : List (Option Value)) (S : List Value) (w : ri_W) : Option ri_St := match L[k]? with
  | some (some (.int x)) => some (pc + 3, L.set k (some (.int (x + d))), S, w)
  | _ => none
def ri_bin (f : Int32 → Int32 → Int32) (pc : Nat) (L : List (Option Value)) (S : List Value) (w : ri_W) : Option ri_St := match S with
  | .int y :: .int x :: r => some (pc + 1, L, .int (f x y) :: r, w)
  | _ => none
def ri_div (f : Int32 → Int32 → Int32) (pc : Nat) (L : List (Option Value)) (S : List Value) (w : ri_W) : Option ri_St := match S with
  | .int y :: .int x :: r => bif decide (y = 0) then none else some (pc + 1, L, .int (f x y) :: r, w)
  | _ => none
def ri_if (c : Jvm.ClassFile.Cond) (off : Int) (pc : Nat) (L : List (Option Value)) (S : List Value) (w : ri_W) : Option ri_St := match S with
  | .int x :: r => bif decide (0 ≤ (pc : Int) + off) then some (cond (ri_cd c x 0) (ri_tgt pc off) (pc + 3), L, r, w) else none
  | _ => none
def ri_icmp (c : Jvm.ClassFile.Cond) (off : Int) (pc : Nat) (L : List (Option Value)) (S : List Value) (w : ri_W) : Option ri_St := match S with
  | .int y :: .int x :: r => bif decide (0 ≤ (pc : Int) + off) then some (cond (ri_cd c x y) (ri_tgt pc off) (pc + 3), L, r, w) else none
  | _ => none
def ri_goto (off : Int) (pc : Nat) (L : List (Option Value)) (S : List Value) (w : ri_W) : Option ri_St :=
  bif decide (0 ≤ (pc : Int) + off) then some (ri_tgt pc off, L, S, w) else none
def ri_tsw (d lo hi : Int) (offs : Array Int) (pc : Nat) (L : List (Option Value)) (S : List Value) (w : ri_W) : Option ri_St := match S with
  | .int x :: r => (match (bif decide (x.toInt < lo) || decide (hi < x.toInt) then some d else offs[(x.toInt - lo).toNat]?) with
    | some off => bif decide (0 ≤ (pc : Int) + off) then some (ri_tgt pc off, L, r, w) else none
    | none => none)
  | _ => none
def ri_dup (pc : Nat) (L : List (Option Value)) (S : List Value) (w : ri_W) : Option ri_St := match S with
  | x :: r => bif ri_c1 x then some (pc + 1, L, x :: x :: r, w) else none
  | _ => none
def ri_pop (pc : Nat) (L : List (Option Value)) (S : List Value) (w : ri_W) : Option ri_St := match S with
  | x :: r => bif ri_c1 x then some (pc + 1, L, r, w) else none
  | _ => none
def ri_d2 (pc : Nat) (L : List (Option Value)) (S : List Value) (w : ri_W) : Option ri_St := match S with
  | x :: y :: r => bif ri_c1 x && ri_c1 y then some (pc + 1, L, x :: y :: x :: y :: r, w) else none
  | _ => none
def ri_i2l (pc : Nat) (L : List (Option Value)) (S : List Value) (w : ri_W) : Option ri_St := match S with
  | .int x :: r => some (pc + 1, L, .long x.toInt64 :: r, w)
  | _ => none
def ri_lcmp (pc : Nat) (L : List (Option Value)) (S : List Value) (w : ri_W) : Option ri_St := match S with
  | .long y :: .long x :: r => some (pc + 1, L, .int (lg_cmp x y) :: r, w)
  | _ => none
def ri_in32 (i : Int32) (n : Nat) : Bool := !(decide (i < 0)) && Nat.blt i.toNatClampNeg n
def ri_fit (ty : FieldType) (v : Value) : Bool := match ty, v with
  | .int, .int _ => true
  | .boolean, .int x => decide (x = 0) || decide (x = 1)
  | .array _, .ref _ => true
  | .object _, .ref _ => true
  | _, _ => false
def ri_get (mi x pc : Nat) (L : List (Option Value)) (S : List Value) (w : ri_W) : Option ri_St := match ri_fl mi x with
  | some (ci, k) => (match S with
    | .ref (a + 1) :: r => (match w[a]? with
      | some (.inr (cj, fs)) => bif Nat.beq cj ci then (match fs[k]? with
        | some v => some (pc + 3, L, v :: r, w)
        | none => none) else none
      | _ => none)
    | _ => none)
  | none => none
def ri_put (mi x pc : Nat) (L : List (Option Value)) (S : List Value) (w : ri_W) : Option ri_St := match ri_fl mi x with
  | some (ci, k) => (match S with
    | v :: .ref (a + 1) :: r => (match w[a]? with
      | some (.inr (cj, fs)) => bif Nat.beq cj ci && (ri_fit (ri_ft ci k) v && (Nat.blt k fs.length && ri_pk mi ci k)) then some (pc + 3, L, r, w.set a (.inr (ci, fs.set k v))) else none
      | _ => none)
    | _ => none)
  | none => none
def ri_iald (sl : Nat) (sx : Nat → Int32) (pc : Nat) (L : List (Option Value)) (S : List Value) (w : ri_W) : Option ri_St := match S with
  | .int i :: .ref 0 :: r => bif ri_in32 i sl then some (pc + 1, L, .int (sx i.toNatClampNeg) :: r, w) else none
  | .int i :: .ref (a + 1) :: r => (match w[a]? with
    | some (.inl (0, n, .inl f)) => bif ri_in32 i n then some (pc + 1, L, .int (f i.toNatClampNeg) :: r, w) else none
    | _ => none)
  | _ => none
def ri_iast (pc : Nat) (L : List (Option Value)) (S : List Value) (w : ri_W) : Option ri_St := match S with
  | .int x :: .int i :: .ref (a + 1) :: r => (match w[a]? with
    | some (.inl (0, n, .inl f)) => bif ri_in32 i n then some (pc + 1, L, r, w.set a (.inl (0, n, .inl (upd f i.toNatClampNeg x)))) else none
    | _ => none)
  | _ => none
def ri_zald (pc : Nat) (L : List (Option Value)) (S : List Value) (w : ri_W) : Option ri_St := match S with
  | .int i :: .ref (a + 1) :: r => (match w[a]? with
    | some (.inl (2, n, .inl f)) => bif ri_in32 i n then some (pc + 1, L, .int (f i.toNatClampNeg) :: r, w) else none
    | _ => none)
  | _ => none
def ri_zast (pc : Nat) (L : List (Option Value)) (S : List Value) (w : ri_W) : Option ri_St := match S with
  | .int x :: .int i :: .ref (a + 1) :: r => (match w[a]? with
    | some (.inl (2, n, .inl f)) => bif ri_in32 i n then some (pc + 1, L, r, w.set a (.inl (2, n, .inl (upd f i.toNatClampNeg (vp_nar .boolean x))))) else none
    | _ => none)
  | _ => none
def ri_lald (pc : Nat) (L : List (Option Value)) (S : List Value) (w : ri_W) : Option ri_St := match S with
  | .int i :: .ref (a + 1) :: r => (match w[a]? with
    | some (.inl (1, n, .inr (.inl f))) => bif ri_in32 i n then some (pc + 1, L, .long (f i.toNatClampNeg) :: r, w) else none
    | _ => none)
  | _ => none
def ri_last (pc : Nat) (L : List (Option Value)) (S : List Value) (w : ri_W) : Option ri_St := match S with
  | .long x :: .int i :: .ref (a + 1) :: r => (match w[a]? with
    | some (.inl (1, n, .inr (.inl f))) => bif ri_in32 i n then some (pc + 1, L, r, w.set a (.inl (1, n, .inr (.inl (vp_updL f i.toNatClampNeg x))))) else none
    | _ => none)
  | _ => none
def ri_alen (sl pc : Nat) (L : List (Option Value)) (S : List Value) (w : ri_W) : Option ri_St := match S with
  | .ref 0 :: r => some (pc + 1, L, .int (Int32.ofNat sl) :: r, w)
  | .ref (a + 1) :: r => (match w[a]? with
    | some (.inl (t, n, f)) => bif Nat.blt t 3 then some (pc + 1, L, .int (Int32.ofNat n) :: r, w) else none
    | _ => none)
  | _ => none
def ri_mm (mx : Bool) (x y : Int32) : Int32 := cond mx (if x < y then y else x) (if y < x then y else x)
def ri_rm (mi : Nat) (r : List Value) (k : Nat) : Bool := Nat.ble ((r.map Value.category).sum + k) (ri_lo mi) && Nat.blt 0 (ri_fr mi)
def ri_mat (mi : Nat) (mx : Bool) (pc : Nat) (L : List (Option Value)) (S : List Value) (w : ri_W) : Option ri_St := match S with
  | .int y :: .int x :: r => bif ri_rm mi r 13 then some (pc + 3, L, .int (ri_mm mx x y) :: r, w) else none
  | _ => none
def ri_obj (mi pc : Nat) (L : List (Option Value)) (S : List Value) (w : ri_W) : Option ri_St := match S with
  | .ref (_ + 1) :: r => bif ri_rm mi r 12 then some (pc + 3, L, r, w) else none
  | _ => none
/-- one plain instruction -/
def ri_op (sl : Nat) (sx : Nat → Int32) (mi : Nat) (i : Instr) (pc : Nat) (L : List (Option Value)) (S : List Value) (w : ri_W) : Option ri_St := match i with
  | .iconst k => ri_push (.int (ri_ic k)) 1 pc L S w
  | .bipush k => ri_push (.int (ri_ib k)) 2 pc L S w
  | .sipush k => ri_push (.int (ri_is k)) 3 pc L S w
  | .lconst k => ri_push (.long (ri_lc k)) 1 pc L S w
  | .ldc k => (match ri_ld mi k with
    | some v => ri_push (.int v) 2 pc L S w
    | none => none)
  | .ldc_w k => (match ri_ld mi k with
    | some v => ri_push (.int v) 3 pc L S w
    | none => none)
  | .iload k => ri_ild k 2 pc L S w
  | .iload_n k => ri_ild k.val 1 pc L S w
  | .aload k => ri_ald k 2 pc L S w
  | .aload_n k => ri_ald k.val 1 pc L S w
  | .istore k => ri_ist k 2 pc L S w
  | .istore_n k => ri_ist k.val 1 pc L S w
  | .astore k => ri_ast k 2 pc L S w
  | .astore_n k => ri_ast k.val 1 pc L S w
  | .iinc k d => ri_inc k (ri_ic d) pc L S w
  | .iadd => ri_bin (fun x y => x + y) pc L S w
  | .isub => ri_bin (fun x y => x - y) pc L S w
  | .imul => ri_bin (fun x y => x * y) pc L S w
  | .iand => ri_bin (fun x y => x &&& y) pc L S w
  | .ior => ri_bin (fun x y => x ||| y) pc L S w
  | .ixor => ri_bin (fun x y => x ^^^ y) pc L S w
  | .ishl => ri_bin (fun x y => x <<< (y &&& 31)) pc L S w
  | .ishr => ri_bin (fun x y => x >>> (y &&& 31)) pc L S w
  | .iushr => ri_bin (fun x y => (x.toUInt32 >>> (y.toUInt32 &&& Int32.toUInt32 31)).toInt32) pc L S w
  | .idiv => ri_div (fun x y => x / y) pc L S w
  | .irem => ri_div (fun x y => x - x / y * y) pc L S w
  | .dup => ri_dup pc L S w
  | .pop => ri_pop pc L S w
  | .dup2 => ri_d2 pc L S w
  | .ifCond c off => ri_if c off pc L S w
  | .if_icmp c off => ri_icmp c off pc L S w
  | .goto off => ri_goto off pc L S w
  | .tableswitch d lo hi offs => ri_tsw d lo hi offs pc L S w
  | .i2l => ri_i2l pc L S w
  | .lcmp => ri_lcmp pc L S w
  | .getfield x => ri_get mi x pc L S w
  | .putfield x => bif ri_pu mi then none else ri_put mi x pc L S w
  | .iaload => ri_iald sl sx pc L S w
  | .iastore => bif ri_pu mi then none else ri_iast pc L S w
  | .baload => ri_zald pc L S w
  | .bastore => bif ri_pu mi then none else ri_zast pc L S w
  | .laload => ri_lald pc L S w
  | .lastore => bif ri_pu mi then none else ri_last pc L S w
  | .arraylength => ri_alen sl pc L S w
  | .invokestatic x => (match ri_ca mi x with
    | some (3, _) => ri_mat mi true pc L S w
    | some (4, _) => ri_mat mi false pc L S w
    | _ => none)
  | .invokespecial x => (match ri_ca mi x with
    | some (5, _) => ri_obj mi pc L S w
    | _ => none)
  | _ => none
/-! in range: asked only where cells are made -/
def ri_in (n : Nat) (v : Value) : Bool := match v with
  | .ref k => Nat.ble k n
  | _ => true
def ri_inC (n : Nat) (c : ri_C) : Bool := match c with
  | .inl _ => true
  | .inr o => o.2.all (ri_in n)
def ri_inO (n : Nat) (o : Option Value) : Bool := match o with
  | some v => ri_in n v
  | none => true
def ri_chk (L : List (Option Value)) (S : List Value) (w : ri_W) : Bool := L.all (ri_inO w.length) && (S.all (ri_in w.length) && w.all (ri_inC w.length))
/-- an instruction that makes a cell: the state behind it, slots -/
def ri_mk (mi : Nat) (i : Instr) (pc : Nat) (L : List (Option Value)) (S : List Value) (w : ri_W) : Option (ri_St × Nat) := match i with
  | .new x => (match ri_ne mi x with
    | some ci => bif (ri_gr mi && !(ri_pu mi)) && ri_chk L S w then some ((pc + 3, L, .ref (w.length + 1) :: S, w ++ [.inr (ci, ri_df ci)]), (ri_df ci).length) else none
    | none => none)
  | .newarray t => (match S with
    | .int n :: r => bif ((ri_gr mi && !(ri_pu mi)) && ri_chk L S w) && (!(decide (n < 0)) && Nat.ble n.toNatClampNeg 1000) then
        (match t with
        | .int => some ((pc + 2, L, .ref (w.length + 1) :: r, w ++ [.inl (0, n.toNatClampNeg, .inl (fun _ => 0))]), n.toNatClampNeg)
        | .long => some ((pc + 2, L, .ref (w.length + 1) :: r, w ++ [.inl (1, n.toNatClampNeg, .inr (.inl (fun _ => 0)))]), n.toNatClampNeg)
        | .boolean => some ((pc + 2, L, .ref (w.length + 1) :: r, w ++ [.inl (2, n.toNatClampNeg, .inl (fun _ => 0))]), n.toNatClampNeg)
        | _ => none) else none
    | _ => none)
  | _ => none
def ri_rcv (km : Nat) (as : List Value) (w : ri_W) : Bool := match ri_kl km with
  | none => true
  | some ci => (match as with
    | .ref (a + 1) :: _ => (match w[a]? with
      | some (.inr (cj, _)) => Nat.beq cj ci
      | _ => false)
    | _ => false)
/-- a call: the callee, its arguments, the operands left -/
def ri_cl (mi : Nat) (i : Instr) (L : List (Option Value)) (S : List Value) (w : ri_W) : Option (Nat × List Value × List Value) :=
  match (match i with
    | .invokestatic x => (match ri_ca mi x with
      | some (0, km) => some (km, ri_ar km)
      | _ => none)
    | .invokevirtual x => (match ri_ca mi x with
      | some (1, km) => some (km, ri_ar km)
      | _ => none)
    | .invokespecial x => (match ri_ca mi x with
      | some (2, km) => some (km, ri_ar km)
      | _ => none)
    | _ => none) with
  | some (km, n) =>
    bif Nat.ble n S.length && ((S.take n).all ri_c1 && (Nat.ble n (ri_mL km) && (ri_rcv km (S.take n).reverse w
        && (Nat.blt (ri_fr km) (ri_fr mi) && (Nat.ble ((((S.drop n).map Value.category).sum + (ri_mL km + 11)) + ri_lo km) (ri_lo mi)
        && ((!(ri_pu mi) || ri_pu km) && (!(ri_gr km) || (ri_gr mi && (L.all (ri_inO w.length) && (S.drop n).all (ri_in w.length))))))))))
      then some (km, (S.take n).reverse, S.drop n) else none
  | none => none
def ri_ent (km : Nat) (as : List Value) : List (Option Value) := as.map some ++ List.replicate (ri_mL km - as.length) none
/-- the method's own end: a return, or 'new E; dup; invokespecial E.<init>; athrow' taken as one -/
def ri_end (mi : Nat) (i : Instr) (pc : Nat) (S : List Value) (w : ri_W) : Option ri_O := match i with
  | .new _ => (match ri_ts mi pc with
    | some ex => (match S with
      | [] => some (.inr ex, w, 1, 6)
      | _ => none)
    | none => none)
  | .ireturn => (match S with
    | [.int x] => (match ri_rt mi with
      | some .int => some (.inl (some x), w, 0, 0)
      | some .boolean => bif decide (x = 0) || decide (x = 1) then some (.inl (some x), w, 0, 0) else none
      | _ => none)
    | _ => none)
  | .return_ => (match S with
    | [] => (match ri_rt mi with
      | none => some (.inl none, w, 0, 0)
      | _ => none)
    | _ => none)
  | _ => none
def ri_add (c n : Nat) (o : Option ri_O) : Option ri_O := match o with
  | some (r, w, c', n') => some (r, w, c + c', n + n')
  | none => none
/-- where a handler begins: behind its first instruction, which stores the exception -/
def ri_han (mi pc ex : Nat) : Option (Nat × Nat) := match ri_hd mi pc ex with
  | some hp => (match ri_at mi hp with
    | some (.astore k) => bif ri_exk ex then some (hp + 2, k) else none
    | some (.astore_n k) => bif ri_exk ex then some (hp + 1, k.val) else none
    | _ => none)
  | none => none
/-- one step over what the calls below answer -/
def ri_step (sl : Nat) (sx : Nat → Int32) (rc : Nat → ri_St → Option ri_O) (mi : Nat) (st : ri_St) : Option ri_O := match ri_at mi st.1 with
  | none => none
  | some i => match ri_end mi i st.1 st.2.2.1 st.2.2.2 with
    | some o => some o
    | none => match ri_op sl sx mi i st.1 st.2.1 st.2.2.1 st.2.2.2 with
      | some st' => rc mi st'
      | none => match ri_mk mi i st.1 st.2.1 st.2.2.1 st.2.2.2 with
        | some (st', n) => ri_add 1 n (rc mi st')
        | none => match ri_cl mi i st.2.1 st.2.2.1 st.2.2.2 with
          | some (km, as, S') => (match rc km (0, ri_ent km as, [], st.2.2.2) with
            | some (.inl v, w', c', n') => ri_add c' n' (rc mi (st.1 + 3, st.2.1, (v.map Value.int).toList ++ S', w'))
            | some (.inr ex, w', c', n') => bif (ri_et mi).isEmpty then some (.inr ex, w', c', n') else (match ri_han mi st.1 ex with
              | some (hp, k) => bif Nat.blt k st.2.1.length then ri_add c' n' (rc mi (hp, st.2.1.set k none, [], w')) else none
              | none => none)
            | none => none)
          | none => none
def ri_run (sl : Nat) (sx : Nat → Int32) : Nat → Nat → ri_St → Option ri_O
  | 0 => fun _ _ => none
  | f + 1 => ri_step sl sx (ri_run sl sx f)
