/-! The third machine: what an instruction does to values as they are. Cells hold ints: of fields and places; of a ref the number of its cell. -/
noncomputable section
/-- an int | a long | a cell, its kind | the script -/
abbrev xV : Type := Int ⊕ (Int ⊕ ((Nat × Nat) ⊕ Unit))
abbrev xCf : Type := Nat × List (Option xV) × List xV × xC
abbrev xCl : Type := Nat → List xV → xC → Option (Int × xC)
/-- kinds of cells; what methods give: nothing 0, an int 1, a long 2 -/
abbrev xPar : Type := List yKd × List Nat
def xst (C : xC) (i j : Nat) (z : Int) : xC := fun i' j' => cond (Nat.beq i' i && Nat.beq j' j) z (C i' j')
def w64 (z : Int) : Int := Int.bmod z 18446744073709551616
def xg (b : Bool) {R : Type} (o : Option R) : Option R := match b with
  | true => o
  | false => none
section
variable {R : Type}
def xisI : xV → Bool
  | .inl _ => true
  | _ => false
def xisJ : xV → Bool
  | .inr (.inl _) => true
  | _ => false
def xisR : xV → Bool
  | .inr (.inr _) => true
  | _ => false
def xcat : xV → Nat
  | .inr (.inl _) => 2
  | _ => 1
def xsum : List xV → Nat
  | [] => 0
  | v :: t => xcat v + xsum t
def xhalf (L : List (Option xV)) (a : Nat) : Bool := match a with
  | 0 => false
  | a + 1 => match zget L a with
    | some (some (.inr (.inl _))) => true
    | _ => false
abbrev xK (R : Type) : Type := xCf → Option R
def xs_push (len : Nat) (v : xV) (pc : Nat) (L : List (Option xV)) (S : List xV) (C : xC) (k : xK R) : Option R := k (pc + len, L, v :: S, C)
def xs_load (ok : xV → Bool) (len a pc : Nat) (L : List (Option xV)) (S : List xV) (C : xC) (k : xK R) : Option R := match zget L a with
  | some (some v) => xg (ok v) (k (pc + len, L, v :: S, C))
  | _ => none
def xs_store (ok : xV → Bool) (len a pc : Nat) (L : List (Option xV)) (S : List xV) (C : xC) (k : xK R) : Option R := match S with
  | v :: r => xg (ok v && (!(xhalf L a) && Nat.blt a L.length)) (k (pc + len, L.set a (some v), r, C))
  | [] => none
def xs_lstore (len a pc : Nat) (L : List (Option xV)) (S : List xV) (C : xC) (k : xK R) : Option R := match S with
  | v :: r => xg (xisJ v && (!(xhalf L a) && Nat.blt (a + 1) L.length)) (k (pc + len, (L.set a (some v)).set (a + 1) none, r, C))
  | [] => none
def xs_iinc (a b pc : Nat) (L : List (Option xV)) (S : List xV) (C : xC) (k : xK R) : Option R := match zget L a with
  | some (some (.inl z)) => xg (!(xhalf L a)) (k (pc + 3, L.set a (some (.inl (w32 (z + (Int32.ofNat b).toInt)))), S, C))
  | _ => none
def xs_bin (f : Int → Int → Int) (pc : Nat) (L : List (Option xV)) (S : List xV) (C : xC) (k : xK R) : Option R := match S with
  | .inl y :: .inl x :: r => k (pc + 1, L, .inl (f x y) :: r, C)
  | _ => none
def xs_div (f : Int → Int → Int) (pc : Nat) (L : List (Option xV)) (S : List xV) (C : xC) (k : xK R) : Option R := match S with
  | .inl y :: .inl x :: r => cond (decide (y = 0)) none (k (pc + 1, L, .inl (f x y) :: r, C))
  | _ => none
def xs_un (f : Int → Int) (pc : Nat) (L : List (Option xV)) (S : List xV) (C : xC) (k : xK R) : Option R := match S with
  | .inl x :: r => k (pc + 1, L, .inl (f x) :: r, C)
  | _ => none
def xs_lbin (f : Int → Int → Int) (pc : Nat) (L : List (Option xV)) (S : List xV) (C : xC) (k : xK R) : Option R := match S with
  | .inr (.inl y) :: .inr (.inl x) :: r => k (pc + 1, L, .inr (.inl (f x y)) :: r, C)
  | _ => none
def xs_lsh (f : Int → Int → Int) (pc : Nat) (L : List (Option xV)) (S : List xV) (C : xC) (k : xK R) : Option R := match S with
  | .inl y :: .inr (.inl x) :: r => k (pc + 1, L, .inr (.inl (f x y)) :: r, C)
  | _ => none
def xs_lcmp (pc : Nat) (L : List (Option xV)) (S : List xV) (C : xC) (k : xK R) : Option R := match S with
  | .inr (.inl y) :: .inr (.inl x) :: r => k (pc + 1, L, .inl (cond (decide (y < x)) 1 (cond (decide (x = y)) 0 (-1))) :: r, C)
  | _ => none
def xs_i2l (pc : Nat) (L : List (Option xV)) (S : List xV) (C : xC) (k : xK R) : Option R := match S with
  | .inl x :: r => k (pc + 1, L, .inr (.inl x) :: r, C)
  | _ => none
def xs_l2i (pc : Nat) (L : List (Option xV)) (S : List xV) (C : xC) (k : xK R) : Option R := match S with
  | .inr (.inl x) :: r => k (pc + 1, L, .inl (w32 x) :: r, C)
  | _ => none
def xcb (c : ClassFile.Cond) (x y : Int) : Bool := match c with
  | .eq => decide (x = y)
  | .ne => decide (x ≠ y)
  | .lt => decide (x < y)
  | .ge => decide (y ≤ x)
  | .gt => decide (y < x)
  | .le => decide (x ≤ y)
def xs_icmp (c : ClassFile.Cond) (a pc : Nat) (L : List (Option xV)) (S : List xV) (C : xC) (k : xK R) : Option R := match S with
  | .inl y :: .inl x :: r => cond (xcb c x y) (k (a, L, r, C)) (k (pc + 3, L, r, C))
  | _ => none
def xs_if (c : ClassFile.Cond) (a pc : Nat) (L : List (Option xV)) (S : List xV) (C : xC) (k : xK R) : Option R := match S with
  | .inl x :: r => cond (xcb c x 0) (k (a, L, r, C)) (k (pc + 3, L, r, C))
  | _ => none
def xs_get (P : xPar) (a b pc : Nat) (L : List (Option xV)) (S : List xV) (C : xC) (k : xK R) : Option R := match S with
  | .inr (.inr (.inl (i, t))) :: r => match zget P.1 t with
    | some (_, .inl (ci, rs)) => match Nat.beq ci a with
      | true => match zget rs (b / 8) with
        | some (.inl _) => k (pc + 3, L, .inl (C i (b / 8)) :: r, C)
        | some (.inr (.inl _)) => k (pc + 3, L, .inr (.inl (C i (b / 8))) :: r, C)
        | some (.inr (.inr t')) => k (pc + 3, L, .inr (.inr (.inl ((C i (b / 8)).toNat, t'))) :: r, C)
        | none => none
      | false => none
    | _ => none
  | _ => none
/-- may a field of this sort (tc: int, boolean, ref, long) take the value; as what it lies there -/
def xck (tc : Nat) (ru : yRu) (v : xV) : Option Int := match ru with
  | .inl q => match v with
    | .inl z => match tc with
      | 0 => xg (ile q.1 (-2147483648) && ile 2147483647 q.2) (some z)
      | 1 => xg (ile q.1 0 && ile 1 q.2) (cond (decide (z = 0) || decide (z = 1)) (some z) none)
      | _ => none
    | _ => none
  | .inr (.inl _) => match v with
    | .inr (.inl z) => xg (Nat.beq tc 3) (some z)
    | _ => none
  | .inr (.inr t) => match v with
    | .inr (.inr (.inl (i, t'))) => xg (Nat.beq tc 2 && Nat.beq t t') (some (Int.ofNat i))
    | _ => none
def xs_put (P : xPar) (a b pc : Nat) (L : List (Option xV)) (S : List xV) (C : xC) (k : xK R) : Option R := match S with
  | v :: .inr (.inr (.inl (i, t))) :: r => match zget P.1 t with
    | some (_, .inl (ci, rs)) => match Nat.beq ci a with
      | true => match zget rs (b / 8) with
        | some ru => (xck (b / 2 % 4) ru v).bind fun z => k (pc + 3, L, r, xst C i (b / 8) z)
        | none => none
      | false => none
    | _ => none
  | _ => none
def xs_alen (P : xPar) (pc : Nat) (L : List (Option xV)) (S : List xV) (C : xC) (k : xK R) : Option R := match S with
  | .inr (.inr (.inl (_, t))) :: r => match zget P.1 t with
    | some (_, .inr (_, len, _)) => k (pc + 1, L, .inl (Int.ofNat len) :: r, C)
    | _ => none
  | _ => none
def xix (z : Int) (len : Nat) : Bool := decide (0 ≤ z) && decide (z < Int.ofNat len)
def xs_ald (P : xPar) (isB : Bool) (pc : Nat) (L : List (Option xV)) (S : List xV) (C : xC) (k : xK R) : Option R := match S with
  | .inl z :: .inr (.inr (.inl (i, t))) :: r => match zget P.1 t with
    | some (_, .inr (kd, len, _)) => xg (zkb isB kd) (cond (xix z len) (k (pc + 1, L, .inl (C i z.toNat) :: r, C)) none)
    | _ => none
  | _ => none
def xs_lald (P : xPar) (pc : Nat) (L : List (Option xV)) (S : List xV) (C : xC) (k : xK R) : Option R := match S with
  | .inl z :: .inr (.inr (.inl (i, t))) :: r => match zget P.1 t with
    | some (_, .inr (kd, len, _)) => xg (Nat.beq kd 3) (cond (xix z len) (k (pc + 1, L, .inr (.inl (C i z.toNat)) :: r, C)) none)
    | _ => none
  | _ => none
/-- may an array of bytes, of booleans, take the int as it is -/
def xna (kd : Nat) (z : Int) : Bool := match kd with
  | 0 => decide (-128 ≤ z) && decide (z ≤ 127)
  | 1 => decide (0 ≤ z) && decide (z ≤ 1)
  | _ => true
/-- are all ints of its sort an array's -/
def xar (kd : Nat) (ar : yAr) : Bool := (match ar.2.2.1 with
  | [] => true
  | _ :: _ => false) && (Nat.beq ar.2.2.2 0 && (match kd with
  | 0 => ile ar.1 (-128) && ile 127 ar.2.1
  | 1 => ile ar.1 0 && ile 1 ar.2.1
  | _ => ile ar.1 (-2147483648) && ile 2147483647 ar.2.1))
def xs_ast (P : xPar) (isB : Bool) (pc : Nat) (L : List (Option xV)) (S : List xV) (C : xC) (k : xK R) : Option R := match S with
  | .inl v :: .inl z :: .inr (.inr (.inl (i, t))) :: r => match zget P.1 t with
    | some (_, .inr (kd, len, ar)) => xg (zkb isB kd && xar kd ar) (cond (xix z len && xna kd v) (k (pc + 1, L, r, xst C i z.toNat v)) none)
    | _ => none
  | _ => none
def xs_last (P : xPar) (pc : Nat) (L : List (Option xV)) (S : List xV) (C : xC) (k : xK R) : Option R := match S with
  | .inr (.inl v) :: .inl z :: .inr (.inr (.inl (i, t))) :: r => match zget P.1 t with
    | some (_, .inr (kd, len, _)) => xg (Nat.beq kd 3) (cond (xix z len) (k (pc + 1, L, r, xst C i z.toNat v)) none)
    | _ => none
  | _ => none
def xs_dup (pc : Nat) (L : List (Option xV)) (S : List xV) (C : xC) (k : xK R) : Option R := match S with
  | x :: r => xg (Nat.beq (xcat x) 1) (k (pc + 1, L, x :: x :: r, C))
  | _ => none
def xs_pop (pc : Nat) (L : List (Option xV)) (S : List xV) (C : xC) (k : xK R) : Option R := match S with
  | x :: r => xg (Nat.beq (xcat x) 1) (k (pc + 1, L, r, C))
  | _ => none
def xs_dup_x1 (pc : Nat) (L : List (Option xV)) (S : List xV) (C : xC) (k : xK R) : Option R := match S with
  | x :: y :: r => xg (Nat.beq (xcat x) 1 && Nat.beq (xcat y) 1) (k (pc + 1, L, x :: y :: x :: r, C))
  | _ => none
def xs_dup2 (pc : Nat) (L : List (Option xV)) (S : List xV) (C : xC) (k : xK R) : Option R := match S with
  | x :: y :: r => xg (Nat.beq (xcat x) 1 && Nat.beq (xcat y) 1) (k (pc + 1, L, x :: y :: x :: y :: r, C))
  | _ => none
def xtgt (pc : Nat) (off : Int) (k : Nat → Option R) : Option R := match (pc : Int) + off with
  | .ofNat n => k n
  | .negSucc _ => none
def xs_table (dflt lo hi : Int) (offs : Array Int) (pc : Nat) (L : List (Option xV)) (S : List xV) (C : xC) (k : xK R) : Option R := match S with
  | .inl x :: r => xg (yeqI (lo + Int.ofNat offs.toList.length - 1) hi) (List.rec (motive := fun _ => Int → Option R) (fun _ => xtgt pc dflt fun tg => k (tg, L, r, C)) (fun off _ ih v => cond (decide (x = v)) (xtgt pc off fun tg => k (tg, L, r, C)) (ih (v + 1))) offs.toList lo)
  | _ => none
def xs_lookup (dflt : Int) (ps : Array (Int × Int)) (pc : Nat) (L : List (Option xV)) (S : List xV) (C : xC) (k : xK R) : Option R := match S with
  | .inl x :: r => List.rec (motive := fun _ => Option R) (xtgt pc dflt fun tg => k (tg, L, r, C)) (fun p _ ih => cond (decide (x = p.1)) (xtgt pc p.2 fun tg => k (tg, L, r, C)) ih) ps.toList
  | _ => none
def xpop : Nat → List xV → List xV → Option (List xV × List xV)
  | 0, S, acc => some (acc, S)
  | k + 1, v :: S, acc => xpop k S (v :: acc)
  | _ + 1, [], _ => none
/-- what follows a call of a method -/
def xaft (rk : Nat) (pc : Nat) (L : List (Option xV)) (r : List xV) (k : xK R) (q : Int × xC) : Option R := match rk with
  | 0 => k (pc + 3, L, r, q.2)
  | 1 => k (pc + 3, L, .inl q.1 :: r, q.2)
  | _ => k (pc + 3, L, .inr (.inl q.1) :: r, q.2)
def xs_callV (P : xPar) (call : xCl) (j b pc : Nat) (L : List (Option xV)) (S : List xV) (C : xC) (k : xK R) : Option R := match xpop (b / 32) S [] with
  | some (as, .inr (.inr (.inl (i, t))) :: r) => match zget P.1 t with
    | some (_, .inl (ci, _)) => match Nat.beq ci (b % 32) && Nat.ble (xsum r) 8 with
      | true => match zget P.2 j with
        | some rk => (call j (.inr (.inr (.inl (i, t))) :: as) C).bind (xaft rk pc L r k)
        | none => none
      | false => none
    | _ => none
  | _ => none
def xs_callS (P : xPar) (call : xCl) (j b pc : Nat) (L : List (Option xV)) (S : List xV) (C : xC) (k : xK R) : Option R := match xpop b S [] with
  | some (as, r) => match Nat.ble (xsum r) 8 with
    | true => match zget P.2 j with
      | some rk => (call j as C).bind (xaft rk pc L r k)
      | none => none
    | false => none
  | _ => none
/-- the sign of a text at word + i (locals 1 and 4) -/
def xs_chr (pc : Nat) (L : List (Option xV)) (S : List xV) (C : xC) (k : xK R) : Option R := match S with
  | [] => match zget L 1 with
    | some (some (.inl x)) => match zget L 4 with
      | some (some (.inl y)) => cond (decide (0 ≤ x + y) && decide (x + y < 176)) (k (pc + 9, L, .inl (sCh (yWb.getD (x + y).toNat 0)).toInt :: [], C)) none
      | _ => none
    | _ => none
  | _ => none
/-- the greater, the smaller of two ints -/
def xs_mm (f : Int → Int → Int) (pc : Nat) (L : List (Option xV)) (S : List xV) (C : xC) (k : xK R) : Option R := match S with
  | .inl y :: .inl x :: r => xg (Nat.ble (xsum r) 8) (k (pc + 3, L, .inl (f x y) :: r, C))
  | _ => none
/-- n places of the cell i, from sp on, are put into the cell j, from dp on -/
def xcp (C : xC) (i sp j dp n : Nat) : xC := fun i' j' => if i' = j ∧ dp ≤ j' ∧ j' < dp + n then C i (sp + (j' - dp)) else C i' j'
def xs_copy (P : xPar) (pc : Nat) (L : List (Option xV)) (S : List xV) (C : xC) (k : xK R) : Option R := match S with
  | .inl n :: .inl dp :: .inr (.inr (.inl (j, td))) :: .inl sp :: .inr (.inr (.inl (i, ts))) :: r => match zget P.1 td with
    | some (_, .inr (kd, ld, ar)) => match zget P.1 ts with
      | some (_, .inr (ks, lsr, _)) => xg (Nat.beq kd 2 && (Nat.beq ks 2 && (xar kd ar && Nat.ble (xsum r) 8))) (cond (decide (0 ≤ n) && (decide (0 ≤ dp) && (decide (0 ≤ sp) && (decide (sp + n ≤ Int.ofNat lsr) && decide (dp + n ≤ Int.ofNat ld))))) (k (pc + 3, L, r, xcp C i sp.toNat j dp.toNat n.toNat)) none)
      | _ => none
    | _ => none
  | _ => none
abbrev xSt (R : Type) : Type := xPar → xCl → Nat → Nat → Nat → List (Option xV) → List xV → xC → xK R → Option R
def x64 (f : Int64 → Int64 → Int64) (x y : Int) : Int := (f (Int64.ofInt x) (Int64.ofInt y)).toInt
def xsh (f : Int64 → Int64 → Int64) (x y : Int) : Int := (f (Int64.ofInt x) (Int32.ofInt y).toInt64).toInt
def xsel (i : Instr) : xSt R := match i with
  | .iconst _ => fun P call a b => xs_push 1 (.inl (Int32.ofNat a).toInt)
  | .bipush _ => fun P call a b => xs_push 2 (.inl (Int32.ofNat a).toInt)
  | .sipush _ => fun P call a b => xs_push 3 (.inl (Int32.ofNat a).toInt)
  | .ldc _ => fun P call a b => xs_push 2 (.inl (Int32.ofNat a).toInt)
  | .ldc_w _ => fun P call a b => xs_push 3 (.inl (Int32.ofNat a).toInt)
  | .lconst _ => fun P call a b => xs_push 1 (.inr (.inl (Int64.ofNat a).toInt))
  | .ldc2_w _ => fun P call a b => xs_push 3 (.inr (.inl (Int64.ofNat a).toInt))
  | .iload _ => fun P call a b => xs_load xisI 2 a
  | .iload_n _ => fun P call a b => xs_load xisI 1 a
  | .aload _ => fun P call a b => xs_load xisR 2 a
  | .aload_n _ => fun P call a b => xs_load xisR 1 a
  | .lload _ => fun P call a b => xs_load xisJ 2 a
  | .lload_n _ => fun P call a b => xs_load xisJ 1 a
  | .istore _ => fun P call a b => xs_store xisI 2 a
  | .istore_n _ => fun P call a b => xs_store xisI 1 a
  | .astore _ => fun P call a b => xs_store xisR 2 a
  | .astore_n _ => fun P call a b => xs_store xisR 1 a
  | .lstore _ => fun P call a b => xs_lstore 2 a
  | .lstore_n _ => fun P call a b => xs_lstore 1 a
  | .iinc _ _ => fun P call a b => xs_iinc a b
  | .iadd => fun P call a b => xs_bin (fun x y => w32 (x + y))
  | .isub => fun P call a b => xs_bin (fun x y => w32 (x - y))
  | .imul => fun P call a b => xs_bin (fun x y => w32 (x * y))
  | .iand => fun P call a b => xs_bin (x32 (· &&& ·))
  | .ior => fun P call a b => xs_bin (x32 (· ||| ·))
  | .ishl => fun P call a b => xs_bin (x32 fun x y => x <<< (y &&& 31))
  | .ishr => fun P call a b => xs_bin (x32 fun x y => x >>> (y &&& 31))
  | .idiv => fun P call a b => xs_div (x32 (· / ·))
  | .irem => fun P call a b => xs_div (x32 fun x y => x - x / y * y)
  | .i2b => fun P call a b => xs_un (fun x => Int.bmod x 256)
  | .i2l => fun P call a b => xs_i2l
  | .l2i => fun P call a b => xs_l2i
  | .lor => fun P call a b => xs_lbin (x64 (· ||| ·))
  | .land => fun P call a b => xs_lbin (x64 (· &&& ·))
  | .ladd => fun P call a b => xs_lbin (fun x y => w64 (x + y))
  | .lmul => fun P call a b => xs_lbin (fun x y => w64 (x * y))
  | .lshl => fun P call a b => xs_lsh (xsh fun x y => x <<< (y &&& 63))
  | .lshr => fun P call a b => xs_lsh (xsh fun x y => x >>> (y &&& 63))
  | .lcmp => fun P call a b => xs_lcmp
  | .if_icmp c _ => fun P call a b => xs_icmp c a
  | .ifCond c _ => fun P call a b => xs_if c a
  | .goto _ => fun P call a b pc L S C k => k (a, L, S, C)
  | .getfield _ => fun P call a b => xs_get P a b
  | .putfield _ => fun P call a b => xs_put P a b
  | .arraylength => fun P call a b => xs_alen P
  | .iaload => fun P call a b => xs_ald P false
  | .baload => fun P call a b => xs_ald P true
  | .laload => fun P call a b => xs_lald P
  | .iastore => fun P call a b => xs_ast P false
  | .bastore => fun P call a b => xs_ast P true
  | .lastore => fun P call a b => xs_last P
  | .dup => fun P call a b => xs_dup
  | .pop => fun P call a b => xs_pop
  | .dup_x1 => fun P call a b => xs_dup_x1
  | .dup2 => fun P call a b => xs_dup2
  | .tableswitch d lo hi offs => fun P call a b => xs_table d lo hi offs
  | .lookupswitch d ps => fun P call a b => xs_lookup d ps
  | .invokevirtual _ => fun P call j b => xs_callV P call j b
  | .invokestatic _ => fun P call a b => (match a with
    | 0 => xs_copy P
    | 1 => xs_mm (fun x y => max x y)
    | 2 => xs_mm (fun x y => min x y)
    | j + 3 => xs_callS P call j b)
  | .athrow => fun P call a b => xs_chr
  | _ => fun _ _ _ _ _ _ _ _ _ => none
end
/-- on, to where it stops (a return, a place of those that are named); the first instruction is done -/
def xto (P : xPar) (cd : zCode) (call : xCl) (stop : Nat → Bool) : Nat → xCf → Option xCf := fun n => Nat.rec (motive := fun _ => xCf → Option xCf) (fun _ => none) (fun _ ih cf => match zfetch cd cf.1 with
  | some (i, a, b, _) => match yisRet i || stop cf.1 with
    | true => some cf
    | false => xsel i P call a b cf.1 cf.2.1 cf.2.2.1 cf.2.2.2 ih
  | none => none) n
/-- one instruction at least -/
def xseg (P : xPar) (cd : zCode) (call : xCl) (stop : Nat → Bool) (n : Nat) (cf : xCf) : Option xCf := match zfetch cd cf.1 with
  | some (i, a, b, _) => match yisRet i with
    | true => none
    | false => xsel i P call a b cf.1 cf.2.1 cf.2.2.1 cf.2.2.2 (xto P cd call stop n)
  | none => none
end
