/-! An instruction of the second machine; a method's run in it. -/
noncomputable section
/-- a call: method, arguments, what is known; what follows takes what it gives, and what is known then -/
abbrev yCl : Type := Nat → List yA → yS → yE → (Option yA → yS → Bool) → Bool
def yx_load (ok : yA → Bool) (len a pc : Nat) (L : List (Option yA)) (S : List yA) (st : yS) (k : yCfg → Bool) : Bool := match zget L a with
  | some (some v) => ok v && ygo (pc + len) L (v :: S) st k
  | _ => false
def yisI : yA → Bool
  | .inl _ => true
  | _ => false
def yisJ : yA → Bool
  | .inr (.inl _) => true
  | _ => false
def yisR : yA → Bool
  | .inr (.inr (.inl _)) => true
  | .inr (.inr (.inr (.inr _))) => true
  | _ => false
/-- is the place the second half of a long's -/
def yhalf (L : List (Option yA)) (a : Nat) : Bool := match a with
  | 0 => false
  | a + 1 => match zget L a with
    | some (some (.inr (.inl _))) => true
    | _ => false
def yseL (L : List (Option yA)) (a : Nat) (v : Option yA) (k : List (Option yA) → Bool) : Bool := match zset L a v (fun l => some (k l)) with
  | some b => b
  | none => false
def yx_store (ok : yA → Bool) (len a pc : Nat) (L : List (Option yA)) (S : List yA) (st : yS) (k : yCfg → Bool) : Bool := match S with
  | v :: r => ok v && (!(yhalf L a) && yseL L a (some v) fun L => ygo (pc + len) L r st k)
  | [] => false
def yx_lstore (len a pc : Nat) (L : List (Option yA)) (S : List yA) (st : yS) (k : yCfg → Bool) : Bool := match S with
  | v :: r => yisJ v && (!(yhalf L a) && yseL L a (some v) fun L => yseL L (a + 1) none fun L => ygo (pc + len) L r st k)
  | [] => false
def yx_iinc (a b pc : Nat) (L : List (Option yA)) (S : List yA) (st : yS) (k : yCfg → Bool) : Bool := match zget L a with
  | some (some (.inl e)) => !(yhalf L a) && yri (yoff e (Int32.ofNat b).toInt) st fun v st => yseL L a (some v) fun L => ygo (pc + 3) L S st k
  | _ => false
def yx_bin (op : yE → yE → yS → yK → Bool) (pc : Nat) (L : List (Option yA)) (S : List yA) (st : yS) (k : yCfg → Bool) : Bool := match S with
  | .inl y :: .inl x :: r => op x y st fun v st => ygo (pc + 1) L (v :: r) st k
  | _ => false
def yx_un (op : yE → yS → yK → Bool) (pc : Nat) (L : List (Option yA)) (S : List yA) (st : yS) (k : yCfg → Bool) : Bool := match S with
  | .inl x :: r => op x st fun v st => ygo (pc + 1) L (v :: r) st k
  | _ => false
/-- of two longs, any -/
def yx_lbin (op : yE → yE → yS → yK → Bool) (pc : Nat) (L : List (Option yA)) (S : List yA) (st : yS) (k : yCfg → Bool) : Bool := match S with
  | .inr (.inl y) :: .inr (.inl x) :: r => op x y st fun v st => ygo (pc + 1) L (v :: r) st k
  | _ => false
def yx_lsh (pc : Nat) (L : List (Option yA)) (S : List yA) (st : yS) (k : yCfg → Bool) : Bool := match S with
  | .inl _ :: .inr (.inl _) :: r => ytl st fun v st => ygo (pc + 1) L (v :: r) st k
  | _ => false
def yx_lcmp (pc : Nat) (L : List (Option yA)) (S : List yA) (st : yS) (k : yCfg → Bool) : Bool := match S with
  | .inr (.inl y) :: .inr (.inl x) :: r => yfE (ysu x y) fun e => ygo (pc + 1) L (.inr (.inr (.inr (.inl e))) :: r) st k
  | _ => false
def yx_i2l (pc : Nat) (L : List (Option yA)) (S : List yA) (st : yS) (k : yCfg → Bool) : Bool := match S with
  | .inl e :: r => ygo (pc + 1) L (.inr (.inl e) :: r) st k
  | _ => false
def yx_l2i (pc : Nat) (L : List (Option yA)) (S : List yA) (st : yS) (k : yCfg → Bool) : Bool := match S with
  | .inr (.inl e) :: r => (match yin (-2147483648) 2147483647 (yrg st.2.1 e) with
    | true => ygo (pc + 1) L (.inl e :: r) st k
    | false => ytp st fun v st => ygo (pc + 1) L (v :: r) st k)
  | _ => false
def yx_icmp (c : ClassFile.Cond) (a pc : Nat) (L : List (Option yA)) (S : List yA) (st : yS) (k : yCfg → Bool) : Bool := match S with
  | .inl y :: .inl x :: r => ybr c (ysu x y) st (fun st => ygo a L r st k) (fun st => ygo (pc + 3) L r st k)
  | _ => false
def yx_if (c : ClassFile.Cond) (a pc : Nat) (L : List (Option yA)) (S : List yA) (st : yS) (k : yCfg → Bool) : Bool := match S with
  | .inl x :: r => ybr c x st (fun st => ygo a L r st k) (fun st => ygo (pc + 3) L r st k)
  | .inr (.inr (.inr (.inl x))) :: r => ybr c x st (fun st => ygo a L r st k) (fun st => ygo (pc + 3) L r st k)
  | _ => false
def ypush (len : Nat) (v : yA) (pc : Nat) (L : List (Option yA)) (S : List yA) (st : yS) (k : yCfg → Bool) : Bool := ygo (pc + len) L (v :: S) st k
def yx_get (P : yPar) (a b pc : Nat) (L : List (Option yA)) (S : List yA) (st : yS) (k : yCfg → Bool) : Bool := match S with
  | .inr (.inr (.inl (e, t))) :: r => match zget P.1 t with
    | some (_, .inl (ci, rs)) => Nat.beq ci a && zst (b / 8) fun f => yint (Int.ofNat f) fun fi => match ylk e t ([], fi) st.2.2.2.2.1 with
      | some v => ygo (pc + 3) L (v :: r) st k
      | none => match zget rs f with
        | some ru => yfv P.1 ru st fun v st => yaddM e t ([], fi) v st fun st => ygo (pc + 3) L (v :: r) st k
        | none => false
    | _ => false
  | _ => false
def yx_put (P : yPar) (a b pc : Nat) (L : List (Option yA)) (S : List yA) (st : yS) (k : yCfg → Bool) : Bool := match S with
  | v :: .inr (.inr (.inl (e, t))) :: r => match zget P.1 t with
    | some (_, .inl (ci, rs)) => Nat.beq ci a && zst (b / 8) fun f => match zget rs f with
      | some ru => yck st (b / 2 % 4) ru v && (ymo P.2.1 t f && yint (Int.ofNat f) fun fi => ywr e t ([], fi) v st fun st => ygo (pc + 3) L r st k)
      | none => false
    | _ => false
  | _ => false
def yix (st : yS) (ix len : yE) : Bool := ylS st (ysu ([], 0) ix) && ylS st (yoff (ysu ix len) 1)
def yx_alen (P : yPar) (pc : Nat) (L : List (Option yA)) (S : List yA) (st : yS) (k : yCfg → Bool) : Bool := match S with
  | .inr (.inr (.inl (_, t))) :: r => match zget P.1 t with
    | some (_, .inr (_, len, _)) => yint (Int.ofNat len) fun n => ygo (pc + 1) L (.inl ([], n) :: r) st k
    | _ => false
  | .inr (.inr (.inr (.inr _))) :: r => (match P.2.2.2 with
    | some n => ygo (pc + 1) L (.inl n.1 :: r) st k
    | none => false)
  | _ => false
/-- the name of a place of the script -/
def yscr (ix : yE) (l : List (yE × yE)) : Option yE := List.rec (motive := fun _ => Option yE) none (fun q _ ih => match yeq q.1 ix with
  | true => some q.2
  | false => ih) l
def yaddP (p : (yE × Nat) × yE × yE × yE) (st : yS) (k : yS → Bool) : Bool := match st with
  | (nx, B, F, Z, M, P) => k (nx, B, F, Z, M, p :: P)
/-- a step back by a row of which it is known that so many may be done -/
def ygr1 (ix x : yE) (l : yP) (st : yS) (k : yS → Bool) : Bool := List.rec (motive := fun _ => Bool) (k st) (fun q _ ih => match Nat.beq q.1.2 920 && (ylS st (yoff (ysu ([], 0) q.2.1) 1) && (ylS st (ysu q.2.2.1 ix) && ylS st (yoff (ysu ix q.2.2.2) 1))) with
  | true => yasS (ysu ([], 0) x) st fun st => yasS (yoff (ysu x ix) 1) st fun st => yaddP ((([], 0), 920), yoff q.2.1 (-1), x, yoff x 1) st k
  | false => ih) l
def yaddG (t : Nat) (n lo hi : yE) (st : yS) (k : yS → Bool) : Bool := yfE n fun n => yfE lo fun lo => yfE hi fun hi => yaddP ((([], 0), t), n, lo, hi) st k
/-- on, where x is c -/
def yasQ (x : yE) (c : Int) (st : yS) (k : yS → Bool) : Bool := yasS (yoff x (-c)) st fun st => yasS (yoff (ysu ([], 0) x) c) st k
/-- on, where c is at most x -/
def yasG (x : yE) (c : Int) (st : yS) (k : yS → Bool) : Bool := yasS (yoff (ysu ([], 0) x) c) st k
/-- so many signs, brackets below a place: known, with what it says of their numbers -/
def yaddO (n b hi : yE) (st : yS) (k : yS → Bool) : Bool := yasS (ysu (yad n b) hi) st fun st => yaddG 921 n b hi st k
/-- a sign read of a row of which it is known how many there are -/
def ygro (ix x : yE) (l : yP) (st : yS) (k : yS → Bool) : Bool := List.rec (motive := fun _ => Bool) (k st) (fun q _ ih => match Nat.beq q.1.2 921 with
  | false => ih
  | true => match yeq (yoff ix 1) q.2.2.2 with
    | true => yasQ x 20 st (fun st => yasG q.2.2.1 1 st (yaddO q.2.1 (yoff q.2.2.1 (-1)) ix · k)) && (yasQ x 21 st (fun st => yaddO q.2.1 q.2.2.1 ix st k) && (yasS (yoff x (-19)) st (fun st => yasG q.2.1 1 st (yaddO (yoff q.2.1 (-1)) q.2.2.1 ix · k)) && yasG x 22 st (fun st => yasG q.2.1 1 st (yaddO (yoff q.2.1 (-1)) q.2.2.1 ix · k))))
    | false => match ylS st (yoff (ysu ix q.2.2.2) 1) with
      | true => yasQ x 20 st (fun st => yasG q.2.2.1 1 st k) && (yasS (yoff x (-19)) st k && yasG x 21 st k)
      | false => ih) l
/-- a sign written behind those of a row -/
def ygp1 (ix x : yE) (l : yP) (st : yS) (k : yS → Bool) : Bool := List.rec (motive := fun _ => Bool) (k st) (fun q _ ih => match Nat.beq q.1.2 921 && yeq q.2.2.2 ix with
  | false => ih
  | true => match yeq x ([], 20) with
    | true => yaddG 921 q.2.1 (yoff q.2.2.1 1) (yoff ix 1) st k
    | false => match yeq x ([], 21) with
      | true => yaddG 921 q.2.1 q.2.2.1 (yoff ix 1) st k
      | false => match ylS st (yoff x (-19)) || ylS st (yoff (ysu ([], 0) x) 22) with
        | true => yaddG 921 (yoff q.2.1 1) q.2.2.1 (yoff ix 1) st k
        | false => k st) l
def ygpu (one : Bool) (t : Nat) (ix x : yE) (st : yS) (k : yS → Bool) : Bool := match one && Nat.beq t 74 with
  | true => ygp1 ix x st.2.2.2.2.2 st k
  | false => k st
/-- a step read of a row that is legal from that place on -/
def ygrs (ix x : yE) (l : yP) (st : yS) (k : yS → Bool) : Bool := List.rec (motive := fun _ => Bool) (k st) (fun q _ ih => match Nat.beq q.1.2 940 && yeq q.2.2.1 ix with
  | false => ih
  | true => match yfKe 72 q.2.2.2 st.2.2.2.2.1 with
    | none => ih
    | some b => match yfKe 73 q.2.2.2 st.2.2.2.2.1 with
      | none => ih
      | some m => match ylS st (yoff (ysu ix (yad b m)) 1) with
        | false => ih
        | true => yasQ x 0 st (fun st => yasS (yoff q.2.1 (-63)) st (yaddG 940 (yoff q.2.1 1) (yoff ix 1) q.2.2.2 · k)) && (yasQ x 1 st (fun st => yasS (yoff q.2.1 (-63)) st fun st => yaddG 941 ([], 0) ix (yoff ix 1) st (yaddG 940 (yoff q.2.1 1) (yoff ix 1) q.2.2.2 · k)) && (yasQ x 2 st (fun st => yasG q.2.1 1 st (yaddG 940 q.2.1 (yoff ix 1) q.2.2.2 · k)) && (yasG x 3 st (fun st => yasG q.2.1 2 st (yaddG 940 (yoff q.2.1 (-1)) (yoff ix 1) q.2.2.2 · k)) && yasS (yoff x 1) st (fun st => yasG q.2.1 2 st (yaddG 940 (yoff q.2.1 (-1)) (yoff ix 1) q.2.2.2 · k)))))) l
/-- what is asked for, read behind its step -/
def ygra (ix x : yE) (l : yP) (st : yS) (k : yS → Bool) : Bool := List.rec (motive := fun _ => Bool) (k st) (fun q _ ih => match Nat.beq q.1.2 941 && (ylS st (ysu q.2.2.1 ix) && ylS st (yoff (ysu ix q.2.2.2) 1)) with
  | false => ih
  | true => yasG x 0 st fun st => yasS (yoff x (-5)) st k && (yasQ x 6 st k && yasQ x 7 st k)) l
def ygrd (one : Bool) (t : Nat) (ix x : yE) (st : yS) (k : yS → Bool) : Bool := match one with
  | false => k st
  | true => match Nat.beq t 99 with
    | true => ygr1 ix x st.2.2.2.2.2 st k
    | false => match Nat.beq t 74 with
      | true => ygro ix x st.2.2.2.2.2 st k
      | false => match Nat.beq t 70 with
        | true => ygrs ix x st.2.2.2.2.2 st k
        | false => match Nat.beq t 71 with
          | true => ygra ix x st.2.2.2.2.2 st k
          | false => k st
/-- how many steps a formula has, whose begin is known -/
def ygmn (one : Bool) (t : Nat) (ix : yE) (st : yS) : Option yE := match one && (Nat.beq t 73 && yany (fun q => Nat.beq q.1.2 940 && yeq q.2.2.2 ix) st.2.2.2.2.2) with
  | true => yfKe 72 ix st.2.2.2.2.1
  | false => none
def yx_ald (P : yPar) (isB : Bool) (pc : Nat) (L : List (Option yA)) (S : List yA) (st : yS) (k : yCfg → Bool) : Bool := match S with
  | .inl ix :: .inr (.inr (.inl (e, t))) :: r => match zget P.1 t with
    | some (cc, .inr (kd, len, ar)) => zkb isB kd && (yix st ix ([], Int.ofNat len) && (match ylk e t ix st.2.2.2.2.1 with
      | some v => yisI v && ygo (pc + 1) L (v :: r) st k
      | none => match ygmn (Nat.beq cc.1 cc.2) t ix st with
        | some b => yfr 0 2400 st fun x st => yasS (ysu b x) st fun st => yfE (ysu x b) fun y => yaddM e t ix (.inl y) st fun st => ygo (pc + 1) L (.inl y :: r) st k
        | none => yrr ar e t ix st fun x st => yaddM e t ix (.inl x) st fun st => ygrd (Nat.beq cc.1 cc.2) t ix x st fun st => ygo (pc + 1) L (.inl x :: r) st k))
    | _ => false
  | .inl ix :: .inr (.inr (.inr (.inr _))) :: r => !isB && (match P.2.2.2 with
    | some n => yix st ix n.1 && (match yscr ix n.2 with
      | some x => ygo (pc + 1) L (.inl x :: r) st k
      | none => ytp st fun v st => ygo (pc + 1) L (v :: r) st k)
    | none => false)
  | _ => false
/-- another place known of the same cell -/
def yoth (e : yE) (t : Nat) (M : yM) : Option (yE × yE) := List.rec (motive := fun _ => Option (yE × yE)) none (fun p _ ih => match Nat.beq p.1.2.1 t && yeq p.1.1 e with
  | true => (match p.2 with
    | .inr (.inl x) => some (p.1.2.2, x)
    | _ => ih)
  | false => ih) M
/-- a long of an array: the one that is known; or, apart, another's that is known, if it is the same place -/
def yx_lald (P : yPar) (pc : Nat) (L : List (Option yA)) (S : List yA) (st : yS) (k : yCfg → Bool) : Bool := match S with
  | .inl ix :: .inr (.inr (.inl (e, t))) :: r => match zget P.1 t with
    | some (_, .inr (kd, len, _)) => Nat.beq kd 3 && (yix st ix ([], Int.ofNat len) && (match ylk e t ix st.2.2.2.2.1 with
      | some v => yisJ v && ygo (pc + 1) L (v :: r) st k
      | none => match yoth e t st.2.2.2.2.1 with
        | some (i0, x0) => yeqb (ysu ix i0) st (fun st => yaddM e t ix (.inr (.inl x0)) st fun st => ygo (pc + 1) L (.inr (.inl x0) :: r) st k) (fun st => match ylS st (yoff (ysu ix i0) 1) || ylS st (yoff (ysu i0 ix) 1) with
          | true => ytl st fun v st => yaddM e t ix v st fun st => ygo (pc + 1) L (v :: r) st k
          | false => yasS (yoff (ysu ix i0) 1) st (fun st => ytl st fun v st => yaddM e t ix v st fun st => ygo (pc + 1) L (v :: r) st k) && yasS (yoff (ysu i0 ix) 1) st (fun st => ytl st fun v st => yaddM e t ix v st fun st => ygo (pc + 1) L (v :: r) st k))
        | none => ytl st fun v st => yaddM e t ix v st fun st => ygo (pc + 1) L (v :: r) st k))
    | _ => false
  | _ => false
/-- are the ints of bytes, of booleans as they are -/
def yna (kd : Nat) (ar : yAr) : Bool := match kd with
  | 0 => ile (-128) ar.1 && ile ar.2.1 127
  | 1 => ile 0 ar.1 && ile ar.2.1 1
  | _ => true
def yx_ast (P : yPar) (isB : Bool) (pc : Nat) (L : List (Option yA)) (S : List yA) (st : yS) (k : yCfg → Bool) : Bool := match S with
  | .inl v :: .inl ix :: .inr (.inr (.inl (e, t))) :: r => match zget P.1 t with
    | some (cc, .inr (kd, len, ar)) => zkb isB kd && (yix st ix ([], Int.ofNat len) && (ywc P.1 ar ix v st && (yna kd ar && (ymo P.2.1 t 0 && ywr e t ix (.inl v) st fun st => ygpu (Nat.beq cc.1 cc.2) t ix v st fun st => ygo (pc + 1) L r st k))))
    | _ => false
  | _ => false
def yx_last (P : yPar) (pc : Nat) (L : List (Option yA)) (S : List yA) (st : yS) (k : yCfg → Bool) : Bool := match S with
  | .inr (.inl v) :: .inl ix :: .inr (.inr (.inl (e, t))) :: r => match zget P.1 t with
    | some (_, .inr (kd, len, _)) => Nat.beq kd 3 && (yix st ix ([], Int.ofNat len) && (ymo P.2.1 t 0 && ywr e t ix (.inr (.inl v)) st fun st => ygo (pc + 1) L r st k))
    | _ => false
  | _ => false
/-- what a copy leaves of the places known -/
def ycpM (B : yBd) (e : yE) (t : Nat) (p : (yE × Nat × yE) × yA) : Bool := !(Nat.beq p.1.2.1 t) || ydf B p.1.1 e
def ycpP (B : yBd) (e : yE) (t : Nat) (p : (yE × Nat) × yE × yE × yE) : Bool := ygno t (yrdI p.1.2) && (!(Nat.beq p.1.2 t) || ydf B p.1.1 e)
/-- the places dp to dp + n of the one keep what is asked of them, when they are the other's sp to sp + n -/
def ycp1 (st : yS) (td ts : Nat) (sp dp n : yE) (mm r : Nat) : Bool := match mm with
  | 0 => false
  | m + 1 => (Nat.beq td ts && (match (ysu sp dp).1 with
    | [] => yz ((ysu sp dp).2 % Int.ofNat (m + 1))
    | _ :: _ => false)) || (match yrs st.2.1 (m + 1) dp with
    | some q => match yrg st.2.1 n with
      | some u => (ile (Int.ofNat r + 1) q.1 || ile (q.2 + u.2) (Int.ofNat r)) && ile (q.2 + u.2 - 1) (Int.ofNat m)
      | none => false
    | none => false)
def ycpS (st : yS) (td ts : Nat) (sp dp n : yE) (l : List (Nat × Nat × Int × Int)) : Bool := List.rec (motive := fun _ => Bool) true (fun p _ ih => ycp1 st td ts sp dp n p.1 p.2.1 && ih) l
def ycat : yA → Nat
  | .inr (.inl _) => 2
  | _ => 1
def ysum : List yA → Nat
  | [] => 0
  | v :: t => ycat v + ysum t
/-- what is known of the first places, up to an n, of an array -/
def yfst (st : yS) (e : yE) (t : Nat) (n : yE) (d : yE × yE) : yE × yE := List.rec (motive := fun _ => yE × yE) d (fun p _ ih => match Nat.beq p.1.2 t && (yeq p.1.1 e && ylS st (ysu n p.2.1)) with
  | true => p.2.2
  | false => ih) st.2.2.2.2.2
/-- what the places that are copied lie between -/
def ycpu (st : yS) (es : yE) (ts : Nat) (sp dp n : yE) (slo shi : Int) : yE × yE := match yeq dp ([], 0) && yeq sp ([], 0) with
  | true => yfst st es ts n (([], slo), ([], shi))
  | false => (([], slo), ([], shi))
/-- what is known after a copy -/
def ycpk (ed : yE) (td : Nat) (es : yE) (ts : Nat) (sp dp n : yE) (slo shi : Int) (st : yS) (k : yS → Bool) : Bool := match st with
  | (nx, B, F, Z, M, P) => yfil (ycpM B ed td) M fun M1 => yfil (ycpP B ed td) P fun P1 => match yeq dp ([], 0) && yeq sp ([], 0) with
    | true => k (nx, B, F, Z, M1, ((ed, td), n, yfst (nx, B, F, Z, M, P) es ts n (([], slo), ([], shi))) :: P1)
    | false => k (nx, B, F, Z, M1, P1)
def yx_copy (P : yPar) (pc : Nat) (L : List (Option yA)) (S : List yA) (st : yS) (k : yCfg → Bool) : Bool := match S with
  | .inl n :: .inl dp :: .inr (.inr (.inl (ed, td))) :: .inl sp :: .inr (.inr (.inl (es, ts))) :: r => match zget P.1 td with
    | some (_, .inr (2, ld, (dlo, dhi, dsp, 0))) => match zget P.1 ts with
      | some (_, .inr (2, ls, (slo, shi, _, _))) => Nat.ble td 899 && (Nat.ble (ysum r) 8 && (ylS st (ysu ([], 0) n) && (ylS st (ysu ([], 0) dp) && (ylS st (ysu ([], 0) sp) && (ylS st (yoff (yad sp n) (-(Int.ofNat ls))) && (ylS st (yoff (yad dp n) (-(Int.ofNat ld))) && (ylS st (ysu ([], dlo) (ycpu st es ts sp dp n slo shi).1) && (ylS st (ysu (ycpu st es ts sp dp n slo shi).2 ([], dhi)) && (ycpS st td ts sp dp n dsp && (ymo P.2.1 td 0 && ycpk ed td es ts sp dp n slo shi st fun st => ygo (pc + 3) L r st k))))))))))
      | _ => false
    | _ => false
  | _ => false
def ymm (isMax : Bool) (x y : yE) (st : yS) (k : yK) : Bool := match ylS st (ysu x y) with
  | true => k (.inl (match isMax with
    | true => y
    | false => x)) st
  | false => match ylS st (ysu y x) with
    | true => k (.inl (match isMax with
      | true => x
      | false => y)) st
    | false => match yrg st.2.1 x with
      | some p => match yrg st.2.1 y with
        | some q => (match isMax with
          | true => yfr (match ile p.1 q.1 with
            | true => q.1
            | false => p.1) (match ile p.2 q.2 with
            | true => q.2
            | false => p.2) st fun e st => k (.inl e) st
          | false => yfr (match ile p.1 q.1 with
            | true => p.1
            | false => q.1) (match ile p.2 q.2 with
            | true => p.2
            | false => q.2) st fun e st => k (.inl e) st)
        | none => false
      | none => false
def yx_mm (isMax : Bool) (pc : Nat) (L : List (Option yA)) (S : List yA) (st : yS) (k : yCfg → Bool) : Bool := match S with
  | .inl y :: .inl x :: r => Nat.ble (ysum r) 8 && ymm isMax x y st fun v st => ygo (pc + 3) L (v :: r) st k
  | _ => false
def yx_dup (pc : Nat) (L : List (Option yA)) (S : List yA) (st : yS) (k : yCfg → Bool) : Bool := match S with
  | x :: r => Nat.beq (ycat x) 1 && ygo (pc + 1) L (x :: x :: r) st k
  | _ => false
def yx_pop (pc : Nat) (L : List (Option yA)) (S : List yA) (st : yS) (k : yCfg → Bool) : Bool := match S with
  | x :: r => Nat.beq (ycat x) 1 && ygo (pc + 1) L r st k
  | _ => false
def yx_dup_x1 (pc : Nat) (L : List (Option yA)) (S : List yA) (st : yS) (k : yCfg → Bool) : Bool := match S with
  | x :: y :: r => Nat.beq (ycat x) 1 && (Nat.beq (ycat y) 1 && ygo (pc + 1) L (x :: y :: x :: r) st k)
  | _ => false
def yx_dup_x2 (pc : Nat) (L : List (Option yA)) (S : List yA) (st : yS) (k : yCfg → Bool) : Bool := match S with
  | x :: y :: z :: r => Nat.beq (ycat x) 1 && (Nat.beq (ycat y) 1 && (Nat.beq (ycat z) 1 && ygo (pc + 1) L (x :: y :: z :: x :: r) st k))
  | _ => false
def yx_dup2 (pc : Nat) (L : List (Option yA)) (S : List yA) (st : yS) (k : yCfg → Bool) : Bool := match S with
  | x :: y :: r => Nat.beq (ycat x) 1 && (Nat.beq (ycat y) 1 && ygo (pc + 1) L (x :: y :: x :: y :: r) st k)
  | _ => false
/-- one of a switch's ways; what follows them -/
def yway (e : yE) (v : Int) (st : yS) (k : yS → Bool) (rest : Bool) : Bool := match yin v v (yrg st.2.1 e) with
  | true => k st && rest
  | false => yasS (yoff e (-v)) st (fun st => yasS (yoff (ysu ([], 0) e) v) st k) && rest
def ytgt (pc : Nat) (off : Int) (k : Nat → Bool) : Bool := match (pc : Int) + off with
  | .ofNat n => zst n k
  | .negSucc _ => false
def yx_table (dflt lo hi : Int) (offs : Array Int) (pc : Nat) (L : List (Option yA)) (S : List yA) (st : yS) (k : yCfg → Bool) : Bool := match S with
  | .inl e :: r => yeqI (lo + Int.ofNat offs.toList.length - 1) hi && List.rec (motive := fun _ => Int → Bool) (fun _ => ytgt pc dflt fun tg => yasS (yoff e (1 - lo)) st (fun st => ygo tg L r st k) && yasS (yoff (ysu ([], 0) e) (hi + 1)) st (fun st => ygo tg L r st k)) (fun off _ ih v => yint v fun v => ytgt pc off fun tg => yway e v st (fun st => ygo tg L r st k) (ih (v + 1))) offs.toList lo
  | _ => false
def yx_lookup (dflt : Int) (ps : Array (Int × Int)) (pc : Nat) (L : List (Option yA)) (S : List yA) (st : yS) (k : yCfg → Bool) : Bool := match S with
  | .inl e :: r => List.rec (motive := fun _ => Bool) (ytgt pc dflt fun tg => ygo tg L r st k) (fun p _ ih => yint p.1 fun v => ytgt pc p.2 fun tg => yway e v st (fun st => ygo tg L r st k) ih) ps.toList
  | _ => false
def ypop : Nat → List yA → List yA → Option (List yA × List yA)
  | 0, S, acc => some (acc, S)
  | k + 1, v :: S, acc => ypop k S (v :: acc)
  | _ + 1, [], _ => none
def yx_callV (P : yPar) (call : yCl) (j b pc : Nat) (L : List (Option yA)) (S : List yA) (st : yS) (k : yCfg → Bool) : Bool := match ypop (b / 32) S [] with
  | some (as, .inr (.inr (.inl (e, t))) :: r) => match zget P.1 t with
    | some (_, .inl (ci, _)) => Nat.beq ci (b % 32) && (Nat.ble (ysum r) 8 && call j (.inr (.inr (.inl (e, t))) :: as) st P.2.2.1 fun q st => match q with
      | some v => ygo (pc + 3) L (v :: r) st k
      | none => ygo (pc + 3) L r st k)
    | _ => false
  | _ => false
def yx_callS (P : yPar) (call : yCl) (j b pc : Nat) (L : List (Option yA)) (S : List yA) (st : yS) (k : yCfg → Bool) : Bool := match ypop b S [] with
  | some (as, r) => Nat.ble (ysum r) 8 && call j as st P.2.2.1 fun q st => match q with
    | some v => ygo (pc + 3) L (v :: r) st k
    | none => ygo (pc + 3) L r st k
  | _ => false
abbrev ySt : Type := yPar → yCl → Nat → Nat → Nat → List (Option yA) → List yA → yS → (yCfg → Bool) → Bool
/-- from a text's place in the file to the char of it at the sum of two locals -/
def yx_chr (P : yPar) (pc : Nat) (L : List (Option yA)) (S : List yA) (st : yS) (k : yCfg → Bool) : Bool := match S with
  | [] => match zget L 1 with
    | some (some (.inl x)) => match zget L 4 with
      | some (some (.inl y)) => ylS st (ysu ([], 0) (yad x y)) && (ylS st (yoff (yad x y) (-175)) && (ylS st (yoff (ysu ([], 0) P.2.2.1) 4) && ytp st fun v st => ygo (pc + 9) L (v :: []) st k))
      | _ => false
    | _ => false
  | _ => false
/-- what does an instruction: chosen once for each -/
def ysel (i : Instr) : ySt := match i with
  | .iconst _ => fun P call a b => ypush 1 (.inl ([], (Int32.ofNat a).toInt))
  | .bipush _ => fun P call a b => ypush 2 (.inl ([], (Int32.ofNat a).toInt))
  | .sipush _ => fun P call a b => ypush 3 (.inl ([], (Int32.ofNat a).toInt))
  | .ldc _ => fun P call a b => ypush 2 (.inl ([], (Int32.ofNat a).toInt))
  | .ldc_w _ => fun P call a b => ypush 3 (.inl ([], (Int32.ofNat a).toInt))
  | .lconst _ => fun P call a b => ypush 1 (.inr (.inl ([], (Int64.ofNat a).toInt)))
  | .ldc2_w _ => fun P call a b => ypush 3 (.inr (.inl ([], (Int64.ofNat a).toInt)))
  | .iload _ => fun P call a b => yx_load yisI 2 a
  | .iload_n _ => fun P call a b => yx_load yisI 1 a
  | .aload _ => fun P call a b => yx_load yisR 2 a
  | .aload_n _ => fun P call a b => yx_load yisR 1 a
  | .lload _ => fun P call a b => yx_load yisJ 2 a
  | .lload_n _ => fun P call a b => yx_load yisJ 1 a
  | .istore _ => fun P call a b => yx_store yisI 2 a
  | .istore_n _ => fun P call a b => yx_store yisI 1 a
  | .astore _ => fun P call a b => yx_store yisR 2 a
  | .astore_n _ => fun P call a b => yx_store yisR 1 a
  | .lstore _ => fun P call a b => yx_lstore 2 a
  | .lstore_n _ => fun P call a b => yx_lstore 1 a
  | .iinc _ _ => fun P call a b => yx_iinc a b
  | .iadd => fun P call a b => yx_bin (fun x y => yri (yad x y))
  | .isub => fun P call a b => yx_bin (fun x y => yri (ysu x y))
  | .imul => fun P call a b => yx_bin ymul
  | .iand => fun P call a b => yx_bin yand
  | .ior => fun P call a b => yx_bin yior
  | .ishl => fun P call a b => yx_bin yshl
  | .ishr => fun P call a b => yx_bin yshr
  | .idiv => fun P call a b => yx_bin ydiv
  | .irem => fun P call a b => yx_bin ydiv
  | .i2b => fun P call a b => yx_un yi2b
  | .i2l => fun P call a b => yx_i2l
  | .l2i => fun P call a b => yx_l2i
  | .lor => fun P call a b => yx_lbin (fun _ _ => ytl)
  | .land => fun P call a b => yx_lbin (fun _ _ => ytl)
  | .ladd => fun P call a b => yx_lbin (fun _ _ => ytl)
  | .lmul => fun P call a b => yx_lbin (fun _ _ => ytl)
  | .lshl => fun P call a b => yx_lsh
  | .lshr => fun P call a b => yx_lsh
  | .lushr => fun P call a b => yx_lsh
  | .lcmp => fun P call a b => yx_lcmp
  | .if_icmp c _ => fun P call a b => yx_icmp c a
  | .ifCond c _ => fun P call a b => yx_if c a
  | .goto _ => fun P call a b pc L S st k => ygo a L S st k
  | .getfield _ => fun P call a b => yx_get P a b
  | .putfield _ => fun P call a b => yx_put P a b
  | .arraylength => fun P call a b => yx_alen P
  | .iaload => fun P call a b => yx_ald P false
  | .baload => fun P call a b => yx_ald P true
  | .laload => fun P call a b => yx_lald P
  | .iastore => fun P call a b => yx_ast P false
  | .bastore => fun P call a b => yx_ast P true
  | .lastore => fun P call a b => yx_last P
  | .dup => fun P call a b => yx_dup
  | .pop => fun P call a b => yx_pop
  | .dup_x1 => fun P call a b => yx_dup_x1
  | .dup_x2 => fun P call a b => yx_dup_x2
  | .dup2 => fun P call a b => yx_dup2
  | .tableswitch d lo hi offs => fun P call a b => yx_table d lo hi offs
  | .lookupswitch d ps => fun P call a b => yx_lookup d ps
  | .invokevirtual _ => fun P call a b => yx_callV P call a b
  | .invokestatic _ => fun P call a b => match a with
    | 0 => yx_copy P
    | 1 => yx_mm true
    | 2 => yx_mm false
    | j + 3 => yx_callS P call j b
  | .athrow => fun P call a b => yx_chr P
  | _ => fun _ _ _ _ _ _ _ _ _ => false
def yisRet : Instr → Bool
  | .ireturn => true
  | .lreturn => true
  | .return_ => true
  | _ => false
/-- from a place on, to each return, to each place at which it is to stop -/
def yrun (P : yPar) (cd : zCode) (call : yCl) (stop : Nat → Bool) (fin : yCfg → Bool) (n : Nat) : yCfg → Bool := Nat.rec (motive := fun _ => yCfg → Bool) (fun _ => false) (fun _ ih c => match zfetch cd c.1 with
  | some (i, a, b, _) => match yisRet i || stop c.1 with
    | true => fin c
    | false => ysel i P call a b c.1 c.2.1 c.2.2.1 c.2.2.2 ih
  | none => false) n
end
