/-! The second machine: what it holds at a place of a method, and what an instruction does there. All is asked as a question: does what follows hold for all that may come. -/
noncomputable section
/-- an int | a long | a ref, its kind | the sign of | the script -/
abbrev yA : Type := yE ⊕ (yE ⊕ ((yE × Nat) ⊕ (yE ⊕ Unit)))
/-- what some places of cells hold: cell, kind, place, value -/
abbrev yM : Type := List ((yE × Nat × yE) × yA)
/-- what the first n places of an array lie between: cell, kind, n, least, most -/
abbrev yP : Type := List ((yE × Nat) × yE × yE × yE)
/-- how many numbers are named, their bounds, facts, what is not 0, places, stretches -/
abbrev yS : Type := Nat × yBd × List yE × List yE × yM × yP
abbrev yCfg : Type := Nat × List (Option yA) × List yA × yS
/-- what a field holds: an int between | a long | a ref of a kind -/
abbrev yRu : Type := (Int × Int) ⊕ (Unit ⊕ Nat)
/-- what an array's places hold: least, most; of those that are r by m others; of another sort -/
abbrev yAr : Type := Int × Int × List (Nat × Nat × Int × Int) × Nat
/-- a kind of cells: their numbers from, to; objects: what they are, fields | arrays: type, length, places -/
abbrev yKd : Type := (Nat × Nat) × ((Nat × List yRu) ⊕ (Nat × Nat × yAr))
/-- the kinds; what may be written; how deep calls may go; the script's length, and places of it that have a name -/
abbrev yPar : Type := List yKd × Option (List (Nat × Nat)) × yE × Option (yE × List (yE × yE))
abbrev yK : Type := yA → yS → Bool
def ygo (pc : Nat) (L : List (Option yA)) (S : List yA) (st : yS) (k : yCfg → Bool) : Bool := zst pc fun pc => k (pc, L, S, st)
def yfr (lo hi : Int) (st : yS) (k : yE → yS → Bool) : Bool := match st with
  | (nx, B, r) => zst nx fun nx => zst (nx + 1) fun n1 => yint lo fun lo => yint hi fun hi => k ([(nx, 1)], 0) (n1, (nx, lo, hi) :: B, r)
def ytp (st : yS) (k : yK) : Bool := yfr (-2147483648) 2147483647 st fun e st => k (.inl e) st
def ytl (st : yS) (k : yK) : Bool := yfr (-9223372036854775808) 9223372036854775807 st fun e st => k (.inr (.inl e)) st
def yin (lo hi : Int) (q : Option (Int × Int)) : Bool := match q with
  | some q => ile lo q.1 && ile q.2 hi
  | none => false
/-- a sum that is an int if it is small enough; else any -/
def yri (e : yE) (st : yS) (k : yK) : Bool := yfE e fun e => match yin (-2147483648) 2147483647 (yrg st.2.1 e) with
  | true => k (.inl e) st
  | false => ytp st k
def ylS (st : yS) (e : yE) : Bool := yle st.2.1 st.2.2.1 e
/-- on, with a sum at most 0 -/
def yasS (e : yE) (st : yS) (k : yS → Bool) : Bool := match st with
  | (nx, B, F, r) => yfE e fun e => yas e B F fun B F => k (nx, B, F, r)
def yprd (p q : Int × Int) : Option (Int × Int) :=
  let a := p.1 * q.1
  let b := p.1 * q.2
  let c := p.2 * q.1
  let d := p.2 * q.2
  some (min (min a b) (min c d), max (max a b) (max c d))
def ymul (a b : yE) (st : yS) (k : yK) : Bool := match a.1 with
  | [] => yri (ysc a.2 b) st k
  | _ :: _ => match b.1 with
    | [] => yri (ysc b.2 a) st k
    | _ :: _ => match yrg st.2.1 a with
      | none => ytp st k
      | some p => match yrg st.2.1 b with
        | none => ytp st k
        | some q => match ile 0 p.1 && (ile 0 q.1 && ile (p.2 * q.2) 2147483647) with
          | true => yfr (p.1 * q.1) (p.2 * q.2) st fun e st => k (.inl e) st
          | false => ytp st k
/-- a sum as so many times another, and the rest -/
def yspT (m : Int) (l : yT) : yT × yT := List.rec (motive := fun _ => yT × yT) ([], []) (fun p _ ih => match yz (p.2 % m) with
  | true => ((p.1, p.2 / m) :: ih.1, ih.2)
  | false => (ih.1, p :: ih.2)) l
def ysp (m : Int) (e : yE) : yE × yE := (((yspT m e.1).1, e.2 / m), ((yspT m e.1).2, e.2 % m))
def ymsk (m : Int) : Bool := yeqI m 1 || (yeqI m 15 || (yeqI m 63 || (yeqI m 255 || (yeqI m 1023 || yeqI m 8191))))
def yand1 (a : yE) (m : Int) (st : yS) (k : yK) : Bool := match ymsk m with
  | false => ytp st k
  | true => yfE (ysp (m + 1) a).2 fun r => match yin 0 m (yrg st.2.1 r) with
    | true => k (.inl r) st
    | false => yfr 0 m st fun e st => k (.inl e) st
def yand (a b : yE) (st : yS) (k : yK) : Bool := match b.1 with
  | [] => yand1 a b.2 st k
  | _ :: _ => match a.1 with
    | [] => yand1 b a.2 st k
    | _ :: _ => ytp st k
def yior (a b : yE) (st : yS) (k : yK) : Bool := match yeq (ysp 16 a).2 ([], 0) && yin 0 15 (yrg st.2.1 b) with
  | true => yri (yad a b) st k
  | false => ytp st k
def yshl (a b : yE) (st : yS) (k : yK) : Bool := match yeq b ([], 4) with
  | false => ytp st k
  | true => yfE (ysc 16 a) fun e => match yin (-2147483648) 2147483647 (yrg st.2.1 e) with
    | true => k (.inl e) st
    | false => yfr (-134217728) 134217727 st fun e st => match e.1 with
      | p :: _ => k (.inl ([(p.1, 16)], 0)) st
      | [] => false
def yshr (a b : yE) (st : yS) (k : yK) : Bool := match yeq b ([], 4) with
  | false => ytp st k
  | true => match yin 0 15 (yrg st.2.1 (ysp 16 a).2) with
    | true => yfE (ysp 16 a).1 fun e => k (.inl e) st
    | false => yfr (-134217728) 134217727 st fun e st => k (.inl e) st
def yanyZ (st : yS) (e : yE) : Bool := List.rec (motive := fun _ => Bool) false (fun f _ ih => yeq f e || ih) st.2.2.2.1
def ynz (st : yS) (e : yE) : Bool := ylS st (yoff e 1) || (ylS st (yoff (ysu ([], 0) e) 1) || yanyZ st e)
def ydiv (a b : yE) (st : yS) (k : yK) : Bool := ynz st b && ytp st k
def yi2b (a : yE) (st : yS) (k : yK) : Bool := match yin (-128) 127 (yrg st.2.1 a) with
  | true => k (.inl a) st
  | false => yfr (-128) 127 st fun e st => k (.inl e) st
/-- p at most 0, or else n -/
def ycs (p n : yE) (st : yS) (kt kf : yS → Bool) : Bool := yfE p fun p => yfE n fun n => match ylS st n with
  | true => kf st
  | false => match ylS st p with
    | true => kt st
    | false => yasS p st kt && yasS n st kf
def yeqb (e : yE) (st : yS) (kt kf : yS → Bool) : Bool := yfE (ysu ([], 0) e) fun n => match ylS st e with
  | true => match ylS st n with
    | true => kt st
    | false => match ylS st (yoff e 1) || (yanyZ st e || yanyZ st n) with
      | true => kf st
      | false => yasS n st kt && yasS (yoff e 1) st kf
  | false => match ylS st n with
    | true => match ylS st (yoff n 1) || (yanyZ st e || yanyZ st n) with
      | true => kf st
      | false => yasS e st kt && yasS (yoff n 1) st kf
    | false => match yanyZ st e || yanyZ st n with
      | true => kf st
      | false => yasS e st (fun st => yasS n st kt) && match st with
        | (nx, B, F, Z, r) => kf (nx, B, F, e :: Z, r)
def ybr (c : ClassFile.Cond) (e : yE) (st : yS) (kt kf : yS → Bool) : Bool := yfE e fun e => match c with
  | .eq => yeqb e st kt kf
  | .ne => yeqb e st kf kt
  | .lt => ycs (yoff e 1) (ysu ([], 0) e) st kt kf
  | .ge => ycs (ysu ([], 0) e) (yoff e 1) st kt kf
  | .gt => ycs (yoff (ysu ([], 0) e) 1) e st kt kf
  | .le => ycs e (yoff (ysu ([], 0) e) 1) st kt kf
-- places of cells
def ylk (e : yE) (t : Nat) (ix : yE) (M : yM) : Option yA := List.rec (motive := fun _ => Option yA) none (fun p _ ih => match Nat.beq p.1.2.1 t && (yeq p.1.1 e && yeq p.1.2.2 ix) with
  | true => some p.2
  | false => ih) M
def ydf (B : yBd) (a b : yE) : Bool := match yrg B (ysu a b) with
  | none => false
  | some q => ile 1 q.1 || ile q.2 (-1)
def yfil {α : Type} (f : α → Bool) (l : List α) : (List α → Bool) → Bool := List.rec (motive := fun _ => (List α → Bool) → Bool) (fun k => k []) (fun x _ ih k => match f x with
  | true => ih fun t => k (x :: t)
  | false => ih k) l
/-- what a write at a place leaves of the places known -/
def ykpM (B : yBd) (e : yE) (t : Nat) (ix : yE) (p : (yE × Nat × yE) × yA) : Bool := !(Nat.beq p.1.2.1 t) || (ydf B p.1.1 e || ydf B p.1.2.2 ix)
def ywi (st : yS) (v : yA) (lo hi : yE) : Bool := match v with
  | .inl x => ylS st (ysu lo x) && ylS st (ysu x hi)
  | _ => false
/-- the kind of what is read: 202 .. 223 are cells of the class's two lands -/
def yrk (t : Nat) : Nat := match Nat.ble 202 t && Nat.ble t 223 with
  | true => (match Nat.ble 213 t with
    | true => t - 211
    | false => t - 200)
  | false => t
/-- of which single fields are read -/
def yobj (t : Nat) : Bool := Nat.beq t 63 || (Nat.beq t 202 || Nat.beq t 213)
/-- what a ghost fact of a kind reads: kinds of arrays (63: fields), from a place on, to so many n and hi and some -/
def yrdT : List (Nat × List (Nat × Int × Int × Int × Int)) := [(920, [(99, 0, 0, 1, 0)]), (921, [(74, 0, 0, 1, 0)]), (922, [(66, 0, 0, 1, 0), (67, 0, 0, 1, 0)]),
  (930, [(63, 50, 0, 0, 51), (63, 51, 0, 0, 52), (63, 52, 0, 0, 53), (63, 53, 0, 0, 54), (63, 60, 0, 0, 61), (63, 61, 0, 0, 62), (88, 0, 0, 0, 11), (70, 0, 0, 0, 2400), (71, 0, 0, 0, 2400), (72, 0, 0, 0, 65), (73, 0, 0, 0, 65)]),
  (932, [(63, 50, 0, 0, 51), (63, 51, 0, 0, 52)]), (933, [(70, 0, 0, 0, 2400), (71, 0, 0, 0, 2400), (72, 0, 0, 0, 65), (73, 0, 0, 0, 65)]), (940, [(70, 0, 0, 0, 2400), (71, 0, 0, 0, 2400), (72, 0, 0, 0, 65), (73, 0, 0, 0, 65)]), (941, [(71, 0, 0, 1, 0)]),
  (950, [(63, 2, 0, 0, 3), (63, 23, 0, 0, 24), (63, 43, 0, 0, 44), (63, 44, 0, 0, 45), (63, 45, 0, 0, 46), (63, 46, 0, 0, 47), (63, 58, 0, 0, 59), (63, 59, 0, 0, 60), (81, 0, 0, 0, 11), (66, 0, 0, 0, 2400), (67, 0, 0, 0, 2400), (68, 0, 0, 0, 65), (69, 0, 0, 0, 65)]),
  (961, [(70, 0, 1, 0, 0), (66, 0, 1, 0, 0)]), (962, [(71, 0, 1, 0, 0), (67, 0, 1, 0, 0)]), (963, [(72, 0, 1, 0, 0), (68, 0, 1, 0, 0)]), (964, [(73, 0, 1, 0, 0), (69, 0, 1, 0, 0)]), (965, [(88, 0, 1, 0, 0), (81, 0, 1, 0, 0)]),
  (970, [(1, 0, 1, 0, 0), (64, 0, 1, 0, 0)]), (972, [(1, 0, 0, 1, 0)]), (973, [(1, 0, 0, 1, 0)]), (974, [(1, 0, 0, 1, 0)]), (975, [(53, 0, 0, 0, 20), (109, 0, 0, 0, 20)]), (976, [(109, 0, 0, 0, 20)]),
  (977, [(202, 0, 0, 0, 1), (202, 1, 0, 0, 2), (203, 0, 0, 0, 5), (204, 0, 0, 0, 6), (205, 0, 0, 0, 6), (208, 0, 0, 0, 11), (209, 0, 0, 0, 44), (210, 0, 0, 0, 65), (211, 0, 0, 0, 65), (212, 0, 0, 0, 1024), (213, 0, 0, 0, 1), (213, 1, 0, 0, 2), (214, 0, 0, 0, 5), (215, 0, 0, 0, 6), (216, 0, 0, 0, 6), (219, 0, 0, 0, 11), (220, 0, 0, 0, 44), (221, 0, 0, 0, 65), (222, 0, 0, 0, 65), (223, 0, 0, 0, 1024), (70, 0, 0, 0, 2400), (71, 0, 0, 0, 2400), (72, 0, 0, 0, 65), (73, 0, 0, 0, 65), (83, 0, 0, 0, 6), (84, 0, 0, 0, 6), (88, 0, 0, 0, 11), (89, 0, 0, 0, 44), (63, 49, 0, 0, 50), (63, 50, 0, 0, 51), (63, 54, 0, 0, 55), (63, 55, 0, 0, 56)]),
  (978, [(70, 0, 0, 0, 2400), (71, 0, 0, 0, 2400), (72, 0, 0, 0, 65), (73, 0, 0, 0, 65), (83, 0, 0, 0, 6), (84, 0, 0, 0, 6), (88, 0, 0, 0, 11), (89, 0, 0, 0, 44), (63, 50, 0, 0, 51), (63, 54, 0, 0, 55), (63, 55, 0, 0, 56), (63, 98, 0, 0, 99), (105, 0, 0, 0, 20), (106, 0, 0, 0, 20), (107, 0, 0, 0, 20), (108, 0, 0, 0, 20), (109, 0, 0, 0, 20)]),
  (979, [(49, 0, 1, 0, 0), (50, 0, 1, 0, 0), (51, 0, 1, 0, 0), (52, 0, 1, 0, 0), (105, 0, 1, 0, 0), (106, 0, 1, 0, 0), (107, 0, 1, 0, 0), (108, 0, 1, 0, 0), (63, 49, 0, 0, 50)]),
  (980, [(202, 0, 0, 0, 1), (202, 1, 0, 0, 2), (203, 0, 0, 0, 5), (204, 0, 0, 0, 6), (205, 0, 0, 0, 6), (208, 0, 0, 0, 11), (209, 0, 0, 0, 44), (210, 0, 0, 0, 65), (211, 0, 0, 0, 65), (212, 0, 0, 0, 1024), (213, 0, 0, 0, 1), (213, 1, 0, 0, 2), (214, 0, 0, 0, 5), (215, 0, 0, 0, 6), (216, 0, 0, 0, 6), (219, 0, 0, 0, 11), (220, 0, 0, 0, 44), (221, 0, 0, 0, 65), (222, 0, 0, 0, 65), (223, 0, 0, 0, 1024), (1, 0, 0, 1, 0)]),
  (981, [(70, 0, 0, 0, 2400), (71, 0, 0, 0, 2400), (72, 0, 0, 0, 65), (73, 0, 0, 0, 65), (83, 0, 0, 0, 6), (84, 0, 0, 0, 6), (88, 0, 0, 0, 11), (89, 0, 0, 0, 44), (63, 50, 0, 0, 51), (63, 54, 0, 0, 55), (63, 55, 0, 0, 56), (63, 98, 0, 0, 99), (105, 0, 0, 0, 20), (106, 0, 0, 0, 20), (107, 0, 0, 0, 20), (108, 0, 0, 0, 20), (109, 0, 0, 0, 20), (63, 49, 0, 0, 50)]),
  (982, [(70, 0, 0, 0, 2400), (71, 0, 0, 0, 2400), (72, 0, 0, 0, 65), (73, 0, 0, 0, 65), (83, 0, 0, 0, 6), (84, 0, 0, 0, 6), (88, 0, 0, 0, 11), (89, 0, 0, 0, 44), (63, 50, 0, 0, 51), (63, 54, 0, 0, 55), (63, 55, 0, 0, 56), (63, 98, 0, 0, 99), (105, 0, 0, 0, 20), (106, 0, 0, 0, 20), (107, 0, 0, 0, 20), (108, 0, 0, 0, 20), (109, 0, 0, 0, 20), (63, 49, 0, 0, 50)])]
def yrdL (t : Nat) (l : List (Nat × List (Nat × Int × Int × Int × Int))) : List (Nat × Int × Int × Int × Int) := List.rec (motive := fun _ => List (Nat × Int × Int × Int × Int)) [] (fun q _ ih => match Nat.beq q.1 t with
  | true => q.2
  | false => ih) l
def yrdI (t : Nat) : List (Nat × Int × Int × Int × Int) := match Nat.ble 900 t with
  | true => yrdL t yrdT
  | false => []
def yany {α : Type} (f : α → Bool) (l : List α) : Bool := List.rec (motive := fun _ => Bool) false (fun q _ ih => f q || ih) l
/-- what is known of a place of the cell of a kind -/
def yfKe (t : Nat) (ix : yE) (M : yM) : Option yE := List.rec (motive := fun _ => Option yE) none (fun p _ ih => match Nat.beq p.1.2.1 t && yeq p.1.2.2 ix with
  | true => (match p.2 with
    | .inl a => some a
    | _ => ih)
  | false => ih) M
/-- is a field's int known, and is it so -/
def yfKb (f : Nat) (st : yS) (k : yE → Bool) : Bool := match yfKe 63 ([], Int.ofNat f) st.2.2.2.2.1 with
  | some a => k a
  | none => false
/-- does a fact of the text that is read stay, when a field is written -/
def ygkF (st : yS) (f : Nat) (x a c : yE) : Bool := (Nat.beq f 23 && yfKb 23 st fun s => ylS st (ysu s x)) || ((Nat.beq f 2 && ylS st (yoff (ysu ([], 0) x) 1)) ||
  ((Nat.beq f 43 && yfKb 43 st fun y => ylS st (yoff (ysu x y) (-1)) && (ylS st (ysu a (ysc 5 y)) && ylS st (ysu (yoff (ysc 5 y) 5) c))) ||
  ((Nat.beq f 44 && yfKb 44 st fun y => ylS st (yoff (ysu x y) (-1)) && (ylS st (ysu a (yoff (ysc 5 y) 25)) && ylS st (ysu (yoff (ysc 5 y) 30) c))) ||
  ((Nat.beq f 45 && yfKb 45 st fun y => ylS st (yoff (ysu x y) (-1)) && (ylS st (ysu a (yoff y 55)) && ylS st (ysu (yoff y 56) c))) ||
  ((Nat.beq f 46 && yfKb 46 st fun y => ylS st (yoff (ysu x y) (-1)) && (ylS st (ysu a (yoff y 61)) && ylS st (ysu (yoff y 62) c))) ||
  ((Nat.beq f 58 && (ylS st (yoff a (-59)) && ylS st (yoff (ysu ([], 0) c) 60))) || (Nat.beq f 59 && (ylS st (yoff a (-60)) && ylS st (yoff (ysu ([], 0) c) 61)))))))))
/-- .. when an array's place is -/
def ygkW (st : yS) (t : Nat) (ix b a c : yE) : Bool := ((Nat.beq t 66 || Nat.beq t 67) && yfKb 23 st fun s => ylS st (ysu s ix)) || (((Nat.beq t 68 || Nat.beq t 69) && (ylS st (ysu a ix) && (ylS st (yoff (ysu ix c) 1) && ylS st (ysu b ix)))) || (Nat.beq t 81 && (ylS st (ysu a (ysc 5 ix)) && ylS st (ysu (yoff (ysc 5 ix) 5) c))))
def ygkG (st : yS) (t : Nat) (ix : yE) (v : yA) (p : (yE × Nat) × yE × yE × yE) : Bool := Nat.beq p.1.2 950 && (match v with
  | .inl x => (match Nat.beq t 63 with
    | true => (match ix with
      | ([], .ofNat f) => ygkF st f x p.2.2.1 p.2.2.2
      | _ => false)
    | false => ygkW st t ix p.2.1 p.2.2.1 p.2.2.2)
  | _ => false)
/-- is a ghost fact kept by a write of a place of a kind -/
def ygk1 (st : yS) (t : Nat) (ix n hi : yE) (r : Nat × Int × Int × Int × Int) : Bool := !(Nat.beq (yrk r.1) t) || (ylS st (yoff ix (1 - r.2.1)) || ylS st (ysu (yoff (yad (ysc r.2.2.1 n) (ysc r.2.2.2.1 hi)) r.2.2.2.2) ix))
def ygkA (st : yS) (t : Nat) (ix n hi : yE) (l : List (Nat × Int × Int × Int × Int)) : Bool := List.rec (motive := fun _ => Bool) true (fun r _ ih => ygk1 st t ix n hi r && ih) l
def ygno (t : Nat) (l : List (Nat × Int × Int × Int × Int)) : Bool := List.rec (motive := fun _ => Bool) true (fun r _ ih => !(Nat.beq (yrk r.1) t) && ih) l
def ykpP (st : yS) (e : yE) (t : Nat) (ix : yE) (v : yA) (p : (yE × Nat) × yE × yE × yE) : Bool := (ygkA st t ix p.2.1 p.2.2.2 (yrdI p.1.2) || ygkG st t ix v p) && (!(Nat.beq p.1.2 t) || (ydf st.2.1 p.1.1 e || (ylS st (ysu p.2.1 ix) || ywi st v p.2.2.1 p.2.2.2)))
/-- a stretch that a write makes one longer -/
def ygrow (st : yS) (e : yE) (t : Nat) (ix : yE) (v : yA) (p : (yE × Nat) × yE × yE × yE) : (yE × Nat) × yE × yE × yE := match Nat.ble p.1.2 899 && (Nat.beq p.1.2 t && (yeq p.1.1 e && (yeq p.2.1 ix && ywi st v p.2.2.1 p.2.2.2))) with
  | true => (p.1, yoff p.2.1 1, p.2.2)
  | false => p
def yfP (p : (yE × Nat) × yE × yE × yE) (k : (yE × Nat) × yE × yE × yE → Bool) : Bool := yfE p.2.1 fun n => k (p.1, n, p.2.2)
def ymapP (f : (yE × Nat) × yE × yE × yE → (yE × Nat) × yE × yE × yE) (l : yP) : (yP → Bool) → Bool := List.rec (motive := fun _ => (yP → Bool) → Bool) (fun k => k []) (fun x _ ih k => yfP (f x) fun y => ih fun t => k (y :: t)) l
def ywr (e : yE) (t : Nat) (ix : yE) (v : yA) (st : yS) (k : yS → Bool) : Bool := match st with
  | (nx, B, F, Z, M, P) => yfil (ykpM B e t ix) M fun M => yfil (ykpP st e t ix v) P fun P => ymapP (ygrow st e t ix v) P fun P => k (nx, B, F, Z, ((e, t, ix), v) :: M, P)
def yaddM (e : yE) (t : Nat) (ix : yE) (v : yA) (st : yS) (k : yS → Bool) : Bool := match st with
  | (nx, B, F, Z, M, P) => k (nx, B, F, Z, ((e, t, ix), v) :: M, P)
/-- a new value of a field -/
def yfv (tt : List yKd) (ru : yRu) (st : yS) (k : yK) : Bool := match ru with
  | .inl (lo, hi) => yfr lo hi st fun e st => k (.inl e) st
  | .inr (.inl _) => ytl st k
  | .inr (.inr t) => match zget tt t with
    | none => false
    | some ((c1, c2), _) => match Nat.beq c1 c2 with
      | true => yint (Int.ofNat c1) fun c => k (.inr (.inr (.inl (([], c), t)))) st
      | false => yfr (Int.ofNat c1) (Int.ofNat c2) st fun e st => k (.inr (.inr (.inl (e, t)))) st
def ymo (ms : Option (List (Nat × Nat))) (t f : Nat) : Bool := match ms with
  | none => true
  | some l => List.rec (motive := fun _ => Bool) false (fun p _ ih => (Nat.beq p.1 t && Nat.beq p.2 f) || ih) l
/-- may a field of this sort (tc: int, boolean, ref, long) take the value -/
def yck (st : yS) (tc : Nat) (ru : yRu) (v : yA) : Bool := match ru with
  | .inl (lo, hi) => match v with
    | .inl e => (Nat.beq tc 0 || (Nat.beq tc 1 && (ile 0 lo && ile hi 1))) && (ylS st (yoff e (-hi)) && ylS st (yoff (ysu ([], 0) e) lo))
    | _ => false
  | .inr (.inl _) => match v with
    | .inr (.inl _) => Nat.beq tc 3
    | _ => false
  | .inr (.inr t) => match v with
    | .inr (.inr (.inl (_, t'))) => Nat.beq tc 2 && Nat.beq t t'
    | _ => false
/-- where by m a place lies -/
def yrs (B : yBd) (m : Nat) (ix : yE) : Option (Int × Int) := match m with
  | 0 => yrg B ix
  | m + 1 => match yrg B (ysp (Int.ofNat (m + 1)) ix).2 with
    | some q => match ile 0 q.1 && ile q.2 (Int.ofNat m) with
      | true => some q
      | false => none
    | none => none
def yis (B : yBd) (m r : Nat) (ix : yE) : Bool := yin (Int.ofNat r) (Int.ofNat r) (yrs B m ix)
def yisnt (B : yBd) (m r : Nat) (ix : yE) : Bool := match yrs B m ix with
  | some q => ile (q.2 + 1) (Int.ofNat r) || ile (Int.ofNat r + 1) q.1
  | none => false
def yspl (B : yBd) (ix : yE) (d : Int × Int) (l : List (Nat × Nat × Int × Int)) : Int × Int := List.rec (motive := fun _ => Int × Int) d (fun p _ ih => match yis B p.1 p.2.1 ix with
  | true => p.2.2
  | false => ih) l
/-- with what is known of an array's stretches; apart, where it isn't known on which side the place lies -/
def yuse (e : yE) (t : Nat) (ix x : yE) (l : yP) : yS → (yS → Bool) → Bool := List.rec (motive := fun _ => yS → (yS → Bool) → Bool) (fun st k => k st) (fun p _ ih st k => match Nat.beq p.1.2 t && yeq p.1.1 e with
  | false => ih st k
  | true => match ylS st (yoff (ysu ix p.2.1) 1) with
    | true => yasS (ysu p.2.2.1 x) st fun st => yasS (ysu x p.2.2.2) st fun st => ih st k
    | false => match ylS st (ysu p.2.1 ix) with
      | true => ih st k
      | false => yasS (yoff (ysu ix p.2.1) 1) st (fun st => yasS (ysu p.2.2.1 x) st fun st => yasS (ysu x p.2.2.2) st fun st => ih st k) && yasS (ysu p.2.1 ix) st (fun st => ih st k)) l
/-- the part of a place that says where by m it lies -/
def yrR (m : Nat) (ix : yE) : yE := match m with
  | 0 => ix
  | m + 1 => (ysp (Int.ofNat (m + 1)) ix).2
/-- a new value of an array's place -/
def yrr (ar : yAr) (e : yE) (t : Nat) (ix : yE) (st : yS) (k : yE → yS → Bool) : Bool := match ar with
  | (lo, hi, sp, x) => match x with
    | 0 => match yspl st.2.1 ix (lo, hi) sp with
      | q => yfr q.1 q.2 st fun v st => yuse e t ix v st.2.2.2.2.2 st fun st => k v st
    | 1 => yfr (-134217728) 134217727 st (fun q st => match q.1 with
        | p :: _ => k ([(p.1, 16)], 0) st && yfr 2 15 st (fun r st => k (yadT [(p.1, 16)] r.1, 0) st)
        | [] => false) && yfr 0 5 st (fun q st => match q.1 with
        | p :: _ => k ([(p.1, 16)], 1) st
        | [] => false)
    | 2 => yasS ix st (fun st => match ylk e t ([], 0) st.2.2.2.2.1 with
        | some (.inl v0) => k v0 st
        | _ => yfr lo hi st k) && yasS (yoff (ysu ([], 0) ix) 1) st (fun st => yfr lo hi st fun v st => yasS (yoff (ysu v ix) 1) st fun st => k v st)
    | _ => match sp with
      | (m, r, a, b) :: _ => match yrs st.2.1 m ix with
        | none => yfr lo hi st k
        | some _ => yfE (yrR m ix) fun R => yint (Int.ofNat r) fun r => yasS (yoff R (-r)) st (fun st => yasS (yoff (ysu ([], 0) R) r) st fun st => yfr a b st k) && (yasS (yoff R (1 - r)) st (fun st => yfr lo hi st k) && yasS (yoff (ysu ([], 0) R) (r + 1)) st (fun st => yfr lo hi st k))
      | [] => false
def ybt (st : yS) (lo hi : Int) (v : yE) : Bool := ylS st (yoff v (-hi)) && ylS st (yoff (ysu ([], 0) v) lo)
def yhsp (l : List (Nat × Nat × Int × Int)) (m r : Nat) (a b : Int) : Bool := List.rec (motive := fun _ => Bool) false (fun p _ ih => (Nat.beq p.1 m && (Nat.beq p.2.1 r && (ile a p.2.2.1 && ile p.2.2.2 b))) || ih) l
/-- is the int one that lies at a place alike, of an array of which as much is asked -/
def yvia (tt : List yKd) (ix y : yE) (m r : Nat) (a b : Int) (M : yM) : Bool := match m with
  | 0 => false
  | m' + 1 => List.rec (motive := fun _ => Bool) false (fun q _ ih => (match q.2 with
    | .inl x => yeq x y && (match zget tt q.1.2.1 with
      | some (_, .inr (_, _, ar)) => yhsp ar.2.2.1 (m' + 1) r a b && (match (ysu ix q.1.2.2).1 with
        | [] => yz ((ysu ix q.1.2.2).2 % Int.ofNat (m' + 1))
        | _ :: _ => false)
      | _ => false)
    | _ => false) || ih) M
/-- may an array's place take the int -/
def ywc (tt : List yKd) (ar : yAr) (ix v : yE) (st : yS) : Bool := match ar with
  | (lo, hi, sp, x) => ybt st lo hi v && (List.rec (motive := fun _ => Bool) true (fun p _ ih => (yisnt st.2.1 p.1 p.2.1 ix || (ybt st p.2.2.1 p.2.2.2 v || yvia tt ix v p.1 p.2.1 p.2.2.1 p.2.2.2 st.2.2.2.2.1)) && ih) sp && (match x with
    | 1 => match yrg st.2.1 (ysp 16 v).2 with
      | some q => ile 0 q.1 && (ile q.2 15 && ((ile 2 q.1 || ile q.2 0) || yin 0 5 (yrg st.2.1 (ysp 16 v).1)))
      | none => false
    | 2 => ylS st ix || ylS st (yoff (ysu v ix) 1)
    | _ => true))
end
