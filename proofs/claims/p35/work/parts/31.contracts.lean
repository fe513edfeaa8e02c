/-! Templates, what matches them; contracts of methods, and how they are looked through. -/
noncomputable section
abbrev yTpl : Type := List (Option yA) × yS
/-- a loop's head: place, template, what falls -/
abbrev yHd : Type := Nat × yTpl × yE
abbrev yPost : Type := Option yA × yS
/-- arguments and what is known; how deep its calls go; what it may write; its ends -/
abbrev yCt : Type := (List yA × yS) × yE × List (Nat × Nat) × List yPost
-- what stands for the template's names: looked for by the way, then held
abbrev ySg : Type := List (Option yE)
def yse1 (l : ySg) : Nat → yE → ySg := List.rec (motive := fun _ => Nat → yE → ySg) (fun _ _ => []) (fun a t ih i e => Nat.rec (motive := fun _ => ySg) (match a with
  | none => some e :: t
  | some _ => a :: t) (fun j _ => a :: ih j e) i) l
def ysbT (sg : ySg) (l : yT) : Option yE := List.rec (motive := fun _ => Option yE) (some ([], 0)) (fun p _ ih => match zget sg p.1 with
  | some (some e) => match ih with
    | some r => some (yad (ysc p.2 e) r)
    | none => none
  | _ => none) l
def ysb (sg : ySg) (e : yE) : Option yE := match ysbT sg e.1 with
  | some r => some (yoff r e.2)
  | none => none
def yone (sg : ySg) (l : yT) : Option (Nat × Int) := List.rec (motive := fun _ => Option (Nat × Int)) none (fun p _ ih => match zget sg p.1 with
  | some none => some p
  | _ => ih) l
def yfil0 (sg : ySg) : ySg := List.rec (motive := fun _ => ySg) [] (fun a _ ih => (match a with
  | none => some ([], 0)
  | some e => some e) :: ih) sg
/-- the one name of a sum that isn't known yet -/
def yas1 (e f : yE) (sg : ySg) : ySg := match e with
  | ([(i, c)], d) => yse1 sg i (ysp c (yoff f (-d))).1
  | ([], _) => sg
  | _ => match yone sg e.1 with
    | some (i, c) => (match ysb (yfil0 sg) e with
      | some r => yse1 sg i (ysp c (ysu f r)).1
      | none => sg)
    | none => sg
def yasA (a x : yA) (sg : ySg) : ySg := match a with
  | .inl e => match x with
    | .inl f => yas1 e f sg
    | _ => sg
  | .inr (.inl e) => match x with
    | .inr (.inl f) => yas1 e f sg
    | _ => sg
  | .inr (.inr (.inl (e, _))) => match x with
    | .inr (.inr (.inl (f, _))) => yas1 e f sg
    | _ => sg
  | _ => sg
def yasL (l : List yA) : List yA → ySg → ySg := List.rec (motive := fun _ => List yA → ySg → ySg) (fun _ sg => sg) (fun a _ ih xs sg => match xs with
  | x :: xs => ih xs (yasA a x sg)
  | [] => sg) l
def yasO (l : List (Option yA)) : List (Option yA) → ySg → ySg := List.rec (motive := fun _ => List (Option yA) → ySg → ySg) (fun _ sg => sg) (fun a _ ih xs sg => match xs with
  | x :: xs => ih xs (match a with
    | some a => match x with
      | some x => yasA a x sg
      | none => sg
    | none => sg)
  | [] => sg) l
/-- the first place known of a cell, what is there -/
def yfpl (e : yE) (t : Nat) (M : yM) : Option (yE × yA) := List.rec (motive := fun _ => Option (yE × yA)) none (fun p _ ih => match Nat.beq p.1.2.1 t && yeq p.1.1 e with
  | true => some (p.1.2.2, p.2)
  | false => ih) M
def yasM (M : yM) (l : yM) : ySg → ySg := List.rec (motive := fun _ => ySg → ySg) (fun sg => sg) (fun q _ ih sg => ih (match ysb sg q.1.1 with
  | some e => match ysb sg q.1.2.2 with
    | some ix => match ylk e q.1.2.1 ix M with
      | some x => yasA q.2 x sg
      | none => sg
    | none => match yone sg q.1.2.2.1 with
      | some (i, c) => match yfpl e q.1.2.1 M with
        | some (i0, x) => match ysb (yfil0 sg) q.1.2.2 with
          | some r => yasA q.2 x (yse1 sg i (ysp c (ysu i0 r)).1)
          | none => sg
        | none => sg
      | none => sg
  | none => sg)) l
def ysam (sg : ySg) (e f : yE) : Bool := match ysb sg e with
  | some r => yeq r f
  | none => true
def yasP1 (Q : yP) (q : (yE × Nat) × yE × yE × yE) (sg : ySg) : ySg := List.rec (motive := fun _ => ySg) sg (fun p _ ih => match Nat.beq p.1.2 q.1.2 && (ysam sg q.2.1 p.2.1 && (ysam sg q.2.2.1 p.2.2.1 && ysam sg q.2.2.2 p.2.2.2)) with
  | true => yas1 q.2.1 p.2.1 (yas1 q.2.2.1 p.2.2.1 (yas1 q.2.2.2 p.2.2.2 sg))
  | false => ih) Q
def yasP (Q l : yP) : ySg → ySg := List.rec (motive := fun _ => ySg → ySg) (fun sg => sg) (fun q _ ih sg => ih (match Nat.ble 900 q.1.2 with
  | true => yasP1 Q q sg
  | false => sg)) l
/-- those of which nothing is known: 0 -/
def yfinS (sg : ySg) (k : List yE → Bool) : Bool := List.rec (motive := fun _ => (List yE → Bool) → Bool) (fun k => k []) (fun a _ ih k => match a with
  | some e => yfE e fun e => ih fun t => k (e :: t)
  | none => ih fun t => k (([], 0) :: t)) sg k
def yidsT (n : Nat) (l : yT) : Bool := List.rec (motive := fun _ => Bool) true (fun p _ ih => Nat.blt p.1 n && ih) l
/-- names of what is known alone -/
def yids (n : Nat) (sg : List yE) : Bool := List.rec (motive := fun _ => Bool) true (fun e _ ih => yidsT n e.1 && ih) sg
def ysuT (sg : List yE) (l : yT) : Option yE := List.rec (motive := fun _ => Option yE) (some ([], 0)) (fun p _ ih => match zget sg p.1 with
  | some e => match ih with
    | some r => some (yad (ysc p.2 e) r)
    | none => none
  | none => none) l
def ysuE (sg : List yE) (e : yE) : Option yE := match ysuT sg e.1 with
  | some r => some (yoff r e.2)
  | none => none
def yequ (st : yS) (a b : yE) : Bool := yeq a b || (ylS st (ysu a b) && ylS st (ysu b a))
def ychE (st : yS) (sg : List yE) (e f : yE) : Bool := match ysuE sg e with
  | some e => yequ st e f
  | none => false
/-- is the value what the template's says -/
def ychA (st : yS) (sg : List yE) (a x : yA) : Bool := match a with
  | .inl e => match x with
    | .inl f => ychE st sg e f
    | _ => false
  | .inr (.inl e) => match x with
    | .inr (.inl f) => ychE st sg e f
    | _ => false
  | .inr (.inr (.inl (e, t))) => match x with
    | .inr (.inr (.inl (f, t'))) => Nat.beq t t' && ychE st sg e f
    | _ => false
  | .inr (.inr (.inr (.inl _))) => false
  | .inr (.inr (.inr (.inr _))) => match x with
    | .inr (.inr (.inr (.inr _))) => true
    | _ => false
def ychL (st : yS) (sg : List yE) (l : List yA) : List yA → Bool := List.rec (motive := fun _ => List yA → Bool) (fun xs => match xs with
  | [] => true
  | _ :: _ => false) (fun a _ ih xs => match xs with
  | x :: xs => ychA st sg a x && ih xs
  | [] => false) l
def ychO (st : yS) (sg : List yE) (l : List (Option yA)) : List (Option yA) → Bool := List.rec (motive := fun _ => List (Option yA) → Bool) (fun xs => match xs with
  | [] => true
  | _ :: _ => false) (fun a _ ih xs => match xs with
  | x :: xs => (match a with
    | some a => match x with
      | some x => ychA st sg a x
      | none => false
    | none => true) && ih xs
  | [] => false) l
def ychB (st : yS) (sg : List yE) (l : yBd) : Bool := List.rec (motive := fun _ => Bool) true (fun q _ ih => (match zget sg q.1 with
  | some e => ylS st (yoff e (-q.2.2)) && ylS st (yoff (ysu ([], 0) e) q.2.1)
  | none => false) && ih) l
def ychF (st : yS) (sg : List yE) (l : List yE) : Bool := List.rec (motive := fun _ => Bool) true (fun f _ ih => (match ysuE sg f with
  | some e => ylS st e
  | none => false) && ih) l
def ychM (st : yS) (sg : List yE) (l : yM) : Bool := List.rec (motive := fun _ => Bool) true (fun q _ ih => (match ysuE sg q.1.1 with
  | some e => match ysuE sg q.1.2.2 with
    | some ix => match ylk e q.1.2.1 ix st.2.2.2.2.1 with
      | some x => ychA st sg q.2 x
      | none => false
    | none => false
  | none => false) && ih) l
def yfnP (st : yS) (e : yE) (t : Nat) (n lo hi : yE) (l : yP) : Bool := List.rec (motive := fun _ => Bool) false (fun q _ ih => (Nat.beq q.1.2 t && (yeq q.1.1 e && (ylS st (ysu n q.2.1) && (ylS st (ysu lo q.2.2.1) && ylS st (ysu q.2.2.2 hi))))) || ih) l
/-- a ghost fact that is known as it is asked for -/
def yfnG (st : yS) (t : Nat) (n lo hi : yE) (l : yP) : Bool := List.rec (motive := fun _ => Bool) false (fun q _ ih => (Nat.beq q.1.2 t && (yequ st q.2.1 n && (yequ st q.2.2.1 lo && yequ st q.2.2.2 hi))) || ih) l
/-- of a stretch of steps back: a part of one that is known -/
def ysuG (st : yS) (n lo hi : yE) (l : yP) : Bool := List.rec (motive := fun _ => Bool) false (fun q _ ih => (Nat.beq q.1.2 920 && (yequ st q.2.1 n && (ylS st (ysu q.2.2.1 lo) && ylS st (ysu hi q.2.2.2)))) || ih) l
/-- a fact of steps back of a height below, that holds at a place -/
def yatG (st : yS) (n a m : yE) (l : yP) : Bool := List.rec (motive := fun _ => Bool) false (fun q _ ih => (Nat.beq q.1.2 920 && (yequ st (yoff q.2.1 1) n && (ylS st (ysu ([], 0) q.2.1) && (ylS st (ysu q.2.2.1 a) && (ylS st (yoff (ysu a q.2.2.2) 1) && ylS st (ysu q.2.2.2 m)))))) || ih) l
/-- grown by the place that M knows to lead to one of them -/
def yupG (st : yS) (n lo hi : yE) (M : yM) : Bool := List.rec (motive := fun _ => Bool) false (fun p _ ih => (match p.2 with
  | .inl a => Nat.beq p.1.2.1 99 && (yequ st hi (yoff p.1.2.2 1) && (yatG st n a p.1.2.2 st.2.2.2.2.2 && (ylS st (ysu p.1.2.2 lo) || ysuG st n lo p.1.2.2 st.2.2.2.2.2)))
  | _ => false) || ih) M
def yDpG (st : yS) (n lo hi : yE) : Bool := ylS st (ysu hi lo) || ((yequ st n ([], 0) && ylS st (ysu ([], 0) lo)) || (ysuG st n lo hi st.2.2.2.2.2 || yupG st n lo hi st.2.2.2.2.1))
def ykz (st : yS) (f : Nat) : Bool := yfKb f st fun x => ylS st x
def ykeq (st : yS) (f g : Nat) : Bool := yfKb f st fun x => yfKb g st fun y => yequ st x y
/-- of signs: none; one more -/
def yOpG (st : yS) (n lo hi : yE) : Bool := (yequ st n ([], 0) && (yequ st lo ([], 0) && yequ st hi ([], 0))) || yany (fun q => Nat.beq q.1.2 921 && (yequ st hi (yoff q.2.2.2 1) && (match yfKe 74 q.2.2.2 st.2.2.2.2.1 with
  | some x => (yequ st x ([], 20) && (yequ st n q.2.1 && yequ st lo (yoff q.2.2.1 1))) || ((yequ st x ([], 21) && (yequ st n q.2.1 && yequ st lo q.2.2.1)) || ((ylS st (yoff x (-19)) || ylS st (yoff (ysu ([], 0) x) 22)) && (yequ st n (yoff q.2.1 1) && yequ st lo q.2.2.1)))
  | none => false))) st.2.2.2.2.2
/-- of steps: none; one more -/
def yCuG (st : yS) (n lo hi : yE) : Bool := (yequ st n ([], 0) && (yequ st lo hi && ylS st (ysu ([], 0) lo))) || yany (fun q => Nat.beq q.1.2 922 && (yequ st hi (yoff q.2.2.2 1) && (yequ st lo q.2.2.1 && (match yfKe 66 q.2.2.2 st.2.2.2.2.1 with
  | some s => (match yfKe 67 q.2.2.2 st.2.2.2.2.1 with
    | some x => (yequ st s ([], 0) && (ylS st (yoff q.2.1 (-63)) && yequ st n (yoff q.2.1 1))) || ((yequ st s ([], 1) && (ylS st (yoff q.2.1 (-63)) && (ylS st (ysu ([], 0) x) && (ylS st (yoff x (-7)) && yequ st n (yoff q.2.1 1))))) || ((yequ st s ([], 2) && (ylS st (yoff (ysu ([], 0) q.2.1) 1) && yequ st n q.2.1)) || (ylS st (yoff (ysu ([], 0) s) 3) && (ylS st (yoff (ysu ([], 0) q.2.1) 2) && yequ st n (yoff q.2.1 (-1))))))
    | none => false)
  | none => false)))) st.2.2.2.2.2
/-- those from a to c that there are stand below b -/
def yGcm (st : yS) (b a c : yE) : Bool := ylS st (ysu c b) || yany (fun p => Nat.beq p.1.2.1 81 && (match p.2 with
  | .inl s => yequ st a (ysc 5 p.1.2.2) && (ylS st (yoff (ysu c (ysc 5 p.1.2.2)) (-5)) && (ylS st (ysu (yoff (yad (ysc 5 p.1.2.2) s) 1) b) && (ylS st (ysu (yoff (ysc 5 p.1.2.2) 1) b) && ylS st (yoff p.1.2.2 (-10)))))
  | _ => false)) st.2.2.2.2.1
/-- of the text that is read: with a fault; nothing; all are legal; one more is -/
def yGG (st : yS) (b a c : yE) : Bool := (yfKb 2 st fun x => ylS st (yoff (ysu ([], 0) x) 1)) || ((ylS st (ysu b a) && ((ykz st 43 && (ykz st 44 && (ykz st 45 && (ykz st 46 && (ykz st 58 && ykz st 59))))) || yany (fun q => Nat.beq q.1.2 950 && yGcm st q.2.1 q.2.2.1 q.2.2.2) st.2.2.2.2.2)) ||
  yany (fun q => Nat.beq q.1.2 950 && (yequ st a q.2.2.1 && (yequ st c q.2.2.2 && (yequ st b (yoff q.2.1 1) && (ylS st (ysu ([], 0) q.2.1) && (match yfKe 68 q.2.1 st.2.2.2.2.1 with
    | some lo => (match yfKe 69 q.2.1 st.2.2.2.2.1 with
      | some m => yany (fun r => Nat.beq r.1.2 922 && (yequ st r.2.2.1 lo && (yequ st m (ysu r.2.2.2 lo) && (ylS st (yoff r.2.2.2 (-2400)) && yfKb 23 st fun s => ylS st (ysu r.2.2.2 s))))) st.2.2.2.2.2
      | none => false)
    | none => false)))))) st.2.2.2.2.2)
def ysmk (st : yS) (t : Nat) (k : yE → Bool) : Bool := yany (fun q => Nat.beq q.1.2 t && k q.2.1) st.2.2.2.2.2
/-- of the land: nothing; all is as in the text -/
def yAgG (st : yS) : Bool := (ykz st 50 && (ykz st 51 && (ykz st 52 && (ykz st 53 && (ykz st 60 && ykz st 61))))) || (ykz st 2 && (yany (fun q => Nat.beq q.1.2 950 && yGcm st q.2.1 q.2.2.1 q.2.2.2) st.2.2.2.2.2 && (ykeq st 50 43 && (ykeq st 51 44 && (ykeq st 52 45 && (ykeq st 53 46 && (ykeq st 60 58 && (ykeq st 61 59 &&
  ((yfKb 23 st fun s => ysmk st 961 fun n => ylS st (ysu s n)) && ((yfKb 23 st fun s => ysmk st 962 fun n => ylS st (ysu s n)) && (ysmk st 963 (fun n => ylS st (yoff (ysu ([], 0) n) 65)) && (ysmk st 964 (fun n => ylS st (yoff (ysu ([], 0) n) 65)) && ysmk st 965 (fun n => ylS st (yoff (ysu ([], 0) n) 11))))))))))))))
/-- a law, a deed that there is -/
def yUwG (st : yS) (w : yE) : Bool := ylS st (ysu ([], 0) w) && ((ylS st (yoff w (-4)) && yfKb 50 st fun x => ylS st (yoff (ysu w x) 1)) || (ylS st (yoff (ysu ([], 0) w) 5) && (ylS st (yoff w (-10)) && yfKb 51 st fun x => ylS st (yoff (ysu w x) (-4)))))
def yUsG (st : yS) (w : yE) : Bool := yany (fun q => Nat.beq q.1.2 932 && yequ st q.2.1 w) st.2.2.2.2.2 || yUwG st w
/-- a formula that there is -/
def yLwG (st : yS) (f : yE) : Bool := yany (fun q => Nat.beq q.1.2 930) st.2.2.2.2.2 && ((yequ st f ([], 59) && yfKb 60 st fun x => ylS st (yoff (ysu ([], 0) x) 1)) || ((yequ st f ([], 60) && yfKb 61 st fun x => ylS st (yoff (ysu ([], 0) x) 1)) ||
  ((ylS st (yoff (ysu ([], 0) f) 55) && (ylS st (yoff f (-58)) && yfKb 52 st fun x => ylS st (yoff (ysu f x) (-54)))) || ((ylS st (yoff (ysu ([], 0) f) 61) && (ylS st (yoff f (-64)) && yfKb 53 st fun x => ylS st (yoff (ysu f x) (-60)))) ||
  ((yequ st f (ysc 5 (ysp 5 f).1) && yUsG st (ysp 5 f).1) || yany (fun q => Nat.beq q.1.2 932 && (match yfKe 88 q.2.1 st.2.2.2.2.1 with
    | some s => ylS st (yoff (ysu (ysc 5 q.2.1) f) 1) && (ylS st (yoff (ysu f (ysc 5 q.2.1)) (-4)) && ylS st (ysu (ysu f (ysc 5 q.2.1)) s))
    | none => false)) st.2.2.2.2.2)))))
def yRwG (st : yS) (n k w : yE) : Bool := yequ st n ([], 0) && (yany (fun q => Nat.beq q.1.2 933 && yequ st q.2.1 w) st.2.2.2.2.2 && (match yfKe 72 w st.2.2.2.2.1 with
  | some b => yequ st k b
  | none => false))
/-- of two rows that are alike: none; fewer; one more -/
def ySmG (st : yS) (t x y : Nat) (n : yE) : Bool := ylS st n || yany (fun q => Nat.beq q.1.2 t && (ylS st (ysu n q.2.1) || (ylS st (yoff (ysu n q.2.1) (-1)) && (match yfKe x q.2.1 st.2.2.2.2.1 with
  | some a => (match yfKe y q.2.1 st.2.2.2.2.1 with
    | some c => yequ st a c
    | none => false)
  | none => false)))) st.2.2.2.2.2
/-- of two texts: fewer bytes -/
def yTxG (st : yS) (n : yE) : Bool := ylS st n || yany (fun q => Nat.beq q.1.2 970 && ylS st (ysu n q.2.1)) st.2.2.2.2.2
def ychR (st : yS) (t : Nat) (n lo hi : yE) : Bool := (Nat.beq t 920 && yDpG st n lo hi) || ((Nat.beq t 921 && yOpG st n lo hi) || ((Nat.beq t 922 && yCuG st n lo hi) || ((Nat.beq t 930 && yAgG st) || ((Nat.beq t 932 && yUwG st n) || ((Nat.beq t 933 && yLwG st n) || ((Nat.beq t 940 && yRwG st n lo hi) || ((Nat.beq t 950 && yGG st n lo hi) ||
  ((Nat.beq t 961 && ySmG st 961 70 66 n) || ((Nat.beq t 962 && ySmG st 962 71 67 n) || ((Nat.beq t 963 && ySmG st 963 72 68 n) || ((Nat.beq t 964 && ySmG st 964 73 69 n) || ((Nat.beq t 965 && ySmG st 965 88 81 n) || ((Nat.beq t 970 && yTxG st n) || (Nat.beq t 979 && ylS st n))))))))))))))
def ychG (st : yS) (t : Nat) (n lo hi : yE) : Bool := Nat.ble 900 t && (yfnG st t n lo hi st.2.2.2.2.2 || ychR st t n lo hi)
def ychP (st : yS) (sg : List yE) (l : yP) : Bool := List.rec (motive := fun _ => Bool) true (fun q _ ih => (match ysuE sg q.1.1 with
  | some e => match ysuE sg q.2.1 with
    | some n => match ysuE sg q.2.2.1 with
      | some lo => match ysuE sg q.2.2.2 with
        | some hi => (Nat.ble q.1.2 899 && (ylS st n || yfnP st e q.1.2 n lo hi st.2.2.2.2.2)) || ychG st q.1.2 n lo hi
        | none => false
      | none => false
    | none => false
  | none => false) && ih) l
/-- does what is known say what the template does -/
def ychS (st : yS) (sg : List yE) (tp : yS) : Bool := Nat.beq sg.length tp.1 && (yids st.1 sg && (ychB st sg tp.2.1 && (ychF st sg tp.2.2.1 && ((match tp.2.2.2.1 with
  | [] => true
  | _ :: _ => false) && (ychM st sg tp.2.2.2.2.1 && ychP st sg tp.2.2.2.2.2)))))
def ynone (n : Nat) : ySg := Nat.rec (motive := fun _ => ySg) [] (fun _ ih => none :: ih) n
/-- so many names as they are, then n that are looked for -/
def yrig (p n : Nat) : ySg := Nat.rec (motive := fun _ => Nat → ySg) (fun _ => ynone n) (fun _ ih i => some ([(i, 1)], 0) :: ih (i + 1)) p 0
def yisRg (p : Nat) (sg : List yE) : Bool := Nat.rec (motive := fun _ => Nat → List yE → Bool) (fun _ _ => true) (fun _ ih i sg => match sg with
  | e :: t => yeq e ([(i, 1)], 0) && ih (i + 1) t
  | [] => false) p 0 sg
/-- a place of a run that has come to a loop's head -/
def yhead (p : Nat) (L : List (Option yA)) (st : yS) (h : yHd) (old : Option yE) : Bool := match h with
  | (_, (Lt, tp), ms) => yfinS (yasP st.2.2.2.2.2 tp.2.2.2.2.2 (yasM st.2.2.2.2.1 tp.2.2.2.2.1 (yasO Lt L (yrig p (tp.1 - p))))) fun sg => yisRg p sg && (ychO st sg Lt L && (ychS st sg tp && (match ysuE sg ms with
    | some e => ylS st (ysu ([], 0) e) && (match old with
      | some o => ylS st (yoff (ysu e o) 1)
      | none => true)
    | none => false)))
def yheads (p : Nat) (pc : Nat) (L : List (Option yA)) (st : yS) (old : Option yE) (hs : List yHd) : Bool := List.rec (motive := fun _ => Bool) false (fun h _ ih => match Nat.beq h.1 pc with
  | true => yhead p L st h old || ih
  | false => ih) hs
/-- an end of a run is one of a contract's -/
def ypost (p : Nat) (r : Option yA) (st : yS) (q : yPost) : Bool := match q with
  | (rt, tp) => match rt with
    | none => (match r with
      | none => true
      | some _ => false) && yfinS (yasP st.2.2.2.2.2 tp.2.2.2.2.2 (yasM st.2.2.2.2.1 tp.2.2.2.2.1 (yrig p (tp.1 - p)))) fun sg => yisRg p sg && ychS st sg tp
    | some a => match r with
      | none => false
      | some x => yfinS (yasP st.2.2.2.2.2 tp.2.2.2.2.2 (yasM st.2.2.2.2.1 tp.2.2.2.2.1 (yasA a x (yrig p (tp.1 - p))))) fun sg => yisRg p sg && (ychA st sg a x && ychS st sg tp)
def yposts (p : Nat) (r : Option yA) (st : yS) (qs : List yPost) : Bool := List.rec (motive := fun _ => Bool) false (fun q _ ih => ypost p r st q || ih) qs
-- a contract used
def yapB (p nx : Nat) (l : yBd) : yBd → (yBd → Bool) → Bool := List.rec (motive := fun _ => yBd → (yBd → Bool) → Bool) (fun B k => k B) (fun q _ ih B k => match Nat.ble p q.1 with
  | true => zst (nx + (q.1 - p)) fun i => ih ((i, q.2.1, q.2.2) :: B) k
  | false => ih B k) l
def yapR (sg : List yE) (p : Nat) (l : yBd) : yS → (yS → Bool) → Bool := List.rec (motive := fun _ => yS → (yS → Bool) → Bool) (fun st k => k st) (fun q _ ih st k => match Nat.ble p q.1 with
  | true => ih st k
  | false => match zget sg q.1 with
    | some e => yasS (yoff e (-q.2.2)) st fun st => yasS (yoff (ysu ([], 0) e) q.2.1) st fun st => ih st k
    | none => false) l
def yapF (sg : List yE) (l : List yE) : yS → (yS → Bool) → Bool := List.rec (motive := fun _ => yS → (yS → Bool) → Bool) (fun st k => k st) (fun f _ ih st k => match ysuE sg f with
  | some e => yasS e st fun st => ih st k
  | none => false) l
def yfS (sg : List yE) (e : yE) (k : yE → Bool) : Bool := match ysuE sg e with
  | some e => yfE e k
  | none => false
def yfA (sg : List yE) (a : yA) (k : yA → Bool) : Bool := match a with
  | .inl e => yfS sg e fun e => k (.inl e)
  | .inr (.inl e) => yfS sg e fun e => k (.inr (.inl e))
  | .inr (.inr (.inl (e, t))) => yfS sg e fun e => k (.inr (.inr (.inl (e, t))))
  | .inr (.inr (.inr (.inl _))) => false
  | .inr (.inr (.inr (.inr u))) => k (.inr (.inr (.inr (.inr u))))
def yapM (sg : List yE) (l : yM) : yM → (yM → Bool) → Bool := List.rec (motive := fun _ => yM → (yM → Bool) → Bool) (fun M k => k M) (fun q _ ih M k => yfS sg q.1.1 fun e => yfS sg q.1.2.2 fun ix => yfA sg q.2 fun a => ih (((e, q.1.2.1, ix), a) :: M) k) l
def yapP (sg : List yE) (l : yP) : yP → (yP → Bool) → Bool := List.rec (motive := fun _ => yP → (yP → Bool) → Bool) (fun M k => k M) (fun q _ ih M k => yfS sg q.1.1 fun e => yfS sg q.2.1 fun n => yfS sg q.2.2.1 fun lo => yfS sg q.2.2.2 fun hi => ih (((e, q.1.2), n, lo, hi) :: M) k) l
/-- what may have been written is no more known -/
def ykeM (tt : List yKd) (ms : List (Nat × Nat)) (q : (yE × Nat × yE) × yA) : Bool := match zget tt q.1.2.1 with
  | some (_, .inl _) => (match q.1.2.2 with
    | ([], c) => !(ymo (some ms) q.1.2.1 c.toNat)
    | _ => false)
  | some (_, .inr _) => !(ymo (some ms) q.1.2.1 0)
  | none => false
def ygix (r : Nat × Int × Int × Int × Int) : Nat := match yobj r.1 with
  | true => r.2.1.toNat
  | false => 0
def ygms (ms : List (Nat × Nat)) (l : List (Nat × Int × Int × Int × Int)) : Bool := List.rec (motive := fun _ => Bool) true (fun r _ ih => !(ymo (some ms) (yrk r.1) (ygix r)) && ih) l
def ykeP (tt : List yKd) (ms : List (Nat × Nat)) (q : (yE × Nat) × yE × yE × yE) : Bool := match zget tt q.1.2 with
  | some (_, .inr _) => Nat.ble q.1.2 899 && !(ymo (some ms) q.1.2 0)
  | some (_, .inl _) => false
  | none => Nat.ble 900 q.1.2 && ygms ms (yrdI q.1.2)
def ynew (nx : Nat) (d : Nat) (k : List yE → Bool) : Bool := Nat.rec (motive := fun _ => Nat → (List yE → Bool) → Bool) (fun _ k => k []) (fun _ ih i k => zst i fun i => ih (i + 1) fun t => k (([(i, 1)], 0) :: t)) d nx k
def yapp (tt : List yKd) (st : yS) (sg : List yE) (p : Nat) (ms : List (Nat × Nat)) (q : yPost) (kk : Option yA → yS → Bool) : Bool := match st with
  | (nx, B, F, Z, M, Q) => match q with
    | (rt, (nq, Bq, Fq, Zq, Mq, Qq)) => Nat.ble p nq && ynew nx (nq - p) fun nw => yfil (ykeM tt ms) M fun M => yfil (ykeP tt ms) Q fun Q => yapB p nx Bq B fun B => yapM (sg ++ nw) Mq M fun M => yapP (sg ++ nw) Qq Q fun Q => zst (nx + (nq - p)) fun n1 => yapR (sg ++ nw) p Bq (n1, B, F, Z, M, Q) fun st => yapF (sg ++ nw) Fq st fun st => match rt with
      | none => kk none st
      | some a => yfA (sg ++ nw) a fun a => kk (some a) st
def yappS (tt : List yKd) (st : yS) (sg : List yE) (p : Nat) (ms : List (Nat × Nat)) (qs : List yPost) (kk : Option yA → yS → Bool) : Bool := List.rec (motive := fun _ => Bool) true (fun q _ ih => yapp tt st sg p ms q kk && ih) qs
def ysubm (ms : List (Nat × Nat)) (big : Option (List (Nat × Nat))) : Bool := List.rec (motive := fun _ => Bool) true (fun q _ ih => ymo big q.1 q.2 && ih) ms
/-- does a contract's start stand here; then its ends -/
def yct1 (tt : List yKd) (big : Option (List (Nat × Nat))) (ct : yCt) (as : List yA) (st : yS) (bud : yE) (kk : Option yA → yS → Bool) (other : Bool) : Bool := match ct with
  | ((at_, tp), rk, ms, qs) => yfinS (yasP st.2.2.2.2.2 tp.2.2.2.2.2 (yasM st.2.2.2.2.1 tp.2.2.2.2.1 (yasL at_ as (ynone tp.1)))) fun sg => match ychL st sg at_ as && ychS st sg tp with
    | true => ysubm ms big && ((match ysuE sg rk with
      | some r => ylS st (yoff (ysu r bud) 1)
      | none => false) && yappS tt st sg tp.1 ms qs kk)
    | false => other
def ycts (tt : List yKd) (big : Option (List (Nat × Nat))) (cs : List yCt) (as : List yA) (st : yS) (bud : yE) (kk : Option yA → yS → Bool) : Bool := List.rec (motive := fun _ => Bool) false (fun c _ ih => yct1 tt big c as st bud kk ih) cs
def yentry (l : List yA) : List (Option yA) := List.rec (motive := fun _ => List (Option yA)) [] (fun v _ ih => match ycat v with
  | 2 => some v :: none :: ih
  | _ => some v :: ih) l
def yrepl (n : Nat) : List (Option yA) := Nat.rec (motive := fun _ => List (Option yA)) [] (fun _ ih => none :: ih) n
def yret (i : Instr) (a : Nat) (S : List yA) (st : yS) (kk : Option yA → yS → Bool) : Bool := match i with
  | .ireturn => match S with
    | [x] => yisI x && ((Nat.beq a 0 || yck st 1 (.inl (0, 1)) x) && kk (some x) st)
    | _ => false
  | .lreturn => match S with
    | [x] => yisJ x && kk (some x) st
    | _ => false
  | .return_ => match S with
    | [] => kk none st
    | _ => false
  | _ => false
/-- a call: by a contract, or looked through to its end -/
def ycall (tt : List yKd) (big : Option (List (Nat × Nat))) (mt : List (Nat × zCode)) (ctb : List (List yCt)) : Nat → yCl
  | 0 => fun _ _ _ _ _ => false
  | d + 1 => fun j as st bud kk => match zget mt j with
    | none => false
    | some (nL, cd) => match zget ctb j with
      | some (c :: cs) => ycts tt big (c :: cs) as st bud kk
      | _ => Nat.ble (yentry as).length nL && (ylS st (yoff (ysu ([], 0) bud) 2) && yfE (yoff bud (-1)) fun bud => yrun (tt, big, bud, none) cd (ycall tt big mt ctb d) (fun _ => false) (fun cf => match zfetch cd cf.1 with
        | some (i, a, _, _) => yret i a cf.2.2.1 cf.2.2.2 kk
        | none => false) 600 (0, yentry as ++ yrepl (nL - (yentry as).length), [], st))
def yisHd (hs : List yHd) (pc : Nat) : Bool := List.rec (motive := fun _ => Bool) false (fun h _ ih => Nat.beq h.1 pc || ih) hs
/-- an end of a segment: a return with one of the ends, or a loop's head -/
def yfinC (cd : zCode) (p : Nat) (qs : List yPost) (hs : List yHd) (old : Option yE) (cf : yCfg) : Bool := match zfetch cd cf.1 with
  | some (i, a, _, _) => match yisRet i with
    | true => yret i a cf.2.2.1 cf.2.2.2 fun r st => yposts p r st qs
    | false => (match cf.2.2.1 with
      | [] => true
      | _ :: _ => false) && yheads p cf.1 cf.2.1 cf.2.2.2 old hs
  | none => false
/-- a contract holds: from its start, and from each head of a loop -/
def yver0 (tt : List yKd) (mt : List (Nat × zCode)) (ctb : List (List yCt)) (nL : Nat) (cd : zCode) (ct : yCt) (hs : List yHd) : Bool := match ct with
  | ((at_, tp), rk, ms, qs) => Nat.ble (yentry at_).length nL && (ylS tp (yoff (ysu ([], 0) rk) 1) && (match yisHd hs 0 with
    | false => yrun (tt, some ms, rk, none) cd (ycall tt (some ms) mt ctb 8) (yisHd hs) (yfinC cd tp.1 qs hs none) 600 (0, yentry at_ ++ yrepl (nL - (yentry at_).length), [], tp)
    | true => match zfetch cd 0 with
      | some (i, a, b, _) => ysel i (tt, some ms, rk, none) (ycall tt (some ms) mt ctb 8) a b 0 (yentry at_ ++ yrepl (nL - (yentry at_).length)) [] tp (yrun (tt, some ms, rk, none) cd (ycall tt (some ms) mt ctb 8) (yisHd hs) (yfinC cd tp.1 qs hs none) 600)
      | none => false))
def yver1 (tt : List yKd) (mt : List (Nat × zCode)) (ctb : List (List yCt)) (cd : zCode) (ct : yCt) (hs : List yHd) (h : yHd) : Bool := match ct with
  | ((_, tp0), rk, ms, qs) => match h with
    | (pc, (L, tp), me) => Nat.ble tp0.1 tp.1 && (match zfetch cd pc with
      | some (i, a, b, _) => !(yisRet i) && ysel i (tt, some ms, rk, none) (ycall tt (some ms) mt ctb 8) a b pc L [] tp (yrun (tt, some ms, rk, none) cd (ycall tt (some ms) mt ctb 8) (yisHd hs) (yfinC cd tp0.1 qs hs (some me)) 600)
      | none => false)
/-- how deep a contract's calls go is a number from 1 on -/
def yrkB (ct : yCt) : Bool := yidsT ct.1.2.1 ct.2.1.1 && ylS ct.1.2 (yoff (ysu ([], 0) ct.2.1) 1)
def yverA (tt : List yKd) (mt : List (Nat × zCode)) (ctb : List (List yCt)) (cd : zCode) (ct : yCt) (hs : List yHd) (l : List yHd) : Bool := List.rec (motive := fun _ => Bool) true (fun h _ ih => yver1 tt mt ctb cd ct hs h && ih) l
end
