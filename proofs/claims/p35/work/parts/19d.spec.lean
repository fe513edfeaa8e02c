/-! What a text tells, written without a machine: formulas, lines, the first fault. -/
section rdSpec
abbrev tX (A : Type) : Type := Except (Int × Int) A
abbrev tF : Type := Nat × Int × Int
variable (k pl v : Nat → Int)
def tErr {A : Type} (i : Nat) (c : Int) : tX A := .error (if k i = 25 then 1 else c, pl i)
/-- how tightly a sign binds -/
def tJ (c : Int) : Int := if c = 17 then 1 else if c = 18 then 2 else if c = 60 ∨ c = 61 ∨ c = 62 then 4 else if c = 43 ∨ c = 45 then 5 else if c = 42 ∨ c = 47 ∨ c = 37 then 6 else 0
def tL (lv : Nat) : Int := if lv = 0 then 1 else if lv = 1 then 2 else if lv = 2 then 4 else if lv = 3 then 5 else if lv = 4 then 6 else 7
def fUnit (th : List Int) (rec : Nat → Nat → tF → tX tF) (dp : Nat) (s : tF) : tX tF :=
  if 150 ≤ s.2.1 ∨ 30 ≤ s.2.2 then tErr k pl s.1 2
  else if k s.1 = 23 ∨ k s.1 = 20 ∨ k s.1 = 21 then .ok (s.1 + 1, s.2.1 + 1, s.2.2 + 1)
  else if k s.1 = 22 then (if v s.1 ∈ th then .ok (s.1 + 1, s.2.1 + 1, s.2.2 + 1) else tErr k pl s.1 5)
  else if k s.1 = 40 then (if 6 < dp then tErr k pl s.1 2 else
    (rec 0 (dp + 1) (s.1 + 1, s.2.1 + 1, s.2.2 + 1)).bind fun s' => if k s'.1 = 41 then .ok (s'.1 + 1, s'.2) else tErr k pl s'.1 2)
  else tErr k pl s.1 2
def fJoin (f : tF → tX tF) (lv : Nat) : Nat → tF → tX tF
  | 0, s => .ok s
  | n + 1, s => if tJ (k s.1) = tL lv then (f (s.1 + 1, s.2)).bind fun s' => fJoin f lv n s' else .ok s
/-- one level of a formula: 0 any, 1 all, 2 both, 3 sum, 4 term, 5 unit -/
def fLv (th : List Int) : Nat → Nat → Nat → tF → tX tF
  | 0, _, _, _ => .error (0, 0)
  | d + 1, lv, dp, s => if lv = 5 then fUnit k pl v th (fLv th d) dp s
    else if lv = 2 ∧ k s.1 = 19 then (if 6 < dp then tErr k pl s.1 2 else fLv th d 2 (dp + 1) (s.1 + 1, s.2))
    else (fLv th d (lv + 1) dp s).bind fun s' => fJoin k (fLv th d (lv + 1) dp) lv (if lv = 2 then 1 else 30) s'
def sFrm (th : List Int) (i : Nat) (u : Int) : tX (Nat × Int) := (fLv k pl v th 50 0 0 (i, u, 0)).bind fun s => .ok (s.1, s.2.1)
/-- a step: 0 a number, 1 what is asked, 2 not, 3 a sign -/
abbrev tE : Type := Int × Int
/-- a token's sign -/
def tSg (c : Int) : Int := if c = 18 then 38 else if c = 17 then 124 else c
def pUnit (th : List Int) (rec : Nat → Nat → tF → List tE) (dp : Nat) (s : tF) : List tE :=
  if k s.1 = 23 then [(0, v s.1)] else if k s.1 = 20 then [(1, 6)] else if k s.1 = 21 then [(1, 7)] else if k s.1 = 22 then [(1, (th.idxOf (v s.1) : Int))] else rec 0 (dp + 1) (s.1 + 1, s.2.1 + 1, s.2.2 + 1)
def pJoin (f : tF → tX tF) (p : tF → List tE) (lv : Nat) : Nat → tF → List tE
  | 0, _ => []
  | n + 1, s => if tJ (k s.1) = tL lv then p (s.1 + 1, s.2) ++ (3, tSg (k s.1)) :: (match f (s.1 + 1, s.2) with
    | .ok s' => pJoin f p lv n s'
    | .error _ => []) else []
def pMore (f : tF → tX tF) (p : tF → List tE) (lv n : Nat) : tX tF → List tE
  | .ok s' => pJoin k f p lv n s'
  | .error _ => []
/-- the steps of a level -/
def pLv (th : List Int) : Nat → Nat → Nat → tF → List tE
  | 0, _, _, _ => []
  | d + 1, lv, dp, s => if lv = 5 then pUnit k v th (pLv th d) dp s
    else if lv = 2 ∧ k s.1 = 19 then pLv th d 2 (dp + 1) (s.1 + 1, s.2) ++ [(2, 0)]
    else pLv th d (lv + 1) dp s ++ pMore k (fLv k pl v th d (lv + 1) dp) (pLv th d (lv + 1) dp) lv (if lv = 2 then 1 else 30) (fLv k pl v th d (lv + 1) dp s)
/-- the steps of the formula that begins at a token -/
def pFrm (th : List Int) (i : Nat) (u : Int) : List tE := pLv k pl v th 50 0 0 (i, u, 0)
/-- what is told: the steps of the formulas; what stands in rows (87 a thing's beginning, 88 its most, 92 how many sets, 93 of which thing; 0: the hours of a day) -/
abbrev tC : Type := (Nat → Option (List tE)) × (Nat → Nat → Option Int)
def cL (c : tC) (w : Nat) (l : List tE) : tC := (fun f => if f = w then some l else c.1 f, c.2)
def cM (c : tC) (i j : Nat) (x : Int) : tC := (c.1, fun i' j' => if i' = i ∧ j' = j then some x else c.2 i' j')
/-- token, units, the number told last, what is told -/
abbrev tZ : Type := Nat × Int × Int × tC
def zCnt (i j : Nat) (x : Int) (z : tZ) : tZ := (z.1, z.2.1, z.2.2.1, cM z.2.2.2 i j x)
def zPut (i j : Nat) (z : tZ) : tZ := zCnt i j z.2.2.1 z
def zFrm (th : List Int) (w : Nat) (z : tZ) : tX tZ := (sFrm k pl v th z.1 z.2.1).bind fun q => .ok (q.1, q.2, z.2.2.1, cL z.2.2.2 w (pFrm k pl v th z.1 z.2.1))
def zAcc (due : Int) (z : tZ) : tX tZ := if k z.1 = due then .ok (z.1 + 1, z.2) else tErr k pl z.1 2
def zNum (lo hi : Int) (z : tZ) : tX tZ := if k z.1 = 23 then (if lo ≤ v z.1 ∧ v z.1 ≤ hi then .ok (z.1 + 1, z.2.1, v z.1, z.2.2.2) else tErr k pl z.1 4) else tErr k pl z.1 2
/-- behind a line's first word -/
def zNew (nm : List Int) (z : tZ) : tX tZ := if k (z.1 + 1) = 22 then (if v (z.1 + 1) ∈ nm then tErr k pl (z.1 + 1) 3 else .ok (z.1 + 2, z.2.1, v (z.1 + 1), z.2.2.2)) else tErr k pl (z.1 + 1) 2
def zOld (nm : List Int) (z : tZ) : tX tZ := if k z.1 = 22 then (if v z.1 ∈ nm then .ok (z.1 + 1, z.2.1, (nm.idxOf (v z.1) : Int), z.2.2.2) else tErr k pl z.1 5) else tErr k pl z.1 2
/-- a set: THING becomes e (the c-th of an actor) -/
def zSet (th : List Int) (a c : Nat) (z : tZ) : tX tZ := (((zOld k pl v th z).bind fun z => zAcc k pl 16 z).bind fun z => zFrm k pl v th (5 * a + 1 + c) (zPut 93 (4 * a + c) z)).bind fun z => .ok (zCnt 92 a ((c + 1 : Nat) : Int) z)
/-- so many sets more at most -/
def zSets (th : List Int) (a : Nat) : Nat → tZ → tX tZ
  | 0, z => tErr k pl z.1 2
  | n + 1, z => (zSet k pl v th a (4 - (n + 1)) z).bind fun z => if k z.1 = 8 then zSets th a n (if n = 0 then z else (z.1 + 1, z.2)) else .ok z
def zActor (th : List Int) (a : Nat) (z : tZ) : tX tZ := (((zAcc k pl 6 z).bind fun z => zFrm k pl v th (5 * a) z).bind fun z => zAcc k pl 7 z).bind fun z => zSets k pl v th a 4 z
def zFeast (days : Int) (z : tZ) : tX tZ := (zAcc k pl 5 z).bind fun z => zNum k pl v 0 (days - 1) z
/-- token, units, days, names by sort, what was told: 0 a line, 1 the goal, 2 the gain; the rest that is told -/
abbrev tS : Type := Nat × Int × Int × (Nat → List Int) × (Nat → Bool) × tC
/-- what a line gives, ahead of its end -/
abbrev tB : Type := tZ × Int × (Nat → List Int) × Nat
def tAdd (nm : Nat → List Int) (s : Nat) (x : Int) : Nat → List Int := fun t => if t = s then nm s ++ [x] else nm t
def tTell (fl : Nat → Bool) (s : Nat) : Nat → Bool := fun t => if t = 0 ∨ t = s then true else fl t
def sWeek (s : tS) : tX tB := (zNum k pl v 2 9 (s.1 + 1, s.2.1, 0, s.2.2.2.2.2)).bind fun a => ((zAcc k pl 1 a).bind fun z => zNum k pl v 1 6 z).bind fun b => .ok (zPut 0 0 b, a.2.2.1, s.2.2.2.1, 0)
def sThing (s : tS) : tX tB := (zNew k pl v (s.2.2.2.1 0) (s.1, s.2.1, 0, s.2.2.2.2.2)).bind fun x => (((((zNum k pl v 0 999 x).bind fun z => .ok (zPut 87 (s.2.2.2.1 0).length z)).bind fun z => zAcc k pl 3 z).bind fun z => zNum k pl v z.2.2.1 999 z).bind fun z => .ok (zPut 88 (s.2.2.2.1 0).length z)).bind fun z => .ok (z, s.2.2.1, tAdd s.2.2.2.1 0 x.2.2.1, 0)
def sLaw (s : tS) : tX tB := (zNew k pl v (s.2.2.2.1 1) (s.1, s.2.1, 0, s.2.2.2.2.2)).bind fun x => ((zFeast k pl v s.2.2.1 x).bind fun z => zActor k pl v (s.2.2.2.1 0) (s.2.2.2.1 1).length z).bind fun z => .ok (z, s.2.2.1, tAdd s.2.2.2.1 1 x.2.2.1, 0)
def sDeed (s : tS) : tX tB := (zNew k pl v (s.2.2.2.1 2) (s.1, s.2.1, 0, s.2.2.2.2.2)).bind fun x => (zActor k pl v (s.2.2.2.1 0) (5 + (s.2.2.2.1 2).length) x).bind fun z => .ok (z, s.2.2.1, tAdd s.2.2.2.1 2 x.2.2.1, 0)
def sBan (s : tS) : tX tB := (zNew k pl v (s.2.2.2.1 3) (s.1, s.2.1, 0, s.2.2.2.2.2)).bind fun x => (((zFeast k pl v s.2.2.1 x).bind fun z => zAcc k pl 6 z).bind fun z => zFrm k pl v (s.2.2.2.1 0) (55 + (s.2.2.2.1 3).length) z).bind fun z => .ok (z, s.2.2.1, tAdd s.2.2.2.1 3 x.2.2.1, 0)
def sAim (f : Nat) (s : tS) : tX tB := (zFrm k pl v (s.2.2.2.1 0) (58 + f) (s.1 + 1, s.2.1, 0, s.2.2.2.2.2)).bind fun z => .ok (z, s.2.2.1, s.2.2.2.1, f)
def sGuild (s : tS) : tX tB := (zNew k pl v (s.2.2.2.1 4) (s.1, s.2.1, 0, s.2.2.2.2.2)).bind fun x => ((((zAcc k pl 14 x).bind fun z => zOld k pl v (s.2.2.2.1 1) z).bind fun z => zAcc k pl 15 z).bind fun z => zFrm k pl v (s.2.2.2.1 0) (61 + (s.2.2.2.1 4).length) z).bind fun z => .ok (z, s.2.2.1, tAdd s.2.2.2.1 4 x.2.2.1, 0)
def sBody (s : tS) : tX tB :=
  if k s.1 = 0 ∧ s.2.2.2.2.1 0 = false then sWeek k pl v s
  else if k s.1 = 2 ∧ (s.2.2.2.1 0).length < 6 then sThing k pl v s
  else if k s.1 = 4 ∧ (s.2.2.2.1 1).length < 5 then sLaw k pl v s
  else if k s.1 = 9 ∧ (s.2.2.2.1 2).length < 6 then sDeed k pl v s
  else if k s.1 = 10 ∧ (s.2.2.2.1 3).length < 4 then sBan k pl v s
  else if k s.1 = 11 ∧ s.2.2.2.2.1 1 = false then sAim k pl v 1 s
  else if k s.1 = 12 ∧ s.2.2.2.2.1 2 = false then sAim k pl v 2 s
  else if k s.1 = 13 ∧ (s.2.2.2.1 4).length < 4 then sGuild k pl v s
  else tErr k pl s.1 2
def sLine (s : tS) : tX tS := (sBody k pl v s).bind fun q => (zAcc k pl 59 q.1).bind fun z => .ok (z.1, z.2.1, q.2.1, q.2.2.1, tTell s.2.2.2.2.1 q.2.2.2, z.2.2.2)
def sAll : Nat → tS → tX tS
  | 0, s => .ok s
  | n + 1, s => if k s.1 = 24 then .ok s else (sLine k pl v s).bind fun s' => sAll n s'
def tC0 : tC := (fun _ => none, fun i j => if i = 0 ∧ j = 0 then some 4 else none)
def tS0 : tS := (0, 0, 7, fun _ => [], fun _ => false, tC0)
end rdSpec
/-- the tokens of a text -/
def tkK (g : Nat → Int) (N : Nat) : Nat → Int := fun i => rdK g N (rdP g N i)
def tkP (g : Nat → Int) (N : Nat) : Nat → Int := fun i => ((rdP g N i : Nat) : Int)
def tkV (g : Nat → Int) (N : Nat) : Nat → Int := fun i => rdVal g N (rdP g N i)
/-- what a text of so many bytes tells: the fault, its place, how many things -/
def rdOut (g : Nat → Int) (N : Nat) : Int × Int × Int := match sAll (tkK g N) (tkP g N) (tkV g N) 1701 tS0 with
  | .ok s => (0, -1, ((s.2.2.2.1 0).length : Int))
  | .error e => (e.1, e.2, -1)
section rdTok
variable {g : Nat → Int} {N : Nat}
theorem rdE_le {p : Nat} (h : p ≤ N) : rdE g N p ≤ N := by
  unfold rdE
  split
  · exact h
  · split
    · exact (rdEnd_spec p).2.1 h
    · split
      · exact (rdEnd_spec p).2.1 h
      · omega
theorem rdE_gt {p : Nat} (h : p < N) : p < rdE g N p := by
  unfold rdE
  rw [if_neg (by omega)]
  split
  · rename_i hl
    rw [rdEnd_on h hl]
    exact (rdEnd_spec (p + 1)).1
  · split
    · rename_i hl
      rw [rdEnd_on h hl]
      exact (rdEnd_spec (p + 1)).1
    · omega
theorem rdP_le (i : Nat) : rdP g N i ≤ N := by
  induction i with
  | zero => exact (rdEnd_spec 0).2.1 (by omega)
  | succ i ih => exact (rdEnd_spec _).2.1 (rdE_le ih)
theorem rdP_blk (i : Nat) : ¬ (rdP g N i < N ∧ rdBlk (g (rdP g N i)) = true) := by
  cases i with
  | zero => exact (rdEnd_spec 0).2.2.2
  | succ i => exact (rdEnd_spec _).2.2.2
theorem rdP_lt {i : Nat} (h : rdP g N i < N) : rdP g N i < rdP g N (i + 1) := by
  have h1 := rdE_gt (g := g) h
  have h2 := (rdEnd_spec (P := rdBlk) (g := g) (N := N) (rdE g N (rdP g N i))).1
  show rdP g N i < rdEnd rdBlk g N (rdE g N (rdP g N i))
  omega
theorem rdP_ge (i : Nat) : i ≤ rdP g N i ∨ rdP g N i = N := by
  induction i with
  | zero => exact Or.inl (Nat.zero_le _)
  | succ i ih =>
    have h0 := rdP_le (g := g) (N := N) i
    have h1 := rdP_le (g := g) (N := N) (i + 1)
    by_cases h : rdP g N i < N
    · have := rdP_lt h
      rcases ih with ih | ih
      · exact Or.inl (by omega)
      · omega
    · refine Or.inr ?_
      have e : rdE g N (rdP g N i) = rdP g N i := by unfold rdE; rw [if_pos (by omega)]
      have h2 := (rdEnd_spec (P := rdBlk) (g := g) (N := N) (rdE g N (rdP g N i))).1
      have h3 : rdP g N (i + 1) = rdEnd rdBlk g N (rdE g N (rdP g N i)) := rfl
      omega
theorem rdK_24 {p : Nat} : rdK g N p = 24 ↔ N ≤ p := by
  constructor
  · intro h
    rcases Nat.lt_or_ge p N with hp | hp
    · exfalso
      rw [rdK, if_neg (by omega)] at h
      split at h
      · split at h
        · omega
        · have := (rdKw_le (rdV 256 0 g p (rdEnd rdLet g N p - p))).2
          omega
      · split at h
        · split at h <;> omega
        · split at h
          · rename_i hs
            rw [rdSgn_iff, rdSg_iff] at hs
            omega
          · omega
    · exact hp
  · intro h; exact if_pos h
/-- a token that is not the last one: where it stands, and how many are ahead of it -/
theorem tk_lt {i : Nat} (h : tkK g N i ≠ 24) : rdP g N i < N ∧ i ≤ rdP g N i ∧ i + 1 ≤ N := by
  have h1 : ¬ N ≤ rdP g N i := fun hh => h (rdK_24.mpr hh)
  have h2 := rdP_ge (g := g) (N := N) i
  omega
theorem rdEnd_run {P : Int → Bool} {p : Nat} : ∀ j, j < rdEnd P g N p - p → P (g (p + j)) = true := fun j hj => (rdEnd_spec (N := N) p).2.2.1 (p + j) (by omega) (by omega)
/-- what kinds there are; a word's kind, its two numbers -/
theorem rdK_ok (p : Nat) : ((0 ≤ rdK g N p ∧ rdK g N p ≤ 25) ∨ rdK g N p ∈ rdSg) ∧ (rdK g N p ≤ 22 → rdK g N p = rdKw (rdC 8 (rdVal g N p)) ∧ 0 ≤ rdVal g N p ∧ rdVal g N p < 282429536481 ∧ rdC 8 (rdVal g N p) = rdV 256 0 g p (rdEnd rdLet g N p - p)) ∧ (rdK g N p = 23 → 0 ≤ rdVal g N p ∧ rdVal g N p ≤ 9999) := by
  rw [rdK, rdVal]
  by_cases hE : N ≤ p
  · rw [if_pos hE, if_pos hE]
    exact ⟨Or.inl (by omega), fun h => by omega, fun h => by omega⟩
  · rw [if_neg hE, if_neg hE]
    by_cases hL : rdLet (g p) = true
    · rw [if_pos hL, if_pos hL]
      by_cases h8 : 8 < rdEnd rdLet g N p - p
      · rw [if_pos h8]
        exact ⟨Or.inl (by omega), fun h => by omega, fun h => by omega⟩
      · rw [if_neg h8]
        obtain ⟨a1, a2, a3⟩ := rdC_V (g := g) (p := p) (rdEnd rdLet g N p - p) 8 (by omega) rdEnd_run
        have hpw : (27 : Int) ^ (rdEnd rdLet g N p - p) ≤ 282429536481 := rd27 ▸ rdPow27 (by omega)
        have hk := rdKw_le (rdV 256 0 g p (rdEnd rdLet g N p - p))
        refine ⟨Or.inl (by omega), fun h => ⟨?_, a1, by omega, a3⟩, fun h => by omega⟩
        rw [a3]
    · rw [if_neg hL, if_neg hL]
      by_cases hD : rdDig (g p) = true
      · rw [if_pos hD, if_pos hD]
        split
        · exact ⟨Or.inl (by omega), fun h => by omega, fun h => by omega⟩
        · rename_i h4
          refine ⟨Or.inl (by omega), fun h => by omega, fun h => ?_⟩
          obtain ⟨a1, a2⟩ := rdV_10 (g := g) (p := p) (rdEnd rdDig g N p - p) rdEnd_run
          have hpw : (10 : Int) ^ (rdEnd rdDig g N p - p) ≤ 10 ^ 4 := rdPow10 (by omega)
          omega
      · rw [if_neg hD, if_neg hD]
        split
        · rename_i hs
          have hs := rdSgn_iff.mp hs
          have hs2 := rdSg_iff.mp hs
          exact ⟨Or.inr hs, fun h => by omega, fun h => by omega⟩
        · exact ⟨Or.inl (by omega), fun h => by omega, fun h => by omega⟩
end rdTok
