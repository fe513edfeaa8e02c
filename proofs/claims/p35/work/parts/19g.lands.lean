/-! What is told, what fits, without a machine; what the class and the reference have in common of it, as facts of rows of ints. -/
abbrev xC : Type := Nat → Nat → Int
def w32 (z : Int) : Int := Int.bmod z 4294967296
def x32 (f : Int32 → Int32 → Int32) (x y : Int) : Int := (f (Int32.ofInt x) (Int32.ofInt y)).toInt
/-- a code of the class: a kind, a number -/
def ccd (a b : Int) : Int := x32 (· ||| ·) (x32 (fun x y => x <<< (y &&& 31)) b 4) a
def ceS (c : Int) : Int := if c = 124 then 14 else if c = 38 then 13 else if c = 37 then 9 else if c = 42 then 7 else if c = 43 then 5 else if c = 45 then 6 else if c = 47 then 8 else if c = 60 then 10 else if c = 61 then 12 else 11
def ceK (e : tE) : Int := if e.1 = 0 then 0 else if e.1 = 1 then (if e.2 = 6 then 2 else if e.2 = 7 then 3 else 1) else if e.1 = 2 then 4 else ceS e.2
def ceN (e : tE) : Int := if e.1 = 0 then e.2 else if e.1 = 1 ∧ e.2 ≠ 6 ∧ e.2 ≠ 7 then e.2 else 0
/-- a step's code -/
def ce (e : tE) : Int := ccd (ceK e) (ceN e)
/-- the codes that stand in the row -/
def cRw (r : Nat) (cs : List Int) (C : xC) : Prop := ∀ (j : Nat) (x : Int), cs[j]? = some x → C (r + 10) j = x
/-- the class's number of a formula -/
def cf (w : Nat) : Nat := if w < 55 then (if w % 5 = 0 then w / 5 else 21 + (4 * (w / 5) + (w % 5 - 1))) else if w < 59 then 11 + (w - 55) else if w < 61 then 15 + (w - 59) else 17 + (w - 61)
/-- what is told stands in the land's rows -/
def cC (c : tC) (cs : List Int) (r : Nat) (C : xC) : Prop := (∀ w l, w < 65 → c.1 w = some l → ∃ b : Nat, C (r + 8) (cf w) = (b : Int) ∧ C (r + 9) (cf w) = ((b + l.length : Nat) : Int) ∧ ∀ i x, l[i]? = some x → cs[b + i]? = some (ce x)) ∧ (∀ x, c.2 0 0 = some x → C r 1 = x) ∧ ∀ j x, (c.2 87 j = some x → C (r + 2) j = x) ∧ (c.2 88 j = some x → C (r + 3) j = x) ∧ (c.2 92 j = some x → C (r + 6) j = x) ∧ (c.2 93 j = some x → C (r + 7) j = x)
/-- a sign's work -/
def eD (c a b : Int) : Int := if c = 43 then w32 (a + b) else if c = 45 then w32 (a - b) else if c = 42 then w32 (a * b) else if c = 47 then (if b = 0 then 0 else x32 (· / ·) a b) else if c = 37 then (if b = 0 then 0 else x32 (fun x y => x - x / y * y) a b) else if c = 60 then (if a < b then 1 else 0) else if c = 62 then (if b < a then 1 else 0) else if c = 61 then (if a = b then 1 else 0) else if c = 38 then (if a ≠ 0 ∧ b ≠ 0 then 1 else 0) else (if a ≠ 0 ∨ b ≠ 0 then 1 else 0)
/-- the things, the day, the hour -/
abbrev eT : Type := (Nat → Int) × Int × Int
def eA (t : eT) (a : Int) : Int := if a = 6 then t.2.1 else if a = 7 then t.2.2 else t.1 a.toNat
/-- a step: the stack has its top first -/
def eS (t : eT) (e : tE) (st : List Int) : List Int := if e.1 = 0 then e.2 :: st else if e.1 = 1 then eA t e.2 :: st else if e.1 = 2 then (match st with
  | a :: r => (if a = 0 then 1 else 0) :: r
  | [] => []) else (match st with
  | b :: a :: r => eD e.2 a b :: r
  | _ => [])
def eR (t : eT) : List tE → List Int → List Int
  | [], st => st
  | e :: es, st => eR t es (eS t e st)
def eV (t : eT) (es : List tE) : Int := (eR t es []).headD 0
/-- a step that may stand in a formula -/
def eOk (T : Nat) (e : tE) : Prop := (e.1 = 0 ∧ 0 ≤ e.2 ∧ e.2 ≤ 9999) ∨ (e.1 = 1 ∧ 0 ≤ e.2 ∧ e.2 ≤ 7 ∧ (e.2 < T ∨ 6 ≤ e.2)) ∨ e.1 = 2 ∨ (e.1 = 3 ∧ (e.2 = 124 ∨ e.2 = 38 ∨ e.2 = 37 ∨ e.2 = 42 ∨ e.2 = 43 ∨ e.2 = 45 ∨ e.2 = 47 ∨ e.2 = 60 ∨ e.2 = 61 ∨ e.2 = 62))
section evLand
def eF (c : tC) (w : Nat) : List tE := (c.1 w).getD []
def eN (c : tC) (i j : Nat) : Int := (c.2 i j).getD 0
/-- a thing gets a number -/
def ePut (top : Int) (k : Nat) (v : Int) (t : eT) : eT := (fun j => if j = k then (if v < 0 then 0 else if top < v then top else v) else t.1 j, t.2)
def eSet (c : tC) (a n : Nat) (t : eT) : eT := ePut (eN c 88 (eN c 93 (4 * a + n)).toNat) (eN c 93 (4 * a + n)).toNat (eV t (eF c (5 * a + 1 + n))) t
/-- the sets of a law, a deed from the n-th on, so many -/
def eSets (c : tC) (a : Nat) : Nat → Nat → eT → eT
  | _, 0, t => t
  | n, m + 1, t => eSets c a (n + 1) m (eSet c a n t)
def eLaw (c : tC) (f : Nat → Int) (l : Nat) (t : eT) : eT := if f l = t.2.1 then t else if eV t (eF c (5 * l)) = 0 then t else eSets c l 0 (eN c 92 l).toNat t
def eLaws (c : tC) (f : Nat → Int) : Nat → Nat → eT → eT
  | _, 0, t => t
  | l, m + 1, t => eLaws c f (l + 1) m (eLaw c f l t)
def eTick (D H : Int) (t : eT) : eT := if t.2.2 + 1 < H then (t.1, t.2.1, t.2.2 + 1) else (t.1, (if t.2.1 + 1 < D then t.2.1 + 1 else 0), 0)
def eHour (c : tC) (f : Nat → Int) (D : Int) (nL : Nat) (t : eT) : eT := eTick D (eN c 0 0) (eLaws c f 0 nL t)
/-- a formula as it may be told -/
def fOk (T : Nat) (es : List tE) : Prop := (∀ x ∈ es, eOk T x) ∧ rpOk 31 es 0 = some 1
/-- the n-th set of an actor is told as it may be -/
def eSok (T : Nat) (c : tC) (a n : Nat) : Prop := (∃ es, c.1 (5 * a + 1 + n) = some es ∧ fOk T es) ∧ ∃ k : Nat, (k < T ∧ k < 6) ∧ c.2 93 (4 * a + n) = some (k : Int) ∧ ∃ top : Int, c.2 88 k = some top ∧ 0 ≤ top ∧ top ≤ 999
/-- laws are told as they may be -/
def eLok (T : Nat) (c : tC) (nL : Nat) : Prop := nL ≤ 5 ∧ (∃ H : Int, c.2 0 0 = some H ∧ 1 ≤ H ∧ H ≤ 6) ∧ ∀ l, l < nL → (∃ es, c.1 (5 * l) = some es ∧ fOk T es) ∧ ∃ m : Nat, m ≤ 4 ∧ c.2 92 l = some (m : Int) ∧ ∀ n, n < m → eSok T c l n
theorem eF_of {c : tC} {w : Nat} {es : List tE} (h : c.1 w = some es) : eF c w = es := by unfold eF; rw [h]; rfl
theorem eN_of {c : tC} {i j : Nat} {x : Int} (h : c.2 i j = some x) : eN c i j = x := by unfold eN; rw [h]; rfl
/-- a day, an hour as they may be -/
def eTok (D : Int) (t : eT) : Prop := 0 ≤ t.2.1 ∧ t.2.1 < D ∧ 0 ≤ t.2.2 ∧ t.2.2 ≤ 6
theorem eSets_2 {c : tC} {a : Nat} : ∀ (m n : Nat) (t : eT), (eSets c a n m t).2 = t.2 := by
  intro m
  induction m with
  | zero => intro n t; rfl
  | succ m ih => intro n t; exact ih (n + 1) (eSet c a n t)
theorem eLaw_2 {c : tC} {f : Nat → Int} {l : Nat} {t : eT} : (eLaw c f l t).2 = t.2 := by
  unfold eLaw
  split
  · rfl
  · split
    · rfl
    · exact eSets_2 _ _ _
theorem eLaws_2 {c : tC} {f : Nat → Int} : ∀ (m l : Nat) (t : eT), (eLaws c f l m t).2 = t.2 := by
  intro m
  induction m with
  | zero => intro l t; rfl
  | succ m ih => intro l t; exact (ih (l + 1) (eLaw c f l t)).trans eLaw_2
theorem eTick_ok {D H : Int} {t : eT} (hD : 0 < D) (hH : H ≤ 6) (h : eTok D t) : eTok D (eTick D H t) := by
  obtain ⟨h1, h2, h3, h4⟩ := h
  unfold eTick
  split
  · exact ⟨h1, h2, by show 0 ≤ t.2.2 + 1; omega, by show t.2.2 + 1 ≤ 6; omega⟩
  · refine ⟨?_, ?_, Int.le_refl _, (show (0 : Int) ≤ 6 by decide)⟩
    · show 0 ≤ if t.2.1 + 1 < D then t.2.1 + 1 else 0
      split <;> omega
    · show (if t.2.1 + 1 < D then t.2.1 + 1 else 0) < D
      split <;> omega
theorem eHour_ok {T : Nat} {c : tC} {f : Nat → Int} {D : Int} {nL : Nat} {t : eT} (hc : eLok T c nL) (hD : 0 < D) (h : eTok D t) : eTok D (eHour c f D nL t) := by
  obtain ⟨H, h1, h2, h3⟩ := hc.2.1
  unfold eHour
  rw [eN_of h1]
  refine eTick_ok hD h3 ?_
  unfold eTok
  rw [eLaws_2]
  exact h
end evLand
/-- the land's content stands in its rows -/
def cLd (r : Nat) (c : tC) (C : xC) : Prop := ∃ cs, cRw r cs C ∧ cC c cs r C ∧ cs.length ≤ 1024
/-- the content stands in the rows of the reference's land -/
def rLd (c : tC) (C : xC) : Prop := ∃ es : List tE, (∀ j x, es[j]? = some x → C 81 j = x.1 ∧ C 82 j = x.2) ∧ es.length ≤ 2400 ∧ (∀ w l, w < 65 → c.1 w = some l → ∃ b : Nat, C 83 w = (b : Int) ∧ C 84 w = (l.length : Int) ∧ ∀ i x, l[i]? = some x → es[b + i]? = some x) ∧ (∀ x, c.2 0 0 = some x → C 74 55 = x) ∧ ∀ j x, (j < 6 → c.2 87 j = some x → C 94 j = x) ∧ (j < 6 → c.2 88 j = some x → C 95 j = x) ∧ (j < 11 → c.2 92 j = some x → C 99 j = x) ∧ (j < 44 → c.2 93 j = some x → C 100 j = x)
section fitSpec
/-- the feasts of the calendar of a number, of so many laws -/
def eLay (D : Int) : Nat → Int → Nat → Int
  | 0, _ => fun _ => 0
  | k + 1, n => fun l => if l = k then n % D else eLay D k (n / D) l
/-- how many calendars there are -/
def eCal (D : Int) : Nat → Int
  | 0 => 1
  | k + 1 => eCal D k * D
/-- so many hours -/
def eRun (c : tC) (f : Nat → Int) (D : Int) (nL : Nat) : Nat → eT → eT
  | 0, t => t
  | n + 1, t => eHour c f D nL (eRun c f D nL n t)
/-- the beginning -/
def e0 (c : tC) : eT := (fun j => eN c 87 j, 0, 0)
/-- the looks: how many; hours behind, thing, number, told at, untold at -/
abbrev eK : Type := Nat × (Nat → Int) × (Nat → Int) × (Nat → Int) × (Nat → Int) × (Nat → Int)
def kCt (K : eK) (k : Int) (l : Nat) : Bool := decide (K.2.2.2.2.1 l ≤ k) && (decide (K.2.2.2.2.2 l < 0) || decide (k < K.2.2.2.2.2 l))
/-- does what a look says hold -/
def kHo (c : tC) (f : Nat → Int) (D : Int) (nL : Nat) (K : eK) (l : Nat) : Bool := decide ((eRun c f D nL (K.2.1 l).toNat (e0 c)).1 (K.2.2.1 l).toNat = K.2.2.2.1 l)
def eFits (c : tC) (f : Nat → Int) (D : Int) (nL : Nat) (K : eK) (k : Int) : Bool := (List.range K.1).all fun l => !kCt K k l || kHo c f D nL K l
/-- how many of the first numbers have it -/
def eNum (p : Nat → Bool) : Nat → Nat
  | 0 => 0
  | n + 1 => eNum p n + (if p n = true then 1 else 0)
/-- how many calendars fit -/
def eFit (c : tC) (D : Int) (nL : Nat) (K : eK) (k : Int) : Int := if 20000 < eCal D nL then -2 else (eNum (fun n => eFits c (eLay D nL (n : Int)) D nL K k) (eCal D nL).toNat : Int)
/-- looks as they may be -/
def kOk (T : Nat) (K : eK) : Prop := K.1 ≤ 20 ∧ T ≤ 6 ∧ ∀ l, l < K.1 → (0 ≤ K.2.1 l ∧ K.2.1 l ≤ 60) ∧ (0 ≤ K.2.2.1 l ∧ K.2.2.1 l < T) ∧ 0 ≤ K.2.2.2.1 l ∧ -1 ≤ K.2.2.2.2.2 l
theorem eFits_iff {c : tC} {f : Nat → Int} {D : Int} {nL : Nat} {K : eK} {k : Int} : eFits c f D nL K k = true ↔ ∀ l, l < K.1 → kCt K k l = true → kHo c f D nL K l = true := by
  unfold eFits
  rw [List.all_eq_true]
  constructor
  · intro h l hl hc
    have := h l (List.mem_range.mpr hl)
    rw [hc] at this
    simpa using this
  · intro h l hl
    cases hc : kCt K k l with
    | false => rfl
    | true => rw [h l (List.mem_range.mp hl) hc]; rfl
theorem eLay_0 {D : Int} : ∀ (k l : Nat), eLay D k 0 l = 0 := by
  intro k
  induction k with
  | zero => intro l; rfl
  | succ k ih =>
    intro l
    show (if l = k then 0 % D else eLay D k (0 / D) l) = 0
    rw [Int.zero_emod, Int.zero_ediv, ih]
    split <;> rfl
theorem eDiv {D n : Int} (h2 : 2 ≤ D) (h9 : D ≤ 9) (hn : 0 ≤ n) : (n % D + 1 < D → (n + 1) % D = n % D + 1 ∧ (n + 1) / D = n / D) ∧ (D ≤ n % D + 1 → (n + 1) % D = 0 ∧ (n + 1) / D = n / D + 1) ∧ 0 ≤ n % D ∧ n % D < D ∧ 0 ≤ n / D := by
  rcases (show D = 2 ∨ D = 3 ∨ D = 4 ∨ D = 5 ∨ D = 6 ∨ D = 7 ∨ D = 8 ∨ D = 9 by omega) with rfl | rfl | rfl | rfl | rfl | rfl | rfl | rfl <;> omega
theorem eCal_le {D : Int} {k : Nat} (h2 : 2 ≤ D) (h9 : D ≤ 9) (hk : k ≤ 5) : 1 ≤ eCal D k ∧ eCal D k ≤ 59049 := by
  rcases (show D = 2 ∨ D = 3 ∨ D = 4 ∨ D = 5 ∨ D = 6 ∨ D = 7 ∨ D = 8 ∨ D = 9 by omega) with rfl | rfl | rfl | rfl | rfl | rfl | rfl | rfl <;>
    rcases (show k = 0 ∨ k = 1 ∨ k = 2 ∨ k = 3 ∨ k = 4 ∨ k = 5 by omega) with rfl | rfl | rfl | rfl | rfl | rfl <;> exact ⟨by decide, by decide⟩
end fitSpec
/-- the things are told as they may be -/
def cThs (T : Nat) (c : tC) : Prop := T ≤ 6 ∧ ∀ j, j < T → (∃ x, c.2 87 j = some x) ∧ ∃ top : Int, c.2 88 j = some top ∧ 0 ≤ top ∧ top ≤ 999
section gLands
/-- the kind by which a cell is read -/
def kD (i : Nat) : Nat := match Nat.ble 2 i with
  | true => (match Nat.ble 24 i with
    | true => i - 11
    | false => i + 200)
  | false => i
def kC (K : Nat → Nat → Int) : xC := fun i j => K (kD i) j
/-- the class's lands: arrays, how many places; fields -/
def kLs : List (Nat × Nat) := [(203, 5), (204, 6), (205, 6), (208, 11), (209, 44), (210, 65), (211, 65), (212, 1024), (214, 5), (215, 6), (216, 6), (219, 11), (220, 44), (221, 65), (222, 65), (223, 1024)]
def kFl : List (Nat × Nat) := [(202, 0), (202, 1), (213, 0), (213, 1)]
/-- the reference's land -/
def kRs : List (Nat × Nat) := [(70, 2400), (71, 2400), (72, 65), (73, 65), (83, 6), (84, 6), (88, 11), (89, 44)]
def kRf : List (Nat × Nat) := [(63, 50), (63, 54), (63, 55)]
def kKs : List (Nat × Nat) := [(105, 20), (106, 20), (107, 20), (108, 20), (109, 20)]
def cSm (C C1 : xC) : Prop := ∀ r, (r = 2 ∨ r = 13) → (C r 0 = C1 r 0 ∧ C r 1 = C1 r 1) ∧ (∀ j, j < 5 → C (r + 1) j = C1 (r + 1) j) ∧ (∀ j, j < 6 → C (r + 2) j = C1 (r + 2) j) ∧ (∀ j, j < 6 → C (r + 3) j = C1 (r + 3) j) ∧ (∀ j, j < 11 → C (r + 6) j = C1 (r + 6) j) ∧ (∀ j, j < 44 → C (r + 7) j = C1 (r + 7) j) ∧ (∀ j, j < 65 → C (r + 8) j = C1 (r + 8) j) ∧ (∀ j, j < 65 → C (r + 9) j = C1 (r + 9) j) ∧ ∀ j, j < 1024 → C (r + 10) j = C1 (r + 10) j
def rSm (C C1 : xC) : Prop := (∀ j, j < 2400 → C 81 j = C1 81 j) ∧ (∀ j, j < 2400 → C 82 j = C1 82 j) ∧ (∀ j, j < 65 → C 83 j = C1 83 j) ∧ (∀ j, j < 65 → C 84 j = C1 84 j) ∧ (∀ j, j < 6 → C 94 j = C1 94 j) ∧ (∀ j, j < 6 → C 95 j = C1 95 j) ∧ (∀ j, j < 11 → C 99 j = C1 99 j) ∧ (∀ j, j < 44 → C 100 j = C1 100 j) ∧ C 74 50 = C1 74 50 ∧ C 74 54 = C1 74 54 ∧ C 74 55 = C1 74 55
variable {K K1 : Nat → Nat → Int} {C C1 : xC} {r T nL : Nat} {c : tC} {D : Int}
theorem cSm_of (h1 : ∀ q ∈ kLs, ∀ j, j < q.2 → K q.1 j = K1 q.1 j) (h2 : ∀ q ∈ kFl, K q.1 q.2 = K1 q.1 q.2) : cSm (kC K) (kC K1) := by
  intro r hr
  rcases hr with rfl | rfl
  · exact ⟨⟨h2 (202, 0) (by decide), h2 (202, 1) (by decide)⟩, h1 (203, 5) (by decide), h1 (204, 6) (by decide), h1 (205, 6) (by decide), h1 (208, 11) (by decide), h1 (209, 44) (by decide), h1 (210, 65) (by decide), h1 (211, 65) (by decide), h1 (212, 1024) (by decide)⟩
  · exact ⟨⟨h2 (213, 0) (by decide), h2 (213, 1) (by decide)⟩, h1 (214, 5) (by decide), h1 (215, 6) (by decide), h1 (216, 6) (by decide), h1 (219, 11) (by decide), h1 (220, 44) (by decide), h1 (221, 65) (by decide), h1 (222, 65) (by decide), h1 (223, 1024) (by decide)⟩
theorem rSm_of (h1 : ∀ q ∈ kRs, ∀ j, j < q.2 → K q.1 j = K1 q.1 j) (h2 : ∀ q ∈ kRf, K q.1 q.2 = K1 q.1 q.2) : rSm (kC K) (kC K1) :=
  ⟨h1 (70, 2400) (by decide), h1 (71, 2400) (by decide), h1 (72, 65) (by decide), h1 (73, 65) (by decide), h1 (83, 6) (by decide), h1 (84, 6) (by decide), h1 (88, 11) (by decide), h1 (89, 44) (by decide), h2 (63, 50) (by decide), h2 (63, 54) (by decide), h2 (63, 55) (by decide)⟩
theorem cf_lt {w : Nat} (hw : w < 65) : cf w < 65 := by
  unfold cf
  repeat' split
  all_goals omega
/-- what is told stands in the land's rows, as far as they go -/
def gCC (c : tC) (cs : List Int) (r : Nat) (C : xC) : Prop := (∀ w l, w < 65 → c.1 w = some l → ∃ b : Nat, C (r + 8) (cf w) = (b : Int) ∧ C (r + 9) (cf w) = ((b + l.length : Nat) : Int) ∧ ∀ i x, l[i]? = some x → cs[b + i]? = some (ce x)) ∧ (∀ x, c.2 0 0 = some x → C r 1 = x) ∧ ∀ j x, (j < 6 → c.2 87 j = some x → C (r + 2) j = x) ∧ (j < 6 → c.2 88 j = some x → C (r + 3) j = x) ∧ (j < 11 → c.2 92 j = some x → C (r + 6) j = x) ∧ (j < 44 → c.2 93 j = some x → C (r + 7) j = x)
def gCL (r : Nat) (c : tC) (C : xC) : Prop := ∃ cs : List Int, (∀ (j : Nat) (x : Int), cs[j]? = some x → C (r + 10) j = x) ∧ gCC c cs r C ∧ cs.length ≤ 1024
/-- what is told in places that there are -/
def tcut (c : tC) : tC := (c.1, fun i j => if ((i = 87 ∨ i = 88) ∧ 6 ≤ j) ∨ (i = 92 ∧ 11 ≤ j) ∨ (i = 93 ∧ 44 ≤ j) then none else c.2 i j)
theorem tcut_some {i j : Nat} {x : Int} (h : (tcut c).2 i j = some x) : c.2 i j = some x ∧ ¬ (((i = 87 ∨ i = 88) ∧ 6 ≤ j) ∨ (i = 92 ∧ 11 ≤ j) ∨ (i = 93 ∧ 44 ≤ j)) := by
  have h : (if ((i = 87 ∨ i = 88) ∧ 6 ≤ j) ∨ (i = 92 ∧ 11 ≤ j) ∨ (i = 93 ∧ 44 ≤ j) then none else c.2 i j) = some x := h
  split at h
  · cases h
  · rename_i hn
    exact ⟨h, hn⟩
theorem tcut_of {i j : Nat} {x : Int} (h : c.2 i j = some x) (hn : ¬ (((i = 87 ∨ i = 88) ∧ 6 ≤ j) ∨ (i = 92 ∧ 11 ≤ j) ∨ (i = 93 ∧ 44 ≤ j))) : (tcut c).2 i j = some x := by
  show (if ((i = 87 ∨ i = 88) ∧ 6 ≤ j) ∨ (i = 92 ∧ 11 ≤ j) ∨ (i = 93 ∧ 44 ≤ j) then none else c.2 i j) = some x
  rw [if_neg hn]
  exact h
theorem gCL_of (h : cLd r c C) : gCL r c C := by
  obtain ⟨cs, h1, ⟨h2, h3, h4⟩, h5⟩ := h
  exact ⟨cs, h1, ⟨h2, h3, fun j x => ⟨fun _ => (h4 j x).1, fun _ => (h4 j x).2.1, fun _ => (h4 j x).2.2.1, fun _ => (h4 j x).2.2.2⟩⟩, h5⟩
theorem gCL_to (h : gCL r c C) : cLd r (tcut c) C := by
  obtain ⟨cs, h1, ⟨h2, h3, h4⟩, h5⟩ := h
  refine ⟨cs, h1, ⟨h2, fun x hx => h3 x (tcut_some hx).1, fun j x => ⟨fun hx => ?_, fun hx => ?_, fun hx => ?_, fun hx => ?_⟩⟩, h5⟩
  · obtain ⟨a1, a2⟩ := tcut_some hx
    exact (h4 j x).1 (by omega) a1
  · obtain ⟨a1, a2⟩ := tcut_some hx
    exact (h4 j x).2.1 (by omega) a1
  · obtain ⟨a1, a2⟩ := tcut_some hx
    exact (h4 j x).2.2.1 (by omega) a1
  · obtain ⟨a1, a2⟩ := tcut_some hx
    exact (h4 j x).2.2.2 (by omega) a1
theorem gCL_keep (hr : r = 2 ∨ r = 13) (hs : cSm C C1) (h : gCL r c C) : gCL r c C1 := by
  obtain ⟨⟨s0, s1⟩, s2, s3, s4, s5, s6, s7, s8, s9⟩ := hs r hr
  obtain ⟨cs, h1, ⟨h2, h3, h4⟩, h5⟩ := h
  refine ⟨cs, fun j x hx => ?_, ⟨fun w l hw hl => ?_, fun x hx => s1.symm.trans (h3 x hx), fun j x => ⟨fun hj hx => (s3 j hj).symm.trans ((h4 j x).1 hj hx), fun hj hx => (s4 j hj).symm.trans ((h4 j x).2.1 hj hx), fun hj hx => (s5 j hj).symm.trans ((h4 j x).2.2.1 hj hx), fun hj hx => (s6 j hj).symm.trans ((h4 j x).2.2.2 hj hx)⟩⟩, h5⟩
  · have := (List.getElem?_eq_some_iff.mp hx).1
    exact (s9 j (by omega)).symm.trans (h1 j x hx)
  · obtain ⟨b, b1, b2, b3⟩ := h2 w l hw hl
    exact ⟨b, (s7 _ (cf_lt hw)).symm.trans b1, (s8 _ (cf_lt hw)).symm.trans b2, b3⟩
theorem rLd_keep (hs : rSm C C1) (h : rLd c C) : rLd c C1 := by
  obtain ⟨s1, s2, s3, s4, s5, s6, s7, s8, s9, s10, s11⟩ := hs
  obtain ⟨es, h1, h2, h3, h4, h5⟩ := h
  refine ⟨es, fun j x hx => ?_, h2, fun w l hw hl => ?_, fun x hx => s11.symm.trans (h4 x hx), fun j x => ⟨fun hj hx => (s5 j hj).symm.trans ((h5 j x).1 hj hx), fun hj hx => (s6 j hj).symm.trans ((h5 j x).2.1 hj hx), fun hj hx => (s7 j hj).symm.trans ((h5 j x).2.2.1 hj hx), fun hj hx => (s8 j hj).symm.trans ((h5 j x).2.2.2 hj hx)⟩⟩
  · have hj := (List.getElem?_eq_some_iff.mp hx).1
    exact ⟨(s1 j (by omega)).symm.trans (h1 j x hx).1, (s2 j (by omega)).symm.trans (h1 j x hx).2⟩
  · obtain ⟨b, b1, b2, b3⟩ := h3 w l hw hl
    exact ⟨b, (s3 _ hw).symm.trans b1, (s4 _ hw).symm.trans b2, b3⟩
theorem rLd_cut (h : rLd c C) : rLd (tcut c) C := by
  obtain ⟨es, h1, h2, h3, h4, h5⟩ := h
  exact ⟨es, h1, h2, h3, fun x hx => h4 x (tcut_some hx).1, fun j x => ⟨fun hj hx => (h5 j x).1 hj (tcut_some hx).1, fun hj hx => (h5 j x).2.1 hj (tcut_some hx).1, fun hj hx => (h5 j x).2.2.1 hj (tcut_some hx).1, fun hj hx => (h5 j x).2.2.2 hj (tcut_some hx).1⟩⟩
/-- a land as it may be told -/
def gOK (T nL : Nat) (D : Int) (c : tC) : Prop := cThs T c ∧ eLok T c nL ∧ 2 ≤ D ∧ D ≤ 9
theorem gOK_cut (h : gOK T nL D c) : gOK T nL D (tcut c) := by
  obtain ⟨⟨h1, h2⟩, ⟨e1, ⟨H, e2, e3⟩, e4⟩, h3⟩ := h
  refine ⟨⟨h1, fun j hj => ?_⟩, ⟨e1, ⟨H, tcut_of e2 (by omega), e3⟩, fun l hl => ?_⟩, h3⟩
  · obtain ⟨⟨x, hx⟩, top, t1, t2⟩ := h2 j hj
    exact ⟨⟨x, tcut_of hx (by omega)⟩, top, tcut_of t1 (by omega), t2⟩
  · obtain ⟨f1, m, m1, m2, m3⟩ := e4 l hl
    refine ⟨f1, m, m1, tcut_of m2 (by omega), fun n hn => ?_⟩
    obtain ⟨g1, k, k1, k2, top, k3, k4⟩ := m3 n hn
    exact ⟨g1, k, k1, tcut_of k2 (by omega), top, tcut_of k3 (by omega), k4⟩
/-- the class's land in a cell and the reference's are one -/
def gLAND (C : xC) (n : Int) : Prop := ∃ (r T nL : Nat) (c : tC) (D : Int), n = (r : Int) ∧ (r = 2 ∨ r = 13) ∧ gOK T nL D c ∧ (gCL r c C ∧ C (r + 1) 1 = (nL : Int) ∧ C (r + 1) 0 = (T : Int) ∧ C r 0 = D) ∧ rLd c C ∧ C 74 49 = (T : Int) ∧ C 74 50 = (nL : Int) ∧ C 74 54 = D
theorem gLAND_keep {n : Int} (hc : cSm C C1) (hs : rSm C C1) (h49 : C 74 49 = C1 74 49) (h : gLAND C n) : gLAND C1 n := by
  obtain ⟨r, T, nL, c, D, h1, h2, h3, ⟨h4, h5, h6, h7⟩, h8, h9, h10, h11⟩ := h
  obtain ⟨⟨s0, s1⟩, s2, -⟩ := hc r h2
  have q := hs.2.2.2.2.2.2.2.2
  exact ⟨r, T, nL, c, D, h1, h2, h3, ⟨gCL_keep h2 hc h4, (s2 1 (by decide)).symm.trans h5, (s2 0 (by decide)).symm.trans h6, s0.symm.trans h7⟩, rLd_keep hs h8, h49.symm.trans h9, q.1.symm.trans h10, q.2.1.symm.trans h11⟩
/-- a number is how many calendars fit, by the reference's rows -/
def gFIT (C : xC) (n k : Int) : Prop := ∃ (T nL : Nat) (c : tC) (D : Int) (K : eK), n = eFit c D nL K k ∧ gOK T nL D c ∧ rLd c C ∧ C 74 50 = (nL : Int) ∧ C 74 54 = D ∧ kOk T K ∧ C 74 98 = (K.1 : Int) ∧ ∀ l, l < K.1 → C 116 l = K.2.1 l ∧ C 117 l = K.2.2.1 l ∧ C 118 l = K.2.2.2.1 l ∧ C 119 l = K.2.2.2.2.1 l ∧ C 120 l = K.2.2.2.2.2 l
theorem gFIT_keep {n k : Int} (hs : rSm C C1) (h98 : C 74 98 = C1 74 98) (hk : (∀ j, j < 20 → C 116 j = C1 116 j) ∧ (∀ j, j < 20 → C 117 j = C1 117 j) ∧ (∀ j, j < 20 → C 118 j = C1 118 j) ∧ (∀ j, j < 20 → C 119 j = C1 119 j) ∧ ∀ j, j < 20 → C 120 j = C1 120 j) (h : gFIT C n k) : gFIT C1 n k := by
  obtain ⟨T, nL, c, D, K, h1, h2, h3, h4, h5, h6, h7, h8⟩ := h
  have q := hs.2.2.2.2.2.2.2.2
  refine ⟨T, nL, c, D, K, h1, h2, rLd_keep hs h3, q.1.symm.trans h4, q.2.1.symm.trans h5, h6, h98.symm.trans h7, fun l hl => ?_⟩
  have h20 := h6.1
  obtain ⟨a1, a2, a3, a4, a5⟩ := h8 l hl
  exact ⟨(hk.1 l (by omega)).symm.trans a1, (hk.2.1 l (by omega)).symm.trans a2, (hk.2.2.1 l (by omega)).symm.trans a3, (hk.2.2.2.1 l (by omega)).symm.trans a4, (hk.2.2.2.2 l (by omega)).symm.trans a5⟩
theorem kKs_of (h1 : ∀ q ∈ kKs, ∀ j, j < q.2 → K q.1 j = K1 q.1 j) : (∀ j, j < 20 → kC K 116 j = kC K1 116 j) ∧ (∀ j, j < 20 → kC K 117 j = kC K1 117 j) ∧ (∀ j, j < 20 → kC K 118 j = kC K1 118 j) ∧ (∀ j, j < 20 → kC K 119 j = kC K1 119 j) ∧ ∀ j, j < 20 → kC K 120 j = kC K1 120 j :=
  ⟨h1 (105, 20) (by decide), h1 (106, 20) (by decide), h1 (107, 20) (by decide), h1 (108, 20) (by decide), h1 (109, 20) (by decide)⟩
/-- the first looks are alike, and as they may be (but when they are untold) -/
def gLKS (C : xC) (n : Int) : Prop := ∀ l : Nat, (l : Int) < n → (C 60 l = C 116 l ∧ C 61 l = C 117 l ∧ C 62 l = C 118 l ∧ C 63 l = C 119 l) ∧ (0 ≤ C 60 l ∧ C 60 l ≤ 60) ∧ (0 ≤ C 61 l ∧ C 61 l < C 74 49) ∧ 0 ≤ C 62 l
theorem gLKS_keep {n : Int} (hk : ∀ i : Nat, i = 60 ∨ i = 61 ∨ i = 62 ∨ i = 63 ∨ i = 116 ∨ i = 117 ∨ i = 118 ∨ i = 119 → ∀ j : Nat, (j : Int) < n → C i j = C1 i j) (h49 : C 74 49 = C1 74 49) (h : gLKS C n) : gLKS C1 n := fun l hl => by
  rw [← hk 60 (by omega) l hl, ← hk 61 (by omega) l hl, ← hk 62 (by omega) l hl, ← hk 63 (by omega) l hl, ← hk 116 (by omega) l hl, ← hk 117 (by omega) l hl, ← hk 118 (by omega) l hl, ← hk 119 (by omega) l hl, ← h49]
  exact h l hl
/-- a cell's land is what the first bytes tell -/
def gDRF (C : xC) (n hi : Int) : Prop := ∃ (r N : Nat) (s : tS), n = (r : Int) ∧ (r = 2 ∨ r = 13) ∧ hi = (N : Int) ∧ N ≤ 1700 ∧ sAll (tkK (C 1) N) (tkP (C 1) N) (tkV (C 1) N) 1701 tS0 = .ok s ∧ gCL r s.2.2.2.2.2 C ∧ C (r + 1) 1 = ((s.2.2.2.1 1).length : Int) ∧ C (r + 1) 0 = ((s.2.2.2.1 0).length : Int) ∧ C r 0 = s.2.2.1
theorem tk_cg {g h : Nat → Int} {N : Nat} (e : ∀ j, j < N → g j = h j) : tkK g N = tkK h N ∧ tkP g N = tkP h N ∧ tkV g N = tkV h N := by
  refine ⟨funext fun i => ?_, funext fun i => ?_, funext fun i => ?_⟩
  · show rdK g N (rdP g N i) = rdK h N (rdP h N i)
    rw [rdP_cg e, rdK_cg e]
  · show ((rdP g N i : Nat) : Int) = ((rdP h N i : Nat) : Int)
    rw [rdP_cg e]
  · show rdVal g N (rdP g N i) = rdVal h N (rdP h N i)
    rw [rdP_cg e, rdVal_cg e]
theorem gDRF_keep {n hi : Int} (hc : cSm C C1) (ht : ∀ j : Nat, (j : Int) < hi → C 1 j = C1 1 j) (h : gDRF C n hi) : gDRF C1 n hi := by
  obtain ⟨r, N, s, h1, h2, h3, h4, h5, h6, h7, h8, h9⟩ := h
  obtain ⟨⟨s0, s1⟩, s2, -⟩ := hc r h2
  obtain ⟨e1, e2, e3⟩ := tk_cg (g := C 1) (h := C1 1) (N := N) fun j hj => ht j (by omega)
  rw [e1, e2, e3] at h5
  exact ⟨r, N, s, h1, h2, h3, h4, h5, gCL_keep h2 hc h6, (s2 1 (by decide)).symm.trans h7, (s2 0 (by decide)).symm.trans h8, s0.symm.trans h9⟩
end gLands
