/-! What is answered of the calendars that fit: how many there are, on which days a law rests, what is asked next; as facts of the reference's rows. -/
section gAnswers
/-- the days (as bits) that the first numbers have which have it -/
def eOr (p : Nat → Bool) (f : Nat → Int) : Nat → Int
  | 0 => 0
  | n + 1 => if p n = true then x32 (· ||| ·) (eOr p f n) (x32 (fun x y => x <<< (y &&& 31)) 1 (f n)) else eOr p f n
def eRst (c : tC) (D : Int) (nL : Nat) (K : eK) (k law : Int) : Int := if 0 ≤ law ∧ law < nL then (if 20000 < eCal D nL then -2 else eOr (fun n => eFits c (eLay D nL (n : Int)) D nL K k) (fun n => eLay D nL (n : Int) law.toNat) (eCal D nL).toNat) else -1
/-- what a thing is by a calendar behind so many hours -/
def eSee (c : tC) (D : Int) (nL h j n : Nat) : Int := (eRun c (eLay D nL (n : Int)) D nL h (e0 c)).1 j
/-- how many of the first calendars that fit have a thing at a number -/
def eTal (c : tC) (D : Int) (nL : Nat) (K : eK) (k : Int) (h j : Nat) (v : Int) : Nat → Nat := eNum fun n => eFits c (eLay D nL (n : Int)) D nL K k && decide (eSee c D nL h j n = v)
/-- the most of the first numbers, 0 at least -/
def eTop (q : Nat → Int) : Nat → Int
  | 0 => 0
  | v + 1 => max (eTop q v) (q v)
def eFul (c : tC) (D : Int) (nL : Nat) (K : eK) (k : Int) (h j : Nat) : Int := eTop (fun v => (eTal c D nL K k h j (v : Int) (eCal D nL).toNat : Int)) 1000
/-- the first of those up to a number that has the fewest -/
def eBst (g : Nat → Int) : Nat → Nat
  | 0 => 0
  | m + 1 => if g (m + 1) < g (eBst g m) then m + 1 else eBst g m
def eAsk (c : tC) (D : Int) (nL T : Nat) (K : eK) (k h w : Int) : Int := if 0 ≤ h ∧ h ≤ 60 ∧ 0 ≤ w ∧ w ≤ 1 ∧ 0 < T then (if 20000 < eCal D nL then -2 else if eNum (fun n => eFits c (eLay D nL (n : Int)) D nL K k) (eCal D nL).toNat = 0 then -1 else if w = 0 then (eBst (eFul c D nL K k h.toNat) (T - 1) : Int) else eFul c D nL K k h.toNat (eBst (eFul c D nL K k h.toNat) (T - 1))) else -1
variable {C C1 : xC} {f : Nat → Nat → tC → Int → eK → Int} {n k : Int}
/-- a number is an answer, by the reference's rows -/
def gANS (f : Nat → Nat → tC → Int → eK → Int) (C : xC) (n : Int) : Prop := ∃ (T nL : Nat) (c : tC) (D : Int) (K : eK), n = f T nL c D K ∧ gOK T nL D c ∧ rLd c C ∧ C 74 49 = (T : Int) ∧ C 74 50 = (nL : Int) ∧ C 74 54 = D ∧ kOk T K ∧ C 74 98 = (K.1 : Int) ∧ ∀ l, l < K.1 → C 116 l = K.2.1 l ∧ C 117 l = K.2.2.1 l ∧ C 118 l = K.2.2.2.1 l ∧ C 119 l = K.2.2.2.2.1 l ∧ C 120 l = K.2.2.2.2.2 l
theorem gANS_keep (hs : rSm C C1) (h49 : C 74 49 = C1 74 49) (h98 : C 74 98 = C1 74 98) (hk : (∀ j, j < 20 → C 116 j = C1 116 j) ∧ (∀ j, j < 20 → C 117 j = C1 117 j) ∧ (∀ j, j < 20 → C 118 j = C1 118 j) ∧ (∀ j, j < 20 → C 119 j = C1 119 j) ∧ ∀ j, j < 20 → C 120 j = C1 120 j) (h : gANS f C n) : gANS f C1 n := by
  obtain ⟨T, nL, c, D, K, h1, h2, h3, h9, h4, h5, h6, h7, h8⟩ := h
  have q := hs.2.2.2.2.2.2.2.2
  refine ⟨T, nL, c, D, K, h1, h2, rLd_keep hs h3, h49.symm.trans h9, q.1.symm.trans h4, q.2.1.symm.trans h5, h6, h98.symm.trans h7, fun l hl => ?_⟩
  have h20 := h6.1
  obtain ⟨a1, a2, a3, a4, a5⟩ := h8 l hl
  exact ⟨(hk.1 l (by omega)).symm.trans a1, (hk.2.1 l (by omega)).symm.trans a2, (hk.2.2.1 l (by omega)).symm.trans a3, (hk.2.2.2.1 l (by omega)).symm.trans a4, (hk.2.2.2.2 l (by omega)).symm.trans a5⟩
abbrev fRST (k law : Int) : Nat → Nat → tC → Int → eK → Int := fun _ nL c D K => eRst c D nL K k law
abbrev fASK (k h w : Int) : Nat → Nat → tC → Int → eK → Int := fun T nL c D K => eAsk c D nL T K k h w
def gRST (C : xC) (n k law : Int) : Prop := gANS (fRST k law) C n
/-- of two ints in one -/
def gASK (C : xC) (n k hi : Int) : Prop := ∃ h w : Int, (-2147483648 ≤ w ∧ w ≤ 2147483647) ∧ hi = 8589934592 * h + w ∧ gANS (fASK k h w) C n
end gAnswers
