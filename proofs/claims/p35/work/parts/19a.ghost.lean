/-! Ghost facts: what they say of rows of ints, as pure mathematics; how they are kept, grow, are used. -/
section yGhost
/-- so many steps back by a row, each place of it at least 0, falling -/
def gDp (f : Nat → Int) : Nat → Int → Prop
  | 0, k => 0 ≤ k
  | h + 1, k => 0 ≤ k ∧ f k.toNat < k ∧ gDp f h (f k.toNat)
def gDEP (f : Nat → Int) (h : Nat) (lo hi : Int) : Prop := ∀ k : Int, lo ≤ k → k < hi → gDp f h k
theorem gDp_keep {f g : Nat → Int} {b : Int} (hfg : ∀ j : Nat, (j : Int) < b → f j = g j) : ∀ (h : Nat) (k : Int), k < b → gDp f h k → gDp g h k := by
  intro h
  induction h with
  | zero => intro k _ hk; exact hk
  | succ h ih =>
    intro k hkb hk
    obtain ⟨h0, h1, h2⟩ := hk
    have e := hfg k.toNat (by omega)
    refine ⟨h0, by rw [← e]; exact h1, ?_⟩
    rw [← e]
    exact ih _ (by omega) h2
theorem gDp_nonneg {f : Nat → Int} {h : Nat} {k : Int} (hk : gDp f h k) : 0 ≤ k := by
  cases h with
  | zero => exact hk
  | succ h => exact hk.1
theorem gDEP_keep {f g : Nat → Int} {h : Nat} {lo hi : Int} (hfg : ∀ j : Nat, (j : Int) < hi → f j = g j) (H : gDEP f h lo hi) : gDEP g h lo hi := fun k h1 h2 => gDp_keep hfg h k h2 (H k h1 h2)
/-- a place behind those that are known, that leads to one of them -/
theorem gDp_up {f g : Nat → Int} {h m : Nat} {lo hi a : Int} (hfg : ∀ j : Nat, j ≠ m → f j = g j) (H : gDEP f h lo hi) (ha1 : lo ≤ a) (ha2 : a < hi) (hm : hi ≤ (m : Int)) (hg : g m = a) : gDp g (h + 1) (m : Int) := by
  refine ⟨by omega, ?_, ?_⟩
  · rw [Int.toNat_natCast, hg]; omega
  · rw [Int.toNat_natCast, hg]
    exact gDp_keep (b := hi) (fun j hj => hfg j (by omega)) h a ha2 (H a ha1 ha2)
theorem gDEP_grow {f g : Nat → Int} {h m : Nat} {lo hi a lo1 : Int} (hfg : ∀ j : Nat, j ≠ m → f j = g j) (H : gDEP f h lo hi) (ha1 : lo ≤ a) (ha2 : a < hi) (hm : hi ≤ (m : Int)) (hg : g m = a) (H1 : gDEP f (h + 1) lo1 (m : Int)) : gDEP g (h + 1) lo1 ((m : Int) + 1) := by
  intro k h1 h2
  by_cases hk : k = (m : Int)
  · subst hk; exact gDp_up hfg H ha1 ha2 hm hg
  · exact gDp_keep (b := (m : Int)) (fun j hj => hfg j (by omega)) (h + 1) k (by omega) (H1 k h1 (by omega))
theorem gDEP_none {f : Nat → Int} {h : Nat} {lo hi : Int} (H : hi ≤ lo) : gDEP f h lo hi := fun k h1 h2 => absurd h2 (by omega)
theorem gDEP_use {f : Nat → Int} {h : Nat} {k : Int} (H : gDp f (h + 1) k) : 0 ≤ f k.toNat ∧ f k.toNat < k ∧ gDp f h (f k.toNat) := ⟨gDp_nonneg H.2.2, H.2.1, H.2.2⟩
/-- the height behind a step, if it may be done at a height -/
def gNx (s a n : Int) : Option Int := if s = 0 then (if n + 1 ≤ 64 then some (n + 1) else none) else if s = 1 then (if n + 1 ≤ 64 ∧ 0 ≤ a ∧ a ≤ 7 then some (n + 1) else none) else if s = 2 then (if 1 ≤ n then some n else none) else (if 2 ≤ n then some (n - 1) else none)
def gRun (s a : Nat → Int) : Nat → Nat → Int → Option Int
  | 0, _, n => some n
  | c + 1, k, n => (gNx (s k) (a k) n).bind (gRun s a c (k + 1))
theorem gRun_keep {s a s1 a1 : Nat → Int} : ∀ (c k : Nat) (n : Int), (∀ j, k ≤ j → j < k + c → s j = s1 j ∧ a j = a1 j) → gRun s a c k n = gRun s1 a1 c k n := by
  intro c
  induction c with
  | zero => intro k n _; rfl
  | succ c ih =>
    intro k n H
    obtain ⟨e1, e2⟩ := H k (Nat.le_refl k) (by omega)
    show (gNx (s k) (a k) n).bind (gRun s a c (k + 1)) = (gNx (s1 k) (a1 k) n).bind (gRun s1 a1 c (k + 1))
    rw [e1, e2]
    cases gNx (s1 k) (a1 k) n with
    | none => rfl
    | some z => exact ih (k + 1) z fun j h1 h2 => H j (by omega) (by omega)
/-- one step more at the end -/
theorem gRun_end {s a : Nat → Int} : ∀ (c k : Nat) (n : Int), gRun s a (c + 1) k n = (gRun s a c k n).bind fun z => gNx (s (k + c)) (a (k + c)) z := by
  intro c
  induction c with
  | zero =>
    intro k n
    show (gNx (s k) (a k) n).bind (fun z => some z) = gNx (s (k + 0)) (a (k + 0)) n
    rw [Nat.add_zero]
    cases gNx (s k) (a k) n <;> rfl
  | succ c ih =>
    intro k n
    show (gNx (s k) (a k) n).bind (gRun s a (c + 1) (k + 1)) = ((gNx (s k) (a k) n).bind (gRun s a c (k + 1))).bind fun z => gNx (s (k + (c + 1))) (a (k + (c + 1))) z
    cases gNx (s k) (a k) n with
    | none => rfl
    | some z =>
      show gRun s a (c + 1) (k + 1) z = (gRun s a c (k + 1) z).bind _
      rw [ih (k + 1) z, show k + 1 + c = k + (c + 1) by omega]
def gRUN (s a : Nat → Int) (n : Int) (lo hi : Nat) : Prop := ∃ z, gRun s a (hi - lo) lo n = some z
/-- what a step that is legal says -/
theorem gRUN_use {s a : Nat → Int} {n : Int} {lo hi : Nat} (H : gRUN s a n lo hi) (h : lo < hi) :
    (s lo = 0 ∧ n + 1 ≤ 64 ∧ gRUN s a (n + 1) (lo + 1) hi) ∨ (s lo = 1 ∧ n + 1 ≤ 64 ∧ 0 ≤ a lo ∧ a lo ≤ 7 ∧ gRUN s a (n + 1) (lo + 1) hi) ∨ (s lo = 2 ∧ 1 ≤ n ∧ gRUN s a n (lo + 1) hi) ∨ (s lo ≠ 0 ∧ s lo ≠ 1 ∧ s lo ≠ 2 ∧ 2 ≤ n ∧ gRUN s a (n - 1) (lo + 1) hi) := by
  obtain ⟨z, hz⟩ := H
  obtain ⟨c, hc⟩ : ∃ c, hi - lo = c + 1 := ⟨hi - lo - 1, by omega⟩
  have hc2 : hi - (lo + 1) = c := by omega
  rw [hc] at hz
  have hz : (gNx (s lo) (a lo) n).bind (gRun s a c (lo + 1)) = some z := hz
  unfold gRUN
  rw [hc2]
  unfold gNx at hz
  by_cases h0 : s lo = 0
  · rw [if_pos h0] at hz
    by_cases h1 : n + 1 ≤ 64
    · rw [if_pos h1] at hz; exact Or.inl ⟨h0, h1, z, hz⟩
    · rw [if_neg h1] at hz; cases hz
  · rw [if_neg h0] at hz
    by_cases h1 : s lo = 1
    · rw [if_pos h1] at hz
      by_cases h2 : n + 1 ≤ 64 ∧ 0 ≤ a lo ∧ a lo ≤ 7
      · rw [if_pos h2] at hz; exact Or.inr (Or.inl ⟨h1, h2.1, h2.2.1, h2.2.2, z, hz⟩)
      · rw [if_neg h2] at hz; cases hz
    · rw [if_neg h1] at hz
      by_cases h2 : s lo = 2
      · rw [if_pos h2] at hz
        by_cases h3 : 1 ≤ n
        · rw [if_pos h3] at hz; exact Or.inr (Or.inr (Or.inl ⟨h2, h3, z, hz⟩))
        · rw [if_neg h3] at hz; cases hz
      · rw [if_neg h2] at hz
        by_cases h3 : 2 ≤ n
        · rw [if_pos h3] at hz; exact Or.inr (Or.inr (Or.inr ⟨h0, h1, h2, h3, z, hz⟩))
        · rw [if_neg h3] at hz; cases hz
/-- legal from 0, and so high at the end -/
def gCUR (s a : Nat → Int) (n : Int) (lo hi : Nat) : Prop := gRun s a (hi - lo) lo 0 = some n
theorem gCUR_begin {s a : Nat → Int} {lo : Nat} : gCUR s a 0 lo lo := by unfold gCUR; rw [Nat.sub_self]; rfl
theorem gCUR_grow {s a s1 a1 : Nat → Int} {n z : Int} {lo hi : Nat} (hlh : lo ≤ hi) (hs : ∀ j, j < hi → s j = s1 j ∧ a j = a1 j) (H : gCUR s a n lo hi) (hn : gNx (s1 hi) (a1 hi) n = some z) : gCUR s1 a1 z lo (hi + 1) := by
  unfold gCUR at *
  rw [show hi + 1 - lo = (hi - lo) + 1 by omega, gRun_end, ← gRun_keep (hi - lo) lo 0 (fun j _ h2 => hs j (by omega)), H, show lo + (hi - lo) = hi by omega]
  exact hn
theorem gCUR_run {s a : Nat → Int} {n : Int} {lo hi : Nat} (H : gCUR s a n lo hi) : gRUN s a 0 lo hi := ⟨n, H⟩
/-- binary signs of a row: neither a not (21) nor a bracket (20) -/
def gBin (o : Nat → Int) : Nat → Nat
  | 0 => 0
  | k + 1 => gBin o k + (if o k = 21 ∨ o k = 20 then 0 else 1)
theorem gBin_keep {o o1 : Nat → Int} : ∀ k : Nat, (∀ j, j < k → o j = o1 j) → gBin o k = gBin o1 k := by
  intro k
  induction k with
  | zero => intro _; rfl
  | succ k ih =>
    intro H
    show gBin o k + _ = gBin o1 k + _
    rw [ih fun j hj => H j (by omega), H k (by omega)]
theorem gBin_top {o : Nat → Int} {k : Nat} (h : ¬ (o k = 21 ∨ o k = 20)) : 1 ≤ gBin o (k + 1) := by
  show 1 ≤ gBin o k + _
  rw [if_neg h]
  omega
end yGhost
