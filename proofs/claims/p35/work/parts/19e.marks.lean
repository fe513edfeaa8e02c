/-! What the class and the reference have in common between two calls: as facts of rows of ints. -/
section yMarks
/-- a byte of the reference's text against the class's -/
def rdB (a b : Int) : Prop := 0 ≤ a ∧ (a = b ∨ (128 ≤ a ∧ b < 0))
/-- the bytes of a number, the highest first -/
def fBy (v : Int) (k : Nat) : Int := Int.bmod (v / (2 : Int) ^ (24 - 8 * k)) 256
variable {P : Int → Bool} {g h : Nat → Int} {N : Nat}
theorem rdRun_cg (e : ∀ j, j < N → g j = h j) : ∀ (n p : Nat), rdRun P g N n p = rdRun P h N n p := by
  intro n
  induction n with
  | zero => intro p; rfl
  | succ n ih =>
    intro p
    have e1 : (decide (p < N) && P (g p)) = (decide (p < N) && P (h p)) := by
      by_cases hp : p < N
      · rw [e p hp]
      · rw [decide_eq_false hp]; rfl
    simp only [rdRun]
    simp only [e1]
    split
    · exact ih (p + 1)
    · rfl
theorem rdEnd_cg (e : ∀ j, j < N → g j = h j) (p : Nat) : rdEnd P g N p = rdEnd P h N p := rdRun_cg e _ _
theorem rdV_cg {b o : Int} {p : Nat} : ∀ m : Nat, (∀ j, j < m → g (p + j) = h (p + j)) → rdV b o g p m = rdV b o h p m := by
  intro m
  induction m with
  | zero => intro _; rfl
  | succ m ih =>
    intro e
    simp only [rdV]
    rw [ih fun j hj => e j (by omega), e m (by omega)]
theorem rdV_cgE {b o : Int} {p : Nat} (e : ∀ j, j < N → g j = h j) (hp : p ≤ N) : rdV b o g p (rdEnd P h N p - p) = rdV b o h p (rdEnd P h N p - p) := by
  have h1 := (rdEnd_spec (P := P) (g := h) (N := N) p).2.1 hp
  exact rdV_cg _ fun j hj => e _ (by omega)
theorem rdK_cg (e : ∀ j, j < N → g j = h j) (p : Nat) : rdK g N p = rdK h N p := by
  unfold rdK
  by_cases hp : N ≤ p
  · rw [if_pos hp, if_pos hp]
  · rw [if_neg hp, if_neg hp, e p (by omega), rdEnd_cg e, rdEnd_cg (P := rdDig) e, rdV_cgE e (by omega)]
    have e1 : (rdEnd rdDig h N p < N ∧ rdLet (g (rdEnd rdDig h N p)) = true) = (rdEnd rdDig h N p < N ∧ rdLet (h (rdEnd rdDig h N p)) = true) := by
      by_cases hq : rdEnd rdDig h N p < N
      · rw [e _ hq]
      · apply propext
        constructor <;> (intro q; exact absurd q.1 hq)
    simp only [e1]
theorem rdE_cg (e : ∀ j, j < N → g j = h j) (p : Nat) : rdE g N p = rdE h N p := by
  unfold rdE
  by_cases hp : N ≤ p
  · rw [if_pos hp, if_pos hp]
  · rw [if_neg hp, if_neg hp, e p (by omega), rdEnd_cg e, rdEnd_cg (P := rdDig) e]
theorem rdVal_cg (e : ∀ j, j < N → g j = h j) (p : Nat) : rdVal g N p = rdVal h N p := by
  unfold rdVal
  by_cases hp : N ≤ p
  · rw [if_pos hp, if_pos hp]
  · rw [if_neg hp, if_neg hp, e p (by omega), rdEnd_cg e, rdEnd_cg (P := rdDig) e, rdV_cgE e (by omega), rdV_cgE e (by omega)]
theorem rdP_cg (e : ∀ j, j < N → g j = h j) (i : Nat) : rdP g N i = rdP h N i := by
  induction i with
  | zero => exact rdEnd_cg e 0
  | succ i ih =>
    show rdEnd rdBlk g N (rdE g N (rdP g N i)) = rdEnd rdBlk h N (rdE h N (rdP h N i))
    rw [ih, rdE_cg e, rdEnd_cg e]
theorem rdOut_cg (e : ∀ j, j < N → g j = h j) : rdOut g N = rdOut h N := by
  have e1 : tkK g N = tkK h N := funext fun i => by
    show rdK g N (rdP g N i) = rdK h N (rdP h N i)
    rw [rdP_cg e, rdK_cg e]
  have e2 : tkP g N = tkP h N := funext fun i => by
    show ((rdP g N i : Nat) : Int) = ((rdP h N i : Nat) : Int)
    rw [rdP_cg e]
  have e3 : tkV g N = tkV h N := funext fun i => by
    show rdVal g N (rdP g N i) = rdVal h N (rdP h N i)
    rw [rdP_cg e, rdVal_cg e]
  unfold rdOut
  rw [e1, e2, e3]
/-- the first bytes of the class's text and the reference's -/
def gTXT (a b : Nat → Int) (n : Int) : Prop := ∀ j : Nat, (j : Int) < n → rdB (b j) (a j)
theorem gTXT_keep {a b a1 b1 : Nat → Int} {n : Int} (ha : ∀ j : Nat, (j : Int) < n → a j = a1 j) (hb : ∀ j : Nat, (j : Int) < n → b j = b1 j) (H : gTXT a b n) : gTXT a1 b1 n := fun j hj => by
  rw [← ha j hj, ← hb j hj]
  exact H j hj
/-- what the first bytes tell: the fault, its place -/
def gOUT (a : Nat → Int) (p q N : Int) : Prop := ∃ n : Nat, N = (n : Int) ∧ n ≤ 1700 ∧ (rdOut a n).1 = p ∧ (rdOut a n).2.1 = q
theorem gOUT_keep {a a1 : Nat → Int} {p q N : Int} (ha : ∀ j : Nat, (j : Int) < N → a j = a1 j) (H : gOUT a p q N) : gOUT a1 p q N := by
  obtain ⟨n, h1, h2, h3, h4⟩ := H
  have e := rdOut_cg (g := a) (h := a1) (N := n) fun j hj => ha j (by omega)
  exact ⟨n, h1, h2, by rw [← e]; exact h3, by rw [← e]; exact h4⟩
/-- .. how many things -/
def gOU3 (a : Nat → Int) (w N : Int) : Prop := ∃ n : Nat, N = (n : Int) ∧ n ≤ 1700 ∧ (rdOut a n).2.2 = w
theorem gOU3_keep {a a1 : Nat → Int} {w N : Int} (ha : ∀ j : Nat, (j : Int) < N → a j = a1 j) (H : gOU3 a w N) : gOU3 a1 w N := by
  obtain ⟨n, h1, h2, h3⟩ := H
  have e := rdOut_cg (g := a) (h := a1) (N := n) fun j hj => ha j (by omega)
  exact ⟨n, h1, h2, by rw [← e]; exact h3⟩
/-- a number's bytes lie at a place -/
def gWRD (a : Nat → Int) (v lo hi : Int) : Prop := 0 ≤ lo ∧ hi = lo + 4 ∧ ∀ k : Nat, k < 4 → a (lo.toNat + k) = fBy v k
theorem gWRD_keep {a a1 : Nat → Int} {v lo hi : Int} (ha : ∀ j : Nat, (j : Int) < hi → a j = a1 j) (H : gWRD a v lo hi) : gWRD a1 v lo hi := by
  obtain ⟨h1, h2, h3⟩ := H
  exact ⟨h1, h2, fun k hk => by rw [← ha _ (by omega)]; exact h3 k hk⟩
/-- two rows of twenty that are alike, but at a place (none: below 0), where the first has z -/
def gUP (u w : Nat → Int) (p z : Int) : Prop := ∀ j : Nat, j < 20 → -1 ≤ u j ∧ ((j : Int) = p → u j = z) ∧ ((j : Int) ≠ p → u j = w j)
theorem gUP_keep {u w u1 w1 : Nat → Int} {p z : Int} (hu : ∀ j : Nat, (j : Int) < 20 → u j = u1 j) (hw : ∀ j : Nat, (j : Int) < 20 → w j = w1 j) (H : gUP u w p z) : gUP u1 w1 p z := fun j hj => by
  rw [← hu j (by omega), ← hw j (by omega)]
  exact H j hj
/-- may a place, one of the first c, be set -/
def gUN2 (w : Nat → Int) (r look c : Int) : Prop := (r = 1 ∧ 0 ≤ look ∧ look < c ∧ look < 20 ∧ w look.toNat < 0) ∨ (r = 0 ∧ ¬ (0 ≤ look ∧ look < c ∧ look < 20 ∧ w look.toNat < 0))
theorem gUN2_keep {w w1 : Nat → Int} {r look c : Int} (hw : ∀ j : Nat, (j : Int) < 20 → w j = w1 j) (H : gUN2 w r look c) : gUN2 w1 r look c := by
  unfold gUN2 at *
  by_cases h : 0 ≤ look ∧ look < 20
  · rw [← hw look.toNat (by omega)]
    exact H
  · rcases H with H | H
    · omega
    · right
      exact ⟨H.1, fun q => h ⟨q.1, q.2.2.1⟩⟩
end yMarks
