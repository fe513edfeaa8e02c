/-! The steps of a formula: their stack. -/
/-- how high the stack stands behind steps, m at most -/
def rpOk (m : Nat) : List tE → Nat → Option Nat
  | [], h => some h
  | (s, a) :: t, h => if s = 0 then (if h < m then rpOk m t (h + 1) else none) else if s = 1 then (if h < m ∧ 0 ≤ a ∧ a ≤ 7 then rpOk m t (h + 1) else none) else if s = 2 then (if 1 ≤ h then rpOk m t h else none) else (if 2 ≤ h then rpOk m t (h - 1) else none)
theorem rpOk_app {m : Nat} {b : List tE} : ∀ {a : List tE} {h : Nat}, rpOk m (a ++ b) h = (rpOk m a h).bind (rpOk m b) := by
  intro a
  induction a with
  | nil => intro h; rfl
  | cons x t ih =>
    intro h
    obtain ⟨s, z⟩ := x
    simp only [List.cons_append, rpOk]
    repeat' split
    all_goals first | exact ih | rfl
theorem tErr_ne {A : Type} {k pl : Nat → Int} {i : Nat} {c : Int} {x : A} : (tErr k pl i c : tX A) ≠ .ok x := fun h => by unfold tErr at h; cases h
theorem idx_of {x : Int} : ∀ {nm : List Int} {j : Nat}, nm.Nodup → nm[j]? = some x → nm.idxOf x = j := by
  intro nm
  induction nm with
  | nil => intro j _ h; simp at h
  | cons y t ih =>
    intro j hn h
    cases j with
    | zero =>
      simp at h
      subst h
      simp
    | succ j =>
      have h : t[j]? = some x := by simpa using h
      have hm : x ∈ t := List.mem_of_getElem? h
      have hne : y ≠ x := fun e => (List.nodup_cons.mp hn).1 (e ▸ hm)
      rw [List.idxOf_cons, ih (List.nodup_cons.mp hn).2 h]
      cases hb : (y == x) with
      | true => exact absurd (eq_of_beq hb) hne
      | false => rfl
theorem rIdx {nm : List Int} {x r : Int} (hnd : nm.Nodup) (h0 : 0 ≤ r) (h : nm[r.toNat]? = some x) : r = (nm.idxOf x : Int) := by
  rw [idx_of hnd h]
  omega
section ctOk
variable {k pl v : Nat → Int} {th : List Int} {m : Nat}
/-- within so many units the steps put one number on the stack -/
def rpGood (m : Nat) (w : List tE) (n : Int) : Prop := ∀ h : Nat, (h : Int) + n ≤ m → rpOk m w h = some (h + 1)
theorem rpJoin (f : tF → tX tF) (p : tF → List tE) (lv : Nat) (hf : ∀ s s', f s = .ok s' → rpGood m (p s) (s'.2.2 - s.2.2) ∧ s.2.2 + 1 ≤ s'.2.2) :
    ∀ (n : Nat) (s s' : tF), fJoin k f lv n s = .ok s' → s.2.2 ≤ s'.2.2 ∧ ∀ h : Nat, (h : Int) + 1 + (s'.2.2 - s.2.2) ≤ m → rpOk m (pJoin k f p lv n s) (h + 1) = some (h + 1) := by
  intro n
  induction n with
  | zero =>
    intro s s' hs
    cases hs
    exact ⟨Int.le_refl _, fun h _ => rfl⟩
  | succ n ih =>
    intro s s' hs
    simp only [fJoin] at hs
    simp only [pJoin]
    by_cases hj : tJ (k s.1) = tL lv
    · rw [if_pos hj] at hs ⊢
      cases hq : f (s.1 + 1, s.2) with
      | error x => rw [hq] at hs; have hs : (Except.error x : tX tF) = .ok s' := hs; cases hs
      | ok s1 =>
        rw [hq] at hs
        have hs : fJoin k f lv n s1 = .ok s' := hs
        obtain ⟨g1, g2⟩ := hf _ _ hq
        obtain ⟨i1, i2⟩ := ih s1 s' hs
        have g2 : s.2.2 + 1 ≤ s1.2.2 := g2
        have g1 : rpGood m (p (s.1 + 1, s.2)) (s1.2.2 - s.2.2) := g1
        refine ⟨by omega, fun h hh => ?_⟩
        rw [rpOk_app, g1 (h + 1) (by omega)]
        show rpOk m ((3, tSg (k s.1)) :: pJoin k f p lv n s1) (h + 1 + 1) = _
        rw [rpOk, if_neg (by decide), if_neg (by decide), if_neg (by decide), if_pos (by omega), Nat.add_sub_cancel]
        exact i2 h (by omega)
    · rw [if_neg hj] at hs ⊢
      cases hs
      exact ⟨Int.le_refl _, fun h _ => rfl⟩
theorem rpLv (hth : th.length ≤ 6) : ∀ (n lv dp : Nat) (s s' : tF), fLv k pl v th n lv dp s = .ok s' → rpGood m (pLv k pl v th n lv dp s) (s'.2.2 - s.2.2) ∧ s.2.2 + 1 ≤ s'.2.2 := by
  intro n
  induction n with
  | zero => intro lv dp s s' h; cases h
  | succ n ih =>
    intro lv dp s s' hs
    simp only [fLv] at hs
    simp only [pLv]
    by_cases h5 : lv = 5
    · rw [if_pos h5] at hs ⊢
      unfold fUnit at hs
      unfold pUnit
      by_cases hfull : 150 ≤ s.2.1 ∨ 30 ≤ s.2.2
      · rw [if_pos hfull] at hs; exact absurd hs tErr_ne
      rw [if_neg hfull] at hs
      have one : ∀ e : tE, (e.1 = 0 ∨ (e.1 = 1 ∧ 0 ≤ e.2 ∧ e.2 ≤ 7)) → s' = (s.1 + 1, s.2.1 + 1, s.2.2 + 1) → rpGood m [e] (s'.2.2 - s.2.2) ∧ s.2.2 + 1 ≤ s'.2.2 := by
        intro e he hs'
        obtain ⟨a, z⟩ := e
        subst hs'
        refine ⟨fun h hh => ?_, Int.le_refl _⟩
        have hh : (h : Int) + (s.2.2 + 1 - s.2.2) ≤ m := hh
        rcases he with he | ⟨he, h1, h2⟩
        · have he : a = 0 := he
          rw [rpOk, if_pos he, if_pos (by omega), rpOk]
        · have he : a = 1 := he
          have h1 : 0 ≤ z := h1
          have h2 : z ≤ 7 := h2
          rw [rpOk, if_neg (by omega), if_pos he, if_pos (by omega), rpOk]
      by_cases k3 : k s.1 = 23 ∨ k s.1 = 20 ∨ k s.1 = 21
      · rw [if_pos k3] at hs
        cases hs
        by_cases k23 : k s.1 = 23
        · rw [if_pos k23]; exact one _ (Or.inl rfl) rfl
        rw [if_neg k23]
        by_cases k20 : k s.1 = 20
        · rw [if_pos k20]; exact one _ (Or.inr ⟨rfl, by decide, by decide⟩) rfl
        rw [if_neg k20, if_pos (by omega)]
        exact one _ (Or.inr ⟨rfl, by decide, by decide⟩) rfl
      rw [if_neg k3] at hs
      rw [if_neg (fun q => k3 (Or.inl q)), if_neg (fun q => k3 (Or.inr (Or.inl q))), if_neg (fun q => k3 (Or.inr (Or.inr q)))]
      by_cases k22 : k s.1 = 22
      · rw [if_pos k22] at hs ⊢
        by_cases hm : v s.1 ∈ th
        · rw [if_pos hm] at hs
          cases hs
          have hi := List.idxOf_lt_length_iff.mpr hm
          exact one _ (Or.inr ⟨rfl, by show (0 : Int) ≤ (th.idxOf (v s.1) : Int); omega, by show ((th.idxOf (v s.1) : Nat) : Int) ≤ 7; omega⟩) rfl
        · rw [if_neg hm] at hs; exact absurd hs tErr_ne
      rw [if_neg k22] at hs ⊢
      by_cases k40 : k s.1 = 40
      · rw [if_pos k40] at hs
        by_cases h6 : 6 < dp
        · rw [if_pos h6] at hs; exact absurd hs tErr_ne
        rw [if_neg h6] at hs
        cases hq : fLv k pl v th n 0 (dp + 1) (s.1 + 1, s.2.1 + 1, s.2.2 + 1) with
        | error x => rw [hq] at hs; have hs : (Except.error x : tX tF) = .ok s' := hs; cases hs
        | ok s1 =>
          rw [hq] at hs
          have hs : (if k s1.1 = 41 then (.ok (s1.1 + 1, s1.2) : tX tF) else tErr k pl s1.1 2) = .ok s' := hs
          by_cases k41 : k s1.1 = 41
          · rw [if_pos k41] at hs
            cases hs
            obtain ⟨g1, g2⟩ := ih 0 (dp + 1) _ _ hq
            have g2 : s.2.2 + 1 + 1 ≤ s1.2.2 := g2
            have g1 : rpGood m _ (s1.2.2 - (s.2.2 + 1)) := g1
            exact ⟨fun h hh => g1 h (by have hh : (h : Int) + (s1.2.2 - s.2.2) ≤ m := hh; omega), by show s.2.2 + 1 ≤ s1.2.2; omega⟩
          · rw [if_neg k41] at hs; exact absurd hs tErr_ne
      · rw [if_neg k40] at hs; exact absurd hs tErr_ne
    rw [if_neg h5] at hs ⊢
    by_cases hnt : lv = 2 ∧ k s.1 = 19
    · rw [if_pos hnt] at hs ⊢
      by_cases h6 : 6 < dp
      · rw [if_pos h6] at hs; exact absurd hs tErr_ne
      rw [if_neg h6] at hs
      obtain ⟨g1, g2⟩ := ih 2 (dp + 1) _ _ hs
      have g2 : s.2.2 + 1 ≤ s'.2.2 := g2
      refine ⟨fun h hh => ?_, g2⟩
      rw [rpOk_app, g1 h hh]
      show rpOk m [(2, 0)] (h + 1) = _
      rw [rpOk, if_neg (by decide), if_neg (by decide), if_pos (by decide), if_pos (by omega), rpOk]
    rw [if_neg hnt] at hs ⊢
    cases hq : fLv k pl v th n (lv + 1) dp s with
    | error x => rw [hq] at hs; have hs : (Except.error x : tX tF) = .ok s' := hs; cases hs
    | ok s1 =>
      rw [hq] at hs
      have hs : fJoin k (fLv k pl v th n (lv + 1) dp) lv (if lv = 2 then 1 else 30) s1 = .ok s' := hs
      obtain ⟨g1, g2⟩ := ih (lv + 1) dp _ _ hq
      obtain ⟨j1, j2⟩ := rpJoin (m := m) (k := k) (fLv k pl v th n (lv + 1) dp) (pLv k pl v th n (lv + 1) dp) lv (fun a b hab => ih (lv + 1) dp a b hab) _ s1 s' hs
      refine ⟨fun h hh => ?_, by omega⟩
      rw [rpOk_app, g1 h (by omega)]
      exact j2 h (by omega)
end ctOk
