/-! What the small methods of the readers do, said plainly. -/
section xLeaf
theorem xst_get (C : xC) (i j i' j' : Nat) (z : Int) : xst C i j z i' j' = if i' = i ∧ j' = j then z else C i' j' := by
  unfold xst
  by_cases h : i' = i ∧ j' = j
  · rw [if_pos h, h.1, h.2, Nat.beq_refl, Nat.beq_refl]
    rfl
  · rw [if_neg h]
    cases h1 : Nat.beq i' i with
    | false => rfl
    | true =>
      cases h2 : Nat.beq j' j with
      | false => rfl
      | true => exact absurd ⟨Nat.eq_of_beq_eq_true h1, Nat.eq_of_beq_eq_true h2⟩ h
theorem w32_id {z : Int} (h1 : -2147483648 ≤ z) (h2 : z ≤ 2147483647) : w32 z = z := Int.bmod_eq_of_le (by omega) (by omega)
theorem xixz {z : Int} {n : Nat} : xix z n = true ↔ 0 ≤ z ∧ z < n := by
  unfold xix
  rw [Bool.and_eq_true, decide_eq_true_eq, decide_eq_true_eq]
  exact Iff.rfl
/-- the reference's own cell -/
abbrev mR : xV := .inr (.inr (.inl (74, 63)))
def xlet (c : Int) : Prop := 97 ≤ c ∧ c ≤ 122
def xdig (c : Int) : Prop := 48 ≤ c ∧ c ≤ 57
theorem xn_isLetter {d : Nat} {c : Int} {C : xC} (hd : 1 ≤ d) : xM d 154 [.inl c] C = some (if 97 ≤ c ∧ c ≤ 122 then 1 else 0, C) := by
  obtain ⟨d, rfl⟩ := Nat.exists_eq_add_of_le' hd
  rw [xm_X12_isLetter]
  simp only [Bool.cond_decide]
  by_cases h1 : c < 97
  · rw [if_pos h1, if_neg (by omega)]
  · rw [if_neg h1]
    by_cases h2 : 122 < c
    · rw [if_pos h2, if_neg (by omega)]
    · rw [if_neg h2, if_pos (by omega)]
theorem xn_isDigit {d : Nat} {c : Int} {C : xC} (hd : 1 ≤ d) : xM d 155 [.inl c] C = some (if 48 ≤ c ∧ c ≤ 57 then 1 else 0, C) := by
  obtain ⟨d, rfl⟩ := Nat.exists_eq_add_of_le' hd
  rw [xm_X12_isDigit]
  simp only [Bool.cond_decide]
  by_cases h1 : c < 48
  · rw [if_pos h1, if_neg (by omega)]
  · rw [if_neg h1]
    by_cases h2 : 57 < c
    · rw [if_pos h2, if_neg (by omega)]
    · rw [if_neg h2, if_pos (by omega)]
/-- what stands k behind the place -/
theorem xn_here {d : Nat} {k : Int} {C : xC} (hd : 1 ≤ d) (ht : C 74 0 = 75) (h0 : 0 ≤ C 74 4 + k) (h1 : C 74 4 + k ≤ 2147483647) (hn : C 74 5 ≤ 1700) :
    xM d 153 [mR, .inl k] C = some (if C 74 4 + k < C 74 5 then C 75 (C 74 4 + k).toNat else -1, C) := by
  obtain ⟨d, rfl⟩ := Nat.exists_eq_add_of_le' hd
  rw [xm_X12_here, w32_id (by omega) h1, ht]
  simp only [Bool.cond_decide]
  by_cases h : C 74 5 ≤ C 74 4 + k
  · rw [if_pos h, if_neg (by omega)]
  · have e : xix (C 74 4 + k) 1700 = true := xixz.mpr ⟨h0, by omega⟩
    rw [if_neg h, if_pos (by omega), e]
    rfl
theorem xn_wrong {d : Nat} {a : Int} {C : xC} (hd : 1 ≤ d) : xM d 158 [mR, .inl a] C = some (0, if C 74 2 ≤ 0 then xst (xst C 74 2 (if C 74 6 = 3 then 1 else a)) 74 3 (C 74 7) else C) := by
  obtain ⟨d, rfl⟩ := Nat.exists_eq_add_of_le' hd
  rw [xm_X12_wrong]
  simp only [Bool.cond_decide]
  by_cases h1 : C 74 2 ≤ 0
  · rw [if_pos h1, if_pos h1]
    by_cases h2 : C 74 6 = 3
    · rw [if_neg (by simp [h2]), if_pos h2]
    · rw [if_pos h2, if_neg h2]
  · rw [if_neg h1, if_neg h1]
theorem xn_isWord {d : Nat} {a : Int} {C : xC} (hd : 1 ≤ d) : xM d 159 [mR, .inr (.inl a)] C = some (if C 74 6 = 1 ∧ C 74 9 = a then 1 else 0, C) := by
  obtain ⟨d, rfl⟩ := Nat.exists_eq_add_of_le' hd
  rw [xm_X12_isWord]
  simp only [Bool.cond_decide]
  by_cases h1 : C 74 6 = 1
  · rw [if_neg (by simp [h1])]
    by_cases h2 : C 74 9 = a
    · rw [if_neg (by rw [if_neg (by omega), if_pos h2]; simp), if_pos ⟨h1, h2⟩]
    · rw [if_pos (by
        by_cases h3 : a < C 74 9
        · rw [if_pos h3]; decide
        · rw [if_neg h3, if_neg h2]; decide), if_neg (fun h => h2 h.2)]
  · rw [if_pos h1, if_neg (fun h => h1 h.1)]
end xLeaf
