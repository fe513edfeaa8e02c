/-! What things are stays in 0 to 999. -/
section eBounds
variable {T nL : Nat} {c : tC} {f : Nat → Int} {D : Int} {t : eT}
def bdT (T : Nat) (t : eT) : Prop := ∀ j, j < T → 0 ≤ t.1 j ∧ t.1 j ≤ 999
theorem eSet_bd {a n : Nat} (h : eSok T c a n) (hb : bdT T t) : bdT T (eSet c a n t) := by
  obtain ⟨-, q, ⟨qT, -⟩, q2, top, q3, q4, q5⟩ := h
  intro j hj
  have hb := hb j hj
  have e : (eSet c a n t).1 j = if j = q then (if eV t (eF c (5 * a + 1 + n)) < 0 then 0 else if top < eV t (eF c (5 * a + 1 + n)) then top else eV t (eF c (5 * a + 1 + n))) else t.1 j := by
    unfold eSet ePut
    rw [eN_of q2, Int.toNat_natCast, eN_of q3]
  rw [e]
  generalize eV t (eF c (5 * a + 1 + n)) = v
  by_cases h0 : j = q
  · rw [if_pos h0]
    by_cases h1 : v < 0
    · rw [if_pos h1]; omega
    · rw [if_neg h1]
      by_cases h2 : top < v
      · rw [if_pos h2]; omega
      · rw [if_neg h2]; omega
  · rw [if_neg h0]; exact hb
theorem eSets_bd {a cnt : Nat} (hok : ∀ n, n < cnt → eSok T c a n) : ∀ (m n : Nat) (t : eT), n + m = cnt → bdT T t → bdT T (eSets c a n m t) := by
  intro m
  induction m with
  | zero => exact fun n t _ hb => hb
  | succ m ih => exact fun n t hn hb => ih (n + 1) (eSet c a n t) (by omega) (eSet_bd (hok n (by omega)) hb)
theorem eLaw_bd (hc : eLok T c nL) {l : Nat} (hl : l < nL) (hb : bdT T t) : bdT T (eLaw c f l t) := by
  unfold eLaw
  by_cases h1 : f l = t.2.1
  · rw [if_pos h1]; exact hb
  rw [if_neg h1]
  by_cases h2 : eV t (eF c (5 * l)) = 0
  · rw [if_pos h2]; exact hb
  rw [if_neg h2]
  obtain ⟨-, m, m1, m2, m3⟩ := hc.2.2 l hl
  rw [eN_of m2, Int.toNat_natCast]
  exact eSets_bd m3 m 0 t (by omega) hb
theorem eLaws_bd (hc : eLok T c nL) : ∀ (m l : Nat) (t : eT), l + m = nL → bdT T t → bdT T (eLaws c f l m t) := by
  intro m
  induction m with
  | zero => exact fun l t _ hb => hb
  | succ m ih => exact fun l t hl hb => ih (l + 1) (eLaw c f l t) (by omega) (eLaw_bd hc (by omega) hb)
theorem eHour_bd (hc : eLok T c nL) (hb : bdT T t) : bdT T (eHour c f D nL t) := by
  have h := eLaws_bd (f := f) hc nL 0 t (by omega) hb
  unfold eHour eTick
  split <;> exact h
theorem eRun_bd (hc : eLok T c nL) (hb : bdT T (e0 c)) : ∀ n, bdT T (eRun c f D nL n (e0 c)) := by
  intro n
  induction n with
  | zero => exact hb
  | succ n ih => exact eHour_bd hc ih
theorem eSee_bd (hc : eLok T c nL) (hb : ∀ j, j < T → 0 ≤ eN c 87 j ∧ eN c 87 j ≤ 999) (h n j : Nat) (hj : j < T) : 0 ≤ eSee c D nL h j n ∧ eSee c D nL h j n ≤ 999 := eRun_bd (f := eLay D nL (n : Int)) (D := D) hc hb h j hj
theorem eBst_le {g : Nat → Int} : ∀ m, eBst g m ≤ m := by
  intro m
  induction m with
  | zero => exact Nat.le_refl _
  | succ m ih =>
    show (if g (m + 1) < g (eBst g m) then m + 1 else eBst g m) ≤ m + 1
    split <;> omega
end eBounds
