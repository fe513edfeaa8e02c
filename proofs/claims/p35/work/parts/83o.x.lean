/-! The evaluators, method by method: printed by a program. -/
set_option maxRecDepth 100000 in
theorem xm_X3_has (d : Nat) (r0 : Nat) (a1 : Int) (a2 : Int) (C : xC) : xM (d + 1) 19 [.inr (.inr (.inl (r0, 2))), .inl a1, .inl a2] C =
  cond (decide (a2 < 0))
  (some (0, C))
  (cond (xix a1 5)
    (cond (decide (C (C r0 4).toNat ((a1).toNat) ≤ a2))
      (some (0, C))
      (some (1, C)))
    none) := by
  rw [xM_fix (nL := 3) (rk := 1) (cd := zC_X3_has) rfl rfl rfl rfl]
  with_unfolding_all rfl
