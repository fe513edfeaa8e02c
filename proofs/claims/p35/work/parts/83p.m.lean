/-! The reference’s evaluators, method by method: printed by a program. -/
set_option maxRecDepth 100000 in
theorem xm_X12_isLaw (d : Nat) (a1 : Int) (C : xC) : xM (d + 1) 198 [.inr (.inr (.inl (74, 63))), .inl a1] C =
  (xM d 196 [.inl a1, .inl 0, .inl (w32 ((C 74 50) - 1))] C).bind fun q1 =>
  xfr 1 q1.2 (cond (decide (q1.1 = 0) || decide (q1.1 = 1)) (some (1, q1.1)) none) := by
  rw [xM_fix (nL := 2) (rk := 1) (cd := zC_X12_isLaw) rfl rfl rfl rfl]
  with_unfolding_all rfl
