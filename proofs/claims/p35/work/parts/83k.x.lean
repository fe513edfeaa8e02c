/-! The evaluators, method by method: printed by a program. -/
set_option maxRecDepth 100000 in
theorem xm_X11_rests (d : Nat) (a1 : Int) (a2 : Int) (C : xC) : xM (d + 1) 144 [.inr (.inr (.inl (0, 0))), .inl a1, .inl a2] C =
  (xM d 19 [.inr (.inr (.inl ((C 0 3).toNat, 2))), .inl 1, .inl a1] C).bind fun q1 =>
  cond (decide (q1.1 ≠ 0))
    ((xM d 11 [.inr (.inr (.inl ((q1.2 0 17).toNat, 54))), .inr (.inr (.inl ((q1.2 0 3).toNat, 2))), .inl a2, .inl (-1)] q1.2).bind fun q2 =>
      cond (decide (q2.1 ≠ (-2)))
        (cond (xix a1 5)
          (some (q2.2 (q2.2 (q2.2 0 17).toNat 6).toNat ((a1).toNat), q2.2))
          none)
        (some ((-2), q2.2)))
    (some ((-1), q1.2)) := by
  rw [xM_fix (nL := 3) (rk := 1) (cd := zC_X11_rests) rfl rfl rfl rfl]
  with_unfolding_all rfl
