/-! The evaluators, method by method: printed by a program. -/
set_option maxRecDepth 100000 in
theorem xl_X7_value_288 (d : Nat) (l1 : Int) (l2 : Int) (l3 : Int) (l4 : Int) (l5 : Int) (l6 : Int) (l7 : Int) (l8 : Int) (C : xC) : xw_X7_value d (288, [some (.inr (.inr (.inl (37, 26)))), some (.inl l1), some (.inl l2), some (.inl l3), some (.inl l4), some (.inl l5), some (.inl l6), some (.inl l7), some (.inl l8)], [], C) =
  cond (xix l3 32 && xna 2 (w32 (l7 - l8)))
  (xw_X7_value d (23, [some (.inr (.inr (.inl (37, 26)))), some (.inl l1), some (.inl l2), some (.inl l3), some (.inl (w32 (l4 + 1))), some (.inl l5), some (.inl l6), some (.inl l7), some (.inl l8)], [], (xst C (C 37 7).toNat (l3).toNat (w32 (l7 - l8)))))
  none := by
  refine (xgoL_fix ?_).trans ?_
  · with_unfolding_all rfl
  · with_unfolding_all rfl
