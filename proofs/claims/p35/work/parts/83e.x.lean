/-! The evaluators, method by method: printed by a program. -/
set_option maxRecDepth 100000 in
theorem xl_X7_value_96 (d : Nat) (l1 : Int) (l2 : Int) (l3 : Int) (l4 : Int) (l5 : Int) (l6 : Int) (o7 : Option xV) (o8 : Option xV) (C : xC) : xw_X7_value d (96, [some (.inr (.inr (.inl (37, 26)))), some (.inl l1), some (.inl l2), some (.inl l3), some (.inl l4), some (.inl l5), some (.inl l6), o7, o8], [], C) =
  cond (xix l3 32)
  (cond (xix (w32 (l3 + 1)) 32)
    (cond (decide (l5 = 0))
      (xw_X7_value d (188, [some (.inr (.inr (.inl (37, 26)))), some (.inl l1), some (.inl l2), some (.inl l3), some (.inl l4), some (.inl l5), some (.inl l6), some (.inl (C (C 37 7).toNat ((l3).toNat))), some (.inl (C (C 37 7).toNat ((w32 (l3 + 1)).toNat)))], [], C))
      (cond (decide (l5 = 1))
      (xw_X7_value d (199, [some (.inr (.inr (.inl (37, 26)))), some (.inl l1), some (.inl l2), some (.inl l3), some (.inl l4), some (.inl l5), some (.inl l6), some (.inl (C (C 37 7).toNat ((l3).toNat))), some (.inl (C (C 37 7).toNat ((w32 (l3 + 1)).toNat)))], [], C))
      (cond (decide (l5 = 2))
      (xw_X7_value d (215, [some (.inr (.inr (.inl (37, 26)))), some (.inl l1), some (.inl l2), some (.inl l3), some (.inl l4), some (.inl l5), some (.inl l6), some (.inl (C (C 37 7).toNat ((l3).toNat))), some (.inl (C (C 37 7).toNat ((w32 (l3 + 1)).toNat)))], [], C))
      (cond (decide (l5 = 3))
      (xw_X7_value d (242, [some (.inr (.inr (.inl (37, 26)))), some (.inl l1), some (.inl l2), some (.inl l3), some (.inl l4), some (.inl l5), some (.inl l6), some (.inl (C (C 37 7).toNat ((l3).toNat))), some (.inl (C (C 37 7).toNat ((w32 (l3 + 1)).toNat)))], [], C))
      (cond (decide (l5 = 4))
      (xw_X7_value d (255, [some (.inr (.inr (.inl (37, 26)))), some (.inl l1), some (.inl l2), some (.inl l3), some (.inl l4), some (.inl l5), some (.inl l6), some (.inl (C (C 37 7).toNat ((l3).toNat))), some (.inl (C (C 37 7).toNat ((w32 (l3 + 1)).toNat)))], [], C))
      (cond (decide (l5 = 5))
      (xw_X7_value d (274, [some (.inr (.inr (.inl (37, 26)))), some (.inl l1), some (.inl l2), some (.inl l3), some (.inl l4), some (.inl l5), some (.inl l6), some (.inl (C (C 37 7).toNat ((l3).toNat))), some (.inl (C (C 37 7).toNat ((w32 (l3 + 1)).toNat)))], [], C))
      (cond (decide (l5 = 6))
      (xw_X7_value d (288, [some (.inr (.inr (.inl (37, 26)))), some (.inl l1), some (.inl l2), some (.inl l3), some (.inl l4), some (.inl l5), some (.inl l6), some (.inl (C (C 37 7).toNat ((l3).toNat))), some (.inl (C (C 37 7).toNat ((w32 (l3 + 1)).toNat)))], [], C))
      (cond (decide (l5 = 7))
      (xw_X7_value d (302, [some (.inr (.inr (.inl (37, 26)))), some (.inl l1), some (.inl l2), some (.inl l3), some (.inl l4), some (.inl l5), some (.inl l6), some (.inl (C (C 37 7).toNat ((l3).toNat))), some (.inl (C (C 37 7).toNat ((w32 (l3 + 1)).toNat)))], [], C))
      (cond (decide (l5 = 8))
      (xw_X7_value d (316, [some (.inr (.inr (.inl (37, 26)))), some (.inl l1), some (.inl l2), some (.inl l3), some (.inl l4), some (.inl l5), some (.inl l6), some (.inl (C (C 37 7).toNat ((l3).toNat))), some (.inl (C (C 37 7).toNat ((w32 (l3 + 1)).toNat)))], [], C))
      (cond (decide (l5 = 9))
      (xw_X7_value d (339, [some (.inr (.inr (.inl (37, 26)))), some (.inl l1), some (.inl l2), some (.inl l3), some (.inl l4), some (.inl l5), some (.inl l6), some (.inl (C (C 37 7).toNat ((l3).toNat))), some (.inl (C (C 37 7).toNat ((w32 (l3 + 1)).toNat)))], [], C))
      (cond (decide (l5 = 10))
      (xw_X7_value d (362, [some (.inr (.inr (.inl (37, 26)))), some (.inl l1), some (.inl l2), some (.inl l3), some (.inl l4), some (.inl l5), some (.inl l6), some (.inl (C (C 37 7).toNat ((l3).toNat))), some (.inl (C (C 37 7).toNat ((w32 (l3 + 1)).toNat)))], [], C))
      (cond (decide (l5 = 11))
      (xw_X7_value d (383, [some (.inr (.inr (.inl (37, 26)))), some (.inl l1), some (.inl l2), some (.inl l3), some (.inl l4), some (.inl l5), some (.inl l6), some (.inl (C (C 37 7).toNat ((l3).toNat))), some (.inl (C (C 37 7).toNat ((w32 (l3 + 1)).toNat)))], [], C))
      (cond (decide (l5 = 12))
      (xw_X7_value d (404, [some (.inr (.inr (.inl (37, 26)))), some (.inl l1), some (.inl l2), some (.inl l3), some (.inl l4), some (.inl l5), some (.inl l6), some (.inl (C (C 37 7).toNat ((l3).toNat))), some (.inl (C (C 37 7).toNat ((w32 (l3 + 1)).toNat)))], [], C))
      (cond (decide (l5 = 13))
      (xw_X7_value d (425, [some (.inr (.inr (.inl (37, 26)))), some (.inl l1), some (.inl l2), some (.inl l3), some (.inl l4), some (.inl l5), some (.inl l6), some (.inl (C (C 37 7).toNat ((l3).toNat))), some (.inl (C (C 37 7).toNat ((w32 (l3 + 1)).toNat)))], [], C))
      (xw_X7_value d (449, [some (.inr (.inr (.inl (37, 26)))), some (.inl l1), some (.inl l2), some (.inl l3), some (.inl l4), some (.inl l5), some (.inl l6), some (.inl (C (C 37 7).toNat ((l3).toNat))), some (.inl (C (C 37 7).toNat ((w32 (l3 + 1)).toNat)))], [], C))))))))))))))))
    none)
  none := by
  refine (xgoL_fix ?_).trans ?_
  · with_unfolding_all rfl
  · with_unfolding_all rfl
