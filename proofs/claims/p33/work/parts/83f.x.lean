/-! The evaluators, method by method: printed by a program. -/
set_option maxRecDepth 100000 in
theorem xl_X7_value_188 (d : Nat) (l1 : Int) (l2 : Int) (l3 : Int) (l4 : Int) (l5 : Int) (l6 : Int) (l7 : Int) (l8 : Int) (C : xC) : xw_X7_value d (188, [some (.inr (.inr (.inl (37, 26)))), some (.inl l1), some (.inl l2), some (.inl l3), some (.inl l4), some (.inl l5), some (.inl l6), some (.inl l7), some (.inl l8)], [], C) =
  cond (xix l3 32 && xna 2 l6)
  (xw_X7_value d (23, [some (.inr (.inr (.inl (37, 26)))), some (.inl l1), some (.inl l2), some (.inl l3), some (.inl (w32 (l4 + 1))), some (.inl l5), some (.inl l6), some (.inl l7), some (.inl l8)], [], (xst C (C 37 7).toNat (l3).toNat l6)))
  none := by
  refine (xgoL_fix ?_).trans ?_
  · with_unfolding_all rfl
  · with_unfolding_all rfl
set_option maxRecDepth 100000 in
theorem xl_X7_value_199 (d : Nat) (l1 : Int) (l2 : Int) (l3 : Int) (l4 : Int) (l5 : Int) (l6 : Int) (l7 : Int) (l8 : Int) (C : xC) : xw_X7_value d (199, [some (.inr (.inr (.inl (37, 26)))), some (.inl l1), some (.inl l2), some (.inl l3), some (.inl l4), some (.inl l5), some (.inl l6), some (.inl l7), some (.inl l8)], [], C) =
  cond (xix l6 6)
  (cond (xix l3 32 && xna 2 (C (C 37 5).toNat ((l6).toNat)))
    (xw_X7_value d (23, [some (.inr (.inr (.inl (37, 26)))), some (.inl l1), some (.inl l2), some (.inl l3), some (.inl (w32 (l4 + 1))), some (.inl l5), some (.inl l6), some (.inl l7), some (.inl l8)], [], (xst C (C 37 7).toNat (l3).toNat (C (C 37 5).toNat ((l6).toNat)))))
    none)
  none := by
  refine (xgoL_fix ?_).trans ?_
  · with_unfolding_all rfl
  · with_unfolding_all rfl
set_option maxRecDepth 100000 in
theorem xl_X7_value_215 (d : Nat) (l1 : Int) (l2 : Int) (l3 : Int) (l4 : Int) (l5 : Int) (l6 : Int) (l7 : Int) (l8 : Int) (C : xC) : xw_X7_value d (215, [some (.inr (.inr (.inl (37, 26)))), some (.inl l1), some (.inl l2), some (.inl l3), some (.inl l4), some (.inl l5), some (.inl l6), some (.inl l7), some (.inl l8)], [], C) =
  cond (decide (C 37 4 = 0))
  (cond (xix l3 32 && xna 2 (C 37 2))
    (xw_X7_value d (23, [some (.inr (.inr (.inl (37, 26)))), some (.inl l1), some (.inl l2), some (.inl l3), some (.inl (w32 (l4 + 1))), some (.inl l5), some (.inl l6), some (.inl l7), some (.inl l8)], [], (xst C (C 37 7).toNat (l3).toNat (C 37 2))))
    none)
  (cond (xix l3 32 && xna 2 (C 37 1))
    (xw_X7_value d (23, [some (.inr (.inr (.inl (37, 26)))), some (.inl l1), some (.inl l2), some (.inl l3), some (.inl (w32 (l4 + 1))), some (.inl l5), some (.inl l6), some (.inl l7), some (.inl l8)], [], (xst C (C 37 7).toNat (l3).toNat (C 37 1))))
    none) := by
  refine (xgoL_fix ?_).trans ?_
  · with_unfolding_all rfl
  · with_unfolding_all rfl
set_option maxRecDepth 100000 in
theorem xl_X7_value_242 (d : Nat) (l1 : Int) (l2 : Int) (l3 : Int) (l4 : Int) (l5 : Int) (l6 : Int) (l7 : Int) (l8 : Int) (C : xC) : xw_X7_value d (242, [some (.inr (.inr (.inl (37, 26)))), some (.inl l1), some (.inl l2), some (.inl l3), some (.inl l4), some (.inl l5), some (.inl l6), some (.inl l7), some (.inl l8)], [], C) =
  cond (xix l3 32 && xna 2 (C 37 3))
  (xw_X7_value d (23, [some (.inr (.inr (.inl (37, 26)))), some (.inl l1), some (.inl l2), some (.inl l3), some (.inl (w32 (l4 + 1))), some (.inl l5), some (.inl l6), some (.inl l7), some (.inl l8)], [], (xst C (C 37 7).toNat (l3).toNat (C 37 3))))
  none := by
  refine (xgoL_fix ?_).trans ?_
  · with_unfolding_all rfl
  · with_unfolding_all rfl
set_option maxRecDepth 100000 in
theorem xl_X7_value_255 (d : Nat) (l1 : Int) (l2 : Int) (l3 : Int) (l4 : Int) (l5 : Int) (l6 : Int) (l7 : Int) (l8 : Int) (C : xC) : xw_X7_value d (255, [some (.inr (.inr (.inl (37, 26)))), some (.inl l1), some (.inl l2), some (.inl l3), some (.inl l4), some (.inl l5), some (.inl l6), some (.inl l7), some (.inl l8)], [], C) =
  cond (decide (l7 ≠ 0))
  (cond (xix l3 32 && xna 2 0)
    (xw_X7_value d (23, [some (.inr (.inr (.inl (37, 26)))), some (.inl l1), some (.inl l2), some (.inl l3), some (.inl (w32 (l4 + 1))), some (.inl l5), some (.inl l6), some (.inl l7), some (.inl l8)], [], (xst C (C 37 7).toNat (l3).toNat 0)))
    none)
  (cond (xix l3 32 && xna 2 1)
    (xw_X7_value d (23, [some (.inr (.inr (.inl (37, 26)))), some (.inl l1), some (.inl l2), some (.inl l3), some (.inl (w32 (l4 + 1))), some (.inl l5), some (.inl l6), some (.inl l7), some (.inl l8)], [], (xst C (C 37 7).toNat (l3).toNat 1)))
    none) := by
  refine (xgoL_fix ?_).trans ?_
  · with_unfolding_all rfl
  · with_unfolding_all rfl
set_option maxRecDepth 100000 in
theorem xl_X7_value_274 (d : Nat) (l1 : Int) (l2 : Int) (l3 : Int) (l4 : Int) (l5 : Int) (l6 : Int) (l7 : Int) (l8 : Int) (C : xC) : xw_X7_value d (274, [some (.inr (.inr (.inl (37, 26)))), some (.inl l1), some (.inl l2), some (.inl l3), some (.inl l4), some (.inl l5), some (.inl l6), some (.inl l7), some (.inl l8)], [], C) =
  cond (xix l3 32 && xna 2 (w32 (l7 + l8)))
  (xw_X7_value d (23, [some (.inr (.inr (.inl (37, 26)))), some (.inl l1), some (.inl l2), some (.inl l3), some (.inl (w32 (l4 + 1))), some (.inl l5), some (.inl l6), some (.inl l7), some (.inl l8)], [], (xst C (C 37 7).toNat (l3).toNat (w32 (l7 + l8)))))
  none := by
  refine (xgoL_fix ?_).trans ?_
  · with_unfolding_all rfl
  · with_unfolding_all rfl
set_option maxRecDepth 100000 in
theorem xl_X7_value_288 (d : Nat) (l1 : Int) (l2 : Int) (l3 : Int) (l4 : Int) (l5 : Int) (l6 : Int) (l7 : Int) (l8 : Int) (C : xC) : xw_X7_value d (288, [some (.inr (.inr (.inl (37, 26)))), some (.inl l1), some (.inl l2), some (.inl l3), some (.inl l4), some (.inl l5), some (.inl l6), some (.inl l7), some (.inl l8)], [], C) =
  cond (xix l3 32 && xna 2 (w32 (l7 - l8)))
  (xw_X7_value d (23, [some (.inr (.inr (.inl (37, 26)))), some (.inl l1), some (.inl l2), some (.inl l3), some (.inl (w32 (l4 + 1))), some (.inl l5), some (.inl l6), some (.inl l7), some (.inl l8)], [], (xst C (C 37 7).toNat (l3).toNat (w32 (l7 - l8)))))
  none := by
  refine (xgoL_fix ?_).trans ?_
  · with_unfolding_all rfl
  · with_unfolding_all rfl
set_option maxRecDepth 100000 in
theorem xl_X7_value_302 (d : Nat) (l1 : Int) (l2 : Int) (l3 : Int) (l4 : Int) (l5 : Int) (l6 : Int) (l7 : Int) (l8 : Int) (C : xC) : xw_X7_value d (302, [some (.inr (.inr (.inl (37, 26)))), some (.inl l1), some (.inl l2), some (.inl l3), some (.inl l4), some (.inl l5), some (.inl l6), some (.inl l7), some (.inl l8)], [], C) =
  cond (xix l3 32 && xna 2 (w32 (l7 * l8)))
  (xw_X7_value d (23, [some (.inr (.inr (.inl (37, 26)))), some (.inl l1), some (.inl l2), some (.inl l3), some (.inl (w32 (l4 + 1))), some (.inl l5), some (.inl l6), some (.inl l7), some (.inl l8)], [], (xst C (C 37 7).toNat (l3).toNat (w32 (l7 * l8)))))
  none := by
  refine (xgoL_fix ?_).trans ?_
  · with_unfolding_all rfl
  · with_unfolding_all rfl
set_option maxRecDepth 100000 in
theorem xl_X7_value_316 (d : Nat) (l1 : Int) (l2 : Int) (l3 : Int) (l4 : Int) (l5 : Int) (l6 : Int) (l7 : Int) (l8 : Int) (C : xC) : xw_X7_value d (316, [some (.inr (.inr (.inl (37, 26)))), some (.inl l1), some (.inl l2), some (.inl l3), some (.inl l4), some (.inl l5), some (.inl l6), some (.inl l7), some (.inl l8)], [], C) =
  cond (decide (l8 ≠ 0))
  (cond (decide (l8 = 0)) none
    (cond (xix l3 32 && xna 2 (x32 (· / ·) l7 l8))
      (xw_X7_value d (23, [some (.inr (.inr (.inl (37, 26)))), some (.inl l1), some (.inl l2), some (.inl l3), some (.inl (w32 (l4 + 1))), some (.inl l5), some (.inl l6), some (.inl l7), some (.inl l8)], [], (xst C (C 37 7).toNat (l3).toNat (x32 (· / ·) l7 l8))))
      none))
  (cond (xix l3 32 && xna 2 0)
    (xw_X7_value d (23, [some (.inr (.inr (.inl (37, 26)))), some (.inl l1), some (.inl l2), some (.inl l3), some (.inl (w32 (l4 + 1))), some (.inl l5), some (.inl l6), some (.inl l7), some (.inl l8)], [], (xst C (C 37 7).toNat (l3).toNat 0)))
    none) := by
  refine (xgoL_fix ?_).trans ?_
  · with_unfolding_all rfl
  · with_unfolding_all rfl
set_option maxRecDepth 100000 in
theorem xl_X7_value_339 (d : Nat) (l1 : Int) (l2 : Int) (l3 : Int) (l4 : Int) (l5 : Int) (l6 : Int) (l7 : Int) (l8 : Int) (C : xC) : xw_X7_value d (339, [some (.inr (.inr (.inl (37, 26)))), some (.inl l1), some (.inl l2), some (.inl l3), some (.inl l4), some (.inl l5), some (.inl l6), some (.inl l7), some (.inl l8)], [], C) =
  cond (decide (l8 ≠ 0))
  (cond (decide (l8 = 0)) none
    (cond (xix l3 32 && xna 2 (x32 (fun x y => x - x / y * y) l7 l8))
      (xw_X7_value d (23, [some (.inr (.inr (.inl (37, 26)))), some (.inl l1), some (.inl l2), some (.inl l3), some (.inl (w32 (l4 + 1))), some (.inl l5), some (.inl l6), some (.inl l7), some (.inl l8)], [], (xst C (C 37 7).toNat (l3).toNat (x32 (fun x y => x - x / y * y) l7 l8))))
      none))
  (cond (xix l3 32 && xna 2 0)
    (xw_X7_value d (23, [some (.inr (.inr (.inl (37, 26)))), some (.inl l1), some (.inl l2), some (.inl l3), some (.inl (w32 (l4 + 1))), some (.inl l5), some (.inl l6), some (.inl l7), some (.inl l8)], [], (xst C (C 37 7).toNat (l3).toNat 0)))
    none) := by
  refine (xgoL_fix ?_).trans ?_
  · with_unfolding_all rfl
  · with_unfolding_all rfl
set_option maxRecDepth 100000 in
theorem xl_X7_value_362 (d : Nat) (l1 : Int) (l2 : Int) (l3 : Int) (l4 : Int) (l5 : Int) (l6 : Int) (l7 : Int) (l8 : Int) (C : xC) : xw_X7_value d (362, [some (.inr (.inr (.inl (37, 26)))), some (.inl l1), some (.inl l2), some (.inl l3), some (.inl l4), some (.inl l5), some (.inl l6), some (.inl l7), some (.inl l8)], [], C) =
  cond (decide (l8 ≤ l7))
  (cond (xix l3 32 && xna 2 0)
    (xw_X7_value d (23, [some (.inr (.inr (.inl (37, 26)))), some (.inl l1), some (.inl l2), some (.inl l3), some (.inl (w32 (l4 + 1))), some (.inl l5), some (.inl l6), some (.inl l7), some (.inl l8)], [], (xst C (C 37 7).toNat (l3).toNat 0)))
    none)
  (cond (xix l3 32 && xna 2 1)
    (xw_X7_value d (23, [some (.inr (.inr (.inl (37, 26)))), some (.inl l1), some (.inl l2), some (.inl l3), some (.inl (w32 (l4 + 1))), some (.inl l5), some (.inl l6), some (.inl l7), some (.inl l8)], [], (xst C (C 37 7).toNat (l3).toNat 1)))
    none) := by
  refine (xgoL_fix ?_).trans ?_
  · with_unfolding_all rfl
  · with_unfolding_all rfl
set_option maxRecDepth 100000 in
theorem xl_X7_value_383 (d : Nat) (l1 : Int) (l2 : Int) (l3 : Int) (l4 : Int) (l5 : Int) (l6 : Int) (l7 : Int) (l8 : Int) (C : xC) : xw_X7_value d (383, [some (.inr (.inr (.inl (37, 26)))), some (.inl l1), some (.inl l2), some (.inl l3), some (.inl l4), some (.inl l5), some (.inl l6), some (.inl l7), some (.inl l8)], [], C) =
  cond (decide (l7 ≤ l8))
  (cond (xix l3 32 && xna 2 0)
    (xw_X7_value d (23, [some (.inr (.inr (.inl (37, 26)))), some (.inl l1), some (.inl l2), some (.inl l3), some (.inl (w32 (l4 + 1))), some (.inl l5), some (.inl l6), some (.inl l7), some (.inl l8)], [], (xst C (C 37 7).toNat (l3).toNat 0)))
    none)
  (cond (xix l3 32 && xna 2 1)
    (xw_X7_value d (23, [some (.inr (.inr (.inl (37, 26)))), some (.inl l1), some (.inl l2), some (.inl l3), some (.inl (w32 (l4 + 1))), some (.inl l5), some (.inl l6), some (.inl l7), some (.inl l8)], [], (xst C (C 37 7).toNat (l3).toNat 1)))
    none) := by
  refine (xgoL_fix ?_).trans ?_
  · with_unfolding_all rfl
  · with_unfolding_all rfl
set_option maxRecDepth 100000 in
theorem xl_X7_value_404 (d : Nat) (l1 : Int) (l2 : Int) (l3 : Int) (l4 : Int) (l5 : Int) (l6 : Int) (l7 : Int) (l8 : Int) (C : xC) : xw_X7_value d (404, [some (.inr (.inr (.inl (37, 26)))), some (.inl l1), some (.inl l2), some (.inl l3), some (.inl l4), some (.inl l5), some (.inl l6), some (.inl l7), some (.inl l8)], [], C) =
  cond (decide (l7 ≠ l8))
  (cond (xix l3 32 && xna 2 0)
    (xw_X7_value d (23, [some (.inr (.inr (.inl (37, 26)))), some (.inl l1), some (.inl l2), some (.inl l3), some (.inl (w32 (l4 + 1))), some (.inl l5), some (.inl l6), some (.inl l7), some (.inl l8)], [], (xst C (C 37 7).toNat (l3).toNat 0)))
    none)
  (cond (xix l3 32 && xna 2 1)
    (xw_X7_value d (23, [some (.inr (.inr (.inl (37, 26)))), some (.inl l1), some (.inl l2), some (.inl l3), some (.inl (w32 (l4 + 1))), some (.inl l5), some (.inl l6), some (.inl l7), some (.inl l8)], [], (xst C (C 37 7).toNat (l3).toNat 1)))
    none) := by
  refine (xgoL_fix ?_).trans ?_
  · with_unfolding_all rfl
  · with_unfolding_all rfl
set_option maxRecDepth 100000 in
theorem xl_X7_value_425 (d : Nat) (l1 : Int) (l2 : Int) (l3 : Int) (l4 : Int) (l5 : Int) (l6 : Int) (l7 : Int) (l8 : Int) (C : xC) : xw_X7_value d (425, [some (.inr (.inr (.inl (37, 26)))), some (.inl l1), some (.inl l2), some (.inl l3), some (.inl l4), some (.inl l5), some (.inl l6), some (.inl l7), some (.inl l8)], [], C) =
  cond (decide (l7 = 0))
  (cond (xix l3 32 && xna 2 0)
    (xw_X7_value d (23, [some (.inr (.inr (.inl (37, 26)))), some (.inl l1), some (.inl l2), some (.inl l3), some (.inl (w32 (l4 + 1))), some (.inl l5), some (.inl l6), some (.inl l7), some (.inl l8)], [], (xst C (C 37 7).toNat (l3).toNat 0)))
    none)
  (cond (decide (l8 = 0))
    (cond (xix l3 32 && xna 2 0)
      (xw_X7_value d (23, [some (.inr (.inr (.inl (37, 26)))), some (.inl l1), some (.inl l2), some (.inl l3), some (.inl (w32 (l4 + 1))), some (.inl l5), some (.inl l6), some (.inl l7), some (.inl l8)], [], (xst C (C 37 7).toNat (l3).toNat 0)))
      none)
    (cond (xix l3 32 && xna 2 1)
      (xw_X7_value d (23, [some (.inr (.inr (.inl (37, 26)))), some (.inl l1), some (.inl l2), some (.inl l3), some (.inl (w32 (l4 + 1))), some (.inl l5), some (.inl l6), some (.inl l7), some (.inl l8)], [], (xst C (C 37 7).toNat (l3).toNat 1)))
      none)) := by
  refine (xgoL_fix ?_).trans ?_
  · with_unfolding_all rfl
  · with_unfolding_all rfl
set_option maxRecDepth 100000 in
theorem xl_X7_value_449 (d : Nat) (l1 : Int) (l2 : Int) (l3 : Int) (l4 : Int) (l5 : Int) (l6 : Int) (l7 : Int) (l8 : Int) (C : xC) : xw_X7_value d (449, [some (.inr (.inr (.inl (37, 26)))), some (.inl l1), some (.inl l2), some (.inl l3), some (.inl l4), some (.inl l5), some (.inl l6), some (.inl l7), some (.inl l8)], [], C) =
  cond (decide (l7 ≠ 0))
  (cond (xix l3 32 && xna 2 1)
    (xw_X7_value d (23, [some (.inr (.inr (.inl (37, 26)))), some (.inl l1), some (.inl l2), some (.inl l3), some (.inl (w32 (l4 + 1))), some (.inl l5), some (.inl l6), some (.inl l7), some (.inl l8)], [], (xst C (C 37 7).toNat (l3).toNat 1)))
    none)
  (cond (decide (l8 = 0))
    (cond (xix l3 32 && xna 2 0)
      (xw_X7_value d (23, [some (.inr (.inr (.inl (37, 26)))), some (.inl l1), some (.inl l2), some (.inl l3), some (.inl (w32 (l4 + 1))), some (.inl l5), some (.inl l6), some (.inl l7), some (.inl l8)], [], (xst C (C 37 7).toNat (l3).toNat 0)))
      none)
    (cond (xix l3 32 && xna 2 1)
      (xw_X7_value d (23, [some (.inr (.inr (.inl (37, 26)))), some (.inl l1), some (.inl l2), some (.inl l3), some (.inl (w32 (l4 + 1))), some (.inl l5), some (.inl l6), some (.inl l7), some (.inl l8)], [], (xst C (C 37 7).toNat (l3).toNat 1)))
      none)) := by
  refine (xgoL_fix ?_).trans ?_
  · with_unfolding_all rfl
  · with_unfolding_all rfl
