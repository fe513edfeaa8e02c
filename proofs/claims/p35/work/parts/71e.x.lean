/-! The looks' methods, method by method: printed by a program. -/
set_option maxRecDepth 100000 in
theorem xm_X4_takeBack (d : Nat) (a1 : Int) (C : xC) : xM (d + 1) 24 [.inr (.inr (.inl (59, 48))), .inl a1] C =
  cond (decide (a1 < 0))
  (some (0, C))
  (cond (decide (C 59 0 ≤ a1))
    (some (0, C))
    (cond (xix a1 20)
      (cond (decide (C (C 59 6).toNat ((a1).toNat) = (-1)))
        (cond (xix a1 20 && xna 2 (C 59 1))
          (some (1, (xst C (C 59 6).toNat (a1).toNat (C 59 1))))
          none)
        (some (0, C)))
      none)) := by
  rw [xM_fix (nL := 2) (rk := 1) (cd := zC_X4_takeBack) rfl rfl rfl rfl]
  with_unfolding_all rfl
noncomputable abbrev xw_X4_tell (d : Nat) : xCf → Option (Int × xC) := xgoL zC_X4_tell (xM d) (xstop 23) 1
set_option maxRecDepth 100000 in
theorem xm_X4_tell (d : Nat) (a1 : Int) (a2 : Int) (a3 : Int) (C : xC) : xM (d + 1) 23 [.inr (.inr (.inl (59, 48))), .inl a1, .inl a2, .inl a3] C =
  cond (decide (C 59 0 < 20))
  (xw_X4_tell d (11, [some (.inr (.inr (.inl (59, 48)))), some (.inl a1), some (.inl a2), some (.inl a3)], [], C))
  (some ((-1), C)) := by
  rw [xM_fix (nL := 4) (rk := 1) (cd := zC_X4_tell) rfl rfl rfl rfl]
  with_unfolding_all rfl
set_option maxRecDepth 100000 in
theorem xl_X4_tell_11 (d : Nat) (l1 : Int) (l2 : Int) (l3 : Int) (C : xC) : xw_X4_tell d (11, [some (.inr (.inr (.inl (59, 48)))), some (.inl l1), some (.inl l2), some (.inl l3)], [], C) =
  cond (xix (C 59 0) 20 && xna 2 l1)
  (xw_X4_tell d (21, [some (.inr (.inr (.inl (59, 48)))), some (.inl l1), some (.inl l2), some (.inl l3)], [], (xst C (C 59 2).toNat (C 59 0).toNat l1)))
  none := by
  refine (xgoL_fix ?_).trans ?_
  · with_unfolding_all rfl
  · with_unfolding_all rfl
set_option maxRecDepth 100000 in
theorem xl_X4_tell_21 (d : Nat) (l1 : Int) (l2 : Int) (l3 : Int) (C : xC) : xw_X4_tell d (21, [some (.inr (.inr (.inl (59, 48)))), some (.inl l1), some (.inl l2), some (.inl l3)], [], C) =
  cond (xix (C 59 0) 20 && xna 2 l2)
  (xw_X4_tell d (31, [some (.inr (.inr (.inl (59, 48)))), some (.inl l1), some (.inl l2), some (.inl l3)], [], (xst C (C 59 3).toNat (C 59 0).toNat l2)))
  none := by
  refine (xgoL_fix ?_).trans ?_
  · with_unfolding_all rfl
  · with_unfolding_all rfl
set_option maxRecDepth 100000 in
theorem xl_X4_tell_31 (d : Nat) (l1 : Int) (l2 : Int) (l3 : Int) (C : xC) : xw_X4_tell d (31, [some (.inr (.inr (.inl (59, 48)))), some (.inl l1), some (.inl l2), some (.inl l3)], [], C) =
  cond (xix (C 59 0) 20 && xna 2 l3)
  (xw_X4_tell d (41, [some (.inr (.inr (.inl (59, 48)))), some (.inl l1), some (.inl l2), some (.inl l3)], [], (xst C (C 59 4).toNat (C 59 0).toNat l3)))
  none := by
  refine (xgoL_fix ?_).trans ?_
  · with_unfolding_all rfl
  · with_unfolding_all rfl
set_option maxRecDepth 100000 in
theorem xl_X4_tell_41 (d : Nat) (l1 : Int) (l2 : Int) (l3 : Int) (C : xC) : xw_X4_tell d (41, [some (.inr (.inr (.inl (59, 48)))), some (.inl l1), some (.inl l2), some (.inl l3)], [], C) =
  cond (xix (C 59 0) 20 && xna 2 (C 59 1))
  (xw_X4_tell d (54, [some (.inr (.inr (.inl (59, 48)))), some (.inl l1), some (.inl l2), some (.inl l3)], [], (xst C (C 59 5).toNat (C 59 0).toNat (C 59 1))))
  none := by
  refine (xgoL_fix ?_).trans ?_
  · with_unfolding_all rfl
  · with_unfolding_all rfl
set_option maxRecDepth 100000 in
theorem xl_X4_tell_54 (d : Nat) (l1 : Int) (l2 : Int) (l3 : Int) (C : xC) : xw_X4_tell d (54, [some (.inr (.inr (.inl (59, 48)))), some (.inl l1), some (.inl l2), some (.inl l3)], [], C) =
  cond (xix (C 59 0) 20 && xna 2 (-1))
  (xw_X4_tell d (64, [some (.inr (.inr (.inl (59, 48)))), some (.inl l1), some (.inl l2), some (.inl l3)], [], (xst C (C 59 6).toNat (C 59 0).toNat (-1))))
  none := by
  refine (xgoL_fix ?_).trans ?_
  · with_unfolding_all rfl
  · with_unfolding_all rfl
set_option maxRecDepth 100000 in
theorem xl_X4_tell_64 (d : Nat) (l1 : Int) (l2 : Int) (l3 : Int) (C : xC) : xw_X4_tell d (64, [some (.inr (.inr (.inl (59, 48)))), some (.inl l1), some (.inl l2), some (.inl l3)], [], C) =
  xw_X4_tell d (74, [some (.inr (.inr (.inl (59, 48)))), some (.inl l1), some (.inl l2), some (.inl l3)], [], (xst C 59 0 (w32 ((C 59 0) + 1)))) := by
  refine (xgoL_fix ?_).trans ?_
  · with_unfolding_all rfl
  · with_unfolding_all rfl
set_option maxRecDepth 100000 in
theorem xl_X4_tell_74 (d : Nat) (l1 : Int) (l2 : Int) (l3 : Int) (C : xC) : xw_X4_tell d (74, [some (.inr (.inr (.inl (59, 48)))), some (.inl l1), some (.inl l2), some (.inl l3)], [], C) =
  some (w32 ((C 59 0) - 1), C) := by
  refine (xgoL_fix ?_).trans ?_
  · with_unfolding_all rfl
  · with_unfolding_all rfl
set_option maxRecDepth 100000 in
theorem xm_X12_isIn (d : Nat) (a0 : Int) (a1 : Int) (a2 : Int) (C : xC) : xM (d + 1) 196 [.inl a0, .inl a1, .inl a2] C =
  cond (decide (a0 < a1))
  (some (0, C))
  (cond (decide (a2 < a0))
    (some (0, C))
    (some (1, C))) := by
  rw [xM_fix (nL := 3) (rk := 1) (cd := zC_X12_isIn) rfl rfl rfl rfl]
  with_unfolding_all rfl
set_option maxRecDepth 100000 in
theorem xm_X12_isThing (d : Nat) (a1 : Int) (C : xC) : xM (d + 1) 197 [.inr (.inr (.inl (74, 63))), .inl a1] C =
  (xM d 196 [.inl a1, .inl 0, .inl (w32 ((C 74 49) - 1))] C).bind fun q1 =>
  xfr 1 q1.2 (cond (decide (q1.1 = 0) || decide (q1.1 = 1)) (some (1, q1.1)) none) := by
  rw [xM_fix (nL := 2) (rk := 1) (cd := zC_X12_isThing) rfl rfl rfl rfl]
  with_unfolding_all rfl
noncomputable abbrev xw_X12_look (d : Nat) : xCf → Option (Int × xC) := xgoL zC_X12_look (xM d) (xstop 258) 1
set_option maxRecDepth 100000 in
theorem xm_X12_look (d : Nat) (a1 : Int) (a2 : Int) (a3 : Int) (C : xC) : xM (d + 1) 258 [.inr (.inr (.inl (74, 63))), .inl a1, .inl a2, .inl a3] C =
  (xM d 196 [.inl a1, .inl 0, .inl 60] C).bind fun q1 =>
  cond (decide (q1.1 = 0))
    (some ((-1), q1.2))
    (xw_X12_look d (10, [some (.inr (.inr (.inl (74, 63)))), some (.inl a1), some (.inl a2), some (.inl a3)], [], q1.2)) := by
  rw [xM_fix (nL := 4) (rk := 1) (cd := zC_X12_look) rfl rfl rfl rfl]
  with_unfolding_all rfl
set_option maxRecDepth 100000 in
theorem xl_X12_look_10 (d : Nat) (l1 : Int) (l2 : Int) (l3 : Int) (C : xC) : xw_X12_look d (10, [some (.inr (.inr (.inl (74, 63)))), some (.inl l1), some (.inl l2), some (.inl l3)], [], C) =
  (xM d 197 [.inr (.inr (.inl (74, 63))), .inl l2] C).bind fun q1 =>
  cond (decide (q1.1 = 0))
    (some ((-1), q1.2))
    ((xM d 196 [.inl l3, .inl 0, .inl 999] q1.2).bind fun q2 =>
      cond (decide (q2.1 = 0))
        (some ((-1), q2.2))
        (xw_X12_look d (29, [some (.inr (.inr (.inl (74, 63)))), some (.inl l1), some (.inl l2), some (.inl l3)], [], q2.2))) := by
  refine (xgoL_fix ?_).trans ?_
  · with_unfolding_all rfl
  · with_unfolding_all rfl
set_option maxRecDepth 100000 in
theorem xl_X12_look_29 (d : Nat) (l1 : Int) (l2 : Int) (l3 : Int) (C : xC) : xw_X12_look d (29, [some (.inr (.inr (.inl (74, 63)))), some (.inl l1), some (.inl l2), some (.inl l3)], [], C) =
  cond (decide (C 74 98 ≠ 20))
  (xw_X12_look d (40, [some (.inr (.inr (.inl (74, 63)))), some (.inl l1), some (.inl l2), some (.inl l3)], [], C))
  (some ((-1), C)) := by
  refine (xgoL_fix ?_).trans ?_
  · with_unfolding_all rfl
  · with_unfolding_all rfl
set_option maxRecDepth 100000 in
theorem xl_X12_look_40 (d : Nat) (l1 : Int) (l2 : Int) (l3 : Int) (C : xC) : xw_X12_look d (40, [some (.inr (.inr (.inl (74, 63)))), some (.inl l1), some (.inl l2), some (.inl l3)], [], C) =
  cond (xix (C 74 98) 20 && xna 2 l1)
  (xw_X12_look d (50, [some (.inr (.inr (.inl (74, 63)))), some (.inl l1), some (.inl l2), some (.inl l3)], [], (xst C (C 74 93).toNat (C 74 98).toNat l1)))
  none := by
  refine (xgoL_fix ?_).trans ?_
  · with_unfolding_all rfl
  · with_unfolding_all rfl
set_option maxRecDepth 100000 in
theorem xl_X12_look_50 (d : Nat) (l1 : Int) (l2 : Int) (l3 : Int) (C : xC) : xw_X12_look d (50, [some (.inr (.inr (.inl (74, 63)))), some (.inl l1), some (.inl l2), some (.inl l3)], [], C) =
  cond (xix (C 74 98) 20 && xna 2 l2)
  (xw_X12_look d (60, [some (.inr (.inr (.inl (74, 63)))), some (.inl l1), some (.inl l2), some (.inl l3)], [], (xst C (C 74 94).toNat (C 74 98).toNat l2)))
  none := by
  refine (xgoL_fix ?_).trans ?_
  · with_unfolding_all rfl
  · with_unfolding_all rfl
set_option maxRecDepth 100000 in
theorem xl_X12_look_60 (d : Nat) (l1 : Int) (l2 : Int) (l3 : Int) (C : xC) : xw_X12_look d (60, [some (.inr (.inr (.inl (74, 63)))), some (.inl l1), some (.inl l2), some (.inl l3)], [], C) =
  cond (xix (C 74 98) 20 && xna 2 l3)
  (xw_X12_look d (70, [some (.inr (.inr (.inl (74, 63)))), some (.inl l1), some (.inl l2), some (.inl l3)], [], (xst C (C 74 95).toNat (C 74 98).toNat l3)))
  none := by
  refine (xgoL_fix ?_).trans ?_
  · with_unfolding_all rfl
  · with_unfolding_all rfl
set_option maxRecDepth 100000 in
theorem xl_X12_look_70 (d : Nat) (l1 : Int) (l2 : Int) (l3 : Int) (C : xC) : xw_X12_look d (70, [some (.inr (.inr (.inl (74, 63)))), some (.inl l1), some (.inl l2), some (.inl l3)], [], C) =
  cond (xix (C 74 98) 20 && xna 2 (C 74 99))
  (xw_X12_look d (83, [some (.inr (.inr (.inl (74, 63)))), some (.inl l1), some (.inl l2), some (.inl l3)], [], (xst C (C 74 96).toNat (C 74 98).toNat (C 74 99))))
  none := by
  refine (xgoL_fix ?_).trans ?_
  · with_unfolding_all rfl
  · with_unfolding_all rfl
set_option maxRecDepth 100000 in
theorem xl_X12_look_83 (d : Nat) (l1 : Int) (l2 : Int) (l3 : Int) (C : xC) : xw_X12_look d (83, [some (.inr (.inr (.inl (74, 63)))), some (.inl l1), some (.inl l2), some (.inl l3)], [], C) =
  cond (xix (C 74 98) 20 && xna 2 (-1))
  (xw_X12_look d (93, [some (.inr (.inr (.inl (74, 63)))), some (.inl l1), some (.inl l2), some (.inl l3)], [], (xst C (C 74 97).toNat (C 74 98).toNat (-1))))
  none := by
  refine (xgoL_fix ?_).trans ?_
  · with_unfolding_all rfl
  · with_unfolding_all rfl
set_option maxRecDepth 100000 in
theorem xl_X12_look_93 (d : Nat) (l1 : Int) (l2 : Int) (l3 : Int) (C : xC) : xw_X12_look d (93, [some (.inr (.inr (.inl (74, 63)))), some (.inl l1), some (.inl l2), some (.inl l3)], [], C) =
  xw_X12_look d (103, [some (.inr (.inr (.inl (74, 63)))), some (.inl l1), some (.inl l2), some (.inl l3)], [], (xst C 74 98 (w32 ((C 74 98) + 1)))) := by
  refine (xgoL_fix ?_).trans ?_
  · with_unfolding_all rfl
  · with_unfolding_all rfl
set_option maxRecDepth 100000 in
theorem xl_X12_look_103 (d : Nat) (l1 : Int) (l2 : Int) (l3 : Int) (C : xC) : xw_X12_look d (103, [some (.inr (.inr (.inl (74, 63)))), some (.inl l1), some (.inl l2), some (.inl l3)], [], C) =
  some (w32 ((C 74 98) - 1), C) := by
  refine (xgoL_fix ?_).trans ?_
  · with_unfolding_all rfl
  · with_unfolding_all rfl
set_option maxRecDepth 100000 in
theorem xm_X12_untell (d : Nat) (a1 : Int) (C : xC) : xM (d + 1) 259 [.inr (.inr (.inl (74, 63))), .inl a1] C =
  (xM d 196 [.inl a1, .inl 0, .inl (w32 ((C 74 98) - 1))] C).bind fun q1 =>
  cond (decide (q1.1 = 0))
    (some (0, q1.2))
    (cond (xix a1 20)
      (cond (decide (q1.2 (q1.2 74 97).toNat ((a1).toNat) < 0))
        (cond (xix a1 20 && xna 2 (q1.2 74 99))
          (some (1, (xst q1.2 (q1.2 74 97).toNat (a1).toNat (q1.2 74 99))))
          none)
        (some (0, q1.2)))
      none) := by
  rw [xM_fix (nL := 2) (rk := 1) (cd := zC_X12_untell) rfl rfl rfl rfl]
  with_unfolding_all rfl
