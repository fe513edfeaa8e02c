/-! The reference’s land, by stretches: printed by a program. -/
noncomputable abbrev xw_X12_keep (d : Nat) : xCf → Option (Int × xC) := xgoL zC_X12_keep (xM d) (xstop 201) 0
set_option maxRecDepth 100000 in
theorem xm_X12_keep (d : Nat) (C : xC) : xM (d + 1) 201 [.inr (.inr (.inl (74, 63)))] C =
  xw_X12_keep d (2, [some (.inr (.inr (.inl (74, 63)))), some (.inl 0)], [], C) := by
  rw [xM_fix (nL := 2) (rk := 0) (cd := zC_X12_keep) rfl rfl rfl rfl]
  with_unfolding_all rfl
set_option maxRecDepth 100000 in
theorem xl_X12_keep_2 (d : Nat) (l1 : Int) (C : xC) : xw_X12_keep d (2, [some (.inr (.inr (.inl (74, 63)))), some (.inl l1)], [], C) =
  cond (decide (6 ≤ l1))
  (xw_X12_keep d (28, [some (.inr (.inr (.inl (74, 63)))), some (.inl 0)], [], C))
  (cond (xix l1 6)
    (cond (xix l1 16 && xna 2 (C (C 74 62).toNat ((l1).toNat)))
      (xw_X12_keep d (2, [some (.inr (.inr (.inl (74, 63)))), some (.inl (w32 (l1 + 1)))], [], (xst C (C 74 69).toNat (l1).toNat (C (C 74 62).toNat ((l1).toNat)))))
      none)
    none) := by
  refine (xgoL_fix ?_).trans ?_
  · with_unfolding_all rfl
  · with_unfolding_all rfl
set_option maxRecDepth 100000 in
theorem xl_X12_keep_28 (d : Nat) (l1 : Int) (C : xC) : xw_X12_keep d (28, [some (.inr (.inr (.inl (74, 63)))), some (.inl l1)], [], C) =
  cond (decide (5 ≤ l1))
  (cond (xix 6 16 && xna 2 (C 74 64))
    (cond (xix 7 16 && xna 2 ((xst C (C 74 69).toNat 6 (C 74 64)) 74 65))
      ((xM d 180 [.inl ((xst (xst C (C 74 69).toNat 6 (C 74 64)) ((xst C (C 74 69).toNat 6 (C 74 64)) 74 69).toNat 7 ((xst C (C 74 69).toNat 6 (C 74 64)) 74 65)) 74 68)] (xst (xst C (C 74 69).toNat 6 (C 74 64)) ((xst C (C 74 69).toNat 6 (C 74 64)) 74 69).toNat 7 ((xst C (C 74 69).toNat 6 (C 74 64)) 74 65))).bind fun q1 =>
        cond (xix 8 16 && xna 2 (q1.1))
          (some (0, (xst q1.2 ((xst (xst C (C 74 69).toNat 6 (C 74 64)) ((xst C (C 74 69).toNat 6 (C 74 64)) 74 69).toNat 7 ((xst C (C 74 69).toNat 6 (C 74 64)) 74 65)) 74 69).toNat 8 (q1.1))))
          none)
      none)
    none)
  (cond (xix l1 5)
    (cond (xix (w32 (9 + l1)) 16 && xna 2 (C (C 74 63).toNat ((l1).toNat)))
      (xw_X12_keep d (28, [some (.inr (.inr (.inl (74, 63)))), some (.inl (w32 (l1 + 1)))], [], (xst C (C 74 69).toNat (w32 (9 + l1)).toNat (C (C 74 63).toNat ((l1).toNat)))))
      none)
    none) := by
  refine (xgoL_fix ?_).trans ?_
  · with_unfolding_all rfl
  · with_unfolding_all rfl
noncomputable abbrev xw_X12_land (d : Nat) : xCf → Option (Int × xC) := xgoL zC_X12_land (xM d) (xstop 194) 1
set_option maxRecDepth 100000 in
theorem xm_X12_land (d : Nat) (C : xC) : xM (d + 1) 194 [.inr (.inr (.inl (74, 63)))] C =
  (xM d 193 [.inr (.inr (.inl (74, 63)))] C).bind fun q1 =>
  cond (decide (q1.2 74 2 ≤ 0))
    ((cond (decide (q1.2 74 58 = 0) || decide (q1.2 74 58 = 1)) (some (q1.2 74 58)) none).bind fun z2 =>
      (cond (decide (q1.2 74 59 = 0) || decide (q1.2 74 59 = 1)) (some (q1.2 74 59)) none).bind fun z3 =>
        xw_X12_land d (95, [some (.inr (.inr (.inl (74, 63)))), some (.inl 0)], [], (xst (xst (xst (xst (xst (xst (xst (xst (xst (xst q1.2 74 49 (q1.2 74 42)) 74 50 (q1.2 74 43)) 74 51 (q1.2 74 44)) 74 52 (q1.2 74 45)) 74 53 (q1.2 74 46)) 74 54 (q1.2 74 47)) 74 55 (q1.2 74 48)) 74 60 z2) 74 61 z3) 74 25 (q1.2 74 24))))
    (some ((-1), q1.2)) := by
  rw [xM_fix (nL := 2) (rk := 1) (cd := zC_X12_land) rfl rfl rfl rfl]
  with_unfolding_all rfl
set_option maxRecDepth 100000 in
theorem xl_X12_land_95 (d : Nat) (l1 : Int) (C : xC) : xw_X12_land d (95, [some (.inr (.inr (.inl (74, 63)))), some (.inl l1)], [], C) =
  cond (decide (65 ≤ l1))
  (xw_X12_land d (133, [some (.inr (.inr (.inl (74, 63)))), some (.inl 0)], [], C))
  (cond (xix l1 70)
    (cond (xix l1 70 && xna 2 (C (C 74 13).toNat ((l1).toNat)))
      (cond (xix l1 70)
        (cond (xix l1 70 && xna 2 ((xst C (C 74 17).toNat (l1).toNat (C (C 74 13).toNat ((l1).toNat))) ((xst C (C 74 17).toNat (l1).toNat (C (C 74 13).toNat ((l1).toNat))) 74 14).toNat ((l1).toNat)))
          (xw_X12_land d (95, [some (.inr (.inr (.inl (74, 63)))), some (.inl (w32 (l1 + 1)))], [], (xst (xst C (C 74 17).toNat (l1).toNat (C (C 74 13).toNat ((l1).toNat))) ((xst C (C 74 17).toNat (l1).toNat (C (C 74 13).toNat ((l1).toNat))) 74 18).toNat (l1).toNat ((xst C (C 74 17).toNat (l1).toNat (C (C 74 13).toNat ((l1).toNat))) ((xst C (C 74 17).toNat (l1).toNat (C (C 74 13).toNat ((l1).toNat))) 74 14).toNat ((l1).toNat)))))
          none)
        none)
      none)
    none) := by
  refine (xgoL_fix ?_).trans ?_
  · with_unfolding_all rfl
  · with_unfolding_all rfl
set_option maxRecDepth 100000 in
theorem xl_X12_land_133 (d : Nat) (l1 : Int) (C : xC) : xw_X12_land d (133, [some (.inr (.inr (.inl (74, 63)))), some (.inl l1)], [], C) =
  cond (decide (C 74 23 ≤ l1))
  (xw_X12_land d (173, [some (.inr (.inr (.inl (74, 63)))), some (.inl 0)], [], C))
  (cond (xix l1 2400)
    (cond (xix l1 2400 && xna 2 (C (C 74 11).toNat ((l1).toNat)))
      (cond (xix l1 2400)
        (cond (xix l1 2400 && xna 2 ((xst C (C 74 15).toNat (l1).toNat (C (C 74 11).toNat ((l1).toNat))) ((xst C (C 74 15).toNat (l1).toNat (C (C 74 11).toNat ((l1).toNat))) 74 12).toNat ((l1).toNat)))
          (xw_X12_land d (133, [some (.inr (.inr (.inl (74, 63)))), some (.inl (w32 (l1 + 1)))], [], (xst (xst C (C 74 15).toNat (l1).toNat (C (C 74 11).toNat ((l1).toNat))) ((xst C (C 74 15).toNat (l1).toNat (C (C 74 11).toNat ((l1).toNat))) 74 16).toNat (l1).toNat ((xst C (C 74 15).toNat (l1).toNat (C (C 74 11).toNat ((l1).toNat))) ((xst C (C 74 15).toNat (l1).toNat (C (C 74 11).toNat ((l1).toNat))) 74 12).toNat ((l1).toNat)))))
          none)
        none)
      none)
    none) := by
  refine (xgoL_fix ?_).trans ?_
  · with_unfolding_all rfl
  · with_unfolding_all rfl
set_option maxRecDepth 100000 in
theorem xl_X12_land_173 (d : Nat) (l1 : Int) (C : xC) : xw_X12_land d (173, [some (.inr (.inr (.inl (74, 63)))), some (.inl l1)], [], C) =
  cond (decide (6 ≤ l1))
  (xw_X12_land d (211, [some (.inr (.inr (.inl (74, 63)))), some (.inl 0)], [], C))
  (cond (xix l1 6)
    (cond (xix l1 6 && xna 2 (C (C 74 28).toNat ((l1).toNat)))
      (cond (xix l1 6)
        (cond (xix l1 6 && xna 2 ((xst C (C 74 35).toNat (l1).toNat (C (C 74 28).toNat ((l1).toNat))) ((xst C (C 74 35).toNat (l1).toNat (C (C 74 28).toNat ((l1).toNat))) 74 29).toNat ((l1).toNat)))
          (xw_X12_land d (173, [some (.inr (.inr (.inl (74, 63)))), some (.inl (w32 (l1 + 1)))], [], (xst (xst C (C 74 35).toNat (l1).toNat (C (C 74 28).toNat ((l1).toNat))) ((xst C (C 74 35).toNat (l1).toNat (C (C 74 28).toNat ((l1).toNat))) 74 36).toNat (l1).toNat ((xst C (C 74 35).toNat (l1).toNat (C (C 74 28).toNat ((l1).toNat))) ((xst C (C 74 35).toNat (l1).toNat (C (C 74 28).toNat ((l1).toNat))) 74 29).toNat ((l1).toNat)))))
          none)
        none)
      none)
    none) := by
  refine (xgoL_fix ?_).trans ?_
  · with_unfolding_all rfl
  · with_unfolding_all rfl
set_option maxRecDepth 100000 in
theorem xl_X12_land_211 (d : Nat) (l1 : Int) (C : xC) : xw_X12_land d (211, [some (.inr (.inr (.inl (74, 63)))), some (.inl l1)], [], C) =
  cond (decide (5 ≤ l1))
  (xw_X12_land d (236, [some (.inr (.inr (.inl (74, 63)))), some (.inl 0)], [], C))
  (cond (xix l1 5)
    (cond (xix l1 5 && xna 2 (C (C 74 30).toNat ((l1).toNat)))
      (xw_X12_land d (211, [some (.inr (.inr (.inl (74, 63)))), some (.inl (w32 (l1 + 1)))], [], (xst C (C 74 37).toNat (l1).toNat (C (C 74 30).toNat ((l1).toNat)))))
      none)
    none) := by
  refine (xgoL_fix ?_).trans ?_
  · with_unfolding_all rfl
  · with_unfolding_all rfl
set_option maxRecDepth 100000 in
theorem xl_X12_land_236 (d : Nat) (l1 : Int) (C : xC) : xw_X12_land d (236, [some (.inr (.inr (.inl (74, 63)))), some (.inl l1)], [], C) =
  cond (decide (4 ≤ l1))
  (xw_X12_land d (273, [some (.inr (.inr (.inl (74, 63)))), some (.inl 0)], [], C))
  (cond (xix l1 4)
    (cond (xix l1 4 && xna 2 (C (C 74 31).toNat ((l1).toNat)))
      (cond (xix l1 4)
        (cond (xix l1 4 && xna 2 ((xst C (C 74 38).toNat (l1).toNat (C (C 74 31).toNat ((l1).toNat))) ((xst C (C 74 38).toNat (l1).toNat (C (C 74 31).toNat ((l1).toNat))) 74 32).toNat ((l1).toNat)))
          (xw_X12_land d (236, [some (.inr (.inr (.inl (74, 63)))), some (.inl (w32 (l1 + 1)))], [], (xst (xst C (C 74 38).toNat (l1).toNat (C (C 74 31).toNat ((l1).toNat))) ((xst C (C 74 38).toNat (l1).toNat (C (C 74 31).toNat ((l1).toNat))) 74 39).toNat (l1).toNat ((xst C (C 74 38).toNat (l1).toNat (C (C 74 31).toNat ((l1).toNat))) ((xst C (C 74 38).toNat (l1).toNat (C (C 74 31).toNat ((l1).toNat))) 74 32).toNat ((l1).toNat)))))
          none)
        none)
      none)
    none) := by
  refine (xgoL_fix ?_).trans ?_
  · with_unfolding_all rfl
  · with_unfolding_all rfl
set_option maxRecDepth 100000 in
theorem xl_X12_land_273 (d : Nat) (l1 : Int) (C : xC) : xw_X12_land d (273, [some (.inr (.inr (.inl (74, 63)))), some (.inl l1)], [], C) =
  cond (decide (11 ≤ l1))
  (xw_X12_land d (299, [some (.inr (.inr (.inl (74, 63)))), some (.inl 0)], [], C))
  (cond (xix l1 11)
    (cond (xix l1 11 && xna 2 (C (C 74 33).toNat ((l1).toNat)))
      (xw_X12_land d (273, [some (.inr (.inr (.inl (74, 63)))), some (.inl (w32 (l1 + 1)))], [], (xst C (C 74 40).toNat (l1).toNat (C (C 74 33).toNat ((l1).toNat)))))
      none)
    none) := by
  refine (xgoL_fix ?_).trans ?_
  · with_unfolding_all rfl
  · with_unfolding_all rfl
set_option maxRecDepth 100000 in
theorem xl_X12_land_299 (d : Nat) (l1 : Int) (C : xC) : xw_X12_land d (299, [some (.inr (.inr (.inl (74, 63)))), some (.inl l1)], [], C) =
  cond (decide (44 ≤ l1))
  ((xM d 202 [.inr (.inr (.inl (74, 63)))] C).bind fun q1 =>
    (xM d 201 [.inr (.inr (.inl (74, 63)))] q1.2).bind fun q2 =>
      cond (xix 14 16 && xna 2 0)
        (cond (xix 15 16 && xna 2 0)
          (xw_X12_land d (369, [some (.inr (.inr (.inl (74, 63)))), some (.inl 0)], [], (xst (xst (xst (xst (xst (xst q2.2 (q2.2 74 69).toNat 14 0) ((xst q2.2 (q2.2 74 69).toNat 14 0) 74 69).toNat 15 0) 74 73 0) 74 74 0) 74 98 0) 74 85 0)))
          none)
        none)
  (cond (xix l1 44)
    (cond (xix l1 44 && xna 2 (C (C 74 34).toNat ((l1).toNat)))
      (xw_X12_land d (299, [some (.inr (.inr (.inl (74, 63)))), some (.inl (w32 (l1 + 1)))], [], (xst C (C 74 41).toNat (l1).toNat (C (C 74 34).toNat ((l1).toNat)))))
      none)
    none) := by
  refine (xgoL_fix ?_).trans ?_
  · with_unfolding_all rfl
  · with_unfolding_all rfl
set_option maxRecDepth 100000 in
theorem xl_X12_land_369 (d : Nat) (l1 : Int) (C : xC) : xw_X12_land d (369, [some (.inr (.inr (.inl (74, 63)))), some (.inl l1)], [], C) =
  cond (decide (3 ≤ l1))
  (some (C 74 49, C))
  (cond (xix l1 3 && xna 1 0)
    (xw_X12_land d (369, [some (.inr (.inr (.inl (74, 63)))), some (.inl (w32 (l1 + 1)))], [], (xst C (C 74 101).toNat (l1).toNat 0)))
    none) := by
  refine (xgoL_fix ?_).trans ?_
  · with_unfolding_all rfl
  · with_unfolding_all rfl
