/-! The reference’s evaluators, method by method: printed by a program. -/
noncomputable abbrev xw_X12_fullest (d : Nat) : xCf → Option (Int × xC) := xgoL zC_X12_fullest (xM d) (xstop 266) 1
set_option maxRecDepth 100000 in
theorem xm_X12_fullest (d : Nat) (a1 : Int) (C : xC) : xM (d + 1) 266 [.inr (.inr (.inl (74, 63))), .inl a1] C =
  xw_X12_fullest d (4, [some (.inr (.inr (.inl (74, 63)))), some (.inl a1), some (.inl 0), some (.inl 0)], [], C) := by
  rw [xM_fix (nL := 4) (rk := 1) (cd := zC_X12_fullest) rfl rfl rfl rfl]
  with_unfolding_all rfl
set_option maxRecDepth 100000 in
theorem xl_X12_fullest_4 (d : Nat) (l1 : Int) (l2 : Int) (l3 : Int) (C : xC) : xw_X12_fullest d (4, [some (.inr (.inr (.inl (74, 63)))), some (.inl l1), some (.inl l2), some (.inl l3)], [], C) =
  cond (decide (1000 ≤ l3))
  (some (l2, C))
  (cond (xix (w32 ((w32 (1000 * l1)) + l3)) 6000)
    (cond (decide (C (C 74 100).toNat ((w32 ((w32 (1000 * l1)) + l3)).toNat) ≤ l2))
      (xw_X12_fullest d (4, [some (.inr (.inr (.inl (74, 63)))), some (.inl l1), some (.inl l2), some (.inl (w32 (l3 + 1)))], [], C))
      (cond (xix (w32 ((w32 (1000 * l1)) + l3)) 6000)
        (xw_X12_fullest d (4, [some (.inr (.inr (.inl (74, 63)))), some (.inl l1), some (.inl (C (C 74 100).toNat ((w32 ((w32 (1000 * l1)) + l3)).toNat))), some (.inl (w32 (l3 + 1)))], [], C))
        none))
    none) := by
  refine (xgoL_fix ?_).trans ?_
  · with_unfolding_all rfl
  · with_unfolding_all rfl
noncomputable abbrev xw_X12_ask (d : Nat) : xCf → Option (Int × xC) := xgoL zC_X12_ask (xM d) (xstop 267) 1
set_option maxRecDepth 100000 in
theorem xm_X12_ask (d : Nat) (a1 : Int) (a2 : Int) (a3 : Int) (C : xC) : xM (d + 1) 267 [.inr (.inr (.inl (74, 63))), .inl a1, .inl a2, .inl a3] C =
  (xM d 196 [.inl a1, .inl 0, .inl 60] C).bind fun q1 =>
  cond (decide (q1.1 = 0))
    (some ((-1), q1.2))
    ((xM d 196 [.inl a2, .inl 0, .inl 1] q1.2).bind fun q2 =>
      cond (decide (q2.1 = 0))
        (some ((-1), q2.2))
        (cond (decide (q2.2 74 49 ≠ 0))
          ((xM d 250 [.inr (.inr (.inl (74, 63)))] q2.2).bind fun q3 =>
            cond (decide (0 ≤ q3.1))
              (xw_X12_ask d (41, [some (.inr (.inr (.inl (74, 63)))), some (.inl a1), some (.inl a2), some (.inl a3), some (.inl 0), none, none], [], q3.2))
              (some ((-2), q3.2)))
          (some ((-1), q2.2)))) := by
  rw [xM_fix (nL := 7) (rk := 1) (cd := zC_X12_ask) rfl rfl rfl rfl]
  with_unfolding_all rfl
set_option maxRecDepth 100000 in
theorem xl_X12_ask_41 (d : Nat) (l1 : Int) (l2 : Int) (l3 : Int) (l4 : Int) (C : xC) : xw_X12_ask d (41, [some (.inr (.inr (.inl (74, 63)))), some (.inl l1), some (.inl l2), some (.inl l3), some (.inl l4), none, none], [], C) =
  cond (decide (6000 ≤ l4))
  (xw_X12_ask d (69, [some (.inr (.inr (.inl (74, 63)))), some (.inl l1), some (.inl l2), some (.inl l3), some (.inl 0), some (.inl 0), none], [], C))
  (cond (xix l4 6000 && xna 2 0)
    (xw_X12_ask d (41, [some (.inr (.inr (.inl (74, 63)))), some (.inl l1), some (.inl l2), some (.inl l3), some (.inl (w32 (l4 + 1))), none, none], [], (xst C (C 74 100).toNat (l4).toNat 0)))
    none) := by
  refine (xgoL_fix ?_).trans ?_
  · with_unfolding_all rfl
  · with_unfolding_all rfl
set_option maxRecDepth 100000 in
theorem xl_X12_ask_69 (d : Nat) (l1 : Int) (l2 : Int) (l3 : Int) (l4 : Int) (l5 : Int) (o6 : Option xV) (C : xC) : xw_X12_ask d (69, [some (.inr (.inr (.inl (74, 63)))), some (.inl l1), some (.inl l2), some (.inl l3), some (.inl l4), some (.inl l5), o6], [], C) =
  (xM d 250 [.inr (.inr (.inl (74, 63)))] C).bind fun q1 =>
  cond (decide (q1.1 ≤ l5))
    (cond (decide (l4 ≠ 0))
      (xw_X12_ask d (169, [some (.inr (.inr (.inl (74, 63)))), some (.inl l1), some (.inl l2), some (.inl l3), some (.inl l4), some (.inl 0), some (.inl 1)], [], q1.2))
      (some ((-1), q1.2)))
    ((xM d 263 [.inr (.inr (.inl (74, 63))), .inl l5, .inl l3] q1.2).bind fun q2 =>
      cond (decide (q2.1 ≠ 0))
        ((xM d 202 [.inr (.inr (.inl (74, 63)))] q2.2).bind fun q3 =>
          (xM d 251 [.inr (.inr (.inl (74, 63))), .inl l5] q3.2).bind fun q4 =>
            (xM d 209 [.inr (.inr (.inl (74, 63))), .inl l1] q4.2).bind fun q5 =>
              xw_X12_ask d (112, [some (.inr (.inr (.inl (74, 63)))), some (.inl l1), some (.inl l2), some (.inl l3), some (.inl (w32 (l4 + 1))), some (.inl l5), some (.inl 0)], [], q5.2))
        (xw_X12_ask d (69, [some (.inr (.inr (.inl (74, 63)))), some (.inl l1), some (.inl l2), some (.inl l3), some (.inl l4), some (.inl (w32 (l5 + 1))), o6], [], q2.2))) := by
  refine (xgoL_fix ?_).trans ?_
  · with_unfolding_all rfl
  · with_unfolding_all rfl
set_option maxRecDepth 100000 in
theorem xl_X12_ask_112 (d : Nat) (l1 : Int) (l2 : Int) (l3 : Int) (l4 : Int) (l5 : Int) (l6 : Int) (C : xC) : xw_X12_ask d (112, [some (.inr (.inr (.inl (74, 63)))), some (.inl l1), some (.inl l2), some (.inl l3), some (.inl l4), some (.inl l5), some (.inl l6)], [], C) =
  cond (decide (C 74 49 ≤ l6))
  (xw_X12_ask d (69, [some (.inr (.inr (.inl (74, 63)))), some (.inl l1), some (.inl l2), some (.inl l3), some (.inl l4), some (.inl (w32 (l5 + 1))), some (.inl l6)], [], C))
  (cond (xix l6 6)
    (cond (xix (w32 ((w32 (1000 * l6)) + (C (C 74 62).toNat ((l6).toNat)))) 6000)
      (cond (xix (w32 ((w32 (1000 * l6)) + (C (C 74 62).toNat ((l6).toNat)))) 6000 && xna 2 (w32 ((C (C 74 100).toNat ((w32 ((w32 (1000 * l6)) + (C (C 74 62).toNat ((l6).toNat)))).toNat)) + 1)))
        (xw_X12_ask d (112, [some (.inr (.inr (.inl (74, 63)))), some (.inl l1), some (.inl l2), some (.inl l3), some (.inl l4), some (.inl l5), some (.inl (w32 (l6 + 1)))], [], (xst C (C 74 100).toNat (w32 ((w32 (1000 * l6)) + (C (C 74 62).toNat ((l6).toNat)))).toNat (w32 ((C (C 74 100).toNat ((w32 ((w32 (1000 * l6)) + (C (C 74 62).toNat ((l6).toNat)))).toNat)) + 1)))))
        none)
      none)
    none) := by
  refine (xgoL_fix ?_).trans ?_
  · with_unfolding_all rfl
  · with_unfolding_all rfl
set_option maxRecDepth 100000 in
theorem xl_X12_ask_169 (d : Nat) (l1 : Int) (l2 : Int) (l3 : Int) (l4 : Int) (l5 : Int) (l6 : Int) (C : xC) : xw_X12_ask d (169, [some (.inr (.inr (.inl (74, 63)))), some (.inl l1), some (.inl l2), some (.inl l3), some (.inl l4), some (.inl l5), some (.inl l6)], [], C) =
  cond (decide (C 74 49 ≤ l6))
  (cond (decide (l2 ≠ 0))
    ((xM d 266 [.inr (.inr (.inl (74, 63))), .inl l5] C).bind fun q1 =>
      some (q1.1, q1.2))
    (some (l5, C)))
  ((xM d 266 [.inr (.inr (.inl (74, 63))), .inl l6] C).bind fun q2 =>
    (xM d 266 [.inr (.inr (.inl (74, 63))), .inl l5] q2.2).bind fun q3 =>
      cond (decide (q3.1 ≤ q2.1))
        (xw_X12_ask d (169, [some (.inr (.inr (.inl (74, 63)))), some (.inl l1), some (.inl l2), some (.inl l3), some (.inl l4), some (.inl l5), some (.inl (w32 (l6 + 1)))], [], q3.2))
        (xw_X12_ask d (169, [some (.inr (.inr (.inl (74, 63)))), some (.inl l1), some (.inl l2), some (.inl l3), some (.inl l4), some (.inl l6), some (.inl (w32 (l6 + 1)))], [], q3.2))) := by
  refine (xgoL_fix ?_).trans ?_
  · with_unfolding_all rfl
  · with_unfolding_all rfl
