/-! The evaluators, method by method: printed by a program. -/
set_option maxRecDepth 100000 in
theorem xm_X7_resting (d : Nat) (a1 : Int) (C : xC) : xM (d + 1) 59 [.inr (.inr (.inl (37, 26))), .inl a1] C =
  cond (decide (C 37 4 ≠ 0))
  (some (0, C))
  (cond (xix a1 9)
    (cond (decide (C (C 37 6).toNat ((a1).toNat) ≠ C 37 2))
      (some (0, C))
      (some (1, C)))
    none) := by
  rw [xM_fix (nL := 2) (rk := 1) (cd := zC_X7_resting) rfl rfl rfl rfl]
  with_unfolding_all rfl
set_option maxRecDepth 100000 in
theorem xm_X7_acting (d : Nat) (a1 : Int) (C : xC) : xM (d + 1) 60 [.inr (.inr (.inl (37, 26))), .inl a1] C =
  (xM d 59 [.inr (.inr (.inl (37, 26))), .inl a1] C).bind fun q1 =>
  cond (decide (q1.1 ≠ 0))
    (some (0, q1.2))
    ((xM d 61 [.inr (.inr (.inl (37, 26))), .inl (w32 (0 + a1))] q1.2).bind fun q2 =>
      cond (decide (q2.1 = 0))
        (some (0, q2.2))
        (some (1, q2.2))) := by
  rw [xM_fix (nL := 2) (rk := 1) (cd := zC_X7_acting) rfl rfl rfl rfl]
  with_unfolding_all rfl
noncomputable abbrev xw_X7_perform (d : Nat) : xCf → Option (Int × xC) := xgoL zC_X7_perform (xM d) (xstop 62) 0
set_option maxRecDepth 100000 in
theorem xm_X7_perform (d : Nat) (a1 : Int) (C : xC) : xM (d + 1) 62 [.inr (.inr (.inl (37, 26))), .inl a1] C =
  cond (xix a1 11)
  (xw_X7_perform d (12, [some (.inr (.inr (.inl (37, 26)))), some (.inl a1), some (.inl (C (C (C 37 0).toNat 9).toNat ((a1).toNat))), some (.inl 0), none, none, none], [], C))
  none := by
  rw [xM_fix (nL := 7) (rk := 0) (cd := zC_X7_perform) rfl rfl rfl rfl]
  with_unfolding_all rfl
set_option maxRecDepth 100000 in
theorem xl_X7_perform_12 (d : Nat) (l1 : Int) (l2 : Int) (l3 : Int) (o4 : Option xV) (o5 : Option xV) (o6 : Option xV) (C : xC) : xw_X7_perform d (12, [some (.inr (.inr (.inl (37, 26)))), some (.inl l1), some (.inl l2), some (.inl l3), o4, o5, o6], [], C) =
  cond (decide (l2 ≤ l3))
  (some (0, C))
  (cond (xix (w32 ((w32 (l1 * 4)) + l3)) 44)
    ((xM d 61 [.inr (.inr (.inl (37, 26))), .inl (w32 (21 + (w32 ((w32 (l1 * 4)) + l3))))] C).bind fun q1 =>
      cond (xix (C (C (C 37 0).toNat 10).toNat ((w32 ((w32 (l1 * 4)) + l3)).toNat)) 6)
        (cond (xix (C (C (C 37 0).toNat 10).toNat ((w32 ((w32 (l1 * 4)) + l3)).toNat)) 6 && xna 2 (max 0 (min (q1.1) (q1.2 (q1.2 (q1.2 37 0).toNat 6).toNat ((C (C (C 37 0).toNat 10).toNat ((w32 ((w32 (l1 * 4)) + l3)).toNat)).toNat)))))
          (xw_X7_perform d (12, [some (.inr (.inr (.inl (37, 26)))), some (.inl l1), some (.inl l2), some (.inl (w32 (l3 + 1))), some (.inl (w32 ((w32 (l1 * 4)) + l3))), some (.inl (C (C (C 37 0).toNat 10).toNat ((w32 ((w32 (l1 * 4)) + l3)).toNat))), some (.inl (q1.1))], [], (xst q1.2 (q1.2 37 5).toNat (C (C (C 37 0).toNat 10).toNat ((w32 ((w32 (l1 * 4)) + l3)).toNat)).toNat (max 0 (min (q1.1) (q1.2 (q1.2 (q1.2 37 0).toNat 6).toNat ((C (C (C 37 0).toNat 10).toNat ((w32 ((w32 (l1 * 4)) + l3)).toNat)).toNat)))))))
          none)
        none)
    none) := by
  refine (xgoL_fix ?_).trans ?_
  · with_unfolding_all rfl
  · with_unfolding_all rfl
noncomputable abbrev xw_X7_takeTurns (d : Nat) : xCf → Option (Int × xC) := xgoL zC_X7_takeTurns (xM d) (xstop 64) 0
set_option maxRecDepth 100000 in
theorem xm_X7_takeTurns (d : Nat) (C : xC) : xM (d + 1) 64 [.inr (.inr (.inl (37, 26)))] C =
  xw_X7_takeTurns d (12, [some (.inr (.inr (.inl (37, 26)))), some (.inl (C (C (C 37 0).toNat 4).toNat 1)), some (.inl 0)], [], C) := by
  rw [xM_fix (nL := 3) (rk := 0) (cd := zC_X7_takeTurns) rfl rfl rfl rfl]
  with_unfolding_all rfl
set_option maxRecDepth 100000 in
theorem xl_X7_takeTurns_12 (d : Nat) (l1 : Int) (l2 : Int) (C : xC) : xw_X7_takeTurns d (12, [some (.inr (.inr (.inl (37, 26)))), some (.inl l1), some (.inl l2)], [], C) =
  cond (decide (l1 ≤ l2))
  (some (0, C))
  ((xM d 60 [.inr (.inr (.inl (37, 26))), .inl l2] C).bind fun q1 =>
    cond (decide (q1.1 = 0))
      (xw_X7_takeTurns d (12, [some (.inr (.inr (.inl (37, 26)))), some (.inl l1), some (.inl (w32 (l2 + 1)))], [], q1.2))
      ((xM d 62 [.inr (.inr (.inl (37, 26))), .inl l2] q1.2).bind fun q2 =>
        xw_X7_takeTurns d (12, [some (.inr (.inr (.inl (37, 26)))), some (.inl l1), some (.inl (w32 (l2 + 1)))], [], q2.2))) := by
  refine (xgoL_fix ?_).trans ?_
  · with_unfolding_all rfl
  · with_unfolding_all rfl
set_option maxRecDepth 100000 in
theorem xm_X7_tick (d : Nat) (C : xC) : xM (d + 1) 66 [.inr (.inr (.inl (37, 26)))] C =
  cond (decide ((xst C 37 3 (w32 ((C 37 3) + 1))) (C 37 0).toNat 1 ≤ w32 ((C 37 3) + 1)))
  (cond (decide (C 37 4 = 0))
    (cond (decide (C 37 1 ≤ w32 ((C 37 2) + 1)))
      (some (0, (xst (xst (xst C 37 3 (w32 ((C 37 3) + 1))) 37 3 0) 37 2 0)))
      (some (0, (xst (xst (xst C 37 3 (w32 ((C 37 3) + 1))) 37 3 0) 37 2 (w32 ((C 37 2) + 1))))))
    (some (0, (xst (xst (xst C 37 3 (w32 ((C 37 3) + 1))) 37 3 0) 37 4 0))))
  (some (0, (xst C 37 3 (w32 ((C 37 3) + 1))))) := by
  rw [xM_fix (nL := 1) (rk := 0) (cd := zC_X7_tick) rfl rfl rfl rfl]
  with_unfolding_all rfl
noncomputable abbrev xw_X7_pass (d : Nat) : xCf → Option (Int × xC) := xgoL zC_X7_pass (xM d) (xstop 67) 0
set_option maxRecDepth 100000 in
theorem xm_X7_pass (d : Nat) (a1 : Int) (C : xC) : xM (d + 1) 67 [.inr (.inr (.inl (37, 26))), .inl a1] C =
  xw_X7_pass d (2, [some (.inr (.inr (.inl (37, 26)))), some (.inl a1), some (.inl 0)], [], C) := by
  rw [xM_fix (nL := 3) (rk := 0) (cd := zC_X7_pass) rfl rfl rfl rfl]
  with_unfolding_all rfl
set_option maxRecDepth 100000 in
theorem xl_X7_pass_2 (d : Nat) (l1 : Int) (l2 : Int) (C : xC) : xw_X7_pass d (2, [some (.inr (.inr (.inl (37, 26)))), some (.inl l1), some (.inl l2)], [], C) =
  cond (decide (l1 ≤ l2))
  (some (0, C))
  ((xM d 64 [.inr (.inr (.inl (37, 26)))] C).bind fun q1 =>
    (xM d 66 [.inr (.inr (.inl (37, 26)))] q1.2).bind fun q2 =>
      xw_X7_pass d (2, [some (.inr (.inr (.inl (37, 26)))), some (.inl l1), some (.inl (w32 (l2 + 1)))], [], q2.2)) := by
  refine (xgoL_fix ?_).trans ?_
  · with_unfolding_all rfl
  · with_unfolding_all rfl
noncomputable abbrev xw_X7_begin (d : Nat) : xCf → Option (Int × xC) := xgoL zC_X7_begin (xM d) (xstop 55) 0
set_option maxRecDepth 100000 in
theorem xm_X7_begin (d : Nat) (r1 : Nat) (C : xC) : xM (d + 1) 55 [.inr (.inr (.inl (70, 59))), .inr (.inr (.inl (r1, 2)))] C =
  xw_X7_begin d (30, [some (.inr (.inr (.inl (70, 59)))), some (.inr (.inr (.inl (r1, 2)))), some (.inl 0)], [], (xst (xst (xst (xst (xst C 70 0 (Int.ofNat r1)) 70 1 ((xst C 70 0 (Int.ofNat r1)) r1 0)) 70 2 0) 70 3 0) 70 4 0)) := by
  rw [xM_fix (nL := 3) (rk := 0) (cd := zC_X7_begin) rfl rfl rfl rfl]
  with_unfolding_all rfl
set_option maxRecDepth 100000 in
theorem xl_X7_begin_30 (d : Nat) (r1 : Nat) (l2 : Int) (C : xC) : xw_X7_begin d (30, [some (.inr (.inr (.inl (70, 59)))), some (.inr (.inr (.inl (r1, 2)))), some (.inl l2)], [], C) =
  cond (decide (6 ≤ l2))
  (xw_X7_begin d (56, [some (.inr (.inr (.inl (70, 59)))), some (.inr (.inr (.inl (r1, 2)))), some (.inl 0)], [], C))
  (cond (xix l2 6)
    (cond (xix l2 6 && xna 2 (C (C r1 5).toNat ((l2).toNat)))
      (xw_X7_begin d (30, [some (.inr (.inr (.inl (70, 59)))), some (.inr (.inr (.inl (r1, 2)))), some (.inl (w32 (l2 + 1)))], [], (xst C (C 70 5).toNat (l2).toNat (C (C r1 5).toNat ((l2).toNat)))))
      none)
    none) := by
  refine (xgoL_fix ?_).trans ?_
  · with_unfolding_all rfl
  · with_unfolding_all rfl
set_option maxRecDepth 100000 in
theorem xl_X7_begin_56 (d : Nat) (r1 : Nat) (l2 : Int) (C : xC) : xw_X7_begin d (56, [some (.inr (.inr (.inl (70, 59)))), some (.inr (.inr (.inl (r1, 2)))), some (.inl l2)], [], C) =
  cond (decide (9 ≤ l2))
  (some (0, C))
  (cond (xix l2 9)
    (cond (xix l2 9 && xna 2 (C (C r1 7).toNat ((l2).toNat)))
      (xw_X7_begin d (56, [some (.inr (.inr (.inl (70, 59)))), some (.inr (.inr (.inl (r1, 2)))), some (.inl (w32 (l2 + 1)))], [], (xst C (C 70 6).toNat (l2).toNat (C (C r1 7).toNat ((l2).toNat)))))
      none)
    none) := by
  refine (xgoL_fix ?_).trans ?_
  · with_unfolding_all rfl
  · with_unfolding_all rfl
set_option maxRecDepth 100000 in
theorem xm_X7_copy (d : Nat) (r1 : Nat) (C : xC) : xM (d + 1) 56 [.inr (.inr (.inl (37, 26))), .inr (.inr (.inl (r1, 59)))] C =
  (cond (decide ((xst (xst (xst (xst C 37 0 (Int.ofNat ((C r1 0).toNat))) 37 1 ((xst C 37 0 (Int.ofNat ((C r1 0).toNat))) r1 1)) 37 2 ((xst (xst C 37 0 (Int.ofNat ((C r1 0).toNat))) 37 1 ((xst C 37 0 (Int.ofNat ((C r1 0).toNat))) r1 1)) r1 2)) 37 3 ((xst (xst (xst C 37 0 (Int.ofNat ((C r1 0).toNat))) 37 1 ((xst C 37 0 (Int.ofNat ((C r1 0).toNat))) r1 1)) 37 2 ((xst (xst C 37 0 (Int.ofNat ((C r1 0).toNat))) 37 1 ((xst C 37 0 (Int.ofNat ((C r1 0).toNat))) r1 1)) r1 2)) r1 3)) r1 4 = 0) || decide ((xst (xst (xst (xst C 37 0 (Int.ofNat ((C r1 0).toNat))) 37 1 ((xst C 37 0 (Int.ofNat ((C r1 0).toNat))) r1 1)) 37 2 ((xst (xst C 37 0 (Int.ofNat ((C r1 0).toNat))) 37 1 ((xst C 37 0 (Int.ofNat ((C r1 0).toNat))) r1 1)) r1 2)) 37 3 ((xst (xst (xst C 37 0 (Int.ofNat ((C r1 0).toNat))) 37 1 ((xst C 37 0 (Int.ofNat ((C r1 0).toNat))) r1 1)) 37 2 ((xst (xst C 37 0 (Int.ofNat ((C r1 0).toNat))) 37 1 ((xst C 37 0 (Int.ofNat ((C r1 0).toNat))) r1 1)) r1 2)) r1 3)) r1 4 = 1)) (some ((xst (xst (xst (xst C 37 0 (Int.ofNat ((C r1 0).toNat))) 37 1 ((xst C 37 0 (Int.ofNat ((C r1 0).toNat))) r1 1)) 37 2 ((xst (xst C 37 0 (Int.ofNat ((C r1 0).toNat))) 37 1 ((xst C 37 0 (Int.ofNat ((C r1 0).toNat))) r1 1)) r1 2)) 37 3 ((xst (xst (xst C 37 0 (Int.ofNat ((C r1 0).toNat))) 37 1 ((xst C 37 0 (Int.ofNat ((C r1 0).toNat))) r1 1)) 37 2 ((xst (xst C 37 0 (Int.ofNat ((C r1 0).toNat))) 37 1 ((xst C 37 0 (Int.ofNat ((C r1 0).toNat))) r1 1)) r1 2)) r1 3)) r1 4)) none).bind fun z1 =>
  some (0, (xcp (xcp (xst (xst (xst (xst (xst C 37 0 (Int.ofNat ((C r1 0).toNat))) 37 1 ((xst C 37 0 (Int.ofNat ((C r1 0).toNat))) r1 1)) 37 2 ((xst (xst C 37 0 (Int.ofNat ((C r1 0).toNat))) 37 1 ((xst C 37 0 (Int.ofNat ((C r1 0).toNat))) r1 1)) r1 2)) 37 3 ((xst (xst (xst C 37 0 (Int.ofNat ((C r1 0).toNat))) 37 1 ((xst C 37 0 (Int.ofNat ((C r1 0).toNat))) r1 1)) 37 2 ((xst (xst C 37 0 (Int.ofNat ((C r1 0).toNat))) 37 1 ((xst C 37 0 (Int.ofNat ((C r1 0).toNat))) r1 1)) r1 2)) r1 3)) 37 4 z1) (((xst (xst (xst (xst (xst C 37 0 (Int.ofNat ((C r1 0).toNat))) 37 1 ((xst C 37 0 (Int.ofNat ((C r1 0).toNat))) r1 1)) 37 2 ((xst (xst C 37 0 (Int.ofNat ((C r1 0).toNat))) 37 1 ((xst C 37 0 (Int.ofNat ((C r1 0).toNat))) r1 1)) r1 2)) 37 3 ((xst (xst (xst C 37 0 (Int.ofNat ((C r1 0).toNat))) 37 1 ((xst C 37 0 (Int.ofNat ((C r1 0).toNat))) r1 1)) 37 2 ((xst (xst C 37 0 (Int.ofNat ((C r1 0).toNat))) 37 1 ((xst C 37 0 (Int.ofNat ((C r1 0).toNat))) r1 1)) r1 2)) r1 3)) 37 4 z1) r1 5).toNat) 0 ((C 37 5).toNat) 0 6) (((xcp (xst (xst (xst (xst (xst C 37 0 (Int.ofNat ((C r1 0).toNat))) 37 1 ((xst C 37 0 (Int.ofNat ((C r1 0).toNat))) r1 1)) 37 2 ((xst (xst C 37 0 (Int.ofNat ((C r1 0).toNat))) 37 1 ((xst C 37 0 (Int.ofNat ((C r1 0).toNat))) r1 1)) r1 2)) 37 3 ((xst (xst (xst C 37 0 (Int.ofNat ((C r1 0).toNat))) 37 1 ((xst C 37 0 (Int.ofNat ((C r1 0).toNat))) r1 1)) 37 2 ((xst (xst C 37 0 (Int.ofNat ((C r1 0).toNat))) 37 1 ((xst C 37 0 (Int.ofNat ((C r1 0).toNat))) r1 1)) r1 2)) r1 3)) 37 4 z1) (((xst (xst (xst (xst (xst C 37 0 (Int.ofNat ((C r1 0).toNat))) 37 1 ((xst C 37 0 (Int.ofNat ((C r1 0).toNat))) r1 1)) 37 2 ((xst (xst C 37 0 (Int.ofNat ((C r1 0).toNat))) 37 1 ((xst C 37 0 (Int.ofNat ((C r1 0).toNat))) r1 1)) r1 2)) 37 3 ((xst (xst (xst C 37 0 (Int.ofNat ((C r1 0).toNat))) 37 1 ((xst C 37 0 (Int.ofNat ((C r1 0).toNat))) r1 1)) 37 2 ((xst (xst C 37 0 (Int.ofNat ((C r1 0).toNat))) 37 1 ((xst C 37 0 (Int.ofNat ((C r1 0).toNat))) r1 1)) r1 2)) r1 3)) 37 4 z1) r1 5).toNat) 0 ((C 37 5).toNat) 0 6) r1 6).toNat) 0 (((xcp (xst (xst (xst (xst (xst C 37 0 (Int.ofNat ((C r1 0).toNat))) 37 1 ((xst C 37 0 (Int.ofNat ((C r1 0).toNat))) r1 1)) 37 2 ((xst (xst C 37 0 (Int.ofNat ((C r1 0).toNat))) 37 1 ((xst C 37 0 (Int.ofNat ((C r1 0).toNat))) r1 1)) r1 2)) 37 3 ((xst (xst (xst C 37 0 (Int.ofNat ((C r1 0).toNat))) 37 1 ((xst C 37 0 (Int.ofNat ((C r1 0).toNat))) r1 1)) 37 2 ((xst (xst C 37 0 (Int.ofNat ((C r1 0).toNat))) 37 1 ((xst C 37 0 (Int.ofNat ((C r1 0).toNat))) r1 1)) r1 2)) r1 3)) 37 4 z1) (((xst (xst (xst (xst (xst C 37 0 (Int.ofNat ((C r1 0).toNat))) 37 1 ((xst C 37 0 (Int.ofNat ((C r1 0).toNat))) r1 1)) 37 2 ((xst (xst C 37 0 (Int.ofNat ((C r1 0).toNat))) 37 1 ((xst C 37 0 (Int.ofNat ((C r1 0).toNat))) r1 1)) r1 2)) 37 3 ((xst (xst (xst C 37 0 (Int.ofNat ((C r1 0).toNat))) 37 1 ((xst C 37 0 (Int.ofNat ((C r1 0).toNat))) r1 1)) 37 2 ((xst (xst C 37 0 (Int.ofNat ((C r1 0).toNat))) 37 1 ((xst C 37 0 (Int.ofNat ((C r1 0).toNat))) r1 1)) r1 2)) r1 3)) 37 4 z1) r1 5).toNat) 0 ((C 37 5).toNat) 0 6) 37 6).toNat) 0 9)) := by
  rw [xM_fix (nL := 2) (rk := 0) (cd := zC_X7_copy) rfl rfl rfl rfl]
  with_unfolding_all rfl
noncomputable abbrev xw_X7_startCalendars (d : Nat) : xCf → Option (Int × xC) := xgoL zC_X7_startCalendars (xM d) (xstop 70) 1
set_option maxRecDepth 100000 in
theorem xm_X7_startCalendars (d : Nat) (C : xC) : xM (d + 1) 70 [.inr (.inr (.inl (70, 59)))] C =
  xw_X7_startCalendars d (4, [some (.inr (.inr (.inl (70, 59)))), some (.inl 1), some (.inl 0)], [], C) := by
  rw [xM_fix (nL := 3) (rk := 1) (cd := zC_X7_startCalendars) rfl rfl rfl rfl]
  with_unfolding_all rfl
set_option maxRecDepth 100000 in
theorem xl_X7_startCalendars_4 (d : Nat) (l1 : Int) (l2 : Int) (C : xC) : xw_X7_startCalendars d (4, [some (.inr (.inr (.inl (70, 59)))), some (.inl l1), some (.inl l2)], [], C) =
  cond (decide (C (C (C 70 0).toNat 4).toNat 1 ≤ l2))
  (cond (decide (l1 ≤ 20000))
    (some (l1, C))
    (some ((-2), C)))
  (cond (xix l2 9 && xna 2 0)
    (xw_X7_startCalendars d (4, [some (.inr (.inr (.inl (70, 59)))), some (.inl (w32 (l1 * (C 70 1)))), some (.inl (w32 (l2 + 1)))], [], (xst C (C 70 6).toNat (l2).toNat 0)))
    none) := by
  refine (xgoL_fix ?_).trans ?_
  · with_unfolding_all rfl
  · with_unfolding_all rfl
noncomputable abbrev xw_X7_nextCalendar (d : Nat) : xCf → Option (Int × xC) := xgoL zC_X7_nextCalendar (xM d) (xstop 71) 0
set_option maxRecDepth 100000 in
theorem xm_X7_nextCalendar (d : Nat) (C : xC) : xM (d + 1) 71 [.inr (.inr (.inl (70, 59)))] C =
  xw_X7_nextCalendar d (12, [some (.inr (.inr (.inl (70, 59)))), some (.inl (w32 ((C (C (C 70 0).toNat 4).toNat 1) - 1)))], [], C) := by
  rw [xM_fix (nL := 2) (rk := 0) (cd := zC_X7_nextCalendar) rfl rfl rfl rfl]
  with_unfolding_all rfl
set_option maxRecDepth 100000 in
theorem xl_X7_nextCalendar_12 (d : Nat) (l1 : Int) (C : xC) : xw_X7_nextCalendar d (12, [some (.inr (.inr (.inl (70, 59)))), some (.inl l1)], [], C) =
  cond (decide (l1 < 0))
  (some (0, C))
  (cond (xix l1 9)
    (cond (xix l1 9 && xna 2 (w32 ((C (C 70 6).toNat ((l1).toNat)) + 1)))
      (cond (xix l1 9)
        (cond (decide ((xst C (C 70 6).toNat (l1).toNat (w32 ((C (C 70 6).toNat ((l1).toNat)) + 1))) 70 1 ≤ (xst C (C 70 6).toNat (l1).toNat (w32 ((C (C 70 6).toNat ((l1).toNat)) + 1))) ((xst C (C 70 6).toNat (l1).toNat (w32 ((C (C 70 6).toNat ((l1).toNat)) + 1))) 70 6).toNat ((l1).toNat)))
          (cond (xix l1 9 && xna 2 0)
            (xw_X7_nextCalendar d (12, [some (.inr (.inr (.inl (70, 59)))), some (.inl (w32 (l1 + (-1))))], [], (xst (xst C (C 70 6).toNat (l1).toNat (w32 ((C (C 70 6).toNat ((l1).toNat)) + 1))) ((xst C (C 70 6).toNat (l1).toNat (w32 ((C (C 70 6).toNat ((l1).toNat)) + 1))) 70 6).toNat (l1).toNat 0)))
            none)
          (some (0, (xst C (C 70 6).toNat (l1).toNat (w32 ((C (C 70 6).toNat ((l1).toNat)) + 1))))))
        none)
      none)
    none) := by
  refine (xgoL_fix ?_).trans ?_
  · with_unfolding_all rfl
  · with_unfolding_all rfl
