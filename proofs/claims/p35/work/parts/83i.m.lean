/-! The reference’s evaluators, method by method: printed by a program. -/
set_option maxRecDepth 100000 in
theorem xm_X12_truth (d : Nat) (a0 : Int) (C : xC) : xM (d + 1) 180 [.inl a0] C =
  cond (decide (a0 = 0))
  (some (0, C))
  (some (1, C)) := by
  rw [xM_fix (nL := 1) (rk := 1) (cd := zC_X12_truth) rfl rfl rfl rfl]
  with_unfolding_all rfl
noncomputable abbrev xw_X12_done (d : Nat) : xCf → Option (Int × xC) := xgoL zC_X12_done (xM d) (xstop 181) 1
set_option maxRecDepth 100000 in
theorem xm_X12_done (d : Nat) (a0 : Int) (a1 : Int) (a2 : Int) (C : xC) : xM (d + 1) 181 [.inl a0, .inl a1, .inl a2] C =
  cond (decide (a0 = 37))
  (xw_X12_done d (144, [some (.inl a0), some (.inl a1), some (.inl a2)], [], C))
  (cond (decide (a0 = 38))
  (xw_X12_done d (198, [some (.inl a0), some (.inl a1), some (.inl a2)], [], C))
  (cond (decide (a0 = 39))
  (xw_X12_done d (215, [some (.inl a0), some (.inl a1), some (.inl a2)], [], C))
  (cond (decide (a0 = 40))
  (xw_X12_done d (215, [some (.inl a0), some (.inl a1), some (.inl a2)], [], C))
  (cond (decide (a0 = 41))
  (xw_X12_done d (215, [some (.inl a0), some (.inl a1), some (.inl a2)], [], C))
  (cond (decide (a0 = 42))
  (xw_X12_done d (128, [some (.inl a0), some (.inl a1), some (.inl a2)], [], C))
  (cond (decide (a0 = 43))
  (xw_X12_done d (120, [some (.inl a0), some (.inl a1), some (.inl a2)], [], C))
  (cond (decide (a0 = 44))
  (xw_X12_done d (215, [some (.inl a0), some (.inl a1), some (.inl a2)], [], C))
  (cond (decide (a0 = 45))
  (xw_X12_done d (124, [some (.inl a0), some (.inl a1), some (.inl a2)], [], C))
  (cond (decide (a0 = 46))
  (xw_X12_done d (215, [some (.inl a0), some (.inl a1), some (.inl a2)], [], C))
  (cond (decide (a0 = 47))
  (xw_X12_done d (132, [some (.inl a0), some (.inl a1), some (.inl a2)], [], C))
  (cond (decide (a0 = 48))
  (xw_X12_done d (215, [some (.inl a0), some (.inl a1), some (.inl a2)], [], C))
  (cond (decide (a0 = 49))
  (xw_X12_done d (215, [some (.inl a0), some (.inl a1), some (.inl a2)], [], C))
  (cond (decide (a0 = 50))
  (xw_X12_done d (215, [some (.inl a0), some (.inl a1), some (.inl a2)], [], C))
  (cond (decide (a0 = 51))
  (xw_X12_done d (215, [some (.inl a0), some (.inl a1), some (.inl a2)], [], C))
  (cond (decide (a0 = 52))
  (xw_X12_done d (215, [some (.inl a0), some (.inl a1), some (.inl a2)], [], C))
  (cond (decide (a0 = 53))
  (xw_X12_done d (215, [some (.inl a0), some (.inl a1), some (.inl a2)], [], C))
  (cond (decide (a0 = 54))
  (xw_X12_done d (215, [some (.inl a0), some (.inl a1), some (.inl a2)], [], C))
  (cond (decide (a0 = 55))
  (xw_X12_done d (215, [some (.inl a0), some (.inl a1), some (.inl a2)], [], C))
  (cond (decide (a0 = 56))
  (xw_X12_done d (215, [some (.inl a0), some (.inl a1), some (.inl a2)], [], C))
  (cond (decide (a0 = 57))
  (xw_X12_done d (215, [some (.inl a0), some (.inl a1), some (.inl a2)], [], C))
  (cond (decide (a0 = 58))
  (xw_X12_done d (215, [some (.inl a0), some (.inl a1), some (.inl a2)], [], C))
  (cond (decide (a0 = 59))
  (xw_X12_done d (215, [some (.inl a0), some (.inl a1), some (.inl a2)], [], C))
  (cond (decide (a0 = 60))
  (xw_X12_done d (156, [some (.inl a0), some (.inl a1), some (.inl a2)], [], C))
  (cond (decide (a0 = 61))
  (xw_X12_done d (184, [some (.inl a0), some (.inl a1), some (.inl a2)], [], C))
  (cond (decide (a0 = 62))
  (xw_X12_done d (170, [some (.inl a0), some (.inl a1), some (.inl a2)], [], C))
  (xw_X12_done d (215, [some (.inl a0), some (.inl a1), some (.inl a2)], [], C))))))))))))))))))))))))))) := by
  rw [xM_fix (nL := 3) (rk := 1) (cd := zC_X12_done) rfl rfl rfl rfl]
  with_unfolding_all rfl
set_option maxRecDepth 100000 in
theorem xl_X12_done_120 (d : Nat) (l0 : Int) (l1 : Int) (l2 : Int) (C : xC) : xw_X12_done d (120, [some (.inl l0), some (.inl l1), some (.inl l2)], [], C) =
  some (w32 (l1 + l2), C) := by
  refine (xgoL_fix ?_).trans ?_
  · with_unfolding_all rfl
  · with_unfolding_all rfl
set_option maxRecDepth 100000 in
theorem xl_X12_done_124 (d : Nat) (l0 : Int) (l1 : Int) (l2 : Int) (C : xC) : xw_X12_done d (124, [some (.inl l0), some (.inl l1), some (.inl l2)], [], C) =
  some (w32 (l1 - l2), C) := by
  refine (xgoL_fix ?_).trans ?_
  · with_unfolding_all rfl
  · with_unfolding_all rfl
set_option maxRecDepth 100000 in
theorem xl_X12_done_128 (d : Nat) (l0 : Int) (l1 : Int) (l2 : Int) (C : xC) : xw_X12_done d (128, [some (.inl l0), some (.inl l1), some (.inl l2)], [], C) =
  some (w32 (l1 * l2), C) := by
  refine (xgoL_fix ?_).trans ?_
  · with_unfolding_all rfl
  · with_unfolding_all rfl
set_option maxRecDepth 100000 in
theorem xl_X12_done_132 (d : Nat) (l0 : Int) (l1 : Int) (l2 : Int) (C : xC) : xw_X12_done d (132, [some (.inl l0), some (.inl l1), some (.inl l2)], [], C) =
  cond (decide (l2 ≠ 0))
  (cond (decide (l2 = 0)) none
    (some (x32 (· / ·) l1 l2, C)))
  (some (0, C)) := by
  refine (xgoL_fix ?_).trans ?_
  · with_unfolding_all rfl
  · with_unfolding_all rfl
set_option maxRecDepth 100000 in
theorem xl_X12_done_144 (d : Nat) (l0 : Int) (l1 : Int) (l2 : Int) (C : xC) : xw_X12_done d (144, [some (.inl l0), some (.inl l1), some (.inl l2)], [], C) =
  cond (decide (l2 ≠ 0))
  (cond (decide (l2 = 0)) none
    (some (x32 (fun x y => x - x / y * y) l1 l2, C)))
  (some (0, C)) := by
  refine (xgoL_fix ?_).trans ?_
  · with_unfolding_all rfl
  · with_unfolding_all rfl
set_option maxRecDepth 100000 in
theorem xl_X12_done_156 (d : Nat) (l0 : Int) (l1 : Int) (l2 : Int) (C : xC) : xw_X12_done d (156, [some (.inl l0), some (.inl l1), some (.inl l2)], [], C) =
  cond (decide (l2 ≤ l1))
  ((xM d 180 [.inl 0] C).bind fun q1 =>
    some (q1.1, q1.2))
  ((xM d 180 [.inl 1] C).bind fun q2 =>
    some (q2.1, q2.2)) := by
  refine (xgoL_fix ?_).trans ?_
  · with_unfolding_all rfl
  · with_unfolding_all rfl
set_option maxRecDepth 100000 in
theorem xl_X12_done_170 (d : Nat) (l0 : Int) (l1 : Int) (l2 : Int) (C : xC) : xw_X12_done d (170, [some (.inl l0), some (.inl l1), some (.inl l2)], [], C) =
  cond (decide (l1 ≤ l2))
  ((xM d 180 [.inl 0] C).bind fun q1 =>
    some (q1.1, q1.2))
  ((xM d 180 [.inl 1] C).bind fun q2 =>
    some (q2.1, q2.2)) := by
  refine (xgoL_fix ?_).trans ?_
  · with_unfolding_all rfl
  · with_unfolding_all rfl
set_option maxRecDepth 100000 in
theorem xl_X12_done_184 (d : Nat) (l0 : Int) (l1 : Int) (l2 : Int) (C : xC) : xw_X12_done d (184, [some (.inl l0), some (.inl l1), some (.inl l2)], [], C) =
  cond (decide (l1 ≠ l2))
  ((xM d 180 [.inl 0] C).bind fun q1 =>
    some (q1.1, q1.2))
  ((xM d 180 [.inl 1] C).bind fun q2 =>
    some (q2.1, q2.2)) := by
  refine (xgoL_fix ?_).trans ?_
  · with_unfolding_all rfl
  · with_unfolding_all rfl
set_option maxRecDepth 100000 in
theorem xl_X12_done_198 (d : Nat) (l0 : Int) (l1 : Int) (l2 : Int) (C : xC) : xw_X12_done d (198, [some (.inl l0), some (.inl l1), some (.inl l2)], [], C) =
  cond (decide (l1 = 0))
  ((xM d 180 [.inl 0] C).bind fun q1 =>
    some (q1.1, q1.2))
  (cond (decide (l2 = 0))
    ((xM d 180 [.inl 0] C).bind fun q2 =>
      some (q2.1, q2.2))
    ((xM d 180 [.inl 1] C).bind fun q3 =>
      some (q3.1, q3.2))) := by
  refine (xgoL_fix ?_).trans ?_
  · with_unfolding_all rfl
  · with_unfolding_all rfl
set_option maxRecDepth 100000 in
theorem xl_X12_done_215 (d : Nat) (l0 : Int) (l1 : Int) (l2 : Int) (C : xC) : xw_X12_done d (215, [some (.inl l0), some (.inl l1), some (.inl l2)], [], C) =
  cond (decide (l1 ≠ 0))
  ((xM d 180 [.inl 1] C).bind fun q1 =>
    some (q1.1, q1.2))
  (cond (decide (l2 = 0))
    ((xM d 180 [.inl 0] C).bind fun q2 =>
      some (q2.1, q2.2))
    ((xM d 180 [.inl 1] C).bind fun q3 =>
      some (q3.1, q3.2))) := by
  refine (xgoL_fix ?_).trans ?_
  · with_unfolding_all rfl
  · with_unfolding_all rfl
set_option maxRecDepth 100000 in
theorem xm_X12_askOf (d : Nat) (a1 : Int) (C : xC) : xM (d + 1) 182 [.inr (.inr (.inl (74, 63))), .inl a1] C =
  cond (decide (a1 ≠ 6))
  (cond (decide (a1 ≠ 7))
    (cond (xix a1 6)
      (some (C (C 74 62).toNat ((a1).toNat), C))
      none)
    (some (C 74 65, C)))
  (cond (decide (C 74 68 = 0))
    (some (C 74 64, C))
    (some (C 74 66, C))) := by
  rw [xM_fix (nL := 2) (rk := 1) (cd := zC_X12_askOf) rfl rfl rfl rfl]
  with_unfolding_all rfl
noncomputable abbrev xw_X12_worked (d : Nat) : xCf → Option (Int × xC) := xgoL zC_X12_worked (xM d) (xstop 183) 1
set_option maxRecDepth 100000 in
theorem xm_X12_worked (d : Nat) (a1 : Int) (C : xC) : xM (d + 1) 183 [.inr (.inr (.inl (74, 63))), .inl a1] C =
  cond (xix a1 70)
  (xw_X12_worked d (9, [some (.inr (.inr (.inl (74, 63)))), some (.inl a1), some (.inl 0), some (.inl (C (C 74 17).toNat ((a1).toNat)))], [], C))
  none := by
  rw [xM_fix (nL := 4) (rk := 1) (cd := zC_X12_worked) rfl rfl rfl rfl]
  with_unfolding_all rfl
set_option maxRecDepth 100000 in
theorem xl_X12_worked_9 (d : Nat) (l1 : Int) (l2 : Int) (l3 : Int) (C : xC) : xw_X12_worked d (9, [some (.inr (.inr (.inl (74, 63)))), some (.inl l1), some (.inl l2), some (.inl l3)], [], C) =
  cond (xix l1 70)
  (cond (xix l1 70)
    (cond (decide (w32 ((C (C 74 17).toNat ((l1).toNat)) + (C (C 74 18).toNat ((l1).toNat))) ≤ l3))
      (some (C (C 74 20).toNat 0, C))
      (cond (xix l3 2400)
        (cond (decide (C (C 74 15).toNat ((l3).toNat) = 0))
          (cond (xix l3 2400)
            (cond (decide (C (C 74 15).toNat ((l3).toNat) ≠ 0))
              (cond (xix l3 2400)
                ((xM d 182 [.inr (.inr (.inl (74, 63))), .inl (C (C 74 16).toNat ((l3).toNat))] C).bind fun q1 =>
                  cond (xix l2 64 && xna 2 (q1.1))
                    (xw_X12_worked d (9, [some (.inr (.inr (.inl (74, 63)))), some (.inl l1), some (.inl (w32 (l2 + 1))), some (.inl (w32 (l3 + 1)))], [], (xst q1.2 (C 74 20).toNat (l2).toNat (q1.1))))
                    none)
                none)
              (cond (xix l3 2400)
                (cond (xix l2 64 && xna 2 (C (C 74 16).toNat ((l3).toNat)))
                  (xw_X12_worked d (9, [some (.inr (.inr (.inl (74, 63)))), some (.inl l1), some (.inl (w32 (l2 + 1))), some (.inl (w32 (l3 + 1)))], [], (xst C (C 74 20).toNat (l2).toNat (C (C 74 16).toNat ((l3).toNat)))))
                  none)
                none))
            none)
          (cond (xix l3 2400)
            (cond (decide (C (C 74 15).toNat ((l3).toNat) ≠ 1))
              (cond (xix l3 2400)
                (cond (decide (C (C 74 15).toNat ((l3).toNat) ≠ 2))
                  (cond (xix l3 2400)
                    (cond (xix (w32 ((w32 (l2 + (-1))) - 1)) 64)
                      (cond (xix (w32 (l2 + (-1))) 64)
                        ((xM d 181 [.inl (C (C 74 16).toNat ((l3).toNat)), .inl (C (C 74 20).toNat ((w32 ((w32 (l2 + (-1))) - 1)).toNat)), .inl (C (C 74 20).toNat ((w32 (l2 + (-1))).toNat))] C).bind fun q2 =>
                          cond (xix (w32 ((w32 (l2 + (-1))) - 1)) 64 && xna 2 (q2.1))
                            (xw_X12_worked d (9, [some (.inr (.inr (.inl (74, 63)))), some (.inl l1), some (.inl (w32 (l2 + (-1)))), some (.inl (w32 (l3 + 1)))], [], (xst q2.2 (C 74 20).toNat (w32 ((w32 (l2 + (-1))) - 1)).toNat (q2.1))))
                            none)
                        none)
                      none)
                    none)
                  (cond (xix (w32 (l2 - 1)) 64)
                    (cond (decide (C (C 74 20).toNat ((w32 (l2 - 1)).toNat) ≠ 0))
                      ((xM d 180 [.inl 0] C).bind fun q3 =>
                        cond (xix (w32 (l2 - 1)) 64 && xna 2 (q3.1))
                          (xw_X12_worked d (9, [some (.inr (.inr (.inl (74, 63)))), some (.inl l1), some (.inl l2), some (.inl (w32 (l3 + 1)))], [], (xst q3.2 (C 74 20).toNat (w32 (l2 - 1)).toNat (q3.1))))
                          none)
                      ((xM d 180 [.inl 1] C).bind fun q4 =>
                        cond (xix (w32 (l2 - 1)) 64 && xna 2 (q4.1))
                          (xw_X12_worked d (9, [some (.inr (.inr (.inl (74, 63)))), some (.inl l1), some (.inl l2), some (.inl (w32 (l3 + 1)))], [], (xst q4.2 (C 74 20).toNat (w32 (l2 - 1)).toNat (q4.1))))
                          none))
                    none))
                none)
              (cond (xix l3 2400)
                (cond (decide (C (C 74 15).toNat ((l3).toNat) ≠ 0))
                  (cond (xix l3 2400)
                    ((xM d 182 [.inr (.inr (.inl (74, 63))), .inl (C (C 74 16).toNat ((l3).toNat))] C).bind fun q5 =>
                      cond (xix l2 64 && xna 2 (q5.1))
                        (xw_X12_worked d (9, [some (.inr (.inr (.inl (74, 63)))), some (.inl l1), some (.inl (w32 (l2 + 1))), some (.inl (w32 (l3 + 1)))], [], (xst q5.2 (C 74 20).toNat (l2).toNat (q5.1))))
                        none)
                    none)
                  (cond (xix l3 2400)
                    (cond (xix l2 64 && xna 2 (C (C 74 16).toNat ((l3).toNat)))
                      (xw_X12_worked d (9, [some (.inr (.inr (.inl (74, 63)))), some (.inl l1), some (.inl (w32 (l2 + 1))), some (.inl (w32 (l3 + 1)))], [], (xst C (C 74 20).toNat (l2).toNat (C (C 74 16).toNat ((l3).toNat)))))
                      none)
                    none))
                none))
            none))
        none))
    none)
  none := by
  refine (xgoL_fix ?_).trans ?_
  · with_unfolding_all rfl
  · with_unfolding_all rfl
set_option maxRecDepth 100000 in
theorem xm_X12_doesRest (d : Nat) (a1 : Int) (C : xC) : xM (d + 1) 203 [.inr (.inr (.inl (74, 63))), .inl a1] C =
  cond (decide (C 74 67 < 0))
  (cond (decide (C 74 68 ≠ 0))
    (some (0, C))
    (cond (xix a1 5)
      (cond (decide (C (C 74 63).toNat ((a1).toNat) ≠ C 74 64))
        (some (0, C))
        (some (1, C)))
      none))
  (cond (decide (x32 (· &&& ·) (x32 (fun x y => x >>> (y &&& 31)) (C 74 67) a1) 1 ≠ 1))
    (some (0, C))
    (some (1, C))) := by
  rw [xM_fix (nL := 2) (rk := 1) (cd := zC_X12_doesRest) rfl rfl rfl rfl]
  with_unfolding_all rfl
noncomputable abbrev xw_X12_doSets (d : Nat) : xCf → Option (Int × xC) := xgoL zC_X12_doSets (xM d) (xstop 204) 0
set_option maxRecDepth 100000 in
theorem xm_X12_doSets (d : Nat) (a1 : Int) (C : xC) : xM (d + 1) 204 [.inr (.inr (.inl (74, 63))), .inl a1] C =
  xw_X12_doSets d (2, [some (.inr (.inr (.inl (74, 63)))), some (.inl a1), some (.inl 0), none, none], [], C) := by
  rw [xM_fix (nL := 5) (rk := 0) (cd := zC_X12_doSets) rfl rfl rfl rfl]
  with_unfolding_all rfl
set_option maxRecDepth 100000 in
theorem xl_X12_doSets_2 (d : Nat) (l1 : Int) (l2 : Int) (o3 : Option xV) (o4 : Option xV) (C : xC) : xw_X12_doSets d (2, [some (.inr (.inr (.inl (74, 63)))), some (.inl l1), some (.inl l2), o3, o4], [], C) =
  cond (xix l1 11)
  (cond (decide (C (C 74 40).toNat ((l1).toNat) ≤ l2))
    (some (0, C))
    (cond (xix (w32 ((w32 (4 * l1)) + l2)) 44)
      ((xM d 183 [.inr (.inr (.inl (74, 63))), .inl (w32 ((w32 ((w32 (5 * l1)) + 1)) + l2))] C).bind fun q1 =>
        cond (decide (0 ≤ q1.1))
          (cond (xix (C (C 74 41).toNat ((w32 ((w32 (4 * l1)) + l2)).toNat)) 6)
            (cond (decide (q1.1 ≤ q1.2 (q1.2 74 36).toNat ((C (C 74 41).toNat ((w32 ((w32 (4 * l1)) + l2)).toNat)).toNat)))
              (cond (xix (C (C 74 41).toNat ((w32 ((w32 (4 * l1)) + l2)).toNat)) 6 && xna 2 (q1.1))
                (xw_X12_doSets d (2, [some (.inr (.inr (.inl (74, 63)))), some (.inl l1), some (.inl (w32 (l2 + 1))), some (.inl (C (C 74 41).toNat ((w32 ((w32 (4 * l1)) + l2)).toNat))), some (.inl (q1.1))], [], (xst q1.2 (q1.2 74 62).toNat (C (C 74 41).toNat ((w32 ((w32 (4 * l1)) + l2)).toNat)).toNat (q1.1))))
                none)
              (cond (xix (C (C 74 41).toNat ((w32 ((w32 (4 * l1)) + l2)).toNat)) 6)
                (cond (xix (C (C 74 41).toNat ((w32 ((w32 (4 * l1)) + l2)).toNat)) 6 && xna 2 (q1.2 (q1.2 74 36).toNat ((C (C 74 41).toNat ((w32 ((w32 (4 * l1)) + l2)).toNat)).toNat)))
                  (xw_X12_doSets d (2, [some (.inr (.inr (.inl (74, 63)))), some (.inl l1), some (.inl (w32 (l2 + 1))), some (.inl (C (C 74 41).toNat ((w32 ((w32 (4 * l1)) + l2)).toNat))), some (.inl (q1.1))], [], (xst q1.2 (q1.2 74 62).toNat (C (C 74 41).toNat ((w32 ((w32 (4 * l1)) + l2)).toNat)).toNat (q1.2 (q1.2 74 36).toNat ((C (C 74 41).toNat ((w32 ((w32 (4 * l1)) + l2)).toNat)).toNat)))))
                  none)
                none))
            none)
          (cond (xix (C (C 74 41).toNat ((w32 ((w32 (4 * l1)) + l2)).toNat)) 6 && xna 2 0)
            (xw_X12_doSets d (2, [some (.inr (.inr (.inl (74, 63)))), some (.inl l1), some (.inl (w32 (l2 + 1))), some (.inl (C (C 74 41).toNat ((w32 ((w32 (4 * l1)) + l2)).toNat))), some (.inl (q1.1))], [], (xst q1.2 (q1.2 74 62).toNat (C (C 74 41).toNat ((w32 ((w32 (4 * l1)) + l2)).toNat)).toNat 0)))
            none))
      none))
  none := by
  refine (xgoL_fix ?_).trans ?_
  · with_unfolding_all rfl
  · with_unfolding_all rfl
set_option maxRecDepth 100000 in
theorem xm_X12_doesNow (d : Nat) (a1 : Int) (C : xC) : xM (d + 1) 205 [.inr (.inr (.inl (74, 63))), .inl a1] C =
  (xM d 203 [.inr (.inr (.inl (74, 63))), .inl a1] C).bind fun q1 =>
  cond (decide (q1.1 ≠ 0))
    (some (0, q1.2))
    ((xM d 183 [.inr (.inr (.inl (74, 63))), .inl (w32 (5 * a1))] q1.2).bind fun q2 =>
      cond (decide (q2.1 = 0))
        (some (0, q2.2))
        (some (1, q2.2))) := by
  rw [xM_fix (nL := 2) (rk := 1) (cd := zC_X12_doesNow) rfl rfl rfl rfl]
  with_unfolding_all rfl
noncomputable abbrev xw_X12_doLaws (d : Nat) : xCf → Option (Int × xC) := xgoL zC_X12_doLaws (xM d) (xstop 206) 0
set_option maxRecDepth 100000 in
theorem xm_X12_doLaws (d : Nat) (C : xC) : xM (d + 1) 206 [.inr (.inr (.inl (74, 63)))] C =
  xw_X12_doLaws d (2, [some (.inr (.inr (.inl (74, 63)))), some (.inl 0)], [], C) := by
  rw [xM_fix (nL := 2) (rk := 0) (cd := zC_X12_doLaws) rfl rfl rfl rfl]
  with_unfolding_all rfl
set_option maxRecDepth 100000 in
theorem xl_X12_doLaws_2 (d : Nat) (l1 : Int) (C : xC) : xw_X12_doLaws d (2, [some (.inr (.inr (.inl (74, 63)))), some (.inl l1)], [], C) =
  cond (decide (C 74 50 ≤ l1))
  (some (0, C))
  ((xM d 205 [.inr (.inr (.inl (74, 63))), .inl l1] C).bind fun q1 =>
    cond (decide (q1.1 = 0))
      (xw_X12_doLaws d (2, [some (.inr (.inr (.inl (74, 63)))), some (.inl (w32 (l1 + 1)))], [], q1.2))
      ((xM d 204 [.inr (.inr (.inl (74, 63))), .inl l1] q1.2).bind fun q2 =>
        xw_X12_doLaws d (2, [some (.inr (.inr (.inl (74, 63)))), some (.inl (w32 (l1 + 1)))], [], q2.2))) := by
  refine (xgoL_fix ?_).trans ?_
  · with_unfolding_all rfl
  · with_unfolding_all rfl
set_option maxRecDepth 100000 in
theorem xm_X12_tick (d : Nat) (C : xC) : xM (d + 1) 208 [.inr (.inr (.inl (74, 63)))] C =
  cond (decide (C 74 55 ≤ w32 ((C 74 65) + 1)))
  (cond (decide (C 74 68 ≠ 0))
    (some (0, (xst (xst (xst C 74 65 (w32 ((C 74 65) + 1))) 74 65 0) 74 68 0)))
    (cond (decide (C 74 66 = 0)) none
      (some (0, (xst (xst (xst (xst C 74 65 (w32 ((C 74 65) + 1))) 74 65 0) 74 64 (x32 (fun x y => x - x / y * y) (w32 ((C 74 64) + 1)) (C 74 66))) 74 68 0)))))
  (some (0, (xst C 74 65 (w32 ((C 74 65) + 1))))) := by
  rw [xM_fix (nL := 1) (rk := 0) (cd := zC_X12_tick) rfl rfl rfl rfl]
  with_unfolding_all rfl
noncomputable abbrev xw_X12_goHours (d : Nat) : xCf → Option (Int × xC) := xgoL zC_X12_goHours (xM d) (xstop 209) 0
set_option maxRecDepth 100000 in
theorem xm_X12_goHours (d : Nat) (a1 : Int) (C : xC) : xM (d + 1) 209 [.inr (.inr (.inl (74, 63))), .inl a1] C =
  xw_X12_goHours d (2, [some (.inr (.inr (.inl (74, 63)))), some (.inl a1), some (.inl 0)], [], C) := by
  rw [xM_fix (nL := 3) (rk := 0) (cd := zC_X12_goHours) rfl rfl rfl rfl]
  with_unfolding_all rfl
set_option maxRecDepth 100000 in
theorem xl_X12_goHours_2 (d : Nat) (l1 : Int) (l2 : Int) (C : xC) : xw_X12_goHours d (2, [some (.inr (.inr (.inl (74, 63)))), some (.inl l1), some (.inl l2)], [], C) =
  cond (decide (l1 ≤ l2))
  (some (0, C))
  ((xM d 206 [.inr (.inr (.inl (74, 63)))] C).bind fun q1 =>
    (xM d 208 [.inr (.inr (.inl (74, 63)))] q1.2).bind fun q2 =>
      xw_X12_goHours d (2, [some (.inr (.inr (.inl (74, 63)))), some (.inl l1), some (.inl (w32 (l2 + 1)))], [], q2.2)) := by
  refine (xgoL_fix ?_).trans ?_
  · with_unfolding_all rfl
  · with_unfolding_all rfl
noncomputable abbrev xw_X12_loadTold (d : Nat) : xCf → Option (Int × xC) := xgoL zC_X12_loadTold (xM d) (xstop 202) 0
set_option maxRecDepth 100000 in
theorem xm_X12_loadTold (d : Nat) (C : xC) : xM (d + 1) 202 [.inr (.inr (.inl (74, 63)))] C =
  xw_X12_loadTold d (2, [some (.inr (.inr (.inl (74, 63)))), some (.inl 0)], [], C) := by
  rw [xM_fix (nL := 2) (rk := 0) (cd := zC_X12_loadTold) rfl rfl rfl rfl]
  with_unfolding_all rfl
set_option maxRecDepth 100000 in
theorem xl_X12_loadTold_2 (d : Nat) (l1 : Int) (C : xC) : xw_X12_loadTold d (2, [some (.inr (.inr (.inl (74, 63)))), some (.inl l1)], [], C) =
  cond (decide (6 ≤ l1))
  (xw_X12_loadTold d (28, [some (.inr (.inr (.inl (74, 63)))), some (.inl 0)], [], C))
  (cond (xix l1 6)
    (cond (xix l1 6 && xna 2 (C (C 74 35).toNat ((l1).toNat)))
      (xw_X12_loadTold d (2, [some (.inr (.inr (.inl (74, 63)))), some (.inl (w32 (l1 + 1)))], [], (xst C (C 74 62).toNat (l1).toNat (C (C 74 35).toNat ((l1).toNat)))))
      none)
    none) := by
  refine (xgoL_fix ?_).trans ?_
  · with_unfolding_all rfl
  · with_unfolding_all rfl
set_option maxRecDepth 100000 in
theorem xl_X12_loadTold_28 (d : Nat) (l1 : Int) (C : xC) : xw_X12_loadTold d (28, [some (.inr (.inr (.inl (74, 63)))), some (.inl l1)], [], C) =
  cond (decide (5 ≤ l1))
  (some (0, (xst (xst (xst (xst (xst C 74 64 0) 74 65 0) 74 68 0) 74 66 (C 74 54)) 74 67 (-1))))
  (cond (xix l1 5)
    (cond (xix l1 5 && xna 2 (C (C 74 37).toNat ((l1).toNat)))
      (xw_X12_loadTold d (28, [some (.inr (.inr (.inl (74, 63)))), some (.inl (w32 (l1 + 1)))], [], (xst C (C 74 63).toNat (l1).toNat (C (C 74 37).toNat ((l1).toNat)))))
      none)
    none) := by
  refine (xgoL_fix ?_).trans ?_
  · with_unfolding_all rfl
  · with_unfolding_all rfl
noncomputable abbrev xw_X12_calendars (d : Nat) : xCf → Option (Int × xC) := xgoL zC_X12_calendars (xM d) (xstop 250) 1
set_option maxRecDepth 100000 in
theorem xm_X12_calendars (d : Nat) (C : xC) : xM (d + 1) 250 [.inr (.inr (.inl (74, 63)))] C =
  xw_X12_calendars d (4, [some (.inr (.inr (.inl (74, 63)))), some (.inl 1), some (.inl 0)], [], C) := by
  rw [xM_fix (nL := 3) (rk := 1) (cd := zC_X12_calendars) rfl rfl rfl rfl]
  with_unfolding_all rfl
set_option maxRecDepth 100000 in
theorem xl_X12_calendars_4 (d : Nat) (l1 : Int) (l2 : Int) (C : xC) : xw_X12_calendars d (4, [some (.inr (.inr (.inl (74, 63)))), some (.inl l1), some (.inl l2)], [], C) =
  cond (decide (C 74 50 ≤ l2))
  (cond (decide (l1 ≤ 20000))
    (some (l1, C))
    (some ((-1), C)))
  (xw_X12_calendars d (4, [some (.inr (.inr (.inl (74, 63)))), some (.inl (w32 (l1 * (C 74 54)))), some (.inl (w32 (l2 + 1)))], [], C)) := by
  refine (xgoL_fix ?_).trans ?_
  · with_unfolding_all rfl
  · with_unfolding_all rfl
noncomputable abbrev xw_X12_layCalendar (d : Nat) : xCf → Option (Int × xC) := xgoL zC_X12_layCalendar (xM d) (xstop 251) 0
set_option maxRecDepth 100000 in
theorem xm_X12_layCalendar (d : Nat) (a1 : Int) (C : xC) : xM (d + 1) 251 [.inr (.inr (.inl (74, 63))), .inl a1] C =
  xw_X12_layCalendar d (9, [some (.inr (.inr (.inl (74, 63)))), some (.inl a1), some (.inl a1), some (.inl (w32 ((C 74 50) - 1)))], [], C) := by
  rw [xM_fix (nL := 4) (rk := 0) (cd := zC_X12_layCalendar) rfl rfl rfl rfl]
  with_unfolding_all rfl
set_option maxRecDepth 100000 in
theorem xl_X12_layCalendar_9 (d : Nat) (l1 : Int) (l2 : Int) (l3 : Int) (C : xC) : xw_X12_layCalendar d (9, [some (.inr (.inr (.inl (74, 63)))), some (.inl l1), some (.inl l2), some (.inl l3)], [], C) =
  cond (decide (l3 < 0))
  (some (0, C))
  (cond (decide (C 74 54 = 0)) none
    (cond (xix l3 5 && xna 2 (x32 (fun x y => x - x / y * y) l2 (C 74 54)))
      (cond (decide ((xst C (C 74 63).toNat (l3).toNat (x32 (fun x y => x - x / y * y) l2 (C 74 54))) 74 54 = 0)) none
        (xw_X12_layCalendar d (9, [some (.inr (.inr (.inl (74, 63)))), some (.inl l1), some (.inl (x32 (· / ·) l2 ((xst C (C 74 63).toNat (l3).toNat (x32 (fun x y => x - x / y * y) l2 (C 74 54))) 74 54))), some (.inl (w32 (l3 + (-1))))], [], (xst C (C 74 63).toNat (l3).toNat (x32 (fun x y => x - x / y * y) l2 (C 74 54))))))
      none)) := by
  refine (xgoL_fix ?_).trans ?_
  · with_unfolding_all rfl
  · with_unfolding_all rfl
set_option maxRecDepth 100000 in
theorem xm_X12_counts (d : Nat) (a1 : Int) (a2 : Int) (C : xC) : xM (d + 1) 261 [.inr (.inr (.inl (74, 63))), .inl a1, .inl a2] C =
  cond (xix a1 20)
  (cond (decide (a2 < C (C 74 96).toNat ((a1).toNat)))
    (some (0, C))
    (cond (xix a1 20)
      (cond (decide (C (C 74 97).toNat ((a1).toNat) < 0))
        (some (1, C))
        (cond (xix a1 20)
          (cond (decide (C (C 74 97).toNat ((a1).toNat) ≤ a2))
            (some (0, C))
            (some (1, C)))
          none))
      none))
  none := by
  rw [xM_fix (nL := 3) (rk := 1) (cd := zC_X12_counts) rfl rfl rfl rfl]
  with_unfolding_all rfl
noncomputable abbrev xw_X12_lastHour (d : Nat) : xCf → Option (Int × xC) := xgoL zC_X12_lastHour (xM d) (xstop 262) 1
set_option maxRecDepth 100000 in
theorem xm_X12_lastHour (d : Nat) (a1 : Int) (C : xC) : xM (d + 1) 262 [.inr (.inr (.inl (74, 63))), .inl a1] C =
  xw_X12_lastHour d (4, [some (.inr (.inr (.inl (74, 63)))), some (.inl a1), some (.inl 0), some (.inl 0)], [], C) := by
  rw [xM_fix (nL := 4) (rk := 1) (cd := zC_X12_lastHour) rfl rfl rfl rfl]
  with_unfolding_all rfl
set_option maxRecDepth 100000 in
theorem xl_X12_lastHour_4 (d : Nat) (l1 : Int) (l2 : Int) (l3 : Int) (C : xC) : xw_X12_lastHour d (4, [some (.inr (.inr (.inl (74, 63)))), some (.inl l1), some (.inl l2), some (.inl l3)], [], C) =
  cond (decide (C 74 98 ≤ l3))
  (some (l2, C))
  ((xM d 261 [.inr (.inr (.inl (74, 63))), .inl l3, .inl l1] C).bind fun q1 =>
    cond (decide (q1.1 = 0))
      (xw_X12_lastHour d (4, [some (.inr (.inr (.inl (74, 63)))), some (.inl l1), some (.inl l2), some (.inl (w32 (l3 + 1)))], [], q1.2))
      (cond (xix l3 20)
        (cond (decide (q1.2 (q1.2 74 93).toNat ((l3).toNat) ≤ l2))
          (xw_X12_lastHour d (4, [some (.inr (.inr (.inl (74, 63)))), some (.inl l1), some (.inl l2), some (.inl (w32 (l3 + 1)))], [], q1.2))
          (cond (xix l3 20)
            (xw_X12_lastHour d (4, [some (.inr (.inr (.inl (74, 63)))), some (.inl l1), some (.inl (q1.2 (q1.2 74 93).toNat ((l3).toNat))), some (.inl (w32 (l3 + 1)))], [], q1.2))
            none))
        none)) := by
  refine (xgoL_fix ?_).trans ?_
  · with_unfolding_all rfl
  · with_unfolding_all rfl
noncomputable abbrev xw_X12_fits (d : Nat) : xCf → Option (Int × xC) := xgoL zC_X12_fits (xM d) (xstop 263) 1
set_option maxRecDepth 100000 in
theorem xm_X12_fits (d : Nat) (a1 : Int) (a2 : Int) (C : xC) : xM (d + 1) 263 [.inr (.inr (.inl (74, 63))), .inl a1, .inl a2] C =
  (xM d 262 [.inr (.inr (.inl (74, 63))), .inl a2] C).bind fun q1 =>
  (xM d 202 [.inr (.inr (.inl (74, 63)))] q1.2).bind fun q2 =>
    (xM d 251 [.inr (.inr (.inl (74, 63))), .inl a1] q2.2).bind fun q3 =>
      xw_X12_fits d (18, [some (.inr (.inr (.inl (74, 63)))), some (.inl a1), some (.inl a2), some (.inl (q1.1)), some (.inl 0), none], [], q3.2) := by
  rw [xM_fix (nL := 6) (rk := 1) (cd := zC_X12_fits) rfl rfl rfl rfl]
  with_unfolding_all rfl
set_option maxRecDepth 100000 in
theorem xl_X12_fits_18 (d : Nat) (l1 : Int) (l2 : Int) (l3 : Int) (l4 : Int) (o5 : Option xV) (C : xC) : xw_X12_fits d (18, [some (.inr (.inr (.inl (74, 63)))), some (.inl l1), some (.inl l2), some (.inl l3), some (.inl l4), o5], [], C) =
  cond (decide (l3 < l4))
  (some (1, C))
  (cond (decide (l4 ≤ 0))
    (xw_X12_fits d (37, [some (.inr (.inr (.inl (74, 63)))), some (.inl l1), some (.inl l2), some (.inl l3), some (.inl l4), some (.inl 0)], [], C))
    ((xM d 209 [.inr (.inr (.inl (74, 63))), .inl 1] C).bind fun q1 =>
      xw_X12_fits d (37, [some (.inr (.inr (.inl (74, 63)))), some (.inl l1), some (.inl l2), some (.inl l3), some (.inl l4), some (.inl 0)], [], q1.2))) := by
  refine (xgoL_fix ?_).trans ?_
  · with_unfolding_all rfl
  · with_unfolding_all rfl
set_option maxRecDepth 100000 in
theorem xl_X12_fits_37 (d : Nat) (l1 : Int) (l2 : Int) (l3 : Int) (l4 : Int) (l5 : Int) (C : xC) : xw_X12_fits d (37, [some (.inr (.inr (.inl (74, 63)))), some (.inl l1), some (.inl l2), some (.inl l3), some (.inl l4), some (.inl l5)], [], C) =
  cond (decide (C 74 98 ≤ l5))
  (xw_X12_fits d (18, [some (.inr (.inr (.inl (74, 63)))), some (.inl l1), some (.inl l2), some (.inl l3), some (.inl (w32 (l4 + 1))), some (.inl l5)], [], C))
  ((xM d 261 [.inr (.inr (.inl (74, 63))), .inl l5, .inl l2] C).bind fun q1 =>
    cond (decide (q1.1 = 0))
      (xw_X12_fits d (37, [some (.inr (.inr (.inl (74, 63)))), some (.inl l1), some (.inl l2), some (.inl l3), some (.inl l4), some (.inl (w32 (l5 + 1)))], [], q1.2))
      (cond (xix l5 20)
        (cond (decide (q1.2 (q1.2 74 93).toNat ((l5).toNat) ≠ l4))
          (xw_X12_fits d (37, [some (.inr (.inr (.inl (74, 63)))), some (.inl l1), some (.inl l2), some (.inl l3), some (.inl l4), some (.inl (w32 (l5 + 1)))], [], q1.2))
          (cond (xix l5 20)
            (cond (xix (q1.2 (q1.2 74 94).toNat ((l5).toNat)) 6)
              (cond (xix l5 20)
                (cond (decide (q1.2 (q1.2 74 62).toNat ((q1.2 (q1.2 74 94).toNat ((l5).toNat)).toNat) = q1.2 (q1.2 74 95).toNat ((l5).toNat)))
                  (xw_X12_fits d (37, [some (.inr (.inr (.inl (74, 63)))), some (.inl l1), some (.inl l2), some (.inl l3), some (.inl l4), some (.inl (w32 (l5 + 1)))], [], q1.2))
                  (some (0, q1.2)))
                none)
              none)
            none))
        none)) := by
  refine (xgoL_fix ?_).trans ?_
  · with_unfolding_all rfl
  · with_unfolding_all rfl
noncomputable abbrev xw_X12_fit (d : Nat) : xCf → Option (Int × xC) := xgoL zC_X12_fit (xM d) (xstop 264) 1
set_option maxRecDepth 100000 in
theorem xm_X12_fit (d : Nat) (a1 : Int) (C : xC) : xM (d + 1) 264 [.inr (.inr (.inl (74, 63))), .inl a1] C =
  (xM d 250 [.inr (.inr (.inl (74, 63)))] C).bind fun q1 =>
  cond (decide (0 ≤ q1.1))
    (xw_X12_fit d (14, [some (.inr (.inr (.inl (74, 63)))), some (.inl a1), some (.inl 0), some (.inl 0)], [], q1.2))
    (some ((-2), q1.2)) := by
  rw [xM_fix (nL := 4) (rk := 1) (cd := zC_X12_fit) rfl rfl rfl rfl]
  with_unfolding_all rfl
set_option maxRecDepth 100000 in
theorem xl_X12_fit_14 (d : Nat) (l1 : Int) (l2 : Int) (l3 : Int) (C : xC) : xw_X12_fit d (14, [some (.inr (.inr (.inl (74, 63)))), some (.inl l1), some (.inl l2), some (.inl l3)], [], C) =
  (xM d 250 [.inr (.inr (.inl (74, 63)))] C).bind fun q1 =>
  cond (decide (q1.1 ≤ l3))
    (some (l2, q1.2))
    ((xM d 263 [.inr (.inr (.inl (74, 63))), .inl l3, .inl l1] q1.2).bind fun q2 =>
      (xM d 180 [.inl (q2.1)] q2.2).bind fun q3 =>
        xw_X12_fit d (14, [some (.inr (.inr (.inl (74, 63)))), some (.inl l1), some (.inl (w32 (l2 + (q3.1)))), some (.inl (w32 (l3 + 1)))], [], q3.2)) := by
  refine (xgoL_fix ?_).trans ?_
  · with_unfolding_all rfl
  · with_unfolding_all rfl
