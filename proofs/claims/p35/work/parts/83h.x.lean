/-! The evaluators, method by method: printed by a program. -/
set_option maxRecDepth 100000 in
theorem xm_X4_counts (d : Nat) (a1 : Int) (a2 : Int) (C : xC) : xM (d + 1) 26 [.inr (.inr (.inl (59, 48))), .inl a1, .inl a2] C =
  cond (xix a1 20)
  (cond (decide (a2 < C (C 59 5).toNat ((a1).toNat)))
    (some (0, C))
    (cond (xix a1 20)
      (cond (decide (C (C 59 6).toNat ((a1).toNat) = (-1)))
        (some (1, C))
        (cond (xix a1 20)
          (cond (decide (C (C 59 6).toNat ((a1).toNat) ≤ a2))
            (some (0, C))
            (some (1, C)))
          none))
      none))
  none := by
  rw [xM_fix (nL := 3) (rk := 1) (cd := zC_X4_counts) rfl rfl rfl rfl]
  with_unfolding_all rfl
noncomputable abbrev xw_X4_lastKnown (d : Nat) : xCf → Option (Int × xC) := xgoL zC_X4_lastKnown (xM d) (xstop 27) 1
set_option maxRecDepth 100000 in
theorem xm_X4_lastKnown (d : Nat) (a1 : Int) (r2 : Nat) (C : xC) : xM (d + 1) 27 [.inr (.inr (.inl (59, 48))), .inl a1, .inr (.inr (.inl (r2, 55)))] C =
  (xM d 272 [.inr (.inr (.inl (r2, 55))), .inl (-1)] C).bind fun q1 =>
  xw_X4_lastKnown d (10, [some (.inr (.inr (.inl (59, 48)))), some (.inl a1), some (.inr (.inr (.inl (r2, 55)))), some (.inl 0), some (.inl 0), none], [], q1.2) := by
  rw [xM_fix (nL := 6) (rk := 1) (cd := zC_X4_lastKnown) rfl rfl rfl rfl]
  with_unfolding_all rfl
set_option maxRecDepth 100000 in
theorem xl_X4_lastKnown_10 (d : Nat) (l1 : Int) (r2 : Nat) (l3 : Int) (l4 : Int) (o5 : Option xV) (C : xC) : xw_X4_lastKnown d (10, [some (.inr (.inr (.inl (59, 48)))), some (.inl l1), some (.inr (.inr (.inl (r2, 55)))), some (.inl l3), some (.inl l4), o5], [], C) =
  cond (decide (C 59 0 ≤ l4))
  (some (l3, C))
  (cond (xix l4 20)
    (cond (xix l4 20)
      ((xM d 26 [.inr (.inr (.inl (59, 48))), .inl l4, .inl l1] C).bind fun q1 =>
        cond (decide (q1.1 = 0))
          (xw_X4_lastKnown d (10, [some (.inr (.inr (.inl (59, 48)))), some (.inl l1), some (.inr (.inr (.inl (r2, 55)))), some (.inl l3), some (.inl (w32 (l4 + 1))), some (.inl (w32 ((w32 ((C (C 59 2).toNat ((l4).toNat)) * 6)) + (C (C 59 3).toNat ((l4).toNat)))))], [], q1.2))
          (cond (decide (366 ≤ w32 ((w32 ((C (C 59 2).toNat ((l4).toNat)) * 6)) + (C (C 59 3).toNat ((l4).toNat)))))
            (xw_X4_lastKnown d (10, [some (.inr (.inr (.inl (59, 48)))), some (.inl l1), some (.inr (.inr (.inl (r2, 55)))), some (.inl l3), some (.inl (w32 (l4 + 1))), some (.inl (w32 ((w32 ((C (C 59 2).toNat ((l4).toNat)) * 6)) + (C (C 59 3).toNat ((l4).toNat)))))], [], q1.2))
            (cond (xix (w32 ((w32 ((C (C 59 2).toNat ((l4).toNat)) * 6)) + (C (C 59 3).toNat ((l4).toNat)))) 366)
              (cond (decide (q1.2 r2 ((w32 ((w32 ((C (C 59 2).toNat ((l4).toNat)) * 6)) + (C (C 59 3).toNat ((l4).toNat)))).toNat) = (-1)))
                (cond (xix l4 20)
                  (cond (xix (w32 ((w32 ((C (C 59 2).toNat ((l4).toNat)) * 6)) + (C (C 59 3).toNat ((l4).toNat)))) 366 && xna 2 (q1.2 (q1.2 59 4).toNat ((l4).toNat)))
                    (cond (xix l4 20)
                      (xw_X4_lastKnown d (10, [some (.inr (.inr (.inl (59, 48)))), some (.inl l1), some (.inr (.inr (.inl (r2, 55)))), some (.inl (max l3 ((xst q1.2 r2 (w32 ((w32 ((C (C 59 2).toNat ((l4).toNat)) * 6)) + (C (C 59 3).toNat ((l4).toNat)))).toNat (q1.2 (q1.2 59 4).toNat ((l4).toNat))) ((xst q1.2 r2 (w32 ((w32 ((C (C 59 2).toNat ((l4).toNat)) * 6)) + (C (C 59 3).toNat ((l4).toNat)))).toNat (q1.2 (q1.2 59 4).toNat ((l4).toNat))) 59 2).toNat ((l4).toNat)))), some (.inl (w32 (l4 + 1))), some (.inl (w32 ((w32 ((C (C 59 2).toNat ((l4).toNat)) * 6)) + (C (C 59 3).toNat ((l4).toNat)))))], [], (xst q1.2 r2 (w32 ((w32 ((C (C 59 2).toNat ((l4).toNat)) * 6)) + (C (C 59 3).toNat ((l4).toNat)))).toNat (q1.2 (q1.2 59 4).toNat ((l4).toNat)))))
                      none)
                    none)
                  none)
                (cond (xix (w32 ((w32 ((C (C 59 2).toNat ((l4).toNat)) * 6)) + (C (C 59 3).toNat ((l4).toNat)))) 366)
                  (cond (xix l4 20)
                    (cond (decide (q1.2 r2 ((w32 ((w32 ((C (C 59 2).toNat ((l4).toNat)) * 6)) + (C (C 59 3).toNat ((l4).toNat)))).toNat) = q1.2 (q1.2 59 4).toNat ((l4).toNat)))
                      (cond (xix l4 20)
                        (cond (xix (w32 ((w32 ((C (C 59 2).toNat ((l4).toNat)) * 6)) + (C (C 59 3).toNat ((l4).toNat)))) 366 && xna 2 (q1.2 (q1.2 59 4).toNat ((l4).toNat)))
                          (cond (xix l4 20)
                            (xw_X4_lastKnown d (10, [some (.inr (.inr (.inl (59, 48)))), some (.inl l1), some (.inr (.inr (.inl (r2, 55)))), some (.inl (max l3 ((xst q1.2 r2 (w32 ((w32 ((C (C 59 2).toNat ((l4).toNat)) * 6)) + (C (C 59 3).toNat ((l4).toNat)))).toNat (q1.2 (q1.2 59 4).toNat ((l4).toNat))) ((xst q1.2 r2 (w32 ((w32 ((C (C 59 2).toNat ((l4).toNat)) * 6)) + (C (C 59 3).toNat ((l4).toNat)))).toNat (q1.2 (q1.2 59 4).toNat ((l4).toNat))) 59 2).toNat ((l4).toNat)))), some (.inl (w32 (l4 + 1))), some (.inl (w32 ((w32 ((C (C 59 2).toNat ((l4).toNat)) * 6)) + (C (C 59 3).toNat ((l4).toNat)))))], [], (xst q1.2 r2 (w32 ((w32 ((C (C 59 2).toNat ((l4).toNat)) * 6)) + (C (C 59 3).toNat ((l4).toNat)))).toNat (q1.2 (q1.2 59 4).toNat ((l4).toNat)))))
                            none)
                          none)
                        none)
                      (some ((-1), q1.2)))
                    none)
                  none))
              none)))
      none)
    none) := by
  refine (xgoL_fix ?_).trans ?_
  · with_unfolding_all rfl
  · with_unfolding_all rfl
noncomputable abbrev xw_J7_fill_53178_known (d : Nat) : xCf → Option (Int × xC) := xgoL zC_J7_fill_53178 (xM d) (xstop 272) 0
set_option maxRecDepth 100000 in
theorem xm_J7_fill_53178_known (d : Nat) (r0 : Nat) (a1 : Int) (C : xC) : xM (d + 1) 272 [.inr (.inr (.inl (r0, 55))), .inl a1] C =
  xw_J7_fill_53178_known d (5, [some (.inr (.inr (.inl (r0, 55)))), some (.inl a1), some (.inl 0), some (.inl 366)], [], C) := by
  rw [xM_fix (nL := 4) (rk := 0) (cd := zC_J7_fill_53178) rfl rfl rfl rfl]
  with_unfolding_all rfl
set_option maxRecDepth 100000 in
theorem xl_J7_fill_53178_known_5 (d : Nat) (r0 : Nat) (l1 : Int) (l2 : Int) (l3 : Int) (C : xC) : xw_J7_fill_53178_known d (5, [some (.inr (.inr (.inl (r0, 55)))), some (.inl l1), some (.inl l2), some (.inl l3)], [], C) =
  cond (decide (l3 ≤ l2))
  (some (0, C))
  (cond (xix l2 366 && xna 2 l1)
    (xw_J7_fill_53178_known d (5, [some (.inr (.inr (.inl (r0, 55)))), some (.inl l1), some (.inl (w32 (l2 + 1))), some (.inl l3)], [], (xst C r0 (l2).toNat l1)))
    none) := by
  refine (xgoL_fix ?_).trans ?_
  · with_unfolding_all rfl
  · with_unfolding_all rfl
noncomputable abbrev xw_J7_fill_53178_restDays (d : Nat) : xCf → Option (Int × xC) := xgoL zC_J7_fill_53178 (xM d) (xstop 272) 0
set_option maxRecDepth 100000 in
theorem xm_J7_fill_53178_restDays (d : Nat) (r0 : Nat) (a1 : Int) (C : xC) : xM (d + 1) 272 [.inr (.inr (.inl (r0, 58))), .inl a1] C =
  xw_J7_fill_53178_restDays d (5, [some (.inr (.inr (.inl (r0, 58)))), some (.inl a1), some (.inl 0), some (.inl 5)], [], C) := by
  rw [xM_fix (nL := 4) (rk := 0) (cd := zC_J7_fill_53178) rfl rfl rfl rfl]
  with_unfolding_all rfl
set_option maxRecDepth 100000 in
theorem xl_J7_fill_53178_restDays_5 (d : Nat) (r0 : Nat) (l1 : Int) (l2 : Int) (l3 : Int) (C : xC) : xw_J7_fill_53178_restDays d (5, [some (.inr (.inr (.inl (r0, 58)))), some (.inl l1), some (.inl l2), some (.inl l3)], [], C) =
  cond (decide (l3 ≤ l2))
  (some (0, C))
  (cond (xix l2 5 && xna 2 l1)
    (xw_J7_fill_53178_restDays d (5, [some (.inr (.inr (.inl (r0, 58)))), some (.inl l1), some (.inl (w32 (l2 + 1))), some (.inl l3)], [], (xst C r0 (l2).toNat l1)))
    none) := by
  refine (xgoL_fix ?_).trans ?_
  · with_unfolding_all rfl
  · with_unfolding_all rfl
noncomputable abbrev xw_X2_asKnown (d : Nat) : xCf → Option (Int × xC) := xgoL zC_X2_asKnown (xM d) (xstop 13) 1
set_option maxRecDepth 100000 in
theorem xm_X2_asKnown (d : Nat) (a1 : Int) (C : xC) : xM (d + 1) 13 [.inr (.inr (.inl (65, 54))), .inl a1] C =
  xw_X2_asKnown d (2, [some (.inr (.inr (.inl (65, 54)))), some (.inl a1), some (.inl 0), none], [], C) := by
  rw [xM_fix (nL := 4) (rk := 1) (cd := zC_X2_asKnown) rfl rfl rfl rfl]
  with_unfolding_all rfl
set_option maxRecDepth 100000 in
theorem xl_X2_asKnown_2 (d : Nat) (l1 : Int) (l2 : Int) (o3 : Option xV) (C : xC) : xw_X2_asKnown d (2, [some (.inr (.inr (.inl (65, 54)))), some (.inl l1), some (.inl l2), o3], [], C) =
  cond (decide (6 ≤ l2))
  (some (1, C))
  (cond (xix (w32 ((w32 (l1 * 6)) + l2)) 366)
    (cond (decide (C (C 65 3).toNat ((w32 ((w32 (l1 * 6)) + l2)).toNat) = (-1)))
      (xw_X2_asKnown d (2, [some (.inr (.inr (.inl (65, 54)))), some (.inl l1), some (.inl (w32 (l2 + 1))), some (.inl (C (C 65 3).toNat ((w32 ((w32 (l1 * 6)) + l2)).toNat)))], [], C))
      (cond (xix l2 6)
        (cond (decide (C (C 65 3).toNat ((w32 ((w32 (l1 * 6)) + l2)).toNat) = C (C (C 65 1).toNat 5).toNat ((l2).toNat)))
          (xw_X2_asKnown d (2, [some (.inr (.inr (.inl (65, 54)))), some (.inl l1), some (.inl (w32 (l2 + 1))), some (.inl (C (C 65 3).toNat ((w32 ((w32 (l1 * 6)) + l2)).toNat)))], [], C))
          (some (0, C)))
        none))
    none) := by
  refine (xgoL_fix ?_).trans ?_
  · with_unfolding_all rfl
  · with_unfolding_all rfl
noncomputable abbrev xw_X2_fitting (d : Nat) : xCf → Option (Int × xC) := xgoL zC_X2_fitting (xM d) (xstop 12) 1
set_option maxRecDepth 100000 in
theorem xm_X2_fitting (d : Nat) (a1 : Int) (a2 : Int) (C : xC) : xM (d + 1) 12 [.inr (.inr (.inl (65, 54))), .inl a1, .inl a2] C =
  xw_X2_fitting d (2, [some (.inr (.inr (.inl (65, 54)))), some (.inl a1), some (.inl a2), some (.inl 0)], [], C) := by
  rw [xM_fix (nL := 4) (rk := 1) (cd := zC_X2_fitting) rfl rfl rfl rfl]
  with_unfolding_all rfl
set_option maxRecDepth 100000 in
theorem xl_X2_fitting_2 (d : Nat) (l1 : Int) (l2 : Int) (l3 : Int) (C : xC) : xw_X2_fitting d (2, [some (.inr (.inr (.inl (65, 54)))), some (.inl l1), some (.inl l2), some (.inl l3)], [], C) =
  cond (decide (l1 < l3))
  (some (1, C))
  (cond (decide (l3 ≤ 0))
    ((xM d 13 [.inr (.inr (.inl (65, 54))), .inl l3] C).bind fun q1 =>
      cond (decide (q1.1 ≠ 0))
        (cond (decide (l3 ≠ l2))
          (xw_X2_fitting d (2, [some (.inr (.inr (.inl (65, 54)))), some (.inl l1), some (.inl l2), some (.inl (w32 (l3 + 1)))], [], q1.2))
          (xw_X2_fitting d (2, [some (.inr (.inr (.inl (65, 54)))), some (.inl l1), some (.inl l2), some (.inl (w32 (l3 + 1)))], [], (xcp q1.2 ((q1.2 (q1.2 65 1).toNat 5).toNat) 0 ((q1.2 65 4).toNat) 0 6))))
        (some (0, q1.2)))
    ((xM d 67 [.inr (.inr (.inl ((C 65 1).toNat, 26))), .inl 1] C).bind fun q2 =>
      (xM d 13 [.inr (.inr (.inl (65, 54))), .inl l3] q2.2).bind fun q3 =>
        cond (decide (q3.1 ≠ 0))
          (cond (decide (l3 ≠ l2))
            (xw_X2_fitting d (2, [some (.inr (.inr (.inl (65, 54)))), some (.inl l1), some (.inl l2), some (.inl (w32 (l3 + 1)))], [], q3.2))
            (xw_X2_fitting d (2, [some (.inr (.inr (.inl (65, 54)))), some (.inl l1), some (.inl l2), some (.inl (w32 (l3 + 1)))], [], (xcp q3.2 ((q3.2 (q3.2 65 1).toNat 5).toNat) 0 ((q3.2 65 4).toNat) 0 6))))
          (some (0, q3.2)))) := by
  refine (xgoL_fix ?_).trans ?_
  · with_unfolding_all rfl
  · with_unfolding_all rfl
noncomputable abbrev xw_X2_noteFit (d : Nat) : xCf → Option (Int × xC) := xgoL zC_X2_noteFit (xM d) (xstop 14) 0
set_option maxRecDepth 100000 in
theorem xm_X2_noteFit (d : Nat) (a1 : Int) (C : xC) : xM (d + 1) 14 [.inr (.inr (.inl (65, 54))), .inl a1] C =
  xw_X2_noteFit d (2, [some (.inr (.inr (.inl (65, 54)))), some (.inl a1), some (.inl 0)], [], C) := by
  rw [xM_fix (nL := 3) (rk := 0) (cd := zC_X2_noteFit) rfl rfl rfl rfl]
  with_unfolding_all rfl
set_option maxRecDepth 100000 in
theorem xl_X2_noteFit_2 (d : Nat) (l1 : Int) (l2 : Int) (C : xC) : xw_X2_noteFit d (2, [some (.inr (.inr (.inl (65, 54)))), some (.inl l1), some (.inl l2)], [], C) =
  cond (decide (C (C (C (C 65 2).toNat 0).toNat 4).toNat 1 ≤ l2))
  (xw_X2_noteFit d (46, [some (.inr (.inr (.inl (65, 54)))), some (.inl l1), some (.inl 0)], [], C))
  (cond (xix l2 5)
    (cond (xix l2 9)
      (cond (xix l2 5 && xna 2 (x32 (· ||| ·) (C (C 65 6).toNat ((l2).toNat)) (x32 (fun x y => x <<< (y &&& 31)) 1 (C (C (C 65 2).toNat 6).toNat ((l2).toNat)))))
        (xw_X2_noteFit d (2, [some (.inr (.inr (.inl (65, 54)))), some (.inl l1), some (.inl (w32 (l2 + 1)))], [], (xst C (C 65 6).toNat (l2).toNat (x32 (· ||| ·) (C (C 65 6).toNat ((l2).toNat)) (x32 (fun x y => x <<< (y &&& 31)) 1 (C (C (C 65 2).toNat 6).toNat ((l2).toNat)))))))
        none)
      none)
    none) := by
  refine (xgoL_fix ?_).trans ?_
  · with_unfolding_all rfl
  · with_unfolding_all rfl
set_option maxRecDepth 100000 in
theorem xl_X2_noteFit_46 (d : Nat) (l1 : Int) (l2 : Int) (C : xC) : xw_X2_noteFit d (46, [some (.inr (.inr (.inl (65, 54)))), some (.inl l1), some (.inl l2)], [], C) =
  cond (decide (6 ≤ l2))
  (some (0, C))
  (cond (decide (l1 = (-1)))
    (some (0, C))
    (cond (xix l2 6)
      (cond (xix (w32 ((w32 (l2 * 1000)) + (C (C 65 4).toNat ((l2).toNat)))) 6000)
        (cond (xix (w32 ((w32 (l2 * 1000)) + (C (C 65 4).toNat ((l2).toNat)))) 6000 && xna 2 (w32 ((C (C 65 5).toNat ((w32 ((w32 (l2 * 1000)) + (C (C 65 4).toNat ((l2).toNat)))).toNat)) + 1)))
          (xw_X2_noteFit d (46, [some (.inr (.inr (.inl (65, 54)))), some (.inl l1), some (.inl (w32 (l2 + 1)))], [], (xst C (C 65 5).toNat (w32 ((w32 (l2 * 1000)) + (C (C 65 4).toNat ((l2).toNat)))).toNat (w32 ((C (C 65 5).toNat ((w32 ((w32 (l2 * 1000)) + (C (C 65 4).toNat ((l2).toNat)))).toNat)) + 1)))))
          none)
        none)
      none)) := by
  refine (xgoL_fix ?_).trans ?_
  · with_unfolding_all rfl
  · with_unfolding_all rfl
noncomputable abbrev xw_X2_sift (d : Nat) : xCf → Option (Int × xC) := xgoL zC_X2_sift (xM d) (xstop 11) 1
set_option maxRecDepth 100000 in
theorem xm_X2_sift (d : Nat) (r1 : Nat) (a2 : Int) (a3 : Int) (C : xC) : xM (d + 1) 11 [.inr (.inr (.inl (65, 54))), .inr (.inr (.inl (r1, 2))), .inl a2, .inl a3] C =
  (xM d 272 [.inr (.inr (.inl ((C 65 6).toNat, 58))), .inl 0] C).bind fun q1 =>
  cond (decide (a3 = (-1)))
    ((xM d 55 [.inr (.inr (.inl ((q1.2 65 2).toNat, 59))), .inr (.inr (.inl (r1, 2)))] q1.2).bind fun q2 =>
      (xM d 70 [.inr (.inr (.inl ((q2.2 65 2).toNat, 59)))] q2.2).bind fun q3 =>
        cond (decide (q3.1 ≠ (-2)))
          ((xM d 27 [.inr (.inr (.inl ((q3.2 65 0).toNat, 48))), .inl a2, .inr (.inr (.inl ((q3.2 65 3).toNat, 55)))] q3.2).bind fun q4 =>
            xw_X2_sift d (68, [some (.inr (.inr (.inl (65, 54)))), some (.inr (.inr (.inl (r1, 2)))), some (.inl a2), some (.inl a3), some (.inl (q3.1)), some (.inl (q4.1)), some (.inl 0), some (.inl 0)], [], q4.2))
          (some ((-2), q3.2)))
    ((xM d 272 [.inr (.inr (.inl ((q1.2 65 5).toNat, 57))), .inl 0] q1.2).bind fun q5 =>
      (xM d 55 [.inr (.inr (.inl ((q5.2 65 2).toNat, 59))), .inr (.inr (.inl (r1, 2)))] q5.2).bind fun q6 =>
        (xM d 70 [.inr (.inr (.inl ((q6.2 65 2).toNat, 59)))] q6.2).bind fun q7 =>
          cond (decide (q7.1 ≠ (-2)))
            ((xM d 27 [.inr (.inr (.inl ((q7.2 65 0).toNat, 48))), .inl a2, .inr (.inr (.inl ((q7.2 65 3).toNat, 55)))] q7.2).bind fun q8 =>
              xw_X2_sift d (68, [some (.inr (.inr (.inl (65, 54)))), some (.inr (.inr (.inl (r1, 2)))), some (.inl a2), some (.inl a3), some (.inl (q7.1)), some (.inl (q8.1)), some (.inl 0), some (.inl 0)], [], q8.2))
            (some ((-2), q7.2))) := by
  rw [xM_fix (nL := 8) (rk := 1) (cd := zC_X2_sift) rfl rfl rfl rfl]
  with_unfolding_all rfl
set_option maxRecDepth 100000 in
theorem xl_X2_sift_68 (d : Nat) (r1 : Nat) (l2 : Int) (l3 : Int) (l4 : Int) (l5 : Int) (l6 : Int) (l7 : Int) (C : xC) : xw_X2_sift d (68, [some (.inr (.inr (.inl (65, 54)))), some (.inr (.inr (.inl (r1, 2)))), some (.inl l2), some (.inl l3), some (.inl l4), some (.inl l5), some (.inl l6), some (.inl l7)], [], C) =
  cond (decide (l4 ≤ l7))
  (some (l6, C))
  (cond (decide (l5 = (-1)))
    (some (l6, C))
    ((xM d 56 [.inr (.inr (.inl ((C 65 1).toNat, 26))), .inr (.inr (.inl ((C 65 2).toNat, 59)))] C).bind fun q1 =>
      (xM d 12 [.inr (.inr (.inl (65, 54))), .inl (max l5 l3), .inl l3] q1.2).bind fun q2 =>
        cond (decide (q2.1 = 0))
          ((xM d 71 [.inr (.inr (.inl ((q2.2 65 2).toNat, 59)))] q2.2).bind fun q3 =>
            xw_X2_sift d (68, [some (.inr (.inr (.inl (65, 54)))), some (.inr (.inr (.inl (r1, 2)))), some (.inl l2), some (.inl l3), some (.inl l4), some (.inl l5), some (.inl l6), some (.inl (w32 (l7 + 1)))], [], q3.2))
          ((xM d 14 [.inr (.inr (.inl (65, 54))), .inl l3] q2.2).bind fun q4 =>
            (xM d 71 [.inr (.inr (.inl ((q4.2 65 2).toNat, 59)))] q4.2).bind fun q5 =>
              xw_X2_sift d (68, [some (.inr (.inr (.inl (65, 54)))), some (.inr (.inr (.inl (r1, 2)))), some (.inl l2), some (.inl l3), some (.inl l4), some (.inl l5), some (.inl (w32 (l6 + 1))), some (.inl (w32 (l7 + 1)))], [], q5.2)))) := by
  refine (xgoL_fix ?_).trans ?_
  · with_unfolding_all rfl
  · with_unfolding_all rfl
set_option maxRecDepth 100000 in
theorem xm_X11_fit (d : Nat) (a1 : Int) (C : xC) : xM (d + 1) 143 [.inr (.inr (.inl (0, 0))), .inl a1] C =
  (xM d 11 [.inr (.inr (.inl ((C 0 17).toNat, 54))), .inr (.inr (.inl ((C 0 3).toNat, 2))), .inl a1, .inl (-1)] C).bind fun q1 =>
  some (q1.1, q1.2) := by
  rw [xM_fix (nL := 2) (rk := 1) (cd := zC_X11_fit) rfl rfl rfl rfl]
  with_unfolding_all rfl
