/-! The class’s reader, method by method: printed by a program. -/
set_option maxRecDepth 100000 in
theorem xm_X5_step (d : Nat) (C : xC) : xM (d + 1) 49 [.inr (.inr (.inl (24, 13)))] C =
  cond (decide (C (C 24 0).toNat 2 ≤ w32 ((C 24 3) + 1)))
  (some (0, C))
  (cond (xix (w32 ((C 24 3) + 1)) 1701)
    (cond (xix (w32 ((C 24 3) + 1)) 1701)
      (some (0, (xst (xst (xst C 24 3 (w32 ((C 24 3) + 1))) 24 4 ((xst C 24 3 (w32 ((C 24 3) + 1))) ((xst C 24 3 (w32 ((C 24 3) + 1))) (C 24 0).toNat 3).toNat ((w32 ((C 24 3) + 1)).toNat))) 24 5 ((xst (xst C 24 3 (w32 ((C 24 3) + 1))) 24 4 ((xst C 24 3 (w32 ((C 24 3) + 1))) ((xst C 24 3 (w32 ((C 24 3) + 1))) (C 24 0).toNat 3).toNat ((w32 ((C 24 3) + 1)).toNat))) ((xst (xst C 24 3 (w32 ((C 24 3) + 1))) 24 4 ((xst C 24 3 (w32 ((C 24 3) + 1))) ((xst C 24 3 (w32 ((C 24 3) + 1))) (C 24 0).toNat 3).toNat ((w32 ((C 24 3) + 1)).toNat))) (C 24 0).toNat 5).toNat ((w32 ((C 24 3) + 1)).toNat)))))
      none)
    none) := by
  rw [xM_fix (nL := 1) (rk := 0) (cd := zC_X5_step) rfl rfl rfl rfl]
  with_unfolding_all rfl
set_option maxRecDepth 100000 in
theorem xm_X5_refuse (d : Nat) (a1 : Int) (C : xC) : xM (d + 1) 50 [.inr (.inr (.inl (24, 13))), .inl a1] C =
  cond (decide (C 24 4 ≠ 25))
  (cond (decide (C 24 3 < 0))
    (some (0, (xst (xst C 24 8 a1) 24 9 (-1))))
    (cond (decide ((xst C 24 8 a1) (C 24 0).toNat 2 ≤ C 24 3))
      (some (0, (xst (xst C 24 8 a1) 24 9 (-1))))
      (cond (xix (C 24 3) 1701)
        (some (0, (xst (xst C 24 8 a1) 24 9 ((xst C 24 8 a1) ((xst C 24 8 a1) (C 24 0).toNat 4).toNat ((C 24 3).toNat)))))
        none)))
  (cond (decide (C 24 3 < 0))
    (some (0, (xst (xst C 24 8 1) 24 9 (-1))))
    (cond (decide ((xst C 24 8 1) (C 24 0).toNat 2 ≤ C 24 3))
      (some (0, (xst (xst C 24 8 1) 24 9 (-1))))
      (cond (xix (C 24 3) 1701)
        (some (0, (xst (xst C 24 8 1) 24 9 ((xst C 24 8 1) ((xst C 24 8 1) (C 24 0).toNat 4).toNat ((C 24 3).toNat)))))
        none))) := by
  rw [xM_fix (nL := 2) (rk := 1) (cd := zC_X5_refuse) rfl rfl rfl rfl]
  with_unfolding_all rfl
set_option maxRecDepth 100000 in
theorem xm_X5_accept (d : Nat) (a1 : Int) (C : xC) : xM (d + 1) 48 [.inr (.inr (.inl (24, 13))), .inl a1] C =
  cond (decide (C 24 4 = a1))
  ((xM d 49 [.inr (.inr (.inl (24, 13)))] C).bind fun q1 =>
    some (1, q1.2))
  ((xM d 50 [.inr (.inr (.inl (24, 13))), .inl 2] C).bind fun q2 =>
    xfr 1 q2.2 (cond (decide (q2.1 = 0) || decide (q2.1 = 1)) (some (1, q2.1)) none)) := by
  rw [xM_fix (nL := 2) (rk := 1) (cd := zC_X5_accept) rfl rfl rfl rfl]
  with_unfolding_all rfl
set_option maxRecDepth 100000 in
theorem xm_X5_readNumber (d : Nat) (a1 : Int) (a2 : Int) (C : xC) : xM (d + 1) 47 [.inr (.inr (.inl (24, 13))), .inl a1, .inl a2] C =
  cond (decide (C 24 4 = 23))
  (cond (decide (cond (decide (a1 < C 24 5)) 1 (cond (decide (C 24 5 = a1)) 0 (-1)) < 0))
    ((xM d 50 [.inr (.inr (.inl (24, 13))), .inl 4] C).bind fun q1 =>
      xfr 1 q1.2 (cond (decide (q1.1 = 0) || decide (q1.1 = 1)) (some (1, q1.1)) none))
    (cond (decide (cond (decide (a2 < C 24 5)) 1 (cond (decide (C 24 5 = a2)) 0 (-1)) ≤ 0))
      ((xM d 49 [.inr (.inr (.inl (24, 13)))] (xst C 24 6 (w32 (C 24 5)))).bind fun q2 =>
        some (1, q2.2))
      ((xM d 50 [.inr (.inr (.inl (24, 13))), .inl 4] C).bind fun q3 =>
        xfr 1 q3.2 (cond (decide (q3.1 = 0) || decide (q3.1 = 1)) (some (1, q3.1)) none))))
  ((xM d 50 [.inr (.inr (.inl (24, 13))), .inl 2] C).bind fun q4 =>
    xfr 1 q4.2 (cond (decide (q4.1 = 0) || decide (q4.1 = 1)) (some (1, q4.1)) none)) := by
  rw [xM_fix (nL := 3) (rk := 1) (cd := zC_X5_readNumber) rfl rfl rfl rfl]
  with_unfolding_all rfl
noncomputable abbrev xw_X5_find (d : Nat) : xCf → Option (Int × xC) := xgoL zC_X5_find (xM d) (xstop 46) 1
set_option maxRecDepth 100000 in
theorem xm_X5_find (d : Nat) (a1 : Int) (C : xC) : xM (d + 1) 46 [.inr (.inr (.inl (24, 13))), .inl a1] C =
  xw_X5_find d (2, [some (.inr (.inr (.inl (24, 13)))), some (.inl a1), some (.inl 0)], [], C) := by
  rw [xM_fix (nL := 3) (rk := 1) (cd := zC_X5_find) rfl rfl rfl rfl]
  with_unfolding_all rfl
set_option maxRecDepth 100000 in
theorem xl_X5_find_2 (d : Nat) (l1 : Int) (l2 : Int) (C : xC) : xw_X5_find d (2, [some (.inr (.inr (.inl (24, 13)))), some (.inl l1), some (.inl l2)], [], C) =
  cond (xix l1 5)
  (cond (decide (C (C (C 24 2).toNat 4).toNat ((l1).toNat) ≤ l2))
    (some ((-1), C))
    (cond (xix (w32 ((w32 (l1 * 6)) + l2)) 30)
      (cond (decide (cond (decide (C 24 5 < C (C 24 1).toNat ((w32 ((w32 (l1 * 6)) + l2)).toNat))) 1 (cond (decide (C (C 24 1).toNat ((w32 ((w32 (l1 * 6)) + l2)).toNat) = C 24 5)) 0 (-1)) ≠ 0))
        (xw_X5_find d (2, [some (.inr (.inr (.inl (24, 13)))), some (.inl l1), some (.inl (w32 (l2 + 1)))], [], C))
        (some (l2, C)))
      none))
  none := by
  refine (xgoL_fix ?_).trans ?_
  · with_unfolding_all rfl
  · with_unfolding_all rfl
set_option maxRecDepth 100000 in
theorem xm_X5_readKnownName (d : Nat) (a1 : Int) (C : xC) : xM (d + 1) 45 [.inr (.inr (.inl (24, 13))), .inl a1] C =
  cond (decide (C 24 4 = 22))
  ((xM d 46 [.inr (.inr (.inl (24, 13))), .inl a1] C).bind fun q1 =>
    cond (decide (q1.1 ≠ (-1)))
      ((xM d 49 [.inr (.inr (.inl (24, 13)))] (xst q1.2 24 6 (q1.1))).bind fun q2 =>
        some (1, q2.2))
      ((xM d 50 [.inr (.inr (.inl (24, 13))), .inl 5] (xst q1.2 24 6 (q1.1))).bind fun q3 =>
        xfr 1 q3.2 (cond (decide (q3.1 = 0) || decide (q3.1 = 1)) (some (1, q3.1)) none)))
  ((xM d 50 [.inr (.inr (.inl (24, 13))), .inl 2] C).bind fun q4 =>
    xfr 1 q4.2 (cond (decide (q4.1 = 0) || decide (q4.1 = 1)) (some (1, q4.1)) none)) := by
  rw [xM_fix (nL := 2) (rk := 1) (cd := zC_X5_readKnownName) rfl rfl rfl rfl]
  with_unfolding_all rfl
set_option maxRecDepth 100000 in
theorem xm_X5_readNewName (d : Nat) (a1 : Int) (a2 : Int) (C : xC) : xM (d + 1) 44 [.inr (.inr (.inl (24, 13))), .inl a1, .inl a2] C =
  cond (xix a1 5)
  (cond (decide (C (C (C 24 2).toNat 4).toNat ((a1).toNat) < a2))
    ((xM d 49 [.inr (.inr (.inl (24, 13)))] C).bind fun q1 =>
      cond (decide (q1.2 24 4 = 22))
        ((xM d 46 [.inr (.inr (.inl (24, 13))), .inl a1] q1.2).bind fun q2 =>
          cond (decide (q2.1 = (-1)))
            (cond (xix a1 5)
              (cond (xix (w32 ((w32 (a1 * 6)) + (q2.2 (q2.2 (q2.2 24 2).toNat 4).toNat ((a1).toNat)))) 30)
                ((xM d 49 [.inr (.inr (.inl (24, 13)))] (xst q2.2 (q2.2 24 1).toNat (w32 ((w32 (a1 * 6)) + (q2.2 (q2.2 (q2.2 24 2).toNat 4).toNat ((a1).toNat)))).toNat (q2.2 24 5))).bind fun q3 =>
                  some (1, q3.2))
                none)
              none)
            ((xM d 50 [.inr (.inr (.inl (24, 13))), .inl 3] q2.2).bind fun q4 =>
              xfr 1 q4.2 (cond (decide (q4.1 = 0) || decide (q4.1 = 1)) (some (1, q4.1)) none)))
        ((xM d 50 [.inr (.inr (.inl (24, 13))), .inl 2] q1.2).bind fun q5 =>
          xfr 1 q5.2 (cond (decide (q5.1 = 0) || decide (q5.1 = 1)) (some (1, q5.1)) none)))
    ((xM d 50 [.inr (.inr (.inl (24, 13))), .inl 2] C).bind fun q6 =>
      xfr 1 q6.2 (cond (decide (q6.1 = 0) || decide (q6.1 = 1)) (some (1, q6.1)) none)))
  none := by
  rw [xM_fix (nL := 3) (rk := 1) (cd := zC_X5_readNewName) rfl rfl rfl rfl]
  with_unfolding_all rfl
set_option maxRecDepth 100000 in
theorem xm_X5_joint (d : Nat) (a1 : Int) (C : xC) : xM (d + 1) 43 [.inr (.inr (.inl (24, 13))), .inl a1] C =
  cond (decide (C 24 4 = 17))
  (cond (decide (a1 ≠ 0))
    (some ((-1), C))
    (some (14, C)))
  (cond (decide (C 24 4 = 18))
  (cond (decide (a1 ≠ 1))
    (some ((-1), C))
    (some (13, C)))
  (cond (decide (C 24 4 = 37))
  (cond (decide (a1 ≠ 4))
    (some ((-1), C))
    (some (9, C)))
  (cond (decide (C 24 4 = 42))
  (cond (decide (a1 ≠ 4))
    (some ((-1), C))
    (some (7, C)))
  (cond (decide (C 24 4 = 43))
  (cond (decide (a1 ≠ 3))
    (some ((-1), C))
    (some (5, C)))
  (cond (decide (C 24 4 = 45))
  (cond (decide (a1 ≠ 3))
    (some ((-1), C))
    (some (6, C)))
  (cond (decide (C 24 4 = 47))
  (cond (decide (a1 ≠ 4))
    (some ((-1), C))
    (some (8, C)))
  (cond (decide (C 24 4 = 60))
  (cond (decide (a1 ≠ 2))
    (some ((-1), C))
    (some (10, C)))
  (cond (decide (C 24 4 = 61))
  (cond (decide (a1 ≠ 2))
    (some ((-1), C))
    (some (12, C)))
  (cond (decide (C 24 4 = 62))
  (cond (decide (a1 ≠ 2))
    (some ((-1), C))
    (some (11, C)))
  (some ((-1), C))))))))))) := by
  rw [xM_fix (nL := 2) (rk := 1) (cd := zC_X5_joint) rfl rfl rfl rfl]
  with_unfolding_all rfl
noncomputable abbrev xw_X5_readUnit (d : Nat) : xCf → Option (Int × xC) := xgoL zC_X5_readUnit (xM d) (xstop 42) 1
set_option maxRecDepth 100000 in
theorem xm_X5_readUnit (d : Nat) (a1 : Int) (C : xC) : xM (d + 1) 42 [.inr (.inr (.inl (24, 13))), .inl a1] C =
  cond (decide (150 ≤ C (C 24 2).toNat 2))
  (xw_X5_readUnit d (22, [some (.inr (.inr (.inl (24, 13)))), some (.inl a1), none], [], C))
  (cond (decide (C 24 7 < 30))
    (cond (decide ((xst C (C 24 2).toNat 2 (w32 ((C (C 24 2).toNat 2) + 1))) 24 4 = 20))
      ((xM d 21 [.inr (.inr (.inl (((xst C (C 24 2).toNat 2 (w32 ((C (C 24 2).toNat 2) + 1))) 24 2).toNat, 2))), .inl 2, .inl 0] (xst (xst C (C 24 2).toNat 2 (w32 ((C (C 24 2).toNat 2) + 1))) 24 7 (w32 (((xst C (C 24 2).toNat 2 (w32 ((C (C 24 2).toNat 2) + 1))) 24 7) + 1)))).bind fun q11 =>
        xw_X5_readUnit d (223, [some (.inr (.inr (.inl (24, 13)))), some (.inl a1), none], [], q11.2))
      (cond (decide ((xst C (C 24 2).toNat 2 (w32 ((C (C 24 2).toNat 2) + 1))) 24 4 = 21))
      ((xM d 21 [.inr (.inr (.inl (((xst C (C 24 2).toNat 2 (w32 ((C (C 24 2).toNat 2) + 1))) 24 2).toNat, 2))), .inl 3, .inl 0] (xst (xst C (C 24 2).toNat 2 (w32 ((C (C 24 2).toNat 2) + 1))) 24 7 (w32 (((xst C (C 24 2).toNat 2 (w32 ((C (C 24 2).toNat 2) + 1))) 24 7) + 1)))).bind fun q10 =>
        xw_X5_readUnit d (223, [some (.inr (.inr (.inl (24, 13)))), some (.inl a1), none], [], q10.2))
      (cond (decide ((xst C (C 24 2).toNat 2 (w32 ((C (C 24 2).toNat 2) + 1))) 24 4 = 22))
      ((xM d 46 [.inr (.inr (.inl (24, 13))), .inl 0] (xst (xst C (C 24 2).toNat 2 (w32 ((C (C 24 2).toNat 2) + 1))) 24 7 (w32 (((xst C (C 24 2).toNat 2 (w32 ((C (C 24 2).toNat 2) + 1))) 24 7) + 1)))).bind fun q7 =>
        cond (decide (q7.1 ≠ (-1)))
          ((xM d 21 [.inr (.inr (.inl ((q7.2 24 2).toNat, 2))), .inl 1, .inl (q7.1)] q7.2).bind fun q8 =>
            xw_X5_readUnit d (223, [some (.inr (.inr (.inl (24, 13)))), some (.inl a1), some (.inl (q7.1))], [], q8.2))
          ((xM d 50 [.inr (.inr (.inl (24, 13))), .inl 5] q7.2).bind fun q9 =>
            xfr 1 q9.2 (cond (decide (q9.1 = 0) || decide (q9.1 = 1)) (some (1, q9.1)) none)))
      (cond (decide ((xst C (C 24 2).toNat 2 (w32 ((C (C 24 2).toNat 2) + 1))) 24 4 = 23))
      ((xM d 21 [.inr (.inr (.inl (((xst C (C 24 2).toNat 2 (w32 ((C (C 24 2).toNat 2) + 1))) 24 2).toNat, 2))), .inl 0, .inl (w32 ((xst C (C 24 2).toNat 2 (w32 ((C (C 24 2).toNat 2) + 1))) 24 5))] (xst (xst C (C 24 2).toNat 2 (w32 ((C (C 24 2).toNat 2) + 1))) 24 7 (w32 (((xst C (C 24 2).toNat 2 (w32 ((C (C 24 2).toNat 2) + 1))) 24 7) + 1)))).bind fun q6 =>
        xw_X5_readUnit d (223, [some (.inr (.inr (.inl (24, 13)))), some (.inl a1), none], [], q6.2))
      (cond (decide ((xst C (C 24 2).toNat 2 (w32 ((C (C 24 2).toNat 2) + 1))) 24 4 = 40))
      (cond (decide (a1 ≤ 6))
        ((xM d 49 [.inr (.inr (.inl (24, 13)))] (xst (xst C (C 24 2).toNat 2 (w32 ((C (C 24 2).toNat 2) + 1))) 24 7 (w32 (((xst C (C 24 2).toNat 2 (w32 ((C (C 24 2).toNat 2) + 1))) 24 7) + 1)))).bind fun q2 =>
          (xM d 40 [.inr (.inr (.inl (24, 13))), .inl 0, .inl (w32 (a1 + 1))] q2.2).bind fun q3 =>
            cond (decide (q3.1 ≠ 0))
              (cond (decide (q3.2 24 4 = 41))
                (xw_X5_readUnit d (223, [some (.inr (.inr (.inl (24, 13)))), some (.inl a1), none], [], q3.2))
                ((xM d 50 [.inr (.inr (.inl (24, 13))), .inl 2] q3.2).bind fun q4 =>
                  xfr 1 q4.2 (cond (decide (q4.1 = 0) || decide (q4.1 = 1)) (some (1, q4.1)) none)))
              (some (0, q3.2)))
        ((xM d 50 [.inr (.inr (.inl (24, 13))), .inl 2] (xst (xst C (C 24 2).toNat 2 (w32 ((C (C 24 2).toNat 2) + 1))) 24 7 (w32 (((xst C (C 24 2).toNat 2 (w32 ((C (C 24 2).toNat 2) + 1))) 24 7) + 1)))).bind fun q5 =>
          xfr 1 q5.2 (cond (decide (q5.1 = 0) || decide (q5.1 = 1)) (some (1, q5.1)) none)))
      ((xM d 50 [.inr (.inr (.inl (24, 13))), .inl 2] (xst (xst C (C 24 2).toNat 2 (w32 ((C (C 24 2).toNat 2) + 1))) 24 7 (w32 (((xst C (C 24 2).toNat 2 (w32 ((C (C 24 2).toNat 2) + 1))) 24 7) + 1)))).bind fun q1 =>
        xfr 1 q1.2 (cond (decide (q1.1 = 0) || decide (q1.1 = 1)) (some (1, q1.1)) none)))))))
    (xw_X5_readUnit d (22, [some (.inr (.inr (.inl (24, 13)))), some (.inl a1), none], [], C))) := by
  rw [xM_fix (nL := 3) (rk := 1) (cd := zC_X5_readUnit) rfl rfl rfl rfl]
  with_unfolding_all rfl
set_option maxRecDepth 100000 in
theorem xl_X5_readUnit_22 (d : Nat) (l1 : Int) (C : xC) : xw_X5_readUnit d (22, [some (.inr (.inr (.inl (24, 13)))), some (.inl l1), none], [], C) =
  (xM d 50 [.inr (.inr (.inl (24, 13))), .inl 2] C).bind fun q1 =>
  xfr 1 q1.2 (cond (decide (q1.1 = 0) || decide (q1.1 = 1)) (some (1, q1.1)) none) := by
  refine (xgoL_fix ?_).trans ?_
  · with_unfolding_all rfl
  · with_unfolding_all rfl
set_option maxRecDepth 100000 in
theorem xl_X5_readUnit_223 (d : Nat) (l1 : Int) (o2 : Option xV) (C : xC) : xw_X5_readUnit d (223, [some (.inr (.inr (.inl (24, 13)))), some (.inl l1), o2], [], C) =
  (xM d 49 [.inr (.inr (.inl (24, 13)))] C).bind fun q1 =>
  some (1, q1.2) := by
  refine (xgoL_fix ?_).trans ?_
  · with_unfolding_all rfl
  · with_unfolding_all rfl
set_option maxRecDepth 100000 in
theorem xm_X5_readNot (d : Nat) (a1 : Int) (C : xC) : xM (d + 1) 41 [.inr (.inr (.inl (24, 13))), .inl a1] C =
  cond (decide (a1 ≤ 6))
  ((xM d 49 [.inr (.inr (.inl (24, 13)))] C).bind fun q1 =>
    (xM d 40 [.inr (.inr (.inl (24, 13))), .inl 2, .inl (w32 (a1 + 1))] q1.2).bind fun q2 =>
      cond (decide (q2.1 ≠ 0))
        ((xM d 21 [.inr (.inr (.inl ((q2.2 24 2).toNat, 2))), .inl 4, .inl 0] q2.2).bind fun q3 =>
          some (1, q3.2))
        (some (0, q2.2)))
  ((xM d 50 [.inr (.inr (.inl (24, 13))), .inl 2] C).bind fun q4 =>
    xfr 1 q4.2 (cond (decide (q4.1 = 0) || decide (q4.1 = 1)) (some (1, q4.1)) none)) := by
  rw [xM_fix (nL := 2) (rk := 1) (cd := zC_X5_readNot) rfl rfl rfl rfl]
  with_unfolding_all rfl
noncomputable abbrev xw_X5_readLevel (d : Nat) : xCf → Option (Int × xC) := xgoL zC_X5_readLevel (xM d) (xstop 40) 1
set_option maxRecDepth 100000 in
theorem xm_X5_readLevel (d : Nat) (a1 : Int) (a2 : Int) (C : xC) : xM (d + 1) 40 [.inr (.inr (.inl (24, 13))), .inl a1, .inl a2] C =
  cond (decide (a1 ≠ 5))
  (cond (decide (a1 ≠ 2))
    ((xM d 40 [.inr (.inr (.inl (24, 13))), .inl (w32 (a1 + 1)), .inl a2] C).bind fun q1 =>
      cond (decide (q1.1 ≠ 0))
        (cond (decide (a1 ≠ 2))
          (xw_X5_readLevel d (59, [some (.inr (.inr (.inl (24, 13)))), some (.inl a1), some (.inl a2), some (.inl 30), some (.inl 0), none], [], q1.2))
          (xw_X5_readLevel d (59, [some (.inr (.inr (.inl (24, 13)))), some (.inl a1), some (.inl a2), some (.inl 1), some (.inl 0), none], [], q1.2)))
        (some (0, q1.2)))
    (cond (decide (C 24 4 ≠ 19))
      ((xM d 40 [.inr (.inr (.inl (24, 13))), .inl (w32 (a1 + 1)), .inl a2] C).bind fun q2 =>
        cond (decide (q2.1 ≠ 0))
          (cond (decide (a1 ≠ 2))
            (xw_X5_readLevel d (59, [some (.inr (.inr (.inl (24, 13)))), some (.inl a1), some (.inl a2), some (.inl 30), some (.inl 0), none], [], q2.2))
            (xw_X5_readLevel d (59, [some (.inr (.inr (.inl (24, 13)))), some (.inl a1), some (.inl a2), some (.inl 1), some (.inl 0), none], [], q2.2)))
          (some (0, q2.2)))
      ((xM d 41 [.inr (.inr (.inl (24, 13))), .inl a2] C).bind fun q3 =>
        xfr 1 q3.2 (cond (decide (q3.1 = 0) || decide (q3.1 = 1)) (some (1, q3.1)) none))))
  ((xM d 42 [.inr (.inr (.inl (24, 13))), .inl a2] C).bind fun q4 =>
    xfr 1 q4.2 (cond (decide (q4.1 = 0) || decide (q4.1 = 1)) (some (1, q4.1)) none)) := by
  rw [xM_fix (nL := 6) (rk := 1) (cd := zC_X5_readLevel) rfl rfl rfl rfl]
  with_unfolding_all rfl
set_option maxRecDepth 100000 in
theorem xl_X5_readLevel_59 (d : Nat) (l1 : Int) (l2 : Int) (l3 : Int) (l4 : Int) (o5 : Option xV) (C : xC) : xw_X5_readLevel d (59, [some (.inr (.inr (.inl (24, 13)))), some (.inl l1), some (.inl l2), some (.inl l3), some (.inl l4), o5], [], C) =
  cond (decide (l3 ≤ l4))
  (some (1, C))
  ((xM d 43 [.inr (.inr (.inl (24, 13))), .inl l1] C).bind fun q1 =>
    cond (decide (q1.1 ≠ (-1)))
      ((xM d 49 [.inr (.inr (.inl (24, 13)))] q1.2).bind fun q2 =>
        (xM d 40 [.inr (.inr (.inl (24, 13))), .inl (w32 (l1 + 1)), .inl l2] q2.2).bind fun q3 =>
          cond (decide (q3.1 ≠ 0))
            ((xM d 21 [.inr (.inr (.inl ((q3.2 24 2).toNat, 2))), .inl (q1.1), .inl 0] q3.2).bind fun q4 =>
              xw_X5_readLevel d (59, [some (.inr (.inr (.inl (24, 13)))), some (.inl l1), some (.inl l2), some (.inl l3), some (.inl (w32 (l4 + 1))), some (.inl (q1.1))], [], q4.2))
            (some (0, q3.2)))
      (some (1, q1.2))) := by
  refine (xgoL_fix ?_).trans ?_
  · with_unfolding_all rfl
  · with_unfolding_all rfl
set_option maxRecDepth 100000 in
theorem xm_X5_readFormula (d : Nat) (a1 : Int) (C : xC) : xM (d + 1) 39 [.inr (.inr (.inl (24, 13))), .inl a1] C =
  cond (xix a1 65 && xna 2 ((xst C 24 7 0) (C 24 2).toNat 3))
  ((xM d 40 [.inr (.inr (.inl (24, 13))), .inl 0, .inl 0] (xst (xst C 24 7 0) ((xst C 24 7 0) (C 24 2).toNat 11).toNat (a1).toNat ((xst C 24 7 0) (C 24 2).toNat 3))).bind fun q1 =>
    cond (xix a1 65 && xna 2 (q1.2 (q1.2 24 2).toNat 3))
      (xfr 1 (xst q1.2 (q1.2 (q1.2 24 2).toNat 12).toNat (a1).toNat (q1.2 (q1.2 24 2).toNat 3)) (cond (decide (q1.1 = 0) || decide (q1.1 = 1)) (some (1, q1.1)) none))
      none)
  none := by
  rw [xM_fix (nL := 3) (rk := 1) (cd := zC_X5_readFormula) rfl rfl rfl rfl]
  with_unfolding_all rfl
set_option maxRecDepth 100000 in
theorem xm_X5_readFeast (d : Nat) (a1 : Int) (C : xC) : xM (d + 1) 37 [.inr (.inr (.inl (24, 13))), .inl a1] C =
  (xM d 48 [.inr (.inr (.inl (24, 13))), .inl 5] C).bind fun q1 =>
  cond (decide (q1.1 = 0))
    (some (0, q1.2))
    ((xM d 47 [.inr (.inr (.inl (24, 13))), .inl 0, .inl (w32 ((q1.2 (q1.2 24 2).toNat 0) - 1))] q1.2).bind fun q2 =>
      cond (decide (q2.1 ≠ 0))
        (cond (xix a1 9 && xna 2 (q2.2 24 6))
          (some (1, (xst q2.2 (q2.2 (q2.2 24 2).toNat 7).toNat (a1).toNat (q2.2 24 6))))
          none)
        (some (0, q2.2))) := by
  rw [xM_fix (nL := 2) (rk := 1) (cd := zC_X5_readFeast) rfl rfl rfl rfl]
  with_unfolding_all rfl
