/-! The class’s reader, method by method: printed by a program. -/
noncomputable abbrev xw_X5_readActor (d : Nat) : xCf → Option (Int × xC) := xgoL zC_X5_readActor (xM d) (xstop 38) 1
set_option maxRecDepth 100000 in
theorem xm_X5_readActor (d : Nat) (a1 : Int) (C : xC) : xM (d + 1) 38 [.inr (.inr (.inl (24, 13))), .inl a1] C =
  (xM d 48 [.inr (.inr (.inl (24, 13))), .inl 6] C).bind fun q1 =>
  cond (decide (q1.1 = 0))
    (xw_X5_readActor d (26, [some (.inr (.inr (.inl (24, 13)))), some (.inl a1), none, none], [], q1.2))
    ((xM d 39 [.inr (.inr (.inl (24, 13))), .inl a1] q1.2).bind fun q2 =>
      cond (decide (q2.1 = 0))
        (xw_X5_readActor d (26, [some (.inr (.inr (.inl (24, 13)))), some (.inl a1), none, none], [], q2.2))
        ((xM d 48 [.inr (.inr (.inl (24, 13))), .inl 7] q2.2).bind fun q3 =>
          cond (decide (q3.1 ≠ 0))
            (xw_X5_readActor d (30, [some (.inr (.inr (.inl (24, 13)))), some (.inl a1), some (.inl 0), none], [], q3.2))
            (xw_X5_readActor d (26, [some (.inr (.inr (.inl (24, 13)))), some (.inl a1), none, none], [], q3.2)))) := by
  rw [xM_fix (nL := 4) (rk := 1) (cd := zC_X5_readActor) rfl rfl rfl rfl]
  with_unfolding_all rfl
set_option maxRecDepth 100000 in
theorem xl_X5_readActor_26 (d : Nat) (l1 : Int) (C : xC) : xw_X5_readActor d (26, [some (.inr (.inr (.inl (24, 13)))), some (.inl l1), none, none], [], C) =
  some (0, C) := by
  refine (xgoL_fix ?_).trans ?_
  · with_unfolding_all rfl
  · with_unfolding_all rfl
set_option maxRecDepth 100000 in
theorem xl_X5_readActor_30 (d : Nat) (l1 : Int) (l2 : Int) (o3 : Option xV) (C : xC) : xw_X5_readActor d (30, [some (.inr (.inr (.inl (24, 13)))), some (.inl l1), some (.inl l2), o3], [], C) =
  cond (decide (4 ≤ l2))
  ((xM d 50 [.inr (.inr (.inl (24, 13))), .inl 2] C).bind fun q1 =>
    xfr 1 q1.2 (cond (decide (q1.1 = 0) || decide (q1.1 = 1)) (some (1, q1.1)) none))
  ((xM d 45 [.inr (.inr (.inl (24, 13))), .inl 0] C).bind fun q2 =>
    cond (decide (q2.1 ≠ 0))
      (cond (xix (w32 ((w32 (l1 * 4)) + l2)) 44 && xna 2 (q2.2 24 6))
        ((xM d 48 [.inr (.inr (.inl (24, 13))), .inl 16] (xst q2.2 (q2.2 (q2.2 24 2).toNat 10).toNat (w32 ((w32 (l1 * 4)) + l2)).toNat (q2.2 24 6))).bind fun q3 =>
          cond (decide (q3.1 = 0))
            (xw_X5_readActor d (84, [some (.inr (.inr (.inl (24, 13)))), some (.inl l1), some (.inl l2), some (.inl (w32 ((w32 (l1 * 4)) + l2)))], [], q3.2))
            ((xM d 39 [.inr (.inr (.inl (24, 13))), .inl (w32 (21 + (w32 ((w32 (l1 * 4)) + l2))))] q3.2).bind fun q4 =>
              cond (decide (q4.1 ≠ 0))
                (cond (xix l1 11 && xna 2 (w32 (l2 + 1)))
                  (cond (decide ((xst q4.2 (q4.2 (q4.2 24 2).toNat 9).toNat (l1).toNat (w32 (l2 + 1))) 24 4 = 8))
                    (cond (decide (4 ≤ w32 (l2 + 1)))
                      (xw_X5_readActor d (125, [some (.inr (.inr (.inl (24, 13)))), some (.inl l1), some (.inl l2), some (.inl (w32 ((w32 (l1 * 4)) + l2)))], [], (xst q4.2 (q4.2 (q4.2 24 2).toNat 9).toNat (l1).toNat (w32 (l2 + 1)))))
                      ((xM d 49 [.inr (.inr (.inl (24, 13)))] (xst q4.2 (q4.2 (q4.2 24 2).toNat 9).toNat (l1).toNat (w32 (l2 + 1)))).bind fun q5 =>
                        xw_X5_readActor d (125, [some (.inr (.inr (.inl (24, 13)))), some (.inl l1), some (.inl l2), some (.inl (w32 ((w32 (l1 * 4)) + l2)))], [], q5.2)))
                    ((xM d 48 [.inr (.inr (.inl (24, 13))), .inl 59] (xst q4.2 (q4.2 (q4.2 24 2).toNat 9).toNat (l1).toNat (w32 (l2 + 1)))).bind fun q6 =>
                      xfr 1 q6.2 (cond (decide (q6.1 = 0) || decide (q6.1 = 1)) (some (1, q6.1)) none)))
                  none)
                (xw_X5_readActor d (84, [some (.inr (.inr (.inl (24, 13)))), some (.inl l1), some (.inl l2), some (.inl (w32 ((w32 (l1 * 4)) + l2)))], [], q4.2))))
        none)
      (some (0, q2.2))) := by
  refine (xgoL_fix ?_).trans ?_
  · with_unfolding_all rfl
  · with_unfolding_all rfl
set_option maxRecDepth 100000 in
theorem xl_X5_readActor_84 (d : Nat) (l1 : Int) (l2 : Int) (l3 : Int) (C : xC) : xw_X5_readActor d (84, [some (.inr (.inr (.inl (24, 13)))), some (.inl l1), some (.inl l2), some (.inl l3)], [], C) =
  some (0, C) := by
  refine (xgoL_fix ?_).trans ?_
  · with_unfolding_all rfl
  · with_unfolding_all rfl
set_option maxRecDepth 100000 in
theorem xl_X5_readActor_125 (d : Nat) (l1 : Int) (l2 : Int) (l3 : Int) (C : xC) : xw_X5_readActor d (125, [some (.inr (.inr (.inl (24, 13)))), some (.inl l1), some (.inl l2), some (.inl l3)], [], C) =
  xw_X5_readActor d (30, [some (.inr (.inr (.inl (24, 13)))), some (.inl l1), some (.inl (w32 (l2 + 1))), some (.inl l3)], [], C) := by
  refine (xgoL_fix ?_).trans ?_
  · with_unfolding_all rfl
  · with_unfolding_all rfl
set_option maxRecDepth 100000 in
theorem xm_X5_readGuild (d : Nat) (C : xC) : xM (d + 1) 36 [.inr (.inr (.inl (24, 13)))] C =
  (xM d 44 [.inr (.inr (.inl (24, 13))), .inl 4, .inl 4] C).bind fun q1 =>
  cond (decide (q1.1 = 0))
    (some (0, q1.2))
    ((xM d 48 [.inr (.inr (.inl (24, 13))), .inl 14] q1.2).bind fun q2 =>
      cond (decide (q2.1 = 0))
        (some (0, q2.2))
        ((xM d 45 [.inr (.inr (.inl (24, 13))), .inl 1] q2.2).bind fun q3 =>
          cond (decide (q3.1 ≠ 0))
            (cond (xix (C (C (C 24 2).toNat 4).toNat 4) 4 && xna 2 (q3.2 24 6))
              (cond (xix 4 5 && xna 2 (w32 (((xst q3.2 (q3.2 (q3.2 24 2).toNat 8).toNat (C (C (C 24 2).toNat 4).toNat 4).toNat (q3.2 24 6)) ((xst q3.2 (q3.2 (q3.2 24 2).toNat 8).toNat (C (C (C 24 2).toNat 4).toNat 4).toNat (q3.2 24 6)) ((xst q3.2 (q3.2 (q3.2 24 2).toNat 8).toNat (C (C (C 24 2).toNat 4).toNat 4).toNat (q3.2 24 6)) 24 2).toNat 4).toNat 4) + 1)))
                ((xM d 48 [.inr (.inr (.inl (24, 13))), .inl 15] (xst (xst q3.2 (q3.2 (q3.2 24 2).toNat 8).toNat (C (C (C 24 2).toNat 4).toNat 4).toNat (q3.2 24 6)) ((xst q3.2 (q3.2 (q3.2 24 2).toNat 8).toNat (C (C (C 24 2).toNat 4).toNat 4).toNat (q3.2 24 6)) ((xst q3.2 (q3.2 (q3.2 24 2).toNat 8).toNat (C (C (C 24 2).toNat 4).toNat 4).toNat (q3.2 24 6)) 24 2).toNat 4).toNat 4 (w32 (((xst q3.2 (q3.2 (q3.2 24 2).toNat 8).toNat (C (C (C 24 2).toNat 4).toNat 4).toNat (q3.2 24 6)) ((xst q3.2 (q3.2 (q3.2 24 2).toNat 8).toNat (C (C (C 24 2).toNat 4).toNat 4).toNat (q3.2 24 6)) ((xst q3.2 (q3.2 (q3.2 24 2).toNat 8).toNat (C (C (C 24 2).toNat 4).toNat 4).toNat (q3.2 24 6)) 24 2).toNat 4).toNat 4) + 1)))).bind fun q4 =>
                  cond (decide (q4.1 = 0))
                    (some (0, q4.2))
                    ((xM d 39 [.inr (.inr (.inl (24, 13))), .inl (w32 (17 + (C (C (C 24 2).toNat 4).toNat 4)))] q4.2).bind fun q5 =>
                      cond (decide (q5.1 = 0))
                        (some (0, q5.2))
                        ((xM d 48 [.inr (.inr (.inl (24, 13))), .inl 59] q5.2).bind fun q6 =>
                          cond (decide (q6.1 = 0))
                            (some (0, q6.2))
                            (some (1, q6.2)))))
                none)
              none)
            (some (0, q3.2)))) := by
  rw [xM_fix (nL := 2) (rk := 1) (cd := zC_X5_readGuild) rfl rfl rfl rfl]
  with_unfolding_all rfl
set_option maxRecDepth 100000 in
theorem xm_X5_readAim (d : Nat) (a1 : Int) (C : xC) : xM (d + 1) 35 [.inr (.inr (.inl (24, 13))), .inl a1] C =
  (xM d 20 [.inr (.inr (.inl ((C 24 2).toNat, 2))), .inl a1] C).bind fun q1 =>
  cond (decide (q1.1 = 0))
    ((xM d 49 [.inr (.inr (.inl (24, 13)))] q1.2).bind fun q2 =>
      (xM d 39 [.inr (.inr (.inl (24, 13))), .inl a1] q2.2).bind fun q3 =>
        cond (decide (q3.1 = 0))
          (some (0, q3.2))
          ((xM d 48 [.inr (.inr (.inl (24, 13))), .inl 59] q3.2).bind fun q4 =>
            cond (decide (q4.1 = 0))
              (some (0, q4.2))
              (some (1, q4.2))))
    ((xM d 50 [.inr (.inr (.inl (24, 13))), .inl 2] q1.2).bind fun q5 =>
      xfr 1 q5.2 (cond (decide (q5.1 = 0) || decide (q5.1 = 1)) (some (1, q5.1)) none)) := by
  rw [xM_fix (nL := 2) (rk := 1) (cd := zC_X5_readAim) rfl rfl rfl rfl]
  with_unfolding_all rfl
set_option maxRecDepth 100000 in
theorem xm_X5_readBan (d : Nat) (C : xC) : xM (d + 1) 34 [.inr (.inr (.inl (24, 13)))] C =
  (xM d 44 [.inr (.inr (.inl (24, 13))), .inl 3, .inl 4] C).bind fun q1 =>
  cond (decide (q1.1 = 0))
    (some (0, q1.2))
    ((xM d 37 [.inr (.inr (.inl (24, 13))), .inl (w32 (5 + (C (C (C 24 2).toNat 4).toNat 3)))] q1.2).bind fun q2 =>
      cond (decide (q2.1 ≠ 0))
        (cond (xix 3 5 && xna 2 (w32 ((q2.2 (q2.2 (q2.2 24 2).toNat 4).toNat 3) + 1)))
          ((xM d 48 [.inr (.inr (.inl (24, 13))), .inl 6] (xst q2.2 (q2.2 (q2.2 24 2).toNat 4).toNat 3 (w32 ((q2.2 (q2.2 (q2.2 24 2).toNat 4).toNat 3) + 1)))).bind fun q3 =>
            cond (decide (q3.1 = 0))
              (some (0, q3.2))
              ((xM d 39 [.inr (.inr (.inl (24, 13))), .inl (w32 (11 + (C (C (C 24 2).toNat 4).toNat 3)))] q3.2).bind fun q4 =>
                cond (decide (q4.1 = 0))
                  (some (0, q4.2))
                  ((xM d 48 [.inr (.inr (.inl (24, 13))), .inl 59] q4.2).bind fun q5 =>
                    cond (decide (q5.1 = 0))
                      (some (0, q5.2))
                      (some (1, q5.2)))))
          none)
        (some (0, q2.2))) := by
  rw [xM_fix (nL := 2) (rk := 1) (cd := zC_X5_readBan) rfl rfl rfl rfl]
  with_unfolding_all rfl
set_option maxRecDepth 100000 in
theorem xm_X5_readDeed (d : Nat) (C : xC) : xM (d + 1) 33 [.inr (.inr (.inl (24, 13)))] C =
  (xM d 44 [.inr (.inr (.inl (24, 13))), .inl 2, .inl 6] C).bind fun q1 =>
  cond (decide (q1.1 ≠ 0))
    (cond (xix 2 5 && xna 2 (w32 ((q1.2 (q1.2 (q1.2 24 2).toNat 4).toNat 2) + 1)))
      ((xM d 38 [.inr (.inr (.inl (24, 13))), .inl (w32 ((w32 (5 + ((xst q1.2 (q1.2 (q1.2 24 2).toNat 4).toNat 2 (w32 ((q1.2 (q1.2 (q1.2 24 2).toNat 4).toNat 2) + 1))) ((xst q1.2 (q1.2 (q1.2 24 2).toNat 4).toNat 2 (w32 ((q1.2 (q1.2 (q1.2 24 2).toNat 4).toNat 2) + 1))) ((xst q1.2 (q1.2 (q1.2 24 2).toNat 4).toNat 2 (w32 ((q1.2 (q1.2 (q1.2 24 2).toNat 4).toNat 2) + 1))) 24 2).toNat 4).toNat 2))) - 1))] (xst q1.2 (q1.2 (q1.2 24 2).toNat 4).toNat 2 (w32 ((q1.2 (q1.2 (q1.2 24 2).toNat 4).toNat 2) + 1)))).bind fun q2 =>
        xfr 1 q2.2 (cond (decide (q2.1 = 0) || decide (q2.1 = 1)) (some (1, q2.1)) none))
      none)
    (some (0, q1.2)) := by
  rw [xM_fix (nL := 1) (rk := 1) (cd := zC_X5_readDeed) rfl rfl rfl rfl]
  with_unfolding_all rfl
set_option maxRecDepth 100000 in
theorem xm_X5_readLaw (d : Nat) (C : xC) : xM (d + 1) 32 [.inr (.inr (.inl (24, 13)))] C =
  (xM d 44 [.inr (.inr (.inl (24, 13))), .inl 1, .inl 5] C).bind fun q1 =>
  cond (decide (q1.1 = 0))
    (some (0, q1.2))
    ((xM d 37 [.inr (.inr (.inl (24, 13))), .inl (q1.2 (q1.2 (q1.2 24 2).toNat 4).toNat 1)] q1.2).bind fun q2 =>
      cond (decide (q2.1 ≠ 0))
        (cond (xix 1 5 && xna 2 (w32 ((q2.2 (q2.2 (q2.2 24 2).toNat 4).toNat 1) + 1)))
          ((xM d 38 [.inr (.inr (.inl (24, 13))), .inl (w32 ((w32 (0 + ((xst q2.2 (q2.2 (q2.2 24 2).toNat 4).toNat 1 (w32 ((q2.2 (q2.2 (q2.2 24 2).toNat 4).toNat 1) + 1))) ((xst q2.2 (q2.2 (q2.2 24 2).toNat 4).toNat 1 (w32 ((q2.2 (q2.2 (q2.2 24 2).toNat 4).toNat 1) + 1))) ((xst q2.2 (q2.2 (q2.2 24 2).toNat 4).toNat 1 (w32 ((q2.2 (q2.2 (q2.2 24 2).toNat 4).toNat 1) + 1))) 24 2).toNat 4).toNat 1))) - 1))] (xst q2.2 (q2.2 (q2.2 24 2).toNat 4).toNat 1 (w32 ((q2.2 (q2.2 (q2.2 24 2).toNat 4).toNat 1) + 1)))).bind fun q3 =>
            xfr 1 q3.2 (cond (decide (q3.1 = 0) || decide (q3.1 = 1)) (some (1, q3.1)) none))
          none)
        (some (0, q2.2))) := by
  rw [xM_fix (nL := 1) (rk := 1) (cd := zC_X5_readLaw) rfl rfl rfl rfl]
  with_unfolding_all rfl
set_option maxRecDepth 100000 in
theorem xm_X5_readThing (d : Nat) (C : xC) : xM (d + 1) 31 [.inr (.inr (.inl (24, 13)))] C =
  (xM d 44 [.inr (.inr (.inl (24, 13))), .inl 0, .inl 6] C).bind fun q1 =>
  cond (decide (q1.1 = 0))
    (some (0, q1.2))
    ((xM d 47 [.inr (.inr (.inl (24, 13))), .inl 0, .inl 999] q1.2).bind fun q2 =>
      cond (decide (q2.1 ≠ 0))
        (cond (xix (q2.2 (q2.2 (q2.2 24 2).toNat 4).toNat 0) 6 && xna 2 (q2.2 24 6))
          ((xM d 48 [.inr (.inr (.inl (24, 13))), .inl 3] (xst q2.2 (q2.2 (q2.2 24 2).toNat 5).toNat (q2.2 (q2.2 (q2.2 24 2).toNat 4).toNat 0).toNat (q2.2 24 6))).bind fun q3 =>
            cond (decide (q3.1 = 0))
              (some (0, q3.2))
              ((xM d 47 [.inr (.inr (.inl (24, 13))), .inl (q3.2 24 6), .inl 999] q3.2).bind fun q4 =>
                cond (decide (q4.1 ≠ 0))
                  (cond (xix (q2.2 (q2.2 (q2.2 24 2).toNat 4).toNat 0) 6 && xna 2 (q4.2 24 6))
                    (cond (xix 0 5 && xna 2 (w32 (((xst q4.2 (q4.2 (q4.2 24 2).toNat 6).toNat (q2.2 (q2.2 (q2.2 24 2).toNat 4).toNat 0).toNat (q4.2 24 6)) ((xst q4.2 (q4.2 (q4.2 24 2).toNat 6).toNat (q2.2 (q2.2 (q2.2 24 2).toNat 4).toNat 0).toNat (q4.2 24 6)) ((xst q4.2 (q4.2 (q4.2 24 2).toNat 6).toNat (q2.2 (q2.2 (q2.2 24 2).toNat 4).toNat 0).toNat (q4.2 24 6)) 24 2).toNat 4).toNat 0) + 1)))
                      ((xM d 48 [.inr (.inr (.inl (24, 13))), .inl 59] (xst (xst q4.2 (q4.2 (q4.2 24 2).toNat 6).toNat (q2.2 (q2.2 (q2.2 24 2).toNat 4).toNat 0).toNat (q4.2 24 6)) ((xst q4.2 (q4.2 (q4.2 24 2).toNat 6).toNat (q2.2 (q2.2 (q2.2 24 2).toNat 4).toNat 0).toNat (q4.2 24 6)) ((xst q4.2 (q4.2 (q4.2 24 2).toNat 6).toNat (q2.2 (q2.2 (q2.2 24 2).toNat 4).toNat 0).toNat (q4.2 24 6)) 24 2).toNat 4).toNat 0 (w32 (((xst q4.2 (q4.2 (q4.2 24 2).toNat 6).toNat (q2.2 (q2.2 (q2.2 24 2).toNat 4).toNat 0).toNat (q4.2 24 6)) ((xst q4.2 (q4.2 (q4.2 24 2).toNat 6).toNat (q2.2 (q2.2 (q2.2 24 2).toNat 4).toNat 0).toNat (q4.2 24 6)) ((xst q4.2 (q4.2 (q4.2 24 2).toNat 6).toNat (q2.2 (q2.2 (q2.2 24 2).toNat 4).toNat 0).toNat (q4.2 24 6)) 24 2).toNat 4).toNat 0) + 1)))).bind fun q5 =>
                        xfr 1 q5.2 (cond (decide (q5.1 = 0) || decide (q5.1 = 1)) (some (1, q5.1)) none))
                      none)
                    none)
                  (some (0, q4.2))))
          none)
        (some (0, q2.2))) := by
  rw [xM_fix (nL := 2) (rk := 1) (cd := zC_X5_readThing) rfl rfl rfl rfl]
  with_unfolding_all rfl
set_option maxRecDepth 100000 in
theorem xm_X5_readWeek (d : Nat) (a1 : Int) (C : xC) : xM (d + 1) 30 [.inr (.inr (.inl (24, 13))), .inl a1] C =
  cond (decide (a1 ≠ 0))
  ((xM d 49 [.inr (.inr (.inl (24, 13)))] C).bind fun q1 =>
    (xM d 47 [.inr (.inr (.inl (24, 13))), .inl 2, .inl 9] q1.2).bind fun q2 =>
      cond (decide (q2.1 ≠ 0))
        ((xM d 48 [.inr (.inr (.inl (24, 13))), .inl 1] (xst q2.2 (q2.2 24 2).toNat 0 (q2.2 24 6))).bind fun q3 =>
          cond (decide (q3.1 = 0))
            (some (0, q3.2))
            ((xM d 47 [.inr (.inr (.inl (24, 13))), .inl 1, .inl 6] q3.2).bind fun q4 =>
              cond (decide (q4.1 ≠ 0))
                ((xM d 48 [.inr (.inr (.inl (24, 13))), .inl 59] (xst q4.2 (q4.2 24 2).toNat 1 (q4.2 24 6))).bind fun q5 =>
                  xfr 1 q5.2 (cond (decide (q5.1 = 0) || decide (q5.1 = 1)) (some (1, q5.1)) none))
                (some (0, q4.2))))
        (some (0, q2.2)))
  ((xM d 50 [.inr (.inr (.inl (24, 13))), .inl 2] C).bind fun q6 =>
    xfr 1 q6.2 (cond (decide (q6.1 = 0) || decide (q6.1 = 1)) (some (1, q6.1)) none)) := by
  rw [xM_fix (nL := 2) (rk := 1) (cd := zC_X5_readWeek) rfl rfl rfl rfl]
  with_unfolding_all rfl
noncomputable abbrev xw_X5_reads (d : Nat) : xCf → Option (Int × xC) := xgoL zC_X5_reads (xM d) (xstop 29) 1
set_option maxRecDepth 100000 in
theorem xm_X5_reads (d : Nat) (a1 : Int) (r2 : Nat) (C : xC) : xM (d + 1) 29 [.inr (.inr (.inl (24, 13))), .inl a1, .inr (.inr (.inl (r2, 2)))] C =
  (xM d 84 [.inr (.inr (.inl ((C 24 0).toNat, 15))), .inl a1] C).bind fun q1 =>
  (xM d 18 [.inr (.inr (.inl ((Int.ofNat r2).toNat, 2)))] (xst q1.2 24 2 (Int.ofNat r2))).bind fun q2 =>
    (xM d 49 [.inr (.inr (.inl (24, 13)))] (xst (xst (xst q2.2 24 8 0) 24 9 (-1)) 24 3 (-1))).bind fun q3 =>
      xw_X5_reads d (41, [some (.inr (.inr (.inl (24, 13)))), some (.inl a1), some (.inr (.inr (.inl (r2, 2)))), some (.inl 0)], [], q3.2) := by
  rw [xM_fix (nL := 4) (rk := 1) (cd := zC_X5_reads) rfl rfl rfl rfl]
  with_unfolding_all rfl
set_option maxRecDepth 100000 in
theorem xl_X5_reads_41 (d : Nat) (l1 : Int) (r2 : Nat) (l3 : Int) (C : xC) : xw_X5_reads d (41, [some (.inr (.inr (.inl (24, 13)))), some (.inl l1), some (.inr (.inr (.inl (r2, 2)))), some (.inl l3)], [], C) =
  cond (decide (1700 < l3))
  (xw_X5_reads d (229, [some (.inr (.inr (.inl (24, 13)))), some (.inl l1), some (.inr (.inr (.inl (r2, 2)))), some (.inl l3)], [], C))
  (cond (decide (C 24 8 ≠ 0))
    (xw_X5_reads d (229, [some (.inr (.inr (.inl (24, 13)))), some (.inl l1), some (.inr (.inr (.inl (r2, 2)))), some (.inl l3)], [], C))
    (cond (decide (C 24 4 = 24))
      (xw_X5_reads d (229, [some (.inr (.inr (.inl (24, 13)))), some (.inl l1), some (.inr (.inr (.inl (r2, 2)))), some (.inl l3)], [], C))
      (cond (decide (C 24 4 = 0))
        (cond (decide (l3 ≠ 0))
          ((xM d 30 [.inr (.inr (.inl (24, 13))), .inl 0] C).bind fun q15 =>
            xw_X5_reads d (223, [some (.inr (.inr (.inl (24, 13)))), some (.inl l1), some (.inr (.inr (.inl (r2, 2)))), some (.inl l3)], [], q15.2))
          ((xM d 30 [.inr (.inr (.inl (24, 13))), .inl 1] C).bind fun q16 =>
            xw_X5_reads d (223, [some (.inr (.inr (.inl (24, 13)))), some (.inl l1), some (.inr (.inr (.inl (r2, 2)))), some (.inl l3)], [], q16.2)))
        (cond (decide (C 24 4 = 1))
        ((xM d 50 [.inr (.inr (.inl (24, 13))), .inl 2] C).bind fun q14 =>
          xw_X5_reads d (223, [some (.inr (.inr (.inl (24, 13)))), some (.inl l1), some (.inr (.inr (.inl (r2, 2)))), some (.inl l3)], [], q14.2))
        (cond (decide (C 24 4 = 2))
        ((xM d 31 [.inr (.inr (.inl (24, 13)))] C).bind fun q13 =>
          xw_X5_reads d (223, [some (.inr (.inr (.inl (24, 13)))), some (.inl l1), some (.inr (.inr (.inl (r2, 2)))), some (.inl l3)], [], q13.2))
        (cond (decide (C 24 4 = 3))
        ((xM d 50 [.inr (.inr (.inl (24, 13))), .inl 2] C).bind fun q12 =>
          xw_X5_reads d (223, [some (.inr (.inr (.inl (24, 13)))), some (.inl l1), some (.inr (.inr (.inl (r2, 2)))), some (.inl l3)], [], q12.2))
        (cond (decide (C 24 4 = 4))
        ((xM d 32 [.inr (.inr (.inl (24, 13)))] C).bind fun q11 =>
          xw_X5_reads d (223, [some (.inr (.inr (.inl (24, 13)))), some (.inl l1), some (.inr (.inr (.inl (r2, 2)))), some (.inl l3)], [], q11.2))
        (cond (decide (C 24 4 = 5))
        ((xM d 50 [.inr (.inr (.inl (24, 13))), .inl 2] C).bind fun q10 =>
          xw_X5_reads d (223, [some (.inr (.inr (.inl (24, 13)))), some (.inl l1), some (.inr (.inr (.inl (r2, 2)))), some (.inl l3)], [], q10.2))
        (cond (decide (C 24 4 = 6))
        ((xM d 50 [.inr (.inr (.inl (24, 13))), .inl 2] C).bind fun q9 =>
          xw_X5_reads d (223, [some (.inr (.inr (.inl (24, 13)))), some (.inl l1), some (.inr (.inr (.inl (r2, 2)))), some (.inl l3)], [], q9.2))
        (cond (decide (C 24 4 = 7))
        ((xM d 50 [.inr (.inr (.inl (24, 13))), .inl 2] C).bind fun q8 =>
          xw_X5_reads d (223, [some (.inr (.inr (.inl (24, 13)))), some (.inl l1), some (.inr (.inr (.inl (r2, 2)))), some (.inl l3)], [], q8.2))
        (cond (decide (C 24 4 = 8))
        ((xM d 50 [.inr (.inr (.inl (24, 13))), .inl 2] C).bind fun q7 =>
          xw_X5_reads d (223, [some (.inr (.inr (.inl (24, 13)))), some (.inl l1), some (.inr (.inr (.inl (r2, 2)))), some (.inl l3)], [], q7.2))
        (cond (decide (C 24 4 = 9))
        ((xM d 33 [.inr (.inr (.inl (24, 13)))] C).bind fun q6 =>
          xw_X5_reads d (223, [some (.inr (.inr (.inl (24, 13)))), some (.inl l1), some (.inr (.inr (.inl (r2, 2)))), some (.inl l3)], [], q6.2))
        (cond (decide (C 24 4 = 10))
        ((xM d 34 [.inr (.inr (.inl (24, 13)))] C).bind fun q5 =>
          xw_X5_reads d (223, [some (.inr (.inr (.inl (24, 13)))), some (.inl l1), some (.inr (.inr (.inl (r2, 2)))), some (.inl l3)], [], q5.2))
        (cond (decide (C 24 4 = 11))
        ((xM d 35 [.inr (.inr (.inl (24, 13))), .inl 15] C).bind fun q4 =>
          xw_X5_reads d (223, [some (.inr (.inr (.inl (24, 13)))), some (.inl l1), some (.inr (.inr (.inl (r2, 2)))), some (.inl l3)], [], q4.2))
        (cond (decide (C 24 4 = 12))
        ((xM d 35 [.inr (.inr (.inl (24, 13))), .inl 16] C).bind fun q3 =>
          xw_X5_reads d (223, [some (.inr (.inr (.inl (24, 13)))), some (.inl l1), some (.inr (.inr (.inl (r2, 2)))), some (.inl l3)], [], q3.2))
        (cond (decide (C 24 4 = 13))
        ((xM d 36 [.inr (.inr (.inl (24, 13)))] C).bind fun q2 =>
          xw_X5_reads d (223, [some (.inr (.inr (.inl (24, 13)))), some (.inl l1), some (.inr (.inr (.inl (r2, 2)))), some (.inl l3)], [], q2.2))
        ((xM d 50 [.inr (.inr (.inl (24, 13))), .inl 2] C).bind fun q1 =>
          xw_X5_reads d (223, [some (.inr (.inr (.inl (24, 13)))), some (.inl l1), some (.inr (.inr (.inl (r2, 2)))), some (.inl l3)], [], q1.2)))))))))))))))))) := by
  refine (xgoL_fix ?_).trans ?_
  · with_unfolding_all rfl
  · with_unfolding_all rfl
set_option maxRecDepth 100000 in
theorem xl_X5_reads_223 (d : Nat) (l1 : Int) (r2 : Nat) (l3 : Int) (C : xC) : xw_X5_reads d (223, [some (.inr (.inr (.inl (24, 13)))), some (.inl l1), some (.inr (.inr (.inl (r2, 2)))), some (.inl l3)], [], C) =
  xw_X5_reads d (41, [some (.inr (.inr (.inl (24, 13)))), some (.inl l1), some (.inr (.inr (.inl (r2, 2)))), some (.inl (w32 (l3 + 1)))], [], C) := by
  refine (xgoL_fix ?_).trans ?_
  · with_unfolding_all rfl
  · with_unfolding_all rfl
set_option maxRecDepth 100000 in
theorem xl_X5_reads_229 (d : Nat) (l1 : Int) (r2 : Nat) (l3 : Int) (C : xC) : xw_X5_reads d (229, [some (.inr (.inr (.inl (24, 13)))), some (.inl l1), some (.inr (.inr (.inl (r2, 2)))), some (.inl l3)], [], C) =
  cond (decide (C 24 8 ≠ 0))
  (some (0, C))
  (some (1, C)) := by
  refine (xgoL_fix ?_).trans ?_
  · with_unfolding_all rfl
  · with_unfolding_all rfl
