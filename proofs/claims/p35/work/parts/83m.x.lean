/-! The evaluators, method by method: printed by a program. -/
noncomputable abbrev xw_J7_fill_53178_left (d : Nat) : xCf → Option (Int × xC) := xgoL zC_J7_fill_53178 (xM d) (xstop 272) 0
set_option maxRecDepth 100000 in
theorem xm_J7_fill_53178_left (d : Nat) (r0 : Nat) (a1 : Int) (C : xC) : xM (d + 1) 272 [.inr (.inr (.inl (r0, 57))), .inl a1] C =
  xw_J7_fill_53178_left d (5, [some (.inr (.inr (.inl (r0, 57)))), some (.inl a1), some (.inl 0), some (.inl 6000)], [], C) := by
  rw [xM_fix (nL := 4) (rk := 0) (cd := zC_J7_fill_53178) rfl rfl rfl rfl]
  with_unfolding_all rfl
set_option maxRecDepth 100000 in
theorem xl_J7_fill_53178_left_5 (d : Nat) (r0 : Nat) (l1 : Int) (l2 : Int) (l3 : Int) (C : xC) : xw_J7_fill_53178_left d (5, [some (.inr (.inr (.inl (r0, 57)))), some (.inl l1), some (.inl l2), some (.inl l3)], [], C) =
  cond (decide (l3 ≤ l2))
  (some (0, C))
  (cond (xix l2 6000 && xna 2 l1)
    (xw_J7_fill_53178_left d (5, [some (.inr (.inr (.inl (r0, 57)))), some (.inl l1), some (.inl (w32 (l2 + 1))), some (.inl l3)], [], (xst C r0 (l2).toNat l1)))
    none) := by
  refine (xgoL_fix ?_).trans ?_
  · with_unfolding_all rfl
  · with_unfolding_all rfl
noncomputable abbrev xw_X2_leftAtMost (d : Nat) : xCf → Option (Int × xC) := xgoL zC_X2_leftAtMost (xM d) (xstop 16) 1
set_option maxRecDepth 100000 in
theorem xm_X2_leftAtMost (d : Nat) (a1 : Int) (C : xC) : xM (d + 1) 16 [.inr (.inr (.inl (65, 54))), .inl a1] C =
  xw_X2_leftAtMost d (4, [some (.inr (.inr (.inl (65, 54)))), some (.inl a1), some (.inl 0), some (.inl 0)], [], C) := by
  rw [xM_fix (nL := 4) (rk := 1) (cd := zC_X2_leftAtMost) rfl rfl rfl rfl]
  with_unfolding_all rfl
set_option maxRecDepth 100000 in
theorem xl_X2_leftAtMost_4 (d : Nat) (l1 : Int) (l2 : Int) (l3 : Int) (C : xC) : xw_X2_leftAtMost d (4, [some (.inr (.inr (.inl (65, 54)))), some (.inl l1), some (.inl l2), some (.inl l3)], [], C) =
  cond (decide (1000 ≤ l3))
  (some (l2, C))
  (cond (xix (w32 ((w32 (l1 * 1000)) + l3)) 6000)
    (xw_X2_leftAtMost d (4, [some (.inr (.inr (.inl (65, 54)))), some (.inl l1), some (.inl (max l2 (C (C 65 5).toNat ((w32 ((w32 (l1 * 1000)) + l3)).toNat)))), some (.inl (w32 (l3 + 1)))], [], C))
    none) := by
  refine (xgoL_fix ?_).trans ?_
  · with_unfolding_all rfl
  · with_unfolding_all rfl
noncomputable abbrev xw_X2_tellingMost (d : Nat) : xCf → Option (Int × xC) := xgoL zC_X2_tellingMost (xM d) (xstop 15) 1
set_option maxRecDepth 100000 in
theorem xm_X2_tellingMost (d : Nat) (a1 : Int) (C : xC) : xM (d + 1) 15 [.inr (.inr (.inl (65, 54))), .inl a1] C =
  xw_X2_tellingMost d (4, [some (.inr (.inr (.inl (65, 54)))), some (.inl a1), some (.inl 0), some (.inl 1)], [], C) := by
  rw [xM_fix (nL := 4) (rk := 1) (cd := zC_X2_tellingMost) rfl rfl rfl rfl]
  with_unfolding_all rfl
set_option maxRecDepth 100000 in
theorem xl_X2_tellingMost_4 (d : Nat) (l1 : Int) (l2 : Int) (l3 : Int) (C : xC) : xw_X2_tellingMost d (4, [some (.inr (.inr (.inl (65, 54)))), some (.inl l1), some (.inl l2), some (.inl l3)], [], C) =
  cond (decide (l1 ≤ l3))
  (some (l2, C))
  ((xM d 16 [.inr (.inr (.inl (65, 54))), .inl l3] C).bind fun q1 =>
    (xM d 16 [.inr (.inr (.inl (65, 54))), .inl l2] q1.2).bind fun q2 =>
      cond (decide (q2.1 ≤ q1.1))
        (xw_X2_tellingMost d (4, [some (.inr (.inr (.inl (65, 54)))), some (.inl l1), some (.inl l2), some (.inl (w32 (l3 + 1)))], [], q2.2))
        (xw_X2_tellingMost d (4, [some (.inr (.inr (.inl (65, 54)))), some (.inl l1), some (.inl l3), some (.inl (w32 (l3 + 1)))], [], q2.2))) := by
  refine (xgoL_fix ?_).trans ?_
  · with_unfolding_all rfl
  · with_unfolding_all rfl
set_option maxRecDepth 100000 in
theorem xm_X11_ask (d : Nat) (a1 : Int) (a2 : Int) (a3 : Int) (C : xC) : xM (d + 1) 145 [.inr (.inr (.inl (0, 0))), .inl a1, .inl a2, .inl a3] C =
  cond (decide (a1 < 0))
  (some ((-1), C))
  (cond (decide (60 < a1))
    (some ((-1), C))
    (cond (decide (a2 < 0))
      (some ((-1), C))
      (cond (decide (1 < a2))
        (some ((-1), C))
        (cond (decide (C (C (C 0 3).toNat 4).toNat 0 ≠ 0))
          ((xM d 11 [.inr (.inr (.inl ((C 0 17).toNat, 54))), .inr (.inr (.inl ((C 0 3).toNat, 2))), .inl a3, .inl a1] C).bind fun q1 =>
            cond (decide (q1.1 ≠ (-2)))
              (cond (decide (q1.1 ≠ 0))
                ((xM d 15 [.inr (.inr (.inl ((q1.2 0 17).toNat, 54))), .inl (q1.2 (q1.2 (q1.2 0 3).toNat 4).toNat 0)] q1.2).bind fun q2 =>
                  cond (decide (a2 ≠ 0))
                    ((xM d 16 [.inr (.inr (.inl ((q2.2 0 17).toNat, 54))), .inl (q2.1)] q2.2).bind fun q3 =>
                      some (q3.1, q3.2))
                    (some (q2.1, q2.2)))
                (some ((-1), q1.2)))
              (some ((-2), q1.2)))
          (some ((-1), C)))))) := by
  rw [xM_fix (nL := 6) (rk := 1) (cd := zC_X11_ask) rfl rfl rfl rfl]
  with_unfolding_all rfl
