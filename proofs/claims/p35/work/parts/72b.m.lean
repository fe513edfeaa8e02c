/-! The reference reader, method by method: printed by a program. -/
set_option maxRecDepth 100000 in
theorem xm_X12_toldNumber (d : Nat) (a1 : Int) (a2 : Int) (C : xC) : xM (d + 1) 163 [.inr (.inr (.inl (74, 63))), .inl a1, .inl a2] C =
  cond (decide (C 74 2 ≤ 0))
  (cond (decide (C 74 6 = 2))
    (cond (decide (C 74 8 < a1))
      ((xM d 158 [.inr (.inr (.inl (74, 63))), .inl 4] C).bind fun q1 =>
        cond (decide (q1.2 74 2 ≠ 0))
          (some (q1.2 74 8, q1.2))
          ((xM d 157 [.inr (.inr (.inl (74, 63)))] q1.2).bind fun q2 =>
            some (q1.2 74 8, q2.2)))
      (cond (decide (C 74 8 ≤ a2))
        (cond (decide (C 74 2 ≠ 0))
          (some (C 74 8, C))
          ((xM d 157 [.inr (.inr (.inl (74, 63)))] C).bind fun q3 =>
            some (C 74 8, q3.2)))
        ((xM d 158 [.inr (.inr (.inl (74, 63))), .inl 4] C).bind fun q4 =>
          cond (decide (q4.2 74 2 ≠ 0))
            (some (q4.2 74 8, q4.2))
            ((xM d 157 [.inr (.inr (.inl (74, 63)))] q4.2).bind fun q5 =>
              some (q4.2 74 8, q5.2)))))
    ((xM d 158 [.inr (.inr (.inl (74, 63))), .inl 2] C).bind fun q6 =>
      cond (decide (q6.2 74 2 ≠ 0))
        (some (q6.2 74 8, q6.2))
        ((xM d 157 [.inr (.inr (.inl (74, 63)))] q6.2).bind fun q7 =>
          some (q6.2 74 8, q7.2))))
  (some (0, C)) := by
  rw [xM_fix (nL := 4) (rk := 1) (cd := zC_X12_toldNumber) rfl rfl rfl rfl]
  with_unfolding_all rfl
set_option maxRecDepth 100000 in
theorem xm_X12_told (d : Nat) (a1 : Int) (a2 : Int) (a3 : Int) (C : xC) : xM (d + 1) 164 [.inr (.inr (.inl (74, 63))), .inr (.inl a1), .inl a2, .inl a3] C =
  (xM d 162 [.inr (.inr (.inl (74, 63))), .inr (.inl a1)] C).bind fun q1 =>
  (xM d 163 [.inr (.inr (.inl (74, 63))), .inl a2, .inl a3] q1.2).bind fun q2 =>
    some (q2.1, q2.2) := by
  rw [xM_fix (nL := 5) (rk := 1) (cd := zC_X12_told) rfl rfl rfl rfl]
  with_unfolding_all rfl
noncomputable abbrev xw_X12_find (d : Nat) : xCf → Option (Int × xC) := xgoL zC_X12_find (xM d) (xstop 165) 1
set_option maxRecDepth 100000 in
theorem xm_X12_find (d : Nat) (a1 : Int) (a2 : Int) (C : xC) : xM (d + 1) 165 [.inr (.inr (.inl (74, 63))), .inl a1, .inl a2] C =
  xw_X12_find d (5, [some (.inr (.inr (.inl (74, 63)))), some (.inl a1), some (.inl a2), some (.inl (-1)), some (.inl 0)], [], C) := by
  rw [xM_fix (nL := 5) (rk := 1) (cd := zC_X12_find) rfl rfl rfl rfl]
  with_unfolding_all rfl
set_option maxRecDepth 100000 in
theorem xl_X12_find_5 (d : Nat) (l1 : Int) (l2 : Int) (l3 : Int) (l4 : Int) (C : xC) : xw_X12_find d (5, [some (.inr (.inr (.inl (74, 63)))), some (.inl l1), some (.inl l2), some (.inl l3), some (.inl l4)], [], C) =
  cond (decide (l2 ≤ l4))
  (some (l3, C))
  (cond (xix (w32 (l1 + l4)) 28)
    (cond (decide (cond (decide (C 74 9 < C (C 74 10).toNat ((w32 (l1 + l4)).toNat))) 1 (cond (decide (C (C 74 10).toNat ((w32 (l1 + l4)).toNat) = C 74 9)) 0 (-1)) ≠ 0))
      (xw_X12_find d (5, [some (.inr (.inr (.inl (74, 63)))), some (.inl l1), some (.inl l2), some (.inl l3), some (.inl (w32 (l4 + 1)))], [], C))
      (xw_X12_find d (5, [some (.inr (.inr (.inl (74, 63)))), some (.inl l1), some (.inl l2), some (.inl l4), some (.inl (w32 (l4 + 1)))], [], C)))
    none) := by
  refine (xgoL_fix ?_).trans ?_
  · with_unfolding_all rfl
  · with_unfolding_all rfl
set_option maxRecDepth 100000 in
theorem xm_X12_newName (d : Nat) (a1 : Int) (a2 : Int) (C : xC) : xM (d + 1) 166 [.inr (.inr (.inl (74, 63))), .inl a1, .inl a2] C =
  (xM d 157 [.inr (.inr (.inl (74, 63)))] C).bind fun q1 =>
  (xM d 161 [.inr (.inr (.inl (74, 63)))] q1.2).bind fun q2 =>
    cond (decide (q2.1 ≠ 0))
      ((xM d 165 [.inr (.inr (.inl (74, 63))), .inl a1, .inl a2] q2.2).bind fun q3 =>
        cond (decide (q3.1 < 0))
          (cond (decide (q3.2 74 2 ≤ 0))
            (cond (xix (w32 (a1 + a2)) 28)
              ((xM d 157 [.inr (.inr (.inl (74, 63)))] (xst q3.2 (q3.2 74 10).toNat (w32 (a1 + a2)).toNat (q3.2 74 9))).bind fun q4 =>
                some (0, q4.2))
              none)
            (some (0, q3.2)))
          ((xM d 158 [.inr (.inr (.inl (74, 63))), .inl 3] q3.2).bind fun q5 =>
            cond (decide (q5.2 74 2 ≤ 0))
              (cond (xix (w32 (a1 + a2)) 28)
                ((xM d 157 [.inr (.inr (.inl (74, 63)))] (xst q5.2 (q5.2 74 10).toNat (w32 (a1 + a2)).toNat (q5.2 74 9))).bind fun q6 =>
                  some (0, q6.2))
                none)
              (some (0, q5.2))))
      ((xM d 158 [.inr (.inr (.inl (74, 63))), .inl 2] q2.2).bind fun q7 =>
        cond (decide (q7.2 74 2 ≤ 0))
          (cond (xix (w32 (a1 + a2)) 28)
            ((xM d 157 [.inr (.inr (.inl (74, 63)))] (xst q7.2 (q7.2 74 10).toNat (w32 (a1 + a2)).toNat (q7.2 74 9))).bind fun q8 =>
              some (0, q8.2))
            none)
          (some (0, q7.2))) := by
  rw [xM_fix (nL := 3) (rk := 0) (cd := zC_X12_newName) rfl rfl rfl rfl]
  with_unfolding_all rfl
set_option maxRecDepth 100000 in
theorem xm_X12_oldName (d : Nat) (a1 : Int) (a2 : Int) (C : xC) : xM (d + 1) 167 [.inr (.inr (.inl (74, 63))), .inl a1, .inl a2] C =
  cond (decide (C 74 2 ≤ 0))
  ((xM d 161 [.inr (.inr (.inl (74, 63)))] C).bind fun q1 =>
    cond (decide (q1.1 ≠ 0))
      ((xM d 165 [.inr (.inr (.inl (74, 63))), .inl a1, .inl a2] q1.2).bind fun q2 =>
        cond (decide (0 ≤ q2.1))
          (cond (decide (q2.2 74 2 ≤ 0))
            ((xM d 165 [.inr (.inr (.inl (74, 63))), .inl a1, .inl a2] q2.2).bind fun q3 =>
              cond (decide (q3.2 74 2 ≠ 0))
                (some (q3.1, q3.2))
                ((xM d 157 [.inr (.inr (.inl (74, 63)))] q3.2).bind fun q4 =>
                  some (q3.1, q4.2)))
            (cond (decide (q2.2 74 2 ≠ 0))
              (some (0, q2.2))
              ((xM d 157 [.inr (.inr (.inl (74, 63)))] q2.2).bind fun q5 =>
                some (0, q5.2))))
          ((xM d 158 [.inr (.inr (.inl (74, 63))), .inl 5] q2.2).bind fun q6 =>
            cond (decide (q6.2 74 2 ≤ 0))
              ((xM d 165 [.inr (.inr (.inl (74, 63))), .inl a1, .inl a2] q6.2).bind fun q7 =>
                cond (decide (q7.2 74 2 ≠ 0))
                  (some (q7.1, q7.2))
                  ((xM d 157 [.inr (.inr (.inl (74, 63)))] q7.2).bind fun q8 =>
                    some (q7.1, q8.2)))
              (cond (decide (q6.2 74 2 ≠ 0))
                (some (0, q6.2))
                ((xM d 157 [.inr (.inr (.inl (74, 63)))] q6.2).bind fun q9 =>
                  some (0, q9.2)))))
      ((xM d 158 [.inr (.inr (.inl (74, 63))), .inl 2] q1.2).bind fun q10 =>
        cond (decide (q10.2 74 2 ≤ 0))
          ((xM d 165 [.inr (.inr (.inl (74, 63))), .inl a1, .inl a2] q10.2).bind fun q11 =>
            cond (decide (q11.2 74 2 ≠ 0))
              (some (q11.1, q11.2))
              ((xM d 157 [.inr (.inr (.inl (74, 63)))] q11.2).bind fun q12 =>
                some (q11.1, q12.2)))
          (cond (decide (q10.2 74 2 ≠ 0))
            (some (0, q10.2))
            ((xM d 157 [.inr (.inr (.inl (74, 63)))] q10.2).bind fun q13 =>
              some (0, q13.2)))))
  (some (0, C)) := by
  rw [xM_fix (nL := 4) (rk := 1) (cd := zC_X12_oldName) rfl rfl rfl rfl]
  with_unfolding_all rfl
set_option maxRecDepth 100000 in
theorem xm_X12_add (d : Nat) (a1 : Int) (a2 : Int) (C : xC) : xM (d + 1) 168 [.inr (.inr (.inl (74, 63))), .inl a1, .inl a2] C =
  cond (xix (C 74 23) 2400 && xna 2 a1)
  (cond (xix ((xst C (C 74 11).toNat (C 74 23).toNat a1) 74 23) 2400 && xna 2 a2)
    (some (0, (xst (xst (xst C (C 74 11).toNat (C 74 23).toNat a1) ((xst C (C 74 11).toNat (C 74 23).toNat a1) 74 12).toNat ((xst C (C 74 11).toNat (C 74 23).toNat a1) 74 23).toNat a2) 74 23 (w32 (((xst (xst C (C 74 11).toNat (C 74 23).toNat a1) ((xst C (C 74 11).toNat (C 74 23).toNat a1) 74 12).toNat ((xst C (C 74 11).toNat (C 74 23).toNat a1) 74 23).toNat a2) 74 23) + 1)))))
    none)
  none := by
  rw [xM_fix (nL := 3) (rk := 0) (cd := zC_X12_add) rfl rfl rfl rfl]
  with_unfolding_all rfl
set_option maxRecDepth 100000 in
theorem xm_X12_tight (d : Nat) (a0 : Int) (C : xC) : xM (d + 1) 169 [.inl a0] C =
  cond (decide (a0 = 21))
  (some (3, C))
  (cond (decide (a0 = 38))
  (some (2, C))
  (cond (decide (a0 = 43))
  (some (5, C))
  (cond (decide (a0 = 45))
  (some (5, C))
  (cond (decide (a0 = 60))
  (some (4, C))
  (cond (decide (a0 = 61))
  (some (4, C))
  (cond (decide (a0 = 62))
  (some (4, C))
  (cond (decide (a0 = 124))
  (some (1, C))
  (some (6, C))))))))) := by
  rw [xM_fix (nL := 1) (rk := 1) (cd := zC_X12_tight) rfl rfl rfl rfl]
  with_unfolding_all rfl
noncomputable abbrev xw_X12_close (d : Nat) : xCf → Option (Int × xC) := xgoL zC_X12_close (xM d) (xstop 170) 0
set_option maxRecDepth 100000 in
theorem xm_X12_close (d : Nat) (a1 : Int) (C : xC) : xM (d + 1) 170 [.inr (.inr (.inl (74, 63))), .inl a1] C =
  cond (decide (C 74 22 ≤ 0))
  (some (0, C))
  (cond (xix (w32 ((C 74 22) - 1)) 160)
    (cond (decide (C (C 74 19).toNat ((w32 ((C 74 22) - 1)).toNat) = 20))
      (some (0, C))
      (cond (xix (w32 ((C 74 22) - 1)) 160)
        ((xM d 169 [.inl (C (C 74 19).toNat ((w32 ((C 74 22) - 1)).toNat))] C).bind fun q1 =>
          cond (decide (q1.1 < a1))
            (some (0, q1.2))
            (cond (xix (w32 ((q1.2 74 22) - 1)) 160)
              (cond (decide ((xst q1.2 74 22 (w32 ((q1.2 74 22) - 1))) (q1.2 74 19).toNat ((w32 ((q1.2 74 22) - 1)).toNat) ≠ 21))
                (cond (xix (w32 ((q1.2 74 22) - 1)) 160)
                  ((xM d 168 [.inr (.inr (.inl (74, 63))), .inl 3, .inl ((xst q1.2 74 22 (w32 ((q1.2 74 22) - 1))) (q1.2 74 19).toNat ((w32 ((q1.2 74 22) - 1)).toNat))] (xst q1.2 74 22 (w32 ((q1.2 74 22) - 1)))).bind fun q2 =>
                    xw_X12_close d (0, [some (.inr (.inr (.inl (74, 63)))), some (.inl a1)], [], q2.2))
                  none)
                ((xM d 168 [.inr (.inr (.inl (74, 63))), .inl 2, .inl 0] (xst q1.2 74 22 (w32 ((q1.2 74 22) - 1)))).bind fun q3 =>
                  xw_X12_close d (0, [some (.inr (.inr (.inl (74, 63)))), some (.inl a1)], [], (xst q3.2 74 27 (w32 ((q3.2 74 27) - 1))))))
              none))
        none))
    none) := by
  rw [xM_fix (nL := 2) (rk := 0) (cd := zC_X12_close) rfl rfl rfl rfl]
  with_unfolding_all rfl
set_option maxRecDepth 100000 in
theorem xl_X12_close_0 (d : Nat) (l1 : Int) (C : xC) : xw_X12_close d (0, [some (.inr (.inr (.inl (74, 63)))), some (.inl l1)], [], C) =
  cond (decide (C 74 22 ≤ 0))
  (some (0, C))
  (cond (xix (w32 ((C 74 22) - 1)) 160)
    (cond (decide (C (C 74 19).toNat ((w32 ((C 74 22) - 1)).toNat) = 20))
      (some (0, C))
      (cond (xix (w32 ((C 74 22) - 1)) 160)
        ((xM d 169 [.inl (C (C 74 19).toNat ((w32 ((C 74 22) - 1)).toNat))] C).bind fun q1 =>
          cond (decide (q1.1 < l1))
            (some (0, q1.2))
            (cond (xix (w32 ((q1.2 74 22) - 1)) 160)
              (cond (decide ((xst q1.2 74 22 (w32 ((q1.2 74 22) - 1))) (q1.2 74 19).toNat ((w32 ((q1.2 74 22) - 1)).toNat) ≠ 21))
                (cond (xix (w32 ((q1.2 74 22) - 1)) 160)
                  ((xM d 168 [.inr (.inr (.inl (74, 63))), .inl 3, .inl ((xst q1.2 74 22 (w32 ((q1.2 74 22) - 1))) (q1.2 74 19).toNat ((w32 ((q1.2 74 22) - 1)).toNat))] (xst q1.2 74 22 (w32 ((q1.2 74 22) - 1)))).bind fun q2 =>
                    xw_X12_close d (0, [some (.inr (.inr (.inl (74, 63)))), some (.inl l1)], [], q2.2))
                  none)
                ((xM d 168 [.inr (.inr (.inl (74, 63))), .inl 2, .inl 0] (xst q1.2 74 22 (w32 ((q1.2 74 22) - 1)))).bind fun q3 =>
                  xw_X12_close d (0, [some (.inr (.inr (.inl (74, 63)))), some (.inl l1)], [], (xst q3.2 74 27 (w32 ((q3.2 74 27) - 1))))))
              none))
        none))
    none) := by
  refine (xgoL_fix ?_).trans ?_
  · with_unfolding_all rfl
  · with_unfolding_all rfl
noncomputable abbrev xw_X12_hasRelation (d : Nat) : xCf → Option (Int × xC) := xgoL zC_X12_hasRelation (xM d) (xstop 171) 1
set_option maxRecDepth 100000 in
theorem xm_X12_hasRelation (d : Nat) (C : xC) : xM (d + 1) 171 [.inr (.inr (.inl (74, 63)))] C =
  xw_X12_hasRelation d (7, [some (.inr (.inr (.inl (74, 63)))), some (.inl (w32 ((C 74 22) - 1)))], [], C) := by
  rw [xM_fix (nL := 2) (rk := 1) (cd := zC_X12_hasRelation) rfl rfl rfl rfl]
  with_unfolding_all rfl
set_option maxRecDepth 100000 in
theorem xl_X12_hasRelation_7 (d : Nat) (l1 : Int) (C : xC) : xw_X12_hasRelation d (7, [some (.inr (.inr (.inl (74, 63)))), some (.inl l1)], [], C) =
  cond (decide (l1 < 0))
  (cond (decide (l1 < 0))
    (some (0, C))
    (cond (xix l1 160)
      (cond (decide (C (C 74 19).toNat ((l1).toNat) = 20))
        (some (0, C))
        (cond (xix l1 160)
          ((xM d 169 [.inl (C (C 74 19).toNat ((l1).toNat))] C).bind fun q1 =>
            cond (decide (q1.1 ≠ 4))
              (some (0, q1.2))
              (some (1, q1.2)))
          none))
      none))
  (cond (xix l1 160)
    (cond (decide (C (C 74 19).toNat ((l1).toNat) = 20))
      (cond (decide (l1 < 0))
        (some (0, C))
        (cond (xix l1 160)
          (cond (decide (C (C 74 19).toNat ((l1).toNat) = 20))
            (some (0, C))
            (cond (xix l1 160)
              ((xM d 169 [.inl (C (C 74 19).toNat ((l1).toNat))] C).bind fun q2 =>
                cond (decide (q2.1 ≠ 4))
                  (some (0, q2.2))
                  (some (1, q2.2)))
              none))
          none))
      (cond (xix l1 160)
        ((xM d 169 [.inl (C (C 74 19).toNat ((l1).toNat))] C).bind fun q3 =>
          cond (decide (q3.1 ≤ 4))
            (cond (decide (l1 < 0))
              (some (0, q3.2))
              (cond (xix l1 160)
                (cond (decide (q3.2 (q3.2 74 19).toNat ((l1).toNat) = 20))
                  (some (0, q3.2))
                  (cond (xix l1 160)
                    ((xM d 169 [.inl (q3.2 (q3.2 74 19).toNat ((l1).toNat))] q3.2).bind fun q4 =>
                      cond (decide (q4.1 ≠ 4))
                        (some (0, q4.2))
                        (some (1, q4.2)))
                    none))
                none))
            (xw_X12_hasRelation d (7, [some (.inr (.inr (.inl (74, 63)))), some (.inl (w32 (l1 + (-1))))], [], q3.2)))
        none))
    none) := by
  refine (xgoL_fix ?_).trans ?_
  · with_unfolding_all rfl
  · with_unfolding_all rfl
set_option maxRecDepth 100000 in
theorem xm_X12_mayNot (d : Nat) (C : xC) : xM (d + 1) 172 [.inr (.inr (.inl (74, 63)))] C =
  cond (decide (C 74 22 = 0))
  (some (1, C))
  (cond (xix (w32 ((C 74 22) - 1)) 160)
    (cond (decide (C (C 74 19).toNat ((w32 ((C 74 22) - 1)).toNat) = 20))
      (some (1, C))
      (cond (xix (w32 ((C 74 22) - 1)) 160)
        ((xM d 169 [.inl (C (C 74 19).toNat ((w32 ((C 74 22) - 1)).toNat))] C).bind fun q1 =>
          cond (decide (4 ≤ q1.1))
            (some (0, q1.2))
            (some (1, q1.2)))
        none))
    none) := by
  rw [xM_fix (nL := 1) (rk := 1) (cd := zC_X12_mayNot) rfl rfl rfl rfl]
  with_unfolding_all rfl
