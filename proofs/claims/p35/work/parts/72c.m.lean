/-! The reference reader, method by method: printed by a program. -/
set_option maxRecDepth 100000 in
theorem xm_X12_isFull (d : Nat) (C : xC) : xM (d + 1) 173 [.inr (.inr (.inl (74, 63)))] C =
  cond (decide (C 74 24 = 150))
  (some (1, C))
  (cond (decide (C 74 26 ≠ 30))
    (some (0, C))
    (some (1, C))) := by
  rw [xM_fix (nL := 1) (rk := 1) (cd := zC_X12_isFull) rfl rfl rfl rfl]
  with_unfolding_all rfl
set_option maxRecDepth 100000 in
theorem xm_X12_countUnit (d : Nat) (C : xC) : xM (d + 1) 174 [.inr (.inr (.inl (74, 63)))] C =
  some (0, (xst (xst C 74 24 (w32 ((C 74 24) + 1))) 74 26 (w32 ((C 74 26) + 1)))) := by
  rw [xM_fix (nL := 1) (rk := 0) (cd := zC_X12_countUnit) rfl rfl rfl rfl]
  with_unfolding_all rfl
set_option maxRecDepth 100000 in
theorem xm_X12_openUp (d : Nat) (a1 : Int) (C : xC) : xM (d + 1) 175 [.inr (.inr (.inl (74, 63))), .inl a1] C =
  cond (xix (C 74 22) 160 && xna 2 a1)
  (cond (decide ((xst C (C 74 19).toNat (C 74 22).toNat a1) 74 2 ≠ 0))
    (some (0, (xst (xst (xst C (C 74 19).toNat (C 74 22).toNat a1) 74 22 (w32 (((xst C (C 74 19).toNat (C 74 22).toNat a1) 74 22) + 1))) 74 27 (w32 (((xst C (C 74 19).toNat (C 74 22).toNat a1) 74 27) + 1)))))
    ((xM d 157 [.inr (.inr (.inl (74, 63)))] (xst (xst (xst C (C 74 19).toNat (C 74 22).toNat a1) 74 22 (w32 (((xst C (C 74 19).toNat (C 74 22).toNat a1) 74 22) + 1))) 74 27 (w32 (((xst C (C 74 19).toNat (C 74 22).toNat a1) 74 27) + 1)))).bind fun q1 =>
      some (0, q1.2)))
  none := by
  rw [xM_fix (nL := 2) (rk := 0) (cd := zC_X12_openUp) rfl rfl rfl rfl]
  with_unfolding_all rfl
noncomputable abbrev xw_X12_unit (d : Nat) : xCf → Option (Int × xC) := xgoL zC_X12_unit (xM d) (xstop 176) 0
set_option maxRecDepth 100000 in
theorem xm_X12_unit (d : Nat) (C : xC) : xM (d + 1) 176 [.inr (.inr (.inl (74, 63)))] C =
  xw_X12_unit d (2, [some (.inr (.inr (.inl (74, 63)))), some (.inl 1), none], [], C) := by
  rw [xM_fix (nL := 3) (rk := 0) (cd := zC_X12_unit) rfl rfl rfl rfl]
  with_unfolding_all rfl
set_option maxRecDepth 100000 in
theorem xl_X12_unit_2 (d : Nat) (l1 : Int) (C : xC) : xw_X12_unit d (2, [some (.inr (.inr (.inl (74, 63)))), some (.inl l1), none], [], C) =
  cond (decide (l1 = 0))
  (xw_X12_unit d (101, [some (.inr (.inr (.inl (74, 63)))), some (.inl l1), none], [], C))
  (cond (decide (C 74 2 ≠ 0))
    (xw_X12_unit d (101, [some (.inr (.inr (.inl (74, 63)))), some (.inl l1), none], [], C))
    ((xM d 159 [.inr (.inr (.inl (74, 63))), .inr (.inl 7237492)] C).bind fun q1 =>
      cond (decide (q1.1 = 0))
        (xw_X12_unit d (53, [some (.inr (.inr (.inl (74, 63)))), some (.inl l1), none], [], q1.2))
        ((xM d 172 [.inr (.inr (.inl (74, 63)))] q1.2).bind fun q2 =>
          cond (decide (q2.1 = 0))
            (xw_X12_unit d (53, [some (.inr (.inr (.inl (74, 63)))), some (.inl l1), none], [], q2.2))
            (cond (decide (q2.2 74 27 ≤ 6))
              (xw_X12_unit d (44, [some (.inr (.inr (.inl (74, 63)))), some (.inl l1), none], [], q2.2))
              ((xM d 158 [.inr (.inr (.inl (74, 63))), .inl 2] q2.2).bind fun q3 =>
                xw_X12_unit d (44, [some (.inr (.inr (.inl (74, 63)))), some (.inl l1), none], [], q3.2)))))) := by
  refine (xgoL_fix ?_).trans ?_
  · with_unfolding_all rfl
  · with_unfolding_all rfl
set_option maxRecDepth 100000 in
theorem xl_X12_unit_44 (d : Nat) (l1 : Int) (C : xC) : xw_X12_unit d (44, [some (.inr (.inr (.inl (74, 63)))), some (.inl l1), none], [], C) =
  (xM d 175 [.inr (.inr (.inl (74, 63))), .inl 21] C).bind fun q1 =>
  xw_X12_unit d (2, [some (.inr (.inr (.inl (74, 63)))), some (.inl l1), none], [], q1.2) := by
  refine (xgoL_fix ?_).trans ?_
  · with_unfolding_all rfl
  · with_unfolding_all rfl
set_option maxRecDepth 100000 in
theorem xl_X12_unit_53 (d : Nat) (l1 : Int) (C : xC) : xw_X12_unit d (53, [some (.inr (.inr (.inl (74, 63)))), some (.inl l1), none], [], C) =
  cond (decide (C 74 6 ≠ 40))
  (xw_X12_unit d (2, [some (.inr (.inr (.inl (74, 63)))), some (.inl 0), none], [], C))
  ((xM d 173 [.inr (.inr (.inl (74, 63)))] C).bind fun q1 =>
    cond (decide (q1.1 ≠ 0))
      (xw_X12_unit d (78, [some (.inr (.inr (.inl (74, 63)))), some (.inl l1), none], [], q1.2))
      (cond (decide (q1.2 74 27 ≤ 6))
        (xw_X12_unit d (83, [some (.inr (.inr (.inl (74, 63)))), some (.inl l1), none], [], q1.2))
        (xw_X12_unit d (78, [some (.inr (.inr (.inl (74, 63)))), some (.inl l1), none], [], q1.2)))) := by
  refine (xgoL_fix ?_).trans ?_
  · with_unfolding_all rfl
  · with_unfolding_all rfl
set_option maxRecDepth 100000 in
theorem xl_X12_unit_78 (d : Nat) (l1 : Int) (C : xC) : xw_X12_unit d (78, [some (.inr (.inr (.inl (74, 63)))), some (.inl l1), none], [], C) =
  (xM d 158 [.inr (.inr (.inl (74, 63))), .inl 2] C).bind fun q1 =>
  xw_X12_unit d (83, [some (.inr (.inr (.inl (74, 63)))), some (.inl l1), none], [], q1.2) := by
  refine (xgoL_fix ?_).trans ?_
  · with_unfolding_all rfl
  · with_unfolding_all rfl
set_option maxRecDepth 100000 in
theorem xl_X12_unit_83 (d : Nat) (l1 : Int) (C : xC) : xw_X12_unit d (83, [some (.inr (.inr (.inl (74, 63)))), some (.inl l1), none], [], C) =
  (xM d 174 [.inr (.inr (.inl (74, 63)))] C).bind fun q1 =>
  (xM d 175 [.inr (.inr (.inl (74, 63))), .inl 20] q1.2).bind fun q2 =>
    xw_X12_unit d (2, [some (.inr (.inr (.inl (74, 63)))), some (.inl l1), none], [], q2.2) := by
  refine (xgoL_fix ?_).trans ?_
  · with_unfolding_all rfl
  · with_unfolding_all rfl
set_option maxRecDepth 100000 in
theorem xl_X12_unit_101 (d : Nat) (l1 : Int) (C : xC) : xw_X12_unit d (101, [some (.inr (.inr (.inl (74, 63)))), some (.inl l1), none], [], C) =
  cond (decide (C 74 2 ≤ 0))
  ((xM d 159 [.inr (.inr (.inl (74, 63))), .inr (.inl 6578553)] C).bind fun q1 =>
    cond (decide (q1.1 = 0))
      ((xM d 159 [.inr (.inr (.inl (74, 63))), .inr (.inl 1752135026)] q1.2).bind fun q2 =>
        cond (decide (q2.1 = 0))
          ((xM d 161 [.inr (.inr (.inl (74, 63)))] q2.2).bind fun q3 =>
            cond (decide (q3.1 = 0))
              (cond (decide (q3.2 74 6 = 2))
                (xw_X12_unit d (179, [some (.inr (.inr (.inl (74, 63)))), some (.inl l1), some (.inl (-1))], [], q3.2))
                ((xM d 161 [.inr (.inr (.inl (74, 63)))] q3.2).bind fun q4 =>
                  cond (decide (q4.1 = 0))
                    (xw_X12_unit d (186, [some (.inr (.inr (.inl (74, 63)))), some (.inl l1), some (.inl (-1))], [], q4.2))
                    (xw_X12_unit d (179, [some (.inr (.inr (.inl (74, 63)))), some (.inl l1), some (.inl (-1))], [], q4.2))))
              ((xM d 165 [.inr (.inr (.inl (74, 63))), .inl 0, .inl (q3.2 74 42)] q3.2).bind fun q5 =>
                cond (decide (q5.2 74 6 = 2))
                  (xw_X12_unit d (179, [some (.inr (.inr (.inl (74, 63)))), some (.inl l1), some (.inl (q5.1))], [], q5.2))
                  (cond (decide (0 ≤ q5.1))
                    (xw_X12_unit d (179, [some (.inr (.inr (.inl (74, 63)))), some (.inl l1), some (.inl (q5.1))], [], q5.2))
                    ((xM d 161 [.inr (.inr (.inl (74, 63)))] q5.2).bind fun q6 =>
                      cond (decide (q6.1 = 0))
                        (xw_X12_unit d (186, [some (.inr (.inr (.inl (74, 63)))), some (.inl l1), some (.inl (q5.1))], [], q6.2))
                        (xw_X12_unit d (179, [some (.inr (.inr (.inl (74, 63)))), some (.inl l1), some (.inl (q5.1))], [], q6.2))))))
          (cond (decide (q2.2 74 6 = 2))
            (xw_X12_unit d (179, [some (.inr (.inr (.inl (74, 63)))), some (.inl l1), some (.inl 7)], [], q2.2))
            (xw_X12_unit d (179, [some (.inr (.inr (.inl (74, 63)))), some (.inl l1), some (.inl 7)], [], q2.2))))
      (cond (decide (q1.2 74 6 = 2))
        (xw_X12_unit d (179, [some (.inr (.inr (.inl (74, 63)))), some (.inl l1), some (.inl 6)], [], q1.2))
        (xw_X12_unit d (179, [some (.inr (.inr (.inl (74, 63)))), some (.inl l1), some (.inl 6)], [], q1.2))))
  (some (0, C)) := by
  refine (xgoL_fix ?_).trans ?_
  · with_unfolding_all rfl
  · with_unfolding_all rfl
set_option maxRecDepth 100000 in
theorem xl_X12_unit_179 (d : Nat) (l1 : Int) (l2 : Int) (C : xC) : xw_X12_unit d (179, [some (.inr (.inr (.inl (74, 63)))), some (.inl l1), some (.inl l2)], [], C) =
  (xM d 173 [.inr (.inr (.inl (74, 63)))] C).bind fun q1 =>
  cond (decide (q1.1 = 0))
    (cond (decide (q1.2 74 6 = 2))
      (xw_X12_unit d (211, [some (.inr (.inr (.inl (74, 63)))), some (.inl l1), some (.inl l2)], [], q1.2))
      (cond (decide (0 ≤ l2))
        (xw_X12_unit d (211, [some (.inr (.inr (.inl (74, 63)))), some (.inl l1), some (.inl l2)], [], q1.2))
        ((xM d 158 [.inr (.inr (.inl (74, 63))), .inl 5] q1.2).bind fun q2 =>
          xw_X12_unit d (211, [some (.inr (.inr (.inl (74, 63)))), some (.inl l1), some (.inl l2)], [], q2.2))))
    (xw_X12_unit d (186, [some (.inr (.inr (.inl (74, 63)))), some (.inl l1), some (.inl l2)], [], q1.2)) := by
  refine (xgoL_fix ?_).trans ?_
  · with_unfolding_all rfl
  · with_unfolding_all rfl
set_option maxRecDepth 100000 in
theorem xl_X12_unit_186 (d : Nat) (l1 : Int) (l2 : Int) (C : xC) : xw_X12_unit d (186, [some (.inr (.inr (.inl (74, 63)))), some (.inl l1), some (.inl l2)], [], C) =
  (xM d 158 [.inr (.inr (.inl (74, 63))), .inl 2] C).bind fun q1 =>
  xw_X12_unit d (211, [some (.inr (.inr (.inl (74, 63)))), some (.inl l1), some (.inl l2)], [], q1.2) := by
  refine (xgoL_fix ?_).trans ?_
  · with_unfolding_all rfl
  · with_unfolding_all rfl
set_option maxRecDepth 100000 in
theorem xl_X12_unit_211 (d : Nat) (l1 : Int) (l2 : Int) (C : xC) : xw_X12_unit d (211, [some (.inr (.inr (.inl (74, 63)))), some (.inl l1), some (.inl l2)], [], C) =
  cond (decide (C 74 2 ≤ 0))
  ((xM d 174 [.inr (.inr (.inl (74, 63)))] C).bind fun q1 =>
    cond (decide (0 ≤ l2))
      (cond (decide (0 ≤ l2))
        ((xM d 168 [.inr (.inr (.inl (74, 63))), .inl 1, .inl l2] q1.2).bind fun q2 =>
          (xM d 157 [.inr (.inr (.inl (74, 63)))] q2.2).bind fun q3 =>
            some (0, q3.2))
        ((xM d 168 [.inr (.inr (.inl (74, 63))), .inl 1, .inl (q1.2 74 8)] q1.2).bind fun q4 =>
          (xM d 157 [.inr (.inr (.inl (74, 63)))] q4.2).bind fun q5 =>
            some (0, q5.2)))
      (cond (decide (0 ≤ l2))
        ((xM d 168 [.inr (.inr (.inl (74, 63))), .inl 0, .inl l2] q1.2).bind fun q6 =>
          (xM d 157 [.inr (.inr (.inl (74, 63)))] q6.2).bind fun q7 =>
            some (0, q7.2))
        ((xM d 168 [.inr (.inr (.inl (74, 63))), .inl 0, .inl (q1.2 74 8)] q1.2).bind fun q8 =>
          (xM d 157 [.inr (.inr (.inl (74, 63)))] q8.2).bind fun q9 =>
            some (0, q9.2))))
  (some (0, C)) := by
  refine (xgoL_fix ?_).trans ?_
  · with_unfolding_all rfl
  · with_unfolding_all rfl
set_option maxRecDepth 100000 in
theorem xm_X12_sign (d : Nat) (C : xC) : xM (d + 1) 177 [.inr (.inr (.inl (74, 63)))] C =
  (xM d 159 [.inr (.inr (.inl (74, 63))), .inr (.inl 1634497391)] C).bind fun q1 =>
  cond (decide (q1.1 = 0))
    ((xM d 159 [.inr (.inr (.inl (74, 63))), .inr (.inl 28530)] q1.2).bind fun q2 =>
      cond (decide (q2.1 = 0))
        (cond (decide (q2.2 74 6 = 60))
          (some (q2.2 74 6, q2.2))
          (cond (decide (q2.2 74 6 = 62))
            (some (q2.2 74 6, q2.2))
            (cond (decide (q2.2 74 6 = 61))
              (some (q2.2 74 6, q2.2))
              (cond (decide (q2.2 74 6 = 43))
                (some (q2.2 74 6, q2.2))
                (cond (decide (q2.2 74 6 = 45))
                  (some (q2.2 74 6, q2.2))
                  (cond (decide (q2.2 74 6 = 42))
                    (some (q2.2 74 6, q2.2))
                    (cond (decide (q2.2 74 6 = 47))
                      (some (q2.2 74 6, q2.2))
                      (cond (decide (q2.2 74 6 ≠ 37))
                        (some (0, q2.2))
                        (some (q2.2 74 6, q2.2))))))))))
        (some (124, q2.2)))
    (some (38, q1.2)) := by
  rw [xM_fix (nL := 1) (rk := 1) (cd := zC_X12_sign) rfl rfl rfl rfl]
  with_unfolding_all rfl
noncomputable abbrev xw_X12_hasBracket (d : Nat) : xCf → Option (Int × xC) := xgoL zC_X12_hasBracket (xM d) (xstop 178) 1
set_option maxRecDepth 100000 in
theorem xm_X12_hasBracket (d : Nat) (C : xC) : xM (d + 1) 178 [.inr (.inr (.inl (74, 63)))] C =
  xw_X12_hasBracket d (4, [some (.inr (.inr (.inl (74, 63)))), some (.inl 0), some (.inl 0)], [], C) := by
  rw [xM_fix (nL := 3) (rk := 1) (cd := zC_X12_hasBracket) rfl rfl rfl rfl]
  with_unfolding_all rfl
set_option maxRecDepth 100000 in
theorem xl_X12_hasBracket_4 (d : Nat) (l1 : Int) (l2 : Int) (C : xC) : xw_X12_hasBracket d (4, [some (.inr (.inr (.inl (74, 63)))), some (.inl l1), some (.inl l2)], [], C) =
  cond (decide (C 74 22 ≤ l2))
  (xfr 1 C (cond (decide (l1 = 0) || decide (l1 = 1)) (some (1, l1)) none))
  (cond (decide (l1 ≠ 0))
    (xw_X12_hasBracket d (4, [some (.inr (.inr (.inl (74, 63)))), some (.inl 1), some (.inl (w32 (l2 + 1)))], [], C))
    (cond (xix l2 160)
      (cond (decide (C (C 74 19).toNat ((l2).toNat) ≠ 20))
        (xw_X12_hasBracket d (4, [some (.inr (.inr (.inl (74, 63)))), some (.inl 0), some (.inl (w32 (l2 + 1)))], [], C))
        (xw_X12_hasBracket d (4, [some (.inr (.inr (.inl (74, 63)))), some (.inl 1), some (.inl (w32 (l2 + 1)))], [], C)))
      none)) := by
  refine (xgoL_fix ?_).trans ?_
  · with_unfolding_all rfl
  · with_unfolding_all rfl
noncomputable abbrev xw_X12_formula (d : Nat) : xCf → Option (Int × xC) := xgoL zC_X12_formula (xM d) (xstop 179) 0
set_option maxRecDepth 100000 in
theorem xm_X12_formula (d : Nat) (a1 : Int) (C : xC) : xM (d + 1) 179 [.inr (.inr (.inl (74, 63))), .inl a1] C =
  cond (decide (C 74 2 ≤ 0))
  (cond (xix a1 70 && xna 2 (C 74 23))
    ((xM d 176 [.inr (.inr (.inl (74, 63)))] (xst (xst (xst (xst (xst C 74 21 a1) (C 74 13).toNat (a1).toNat (C 74 23)) 74 22 0) 74 27 0) 74 26 0)).bind fun q1 =>
      xw_X12_formula d (47, [some (.inr (.inr (.inl (74, 63)))), some (.inl a1), some (.inl 1), none], [], q1.2))
    none)
  (some (0, C)) := by
  rw [xM_fix (nL := 4) (rk := 0) (cd := zC_X12_formula) rfl rfl rfl rfl]
  with_unfolding_all rfl
set_option maxRecDepth 100000 in
theorem xl_X12_formula_47 (d : Nat) (l1 : Int) (l2 : Int) (o3 : Option xV) (C : xC) : xw_X12_formula d (47, [some (.inr (.inr (.inl (74, 63)))), some (.inl l1), some (.inl l2), o3], [], C) =
  cond (decide (l2 = 0))
  (xw_X12_formula d (174, [some (.inr (.inr (.inl (74, 63)))), some (.inl l1), some (.inl l2), o3], [], C))
  (cond (decide (C 74 2 ≠ 0))
    (xw_X12_formula d (174, [some (.inr (.inr (.inl (74, 63)))), some (.inl l1), some (.inl l2), o3], [], C))
    ((xM d 177 [.inr (.inr (.inl (74, 63)))] C).bind fun q1 =>
      cond (decide (q1.2 74 6 ≠ 41))
        (xw_X12_formula d (111, [some (.inr (.inr (.inl (74, 63)))), some (.inl l1), some (.inl l2), some (.inl (q1.1))], [], q1.2))
        ((xM d 178 [.inr (.inr (.inl (74, 63)))] q1.2).bind fun q2 =>
          cond (decide (q2.1 = 0))
            (xw_X12_formula d (111, [some (.inr (.inr (.inl (74, 63)))), some (.inl l1), some (.inl l2), some (.inl (q1.1))], [], q2.2))
            ((xM d 170 [.inr (.inr (.inl (74, 63))), .inl 0] q2.2).bind fun q3 =>
              (xM d 157 [.inr (.inr (.inl (74, 63)))] (xst (xst q3.2 74 22 (w32 ((q3.2 74 22) - 1))) 74 27 (w32 ((q3.2 74 27) - 1)))).bind fun q4 =>
                xw_X12_formula d (171, [some (.inr (.inr (.inl (74, 63)))), some (.inl l1), some (.inl l2), some (.inl (q1.1))], [], q4.2))))) := by
  refine (xgoL_fix ?_).trans ?_
  · with_unfolding_all rfl
  · with_unfolding_all rfl
set_option maxRecDepth 100000 in
theorem xl_X12_formula_111 (d : Nat) (l1 : Int) (l2 : Int) (l3 : Int) (C : xC) : xw_X12_formula d (111, [some (.inr (.inr (.inl (74, 63)))), some (.inl l1), some (.inl l2), some (.inl l3)], [], C) =
  cond (decide (l3 = 0))
  (xw_X12_formula d (169, [some (.inr (.inr (.inl (74, 63)))), some (.inl l1), some (.inl l2), some (.inl l3)], [], C))
  ((xM d 169 [.inl l3] C).bind fun q1 =>
    cond (decide (q1.1 ≠ 4))
      (xw_X12_formula d (130, [some (.inr (.inr (.inl (74, 63)))), some (.inl l1), some (.inl l2), some (.inl l3)], [], q1.2))
      ((xM d 171 [.inr (.inr (.inl (74, 63)))] q1.2).bind fun q2 =>
        cond (decide (q2.1 ≠ 0))
          (xw_X12_formula d (169, [some (.inr (.inr (.inl (74, 63)))), some (.inl l1), some (.inl l2), some (.inl l3)], [], q2.2))
          (xw_X12_formula d (130, [some (.inr (.inr (.inl (74, 63)))), some (.inl l1), some (.inl l2), some (.inl l3)], [], q2.2)))) := by
  refine (xgoL_fix ?_).trans ?_
  · with_unfolding_all rfl
  · with_unfolding_all rfl
set_option maxRecDepth 100000 in
theorem xl_X12_formula_130 (d : Nat) (l1 : Int) (l2 : Int) (l3 : Int) (C : xC) : xw_X12_formula d (130, [some (.inr (.inr (.inl (74, 63)))), some (.inl l1), some (.inl l2), some (.inl l3)], [], C) =
  (xM d 169 [.inl l3] C).bind fun q1 =>
  (xM d 170 [.inr (.inr (.inl (74, 63))), .inl (q1.1)] q1.2).bind fun q2 =>
    cond (xix (q2.2 74 22) 160 && xna 2 l3)
      ((xM d 157 [.inr (.inr (.inl (74, 63)))] (xst (xst q2.2 (q2.2 74 19).toNat (q2.2 74 22).toNat l3) 74 22 (w32 (((xst q2.2 (q2.2 74 19).toNat (q2.2 74 22).toNat l3) 74 22) + 1)))).bind fun q3 =>
        (xM d 176 [.inr (.inr (.inl (74, 63)))] q3.2).bind fun q4 =>
          xw_X12_formula d (171, [some (.inr (.inr (.inl (74, 63)))), some (.inl l1), some (.inl l2), some (.inl l3)], [], q4.2))
      none := by
  refine (xgoL_fix ?_).trans ?_
  · with_unfolding_all rfl
  · with_unfolding_all rfl
set_option maxRecDepth 100000 in
theorem xl_X12_formula_169 (d : Nat) (l1 : Int) (l2 : Int) (l3 : Int) (C : xC) : xw_X12_formula d (169, [some (.inr (.inr (.inl (74, 63)))), some (.inl l1), some (.inl l2), some (.inl l3)], [], C) =
  xw_X12_formula d (171, [some (.inr (.inr (.inl (74, 63)))), some (.inl l1), some (.inl 0), some (.inl l3)], [], C) := by
  refine (xgoL_fix ?_).trans ?_
  · with_unfolding_all rfl
  · with_unfolding_all rfl
set_option maxRecDepth 100000 in
theorem xl_X12_formula_171 (d : Nat) (l1 : Int) (l2 : Int) (l3 : Int) (C : xC) : xw_X12_formula d (171, [some (.inr (.inr (.inl (74, 63)))), some (.inl l1), some (.inl l2), some (.inl l3)], [], C) =
  xw_X12_formula d (47, [some (.inr (.inr (.inl (74, 63)))), some (.inl l1), some (.inl l2), some (.inl l3)], [], C) := by
  refine (xgoL_fix ?_).trans ?_
  · with_unfolding_all rfl
  · with_unfolding_all rfl
set_option maxRecDepth 100000 in
theorem xl_X12_formula_174 (d : Nat) (l1 : Int) (l2 : Int) (o3 : Option xV) (C : xC) : xw_X12_formula d (174, [some (.inr (.inr (.inl (74, 63)))), some (.inl l1), some (.inl l2), o3], [], C) =
  cond (decide (C 74 2 ≠ 0))
  (xw_X12_formula d (193, [some (.inr (.inr (.inl (74, 63)))), some (.inl l1), some (.inl l2), o3], [], C))
  ((xM d 178 [.inr (.inr (.inl (74, 63)))] C).bind fun q1 =>
    cond (decide (q1.1 = 0))
      (xw_X12_formula d (193, [some (.inr (.inr (.inl (74, 63)))), some (.inl l1), some (.inl l2), o3], [], q1.2))
      ((xM d 158 [.inr (.inr (.inl (74, 63))), .inl 2] q1.2).bind fun q2 =>
        xw_X12_formula d (193, [some (.inr (.inr (.inl (74, 63)))), some (.inl l1), some (.inl l2), o3], [], q2.2))) := by
  refine (xgoL_fix ?_).trans ?_
  · with_unfolding_all rfl
  · with_unfolding_all rfl
set_option maxRecDepth 100000 in
theorem xl_X12_formula_193 (d : Nat) (l1 : Int) (l2 : Int) (o3 : Option xV) (C : xC) : xw_X12_formula d (193, [some (.inr (.inr (.inl (74, 63)))), some (.inl l1), some (.inl l2), o3], [], C) =
  cond (decide (C 74 2 ≠ 0))
  (xw_X12_formula d (205, [some (.inr (.inr (.inl (74, 63)))), some (.inl l1), some (.inl l2), o3], [], C))
  ((xM d 170 [.inr (.inr (.inl (74, 63))), .inl 0] C).bind fun q1 =>
    xw_X12_formula d (205, [some (.inr (.inr (.inl (74, 63)))), some (.inl l1), some (.inl l2), o3], [], q1.2)) := by
  refine (xgoL_fix ?_).trans ?_
  · with_unfolding_all rfl
  · with_unfolding_all rfl
set_option maxRecDepth 100000 in
theorem xl_X12_formula_205 (d : Nat) (l1 : Int) (l2 : Int) (o3 : Option xV) (C : xC) : xw_X12_formula d (205, [some (.inr (.inr (.inl (74, 63)))), some (.inl l1), some (.inl l2), o3], [], C) =
  cond (xix (C 74 21) 70)
  (cond (xix (C 74 21) 70 && xna 2 (w32 ((C 74 23) - (C (C 74 13).toNat ((C 74 21).toNat)))))
    (some (0, (xst C (C 74 14).toNat (C 74 21).toNat (w32 ((C 74 23) - (C (C 74 13).toNat ((C 74 21).toNat)))))))
    none)
  none := by
  refine (xgoL_fix ?_).trans ?_
  · with_unfolding_all rfl
  · with_unfolding_all rfl
set_option maxRecDepth 100000 in
theorem xm_X12_readWeek (d : Nat) (C : xC) : xM (d + 1) 184 [.inr (.inr (.inl (74, 63)))] C =
  (xM d 164 [.inr (.inr (.inl (74, 63))), .inr (.inl 2003133803), .inl 2, .inl 9] (xst C 74 56 1)).bind fun q1 =>
  (xM d 164 [.inr (.inr (.inl (74, 63))), .inr (.inl 448546566771), .inl 1, .inl 6] (xst q1.2 74 47 (q1.1))).bind fun q2 =>
    some (0, (xst q2.2 74 48 (q2.1))) := by
  rw [xM_fix (nL := 1) (rk := 0) (cd := zC_X12_readWeek) rfl rfl rfl rfl]
  with_unfolding_all rfl
set_option maxRecDepth 100000 in
theorem xm_X12_readThing (d : Nat) (C : xC) : xM (d + 1) 185 [.inr (.inr (.inl (74, 63)))] C =
  (xM d 166 [.inr (.inr (.inl (74, 63))), .inl 0, .inl (C 74 42)] C).bind fun q1 =>
  (xM d 163 [.inr (.inr (.inl (74, 63))), .inl 0, .inl 999] q1.2).bind fun q2 =>
    cond (xix (q1.2 74 42) 6 && xna 2 (q2.1))
      (cond (xix ((xst q2.2 (q1.2 74 28).toNat (q1.2 74 42).toNat (q2.1)) 74 42) 6)
        ((xM d 164 [.inr (.inr (.inl (74, 63))), .inr (.inl 29807), .inl ((xst q2.2 (q1.2 74 28).toNat (q1.2 74 42).toNat (q2.1)) ((xst q2.2 (q1.2 74 28).toNat (q1.2 74 42).toNat (q2.1)) 74 28).toNat (((xst q2.2 (q1.2 74 28).toNat (q1.2 74 42).toNat (q2.1)) 74 42).toNat)), .inl 999] (xst q2.2 (q1.2 74 28).toNat (q1.2 74 42).toNat (q2.1))).bind fun q3 =>
          cond (xix ((xst q2.2 (q1.2 74 28).toNat (q1.2 74 42).toNat (q2.1)) 74 42) 6 && xna 2 (q3.1))
            (cond (decide ((xst q3.2 ((xst q2.2 (q1.2 74 28).toNat (q1.2 74 42).toNat (q2.1)) 74 29).toNat ((xst q2.2 (q1.2 74 28).toNat (q1.2 74 42).toNat (q2.1)) 74 42).toNat (q3.1)) 74 2 ≠ 0))
              (some (0, (xst q3.2 ((xst q2.2 (q1.2 74 28).toNat (q1.2 74 42).toNat (q2.1)) 74 29).toNat ((xst q2.2 (q1.2 74 28).toNat (q1.2 74 42).toNat (q2.1)) 74 42).toNat (q3.1))))
              (some (0, (xst (xst q3.2 ((xst q2.2 (q1.2 74 28).toNat (q1.2 74 42).toNat (q2.1)) 74 29).toNat ((xst q2.2 (q1.2 74 28).toNat (q1.2 74 42).toNat (q2.1)) 74 42).toNat (q3.1)) 74 42 (w32 (((xst q3.2 ((xst q2.2 (q1.2 74 28).toNat (q1.2 74 42).toNat (q2.1)) 74 29).toNat ((xst q2.2 (q1.2 74 28).toNat (q1.2 74 42).toNat (q2.1)) 74 42).toNat (q3.1)) 74 42) + 1))))))
            none)
        none)
      none := by
  rw [xM_fix (nL := 1) (rk := 0) (cd := zC_X12_readThing) rfl rfl rfl rfl]
  with_unfolding_all rfl
noncomputable abbrev xw_X12_readSets (d : Nat) : xCf → Option (Int × xC) := xgoL zC_X12_readSets (xM d) (xstop 186) 0
set_option maxRecDepth 100000 in
theorem xm_X12_readSets (d : Nat) (a1 : Int) (C : xC) : xM (d + 1) 186 [.inr (.inr (.inl (74, 63))), .inl a1] C =
  (xM d 179 [.inr (.inr (.inl (74, 63))), .inl (w32 (5 * a1))] C).bind fun q1 =>
  (xM d 162 [.inr (.inr (.inl (74, 63))), .inr (.inl 1952998766)] q1.2).bind fun q2 =>
    cond (xix a1 11 && xna 2 0)
      ((xM d 187 [.inr (.inr (.inl (74, 63))), .inl a1] (xst q2.2 (q2.2 74 33).toNat (a1).toNat 0)).bind fun q3 =>
        xw_X12_readSets d (26, [some (.inr (.inr (.inl (74, 63)))), some (.inl a1)], [], q3.2))
      none := by
  rw [xM_fix (nL := 2) (rk := 0) (cd := zC_X12_readSets) rfl rfl rfl rfl]
  with_unfolding_all rfl
set_option maxRecDepth 100000 in
theorem xl_X12_readSets_26 (d : Nat) (l1 : Int) (C : xC) : xw_X12_readSets d (26, [some (.inr (.inr (.inl (74, 63)))), some (.inl l1)], [], C) =
  cond (decide (C 74 2 ≠ 0))
  (some (0, C))
  ((xM d 159 [.inr (.inr (.inl (74, 63))), .inr (.inl 6385252)] C).bind fun q1 =>
    cond (decide (q1.1 = 0))
      (some (0, q1.2))
      (cond (xix l1 11)
        (cond (decide (q1.2 (q1.2 74 33).toNat ((l1).toNat) ≠ 4))
          (cond (decide (q1.2 74 2 ≠ 0))
            ((xM d 187 [.inr (.inr (.inl (74, 63))), .inl l1] q1.2).bind fun q2 =>
              xw_X12_readSets d (26, [some (.inr (.inr (.inl (74, 63)))), some (.inl l1)], [], q2.2))
            ((xM d 157 [.inr (.inr (.inl (74, 63)))] q1.2).bind fun q3 =>
              (xM d 187 [.inr (.inr (.inl (74, 63))), .inl l1] q3.2).bind fun q4 =>
                xw_X12_readSets d (26, [some (.inr (.inr (.inl (74, 63)))), some (.inl l1)], [], q4.2)))
          ((xM d 158 [.inr (.inr (.inl (74, 63))), .inl 2] q1.2).bind fun q5 =>
            cond (decide (q5.2 74 2 ≠ 0))
              ((xM d 187 [.inr (.inr (.inl (74, 63))), .inl l1] q5.2).bind fun q6 =>
                xw_X12_readSets d (26, [some (.inr (.inr (.inl (74, 63)))), some (.inl l1)], [], q6.2))
              ((xM d 157 [.inr (.inr (.inl (74, 63)))] q5.2).bind fun q7 =>
                (xM d 187 [.inr (.inr (.inl (74, 63))), .inl l1] q7.2).bind fun q8 =>
                  xw_X12_readSets d (26, [some (.inr (.inr (.inl (74, 63)))), some (.inl l1)], [], q8.2))))
        none)) := by
  refine (xgoL_fix ?_).trans ?_
  · with_unfolding_all rfl
  · with_unfolding_all rfl
