/-! The class’s reader, method by method: printed by a program. -/
set_option maxRecDepth 100000 in
theorem xm_X9_isBlank (d : Nat) (a0 : Int) (C : xC) : xM (d + 1) 91 [.inl a0] C =
  cond (decide (a0 = 32))
  (some (1, C))
  (cond (decide (a0 ≠ 10))
    (some (0, C))
    (some (1, C))) := by
  rw [xM_fix (nL := 1) (rk := 1) (cd := zC_X9_isBlank) rfl rfl rfl rfl]
  with_unfolding_all rfl
set_option maxRecDepth 100000 in
theorem xm_X9_isLetter (d : Nat) (a0 : Int) (C : xC) : xM (d + 1) 92 [.inl a0] C =
  cond (decide (a0 < 97))
  (some (0, C))
  (cond (decide (122 < a0))
    (some (0, C))
    (some (1, C))) := by
  rw [xM_fix (nL := 1) (rk := 1) (cd := zC_X9_isLetter) rfl rfl rfl rfl]
  with_unfolding_all rfl
set_option maxRecDepth 100000 in
theorem xm_X9_isDigit (d : Nat) (a0 : Int) (C : xC) : xM (d + 1) 93 [.inl a0] C =
  cond (decide (a0 < 48))
  (some (0, C))
  (cond (decide (57 < a0))
    (some (0, C))
    (some (1, C))) := by
  rw [xM_fix (nL := 1) (rk := 1) (cd := zC_X9_isDigit) rfl rfl rfl rfl]
  with_unfolding_all rfl
set_option maxRecDepth 100000 in
theorem xm_X9_isSign (d : Nat) (a0 : Int) (C : xC) : xM (d + 1) 94 [.inl a0] C =
  cond (decide (a0 = 37))
  (some (1, C))
  (cond (decide (a0 = 38))
  (some (0, C))
  (cond (decide (a0 = 39))
  (some (0, C))
  (cond (decide (a0 = 40))
  (some (1, C))
  (cond (decide (a0 = 41))
  (some (1, C))
  (cond (decide (a0 = 42))
  (some (1, C))
  (cond (decide (a0 = 43))
  (some (1, C))
  (cond (decide (a0 = 44))
  (some (0, C))
  (cond (decide (a0 = 45))
  (some (1, C))
  (cond (decide (a0 = 46))
  (some (0, C))
  (cond (decide (a0 = 47))
  (some (1, C))
  (cond (decide (a0 = 48))
  (some (0, C))
  (cond (decide (a0 = 49))
  (some (0, C))
  (cond (decide (a0 = 50))
  (some (0, C))
  (cond (decide (a0 = 51))
  (some (0, C))
  (cond (decide (a0 = 52))
  (some (0, C))
  (cond (decide (a0 = 53))
  (some (0, C))
  (cond (decide (a0 = 54))
  (some (0, C))
  (cond (decide (a0 = 55))
  (some (0, C))
  (cond (decide (a0 = 56))
  (some (0, C))
  (cond (decide (a0 = 57))
  (some (0, C))
  (cond (decide (a0 = 58))
  (some (0, C))
  (cond (decide (a0 = 59))
  (some (1, C))
  (cond (decide (a0 = 60))
  (some (1, C))
  (cond (decide (a0 = 61))
  (some (1, C))
  (cond (decide (a0 = 62))
  (some (1, C))
  (some (0, C))))))))))))))))))))))))))) := by
  rw [xM_fix (nL := 1) (rk := 1) (cd := zC_X9_isSign) rfl rfl rfl rfl]
  with_unfolding_all rfl
set_option maxRecDepth 100000 in
theorem xm_X9_put (d : Nat) (a1 : Int) (a2 : Int) (a3 : Int) (C : xC) : xM (d + 1) 88 [.inr (.inr (.inl (26, 15))), .inl a1, .inl a2, .inr (.inl a3)] C =
  cond (decide (1700 < C 26 2))
  (some (0, C))
  (cond (xix (C 26 2) 1701 && xna 2 a1)
    (cond (xix ((xst C (C 26 3).toNat (C 26 2).toNat a1) 26 2) 1701 && xna 2 a2)
      (cond (xix ((xst (xst C (C 26 3).toNat (C 26 2).toNat a1) ((xst C (C 26 3).toNat (C 26 2).toNat a1) 26 4).toNat ((xst C (C 26 3).toNat (C 26 2).toNat a1) 26 2).toNat a2) 26 2) 1701)
        (some (0, (xst (xst (xst (xst C (C 26 3).toNat (C 26 2).toNat a1) ((xst C (C 26 3).toNat (C 26 2).toNat a1) 26 4).toNat ((xst C (C 26 3).toNat (C 26 2).toNat a1) 26 2).toNat a2) ((xst (xst C (C 26 3).toNat (C 26 2).toNat a1) ((xst C (C 26 3).toNat (C 26 2).toNat a1) 26 4).toNat ((xst C (C 26 3).toNat (C 26 2).toNat a1) 26 2).toNat a2) 26 5).toNat ((xst (xst C (C 26 3).toNat (C 26 2).toNat a1) ((xst C (C 26 3).toNat (C 26 2).toNat a1) 26 4).toNat ((xst C (C 26 3).toNat (C 26 2).toNat a1) 26 2).toNat a2) 26 2).toNat a3) 26 2 (w32 (((xst (xst (xst C (C 26 3).toNat (C 26 2).toNat a1) ((xst C (C 26 3).toNat (C 26 2).toNat a1) 26 4).toNat ((xst C (C 26 3).toNat (C 26 2).toNat a1) 26 2).toNat a2) ((xst (xst C (C 26 3).toNat (C 26 2).toNat a1) ((xst C (C 26 3).toNat (C 26 2).toNat a1) 26 4).toNat ((xst C (C 26 3).toNat (C 26 2).toNat a1) 26 2).toNat a2) 26 5).toNat ((xst (xst C (C 26 3).toNat (C 26 2).toNat a1) ((xst C (C 26 3).toNat (C 26 2).toNat a1) 26 4).toNat ((xst C (C 26 3).toNat (C 26 2).toNat a1) 26 2).toNat a2) 26 2).toNat a3) 26 2) + 1)))))
        none)
      none)
    none) := by
  rw [xM_fix (nL := 5) (rk := 0) (cd := zC_X9_put) rfl rfl rfl rfl]
  with_unfolding_all rfl
noncomputable abbrev xw_X9_isWord (d : Nat) : xCf → Option (Int × xC) := xgoL zC_X9_isWord (xM d) (xstop 90) 1
set_option maxRecDepth 100000 in
theorem xm_X9_isWord (d : Nat) (a1 : Int) (a2 : Int) (a3 : Int) (C : xC) : xM (d + 1) 90 [.inr (.inr (.inl (26, 15))), .inl a1, .inl a2, .inl a3] C =
  xw_X9_isWord d (3, [some (.inr (.inr (.inl (26, 15)))), some (.inl a1), some (.inl a2), some (.inl a3), some (.inl 0), none], [], C) := by
  rw [xM_fix (nL := 6) (rk := 1) (cd := zC_X9_isWord) rfl rfl rfl rfl]
  with_unfolding_all rfl
set_option maxRecDepth 100000 in
theorem xl_X9_isWord_3 (d : Nat) (l1 : Int) (l2 : Int) (l3 : Int) (l4 : Int) (o5 : Option xV) (C : xC) : xw_X9_isWord d (3, [some (.inr (.inr (.inl (26, 15)))), some (.inl l1), some (.inl l2), some (.inl l3), some (.inl l4), o5], [], C) =
  cond (decide (8 ≤ l4))
  (some (1, C))
  (cond (decide (l3 ≤ w32 (l2 + l4)))
    (cond (decide (0 ≤ l1 + l4) && decide (l1 + l4 < 176))
      (cond (decide ((sCh (yWb.getD (l1 + l4).toNat 0)).toInt = 32))
        (xw_X9_isWord d (3, [some (.inr (.inr (.inl (26, 15)))), some (.inl l1), some (.inl l2), some (.inl l3), some (.inl (w32 (l4 + 1))), some (.inl 32)], [], C))
        (some (0, C)))
      none)
    (cond (xix (w32 (l2 + l4)) 1700)
      (cond (decide (0 ≤ l1 + l4) && decide (l1 + l4 < 176))
        (cond (decide ((sCh (yWb.getD (l1 + l4).toNat 0)).toInt = C (C 26 0).toNat ((w32 (l2 + l4)).toNat)))
          (xw_X9_isWord d (3, [some (.inr (.inr (.inl (26, 15)))), some (.inl l1), some (.inl l2), some (.inl l3), some (.inl (w32 (l4 + 1))), some (.inl (C (C 26 0).toNat ((w32 (l2 + l4)).toNat)))], [], C))
          (some (0, C)))
        none)
      none)) := by
  refine (xgoL_fix ?_).trans ?_
  · with_unfolding_all rfl
  · with_unfolding_all rfl
noncomputable abbrev xw_X9_wordKind (d : Nat) : xCf → Option (Int × xC) := xgoL zC_X9_wordKind (xM d) (xstop 89) 1
set_option maxRecDepth 100000 in
theorem xm_X9_wordKind (d : Nat) (a1 : Int) (a2 : Int) (C : xC) : xM (d + 1) 89 [.inr (.inr (.inl (26, 15))), .inl a1, .inl a2] C =
  xw_X9_wordKind d (2, [some (.inr (.inr (.inl (26, 15)))), some (.inl a1), some (.inl a2), some (.inl 0)], [], C) := by
  rw [xM_fix (nL := 4) (rk := 1) (cd := zC_X9_wordKind) rfl rfl rfl rfl]
  with_unfolding_all rfl
set_option maxRecDepth 100000 in
theorem xl_X9_wordKind_2 (d : Nat) (l1 : Int) (l2 : Int) (l3 : Int) (C : xC) : xw_X9_wordKind d (2, [some (.inr (.inr (.inl (26, 15)))), some (.inl l1), some (.inl l2), some (.inl l3)], [], C) =
  cond (decide (22 ≤ l3))
  (some (22, C))
  ((xM d 90 [.inr (.inr (.inl (26, 15))), .inl (w32 (l3 * 8)), .inl l1, .inl l2] C).bind fun q1 =>
    cond (decide (q1.1 = 0))
      (xw_X9_wordKind d (2, [some (.inr (.inr (.inl (26, 15)))), some (.inl l1), some (.inl l2), some (.inl (w32 (l3 + 1)))], [], q1.2))
      (some (l3, q1.2))) := by
  refine (xgoL_fix ?_).trans ?_
  · with_unfolding_all rfl
  · with_unfolding_all rfl
noncomputable abbrev xw_X9_cutNumber (d : Nat) : xCf → Option (Int × xC) := xgoL zC_X9_cutNumber (xM d) (xstop 87) 1
set_option maxRecDepth 100000 in
theorem xm_X9_cutNumber (d : Nat) (a1 : Int) (C : xC) : xM (d + 1) 87 [.inr (.inr (.inl (26, 15))), .inl a1] C =
  xw_X9_cutNumber d (7, [some (.inr (.inr (.inl (26, 15)))), some (.inl a1), some (.inl a1), some (.inr (.inl 0)), none, some (.inl a1)], [], C) := by
  rw [xM_fix (nL := 6) (rk := 1) (cd := zC_X9_cutNumber) rfl rfl rfl rfl]
  with_unfolding_all rfl
set_option maxRecDepth 100000 in
theorem xl_X9_cutNumber_7 (d : Nat) (l1 : Int) (l2 : Int) (l3 : Int) (l5 : Int) (C : xC) : xw_X9_cutNumber d (7, [some (.inr (.inr (.inl (26, 15)))), some (.inl l1), some (.inl l2), some (.inr (.inl l3)), none, some (.inl l5)], [], C) =
  cond (decide (C 26 1 ≤ l5))
  (cond (decide (4 < w32 (l2 - l1)))
    ((xM d 88 [.inr (.inr (.inl (26, 15))), .inl 25, .inl l1, .inr (.inl l3)] C).bind fun q1 =>
      some (l2, q1.2))
    (cond (decide (C 26 1 ≤ l2))
      ((xM d 88 [.inr (.inr (.inl (26, 15))), .inl 23, .inl l1, .inr (.inl l3)] C).bind fun q2 =>
        some (l2, q2.2))
      (cond (xix l2 1700)
        ((xM d 92 [.inl (C (C 26 0).toNat ((l2).toNat))] C).bind fun q3 =>
          cond (decide (q3.1 = 0))
            ((xM d 88 [.inr (.inr (.inl (26, 15))), .inl 23, .inl l1, .inr (.inl l3)] q3.2).bind fun q4 =>
              some (l2, q4.2))
            ((xM d 88 [.inr (.inr (.inl (26, 15))), .inl 25, .inl l1, .inr (.inl l3)] q3.2).bind fun q5 =>
              some (l2, q5.2)))
        none)))
  (cond (xix l5 1700)
    ((xM d 93 [.inl (C (C 26 0).toNat ((l5).toNat))] C).bind fun q6 =>
      cond (decide (q6.1 = 0))
        (cond (decide (4 < w32 (l2 - l1)))
          ((xM d 88 [.inr (.inr (.inl (26, 15))), .inl 25, .inl l1, .inr (.inl l3)] q6.2).bind fun q7 =>
            some (l2, q7.2))
          (cond (decide (q6.2 26 1 ≤ l2))
            ((xM d 88 [.inr (.inr (.inl (26, 15))), .inl 23, .inl l1, .inr (.inl l3)] q6.2).bind fun q8 =>
              some (l2, q8.2))
            (cond (xix l2 1700)
              ((xM d 92 [.inl (q6.2 (q6.2 26 0).toNat ((l2).toNat))] q6.2).bind fun q9 =>
                cond (decide (q9.1 = 0))
                  ((xM d 88 [.inr (.inr (.inl (26, 15))), .inl 23, .inl l1, .inr (.inl l3)] q9.2).bind fun q10 =>
                    some (l2, q10.2))
                  ((xM d 88 [.inr (.inr (.inl (26, 15))), .inl 25, .inl l1, .inr (.inl l3)] q9.2).bind fun q11 =>
                    some (l2, q11.2)))
              none)))
        (cond (xix l5 1700)
          (xw_X9_cutNumber d (7, [some (.inr (.inr (.inl (26, 15)))), some (.inl l1), some (.inl (w32 (l5 + 1))), some (.inr (.inl (w64 ((w64 (l3 * 10)) + (w32 ((q6.2 (q6.2 26 0).toNat ((l5).toNat)) - 48)))))), none, some (.inl (w32 (l5 + 1)))], [], q6.2))
          none))
    none) := by
  refine (xgoL_fix ?_).trans ?_
  · with_unfolding_all rfl
  · with_unfolding_all rfl
noncomputable abbrev xw_X9_cutWord (d : Nat) : xCf → Option (Int × xC) := xgoL zC_X9_cutWord (xM d) (xstop 86) 1
set_option maxRecDepth 100000 in
theorem xm_X9_cutWord (d : Nat) (a1 : Int) (C : xC) : xM (d + 1) 86 [.inr (.inr (.inl (26, 15))), .inl a1] C =
  xw_X9_cutWord d (7, [some (.inr (.inr (.inl (26, 15)))), some (.inl a1), some (.inl a1), some (.inr (.inl 0)), none, some (.inl a1)], [], C) := by
  rw [xM_fix (nL := 6) (rk := 1) (cd := zC_X9_cutWord) rfl rfl rfl rfl]
  with_unfolding_all rfl
set_option maxRecDepth 100000 in
theorem xl_X9_cutWord_7 (d : Nat) (l1 : Int) (l2 : Int) (l3 : Int) (l5 : Int) (C : xC) : xw_X9_cutWord d (7, [some (.inr (.inr (.inl (26, 15)))), some (.inl l1), some (.inl l2), some (.inr (.inl l3)), none, some (.inl l5)], [], C) =
  cond (decide (C 26 1 ≤ l5))
  (cond (decide (w32 (l2 - l1) ≤ 8))
    ((xM d 89 [.inr (.inr (.inl (26, 15))), .inl l1, .inl l2] C).bind fun q1 =>
      (xM d 88 [.inr (.inr (.inl (26, 15))), .inl (q1.1), .inl l1, .inr (.inl l3)] q1.2).bind fun q2 =>
        some (l2, q2.2))
    ((xM d 88 [.inr (.inr (.inl (26, 15))), .inl 25, .inl l1, .inr (.inl l3)] C).bind fun q3 =>
      some (l2, q3.2)))
  (cond (xix l5 1700)
    ((xM d 92 [.inl (C (C 26 0).toNat ((l5).toNat))] C).bind fun q4 =>
      cond (decide (q4.1 = 0))
        (cond (decide (w32 (l2 - l1) ≤ 8))
          ((xM d 89 [.inr (.inr (.inl (26, 15))), .inl l1, .inl l2] q4.2).bind fun q5 =>
            (xM d 88 [.inr (.inr (.inl (26, 15))), .inl (q5.1), .inl l1, .inr (.inl l3)] q5.2).bind fun q6 =>
              some (l2, q6.2))
          ((xM d 88 [.inr (.inr (.inl (26, 15))), .inl 25, .inl l1, .inr (.inl l3)] q4.2).bind fun q7 =>
            some (l2, q7.2)))
        (cond (xix l5 1700)
          (xw_X9_cutWord d (7, [some (.inr (.inr (.inl (26, 15)))), some (.inl l1), some (.inl (w32 (l5 + 1))), some (.inr (.inl (w64 ((w64 (l3 * 27)) + (w32 ((w32 ((q4.2 (q4.2 26 0).toNat ((l5).toNat)) - 97)) + 1)))))), none, some (.inl (w32 (l5 + 1)))], [], q4.2))
          none))
    none) := by
  refine (xgoL_fix ?_).trans ?_
  · with_unfolding_all rfl
  · with_unfolding_all rfl
set_option maxRecDepth 100000 in
theorem xm_X9_cutOne (d : Nat) (a1 : Int) (C : xC) : xM (d + 1) 85 [.inr (.inr (.inl (26, 15))), .inl a1] C =
  cond (xix a1 1700)
  ((xM d 92 [.inl (C (C 26 0).toNat ((a1).toNat))] C).bind fun q1 =>
    cond (decide (q1.1 = 0))
      ((xM d 93 [.inl (C (C 26 0).toNat ((a1).toNat))] q1.2).bind fun q2 =>
        cond (decide (q2.1 = 0))
          ((xM d 94 [.inl (C (C 26 0).toNat ((a1).toNat))] q2.2).bind fun q3 =>
            cond (decide (q3.1 = 0))
              ((xM d 88 [.inr (.inr (.inl (26, 15))), .inl 25, .inl a1, .inr (.inl 0)] q3.2).bind fun q4 =>
                some (w32 (a1 + 1), q4.2))
              ((xM d 88 [.inr (.inr (.inl (26, 15))), .inl (C (C 26 0).toNat ((a1).toNat)), .inl a1, .inr (.inl 0)] q3.2).bind fun q5 =>
                some (w32 (a1 + 1), q5.2)))
          ((xM d 87 [.inr (.inr (.inl (26, 15))), .inl a1] q2.2).bind fun q6 =>
            some (q6.1, q6.2)))
      ((xM d 86 [.inr (.inr (.inl (26, 15))), .inl a1] q1.2).bind fun q7 =>
        some (q7.1, q7.2)))
  none := by
  rw [xM_fix (nL := 3) (rk := 1) (cd := zC_X9_cutOne) rfl rfl rfl rfl]
  with_unfolding_all rfl
noncomputable abbrev xw_X9_cut (d : Nat) : xCf → Option (Int × xC) := xgoL zC_X9_cut (xM d) (xstop 84) 0
set_option maxRecDepth 100000 in
theorem xm_X9_cut (d : Nat) (a1 : Int) (C : xC) : xM (d + 1) 84 [.inr (.inr (.inl (26, 15))), .inl a1] C =
  xw_X9_cut d (14, [some (.inr (.inr (.inl (26, 15)))), some (.inl a1), some (.inl 0), some (.inl 0)], [], (xst (xst C 26 1 a1) 26 2 0)) := by
  rw [xM_fix (nL := 4) (rk := 0) (cd := zC_X9_cut) rfl rfl rfl rfl]
  with_unfolding_all rfl
set_option maxRecDepth 100000 in
theorem xl_X9_cut_14 (d : Nat) (l1 : Int) (l2 : Int) (l3 : Int) (C : xC) : xw_X9_cut d (14, [some (.inr (.inr (.inl (26, 15)))), some (.inl l1), some (.inl l2), some (.inl l3)], [], C) =
  cond (decide (l1 ≤ l3))
  ((xM d 88 [.inr (.inr (.inl (26, 15))), .inl 24, .inl (C 26 1), .inr (.inl 0)] C).bind fun q1 =>
    some (0, q1.2))
  (cond (decide (l1 ≤ l2))
    ((xM d 88 [.inr (.inr (.inl (26, 15))), .inl 24, .inl (C 26 1), .inr (.inl 0)] C).bind fun q2 =>
      some (0, q2.2))
    (cond (xix l2 1700)
      ((xM d 91 [.inl (C (C 26 0).toNat ((l2).toNat))] C).bind fun q3 =>
        cond (decide (q3.1 = 0))
          ((xM d 85 [.inr (.inr (.inl (26, 15))), .inl l2] q3.2).bind fun q4 =>
            xw_X9_cut d (14, [some (.inr (.inr (.inl (26, 15)))), some (.inl l1), some (.inl (q4.1)), some (.inl (w32 (l3 + 1)))], [], q4.2))
          (xw_X9_cut d (14, [some (.inr (.inr (.inl (26, 15)))), some (.inl l1), some (.inl (w32 (l2 + 1))), some (.inl (w32 (l3 + 1)))], [], q3.2)))
      none)) := by
  refine (xgoL_fix ?_).trans ?_
  · with_unfolding_all rfl
  · with_unfolding_all rfl
