/-! The reference reader, method by method: printed by a program. -/
set_option maxRecDepth 100000 in
theorem xm_X12_here (d : Nat) (a1 : Int) (C : xC) : xM (d + 1) 153 [.inr (.inr (.inl (74, 63))), .inl a1] C =
  cond (decide (C 74 5 ≤ w32 ((C 74 4) + a1)))
  (some ((-1), C))
  (cond (xix (w32 ((C 74 4) + a1)) 1700)
    (some (C (C 74 0).toNat ((w32 ((C 74 4) + a1)).toNat), C))
    none) := by
  rw [xM_fix (nL := 2) (rk := 1) (cd := zC_X12_here) rfl rfl rfl rfl]
  with_unfolding_all rfl
set_option maxRecDepth 100000 in
theorem xm_X12_isLetter (d : Nat) (a0 : Int) (C : xC) : xM (d + 1) 154 [.inl a0] C =
  cond (decide (a0 < 97))
  (some (0, C))
  (cond (decide (122 < a0))
    (some (0, C))
    (some (1, C))) := by
  rw [xM_fix (nL := 1) (rk := 1) (cd := zC_X12_isLetter) rfl rfl rfl rfl]
  with_unfolding_all rfl
set_option maxRecDepth 100000 in
theorem xm_X12_isDigit (d : Nat) (a0 : Int) (C : xC) : xM (d + 1) 155 [.inl a0] C =
  cond (decide (a0 < 48))
  (some (0, C))
  (cond (decide (57 < a0))
    (some (0, C))
    (some (1, C))) := by
  rw [xM_fix (nL := 1) (rk := 1) (cd := zC_X12_isDigit) rfl rfl rfl rfl]
  with_unfolding_all rfl
set_option maxRecDepth 100000 in
theorem xm_X12_isSign (d : Nat) (a0 : Int) (C : xC) : xM (d + 1) 156 [.inl a0] C =
  cond (decide (a0 = 59))
  (some (1, C))
  (cond (decide (a0 = 40))
    (some (1, C))
    (cond (decide (a0 = 41))
      (some (1, C))
      (cond (decide (a0 = 60))
        (some (1, C))
        (cond (decide (a0 = 62))
          (some (1, C))
          (cond (decide (a0 = 61))
            (some (1, C))
            (cond (decide (a0 = 43))
              (some (1, C))
              (cond (decide (a0 = 45))
                (some (1, C))
                (cond (decide (a0 = 42))
                  (some (1, C))
                  (cond (decide (a0 = 47))
                    (some (1, C))
                    (cond (decide (a0 ≠ 37))
                      (some (0, C))
                      (some (1, C)))))))))))) := by
  rw [xM_fix (nL := 1) (rk := 1) (cd := zC_X12_isSign) rfl rfl rfl rfl]
  with_unfolding_all rfl
set_option maxRecDepth 100000 in
theorem xm_X12_isWord (d : Nat) (a1 : Int) (C : xC) : xM (d + 1) 159 [.inr (.inr (.inl (74, 63))), .inr (.inl a1)] C =
  cond (decide (C 74 6 ≠ 1))
  (some (0, C))
  (cond (decide (cond (decide (a1 < C 74 9)) 1 (cond (decide (C 74 9 = a1)) 0 (-1)) ≠ 0))
    (some (0, C))
    (some (1, C))) := by
  rw [xM_fix (nL := 3) (rk := 1) (cd := zC_X12_isWord) rfl rfl rfl rfl]
  with_unfolding_all rfl
noncomputable abbrev xw_X12_isOwn (d : Nat) : xCf → Option (Int × xC) := xgoL zC_X12_isOwn (xM d) (xstop 160) 1
set_option maxRecDepth 100000 in
theorem xm_X12_isOwn (d : Nat) (C : xC) : xM (d + 1) 160 [.inr (.inr (.inl (74, 63)))] C =
  cond (decide (cond (decide (2003133803 < C 74 9)) 1 (cond (decide (C 74 9 = 2003133803)) 0 (-1)) = 0))
  (some (1, C))
  (cond (decide (cond (decide (448546566771 < C 74 9)) 1 (cond (decide (C 74 9 = 448546566771)) 0 (-1)) = 0))
    (some (1, C))
    (cond (decide (cond (decide (499967946343 < C 74 9)) 1 (cond (decide (C 74 9 = 499967946343)) 0 (-1)) = 0))
      (some (1, C))
      (cond (decide (cond (decide (29807 < C 74 9)) 1 (cond (decide (C 74 9 = 29807)) 0 (-1)) = 0))
        (some (1, C))
        (cond (decide (cond (decide (7102839 < C 74 9)) 1 (cond (decide (C 74 9 = 7102839)) 0 (-1)) = 0))
          (some (1, C))
          (cond (decide (cond (decide (491328337011 < C 74 9)) 1 (cond (decide (C 74 9 = 491328337011)) 0 (-1)) = 0))
            (some (1, C))
            (xw_X12_isOwn d (66, [some (.inr (.inr (.inl (74, 63))))], [], C))))))) := by
  rw [xM_fix (nL := 1) (rk := 1) (cd := zC_X12_isOwn) rfl rfl rfl rfl]
  with_unfolding_all rfl
set_option maxRecDepth 100000 in
theorem xl_X12_isOwn_66 (d : Nat) (C : xC) : xw_X12_isOwn d (66, [some (.inr (.inr (.inl (74, 63))))], [], C) =
  cond (decide (cond (decide (26982 < C 74 9)) 1 (cond (decide (C 74 9 = 26982)) 0 (-1)) = 0))
  (some (1, C))
  (cond (decide (cond (decide (1952998766 < C 74 9)) 1 (cond (decide (C 74 9 = 1952998766)) 0 (-1)) = 0))
    (some (1, C))
    (cond (decide (cond (decide (6385252 < C 74 9)) 1 (cond (decide (C 74 9 = 6385252)) 0 (-1)) = 0))
      (some (1, C))
      (cond (decide (cond (decide (1684366692 < C 74 9)) 1 (cond (decide (C 74 9 = 1684366692)) 0 (-1)) = 0))
        (some (1, C))
        (cond (decide (cond (decide (6447470 < C 74 9)) 1 (cond (decide (C 74 9 = 6447470)) 0 (-1)) = 0))
          (some (1, C))
          (xw_X12_isOwn d (121, [some (.inr (.inr (.inl (74, 63))))], [], C)))))) := by
  refine (xgoL_fix ?_).trans ?_
  · with_unfolding_all rfl
  · with_unfolding_all rfl
set_option maxRecDepth 100000 in
theorem xl_X12_isOwn_121 (d : Nat) (C : xC) : xw_X12_isOwn d (121, [some (.inr (.inr (.inl (74, 63))))], [], C) =
  cond (decide (cond (decide (1735352684 < C 74 9)) 1 (cond (decide (C 74 9 = 1735352684)) 0 (-1)) = 0))
  (some (1, C))
  (cond (decide (cond (decide (1734437230 < C 74 9)) 1 (cond (decide (C 74 9 = 1734437230)) 0 (-1)) = 0))
    (some (1, C))
    (cond (decide (cond (decide (444351474788 < C 74 9)) 1 (cond (decide (C 74 9 = 444351474788)) 0 (-1)) = 0))
      (some (1, C))
      (cond (decide (cond (decide (28518 < C 74 9)) 1 (cond (decide (C 74 9 = 28518)) 0 (-1)) = 0))
        (some (1, C))
        (cond (decide (cond (decide (512735736947 < C 74 9)) 1 (cond (decide (C 74 9 = 512735736947)) 0 (-1)) = 0))
          (some (1, C))
          (xw_X12_isOwn d (176, [some (.inr (.inr (.inl (74, 63))))], [], C)))))) := by
  refine (xgoL_fix ?_).trans ?_
  · with_unfolding_all rfl
  · with_unfolding_all rfl
set_option maxRecDepth 100000 in
theorem xl_X12_isOwn_176 (d : Nat) (C : xC) : xw_X12_isOwn d (176, [some (.inr (.inr (.inl (74, 63))))], [], C) =
  cond (decide (cond (decide (27696025463252339 < C 74 9)) 1 (cond (decide (C 74 9 = 27696025463252339)) 0 (-1)) = 0))
  (some (1, C))
  (cond (decide (cond (decide (28530 < C 74 9)) 1 (cond (decide (C 74 9 = 28530)) 0 (-1)) = 0))
    (some (1, C))
    (cond (decide (cond (decide (1634497391 < C 74 9)) 1 (cond (decide (C 74 9 = 1634497391)) 0 (-1)) = 0))
      (some (1, C))
      (cond (decide (cond (decide (7237492 < C 74 9)) 1 (cond (decide (C 74 9 = 7237492)) 0 (-1)) = 0))
        (some (1, C))
        (cond (decide (cond (decide (6578553 < C 74 9)) 1 (cond (decide (C 74 9 = 6578553)) 0 (-1)) = 0))
          (some (1, C))
          (xw_X12_isOwn d (231, [some (.inr (.inr (.inl (74, 63))))], [], C)))))) := by
  refine (xgoL_fix ?_).trans ?_
  · with_unfolding_all rfl
  · with_unfolding_all rfl
set_option maxRecDepth 100000 in
theorem xl_X12_isOwn_231 (d : Nat) (C : xC) : xw_X12_isOwn d (231, [some (.inr (.inr (.inl (74, 63))))], [], C) =
  cond (decide (cond (decide (1752135026 < C 74 9)) 1 (cond (decide (C 74 9 = 1752135026)) 0 (-1)) ≠ 0))
  (some (0, C))
  (some (1, C)) := by
  refine (xgoL_fix ?_).trans ?_
  · with_unfolding_all rfl
  · with_unfolding_all rfl
set_option maxRecDepth 100000 in
theorem xm_X12_isName (d : Nat) (C : xC) : xM (d + 1) 161 [.inr (.inr (.inl (74, 63)))] C =
  cond (decide (C 74 6 ≠ 1))
  (some (0, C))
  ((xM d 160 [.inr (.inr (.inl (74, 63)))] C).bind fun q1 =>
    cond (decide (q1.1 ≠ 0))
      (some (0, q1.2))
      (some (1, q1.2))) := by
  rw [xM_fix (nL := 1) (rk := 1) (cd := zC_X12_isName) rfl rfl rfl rfl]
  with_unfolding_all rfl
set_option maxRecDepth 100000 in
theorem xm_X12_wrong (d : Nat) (a1 : Int) (C : xC) : xM (d + 1) 158 [.inr (.inr (.inl (74, 63))), .inl a1] C =
  cond (decide (C 74 2 ≤ 0))
  (cond (decide (C 74 6 ≠ 3))
    (some (0, (xst (xst C 74 2 a1) 74 3 (C 74 7))))
    (some (0, (xst (xst C 74 2 1) 74 3 (C 74 7)))))
  (some (0, C)) := by
  rw [xM_fix (nL := 2) (rk := 0) (cd := zC_X12_wrong) rfl rfl rfl rfl]
  with_unfolding_all rfl
noncomputable abbrev xw_X12_token (d : Nat) : xCf → Option (Int × xC) := xgoL zC_X12_token (xM d) (xstop 157) 0
set_option maxRecDepth 100000 in
theorem xm_X12_token (d : Nat) (C : xC) : xM (d + 1) 157 [.inr (.inr (.inl (74, 63)))] C =
  (xM d 153 [.inr (.inr (.inl (74, 63))), .inl 0] C).bind fun q1 =>
  cond (decide (q1.1 = 32))
    (xw_X12_token d (0, [some (.inr (.inr (.inl (74, 63)))), none, none], [], (xst q1.2 74 4 (w32 ((q1.2 74 4) + 1)))))
    ((xM d 153 [.inr (.inr (.inl (74, 63))), .inl 0] q1.2).bind fun q2 =>
      cond (decide (q2.1 ≠ 10))
        ((xM d 153 [.inr (.inr (.inl (74, 63))), .inl 0] (xst q2.2 74 7 (q2.2 74 4))).bind fun q3 =>
          cond (decide (0 ≤ q3.1))
            ((xM d 154 [.inl (q3.1)] (xst (xst q3.2 74 9 0) 74 8 0)).bind fun q4 =>
              cond (decide (q4.1 = 0))
                ((xM d 155 [.inl (q3.1)] q4.2).bind fun q5 =>
                  cond (decide (q5.1 = 0))
                    ((xM d 156 [.inl (q3.1)] q5.2).bind fun q6 =>
                      cond (decide (q6.1 = 0))
                        (some (0, (xst q6.2 74 6 3)))
                        (cond (decide (q3.1 = 3))
                          (some (0, (xst q6.2 74 6 (q3.1))))
                          (some (0, (xst (xst q6.2 74 6 (q3.1)) 74 4 (w32 ((q6.2 74 4) + 1)))))))
                    (xw_X12_token d (144, [some (.inr (.inr (.inl (74, 63)))), some (.inl (q3.1)), some (.inl 0)], [], q5.2)))
                (xw_X12_token d (78, [some (.inr (.inr (.inl (74, 63)))), some (.inl (q3.1)), some (.inl 0)], [], q4.2)))
            (some (0, (xst (xst (xst (xst q3.2 74 9 0) 74 8 0) 74 6 0) 74 4 (w32 ((q3.2 74 4) + 0))))))
        (xw_X12_token d (0, [some (.inr (.inr (.inl (74, 63)))), none, none], [], (xst q2.2 74 4 (w32 ((q2.2 74 4) + 1)))))) := by
  rw [xM_fix (nL := 3) (rk := 0) (cd := zC_X12_token) rfl rfl rfl rfl]
  with_unfolding_all rfl
set_option maxRecDepth 100000 in
theorem xl_X12_token_0 (d : Nat) (C : xC) : xw_X12_token d (0, [some (.inr (.inr (.inl (74, 63)))), none, none], [], C) =
  (xM d 153 [.inr (.inr (.inl (74, 63))), .inl 0] C).bind fun q1 =>
  cond (decide (q1.1 = 32))
    (xw_X12_token d (0, [some (.inr (.inr (.inl (74, 63)))), none, none], [], (xst q1.2 74 4 (w32 ((q1.2 74 4) + 1)))))
    ((xM d 153 [.inr (.inr (.inl (74, 63))), .inl 0] q1.2).bind fun q2 =>
      cond (decide (q2.1 ≠ 10))
        ((xM d 153 [.inr (.inr (.inl (74, 63))), .inl 0] (xst q2.2 74 7 (q2.2 74 4))).bind fun q3 =>
          cond (decide (0 ≤ q3.1))
            ((xM d 154 [.inl (q3.1)] (xst (xst q3.2 74 9 0) 74 8 0)).bind fun q4 =>
              cond (decide (q4.1 = 0))
                ((xM d 155 [.inl (q3.1)] q4.2).bind fun q5 =>
                  cond (decide (q5.1 = 0))
                    ((xM d 156 [.inl (q3.1)] q5.2).bind fun q6 =>
                      cond (decide (q6.1 = 0))
                        (some (0, (xst q6.2 74 6 3)))
                        (cond (decide (q3.1 = 3))
                          (some (0, (xst q6.2 74 6 (q3.1))))
                          (some (0, (xst (xst q6.2 74 6 (q3.1)) 74 4 (w32 ((q6.2 74 4) + 1)))))))
                    (xw_X12_token d (144, [some (.inr (.inr (.inl (74, 63)))), some (.inl (q3.1)), some (.inl 0)], [], q5.2)))
                (xw_X12_token d (78, [some (.inr (.inr (.inl (74, 63)))), some (.inl (q3.1)), some (.inl 0)], [], q4.2)))
            (some (0, (xst (xst (xst (xst q3.2 74 9 0) 74 8 0) 74 6 0) 74 4 (w32 ((q3.2 74 4) + 0))))))
        (xw_X12_token d (0, [some (.inr (.inr (.inl (74, 63)))), none, none], [], (xst q2.2 74 4 (w32 ((q2.2 74 4) + 1)))))) := by
  refine (xgoL_fix ?_).trans ?_
  · with_unfolding_all rfl
  · with_unfolding_all rfl
set_option maxRecDepth 100000 in
theorem xl_X12_token_78 (d : Nat) (l1 : Int) (l2 : Int) (C : xC) : xw_X12_token d (78, [some (.inr (.inr (.inl (74, 63)))), some (.inl l1), some (.inl l2)], [], C) =
  (xM d 153 [.inr (.inr (.inl (74, 63))), .inl l2] C).bind fun q1 =>
  (xM d 154 [.inl (q1.1)] q1.2).bind fun q2 =>
    cond (decide (q2.1 = 0))
      (cond (decide (l2 ≤ 8))
        (some (0, (xst (xst q2.2 74 6 1) 74 4 (w32 ((q2.2 74 4) + l2)))))
        (some (0, (xst q2.2 74 6 3))))
      (cond (decide (8 ≤ l2))
        (xw_X12_token d (78, [some (.inr (.inr (.inl (74, 63)))), some (.inl l1), some (.inl (w32 (l2 + 1)))], [], q2.2))
        ((xM d 153 [.inr (.inr (.inl (74, 63))), .inl l2] q2.2).bind fun q3 =>
          xw_X12_token d (78, [some (.inr (.inr (.inl (74, 63)))), some (.inl l1), some (.inl (w32 (l2 + 1)))], [], (xst q3.2 74 9 (x64 (· ||| ·) (xsh (fun x y => x <<< (y &&& 63)) (q2.2 74 9) 8) (q3.1)))))) := by
  refine (xgoL_fix ?_).trans ?_
  · with_unfolding_all rfl
  · with_unfolding_all rfl
set_option maxRecDepth 100000 in
theorem xl_X12_token_144 (d : Nat) (l1 : Int) (l2 : Int) (C : xC) : xw_X12_token d (144, [some (.inr (.inr (.inl (74, 63)))), some (.inl l1), some (.inl l2)], [], C) =
  (xM d 153 [.inr (.inr (.inl (74, 63))), .inl l2] C).bind fun q1 =>
  (xM d 155 [.inl (q1.1)] q1.2).bind fun q2 =>
    cond (decide (q2.1 = 0))
      (cond (decide (4 < l2))
        (some (0, (xst q2.2 74 6 3)))
        ((xM d 153 [.inr (.inr (.inl (74, 63))), .inl l2] q2.2).bind fun q3 =>
          (xM d 154 [.inl (q3.1)] q3.2).bind fun q4 =>
            cond (decide (q4.1 = 0))
              (some (0, (xst (xst q4.2 74 6 2) 74 4 (w32 ((q4.2 74 4) + l2)))))
              (some (0, (xst q4.2 74 6 3)))))
      (cond (decide (4 ≤ l2))
        (xw_X12_token d (144, [some (.inr (.inr (.inl (74, 63)))), some (.inl l1), some (.inl (w32 (l2 + 1)))], [], q2.2))
        ((xM d 153 [.inr (.inr (.inl (74, 63))), .inl l2] q2.2).bind fun q5 =>
          xw_X12_token d (144, [some (.inr (.inr (.inl (74, 63)))), some (.inl l1), some (.inl (w32 (l2 + 1)))], [], (xst q5.2 74 8 (w32 ((w32 ((w32 (10 * (q2.2 74 8))) + (q5.1))) - 48)))))) := by
  refine (xgoL_fix ?_).trans ?_
  · with_unfolding_all rfl
  · with_unfolding_all rfl
set_option maxRecDepth 100000 in
theorem xm_X12_want (d : Nat) (a1 : Int) (C : xC) : xM (d + 1) 162 [.inr (.inr (.inl (74, 63))), .inr (.inl a1)] C =
  cond (decide (C 74 2 ≤ 0))
  ((xM d 159 [.inr (.inr (.inl (74, 63))), .inr (.inl a1)] C).bind fun q1 =>
    cond (decide (q1.1 ≠ 0))
      ((xM d 157 [.inr (.inr (.inl (74, 63)))] q1.2).bind fun q2 =>
        some (0, q2.2))
      ((xM d 158 [.inr (.inr (.inl (74, 63))), .inl 2] q1.2).bind fun q3 =>
        some (0, q3.2)))
  (some (0, C)) := by
  rw [xM_fix (nL := 3) (rk := 0) (cd := zC_X12_want) rfl rfl rfl rfl]
  with_unfolding_all rfl
