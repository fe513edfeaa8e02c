/-! The reference reader, method by method: printed by a program. -/
set_option maxRecDepth 100000 in
theorem xm_X12_readSet (d : Nat) (a1 : Int) (C : xC) : xM (d + 1) 187 [.inr (.inr (.inl (74, 63))), .inl a1] C =
  cond (xix a1 11)
  ((xM d 167 [.inr (.inr (.inl (74, 63))), .inl 0, .inl (C 74 42)] C).bind fun q1 =>
    (xM d 162 [.inr (.inr (.inl (74, 63))), .inr (.inl 27696025463252339)] q1.2).bind fun q2 =>
      cond (decide (q2.2 74 2 ≤ 0))
        (cond (xix (w32 ((w32 (4 * a1)) + (C (C 74 33).toNat ((a1).toNat)))) 44 && xna 2 (q1.1))
          ((xM d 179 [.inr (.inr (.inl (74, 63))), .inl (w32 ((w32 ((w32 (5 * a1)) + 1)) + (C (C 74 33).toNat ((a1).toNat))))] (xst q2.2 (q2.2 74 34).toNat (w32 ((w32 (4 * a1)) + (C (C 74 33).toNat ((a1).toNat)))).toNat (q1.1))).bind fun q3 =>
            cond (xix a1 11)
              (cond (xix a1 11 && xna 2 (w32 ((q3.2 (q3.2 74 33).toNat ((a1).toNat)) + 1)))
                (some (0, (xst q3.2 (q3.2 74 33).toNat (a1).toNat (w32 ((q3.2 (q3.2 74 33).toNat ((a1).toNat)) + 1)))))
                none)
              none)
          none)
        (some (0, q2.2)))
  none := by
  rw [xM_fix (nL := 4) (rk := 0) (cd := zC_X12_readSet) rfl rfl rfl rfl]
  with_unfolding_all rfl
set_option maxRecDepth 100000 in
theorem xm_X12_readLaw (d : Nat) (C : xC) : xM (d + 1) 188 [.inr (.inr (.inl (74, 63)))] C =
  (xM d 166 [.inr (.inr (.inl (74, 63))), .inl 6, .inl (C 74 43)] C).bind fun q1 =>
  (xM d 164 [.inr (.inr (.inl (74, 63))), .inr (.inl 491328337011), .inl 0, .inl (w32 ((q1.2 74 47) - 1))] q1.2).bind fun q2 =>
    cond (xix (q1.2 74 43) 5 && xna 2 (q2.1))
      ((xM d 162 [.inr (.inr (.inl (74, 63))), .inr (.inl 26982)] (xst q2.2 (q1.2 74 30).toNat (q1.2 74 43).toNat (q2.1))).bind fun q3 =>
        (xM d 186 [.inr (.inr (.inl (74, 63))), .inl (q3.2 74 43)] q3.2).bind fun q4 =>
          cond (decide (q4.2 74 2 ≠ 0))
            (some (0, q4.2))
            (some (0, (xst q4.2 74 43 (w32 ((q4.2 74 43) + 1))))))
      none := by
  rw [xM_fix (nL := 1) (rk := 0) (cd := zC_X12_readLaw) rfl rfl rfl rfl]
  with_unfolding_all rfl
set_option maxRecDepth 100000 in
theorem xm_X12_readDeed (d : Nat) (C : xC) : xM (d + 1) 189 [.inr (.inr (.inl (74, 63)))] C =
  (xM d 166 [.inr (.inr (.inl (74, 63))), .inl 11, .inl (C 74 44)] C).bind fun q1 =>
  (xM d 162 [.inr (.inr (.inl (74, 63))), .inr (.inl 26982)] q1.2).bind fun q2 =>
    (xM d 186 [.inr (.inr (.inl (74, 63))), .inl (w32 (5 + (q2.2 74 44)))] q2.2).bind fun q3 =>
      cond (decide (q3.2 74 2 ≠ 0))
        (some (0, q3.2))
        (some (0, (xst q3.2 74 44 (w32 ((q3.2 74 44) + 1))))) := by
  rw [xM_fix (nL := 1) (rk := 0) (cd := zC_X12_readDeed) rfl rfl rfl rfl]
  with_unfolding_all rfl
set_option maxRecDepth 100000 in
theorem xm_X12_readBan (d : Nat) (C : xC) : xM (d + 1) 190 [.inr (.inr (.inl (74, 63)))] C =
  (xM d 166 [.inr (.inr (.inl (74, 63))), .inl 17, .inl (C 74 45)] C).bind fun q1 =>
  (xM d 164 [.inr (.inr (.inl (74, 63))), .inr (.inl 491328337011), .inl 0, .inl (w32 ((q1.2 74 47) - 1))] q1.2).bind fun q2 =>
    cond (xix (q1.2 74 45) 4 && xna 2 (q2.1))
      ((xM d 162 [.inr (.inr (.inl (74, 63))), .inr (.inl 26982)] (xst q2.2 (q1.2 74 31).toNat (q1.2 74 45).toNat (q2.1))).bind fun q3 =>
        (xM d 179 [.inr (.inr (.inl (74, 63))), .inl (w32 (55 + (q3.2 74 45)))] q3.2).bind fun q4 =>
          cond (decide (q4.2 74 2 ≠ 0))
            (some (0, q4.2))
            (some (0, (xst q4.2 74 45 (w32 ((q4.2 74 45) + 1))))))
      none := by
  rw [xM_fix (nL := 1) (rk := 0) (cd := zC_X12_readBan) rfl rfl rfl rfl]
  with_unfolding_all rfl
set_option maxRecDepth 100000 in
theorem xm_X12_readGuild (d : Nat) (C : xC) : xM (d + 1) 191 [.inr (.inr (.inl (74, 63)))] C =
  (xM d 166 [.inr (.inr (.inl (74, 63))), .inl 21, .inl (C 74 46)] C).bind fun q1 =>
  (xM d 162 [.inr (.inr (.inl (74, 63))), .inr (.inl 28518)] q1.2).bind fun q2 =>
    (xM d 167 [.inr (.inr (.inl (74, 63))), .inl 6, .inl (q2.2 74 43)] q2.2).bind fun q3 =>
      cond (xix (q2.2 74 46) 4 && xna 2 (q3.1))
        ((xM d 162 [.inr (.inr (.inl (74, 63))), .inr (.inl 512735736947)] (xst q3.2 (q2.2 74 32).toNat (q2.2 74 46).toNat (q3.1))).bind fun q4 =>
          (xM d 179 [.inr (.inr (.inl (74, 63))), .inl (w32 (61 + (q4.2 74 46)))] q4.2).bind fun q5 =>
            cond (decide (q5.2 74 2 ≠ 0))
              (some (0, q5.2))
              (some (0, (xst q5.2 74 46 (w32 ((q5.2 74 46) + 1))))))
        none := by
  rw [xM_fix (nL := 1) (rk := 0) (cd := zC_X12_readGuild) rfl rfl rfl rfl]
  with_unfolding_all rfl
noncomputable abbrev xw_X12_readLine (d : Nat) : xCf → Option (Int × xC) := xgoL zC_X12_readLine (xM d) (xstop 192) 0
set_option maxRecDepth 100000 in
theorem xm_X12_readLine (d : Nat) (C : xC) : xM (d + 1) 192 [.inr (.inr (.inl (74, 63)))] C =
  (xM d 159 [.inr (.inr (.inl (74, 63))), .inr (.inl 2003133803)] C).bind fun q1 =>
  cond (decide (q1.1 = 0))
    (xw_X12_readLine d (31, [some (.inr (.inr (.inl (74, 63))))], [], q1.2))
    (cond (decide (q1.2 74 56 ≠ 0))
      (xw_X12_readLine d (31, [some (.inr (.inr (.inl (74, 63))))], [], q1.2))
      (cond (decide (q1.2 74 57 ≠ 0))
        (xw_X12_readLine d (31, [some (.inr (.inr (.inl (74, 63))))], [], q1.2))
        ((xM d 184 [.inr (.inr (.inl (74, 63)))] q1.2).bind fun q2 =>
          xw_X12_readLine d (233, [some (.inr (.inr (.inl (74, 63))))], [], q2.2)))) := by
  rw [xM_fix (nL := 1) (rk := 0) (cd := zC_X12_readLine) rfl rfl rfl rfl]
  with_unfolding_all rfl
set_option maxRecDepth 100000 in
theorem xl_X12_readLine_31 (d : Nat) (C : xC) : xw_X12_readLine d (31, [some (.inr (.inr (.inl (74, 63))))], [], C) =
  (xM d 159 [.inr (.inr (.inl (74, 63))), .inr (.inl 499967946343)] C).bind fun q1 =>
  cond (decide (q1.1 = 0))
    (xw_X12_readLine d (57, [some (.inr (.inr (.inl (74, 63))))], [], q1.2))
    (cond (decide (6 ≤ q1.2 74 42))
      (xw_X12_readLine d (57, [some (.inr (.inr (.inl (74, 63))))], [], q1.2))
      ((xM d 185 [.inr (.inr (.inl (74, 63)))] q1.2).bind fun q2 =>
        xw_X12_readLine d (233, [some (.inr (.inr (.inl (74, 63))))], [], q2.2))) := by
  refine (xgoL_fix ?_).trans ?_
  · with_unfolding_all rfl
  · with_unfolding_all rfl
set_option maxRecDepth 100000 in
theorem xl_X12_readLine_57 (d : Nat) (C : xC) : xw_X12_readLine d (57, [some (.inr (.inr (.inl (74, 63))))], [], C) =
  (xM d 159 [.inr (.inr (.inl (74, 63))), .inr (.inl 7102839)] C).bind fun q1 =>
  cond (decide (q1.1 = 0))
    (xw_X12_readLine d (82, [some (.inr (.inr (.inl (74, 63))))], [], q1.2))
    (cond (decide (5 ≤ q1.2 74 43))
      (xw_X12_readLine d (82, [some (.inr (.inr (.inl (74, 63))))], [], q1.2))
      ((xM d 188 [.inr (.inr (.inl (74, 63)))] q1.2).bind fun q2 =>
        xw_X12_readLine d (233, [some (.inr (.inr (.inl (74, 63))))], [], q2.2))) := by
  refine (xgoL_fix ?_).trans ?_
  · with_unfolding_all rfl
  · with_unfolding_all rfl
set_option maxRecDepth 100000 in
theorem xl_X12_readLine_82 (d : Nat) (C : xC) : xw_X12_readLine d (82, [some (.inr (.inr (.inl (74, 63))))], [], C) =
  (xM d 159 [.inr (.inr (.inl (74, 63))), .inr (.inl 1684366692)] C).bind fun q1 =>
  cond (decide (q1.1 = 0))
    (xw_X12_readLine d (108, [some (.inr (.inr (.inl (74, 63))))], [], q1.2))
    (cond (decide (6 ≤ q1.2 74 44))
      (xw_X12_readLine d (108, [some (.inr (.inr (.inl (74, 63))))], [], q1.2))
      ((xM d 189 [.inr (.inr (.inl (74, 63)))] q1.2).bind fun q2 =>
        xw_X12_readLine d (233, [some (.inr (.inr (.inl (74, 63))))], [], q2.2))) := by
  refine (xgoL_fix ?_).trans ?_
  · with_unfolding_all rfl
  · with_unfolding_all rfl
set_option maxRecDepth 100000 in
theorem xl_X12_readLine_108 (d : Nat) (C : xC) : xw_X12_readLine d (108, [some (.inr (.inr (.inl (74, 63))))], [], C) =
  (xM d 159 [.inr (.inr (.inl (74, 63))), .inr (.inl 6447470)] C).bind fun q1 =>
  cond (decide (q1.1 = 0))
    (xw_X12_readLine d (133, [some (.inr (.inr (.inl (74, 63))))], [], q1.2))
    (cond (decide (4 ≤ q1.2 74 45))
      (xw_X12_readLine d (133, [some (.inr (.inr (.inl (74, 63))))], [], q1.2))
      ((xM d 190 [.inr (.inr (.inl (74, 63)))] q1.2).bind fun q2 =>
        xw_X12_readLine d (233, [some (.inr (.inr (.inl (74, 63))))], [], q2.2))) := by
  refine (xgoL_fix ?_).trans ?_
  · with_unfolding_all rfl
  · with_unfolding_all rfl
set_option maxRecDepth 100000 in
theorem xl_X12_readLine_133 (d : Nat) (C : xC) : xw_X12_readLine d (133, [some (.inr (.inr (.inl (74, 63))))], [], C) =
  (xM d 159 [.inr (.inr (.inl (74, 63))), .inr (.inl 1735352684)] C).bind fun q1 =>
  cond (decide (q1.1 = 0))
    (xw_X12_readLine d (168, [some (.inr (.inr (.inl (74, 63))))], [], q1.2))
    (cond (decide (q1.2 74 58 ≠ 0))
      (xw_X12_readLine d (168, [some (.inr (.inr (.inl (74, 63))))], [], q1.2))
      ((xM d 157 [.inr (.inr (.inl (74, 63)))] (xst q1.2 74 58 1)).bind fun q2 =>
        (xM d 179 [.inr (.inr (.inl (74, 63))), .inl 59] q2.2).bind fun q3 =>
          xw_X12_readLine d (233, [some (.inr (.inr (.inl (74, 63))))], [], q3.2))) := by
  refine (xgoL_fix ?_).trans ?_
  · with_unfolding_all rfl
  · with_unfolding_all rfl
set_option maxRecDepth 100000 in
theorem xl_X12_readLine_168 (d : Nat) (C : xC) : xw_X12_readLine d (168, [some (.inr (.inr (.inl (74, 63))))], [], C) =
  (xM d 159 [.inr (.inr (.inl (74, 63))), .inr (.inl 1734437230)] C).bind fun q1 =>
  cond (decide (q1.1 = 0))
    (xw_X12_readLine d (203, [some (.inr (.inr (.inl (74, 63))))], [], q1.2))
    (cond (decide (q1.2 74 59 ≠ 0))
      (xw_X12_readLine d (203, [some (.inr (.inr (.inl (74, 63))))], [], q1.2))
      ((xM d 157 [.inr (.inr (.inl (74, 63)))] (xst q1.2 74 59 1)).bind fun q2 =>
        (xM d 179 [.inr (.inr (.inl (74, 63))), .inl 60] q2.2).bind fun q3 =>
          xw_X12_readLine d (233, [some (.inr (.inr (.inl (74, 63))))], [], q3.2))) := by
  refine (xgoL_fix ?_).trans ?_
  · with_unfolding_all rfl
  · with_unfolding_all rfl
set_option maxRecDepth 100000 in
theorem xl_X12_readLine_203 (d : Nat) (C : xC) : xw_X12_readLine d (203, [some (.inr (.inr (.inl (74, 63))))], [], C) =
  (xM d 159 [.inr (.inr (.inl (74, 63))), .inr (.inl 444351474788)] C).bind fun q1 =>
  cond (decide (q1.1 = 0))
    (xw_X12_readLine d (228, [some (.inr (.inr (.inl (74, 63))))], [], q1.2))
    (cond (decide (4 ≤ q1.2 74 46))
      (xw_X12_readLine d (228, [some (.inr (.inr (.inl (74, 63))))], [], q1.2))
      ((xM d 191 [.inr (.inr (.inl (74, 63)))] q1.2).bind fun q2 =>
        xw_X12_readLine d (233, [some (.inr (.inr (.inl (74, 63))))], [], q2.2))) := by
  refine (xgoL_fix ?_).trans ?_
  · with_unfolding_all rfl
  · with_unfolding_all rfl
set_option maxRecDepth 100000 in
theorem xl_X12_readLine_228 (d : Nat) (C : xC) : xw_X12_readLine d (228, [some (.inr (.inr (.inl (74, 63))))], [], C) =
  (xM d 158 [.inr (.inr (.inl (74, 63))), .inl 2] C).bind fun q1 =>
  xw_X12_readLine d (233, [some (.inr (.inr (.inl (74, 63))))], [], q1.2) := by
  refine (xgoL_fix ?_).trans ?_
  · with_unfolding_all rfl
  · with_unfolding_all rfl
set_option maxRecDepth 100000 in
theorem xl_X12_readLine_233 (d : Nat) (C : xC) : xw_X12_readLine d (233, [some (.inr (.inr (.inl (74, 63))))], [], C) =
  cond (decide (C 74 2 ≠ 0))
  (xw_X12_readLine d (259, [some (.inr (.inr (.inl (74, 63))))], [], (xst C 74 57 1)))
  (cond (decide (C 74 6 = 59))
    (xw_X12_readLine d (259, [some (.inr (.inr (.inl (74, 63))))], [], (xst C 74 57 1)))
    ((xM d 158 [.inr (.inr (.inl (74, 63))), .inl 2] (xst C 74 57 1)).bind fun q1 =>
      xw_X12_readLine d (259, [some (.inr (.inr (.inl (74, 63))))], [], q1.2))) := by
  refine (xgoL_fix ?_).trans ?_
  · with_unfolding_all rfl
  · with_unfolding_all rfl
set_option maxRecDepth 100000 in
theorem xl_X12_readLine_259 (d : Nat) (C : xC) : xw_X12_readLine d (259, [some (.inr (.inr (.inl (74, 63))))], [], C) =
  cond (decide (C 74 2 ≠ 0))
  (some (0, C))
  ((xM d 157 [.inr (.inr (.inl (74, 63)))] C).bind fun q1 =>
    some (0, q1.2)) := by
  refine (xgoL_fix ?_).trans ?_
  · with_unfolding_all rfl
  · with_unfolding_all rfl
noncomputable abbrev xw_X12_readAll (d : Nat) : xCf → Option (Int × xC) := xgoL zC_X12_readAll (xM d) (xstop 193) 0
set_option maxRecDepth 100000 in
theorem xm_X12_readAll (d : Nat) (C : xC) : xM (d + 1) 193 [.inr (.inr (.inl (74, 63)))] C =
  (xM d 157 [.inr (.inr (.inl (74, 63)))] (xst (xst (xst (xst (xst (xst (xst (xst (xst (xst (xst (xst (xst (xst (xst (xst (xst (xst C 74 5 (C 74 1)) 74 1 0) 74 4 0) 74 2 0) 74 3 (-1)) 74 42 0) 74 43 0) 74 44 0) 74 45 0) 74 46 0) 74 47 7) 74 48 4) 74 56 0) 74 57 0) 74 58 0) 74 59 0) 74 24 0) 74 23 0)).bind fun q1 =>
  xw_X12_readAll d (98, [some (.inr (.inr (.inl (74, 63))))], [], q1.2) := by
  rw [xM_fix (nL := 1) (rk := 0) (cd := zC_X12_readAll) rfl rfl rfl rfl]
  with_unfolding_all rfl
set_option maxRecDepth 100000 in
theorem xl_X12_readAll_98 (d : Nat) (C : xC) : xw_X12_readAll d (98, [some (.inr (.inr (.inl (74, 63))))], [], C) =
  cond (decide (C 74 2 ≠ 0))
  (some (0, C))
  (cond (decide (C 74 6 = 0))
    (some (0, C))
    ((xM d 192 [.inr (.inr (.inl (74, 63)))] C).bind fun q1 =>
      xw_X12_readAll d (98, [some (.inr (.inr (.inl (74, 63))))], [], q1.2))) := by
  refine (xgoL_fix ?_).trans ?_
  · with_unfolding_all rfl
  · with_unfolding_all rfl
