/-! The class’s reader, method by method: printed by a program. -/
noncomputable abbrev xw_J7_fill_53178_counts (d : Nat) : xCf → Option (Int × xC) := xgoL zC_J7_fill_53178 (xM d) (xstop 272) 0
set_option maxRecDepth 100000 in
theorem xm_J7_fill_53178_counts (d : Nat) (r0 : Nat) (a1 : Int) (C : xC) : xM (d + 1) 272 [.inr (.inr (.inl (r0, 3))), .inl a1] C =
  xw_J7_fill_53178_counts d (5, [some (.inr (.inr (.inl (r0, 3)))), some (.inl a1), some (.inl 0), some (.inl 5)], [], C) := by
  rw [xM_fix (nL := 4) (rk := 0) (cd := zC_J7_fill_53178) rfl rfl rfl rfl]
  with_unfolding_all rfl
set_option maxRecDepth 100000 in
theorem xl_J7_fill_53178_counts_5 (d : Nat) (r0 : Nat) (l1 : Int) (l2 : Int) (l3 : Int) (C : xC) : xw_J7_fill_53178_counts d (5, [some (.inr (.inr (.inl (r0, 3)))), some (.inl l1), some (.inl l2), some (.inl l3)], [], C) =
  cond (decide (l3 ≤ l2))
  (some (0, C))
  (cond (xix l2 5 && xna 2 l1)
    (xw_J7_fill_53178_counts d (5, [some (.inr (.inr (.inl (r0, 3)))), some (.inl l1), some (.inl (w32 (l2 + 1))), some (.inl l3)], [], (xst C r0 (l2).toNat l1)))
    none) := by
  refine (xgoL_fix ?_).trans ?_
  · with_unfolding_all rfl
  · with_unfolding_all rfl
noncomputable abbrev xw_J7_fill_53178_first (d : Nat) : xCf → Option (Int × xC) := xgoL zC_J7_fill_53178 (xM d) (xstop 272) 0
set_option maxRecDepth 100000 in
theorem xm_J7_fill_53178_first (d : Nat) (r0 : Nat) (a1 : Int) (C : xC) : xM (d + 1) 272 [.inr (.inr (.inl (r0, 4))), .inl a1] C =
  xw_J7_fill_53178_first d (5, [some (.inr (.inr (.inl (r0, 4)))), some (.inl a1), some (.inl 0), some (.inl 6)], [], C) := by
  rw [xM_fix (nL := 4) (rk := 0) (cd := zC_J7_fill_53178) rfl rfl rfl rfl]
  with_unfolding_all rfl
set_option maxRecDepth 100000 in
theorem xl_J7_fill_53178_first_5 (d : Nat) (r0 : Nat) (l1 : Int) (l2 : Int) (l3 : Int) (C : xC) : xw_J7_fill_53178_first d (5, [some (.inr (.inr (.inl (r0, 4)))), some (.inl l1), some (.inl l2), some (.inl l3)], [], C) =
  cond (decide (l3 ≤ l2))
  (some (0, C))
  (cond (xix l2 6 && xna 2 l1)
    (xw_J7_fill_53178_first d (5, [some (.inr (.inr (.inl (r0, 4)))), some (.inl l1), some (.inl (w32 (l2 + 1))), some (.inl l3)], [], (xst C r0 (l2).toNat l1)))
    none) := by
  refine (xgoL_fix ?_).trans ?_
  · with_unfolding_all rfl
  · with_unfolding_all rfl
noncomputable abbrev xw_J7_fill_53178_greatest (d : Nat) : xCf → Option (Int × xC) := xgoL zC_J7_fill_53178 (xM d) (xstop 272) 0
set_option maxRecDepth 100000 in
theorem xm_J7_fill_53178_greatest (d : Nat) (r0 : Nat) (a1 : Int) (C : xC) : xM (d + 1) 272 [.inr (.inr (.inl (r0, 5))), .inl a1] C =
  xw_J7_fill_53178_greatest d (5, [some (.inr (.inr (.inl (r0, 5)))), some (.inl a1), some (.inl 0), some (.inl 6)], [], C) := by
  rw [xM_fix (nL := 4) (rk := 0) (cd := zC_J7_fill_53178) rfl rfl rfl rfl]
  with_unfolding_all rfl
set_option maxRecDepth 100000 in
theorem xl_J7_fill_53178_greatest_5 (d : Nat) (r0 : Nat) (l1 : Int) (l2 : Int) (l3 : Int) (C : xC) : xw_J7_fill_53178_greatest d (5, [some (.inr (.inr (.inl (r0, 5)))), some (.inl l1), some (.inl l2), some (.inl l3)], [], C) =
  cond (decide (l3 ≤ l2))
  (some (0, C))
  (cond (xix l2 6 && xna 2 l1)
    (xw_J7_fill_53178_greatest d (5, [some (.inr (.inr (.inl (r0, 5)))), some (.inl l1), some (.inl (w32 (l2 + 1))), some (.inl l3)], [], (xst C r0 (l2).toNat l1)))
    none) := by
  refine (xgoL_fix ?_).trans ?_
  · with_unfolding_all rfl
  · with_unfolding_all rfl
noncomputable abbrev xw_J7_fill_53178_feasts (d : Nat) : xCf → Option (Int × xC) := xgoL zC_J7_fill_53178 (xM d) (xstop 272) 0
set_option maxRecDepth 100000 in
theorem xm_J7_fill_53178_feasts (d : Nat) (r0 : Nat) (a1 : Int) (C : xC) : xM (d + 1) 272 [.inr (.inr (.inl (r0, 6))), .inl a1] C =
  xw_J7_fill_53178_feasts d (5, [some (.inr (.inr (.inl (r0, 6)))), some (.inl a1), some (.inl 0), some (.inl 9)], [], C) := by
  rw [xM_fix (nL := 4) (rk := 0) (cd := zC_J7_fill_53178) rfl rfl rfl rfl]
  with_unfolding_all rfl
set_option maxRecDepth 100000 in
theorem xl_J7_fill_53178_feasts_5 (d : Nat) (r0 : Nat) (l1 : Int) (l2 : Int) (l3 : Int) (C : xC) : xw_J7_fill_53178_feasts d (5, [some (.inr (.inr (.inl (r0, 6)))), some (.inl l1), some (.inl l2), some (.inl l3)], [], C) =
  cond (decide (l3 ≤ l2))
  (some (0, C))
  (cond (xix l2 9 && xna 2 l1)
    (xw_J7_fill_53178_feasts d (5, [some (.inr (.inr (.inl (r0, 6)))), some (.inl l1), some (.inl (w32 (l2 + 1))), some (.inl l3)], [], (xst C r0 (l2).toNat l1)))
    none) := by
  refine (xgoL_fix ?_).trans ?_
  · with_unfolding_all rfl
  · with_unfolding_all rfl
noncomputable abbrev xw_J7_fill_53178_setCounts (d : Nat) : xCf → Option (Int × xC) := xgoL zC_J7_fill_53178 (xM d) (xstop 272) 0
set_option maxRecDepth 100000 in
theorem xm_J7_fill_53178_setCounts (d : Nat) (r0 : Nat) (a1 : Int) (C : xC) : xM (d + 1) 272 [.inr (.inr (.inl (r0, 8))), .inl a1] C =
  xw_J7_fill_53178_setCounts d (5, [some (.inr (.inr (.inl (r0, 8)))), some (.inl a1), some (.inl 0), some (.inl 11)], [], C) := by
  rw [xM_fix (nL := 4) (rk := 0) (cd := zC_J7_fill_53178) rfl rfl rfl rfl]
  with_unfolding_all rfl
set_option maxRecDepth 100000 in
theorem xl_J7_fill_53178_setCounts_5 (d : Nat) (r0 : Nat) (l1 : Int) (l2 : Int) (l3 : Int) (C : xC) : xw_J7_fill_53178_setCounts d (5, [some (.inr (.inr (.inl (r0, 8)))), some (.inl l1), some (.inl l2), some (.inl l3)], [], C) =
  cond (decide (l3 ≤ l2))
  (some (0, C))
  (cond (xix l2 11 && xna 2 l1)
    (xw_J7_fill_53178_setCounts d (5, [some (.inr (.inr (.inl (r0, 8)))), some (.inl l1), some (.inl (w32 (l2 + 1))), some (.inl l3)], [], (xst C r0 (l2).toNat l1)))
    none) := by
  refine (xgoL_fix ?_).trans ?_
  · with_unfolding_all rfl
  · with_unfolding_all rfl
noncomputable abbrev xw_J7_fill_53178_from (d : Nat) : xCf → Option (Int × xC) := xgoL zC_J7_fill_53178 (xM d) (xstop 272) 0
set_option maxRecDepth 100000 in
theorem xm_J7_fill_53178_from (d : Nat) (r0 : Nat) (a1 : Int) (C : xC) : xM (d + 1) 272 [.inr (.inr (.inl (r0, 10))), .inl a1] C =
  xw_J7_fill_53178_from d (5, [some (.inr (.inr (.inl (r0, 10)))), some (.inl a1), some (.inl 0), some (.inl 65)], [], C) := by
  rw [xM_fix (nL := 4) (rk := 0) (cd := zC_J7_fill_53178) rfl rfl rfl rfl]
  with_unfolding_all rfl
set_option maxRecDepth 100000 in
theorem xl_J7_fill_53178_from_5 (d : Nat) (r0 : Nat) (l1 : Int) (l2 : Int) (l3 : Int) (C : xC) : xw_J7_fill_53178_from d (5, [some (.inr (.inr (.inl (r0, 10)))), some (.inl l1), some (.inl l2), some (.inl l3)], [], C) =
  cond (decide (l3 ≤ l2))
  (some (0, C))
  (cond (xix l2 65 && xna 2 l1)
    (xw_J7_fill_53178_from d (5, [some (.inr (.inr (.inl (r0, 10)))), some (.inl l1), some (.inl (w32 (l2 + 1))), some (.inl l3)], [], (xst C r0 (l2).toNat l1)))
    none) := by
  refine (xgoL_fix ?_).trans ?_
  · with_unfolding_all rfl
  · with_unfolding_all rfl
noncomputable abbrev xw_J7_fill_53178_to (d : Nat) : xCf → Option (Int × xC) := xgoL zC_J7_fill_53178 (xM d) (xstop 272) 0
set_option maxRecDepth 100000 in
theorem xm_J7_fill_53178_to (d : Nat) (r0 : Nat) (a1 : Int) (C : xC) : xM (d + 1) 272 [.inr (.inr (.inl (r0, 11))), .inl a1] C =
  xw_J7_fill_53178_to d (5, [some (.inr (.inr (.inl (r0, 11)))), some (.inl a1), some (.inl 0), some (.inl 65)], [], C) := by
  rw [xM_fix (nL := 4) (rk := 0) (cd := zC_J7_fill_53178) rfl rfl rfl rfl]
  with_unfolding_all rfl
set_option maxRecDepth 100000 in
theorem xl_J7_fill_53178_to_5 (d : Nat) (r0 : Nat) (l1 : Int) (l2 : Int) (l3 : Int) (C : xC) : xw_J7_fill_53178_to d (5, [some (.inr (.inr (.inl (r0, 11)))), some (.inl l1), some (.inl l2), some (.inl l3)], [], C) =
  cond (decide (l3 ≤ l2))
  (some (0, C))
  (cond (xix l2 65 && xna 2 l1)
    (xw_J7_fill_53178_to d (5, [some (.inr (.inr (.inl (r0, 11)))), some (.inl l1), some (.inl (w32 (l2 + 1))), some (.inl l3)], [], (xst C r0 (l2).toNat l1)))
    none) := by
  refine (xgoL_fix ?_).trans ?_
  · with_unfolding_all rfl
  · with_unfolding_all rfl
set_option maxRecDepth 100000 in
theorem xm_X3_empty (d : Nat) (r0 : Nat) (C : xC) : xM (d + 1) 18 [.inr (.inr (.inl (r0, 2)))] C =
  (xM d 272 [.inr (.inr (.inl (((xst (xst (xst (xst C r0 0 7) r0 1 4) r0 2 0) r0 3 0) r0 4).toNat, 3))), .inl 0] (xst (xst (xst (xst C r0 0 7) r0 1 4) r0 2 0) r0 3 0)).bind fun q1 =>
  (xM d 272 [.inr (.inr (.inl ((q1.2 r0 5).toNat, 4))), .inl 0] q1.2).bind fun q2 =>
    (xM d 272 [.inr (.inr (.inl ((q2.2 r0 6).toNat, 5))), .inl 0] q2.2).bind fun q3 =>
      (xM d 272 [.inr (.inr (.inl ((q3.2 r0 7).toNat, 6))), .inl 0] q3.2).bind fun q4 =>
        (xM d 272 [.inr (.inr (.inl ((q4.2 r0 9).toNat, 8))), .inl 0] q4.2).bind fun q5 =>
          (xM d 272 [.inr (.inr (.inl ((q5.2 r0 11).toNat, 10))), .inl 0] q5.2).bind fun q6 =>
            (xM d 272 [.inr (.inr (.inl ((q6.2 r0 12).toNat, 11))), .inl 0] q6.2).bind fun q7 =>
              some (0, q7.2) := by
  rw [xM_fix (nL := 1) (rk := 0) (cd := zC_X3_empty) rfl rfl rfl rfl]
  with_unfolding_all rfl
set_option maxRecDepth 100000 in
theorem xm_X3_tells (d : Nat) (r0 : Nat) (a1 : Int) (C : xC) : xM (d + 1) 20 [.inr (.inr (.inl (r0, 2))), .inl a1] C =
  cond (xix a1 65)
  (cond (xix a1 65)
    (cond (decide (C (C r0 12).toNat ((a1).toNat) ≤ C (C r0 11).toNat ((a1).toNat)))
      (some (0, C))
      (some (1, C)))
    none)
  none := by
  rw [xM_fix (nL := 2) (rk := 1) (cd := zC_X3_tells) rfl rfl rfl rfl]
  with_unfolding_all rfl
set_option maxRecDepth 100000 in
theorem xm_X3_addCode (d : Nat) (r0 : Nat) (a1 : Int) (a2 : Int) (C : xC) : xM (d + 1) 21 [.inr (.inr (.inl (r0, 2))), .inl a1, .inl a2] C =
  cond (decide (1024 ≤ C r0 3))
  (some (0, C))
  (cond (xix (C r0 3) 1024 && xna 2 (x32 (· ||| ·) (x32 (fun x y => x <<< (y &&& 31)) a2 4) a1))
    (some (0, (xst (xst C (C r0 13).toNat (C r0 3).toNat (x32 (· ||| ·) (x32 (fun x y => x <<< (y &&& 31)) a2 4) a1)) r0 3 (w32 (((xst C (C r0 13).toNat (C r0 3).toNat (x32 (· ||| ·) (x32 (fun x y => x <<< (y &&& 31)) a2 4) a1)) r0 3) + 1)))))
    none) := by
  rw [xM_fix (nL := 3) (rk := 0) (cd := zC_X3_addCode) rfl rfl rfl rfl]
  with_unfolding_all rfl
