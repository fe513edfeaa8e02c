/-! What feed does, method by method: printed by a program. -/
noncomputable abbrev xw_X11_putBytes (d : Nat) : xCf → Option (Int × xC) := xgoL zC_X11_putBytes (xM d) (xstop 109) 0
set_option maxRecDepth 100000 in
theorem xm_X11_putBytes (d : Nat) (a1 : Int) (C : xC) : xM (d + 1) 109 [.inr (.inr (.inl (0, 0))), .inl a1] C =
  xw_X11_putBytes d (3, [some (.inr (.inr (.inl (0, 0)))), some (.inl a1), some (.inl 24)], [], C) := by
  rw [xM_fix (nL := 3) (rk := 0) (cd := zC_X11_putBytes) rfl rfl rfl rfl]
  with_unfolding_all rfl
set_option maxRecDepth 100000 in
theorem xl_X11_putBytes_3 (d : Nat) (l1 : Int) (l2 : Int) (C : xC) : xw_X11_putBytes d (3, [some (.inr (.inr (.inl (0, 0)))), some (.inl l1), some (.inl l2)], [], C) =
  cond (decide (l2 < 0))
  (some (0, C))
  (cond (decide (1700 ≤ C 0 1))
    (some (0, C))
    (cond (xix (C 0 1) 1700 && xna 0 (Int.bmod (x32 (fun x y => x >>> (y &&& 31)) l1 l2) 256))
      (xw_X11_putBytes d (3, [some (.inr (.inr (.inl (0, 0)))), some (.inl l1), some (.inl (w32 (l2 + (-8))))], [], (xst (xst C (C 0 0).toNat (C 0 1).toNat (Int.bmod (x32 (fun x y => x >>> (y &&& 31)) l1 l2) 256)) 0 1 (w32 (((xst C (C 0 0).toNat (C 0 1).toNat (Int.bmod (x32 (fun x y => x >>> (y &&& 31)) l1 l2) 256)) 0 1) + 1)))))
      none)) := by
  refine (xgoL_fix ?_).trans ?_
  · with_unfolding_all rfl
  · with_unfolding_all rfl
set_option maxRecDepth 100000 in
theorem xm_X11_feed (d : Nat) (a1 : Int) (a2 : Int) (a3 : Int) (a4 : Int) (a5 : Int) (C : xC) : xM (d + 1) 108 [.inr (.inr (.inl (0, 0))), .inl a1, .inl a2, .inl a3, .inl a4, .inl a5] C =
  cond (decide (w32 ((C 0 1) + 20) ≤ 1700))
  ((xM d 109 [.inr (.inr (.inl (0, 0))), .inl a1] C).bind fun q1 =>
    (xM d 109 [.inr (.inr (.inl (0, 0))), .inl a2] q1.2).bind fun q2 =>
      (xM d 109 [.inr (.inr (.inl (0, 0))), .inl a3] q2.2).bind fun q3 =>
        (xM d 109 [.inr (.inr (.inl (0, 0))), .inl a4] q3.2).bind fun q4 =>
          (xM d 109 [.inr (.inr (.inl (0, 0))), .inl a5] q4.2).bind fun q5 =>
            some (q5.2 0 1, q5.2))
  (some ((-1), C)) := by
  rw [xM_fix (nL := 6) (rk := 1) (cd := zC_X11_feed) rfl rfl rfl rfl]
  with_unfolding_all rfl
noncomputable abbrev xw_X12_four (d : Nat) : xCf → Option (Int × xC) := xgoL zC_X12_four (xM d) (xstop 151) 0
set_option maxRecDepth 100000 in
theorem xm_X12_four (d : Nat) (a1 : Int) (C : xC) : xM (d + 1) 151 [.inr (.inr (.inl (74, 63))), .inl a1] C =
  xw_X12_four d (3, [some (.inr (.inr (.inl (74, 63)))), some (.inl a1), some (.inl 24)], [], C) := by
  rw [xM_fix (nL := 3) (rk := 0) (cd := zC_X12_four) rfl rfl rfl rfl]
  with_unfolding_all rfl
set_option maxRecDepth 100000 in
theorem xl_X12_four_3 (d : Nat) (l1 : Int) (l2 : Int) (C : xC) : xw_X12_four d (3, [some (.inr (.inr (.inl (74, 63)))), some (.inl l1), some (.inl l2)], [], C) =
  cond (decide (l2 < 0))
  (some (0, C))
  (cond (xix (C 74 1) 1700 && xna 2 (x32 (· &&& ·) (x32 (fun x y => x >>> (y &&& 31)) l1 l2) 255))
    (xw_X12_four d (3, [some (.inr (.inr (.inl (74, 63)))), some (.inl l1), some (.inl (w32 (l2 + (-8))))], [], (xst (xst C (C 74 0).toNat (C 74 1).toNat (x32 (· &&& ·) (x32 (fun x y => x >>> (y &&& 31)) l1 l2) 255)) 74 1 (w32 (((xst C (C 74 0).toNat (C 74 1).toNat (x32 (· &&& ·) (x32 (fun x y => x >>> (y &&& 31)) l1 l2) 255)) 74 1) + 1)))))
    none) := by
  refine (xgoL_fix ?_).trans ?_
  · with_unfolding_all rfl
  · with_unfolding_all rfl
set_option maxRecDepth 100000 in
theorem xm_X12_feed (d : Nat) (a1 : Int) (a2 : Int) (a3 : Int) (a4 : Int) (a5 : Int) (C : xC) : xM (d + 1) 150 [.inr (.inr (.inl (74, 63))), .inl a1, .inl a2, .inl a3, .inl a4, .inl a5] C =
  cond (decide (w32 ((C 74 1) + 20) ≤ 1700))
  ((xM d 151 [.inr (.inr (.inl (74, 63))), .inl a1] C).bind fun q1 =>
    (xM d 151 [.inr (.inr (.inl (74, 63))), .inl a2] q1.2).bind fun q2 =>
      (xM d 151 [.inr (.inr (.inl (74, 63))), .inl a3] q2.2).bind fun q3 =>
        (xM d 151 [.inr (.inr (.inl (74, 63))), .inl a4] q3.2).bind fun q4 =>
          (xM d 151 [.inr (.inr (.inl (74, 63))), .inl a5] q4.2).bind fun q5 =>
            some (q5.2 74 1, q5.2))
  (some ((-1), C)) := by
  rw [xM_fix (nL := 6) (rk := 1) (cd := zC_X12_feed) rfl rfl rfl rfl]
  with_unfolding_all rfl
