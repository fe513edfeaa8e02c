/-! The reference’s evaluators, method by method: printed by a program. -/
noncomputable abbrev xw_X12_rests (d : Nat) : xCf → Option (Int × xC) := xgoL zC_X12_rests (xM d) (xstop 265) 1
set_option maxRecDepth 100000 in
theorem xm_X12_rests (d : Nat) (a1 : Int) (a2 : Int) (C : xC) : xM (d + 1) 265 [.inr (.inr (.inl (74, 63))), .inl a1, .inl a2] C =
  (xM d 198 [.inr (.inr (.inl (74, 63))), .inl a1] C).bind fun q1 =>
  cond (decide (q1.1 ≠ 0))
    ((xM d 250 [.inr (.inr (.inl (74, 63)))] q1.2).bind fun q2 =>
      cond (decide (0 ≤ q2.1))
        (xw_X12_rests d (25, [some (.inr (.inr (.inl (74, 63)))), some (.inl a1), some (.inl a2), some (.inl 0), some (.inl 0)], [], q2.2))
        (some ((-2), q2.2)))
    (some ((-1), q1.2)) := by
  rw [xM_fix (nL := 5) (rk := 1) (cd := zC_X12_rests) rfl rfl rfl rfl]
  with_unfolding_all rfl
set_option maxRecDepth 100000 in
theorem xl_X12_rests_25 (d : Nat) (l1 : Int) (l2 : Int) (l3 : Int) (l4 : Int) (C : xC) : xw_X12_rests d (25, [some (.inr (.inr (.inl (74, 63)))), some (.inl l1), some (.inl l2), some (.inl l3), some (.inl l4)], [], C) =
  (xM d 250 [.inr (.inr (.inl (74, 63)))] C).bind fun q1 =>
  cond (decide (q1.1 ≤ l4))
    (some (l3, q1.2))
    ((xM d 263 [.inr (.inr (.inl (74, 63))), .inl l4, .inl l2] q1.2).bind fun q2 =>
      cond (decide (q2.1 = 0))
        (xw_X12_rests d (25, [some (.inr (.inr (.inl (74, 63)))), some (.inl l1), some (.inl l2), some (.inl (x32 (· ||| ·) l3 0)), some (.inl (w32 (l4 + 1)))], [], q2.2))
        (cond (xix l1 5)
          (xw_X12_rests d (25, [some (.inr (.inr (.inl (74, 63)))), some (.inl l1), some (.inl l2), some (.inl (x32 (· ||| ·) l3 (x32 (fun x y => x <<< (y &&& 31)) 1 (q2.2 (q2.2 74 63).toNat ((l1).toNat))))), some (.inl (w32 (l4 + 1)))], [], q2.2))
          none)) := by
  refine (xgoL_fix ?_).trans ?_
  · with_unfolding_all rfl
  · with_unfolding_all rfl
