/-! The evaluators, method by method: printed by a program. -/
noncomputable abbrev xw_X7_value (d : Nat) : xCf → Option (Int × xC) := xgoL zC_X7_value (xM d) (xstop 61) 1
set_option maxRecDepth 100000 in
theorem xm_X7_value (d : Nat) (a1 : Int) (C : xC) : xM (d + 1) 61 [.inr (.inr (.inl (37, 26))), .inl a1] C =
  cond (xix a1 65)
  (cond (xix a1 65)
    (xw_X7_value d (23, [some (.inr (.inr (.inl (37, 26)))), some (.inl a1), some (.inl (C (C (C 37 0).toNat 12).toNat ((a1).toNat))), some (.inl (-1)), some (.inl (C (C (C 37 0).toNat 11).toNat ((a1).toNat))), none, none, none, none], [], C))
    none)
  none := by
  rw [xM_fix (nL := 9) (rk := 1) (cd := zC_X7_value) rfl rfl rfl rfl]
  with_unfolding_all rfl
set_option maxRecDepth 100000 in
theorem xl_X7_value_23 (d : Nat) (l1 : Int) (l2 : Int) (l3 : Int) (l4 : Int) (o5 : Option xV) (o6 : Option xV) (o7 : Option xV) (o8 : Option xV) (C : xC) : xw_X7_value d (23, [some (.inr (.inr (.inl (37, 26)))), some (.inl l1), some (.inl l2), some (.inl l3), some (.inl l4), o5, o6, o7, o8], [], C) =
  cond (decide (l2 ≤ l4))
  (cond (decide (0 ≤ l3))
    (cond (xix l3 32)
      (some (C (C 37 7).toNat ((l3).toNat), C))
      none)
    (some (0, C)))
  (cond (xix l4 1024)
    (cond (xix l4 1024)
      (cond (decide (4 ≤ x32 (· &&& ·) (C (C (C 37 0).toNat 13).toNat ((l4).toNat)) 15))
        (cond (decide (x32 (· &&& ·) (C (C (C 37 0).toNat 13).toNat ((l4).toNat)) 15 ≠ 4))
          (xw_X7_value d (82, [some (.inr (.inr (.inl (37, 26)))), some (.inl l1), some (.inl l2), some (.inl (w32 (l3 + (-1)))), some (.inl l4), some (.inl (x32 (· &&& ·) (C (C (C 37 0).toNat 13).toNat ((l4).toNat)) 15)), some (.inl (x32 (fun x y => x >>> (y &&& 31)) (C (C (C 37 0).toNat 13).toNat ((l4).toNat)) 4)), o7, o8], [], C))
          (xw_X7_value d (82, [some (.inr (.inr (.inl (37, 26)))), some (.inl l1), some (.inl l2), some (.inl (w32 (l3 + 0))), some (.inl l4), some (.inl (x32 (· &&& ·) (C (C (C 37 0).toNat 13).toNat ((l4).toNat)) 15)), some (.inl (x32 (fun x y => x >>> (y &&& 31)) (C (C (C 37 0).toNat 13).toNat ((l4).toNat)) 4)), o7, o8], [], C)))
        (xw_X7_value d (82, [some (.inr (.inr (.inl (37, 26)))), some (.inl l1), some (.inl l2), some (.inl (w32 (l3 + 1))), some (.inl l4), some (.inl (x32 (· &&& ·) (C (C (C 37 0).toNat 13).toNat ((l4).toNat)) 15)), some (.inl (x32 (fun x y => x >>> (y &&& 31)) (C (C (C 37 0).toNat 13).toNat ((l4).toNat)) 4)), o7, o8], [], C)))
      none)
    none) := by
  refine (xgoL_fix ?_).trans ?_
  · with_unfolding_all rfl
  · with_unfolding_all rfl
set_option maxRecDepth 100000 in
theorem xl_X7_value_82 (d : Nat) (l1 : Int) (l2 : Int) (l3 : Int) (l4 : Int) (l5 : Int) (l6 : Int) (o7 : Option xV) (o8 : Option xV) (C : xC) : xw_X7_value d (82, [some (.inr (.inr (.inl (37, 26)))), some (.inl l1), some (.inl l2), some (.inl l3), some (.inl l4), some (.inl l5), some (.inl l6), o7, o8], [], C) =
  cond (decide (l3 < 0))
  (some (0, C))
  (cond (decide (w32 (l3 + 1) < 32))
    (xw_X7_value d (96, [some (.inr (.inr (.inl (37, 26)))), some (.inl l1), some (.inl l2), some (.inl l3), some (.inl l4), some (.inl l5), some (.inl l6), o7, o8], [], C))
    (some (0, C))) := by
  refine (xgoL_fix ?_).trans ?_
  · with_unfolding_all rfl
  · with_unfolding_all rfl
