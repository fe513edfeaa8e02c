/-! The law's loop holds, whatever is called. -/
theorem yvL_all (r : Int) (h0 : 0 ≤ r) (h1 : r < 64) : ∃ lo hi : Int, lo ≤ r ∧ r ≤ hi ∧ yLk lo hi = true := by
  have hc : r = 0 ∨ r = 1 ∨ r = 2 ∨ r = 3 ∨ r = 4 ∨ r = 5 ∨ r = 6 ∨ r = 7 ∨ r = 8 ∨ r = 9 ∨ r = 10 ∨ r = 11 ∨ r = 12 ∨ r = 13 ∨ r = 14 ∨ r = 15 ∨ r = 16 ∨ r = 17 ∨ r = 18 ∨ r = 19 ∨ r = 20 ∨ r = 21 ∨ r = 22 ∨ r = 23 ∨ r = 24 ∨ r = 25 ∨ r = 26 ∨ r = 27 ∨ r = 28 ∨ r = 29 ∨ r = 30 ∨ r = 31 ∨ r = 32 ∨ r = 33 ∨ r = 34 ∨ r = 35 ∨ r = 36 ∨ 37 ≤ r := by omega
  rcases hc with rfl | rfl | rfl | rfl | rfl | rfl | rfl | rfl | rfl | rfl | rfl | rfl | rfl | rfl | rfl | rfl | rfl | rfl | rfl | rfl | rfl | rfl | rfl | rfl | rfl | rfl | rfl | rfl | rfl | rfl | rfl | rfl | rfl | rfl | rfl | rfl | rfl | hc
  · exact ⟨.ofNat 0, .ofNat 0, by decide, by decide, yvL_0⟩
  · exact ⟨.ofNat 1, .ofNat 1, by decide, by decide, yvL_1⟩
  · exact ⟨.ofNat 2, .ofNat 2, by decide, by decide, yvL_2⟩
  · exact ⟨.ofNat 3, .ofNat 3, by decide, by decide, yvL_3⟩
  · exact ⟨.ofNat 4, .ofNat 4, by decide, by decide, yvL_4⟩
  · exact ⟨.ofNat 5, .ofNat 5, by decide, by decide, yvL_5⟩
  · exact ⟨.ofNat 6, .ofNat 6, by decide, by decide, yvL_6⟩
  · exact ⟨.ofNat 7, .ofNat 7, by decide, by decide, yvL_7⟩
  · exact ⟨.ofNat 8, .ofNat 8, by decide, by decide, yvL_8⟩
  · exact ⟨.ofNat 9, .ofNat 9, by decide, by decide, yvL_9⟩
  · exact ⟨.ofNat 10, .ofNat 10, by decide, by decide, yvL_10⟩
  · exact ⟨.ofNat 11, .ofNat 11, by decide, by decide, yvL_11⟩
  · exact ⟨.ofNat 12, .ofNat 12, by decide, by decide, yvL_12⟩
  · exact ⟨.ofNat 13, .ofNat 13, by decide, by decide, yvL_13⟩
  · exact ⟨.ofNat 14, .ofNat 14, by decide, by decide, yvL_14⟩
  · exact ⟨.ofNat 15, .ofNat 15, by decide, by decide, yvL_15⟩
  · exact ⟨.ofNat 16, .ofNat 16, by decide, by decide, yvL_16⟩
  · exact ⟨.ofNat 17, .ofNat 17, by decide, by decide, yvL_17⟩
  · exact ⟨.ofNat 18, .ofNat 18, by decide, by decide, yvL_18⟩
  · exact ⟨.ofNat 19, .ofNat 19, by decide, by decide, yvL_19⟩
  · exact ⟨.ofNat 20, .ofNat 20, by decide, by decide, yvL_20⟩
  · exact ⟨.ofNat 21, .ofNat 21, by decide, by decide, yvL_21⟩
  · exact ⟨.ofNat 22, .ofNat 22, by decide, by decide, yvL_22⟩
  · exact ⟨.ofNat 23, .ofNat 23, by decide, by decide, yvL_23⟩
  · exact ⟨.ofNat 24, .ofNat 24, by decide, by decide, yvL_24⟩
  · exact ⟨.ofNat 25, .ofNat 25, by decide, by decide, yvL_25⟩
  · exact ⟨.ofNat 26, .ofNat 26, by decide, by decide, yvL_26⟩
  · exact ⟨.ofNat 27, .ofNat 27, by decide, by decide, yvL_27⟩
  · exact ⟨.ofNat 28, .ofNat 28, by decide, by decide, yvL_28⟩
  · exact ⟨.ofNat 29, .ofNat 29, by decide, by decide, yvL_29⟩
  · exact ⟨.ofNat 30, .ofNat 30, by decide, by decide, yvL_30⟩
  · exact ⟨.ofNat 31, .ofNat 31, by decide, by decide, yvL_31⟩
  · exact ⟨.ofNat 32, .ofNat 32, by decide, by decide, yvL_32⟩
  · exact ⟨.ofNat 33, .ofNat 33, by decide, by decide, yvL_33⟩
  · exact ⟨.ofNat 34, .ofNat 34, by decide, by decide, yvL_34⟩
  · exact ⟨.ofNat 35, .ofNat 35, by decide, by decide, yvL_35⟩
  · exact ⟨.ofNat 36, .ofNat 36, by decide, by decide, yvL_36⟩
  · exact ⟨.ofNat 37, .ofNat 63, hc, by show r ≤ 63; omega, yvL_37⟩
