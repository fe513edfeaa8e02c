/-! What the looks' methods do. -/
section kLooks
variable {d : Nat} {C D : xC} {a1 a2 a3 : Int} {c : Nat} {t : Int}
theorem xna2 (z : Int) : xna 2 z = true := rfl
theorem lk_take0 (ha : C 59 6 = 64) (h20 : C 59 0 ≤ 20) (hn : ¬ (0 ≤ a1 ∧ a1 < C 59 0 ∧ C 64 a1.toNat = -1)) : xM (d + 1) 24 [.inr (.inr (.inl (59, 48))), .inl a1] C = some (0, C) := by
  have e0 : (C 59 6).toNat = 64 := by rw [ha]; rfl
  rw [xm_X4_takeBack, e0, Bool.cond_decide]
  by_cases c1 : a1 < 0
  · rw [if_pos c1]
  rw [if_neg c1, Bool.cond_decide]
  by_cases c2 : C 59 0 ≤ a1
  · rw [if_pos c2]
  have eix : xix a1 20 = true := xixz.mpr ⟨by omega, by omega⟩
  rw [if_neg c2, eix, cond_true, Bool.cond_decide, if_neg (fun q => hn ⟨by omega, by omega, q⟩)]
theorem lk_take1 (ha : C 59 6 = 64) (h20 : C 59 0 ≤ 20) (h1 : 0 ≤ a1) (h2 : a1 < C 59 0) (h3 : C 64 a1.toNat = -1) : xM (d + 1) 24 [.inr (.inr (.inl (59, 48))), .inl a1] C = some (1, xst C 64 a1.toNat (C 59 1)) := by
  have e0 : (C 59 6).toNat = 64 := by rw [ha]; rfl
  have eix : xix a1 20 = true := xixz.mpr ⟨by omega, by omega⟩
  rw [xm_X4_takeBack, e0, Bool.cond_decide, if_neg (by omega), Bool.cond_decide, if_neg (by omega), eix, cond_true, Bool.cond_decide, if_pos h3, xna2, Bool.and_self, cond_true]
theorem lk_isIn (a b e : Int) : xM (d + 1) 196 [.inl a, .inl b, .inl e] C = some (if b ≤ a ∧ a ≤ e then 1 else 0, C) := by
  rw [xm_X12_isIn, Bool.cond_decide]
  by_cases c1 : a < b
  · rw [if_pos c1, if_neg (by omega)]
  rw [if_neg c1, Bool.cond_decide]
  by_cases c2 : e < a
  · rw [if_pos c2, if_neg (by omega)]
  · rw [if_neg c2, if_pos (by omega)]
theorem lm_untell0 (ha : C 74 97 = 120) (h0 : 0 ≤ C 74 98) (h20 : C 74 98 ≤ 20) (hn : ¬ (0 ≤ a1 ∧ a1 < C 74 98 ∧ C 120 a1.toNat < 0)) : xM (d + 2) 259 [.inr (.inr (.inl (74, 63))), .inl a1] C = some (0, C) := by
  have e0 : (C 74 97).toNat = 120 := by rw [ha]; rfl
  rw [xm_X12_untell, lk_isIn, Option.bind_some, w32_id (by omega) (by omega)]
  dsimp only
  by_cases c1 : 0 ≤ a1 ∧ a1 ≤ C 74 98 - 1
  · have eix : xix a1 20 = true := xixz.mpr ⟨by omega, by omega⟩
    rw [if_pos c1, Bool.cond_decide, if_neg (by decide), eix, cond_true, e0, Bool.cond_decide, if_neg (fun q => hn ⟨by omega, by omega, q⟩)]
  · rw [if_neg c1, Bool.cond_decide, if_pos rfl]
theorem lm_untell1 (ha : C 74 97 = 120) (h20 : C 74 98 ≤ 20) (h1 : 0 ≤ a1) (h2 : a1 < C 74 98) (h3 : C 120 a1.toNat < 0) : xM (d + 2) 259 [.inr (.inr (.inl (74, 63))), .inl a1] C = some (1, xst C 120 a1.toNat (C 74 99)) := by
  have e0 : (C 74 97).toNat = 120 := by rw [ha]; rfl
  have eix : xix a1 20 = true := xixz.mpr ⟨by omega, by omega⟩
  rw [xm_X12_untell, lk_isIn, Option.bind_some, w32_id (by omega) (by omega)]
  dsimp only
  rw [if_pos (by omega), Bool.cond_decide, if_neg (by decide), eix, cond_true, e0, Bool.cond_decide, if_pos h3, xna2, Bool.and_self, cond_true]
def lt_R (c : Nat) (C : xC) : Prop := C 59 0 = (c : Int) ∧ C 59 2 = 60 ∧ C 59 3 = 61 ∧ C 59 4 = 62 ∧ C 59 5 = 63 ∧ C 59 6 = 64
theorem lt_st {i j : Nat} {z : Int} (h : lt_R c C) (hi : i ≠ 59) : lt_R c (xst C i j z) := by
  obtain ⟨h0, h1, h2, h3, h4, h5⟩ := h
  refine ⟨?_, ?_, ?_, ?_, ?_, ?_⟩ <;> rw [xst_nn (by omega)] <;> assumption
theorem lt_11 (h : lt_R c D) (hc : c < 20) : xw_X4_tell d (11, [some (.inr (.inr (.inl (59, 48)))), some (.inl a1), some (.inl a2), some (.inl a3)], [], D) = xw_X4_tell d (21, [some (.inr (.inr (.inl (59, 48)))), some (.inl a1), some (.inl a2), some (.inl a3)], [], xst D 60 c a1) := by
  obtain ⟨h0, h1, h2, h3, h4, h5⟩ := h
  have e1 : (D 59 2).toNat = 60 := by rw [h1]; rfl
  have e2 : (D 59 0).toNat = c := by rw [h0]; exact Int.toNat_natCast c
  have eix : xix (D 59 0) 20 = true := by rw [h0]; exact xixn hc
  rw [xl_X4_tell_11, eix, xna2, Bool.and_self, cond_true, e1, e2]
theorem lt_21 (h : lt_R c D) (hc : c < 20) : xw_X4_tell d (21, [some (.inr (.inr (.inl (59, 48)))), some (.inl a1), some (.inl a2), some (.inl a3)], [], D) = xw_X4_tell d (31, [some (.inr (.inr (.inl (59, 48)))), some (.inl a1), some (.inl a2), some (.inl a3)], [], xst D 61 c a2) := by
  obtain ⟨h0, h1, h2, h3, h4, h5⟩ := h
  have e1 : (D 59 3).toNat = 61 := by rw [h2]; rfl
  have e2 : (D 59 0).toNat = c := by rw [h0]; exact Int.toNat_natCast c
  have eix : xix (D 59 0) 20 = true := by rw [h0]; exact xixn hc
  rw [xl_X4_tell_21, eix, xna2, Bool.and_self, cond_true, e1, e2]
theorem lt_31 (h : lt_R c D) (hc : c < 20) : xw_X4_tell d (31, [some (.inr (.inr (.inl (59, 48)))), some (.inl a1), some (.inl a2), some (.inl a3)], [], D) = xw_X4_tell d (41, [some (.inr (.inr (.inl (59, 48)))), some (.inl a1), some (.inl a2), some (.inl a3)], [], xst D 62 c a3) := by
  obtain ⟨h0, h1, h2, h3, h4, h5⟩ := h
  have e1 : (D 59 4).toNat = 62 := by rw [h3]; rfl
  have e2 : (D 59 0).toNat = c := by rw [h0]; exact Int.toNat_natCast c
  have eix : xix (D 59 0) 20 = true := by rw [h0]; exact xixn hc
  rw [xl_X4_tell_31, eix, xna2, Bool.and_self, cond_true, e1, e2]
theorem lt_41 (h : lt_R c D) (hc : c < 20) : xw_X4_tell d (41, [some (.inr (.inr (.inl (59, 48)))), some (.inl a1), some (.inl a2), some (.inl a3)], [], D) = xw_X4_tell d (54, [some (.inr (.inr (.inl (59, 48)))), some (.inl a1), some (.inl a2), some (.inl a3)], [], xst D 63 c (D 59 1)) := by
  obtain ⟨h0, h1, h2, h3, h4, h5⟩ := h
  have e1 : (D 59 5).toNat = 63 := by rw [h4]; rfl
  have e2 : (D 59 0).toNat = c := by rw [h0]; exact Int.toNat_natCast c
  have eix : xix (D 59 0) 20 = true := by rw [h0]; exact xixn hc
  rw [xl_X4_tell_41, eix, xna2, Bool.and_self, cond_true, e1, e2]
theorem lt_54 (h : lt_R c D) (hc : c < 20) : xw_X4_tell d (54, [some (.inr (.inr (.inl (59, 48)))), some (.inl a1), some (.inl a2), some (.inl a3)], [], D) = xw_X4_tell d (64, [some (.inr (.inr (.inl (59, 48)))), some (.inl a1), some (.inl a2), some (.inl a3)], [], xst D 64 c (-1)) := by
  obtain ⟨h0, h1, h2, h3, h4, h5⟩ := h
  have e1 : (D 59 6).toNat = 64 := by rw [h5]; rfl
  have e2 : (D 59 0).toNat = c := by rw [h0]; exact Int.toNat_natCast c
  have eix : xix (D 59 0) 20 = true := by rw [h0]; exact xixn hc
  rw [xl_X4_tell_54, eix, xna2, Bool.and_self, cond_true, e1, e2]
theorem lt_end (h : lt_R c D) (hc : c < 20) : xw_X4_tell d (64, [some (.inr (.inr (.inl (59, 48)))), some (.inl a1), some (.inl a2), some (.inl a3)], [], D) = some ((c : Int), xst D 59 0 ((c : Int) + 1)) := by
  have h0 := h.1
  rw [xl_X4_tell_64, xl_X4_tell_74, xst_at, h0, w32_id (z := (c : Int) + 1) (by omega) (by omega), w32_id (by omega) (by omega)]
  congr 2
  omega
/-- all of it: the last of the rows, the count -/
theorem lt_all (h : lt_R c D) (hc : c < 20) : ∃ F, xw_X4_tell d (11, [some (.inr (.inr (.inl (59, 48)))), some (.inl a1), some (.inl a2), some (.inl a3)], [], D) = some ((c : Int), F) ∧ F 59 0 = (c : Int) + 1 ∧ F 64 c = -1 ∧ (∀ j, j ≠ c → F 64 j = D 64 j) ∧ (F 60 c = a1 ∧ F 61 c = a2 ∧ F 62 c = a3 ∧ F 63 c = D 59 1) ∧ ∀ i j, ¬ (i = 59 ∧ j = 0) → ¬ ((i = 60 ∨ i = 61 ∨ i = 62 ∨ i = 63 ∨ i = 64) ∧ j = c) → F i j = D i j := by
  have r1 := lt_st (i := 60) (j := c) (z := a1) h (by decide)
  have r2 := lt_st (i := 61) (j := c) (z := a2) r1 (by decide)
  have r3 := lt_st (i := 62) (j := c) (z := a3) r2 (by decide)
  have r4 := lt_st (i := 63) (j := c) (z := (xst (xst (xst D 60 c a1) 61 c a2) 62 c a3) 59 1) r3 (by decide)
  have r5 := lt_st (i := 64) (j := c) (z := -1) r4 (by decide)
  refine ⟨_, (lt_11 h hc).trans ((lt_21 r1 hc).trans ((lt_31 r2 hc).trans ((lt_41 r3 hc).trans ((lt_54 r4 hc).trans (lt_end r5 hc))))), xst_at, ?_, fun j hj => ?_, ⟨?_, ?_, ?_, ?_⟩, fun i j q1 q2 => ?_⟩
  · rw [xst_nn (by omega), xst_at]
  · rw [xst_nn (by omega), xst_nn (by omega), xst_nn (by omega), xst_nn (by omega), xst_nn (by omega), xst_nn (by omega)]
  · rw [xst_nn (by omega), xst_nn (by omega), xst_nn (by omega), xst_nn (by omega), xst_nn (by omega), xst_at]
  · rw [xst_nn (by omega), xst_nn (by omega), xst_nn (by omega), xst_nn (by omega), xst_at]
  · rw [xst_nn (by omega), xst_nn (by omega), xst_nn (by omega), xst_at]
  · rw [xst_nn (by omega), xst_nn (by omega), xst_at, xst_nn (by omega), xst_nn (by omega), xst_nn (by omega)]
  · rw [xst_nn (by omega), xst_nn (by omega), xst_nn (by omega), xst_nn (by omega), xst_nn (by omega), xst_nn (by omega)]
def lm_R (c : Nat) (C : xC) : Prop := C 74 98 = (c : Int) ∧ C 74 93 = 116 ∧ C 74 94 = 117 ∧ C 74 95 = 118 ∧ C 74 96 = 119 ∧ C 74 97 = 120
theorem lm_st {i j : Nat} {z : Int} (h : lm_R c C) (hi : i ≠ 74) : lm_R c (xst C i j z) := by
  obtain ⟨h0, h1, h2, h3, h4, h5⟩ := h
  refine ⟨?_, ?_, ?_, ?_, ?_, ?_⟩ <;> rw [xst_nn (by omega)] <;> assumption
theorem lm_40 (h : lm_R c D) (hc : c < 20) : xw_X12_look d (40, [some (.inr (.inr (.inl (74, 63)))), some (.inl a1), some (.inl a2), some (.inl a3)], [], D) = xw_X12_look d (50, [some (.inr (.inr (.inl (74, 63)))), some (.inl a1), some (.inl a2), some (.inl a3)], [], xst D 116 c a1) := by
  obtain ⟨h0, h1, h2, h3, h4, h5⟩ := h
  have e1 : (D 74 93).toNat = 116 := by rw [h1]; rfl
  have e2 : (D 74 98).toNat = c := by rw [h0]; exact Int.toNat_natCast c
  have eix : xix (D 74 98) 20 = true := by rw [h0]; exact xixn hc
  rw [xl_X12_look_40, eix, xna2, Bool.and_self, cond_true, e1, e2]
theorem lm_50 (h : lm_R c D) (hc : c < 20) : xw_X12_look d (50, [some (.inr (.inr (.inl (74, 63)))), some (.inl a1), some (.inl a2), some (.inl a3)], [], D) = xw_X12_look d (60, [some (.inr (.inr (.inl (74, 63)))), some (.inl a1), some (.inl a2), some (.inl a3)], [], xst D 117 c a2) := by
  obtain ⟨h0, h1, h2, h3, h4, h5⟩ := h
  have e1 : (D 74 94).toNat = 117 := by rw [h2]; rfl
  have e2 : (D 74 98).toNat = c := by rw [h0]; exact Int.toNat_natCast c
  have eix : xix (D 74 98) 20 = true := by rw [h0]; exact xixn hc
  rw [xl_X12_look_50, eix, xna2, Bool.and_self, cond_true, e1, e2]
theorem lm_60 (h : lm_R c D) (hc : c < 20) : xw_X12_look d (60, [some (.inr (.inr (.inl (74, 63)))), some (.inl a1), some (.inl a2), some (.inl a3)], [], D) = xw_X12_look d (70, [some (.inr (.inr (.inl (74, 63)))), some (.inl a1), some (.inl a2), some (.inl a3)], [], xst D 118 c a3) := by
  obtain ⟨h0, h1, h2, h3, h4, h5⟩ := h
  have e1 : (D 74 95).toNat = 118 := by rw [h3]; rfl
  have e2 : (D 74 98).toNat = c := by rw [h0]; exact Int.toNat_natCast c
  have eix : xix (D 74 98) 20 = true := by rw [h0]; exact xixn hc
  rw [xl_X12_look_60, eix, xna2, Bool.and_self, cond_true, e1, e2]
theorem lm_70 (h : lm_R c D) (hc : c < 20) : xw_X12_look d (70, [some (.inr (.inr (.inl (74, 63)))), some (.inl a1), some (.inl a2), some (.inl a3)], [], D) = xw_X12_look d (83, [some (.inr (.inr (.inl (74, 63)))), some (.inl a1), some (.inl a2), some (.inl a3)], [], xst D 119 c (D 74 99)) := by
  obtain ⟨h0, h1, h2, h3, h4, h5⟩ := h
  have e1 : (D 74 96).toNat = 119 := by rw [h4]; rfl
  have e2 : (D 74 98).toNat = c := by rw [h0]; exact Int.toNat_natCast c
  have eix : xix (D 74 98) 20 = true := by rw [h0]; exact xixn hc
  rw [xl_X12_look_70, eix, xna2, Bool.and_self, cond_true, e1, e2]
theorem lm_83 (h : lm_R c D) (hc : c < 20) : xw_X12_look d (83, [some (.inr (.inr (.inl (74, 63)))), some (.inl a1), some (.inl a2), some (.inl a3)], [], D) = xw_X12_look d (93, [some (.inr (.inr (.inl (74, 63)))), some (.inl a1), some (.inl a2), some (.inl a3)], [], xst D 120 c (-1)) := by
  obtain ⟨h0, h1, h2, h3, h4, h5⟩ := h
  have e1 : (D 74 97).toNat = 120 := by rw [h5]; rfl
  have e2 : (D 74 98).toNat = c := by rw [h0]; exact Int.toNat_natCast c
  have eix : xix (D 74 98) 20 = true := by rw [h0]; exact xixn hc
  rw [xl_X12_look_83, eix, xna2, Bool.and_self, cond_true, e1, e2]
theorem lm_end (h : lm_R c D) (hc : c < 20) : xw_X12_look d (93, [some (.inr (.inr (.inl (74, 63)))), some (.inl a1), some (.inl a2), some (.inl a3)], [], D) = some ((c : Int), xst D 74 98 ((c : Int) + 1)) := by
  have h0 := h.1
  rw [xl_X12_look_93, xl_X12_look_103, xst_at, h0, w32_id (z := (c : Int) + 1) (by omega) (by omega), w32_id (by omega) (by omega)]
  congr 2
  omega
/-- all of it: the last of the rows, the count -/
theorem lm_all (h : lm_R c D) (hc : c < 20) : ∃ F, xw_X12_look d (40, [some (.inr (.inr (.inl (74, 63)))), some (.inl a1), some (.inl a2), some (.inl a3)], [], D) = some ((c : Int), F) ∧ F 74 98 = (c : Int) + 1 ∧ F 120 c = -1 ∧ (∀ j, j ≠ c → F 120 j = D 120 j) ∧ (F 116 c = a1 ∧ F 117 c = a2 ∧ F 118 c = a3 ∧ F 119 c = D 74 99) ∧ ∀ i j, ¬ (i = 74 ∧ j = 98) → ¬ ((i = 116 ∨ i = 117 ∨ i = 118 ∨ i = 119 ∨ i = 120) ∧ j = c) → F i j = D i j := by
  have r1 := lm_st (i := 116) (j := c) (z := a1) h (by decide)
  have r2 := lm_st (i := 117) (j := c) (z := a2) r1 (by decide)
  have r3 := lm_st (i := 118) (j := c) (z := a3) r2 (by decide)
  have r4 := lm_st (i := 119) (j := c) (z := (xst (xst (xst D 116 c a1) 117 c a2) 118 c a3) 74 99) r3 (by decide)
  have r5 := lm_st (i := 120) (j := c) (z := -1) r4 (by decide)
  refine ⟨_, (lm_40 h hc).trans ((lm_50 r1 hc).trans ((lm_60 r2 hc).trans ((lm_70 r3 hc).trans ((lm_83 r4 hc).trans (lm_end r5 hc))))), xst_at, ?_, fun j hj => ?_, ⟨?_, ?_, ?_, ?_⟩, fun i j q1 q2 => ?_⟩
  · rw [xst_nn (by omega), xst_at]
  · rw [xst_nn (by omega), xst_nn (by omega), xst_nn (by omega), xst_nn (by omega), xst_nn (by omega), xst_nn (by omega)]
  · rw [xst_nn (by omega), xst_nn (by omega), xst_nn (by omega), xst_nn (by omega), xst_nn (by omega), xst_at]
  · rw [xst_nn (by omega), xst_nn (by omega), xst_nn (by omega), xst_nn (by omega), xst_at]
  · rw [xst_nn (by omega), xst_nn (by omega), xst_nn (by omega), xst_at]
  · rw [xst_nn (by omega), xst_nn (by omega), xst_at, xst_nn (by omega), xst_nn (by omega), xst_nn (by omega)]
  · rw [xst_nn (by omega), xst_nn (by omega), xst_nn (by omega), xst_nn (by omega), xst_nn (by omega), xst_nn (by omega)]
theorem lt_tell0 (h : 20 ≤ C 59 0) : xM (d + 1) 23 [.inr (.inr (.inl (59, 48))), .inl a1, .inl a2, .inl a3] C = some (-1, C) := by
  rw [xm_X4_tell, Bool.cond_decide, if_neg (by omega)]
theorem lt_tell1 (h : lt_R c C) (hc : c < 20) : ∃ F, xM (d + 1) 23 [.inr (.inr (.inl (59, 48))), .inl a1, .inl a2, .inl a3] C = some ((c : Int), F) ∧ F 59 0 = (c : Int) + 1 ∧ F 64 c = -1 ∧ (∀ j, j ≠ c → F 64 j = C 64 j) ∧ (F 60 c = a1 ∧ F 61 c = a2 ∧ F 62 c = a3 ∧ F 63 c = C 59 1) ∧ ∀ i j, ¬ (i = 59 ∧ j = 0) → ¬ ((i = 60 ∨ i = 61 ∨ i = 62 ∨ i = 63 ∨ i = 64) ∧ j = c) → F i j = C i j := by
  rw [xm_X4_tell, Bool.cond_decide, if_pos (by rw [h.1]; omega)]
  exact lt_all h hc
theorem lm_look1 (h : lm_R c C) (hc : c < 20) {n : Int} (hn : C 74 49 = n) (n0 : 0 ≤ n) (n6 : n ≤ 6) (h1 : 0 ≤ a1) (h2 : a1 ≤ 60) (h3 : 0 ≤ a2) (h4 : a2 + 1 ≤ n) (h5 : 0 ≤ a3) (h6 : a3 ≤ 999) : ∃ F, xM (d + 3) 258 [.inr (.inr (.inl (74, 63))), .inl a1, .inl a2, .inl a3] C = some ((c : Int), F) ∧ F 74 98 = (c : Int) + 1 ∧ F 120 c = -1 ∧ (∀ j, j ≠ c → F 120 j = C 120 j) ∧ (F 116 c = a1 ∧ F 117 c = a2 ∧ F 118 c = a3 ∧ F 119 c = C 74 99) ∧ ∀ i j, ¬ (i = 74 ∧ j = 98) → ¬ ((i = 116 ∨ i = 117 ∨ i = 118 ∨ i = 119 ∨ i = 120) ∧ j = c) → F i j = C i j := by
  rw [xm_X12_look, lk_isIn, Option.bind_some]
  dsimp only
  rw [if_pos (by omega), Bool.cond_decide, if_neg (by decide), xl_X12_look_10, xm_X12_isThing, hn, lk_isIn, Option.bind_some, w32_id (by omega) (by omega)]
  dsimp only
  rw [if_pos (by omega)]
  show ∃ F, (some ((1 : Int), C)).bind _ = _ ∧ _
  rw [Option.bind_some]
  dsimp only
  rw [Bool.cond_decide, if_neg (by decide), lk_isIn, Option.bind_some]
  dsimp only
  rw [if_pos (by omega), Bool.cond_decide, if_neg (by decide), xl_X12_look_29, Bool.cond_decide, if_pos (by rw [h.1]; omega)]
  exact lm_all h hc
end kLooks
