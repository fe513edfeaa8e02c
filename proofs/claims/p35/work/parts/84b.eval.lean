/-! What formulas come to, without a machine; the class works them so. -/
section evCode
variable {T : Nat}
theorem x32_and15 {z : Int} (h1 : 0 ≤ z) (h2 : z ≤ 2147483647) : x32 (· &&& ·) z 15 = z % 16 := by
  have e1 : (Int32.ofInt z).toInt = z := Int32.toInt_ofInt_of_le (by simpa using (by omega : (-2147483648 : Int) ≤ z)) (by omega)
  have := y_and (x := Int32.ofInt z) (y := Int32.ofInt 15) (m := 15) (by decide) (by decide)
  show (Int32.ofInt z &&& Int32.ofInt 15).toInt = _
  rw [this, e1]
  rfl
theorem x32_shr4 {z : Int} (h1 : 0 ≤ z) (h2 : z ≤ 2147483647) : x32 (fun x y => x >>> (y &&& 31)) z 4 = z / 16 := by
  have e1 : (Int32.ofInt z).toInt = z := Int32.toInt_ofInt_of_le (by simpa using (by omega : (-2147483648 : Int) ≤ z)) (by omega)
  have e4 : Int32.ofInt 4 = (4 : Int32) := by decide
  show (Int32.ofInt z >>> (Int32.ofInt 4 &&& 31)).toInt = _
  rw [e4, y_shr, e1]
theorem ccd_eq {a b : Int} (ha : 0 ≤ a) (ha2 : a ≤ 15) (hb : 0 ≤ b) (hb2 : b ≤ 9999) : ccd a b = 16 * b + a := by
  have eb : (Int32.ofInt b).toInt = b := Int32.toInt_ofInt_of_le (by simpa using (by omega : (-2147483648 : Int) ≤ b)) (by omega)
  have e4 : Int32.ofInt 4 = (4 : Int32) := by decide
  have hs : x32 (fun x y => x <<< (y &&& 31)) b 4 = 16 * b := by
    show (Int32.ofInt b <<< (Int32.ofInt 4 &&& 31)).toInt = _
    rw [e4]
    obtain ⟨c, hc⟩ := y_shl (Int32.ofInt b)
    have hlo := (Int32.ofInt b <<< ((4 : Int32) &&& 31)).le_toInt
    have hhi := (Int32.ofInt b <<< ((4 : Int32) &&& 31)).toInt_lt
    have hlo : -2147483648 ≤ (Int32.ofInt b <<< ((4 : Int32) &&& 31)).toInt := by simpa using hlo
    rw [eb] at hc
    omega
  unfold ccd
  rw [hs]
  have e16 : (Int32.ofInt (16 * b)).toInt = 16 * b := Int32.toInt_ofInt_of_le (by simpa using (by omega : (-2147483648 : Int) ≤ 16 * b)) (by omega)
  have ea : (Int32.ofInt a).toInt = a := Int32.toInt_ofInt_of_le (by simpa using (by omega : (-2147483648 : Int) ≤ a)) (by omega)
  show (Int32.ofInt (16 * b) ||| Int32.ofInt a).toInt = _
  rw [y_ior (by rw [e16]; omega) (by rw [ea]; exact ha) (by rw [ea]; exact ha2), e16, ea]
theorem ceK_le {e : tE} (h : eOk T e) : 0 ≤ ceK e ∧ ceK e ≤ 14 := by
  unfold ceK ceS
  repeat' split
  all_goals omega
theorem ceN_le {e : tE} (h : eOk T e) : 0 ≤ ceN e ∧ ceN e ≤ 9999 := by
  unfold eOk at h
  unfold ceN
  repeat' split
  all_goals omega
/-- a code's two parts -/
theorem ce_parts {e : tE} (h : eOk T e) : x32 (· &&& ·) (ce e) 15 = ceK e ∧ x32 (fun x y => x >>> (y &&& 31)) (ce e) 4 = ceN e := by
  obtain ⟨k0, k1⟩ := ceK_le h
  obtain ⟨n0, n1⟩ := ceN_le h
  have e1 : ce e = 16 * ceN e + ceK e := ccd_eq k0 (by omega) n0 n1
  rw [x32_and15 (by omega) (by omega), x32_shr4 (by omega) (by omega), e1]
  omega
/-- how high the stack stands behind a step -/
theorem rpOk_cons {m h : Nat} {e : tE} {es : List tE} {q : Nat} (hq : rpOk m (e :: es) h = some q) : (e.1 = 0 ∧ h < m ∧ rpOk m es (h + 1) = some q) ∨ (e.1 = 1 ∧ h < m ∧ rpOk m es (h + 1) = some q) ∨ (e.1 = 2 ∧ 1 ≤ h ∧ rpOk m es h = some q) ∨ (e.1 ≠ 0 ∧ e.1 ≠ 1 ∧ e.1 ≠ 2 ∧ 2 ≤ h ∧ rpOk m es (h - 1) = some q) := by
  obtain ⟨s, a⟩ := e
  rw [rpOk] at hq
  by_cases h0 : s = 0
  · rw [if_pos h0] at hq
    by_cases hm : h < m
    · rw [if_pos hm] at hq; exact Or.inl ⟨h0, hm, hq⟩
    · rw [if_neg hm] at hq; cases hq
  rw [if_neg h0] at hq
  by_cases h1 : s = 1
  · rw [if_pos h1] at hq
    by_cases hm : h < m ∧ 0 ≤ a ∧ a ≤ 7
    · rw [if_pos hm] at hq; exact Or.inr (Or.inl ⟨h1, hm.1, hq⟩)
    · rw [if_neg hm] at hq; cases hq
  rw [if_neg h1] at hq
  by_cases h2 : s = 2
  · rw [if_pos h2] at hq
    by_cases hm : 1 ≤ h
    · rw [if_pos hm] at hq; exact Or.inr (Or.inr (Or.inl ⟨h2, hm, hq⟩))
    · rw [if_neg hm] at hq; cases hq
  rw [if_neg h2] at hq
  by_cases hm : 2 ≤ h
  · rw [if_pos hm] at hq; exact Or.inr (Or.inr (Or.inr ⟨h0, h1, h2, hm, hq⟩))
  · rw [if_neg hm] at hq; cases hq
end evCode
section cVal
variable {T d r : Nat} {C F : xC} {t : eT}
abbrev sR : xV := .inr (.inr (.inl (37, 26)))
/-- the scene as the mind has it: of which land, when, what -/
def cScn (T r : Nat) (t : eT) (C : xC) : Prop := C 37 0 = (r : Int) ∧ C 37 5 = 38 ∧ C 37 6 = 39 ∧ C 37 7 = 40 ∧ C 37 4 = 0 ∧ C 37 2 = t.2.1 ∧ C 37 3 = t.2.2 ∧ (∀ j, j < T → C 38 j = t.1 j) ∧ (r = 2 ∨ r = 13) ∧ ∀ k, k < 10 → C r (4 + k) = ((r + 1 + k : Nat) : Int)
/-- the stack's row, from its foot -/
def cStk (i : Nat) (st : List Int) (C : xC) : Prop := ∀ (j : Nat) (x : Int), j < st.length → st[st.length - 1 - j]? = some x → C i j = x
theorem cStk_top {i : Nat} {x : Int} {st : List Int} (h : cStk i (x :: st) C) : C i st.length = x := h st.length x (by simp) (by simp)
theorem cStk_tl {i : Nat} {x : Int} {st : List Int} (h : cStk i (x :: st) C) : cStk i st C := fun j y hj hy => h j y (by simp; omega) (by
  rw [List.length_cons, show st.length + 1 - 1 - j = (st.length - 1 - j) + 1 by omega, List.getElem?_cons_succ]
  exact hy)
theorem cStk_put {i : Nat} {x : Int} {st : List Int} (h : cStk i st C) : cStk i (x :: st) (xst C i st.length x) := fun j y hj hy => by
  by_cases hjs : j = st.length
  · subst hjs
    rw [List.length_cons, show st.length + 1 - 1 - st.length = 0 by omega, List.getElem?_cons_zero] at hy
    cases hy
    exact xst_at
  · rw [List.length_cons] at hj
    rw [xst_nn (by omega)]
    refine h j y (by omega) ?_
    rw [List.length_cons, show st.length + 1 - 1 - j = (st.length - 1 - j) + 1 by omega, List.getElem?_cons_succ] at hy
    exact hy
theorem cStk_same {i : Nat} {st : List Int} (h : cStk i st C) (hs : ∀ j, F i j = C i j) : cStk i st F := fun j x hj hx => (hs j).trans (h j x hj hx)
theorem cScn_40 (h : cScn T r t C) (hs : ∀ i j, i ≠ 40 → F i j = C i j) : cScn T r t F := by
  obtain ⟨h1, h2, h3, h4, h5, h6, h7, h8, h9, h10⟩ := h
  exact ⟨by rw [hs _ _ (by omega), h1], by rw [hs _ _ (by omega), h2], by rw [hs _ _ (by omega), h3], by rw [hs _ _ (by omega), h4], by rw [hs _ _ (by omega), h5], by rw [hs _ _ (by omega), h6], by rw [hs _ _ (by omega), h7], fun j hj => by rw [hs _ _ (by omega), h8 j hj], h9, fun k hk => by rw [hs _ _ (by omega), h10 k hk]⟩

theorem cv_pre (hS : cScn T r t C) {e : tE} {k n : Nat} (he : eOk T e) (hc : C (r + 10) k = ce e) (hk : k < n) (hn : n ≤ 1024) {a l3 : Int} {o5 o6 o7 o8 : Option xV} :
    xw_X7_value d (23, [some sR, some (.inl a), some (.inl (n : Int)), some (.inl l3), some (.inl (k : Int)), o5, o6, o7, o8], [], C) =
      if 4 ≤ ceK e then (if ceK e ≠ 4 then xw_X7_value d (82, [some sR, some (.inl a), some (.inl (n : Int)), some (.inl (w32 (l3 + (-1)))), some (.inl (k : Int)), some (.inl (ceK e)), some (.inl (ceN e)), o7, o8], [], C)
        else xw_X7_value d (82, [some sR, some (.inl a), some (.inl (n : Int)), some (.inl (w32 (l3 + 0))), some (.inl (k : Int)), some (.inl (ceK e)), some (.inl (ceN e)), o7, o8], [], C))
      else xw_X7_value d (82, [some sR, some (.inl a), some (.inl (n : Int)), some (.inl (w32 (l3 + 1))), some (.inl (k : Int)), some (.inl (ceK e)), some (.inl (ceN e)), o7, o8], [], C) := by
  obtain ⟨h1, h2, h3, h4, h5, h6, h7, h8, h9, h10⟩ := hS
  have e37 : (C 37 0).toNat = r := by rw [h1]; rfl
  have e13 : (C r 13).toNat = r + 10 := by rw [h10 9 (by decide)]; rfl
  have hkx : xix (k : Int) 1024 = true := xixn (by omega)
  obtain ⟨p1, p2⟩ := ce_parts he
  rw [xl_X7_value_23, e37, e13, hkx, Int.toNat_natCast, hc, p1, p2]
  simp only [cond_true, Bool.cond_decide]
  rw [if_neg (show ¬ ((n : Int) ≤ (k : Int)) by omega)]
theorem cv_82 {a n k l5 l6 : Int} {h : Nat} (hh : h < 31) {o7 o8 : Option xV} : xw_X7_value d (82, [some sR, some (.inl a), some (.inl n), some (.inl (h : Int)), some (.inl k), some (.inl l5), some (.inl l6), o7, o8], [], C) = xw_X7_value d (96, [some sR, some (.inl a), some (.inl n), some (.inl (h : Int)), some (.inl k), some (.inl l5), some (.inl l6), o7, o8], [], C) := by
  rw [xl_X7_value_82]
  simp only [Bool.cond_decide]
  rw [if_neg (by omega), w32_s (by omega), if_pos (by omega)]
/-- one code of a formula is worked -/
theorem cv_step (hS : cScn T r t C) {e : tE} {k n : Nat} {st : List Int} (he : eOk T e) (hc : C (r + 10) k = ce e) (hk : k < n) (hn : n ≤ 1024) (hst : cStk 40 st C) (hl : (eS t e st).length ≤ 31) (hlow : (e.1 = 2 → 1 ≤ st.length) ∧ (e.1 = 3 → 2 ≤ st.length)) {a : Int} {o5 o6 o7 o8 : Option xV} :
    ∃ (F : xC) (p5 p6 p7 p8 : Option xV), xw_X7_value d (23, [some sR, some (.inl a), some (.inl (n : Int)), some (.inl ((st.length : Int) - 1)), some (.inl (k : Int)), o5, o6, o7, o8], [], C) = xw_X7_value d (23, [some sR, some (.inl a), some (.inl (n : Int)), some (.inl (((eS t e st).length : Int) - 1)), some (.inl ((k + 1 : Nat) : Int)), p5, p6, p7, p8], [], F) ∧ cStk 40 (eS t e st) F ∧ ∀ i j, i ≠ 40 → F i j = C i j := by
  have fin : ∀ (x : Int) (s0 : List Int), eS t e st = x :: s0 → cStk 40 s0 C → xw_X7_value d (23, [some sR, some (.inl a), some (.inl (n : Int)), some (.inl ((st.length : Int) - 1)), some (.inl (k : Int)), o5, o6, o7, o8], [], C) = xw_X7_value d (23, [some sR, some (.inl a), some (.inl (n : Int)), some (.inl (s0.length : Int)), some (.inl ((k + 1 : Nat) : Int)), some (.inl (ceK e)), some (.inl (ceN e)), some (.inl (C 40 s0.length)), some (.inl (C 40 (s0.length + 1)))], [], xst C 40 s0.length x) →
      ∃ (F : xC) (p5 p6 p7 p8 : Option xV), xw_X7_value d (23, [some sR, some (.inl a), some (.inl (n : Int)), some (.inl ((st.length : Int) - 1)), some (.inl (k : Int)), o5, o6, o7, o8], [], C) = xw_X7_value d (23, [some sR, some (.inl a), some (.inl (n : Int)), some (.inl (((eS t e st).length : Int) - 1)), some (.inl ((k + 1 : Nat) : Int)), p5, p6, p7, p8], [], F) ∧ cStk 40 (eS t e st) F ∧ ∀ i j, i ≠ 40 → F i j = C i j := by
    intro x s0 hE hs0 hq
    have e1 : (((x :: s0).length : Nat) : Int) - 1 = (s0.length : Int) := by rw [List.length_cons]; omega
    rw [hE, e1]
    exact ⟨_, _, _, _, _, hq, cStk_put hs0, fun i j hi => xst_nn (by omega)⟩
  have e40 : (C 37 7).toNat = 40 := by rw [hS.2.2.2.1]; rfl
  have e38 : (C 37 5).toNat = 38 := by rw [hS.2.1]; rfl
  have hw : w32 ((k : Int) + 1) = ((k + 1 : Nat) : Int) := w32_s (by omega)
  have he0 := he
  rcases he0 with ⟨q, z0, z1⟩ | ⟨q, z0, z1, z2⟩ | q | ⟨q, z⟩
  · have hkk : ceK e = 0 := by unfold ceK; rw [if_pos q]
    have hnn : ceN e = e.2 := by unfold ceN; rw [if_pos q]
    have hE : eS t e st = e.2 :: st := by unfold eS; rw [if_pos q]
    rw [hE, List.length_cons] at hl
    have x1 : xix (st.length : Int) 32 = true := xixn (by omega)
    have x2 : xix (w32 ((st.length : Int) + 1)) 32 = true := by rw [w32_s (by omega)]; exact xixn (by omega)
    have w1 : w32 ((st.length : Int) - 1 + 1) = (st.length : Int) := by rw [w32_id (by omega) (by omega)]; omega
    refine fin _ _ hE hst ?_
    rw [cv_pre hS he hc hk hn, hkk, hnn, if_neg (by decide), w1, cv_82 (by omega), xl_X7_value_96, x1, x2, e40, w32_s (i := st.length) (by omega), Int.toNat_natCast, Int.toNat_natCast]
    simp only [cond_true, Bool.cond_decide]
    rw [if_pos trivial, xl_X7_value_188, x1, e40, Int.toNat_natCast]
    simp only [cond_true, Bool.cond_decide, xna, Bool.and_true]
    rw [hw]
    try rfl
  · have hE0 : eS t e st = eA t e.2 :: st := by unfold eS; rw [if_neg (by omega), if_pos q]
    by_cases z6 : e.2 = 6
    · have hkk : ceK e = 2 := by unfold ceK; rw [if_neg (by omega), if_pos q, if_pos z6]
      have hE : eS t e st = t.2.1 :: st := by rw [hE0]; unfold eA; rw [if_pos z6]
      rw [hE, List.length_cons] at hl
      have x1 : xix (st.length : Int) 32 = true := xixn (by omega)
      have x2 : xix (w32 ((st.length : Int) + 1)) 32 = true := by rw [w32_s (by omega)]; exact xixn (by omega)
      have w1 : w32 ((st.length : Int) - 1 + 1) = (st.length : Int) := by rw [w32_id (by omega) (by omega)]; omega
      refine fin _ _ hE hst ?_
      rw [cv_pre hS he hc hk hn, hkk, if_neg (by decide), w1, cv_82 (by omega), xl_X7_value_96, x1, x2, e40, w32_s (i := st.length) (by omega), Int.toNat_natCast, Int.toNat_natCast]
      simp only [cond_true, Bool.cond_decide]
      rw [if_neg (show ¬ ((2 : Int) = 0) by decide), if_neg (show ¬ ((2 : Int) = 1) by decide), if_pos trivial, xl_X7_value_215, x1, e40, Int.toNat_natCast]
      simp only [cond_true, Bool.cond_decide, xna, Bool.and_true]
      rw [if_pos hS.2.2.2.2.1, hS.2.2.2.2.2.1, hw]
      try rfl
    by_cases z7 : e.2 = 7
    · have hkk : ceK e = 3 := by unfold ceK; rw [if_neg (by omega), if_pos q, if_neg z6, if_pos z7]
      have hE : eS t e st = t.2.2 :: st := by rw [hE0]; unfold eA; rw [if_neg z6, if_pos z7]
      rw [hE, List.length_cons] at hl
      have x1 : xix (st.length : Int) 32 = true := xixn (by omega)
      have x2 : xix (w32 ((st.length : Int) + 1)) 32 = true := by rw [w32_s (by omega)]; exact xixn (by omega)
      have w1 : w32 ((st.length : Int) - 1 + 1) = (st.length : Int) := by rw [w32_id (by omega) (by omega)]; omega
      refine fin _ _ hE hst ?_
      rw [cv_pre hS he hc hk hn, hkk, if_neg (by decide), w1, cv_82 (by omega), xl_X7_value_96, x1, x2, e40, w32_s (i := st.length) (by omega), Int.toNat_natCast, Int.toNat_natCast]
      simp only [cond_true, Bool.cond_decide]
      rw [if_neg (show ¬ ((3 : Int) = 0) by decide), if_neg (show ¬ ((3 : Int) = 1) by decide), if_neg (show ¬ ((3 : Int) = 2) by decide), if_pos trivial, xl_X7_value_242, x1, e40, Int.toNat_natCast]
      simp only [cond_true, Bool.cond_decide, xna, Bool.and_true]
      rw [hS.2.2.2.2.2.2.1, hw]
      try rfl
    · have hkk : ceK e = 1 := by unfold ceK; rw [if_neg (by omega), if_pos q, if_neg z6, if_neg z7]
      have hnn : ceN e = e.2 := by unfold ceN; rw [if_neg (by omega), if_pos ⟨q, z6, z7⟩]
      have x6 : xix e.2 6 = true := xixz.mpr ⟨by omega, by omega⟩
      have hE : eS t e st = t.1 e.2.toNat :: st := by rw [hE0]; unfold eA; rw [if_neg z6, if_neg z7]
      rw [hE, List.length_cons] at hl
      have x1 : xix (st.length : Int) 32 = true := xixn (by omega)
      have x2 : xix (w32 ((st.length : Int) + 1)) 32 = true := by rw [w32_s (by omega)]; exact xixn (by omega)
      have w1 : w32 ((st.length : Int) - 1 + 1) = (st.length : Int) := by rw [w32_id (by omega) (by omega)]; omega
      refine fin _ _ hE hst ?_
      rw [cv_pre hS he hc hk hn, hkk, hnn, if_neg (by decide), w1, cv_82 (by omega), xl_X7_value_96, x1, x2, e40, w32_s (i := st.length) (by omega), Int.toNat_natCast, Int.toNat_natCast]
      simp only [cond_true, Bool.cond_decide]
      rw [if_neg (show ¬ ((1 : Int) = 0) by decide), if_pos trivial, xl_X7_value_199, x1, e40, Int.toNat_natCast]
      simp only [cond_true, Bool.cond_decide, xna, Bool.and_true]
      rw [x6, e38, hS.2.2.2.2.2.2.2.1 e.2.toNat (by omega), cond_true, hw]
      try rfl
  · obtain ⟨a0, s0, rfl⟩ : ∃ a0 s0, st = a0 :: s0 := by
      cases st with
      | nil => exact absurd (hlow.1 q) (by decide)
      | cons x y => exact ⟨x, y, rfl⟩
    have hkk : ceK e = 4 := by unfold ceK; rw [if_neg (by omega), if_neg (by omega), if_pos q]
    have hE : eS t e (a0 :: s0) = (if a0 = 0 then 1 else 0) :: s0 := by unfold eS; rw [if_neg (by omega), if_neg (by omega), if_pos q]
    rw [hE, List.length_cons] at hl
    have x1 : xix (s0.length : Int) 32 = true := xixn (by omega)
    have x2 : xix (w32 ((s0.length : Int) + 1)) 32 = true := by rw [w32_s (by omega)]; exact xixn (by omega)
    have w1 : w32 ((((a0 :: s0).length : Nat) : Int) - 1 + 0) = (s0.length : Int) := by rw [List.length_cons, w32_id (by omega) (by omega)]; omega
    have ha : C 40 s0.length = a0 := cStk_top hst
    refine fin _ _ hE (cStk_tl hst) ?_
    rw [cv_pre hS he hc hk hn, hkk, if_pos (by decide), if_neg (fun q => q rfl), w1, cv_82 (by omega), xl_X7_value_96, x1, x2, e40, w32_s (i := s0.length) (by omega), Int.toNat_natCast, Int.toNat_natCast, ha]
    simp only [cond_true, Bool.cond_decide]
    rw [if_neg (show ¬ ((4 : Int) = 0) by decide), if_neg (show ¬ ((4 : Int) = 1) by decide), if_neg (show ¬ ((4 : Int) = 2) by decide), if_neg (show ¬ ((4 : Int) = 3) by decide), if_pos trivial, xl_X7_value_255, x1, e40, Int.toNat_natCast]
    simp only [cond_true, Bool.cond_decide, xna, Bool.and_true]
    rw [hw]
    by_cases za : a0 = 0
    · rw [if_neg (fun q => q za), if_pos za]
      try rfl
    · rw [if_pos za, if_neg za]
      try rfl
  · obtain ⟨b0, a0, s0, rfl⟩ : ∃ b0 a0 s0, st = b0 :: a0 :: s0 := by
      match st, hlow.2 q with
      | b :: a :: s, _ => exact ⟨b, a, s, rfl⟩
      | [], w => exact absurd w (by decide)
      | [_], w => exact absurd w (by simp)
    have hE : eS t e (b0 :: a0 :: s0) = eD e.2 a0 b0 :: s0 := by unfold eS; rw [if_neg (by omega), if_neg (by omega), if_neg (by omega)]
    have hl : s0.length + 1 ≤ 31 := by rw [hE, List.length_cons] at hl; exact hl
    have x1 : xix (s0.length : Int) 32 = true := xixn (by omega)
    have x2 : xix (w32 ((s0.length : Int) + 1)) 32 = true := by rw [w32_s (by omega)]; exact xixn (by omega)
    have w1 : w32 ((((b0 :: a0 :: s0).length : Nat) : Int) - 1 + (-1)) = (s0.length : Int) := by rw [List.length_cons, List.length_cons, w32_id (by omega) (by omega)]; omega
    have ha : C 40 s0.length = a0 := cStk_top (cStk_tl hst)
    have hb : C 40 (s0.length + 1) = b0 := cStk_top hst
    refine fin _ _ hE (cStk_tl (cStk_tl hst)) ?_
    have pre : ∀ K : Int, ceK e = K → 4 ≤ K → K ≠ 4 → xw_X7_value d (23, [some sR, some (.inl a), some (.inl (n : Int)), some (.inl ((((b0 :: a0 :: s0).length : Nat) : Int) - 1)), some (.inl (k : Int)), o5, o6, o7, o8], [], C) = xw_X7_value d (96, [some sR, some (.inl a), some (.inl (n : Int)), some (.inl (s0.length : Int)), some (.inl (k : Int)), some (.inl K), some (.inl (ceN e)), o7, o8], [], C) := by
      intro K hK h4 h5
      rw [cv_pre hS he hc hk hn, hK, if_pos h4, if_pos h5, w1, cv_82 (by omega)]
    rcases z with z | z | z | z | z | z | z | z | z | z
    · have hkk : ceK e = 14 := by unfold ceK; rw [if_neg (by omega), if_neg (by omega), if_neg (by omega)]; unfold ceS; rw [if_pos z]
      have hD : eD e.2 a0 b0 = (if a0 ≠ 0 ∨ b0 ≠ 0 then 1 else 0) := by rw [z]; unfold eD; rw [if_neg (by decide), if_neg (by decide), if_neg (by decide), if_neg (by decide), if_neg (by decide), if_neg (by decide), if_neg (by decide), if_neg (by decide), if_neg (by decide)]
      rw [hD, pre 14 hkk (by decide) (by decide), hkk, xl_X7_value_96, x1, x2, e40, w32_s (i := s0.length) (by omega), Int.toNat_natCast, Int.toNat_natCast, ha, hb]
      simp only [cond_true, Bool.cond_decide]
      rw [if_neg (show ¬ ((14 : Int) = 0) by decide), if_neg (show ¬ ((14 : Int) = 1) by decide), if_neg (show ¬ ((14 : Int) = 2) by decide), if_neg (show ¬ ((14 : Int) = 3) by decide), if_neg (show ¬ ((14 : Int) = 4) by decide), if_neg (show ¬ ((14 : Int) = 5) by decide), if_neg (show ¬ ((14 : Int) = 6) by decide), if_neg (show ¬ ((14 : Int) = 7) by decide), if_neg (show ¬ ((14 : Int) = 8) by decide), if_neg (show ¬ ((14 : Int) = 9) by decide), if_neg (show ¬ ((14 : Int) = 10) by decide), if_neg (show ¬ ((14 : Int) = 11) by decide), if_neg (show ¬ ((14 : Int) = 12) by decide), if_neg (show ¬ ((14 : Int) = 13) by decide), xl_X7_value_449, x1, e40, Int.toNat_natCast]
      simp only [cond_true, Bool.cond_decide, xna, Bool.and_true]
      rw [hw]
      by_cases za : a0 = 0
      · by_cases zb : b0 = 0
        · rw [if_neg (fun q => q za), if_pos zb, if_neg (fun q => q.elim (fun w => w za) fun w => w zb)]
          try rfl
        · rw [if_neg (fun q => q za), if_neg zb, if_pos (Or.inr zb)]
          try rfl
      · rw [if_pos za, if_pos (Or.inl za)]
        try rfl
    · have hkk : ceK e = 13 := by unfold ceK; rw [if_neg (by omega), if_neg (by omega), if_neg (by omega)]; unfold ceS; rw [if_neg (by omega), if_pos z]
      have hD : eD e.2 a0 b0 = (if a0 ≠ 0 ∧ b0 ≠ 0 then 1 else 0) := by rw [z]; unfold eD; rw [if_neg (by decide), if_neg (by decide), if_neg (by decide), if_neg (by decide), if_neg (by decide), if_neg (by decide), if_neg (by decide), if_neg (by decide), if_pos rfl]
      rw [hD, pre 13 hkk (by decide) (by decide), hkk, xl_X7_value_96, x1, x2, e40, w32_s (i := s0.length) (by omega), Int.toNat_natCast, Int.toNat_natCast, ha, hb]
      simp only [cond_true, Bool.cond_decide]
      rw [if_neg (show ¬ ((13 : Int) = 0) by decide), if_neg (show ¬ ((13 : Int) = 1) by decide), if_neg (show ¬ ((13 : Int) = 2) by decide), if_neg (show ¬ ((13 : Int) = 3) by decide), if_neg (show ¬ ((13 : Int) = 4) by decide), if_neg (show ¬ ((13 : Int) = 5) by decide), if_neg (show ¬ ((13 : Int) = 6) by decide), if_neg (show ¬ ((13 : Int) = 7) by decide), if_neg (show ¬ ((13 : Int) = 8) by decide), if_neg (show ¬ ((13 : Int) = 9) by decide), if_neg (show ¬ ((13 : Int) = 10) by decide), if_neg (show ¬ ((13 : Int) = 11) by decide), if_neg (show ¬ ((13 : Int) = 12) by decide), if_pos trivial, xl_X7_value_425, x1, e40, Int.toNat_natCast]
      simp only [cond_true, Bool.cond_decide, xna, Bool.and_true]
      rw [hw]
      by_cases za : a0 = 0
      · rw [if_pos za, if_neg (fun q => q.1 za)]
        try rfl
      · by_cases zb : b0 = 0
        · rw [if_neg za, if_pos zb, if_neg (fun q => q.2 zb)]
          try rfl
        · rw [if_neg za, if_neg zb, if_pos ⟨za, zb⟩]
          try rfl
    · have hkk : ceK e = 9 := by unfold ceK; rw [if_neg (by omega), if_neg (by omega), if_neg (by omega)]; unfold ceS; rw [if_neg (by omega), if_neg (by omega), if_pos z]
      have hD : eD e.2 a0 b0 = (if b0 = 0 then 0 else x32 (fun x y => x - x / y * y) a0 b0) := by rw [z]; unfold eD; rw [if_neg (by decide), if_neg (by decide), if_neg (by decide), if_neg (by decide), if_pos rfl]
      rw [hD, pre 9 hkk (by decide) (by decide), hkk, xl_X7_value_96, x1, x2, e40, w32_s (i := s0.length) (by omega), Int.toNat_natCast, Int.toNat_natCast, ha, hb]
      simp only [cond_true, Bool.cond_decide]
      rw [if_neg (show ¬ ((9 : Int) = 0) by decide), if_neg (show ¬ ((9 : Int) = 1) by decide), if_neg (show ¬ ((9 : Int) = 2) by decide), if_neg (show ¬ ((9 : Int) = 3) by decide), if_neg (show ¬ ((9 : Int) = 4) by decide), if_neg (show ¬ ((9 : Int) = 5) by decide), if_neg (show ¬ ((9 : Int) = 6) by decide), if_neg (show ¬ ((9 : Int) = 7) by decide), if_neg (show ¬ ((9 : Int) = 8) by decide), if_pos trivial, xl_X7_value_339, x1, e40, Int.toNat_natCast]
      simp only [cond_true, Bool.cond_decide, xna, Bool.and_true]
      rw [hw]
      by_cases zq : b0 = 0
      · rw [if_neg (fun q => q zq), if_pos zq]
        try rfl
      · rw [if_pos zq, if_neg zq, if_neg zq]
        try rfl
    · have hkk : ceK e = 7 := by unfold ceK; rw [if_neg (by omega), if_neg (by omega), if_neg (by omega)]; unfold ceS; rw [if_neg (by omega), if_neg (by omega), if_neg (by omega), if_pos z]
      have hD : eD e.2 a0 b0 = (w32 (a0 * b0)) := by rw [z]; unfold eD; rw [if_neg (by decide), if_neg (by decide), if_pos rfl]
      rw [hD, pre 7 hkk (by decide) (by decide), hkk, xl_X7_value_96, x1, x2, e40, w32_s (i := s0.length) (by omega), Int.toNat_natCast, Int.toNat_natCast, ha, hb]
      simp only [cond_true, Bool.cond_decide]
      rw [if_neg (show ¬ ((7 : Int) = 0) by decide), if_neg (show ¬ ((7 : Int) = 1) by decide), if_neg (show ¬ ((7 : Int) = 2) by decide), if_neg (show ¬ ((7 : Int) = 3) by decide), if_neg (show ¬ ((7 : Int) = 4) by decide), if_neg (show ¬ ((7 : Int) = 5) by decide), if_neg (show ¬ ((7 : Int) = 6) by decide), if_pos trivial, xl_X7_value_302, x1, e40, Int.toNat_natCast]
      simp only [cond_true, Bool.cond_decide, xna, Bool.and_true]
      rw [hw]
      try rfl
    · have hkk : ceK e = 5 := by unfold ceK; rw [if_neg (by omega), if_neg (by omega), if_neg (by omega)]; unfold ceS; rw [if_neg (by omega), if_neg (by omega), if_neg (by omega), if_neg (by omega), if_pos z]
      have hD : eD e.2 a0 b0 = (w32 (a0 + b0)) := by rw [z]; unfold eD; rw [if_pos rfl]
      rw [hD, pre 5 hkk (by decide) (by decide), hkk, xl_X7_value_96, x1, x2, e40, w32_s (i := s0.length) (by omega), Int.toNat_natCast, Int.toNat_natCast, ha, hb]
      simp only [cond_true, Bool.cond_decide]
      rw [if_neg (show ¬ ((5 : Int) = 0) by decide), if_neg (show ¬ ((5 : Int) = 1) by decide), if_neg (show ¬ ((5 : Int) = 2) by decide), if_neg (show ¬ ((5 : Int) = 3) by decide), if_neg (show ¬ ((5 : Int) = 4) by decide), if_pos trivial, xl_X7_value_274, x1, e40, Int.toNat_natCast]
      simp only [cond_true, Bool.cond_decide, xna, Bool.and_true]
      rw [hw]
      try rfl
    · have hkk : ceK e = 6 := by unfold ceK; rw [if_neg (by omega), if_neg (by omega), if_neg (by omega)]; unfold ceS; rw [if_neg (by omega), if_neg (by omega), if_neg (by omega), if_neg (by omega), if_neg (by omega), if_pos z]
      have hD : eD e.2 a0 b0 = (w32 (a0 - b0)) := by rw [z]; unfold eD; rw [if_neg (by decide), if_pos rfl]
      rw [hD, pre 6 hkk (by decide) (by decide), hkk, xl_X7_value_96, x1, x2, e40, w32_s (i := s0.length) (by omega), Int.toNat_natCast, Int.toNat_natCast, ha, hb]
      simp only [cond_true, Bool.cond_decide]
      rw [if_neg (show ¬ ((6 : Int) = 0) by decide), if_neg (show ¬ ((6 : Int) = 1) by decide), if_neg (show ¬ ((6 : Int) = 2) by decide), if_neg (show ¬ ((6 : Int) = 3) by decide), if_neg (show ¬ ((6 : Int) = 4) by decide), if_neg (show ¬ ((6 : Int) = 5) by decide), if_pos trivial, xl_X7_value_288, x1, e40, Int.toNat_natCast]
      simp only [cond_true, Bool.cond_decide, xna, Bool.and_true]
      rw [hw]
      try rfl
    · have hkk : ceK e = 8 := by unfold ceK; rw [if_neg (by omega), if_neg (by omega), if_neg (by omega)]; unfold ceS; rw [if_neg (by omega), if_neg (by omega), if_neg (by omega), if_neg (by omega), if_neg (by omega), if_neg (by omega), if_pos z]
      have hD : eD e.2 a0 b0 = (if b0 = 0 then 0 else x32 (· / ·) a0 b0) := by rw [z]; unfold eD; rw [if_neg (by decide), if_neg (by decide), if_neg (by decide), if_pos rfl]
      rw [hD, pre 8 hkk (by decide) (by decide), hkk, xl_X7_value_96, x1, x2, e40, w32_s (i := s0.length) (by omega), Int.toNat_natCast, Int.toNat_natCast, ha, hb]
      simp only [cond_true, Bool.cond_decide]
      rw [if_neg (show ¬ ((8 : Int) = 0) by decide), if_neg (show ¬ ((8 : Int) = 1) by decide), if_neg (show ¬ ((8 : Int) = 2) by decide), if_neg (show ¬ ((8 : Int) = 3) by decide), if_neg (show ¬ ((8 : Int) = 4) by decide), if_neg (show ¬ ((8 : Int) = 5) by decide), if_neg (show ¬ ((8 : Int) = 6) by decide), if_neg (show ¬ ((8 : Int) = 7) by decide), if_pos trivial, xl_X7_value_316, x1, e40, Int.toNat_natCast]
      simp only [cond_true, Bool.cond_decide, xna, Bool.and_true]
      rw [hw]
      by_cases zq : b0 = 0
      · rw [if_neg (fun q => q zq), if_pos zq]
        try rfl
      · rw [if_pos zq, if_neg zq, if_neg zq]
        try rfl
    · have hkk : ceK e = 10 := by unfold ceK; rw [if_neg (by omega), if_neg (by omega), if_neg (by omega)]; unfold ceS; rw [if_neg (by omega), if_neg (by omega), if_neg (by omega), if_neg (by omega), if_neg (by omega), if_neg (by omega), if_neg (by omega), if_pos z]
      have hD : eD e.2 a0 b0 = (if a0 < b0 then 1 else 0) := by rw [z]; unfold eD; rw [if_neg (by decide), if_neg (by decide), if_neg (by decide), if_neg (by decide), if_neg (by decide), if_pos rfl]
      rw [hD, pre 10 hkk (by decide) (by decide), hkk, xl_X7_value_96, x1, x2, e40, w32_s (i := s0.length) (by omega), Int.toNat_natCast, Int.toNat_natCast, ha, hb]
      simp only [cond_true, Bool.cond_decide]
      rw [if_neg (show ¬ ((10 : Int) = 0) by decide), if_neg (show ¬ ((10 : Int) = 1) by decide), if_neg (show ¬ ((10 : Int) = 2) by decide), if_neg (show ¬ ((10 : Int) = 3) by decide), if_neg (show ¬ ((10 : Int) = 4) by decide), if_neg (show ¬ ((10 : Int) = 5) by decide), if_neg (show ¬ ((10 : Int) = 6) by decide), if_neg (show ¬ ((10 : Int) = 7) by decide), if_neg (show ¬ ((10 : Int) = 8) by decide), if_neg (show ¬ ((10 : Int) = 9) by decide), if_pos trivial, xl_X7_value_362, x1, e40, Int.toNat_natCast]
      simp only [cond_true, Bool.cond_decide, xna, Bool.and_true]
      rw [hw]
      by_cases zq : a0 < b0
      · rw [if_neg (by omega), if_pos zq]
        try rfl
      · rw [if_pos (by omega), if_neg zq]
        try rfl
    · have hkk : ceK e = 12 := by unfold ceK; rw [if_neg (by omega), if_neg (by omega), if_neg (by omega)]; unfold ceS; rw [if_neg (by omega), if_neg (by omega), if_neg (by omega), if_neg (by omega), if_neg (by omega), if_neg (by omega), if_neg (by omega), if_neg (by omega), if_pos z]
      have hD : eD e.2 a0 b0 = (if a0 = b0 then 1 else 0) := by rw [z]; unfold eD; rw [if_neg (by decide), if_neg (by decide), if_neg (by decide), if_neg (by decide), if_neg (by decide), if_neg (by decide), if_neg (by decide), if_pos rfl]
      rw [hD, pre 12 hkk (by decide) (by decide), hkk, xl_X7_value_96, x1, x2, e40, w32_s (i := s0.length) (by omega), Int.toNat_natCast, Int.toNat_natCast, ha, hb]
      simp only [cond_true, Bool.cond_decide]
      rw [if_neg (show ¬ ((12 : Int) = 0) by decide), if_neg (show ¬ ((12 : Int) = 1) by decide), if_neg (show ¬ ((12 : Int) = 2) by decide), if_neg (show ¬ ((12 : Int) = 3) by decide), if_neg (show ¬ ((12 : Int) = 4) by decide), if_neg (show ¬ ((12 : Int) = 5) by decide), if_neg (show ¬ ((12 : Int) = 6) by decide), if_neg (show ¬ ((12 : Int) = 7) by decide), if_neg (show ¬ ((12 : Int) = 8) by decide), if_neg (show ¬ ((12 : Int) = 9) by decide), if_neg (show ¬ ((12 : Int) = 10) by decide), if_neg (show ¬ ((12 : Int) = 11) by decide), if_pos trivial, xl_X7_value_404, x1, e40, Int.toNat_natCast]
      simp only [cond_true, Bool.cond_decide, xna, Bool.and_true]
      rw [hw]
      by_cases zq : a0 = b0
      · rw [if_neg (fun q => q zq), if_pos zq]
        try rfl
      · rw [if_pos zq, if_neg zq]
        try rfl
    · have hkk : ceK e = 11 := by unfold ceK; rw [if_neg (by omega), if_neg (by omega), if_neg (by omega)]; unfold ceS; rw [if_neg (by omega), if_neg (by omega), if_neg (by omega), if_neg (by omega), if_neg (by omega), if_neg (by omega), if_neg (by omega), if_neg (by omega), if_neg (by omega)]
      have hD : eD e.2 a0 b0 = (if b0 < a0 then 1 else 0) := by rw [z]; unfold eD; rw [if_neg (by decide), if_neg (by decide), if_neg (by decide), if_neg (by decide), if_neg (by decide), if_neg (by decide), if_pos rfl]
      rw [hD, pre 11 hkk (by decide) (by decide), hkk, xl_X7_value_96, x1, x2, e40, w32_s (i := s0.length) (by omega), Int.toNat_natCast, Int.toNat_natCast, ha, hb]
      simp only [cond_true, Bool.cond_decide]
      rw [if_neg (show ¬ ((11 : Int) = 0) by decide), if_neg (show ¬ ((11 : Int) = 1) by decide), if_neg (show ¬ ((11 : Int) = 2) by decide), if_neg (show ¬ ((11 : Int) = 3) by decide), if_neg (show ¬ ((11 : Int) = 4) by decide), if_neg (show ¬ ((11 : Int) = 5) by decide), if_neg (show ¬ ((11 : Int) = 6) by decide), if_neg (show ¬ ((11 : Int) = 7) by decide), if_neg (show ¬ ((11 : Int) = 8) by decide), if_neg (show ¬ ((11 : Int) = 9) by decide), if_neg (show ¬ ((11 : Int) = 10) by decide), if_pos trivial, xl_X7_value_383, x1, e40, Int.toNat_natCast]
      simp only [cond_true, Bool.cond_decide, xna, Bool.and_true]
      rw [hw]
      by_cases zq : b0 < a0
      · rw [if_neg (by omega), if_pos zq]
        try rfl
      · rw [if_pos (by omega), if_neg zq]
        try rfl
theorem eS_len {e : tE} {st : List Int} {m q : Nat} {es : List tE} (h : rpOk m (e :: es) st.length = some q) (hm : st.length ≤ m) (he : eOk T e) : rpOk m es (eS t e st).length = some q ∧ (eS t e st).length ≤ m ∧ (e.1 = 2 → 1 ≤ st.length) ∧ (e.1 = 3 → 2 ≤ st.length) := by
  rcases rpOk_cons h with ⟨a, b, c⟩ | ⟨a, b, c⟩ | ⟨a, b, c⟩ | ⟨a1, a2, a3, b, c⟩
  · have hE : eS t e st = e.2 :: st := by unfold eS; rw [if_pos a]
    rw [hE, List.length_cons]
    exact ⟨c, b, fun q => by omega, fun q => by omega⟩
  · have hE : eS t e st = eA t e.2 :: st := by unfold eS; rw [if_neg (by omega), if_pos a]
    rw [hE, List.length_cons]
    exact ⟨c, b, fun q => by omega, fun q => by omega⟩
  · obtain ⟨x, y, rfl⟩ : ∃ x y, st = x :: y := by
      cases st with
      | nil => exact absurd b (by decide)
      | cons x y => exact ⟨x, y, rfl⟩
    have hE : eS t e (x :: y) = (if x = 0 then 1 else 0) :: y := by unfold eS; rw [if_neg (by omega), if_neg (by omega), if_pos a]
    rw [hE]
    exact ⟨c, hm, fun _ => b, fun q => by omega⟩
  · obtain ⟨x, y, z, rfl⟩ : ∃ x y z, st = x :: y :: z := by
      match st, b with
      | x :: y :: z, _ => exact ⟨x, y, z, rfl⟩
      | [], w => exact absurd w (by decide)
      | [_], w => exact absurd w (by simp)
    have hE : eS t e (x :: y :: z) = eD e.2 y x :: z := by unfold eS; rw [if_neg a1, if_neg a2, if_neg a3]
    rw [hE]
    simp only [List.length_cons] at hm b ⊢
    exact ⟨by simpa using c, by omega, fun q => by omega, fun _ => b⟩
/-- a formula's codes are worked, one behind the other -/
theorem cv_loop {a : Int} {n : Nat} (hn : n ≤ 1024) : ∀ (es : List tE) (k : Nat) (st : List Int) (C : xC) (o5 o6 o7 o8 : Option xV), cScn T r t C → k + es.length = n → (∀ i x, es[i]? = some x → C (r + 10) (k + i) = ce x ∧ eOk T x) → cStk 40 st C → st.length ≤ 31 → rpOk 31 es st.length = some 1 →
    ∃ F, xw_X7_value d (23, [some sR, some (.inl a), some (.inl (n : Int)), some (.inl ((st.length : Int) - 1)), some (.inl (k : Int)), o5, o6, o7, o8], [], C) = some ((eR t es st).headD 0, F) ∧ ∀ i j, i ≠ 40 → F i j = C i j := by
  intro es
  induction es with
  | nil =>
    intro k st C o5 o6 o7 o8 hS hk hc hst hl hr
    have h1 : st.length = 1 := Option.some.inj hr
    obtain ⟨x, rfl⟩ : ∃ x, st = [x] := by
      match st, h1 with
      | [x], _ => exact ⟨x, rfl⟩
    have e40 : (C 37 7).toNat = 40 := by rw [hS.2.2.2.1]; rfl
    have hx : C 40 0 = x := cStk_top hst
    refine ⟨C, ?_, fun _ _ _ => rfl⟩
    have hk : k = n := hk
    have e0 : (((([x] : List Int).length : Nat) : Int) - 1) = 0 := rfl
    have x0 : xix 0 32 = true := rfl
    rw [xl_X7_value_23, e0, x0, e40]
    simp only [cond_true, Bool.cond_decide]
    rw [if_pos (show (n : Int) ≤ (k : Int) by omega), if_pos (show (0 : Int) ≤ 0 from Int.le_refl _)]
    show some (C 40 0, C) = some (x, C)
    rw [hx]
  | cons e es ih =>
    intro k st C o5 o6 o7 o8 hS hk hc hst hl hr
    rw [List.length_cons] at hk
    obtain ⟨c1, c2⟩ := hc 0 e rfl
    obtain ⟨l1, l2, l3⟩ := eS_len (t := t) hr hl c2
    obtain ⟨F, p5, p6, p7, p8, q1, q2, q3⟩ := cv_step (d := d) (a := a) (o5 := o5) (o6 := o6) (o7 := o7) (o8 := o8) hS c2 c1 (show k < n by omega) hn hst l2 l3
    simp only [Nat.add_zero] at q1
    rw [q1]
    obtain ⟨G, g1, g2⟩ := ih (k + 1) (eS t e st) F p5 p6 p7 p8 (cScn_40 hS q3) (by omega) (fun i x hx => by
      obtain ⟨w1, w2⟩ := hc (i + 1) x (by rw [List.getElem?_cons_succ]; exact hx)
      have hr10 : r + 10 ≠ 40 := by have := hS.2.2.2.2.2.2.2.2.1; omega
      exact ⟨by rw [q3 _ _ hr10, show k + 1 + i = k + (i + 1) by omega]; exact w1, w2⟩) q2 l2 l1
    exact ⟨G, g1, fun i j hi => (g2 i j hi).trans (q3 i j hi)⟩
/-- a formula that the class's land has -/
def cFo (T r f : Nat) (es : List tE) (C : xC) : Prop := ∃ b : Nat, C (r + 8) f = (b : Int) ∧ C (r + 9) f = ((b + es.length : Nat) : Int) ∧ b + es.length ≤ 1024 ∧ (∀ i x, es[i]? = some x → C (r + 10) (b + i) = ce x ∧ eOk T x) ∧ rpOk 31 es 0 = some 1
theorem cv_value (hd : 1 ≤ d) (hS : cScn T r t C) {f : Nat} (hf : f < 65) {es : List tE} (h : cFo T r f es C) : ∃ F, xM d 61 [sR, .inl (f : Int)] C = some (eV t es, F) ∧ ∀ i j, i ≠ 40 → F i j = C i j := by
  obtain ⟨d, rfl⟩ := Nat.exists_eq_add_of_le' hd
  obtain ⟨b, b1, b2, b3, b4, b5⟩ := h
  have e37 : (C 37 0).toNat = r := by rw [hS.1]; rfl
  have hrow := hS.2.2.2.2.2.2.2.2.2
  have e11 : (C r 11).toNat = r + 8 := by rw [hrow 7 (by decide)]; rfl
  have e12 : (C r 12).toNat = r + 9 := by rw [hrow 8 (by decide)]; rfl
  have hx : xix (f : Int) 65 = true := xixn hf
  rw [xm_X7_value, hx, e37, e11, e12, Int.toNat_natCast, b1, b2]
  simp only [cond_true]
  obtain ⟨F, k1, k2⟩ := cv_loop (d := d) (a := (f : Int)) (r := r) (t := t) b3 es b [] C none none none none hS rfl b4 (fun j x hj _ => absurd hj (by simp)) (by simp) b5
  exact ⟨F, k1, k2⟩
end cVal
