/-! The reference takes over the land that it has read. -/
section rLandS
variable {T d : Nat} {C F G : xC} {c : tC} {nL : Nat} {D : Int}
/-- the reference's arrays are where they are -/
def rPx (C : xC) : Prop := (C 74 11 = 77 ∧ C 74 12 = 78 ∧ C 74 13 = 79 ∧ C 74 14 = 80 ∧ C 74 15 = 81 ∧ C 74 16 = 82 ∧ C 74 17 = 83 ∧ C 74 18 = 84 ∧ C 74 20 = 86) ∧ (C 74 28 = 87 ∧ C 74 29 = 88 ∧ C 74 30 = 89 ∧ C 74 31 = 90 ∧ C 74 32 = 91 ∧ C 74 33 = 92 ∧ C 74 34 = 93) ∧ (C 74 35 = 94 ∧ C 74 36 = 95 ∧ C 74 37 = 96 ∧ C 74 38 = 97 ∧ C 74 39 = 98 ∧ C 74 40 = 99 ∧ C 74 41 = 100) ∧ C 74 62 = 101 ∧ C 74 63 = 102 ∧ C 74 69 = 103 ∧ C 74 101 = 122
theorem rPx_same (h : rPx C) (hs : ∀ j, ((11 ≤ j ∧ j ≤ 20) ∨ (28 ≤ j ∧ j ≤ 41) ∨ j = 62 ∨ j = 63 ∨ j = 69 ∨ j = 101) → F 74 j = C 74 j) : rPx F := by
  obtain ⟨⟨a1, a2, a3, a4, a5, a6, a7, a8, a9⟩, ⟨b1, b2, b3, b4, b5, b6, b7⟩, ⟨c1, c2, c3, c4, c5, c6, c7⟩, e1, e2, e3, e4⟩ := h
  refine ⟨⟨?_, ?_, ?_, ?_, ?_, ?_, ?_, ?_, ?_⟩, ⟨?_, ?_, ?_, ?_, ?_, ?_, ?_⟩, ⟨?_, ?_, ?_, ?_, ?_, ?_, ?_⟩, ?_, ?_, ?_, ?_⟩
  · rw [hs _ (by omega), a1]
  · rw [hs _ (by omega), a2]
  · rw [hs _ (by omega), a3]
  · rw [hs _ (by omega), a4]
  · rw [hs _ (by omega), a5]
  · rw [hs _ (by omega), a6]
  · rw [hs _ (by omega), a7]
  · rw [hs _ (by omega), a8]
  · rw [hs _ (by omega), a9]
  · rw [hs _ (by omega), b1]
  · rw [hs _ (by omega), b2]
  · rw [hs _ (by omega), b3]
  · rw [hs _ (by omega), b4]
  · rw [hs _ (by omega), b5]
  · rw [hs _ (by omega), b6]
  · rw [hs _ (by omega), b7]
  · rw [hs _ (by omega), c1]
  · rw [hs _ (by omega), c2]
  · rw [hs _ (by omega), c3]
  · rw [hs _ (by omega), c4]
  · rw [hs _ (by omega), c5]
  · rw [hs _ (by omega), c6]
  · rw [hs _ (by omega), c7]
  · rw [hs _ (by omega), e1]
  · rw [hs _ (by omega), e2]
  · rw [hs _ (by omega), e3]
  · rw [hs _ (by omega), e4]
theorem rv_ld95 (hp : rPx G) : ∃ F, xw_X12_land d (95, [some mR, some (.inl 0)], [], G) = xw_X12_land d (133, [some mR, some (.inl 0)], [], F) ∧ (∀ j, j < 65 → F 83 j = G 79 j ∧ F 84 j = G 80 j) ∧ ∀ i j, i ≠ 83 → i ≠ 84 → F i j = G i j := by
  have key : ∀ (m l : Nat) (E : xC), l + m = 65 → (∀ j, j < l → E 83 j = G 79 j ∧ E 84 j = G 80 j) → (∀ i j, i ≠ 83 → i ≠ 84 → E i j = G i j) → ∃ F, xw_X12_land d (95, [some mR, some (.inl (l : Int))], [], E) = xw_X12_land d (133, [some mR, some (.inl 0)], [], F) ∧ (∀ j, j < 65 → F 83 j = G 79 j ∧ F 84 j = G 80 j) ∧ ∀ i j, i ≠ 83 → i ≠ 84 → F i j = G i j := by
    intro m
    induction m with
    | zero =>
      intro l E hl h1 h2
      refine ⟨E, ?_, fun j hj => h1 j (by omega), h2⟩
      rw [xl_X12_land_95]
      simp only [Bool.cond_decide]
      rw [if_pos (by omega)]
    | succ m ih =>
      intro l E hl h1 h2
      have e13 : (E 74 13).toNat = 79 := by rw [h2 _ _ (by omega) (by omega), hp.1.2.2.1]; rfl
      have e17 : (E 74 17).toNat = 83 := by rw [h2 _ _ (by omega) (by omega), hp.1.2.2.2.2.2.2.1]; rfl
      have e14 : (xst E 83 l (E 79 l) 74 14).toNat = 80 := by rw [xst_nn (by omega), h2 _ _ (by omega) (by omega), hp.1.2.2.2.1]; rfl
      have e18 : (xst E 83 l (E 79 l) 74 18).toNat = 84 := by rw [xst_nn (by omega), h2 _ _ (by omega) (by omega), hp.1.2.2.2.2.2.2.2.1]; rfl
      have xl : xix (l : Int) 70 = true := xixn (by omega)
      have v1 : xst E 83 l (E 79 l) 80 l = E 80 l := xst_nn (by omega)
      rw [xl_X12_land_95, xl, e13, e17, Int.toNat_natCast, e14, e18, v1, w32_s (by omega)]
      simp only [Bool.cond_decide, cond_true, xna, Bool.and_true]
      rw [if_neg (by omega)]
      refine ih (l + 1) _ (by omega) (fun j hj => ?_) (fun i j q1 q2 => by rw [xst_nn (by omega), xst_nn (by omega), h2 i j q1 q2])
      by_cases hjl : j = l
      · rw [hjl, xst_at, xst_nn (by omega), xst_at, h2 _ _ (by omega) (by omega), h2 _ _ (by omega) (by omega)]
        exact ⟨rfl, rfl⟩
      · rw [xst_nn (by omega), xst_nn (by omega), xst_nn (by omega), xst_nn (by omega)]
        exact h1 j (by omega)
  exact key 65 0 G (by omega) (fun j hj => absurd hj (by omega)) (fun _ _ _ _ => rfl)
theorem rv_ld133 {n : Nat} (hn : n ≤ 2400) (h23 : G 74 23 = (n : Int)) (hp : rPx G) : ∃ F, xw_X12_land d (133, [some mR, some (.inl 0)], [], G) = xw_X12_land d (173, [some mR, some (.inl 0)], [], F) ∧ (∀ j, j < n → F 81 j = G 77 j ∧ F 82 j = G 78 j) ∧ ∀ i j, i ≠ 81 → i ≠ 82 → F i j = G i j := by
  have key : ∀ (m l : Nat) (E : xC), l + m = n → (∀ j, j < l → E 81 j = G 77 j ∧ E 82 j = G 78 j) → (∀ i j, i ≠ 81 → i ≠ 82 → E i j = G i j) → ∃ F, xw_X12_land d (133, [some mR, some (.inl (l : Int))], [], E) = xw_X12_land d (173, [some mR, some (.inl 0)], [], F) ∧ (∀ j, j < n → F 81 j = G 77 j ∧ F 82 j = G 78 j) ∧ ∀ i j, i ≠ 81 → i ≠ 82 → F i j = G i j := by
    intro m
    induction m with
    | zero =>
      intro l E hl h1 h2
      refine ⟨E, ?_, fun j hj => h1 j (by omega), h2⟩
      rw [xl_X12_land_133, h2 74 23 (by omega) (by omega), h23]
      simp only [Bool.cond_decide]
      rw [if_pos (by omega)]
    | succ m ih =>
      intro l E hl h1 h2
      have e11 : (E 74 11).toNat = 77 := by rw [h2 _ _ (by omega) (by omega), hp.1.1]; rfl
      have e15 : (E 74 15).toNat = 81 := by rw [h2 _ _ (by omega) (by omega), hp.1.2.2.2.2.1]; rfl
      have e12 : (xst E 81 l (E 77 l) 74 12).toNat = 78 := by rw [xst_nn (by omega), h2 _ _ (by omega) (by omega), hp.1.2.1]; rfl
      have e16 : (xst E 81 l (E 77 l) 74 16).toNat = 82 := by rw [xst_nn (by omega), h2 _ _ (by omega) (by omega), hp.1.2.2.2.2.2.1]; rfl
      have xl : xix (l : Int) 2400 = true := xixn (by omega)
      have v1 : xst E 81 l (E 77 l) 78 l = E 78 l := xst_nn (by omega)
      rw [xl_X12_land_133, h2 74 23 (by omega) (by omega), h23, xl, e11, e15, Int.toNat_natCast, e12, e16, v1, w32_s (by omega)]
      simp only [Bool.cond_decide, cond_true, xna, Bool.and_true]
      rw [if_neg (by omega)]
      refine ih (l + 1) _ (by omega) (fun j hj => ?_) (fun i j q1 q2 => by rw [xst_nn (by omega), xst_nn (by omega), h2 i j q1 q2])
      by_cases hjl : j = l
      · rw [hjl, xst_at, xst_nn (by omega), xst_at, h2 _ _ (by omega) (by omega), h2 _ _ (by omega) (by omega)]
        exact ⟨rfl, rfl⟩
      · rw [xst_nn (by omega), xst_nn (by omega), xst_nn (by omega), xst_nn (by omega)]
        exact h1 j (by omega)
  exact key n 0 G (by omega) (fun j hj => absurd hj (by omega)) (fun _ _ _ _ => rfl)
theorem rv_ld173 (hp : rPx G) : ∃ F, xw_X12_land d (173, [some mR, some (.inl 0)], [], G) = xw_X12_land d (211, [some mR, some (.inl 0)], [], F) ∧ (∀ j, j < 6 → F 94 j = G 87 j ∧ F 95 j = G 88 j) ∧ ∀ i j, i ≠ 94 → i ≠ 95 → F i j = G i j := by
  have key : ∀ (m l : Nat) (E : xC), l + m = 6 → (∀ j, j < l → E 94 j = G 87 j ∧ E 95 j = G 88 j) → (∀ i j, i ≠ 94 → i ≠ 95 → E i j = G i j) → ∃ F, xw_X12_land d (173, [some mR, some (.inl (l : Int))], [], E) = xw_X12_land d (211, [some mR, some (.inl 0)], [], F) ∧ (∀ j, j < 6 → F 94 j = G 87 j ∧ F 95 j = G 88 j) ∧ ∀ i j, i ≠ 94 → i ≠ 95 → F i j = G i j := by
    intro m
    induction m with
    | zero =>
      intro l E hl h1 h2
      refine ⟨E, ?_, fun j hj => h1 j (by omega), h2⟩
      rw [xl_X12_land_173]
      simp only [Bool.cond_decide]
      rw [if_pos (by omega)]
    | succ m ih =>
      intro l E hl h1 h2
      have e28 : (E 74 28).toNat = 87 := by rw [h2 _ _ (by omega) (by omega), hp.2.1.1]; rfl
      have e35 : (E 74 35).toNat = 94 := by rw [h2 _ _ (by omega) (by omega), hp.2.2.1.1]; rfl
      have e29 : (xst E 94 l (E 87 l) 74 29).toNat = 88 := by rw [xst_nn (by omega), h2 _ _ (by omega) (by omega), hp.2.1.2.1]; rfl
      have e36 : (xst E 94 l (E 87 l) 74 36).toNat = 95 := by rw [xst_nn (by omega), h2 _ _ (by omega) (by omega), hp.2.2.1.2.1]; rfl
      have xl : xix (l : Int) 6 = true := xixn (by omega)
      have v1 : xst E 94 l (E 87 l) 88 l = E 88 l := xst_nn (by omega)
      rw [xl_X12_land_173, xl, e28, e35, Int.toNat_natCast, e29, e36, v1, w32_s (by omega)]
      simp only [Bool.cond_decide, cond_true, xna, Bool.and_true]
      rw [if_neg (by omega)]
      refine ih (l + 1) _ (by omega) (fun j hj => ?_) (fun i j q1 q2 => by rw [xst_nn (by omega), xst_nn (by omega), h2 i j q1 q2])
      by_cases hjl : j = l
      · rw [hjl, xst_at, xst_nn (by omega), xst_at, h2 _ _ (by omega) (by omega), h2 _ _ (by omega) (by omega)]
        exact ⟨rfl, rfl⟩
      · rw [xst_nn (by omega), xst_nn (by omega), xst_nn (by omega), xst_nn (by omega)]
        exact h1 j (by omega)
  exact key 6 0 G (by omega) (fun j hj => absurd hj (by omega)) (fun _ _ _ _ => rfl)
theorem rv_ld211 (hp : rPx G) : ∃ F, xw_X12_land d (211, [some mR, some (.inl 0)], [], G) = xw_X12_land d (236, [some mR, some (.inl 0)], [], F) ∧ (∀ j, j < 5 → F 96 j = G 89 j) ∧ ∀ i j, i ≠ 96 → F i j = G i j := by
  have key : ∀ (m l : Nat) (E : xC), l + m = 5 → (∀ j, j < l → E 96 j = G 89 j) → (∀ i j, i ≠ 96 → E i j = G i j) → ∃ F, xw_X12_land d (211, [some mR, some (.inl (l : Int))], [], E) = xw_X12_land d (236, [some mR, some (.inl 0)], [], F) ∧ (∀ j, j < 5 → F 96 j = G 89 j) ∧ ∀ i j, i ≠ 96 → F i j = G i j := by
    intro m
    induction m with
    | zero =>
      intro l E hl h1 h2
      refine ⟨E, ?_, fun j hj => h1 j (by omega), h2⟩
      rw [xl_X12_land_211]
      simp only [Bool.cond_decide]
      rw [if_pos (by omega)]
    | succ m ih =>
      intro l E hl h1 h2
      have e30 : (E 74 30).toNat = 89 := by rw [h2 _ _ (by omega), hp.2.1.2.2.1]; rfl
      have e37 : (E 74 37).toNat = 96 := by rw [h2 _ _ (by omega), hp.2.2.1.2.2.1]; rfl
      have xl : xix (l : Int) 5 = true := xixn (by omega)
      rw [xl_X12_land_211, xl, e30, e37, Int.toNat_natCast, w32_s (by omega)]
      simp only [Bool.cond_decide, cond_true, xna, Bool.and_true]
      rw [if_neg (by omega)]
      refine ih (l + 1) _ (by omega) (fun j hj => ?_) (fun i j q1 => by rw [xst_nn (by omega), h2 i j q1])
      by_cases hjl : j = l
      · rw [hjl, xst_at, h2 _ _ (by omega)]
      · rw [xst_nn (by omega), h1 j (by omega)]
  exact key 5 0 G (by omega) (fun j hj => absurd hj (by omega)) (fun _ _ _ => rfl)
theorem rv_ld236 (hp : rPx G) : ∃ F, xw_X12_land d (236, [some mR, some (.inl 0)], [], G) = xw_X12_land d (273, [some mR, some (.inl 0)], [], F) ∧ (∀ j, j < 4 → F 97 j = G 90 j ∧ F 98 j = G 91 j) ∧ ∀ i j, i ≠ 97 → i ≠ 98 → F i j = G i j := by
  have key : ∀ (m l : Nat) (E : xC), l + m = 4 → (∀ j, j < l → E 97 j = G 90 j ∧ E 98 j = G 91 j) → (∀ i j, i ≠ 97 → i ≠ 98 → E i j = G i j) → ∃ F, xw_X12_land d (236, [some mR, some (.inl (l : Int))], [], E) = xw_X12_land d (273, [some mR, some (.inl 0)], [], F) ∧ (∀ j, j < 4 → F 97 j = G 90 j ∧ F 98 j = G 91 j) ∧ ∀ i j, i ≠ 97 → i ≠ 98 → F i j = G i j := by
    intro m
    induction m with
    | zero =>
      intro l E hl h1 h2
      refine ⟨E, ?_, fun j hj => h1 j (by omega), h2⟩
      rw [xl_X12_land_236]
      simp only [Bool.cond_decide]
      rw [if_pos (by omega)]
    | succ m ih =>
      intro l E hl h1 h2
      have e31 : (E 74 31).toNat = 90 := by rw [h2 _ _ (by omega) (by omega), hp.2.1.2.2.2.1]; rfl
      have e38 : (E 74 38).toNat = 97 := by rw [h2 _ _ (by omega) (by omega), hp.2.2.1.2.2.2.1]; rfl
      have e32 : (xst E 97 l (E 90 l) 74 32).toNat = 91 := by rw [xst_nn (by omega), h2 _ _ (by omega) (by omega), hp.2.1.2.2.2.2.1]; rfl
      have e39 : (xst E 97 l (E 90 l) 74 39).toNat = 98 := by rw [xst_nn (by omega), h2 _ _ (by omega) (by omega), hp.2.2.1.2.2.2.2.1]; rfl
      have xl : xix (l : Int) 4 = true := xixn (by omega)
      have v1 : xst E 97 l (E 90 l) 91 l = E 91 l := xst_nn (by omega)
      rw [xl_X12_land_236, xl, e31, e38, Int.toNat_natCast, e32, e39, v1, w32_s (by omega)]
      simp only [Bool.cond_decide, cond_true, xna, Bool.and_true]
      rw [if_neg (by omega)]
      refine ih (l + 1) _ (by omega) (fun j hj => ?_) (fun i j q1 q2 => by rw [xst_nn (by omega), xst_nn (by omega), h2 i j q1 q2])
      by_cases hjl : j = l
      · rw [hjl, xst_at, xst_nn (by omega), xst_at, h2 _ _ (by omega) (by omega), h2 _ _ (by omega) (by omega)]
        exact ⟨rfl, rfl⟩
      · rw [xst_nn (by omega), xst_nn (by omega), xst_nn (by omega), xst_nn (by omega)]
        exact h1 j (by omega)
  exact key 4 0 G (by omega) (fun j hj => absurd hj (by omega)) (fun _ _ _ _ => rfl)
theorem rv_ld273 (hp : rPx G) : ∃ F, xw_X12_land d (273, [some mR, some (.inl 0)], [], G) = xw_X12_land d (299, [some mR, some (.inl 0)], [], F) ∧ (∀ j, j < 11 → F 99 j = G 92 j) ∧ ∀ i j, i ≠ 99 → F i j = G i j := by
  have key : ∀ (m l : Nat) (E : xC), l + m = 11 → (∀ j, j < l → E 99 j = G 92 j) → (∀ i j, i ≠ 99 → E i j = G i j) → ∃ F, xw_X12_land d (273, [some mR, some (.inl (l : Int))], [], E) = xw_X12_land d (299, [some mR, some (.inl 0)], [], F) ∧ (∀ j, j < 11 → F 99 j = G 92 j) ∧ ∀ i j, i ≠ 99 → F i j = G i j := by
    intro m
    induction m with
    | zero =>
      intro l E hl h1 h2
      refine ⟨E, ?_, fun j hj => h1 j (by omega), h2⟩
      rw [xl_X12_land_273]
      simp only [Bool.cond_decide]
      rw [if_pos (by omega)]
    | succ m ih =>
      intro l E hl h1 h2
      have e33 : (E 74 33).toNat = 92 := by rw [h2 _ _ (by omega), hp.2.1.2.2.2.2.2.1]; rfl
      have e40 : (E 74 40).toNat = 99 := by rw [h2 _ _ (by omega), hp.2.2.1.2.2.2.2.2.1]; rfl
      have xl : xix (l : Int) 11 = true := xixn (by omega)
      rw [xl_X12_land_273, xl, e33, e40, Int.toNat_natCast, w32_s (by omega)]
      simp only [Bool.cond_decide, cond_true, xna, Bool.and_true]
      rw [if_neg (by omega)]
      refine ih (l + 1) _ (by omega) (fun j hj => ?_) (fun i j q1 => by rw [xst_nn (by omega), h2 i j q1])
      by_cases hjl : j = l
      · rw [hjl, xst_at, h2 _ _ (by omega)]
      · rw [xst_nn (by omega), h1 j (by omega)]
  exact key 11 0 G (by omega) (fun j hj => absurd hj (by omega)) (fun _ _ _ => rfl)
theorem rv_ld299 (hp : rPx G) : ∃ F, xw_X12_land d (299, [some mR, some (.inl 0)], [], G) = xw_X12_land d (299, [some mR, some (.inl 44)], [], F) ∧ (∀ j, j < 44 → F 100 j = G 93 j) ∧ ∀ i j, i ≠ 100 → F i j = G i j := by
  have key : ∀ (m l : Nat) (E : xC), l + m = 44 → (∀ j, j < l → E 100 j = G 93 j) → (∀ i j, i ≠ 100 → E i j = G i j) → ∃ F, xw_X12_land d (299, [some mR, some (.inl (l : Int))], [], E) = xw_X12_land d (299, [some mR, some (.inl 44)], [], F) ∧ (∀ j, j < 44 → F 100 j = G 93 j) ∧ ∀ i j, i ≠ 100 → F i j = G i j := by
    intro m
    induction m with
    | zero =>
      intro l E hl h1 h2
      have hl : l = 44 := hl
      subst hl
      exact ⟨E, rfl, h1, h2⟩
    | succ m ih =>
      intro l E hl h1 h2
      have e34 : (E 74 34).toNat = 93 := by rw [h2 _ _ (by omega), hp.2.1.2.2.2.2.2.2]; rfl
      have e41 : (E 74 41).toNat = 100 := by rw [h2 _ _ (by omega), hp.2.2.1.2.2.2.2.2.2]; rfl
      have xl : xix (l : Int) 44 = true := xixn (by omega)
      rw [xl_X12_land_299, xl, e34, e41, Int.toNat_natCast, w32_s (by omega)]
      simp only [Bool.cond_decide, cond_true, xna, Bool.and_true]
      rw [if_neg (by omega)]
      refine ih (l + 1) _ (by omega) (fun j hj => ?_) (fun i j q1 => by rw [xst_nn (by omega), h2 i j q1])
      by_cases hjl : j = l
      · rw [hjl, xst_at, h2 _ _ (by omega)]
      · rw [xst_nn (by omega), h1 j (by omega)]
  exact key 44 0 G (by omega) (fun j hj => absurd hj (by omega)) (fun _ _ _ => rfl)
theorem rv_keep (hd : 2 ≤ d) (hp : rPx C) (h68 : C 74 68 = 0) : ∃ F, xM d 201 [mR] C = some (0, F) ∧ ∀ i j, i ≠ 103 → F i j = C i j := by
  obtain ⟨d, rfl⟩ := Nat.exists_eq_add_of_le' (show 1 ≤ d by omega)
  obtain ⟨d, rfl⟩ := Nat.exists_eq_add_of_le' (show 1 ≤ d by omega)
  obtain ⟨-, -, -, e1, e2, e3, e4⟩ := hp
  rw [xm_X12_keep]
  have second : ∀ (m l : Nat) (G : xC), l + m = 5 → (∀ i j, i ≠ 103 → G i j = C i j) → ∃ F, xw_X12_keep (d + 1) (28, [some mR, some (.inl (l : Int))], [], G) = some (0, F) ∧ ∀ i j, i ≠ 103 → F i j = C i j := by
    intro m
    induction m with
    | zero =>
      intro l G hl g1
      have k69 : (G 74 69).toNat = 103 := by rw [g1 _ _ (by omega), e3]; rfl
      have k69a : ∀ x, (xst G 103 6 x 74 69).toNat = 103 := fun x => by rw [xst_nn (by omega), k69]
      have k69b : ∀ x y, (xst (xst G 103 6 x) 103 7 y 74 69).toNat = 103 := fun x y => by rw [xst_nn (by omega), k69a]
      have k65 : ∀ x, xst G 103 6 x 74 65 = G 74 65 := fun x => xst_nn (by omega)
      have k68 : ∀ x y, xst (xst G 103 6 x) 103 7 y 74 68 = 0 := fun x y => by rw [xst_nn (by omega), xst_nn (by omega), g1 _ _ (by omega), h68]
      have x6 : xix 6 16 = true := rfl
      have x7 : xix 7 16 = true := rfl
      have x8 : xix 8 16 = true := rfl
      rw [xl_X12_keep_28, k69, k69a, k65, k69b, k68, x6, x7, x8, rv_t0]
      simp only [Bool.cond_decide, cond_true, xna, Bool.and_true, Option.bind_some]
      rw [if_pos (by omega)]
      try rw [k69b]
      exact ⟨_, rfl, fun i j hi => by rw [xst_nn (by omega), xst_nn (by omega), xst_nn (by omega), g1 i j hi]⟩
    | succ m ih =>
      intro l G hl g1
      have k69 : (G 74 69).toNat = 103 := by rw [g1 _ _ (by omega), e3]; rfl
      have k63 : (G 74 63).toNat = 102 := by rw [g1 _ _ (by omega), e2]; rfl
      have x5 : xix (l : Int) 5 = true := xixn (by omega)
      have x16 : xix ((9 + l : Nat) : Int) 16 = true := xixn (by omega)
      have ws : w32 ((l : Int) + 1) = ((l + 1 : Nat) : Int) := w32_s (by omega)
      have w9 : w32 (9 + (l : Int)) = ((9 + l : Nat) : Int) := by clear ws; rw [w32_id (by omega) (by omega)]; omega
      rw [xl_X12_keep_28, w9, x5, x16, k69, k63, ws]
      clear w9 ws
      simp only [Bool.cond_decide, cond_true, xna, Bool.and_true]
      rw [if_neg (by omega)]
      exact ih (l + 1) _ (by omega) (fun i j hi => by rw [xst_nn (by omega), g1 i j hi])
  have first : ∀ (m l : Nat) (G : xC), l + m = 6 → (∀ i j, i ≠ 103 → G i j = C i j) → ∃ F, xw_X12_keep (d + 1) (2, [some mR, some (.inl (l : Int))], [], G) = some (0, F) ∧ ∀ i j, i ≠ 103 → F i j = C i j := by
    intro m
    induction m with
    | zero =>
      intro l G hl g1
      rw [xl_X12_keep_2]
      simp only [Bool.cond_decide]
      rw [if_pos (by omega)]
      exact second 5 0 G (by omega) g1
    | succ m ih =>
      intro l G hl g1
      have k69 : (G 74 69).toNat = 103 := by rw [g1 _ _ (by omega), e3]; rfl
      have k62 : (G 74 62).toNat = 101 := by rw [g1 _ _ (by omega), e1]; rfl
      have x6 : xix (l : Int) 6 = true := xixn (by omega)
      have x16 : xix (l : Int) 16 = true := xixn (by omega)
      rw [xl_X12_keep_2, x6, x16, k69, k62, w32_s (by omega)]
      simp only [Bool.cond_decide, cond_true, xna, Bool.and_true]
      rw [if_neg (by omega)]
      exact ih (l + 1) _ (by omega) (fun i j hi => by rw [xst_nn (by omega), g1 i j hi])
  exact first 6 0 C (by omega) (fun _ _ _ => rfl)
/-- the content as it stands in the rows that are read -/
def rNw (c : tC) (n : Nat) (C : xC) : Prop := ∃ es : List tE, (∀ j x, es[j]? = some x → C 77 j = x.1 ∧ C 78 j = x.2) ∧ es.length = n ∧ (∀ w l, c.1 w = some l → ∃ b : Nat, C 79 w = (b : Int) ∧ C 80 w = (l.length : Int) ∧ ∀ i x, l[i]? = some x → es[b + i]? = some x) ∧ (∀ x, c.2 0 0 = some x → C 74 48 = x) ∧ ∀ i j x, (i = 87 ∨ i = 88 ∨ i = 92 ∨ i = 93) → c.2 i j = some x → C i j = x
/-- behind the reading: the land is taken over -/
theorem rv_over (hd : 3 ≤ d) (hp : rPx C) (h60 : C 74 60 = 0 ∨ C 74 60 = 1) {n : Nat} (hn : n ≤ 2400) (h23 : C 74 23 = (n : Int)) (hc : rNw c n C) (h50 : C 74 50 = C 74 43) (h54 : C 74 54 = C 74 47) (h55 : C 74 55 = C 74 48) (hL : C 74 43 = (nL : Int)) (hD : C 74 47 = D) (hT6 : T ≤ 6) (h87 : ∀ j, j < T → c.2 87 j = some (eN c 87 j)) :
    ∃ F, xw_X12_land d (95, [some mR, some (.inl 0)], [], C) = some (C 74 49, F) ∧ rLand T c nL D F ∧ F 74 49 = C 74 49 ∧ F 74 98 = 0 := by
  obtain ⟨F1, a1, a2, a3⟩ := rv_ld95 (d := d) hp
  have p1 : rPx F1 := rPx_same hp fun j _ => a3 _ _ (by omega) (by omega)
  obtain ⟨F2, b1, b2, b3⟩ := rv_ld133 (d := d) hn (by rw [a3 _ _ (by omega) (by omega), h23]) p1
  have p2 : rPx F2 := rPx_same p1 fun j _ => b3 _ _ (by omega) (by omega)
  obtain ⟨F3, c1, c2, c3⟩ := rv_ld173 (d := d) p2
  have p3 : rPx F3 := rPx_same p2 fun j _ => c3 _ _ (by omega) (by omega)
  obtain ⟨F4, d1, d2, d3⟩ := rv_ld211 (d := d) p3
  have p4 : rPx F4 := rPx_same p3 fun j _ => d3 _ _ (by omega)
  obtain ⟨F5, e1, e2, e3⟩ := rv_ld236 (d := d) p4
  have p5 : rPx F5 := rPx_same p4 fun j _ => e3 _ _ (by omega) (by omega)
  obtain ⟨F6, f1, f2, f3⟩ := rv_ld273 (d := d) p5
  have p6 : rPx F6 := rPx_same p5 fun j _ => f3 _ _ (by omega)
  obtain ⟨F7, g1, g2, g3⟩ := rv_ld299 (d := d) p6
  have p7 : rPx F7 := rPx_same p6 fun j _ => g3 _ _ (by omega)
  have k74 : ∀ j, F7 74 j = C 74 j := fun j => by rw [g3 _ _ (by omega), f3 _ _ (by omega), e3 _ _ (by omega) (by omega), d3 _ _ (by omega), c3 _ _ (by omega) (by omega), b3 _ _ (by omega) (by omega), a3 _ _ (by omega) (by omega)]
  have k83 : ∀ j, j < 65 → F7 83 j = C 79 j ∧ F7 84 j = C 80 j := fun j hj => by
    rw [g3 _ _ (by omega), f3 _ _ (by omega), e3 _ _ (by omega) (by omega), d3 _ _ (by omega), c3 _ _ (by omega) (by omega), b3 _ _ (by omega) (by omega), g3 _ _ (by omega), f3 _ _ (by omega), e3 _ _ (by omega) (by omega), d3 _ _ (by omega), c3 _ _ (by omega) (by omega), b3 _ _ (by omega) (by omega)]
    exact a2 j hj
  have k81 : ∀ j, j < n → F7 81 j = C 77 j ∧ F7 82 j = C 78 j := fun j hj => by
    rw [g3 _ _ (by omega), f3 _ _ (by omega), e3 _ _ (by omega) (by omega), d3 _ _ (by omega), c3 _ _ (by omega) (by omega), g3 _ _ (by omega), f3 _ _ (by omega), e3 _ _ (by omega) (by omega), d3 _ _ (by omega), c3 _ _ (by omega) (by omega), (b2 j hj).1, (b2 j hj).2, a3 _ _ (by omega) (by omega), a3 _ _ (by omega) (by omega)]
    exact ⟨rfl, rfl⟩
  have k94 : ∀ j, j < 6 → F7 94 j = C 87 j ∧ F7 95 j = C 88 j := fun j hj => by
    rw [g3 _ _ (by omega), f3 _ _ (by omega), e3 _ _ (by omega) (by omega), d3 _ _ (by omega), g3 _ _ (by omega), f3 _ _ (by omega), e3 _ _ (by omega) (by omega), d3 _ _ (by omega), (c2 j hj).1, (c2 j hj).2, b3 _ _ (by omega) (by omega), a3 _ _ (by omega) (by omega), b3 _ _ (by omega) (by omega), a3 _ _ (by omega) (by omega)]
    exact ⟨rfl, rfl⟩
  have k99 : ∀ j, j < 11 → F7 99 j = C 92 j := fun j hj => by
    rw [g3 _ _ (by omega), f2 j hj, e3 _ _ (by omega) (by omega), d3 _ _ (by omega), c3 _ _ (by omega) (by omega), b3 _ _ (by omega) (by omega), a3 _ _ (by omega) (by omega)]
  have k100 : ∀ j, j < 44 → F7 100 j = C 93 j := fun j hj => by
    rw [g2 j hj, f3 _ _ (by omega), e3 _ _ (by omega) (by omega), d3 _ _ (by omega), c3 _ _ (by omega) (by omega), b3 _ _ (by omega) (by omega), a3 _ _ (by omega) (by omega)]
  have hLd : rLd c F7 := by
    obtain ⟨es, z1, z2, z3, z4, z5⟩ := hc
    refine ⟨es, fun j x hx => ?_, by omega, fun w l hw hl => ?_, fun x hx => ?_, fun j x => ⟨fun hj hx => ?_, fun hj hx => ?_, fun hj hx => ?_, fun hj hx => ?_⟩⟩
    · have hj := (List.getElem?_eq_some_iff.mp hx).1
      rw [(k81 j (by omega)).1, (k81 j (by omega)).2]
      exact z1 j x hx
    · obtain ⟨b, y1, y2, y3⟩ := z3 w l hl
      exact ⟨b, by rw [(k83 w hw).1, y1], by rw [(k83 w hw).2, y2], y3⟩
    · rw [k74, h55]; exact z4 x hx
    · rw [(k94 j hj).1]; exact z5 87 j x (by omega) hx
    · rw [(k94 j hj).2]; exact z5 88 j x (by omega) hx
    · rw [k99 j hj]; exact z5 92 j x (by omega) hx
    · rw [k100 j hj]; exact z5 93 j x (by omega) hx
  have hLa : rLand T c nL D F7 := by
    obtain ⟨⟨q1, q2, q3, q4, q5, q6, q7, q8, q9⟩, -, ⟨u1, u2, u3, u4, u5, u6, u7⟩, v1, v2, v3, v4⟩ := p7
    exact ⟨⟨⟨q5, q6, q7, q8, q9⟩, v1, v2, u2, u6, u7, u1, u3⟩, hLd, by rw [k74, h50, hL], by rw [k74, h54, hD], h87⟩
  obtain ⟨F8, s1, s2, s3, s4, s5, s6, s7, s8⟩ := rv_loadTold (d := d) (by omega) hT6 hLa
  have t74 : ∀ j, (j < 64 ∨ 69 ≤ j) → F8 74 j = C 74 j := fun j hj => by rw [s2 _ _ (by simp only [rSK, decide_eq_false_iff_not]; omega), k74]
  have p8 : rPx F8 := rPx_same hp fun j hj => t74 j (by omega)
  obtain ⟨F9, w1, w2⟩ := rv_keep (d := d) (by omega) p8 s5
  have hLa9 : rLand T c nL D F9 := rLand_same hLa fun i j q => by rw [w2 _ _ (by omega), s2 _ _ (by simp only [rSK, decide_eq_false_iff_not]; omega)]
  have k9 : ∀ j, (j < 64 ∨ 69 ≤ j) → F9 74 j = C 74 j := fun j hj => by rw [w2 _ _ (by omega), t74 j hj]
  have g69 : (F9 74 69).toNat = 103 := by rw [k9 _ (by omega), hp.2.2.2.2.2.1]; rfl
  have g69a : (xst F9 103 14 0 74 69).toNat = 103 := by rw [xst_nn (by omega), g69]
  generalize hE : (xst (xst (xst (xst (xst (xst F9 103 14 0) 103 15 0) 74 73 0) 74 74 0) 74 98 0) 74 85 0) = E
  have kE : ∀ i j, i ≠ 103 → ¬ (i = 74 ∧ (j = 73 ∨ j = 74 ∨ j = 98 ∨ j = 85)) → E i j = F9 i j := fun i j q1 q2 => by rw [← hE, xst_nn (by omega), xst_nn (by omega), xst_nn (by omega), xst_nn (by omega), xst_nn (by omega), xst_nn (by omega)]
  have kE98 : E 74 98 = 0 := by rw [← hE, xst_nn (by omega), xst_at]
  have boxes : ∀ (m l : Nat) (H : xC), l + m = 3 → (∀ i j, i ≠ 122 → H i j = E i j) → ∃ F, xw_X12_land d (369, [some mR, some (.inl (l : Int))], [], H) = some (C 74 49, F) ∧ ∀ i j, i ≠ 122 → F i j = E i j := by
    intro m
    induction m with
    | zero =>
      intro l H hl h1
      refine ⟨H, ?_, h1⟩
      have k49 : H 74 49 = C 74 49 := by rw [h1 _ _ (by omega), kE _ _ (by omega) (by omega), k9 _ (by omega)]
      rw [xl_X12_land_369, k49]
      simp only [Bool.cond_decide]
      rw [if_pos (by omega)]
    | succ m ih =>
      intro l H hl h1
      have k101 : (H 74 101).toNat = 122 := by rw [h1 _ _ (by omega), kE _ _ (by omega) (by omega), k9 _ (by omega), hp.2.2.2.2.2.2]; rfl
      have x3 : xix (l : Int) 3 = true := xixn (by omega)
      have n10 : xna 1 0 = true := rfl
      rw [xl_X12_land_369, x3, n10, k101, Int.toNat_natCast, w32_s (by omega)]
      simp only [Bool.cond_decide, cond_true, Bool.and_true]
      rw [if_neg (by omega)]
      exact ih (l + 1) _ (by omega) (fun i j hi => by rw [xst_nn (by omega), h1 i j hi])
  obtain ⟨F, y1, y2⟩ := boxes 3 0 E (by omega) (fun _ _ _ => rfl)
  refine ⟨F, ?_, rLand_same hLa9 fun i j q => by rw [y2 _ _ (by omega), kE _ _ (by omega) (by omega)], by rw [y2 _ _ (by omega), kE _ _ (by omega) (by omega), k9 _ (by omega)], by rw [y2 _ _ (by omega), kE98]⟩
  have x14 : xix 14 16 = true := rfl
  have x15 : xix 15 16 = true := rfl
  rw [a1, b1, c1, d1, e1, f1, g1, xl_X12_land_299]
  simp only [Bool.cond_decide]
  rw [if_pos (show (44 : Int) ≤ 44 from Int.le_refl _), s1]
  simp only [Option.bind_some]
  rw [w1]
  simp only [Option.bind_some]
  rw [x14, x15, g69, g69a, hE]
  simp only [xna, Bool.and_true, cond_true]
  exact y1
end rLandS
