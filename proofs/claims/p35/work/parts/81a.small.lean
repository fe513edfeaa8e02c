/-! The class's reader: its small methods. -/
section cSmall
variable {oo : xC} {g : Nat → Int} {N d c r i : Nat} {C D F : xC}
/-- the class's rows: tokens, names, the land that is told -/
def pSt (oo : xC) (g : Nat → Int) (N c r : Nat) (C : xC) : Prop := (C 24 0 = 26 ∧ C 24 1 = 25 ∧ C 24 2 = (r : Int) ∧ (r = 2 ∨ r = 13)) ∧ (∀ k, k < 10 → C r (4 + k) = ((r + 1 + k : Nat) : Int)) ∧ cTb g N (c + 1) C ∧ (C 26 3 = 27 ∧ C 26 4 = 28 ∧ C 26 5 = 29) ∧ tkK g N c = 24 ∧ (∀ i, i < c → tkK g N i ≠ 24) ∧ c ≤ 1700 ∧ (oo 24 2 = (r : Int) ∧ ∀ i j, 15 - r ≤ i → i ≤ 25 - r → C i j = oo i j)
def pAt (g : Nat → Int) (N c i : Nat) (C : xC) : Prop := C 24 3 = (i : Int) ∧ C 24 4 = tkK g N i ∧ (tkK g N i ≤ 23 → C 24 5 = tkV g N i) ∧ i ≤ c ∧ C 24 8 = 0
def cS2 (i j : Nat) : Bool := decide (i = 24 ∧ (j = 3 ∨ j = 4 ∨ j = 5))
theorem pSt_same {S : Nat → Nat → Bool} (h : pSt oo g N c r C) (hs : xSm S C F) (h1 : S 24 0 = false ∧ S 24 1 = false ∧ S 24 2 = false) (h2 : ∀ k, k < 10 → S r (4 + k) = false) (h3 : S 26 2 = false ∧ S 26 3 = false ∧ S 26 4 = false ∧ S 26 5 = false) (h4 : ∀ j, S 27 j = false ∧ S 28 j = false ∧ S 29 j = false) (h5 : ∀ i j, 15 - r ≤ i → i ≤ 25 - r → S i j = false) : pSt oo g N c r F := by
  obtain ⟨⟨a1, a2, a3, a4⟩, b, ⟨c1, c2⟩, ⟨e1, e2, e3⟩, f1, f2, f3, f4⟩ := h
  exact ⟨⟨(hs _ _ h1.1).trans a1, (hs _ _ h1.2.1).trans a2, (hs _ _ h1.2.2).trans a3, a4⟩, fun k hk => (hs _ _ (h2 k hk)).trans (b k hk), ⟨(hs _ _ h3.1).trans c1, fun i hi => by rw [hs _ _ (h4 i).1, hs _ _ (h4 i).2.1, hs _ _ (h4 i).2.2]; exact c2 i hi⟩, ⟨(hs _ _ h3.2.1).trans e1, (hs _ _ h3.2.2.1).trans e2, (hs _ _ h3.2.2.2).trans e3⟩, f1, f2, f3, f4.1, fun i j q1 q2 => (hs i j (h5 i j q1 q2)).trans (f4.2 i j q1 q2)⟩
theorem pSt_2 (h : pSt oo g N c r C) (hs : xSm cS2 C F) : pSt oo g N c r F := pSt_same h hs ⟨rfl, rfl, rfl⟩ (fun k _ => by have := h.1.2.2.2; simp [cS2]; omega) ⟨rfl, rfl, rfl, rfl⟩ (fun j => ⟨rfl, rfl, rfl⟩) (fun i j q1 q2 => by have := h.1.2.2.2; simp only [cS2, decide_eq_false_iff_not]; omega)
theorem cp_step (hd : 1 ≤ d) (h : pSt oo g N c r C) (ha : pAt g N c i C) (h24 : tkK g N i ≠ 24) : ∃ F, xM d 49 [pR] C = some (0, F) ∧ pAt g N c (i + 1) F ∧ xSm cS2 C F := by
  obtain ⟨d, rfl⟩ := Nat.exists_eq_add_of_le' hd
  obtain ⟨⟨a1, a2, a3, a4⟩, b, ⟨c1, c2⟩, ⟨e1, e2, e3⟩, f1, f2, f3, f4⟩ := h
  obtain ⟨p1, p2, p3, p4, p5⟩ := ha
  have hic : i < c := by
    rcases Nat.lt_or_ge i c with q | q
    · exact q
    · have : i = c := by omega
      rw [this] at h24
      exact absurd f1 h24
  obtain ⟨q1, q2, q3⟩ := c2 (i + 1) (by omega)
  have e0 : (C 24 0).toNat = 26 := by rw [a1]; rfl
  have eix : xix ((i + 1 : Nat) : Int) 1701 = true := xixn (by omega)
  refine ⟨xst (xst (xst C 24 3 ((i + 1 : Nat) : Int)) 24 4 (C 27 (i + 1))) 24 5 (C 29 (i + 1)), ?_, ⟨?_, ?_, fun q => ?_, by omega, ?_⟩, xSm_st (xSm_st (xSm_st xSm_refl rfl) rfl) rfl⟩
  · have g3 : (xst C 24 3 ((i + 1 : Nat) : Int)) 26 3 = 27 := by rw [xst_nn (by omega), e1]
    have g4 : (xst C 24 3 ((i + 1 : Nat) : Int)) 27 (i + 1) = C 27 (i + 1) := by rw [xst_nn (by omega)]
    have g5 : (xst (xst C 24 3 ((i + 1 : Nat) : Int)) 24 4 (C 27 (i + 1))) 24 0 = 26 := by rw [xst_nn (by omega), xst_nn (by omega), a1]
    have g6 : (xst (xst C 24 3 ((i + 1 : Nat) : Int)) 24 4 (C 27 (i + 1))) 26 5 = 29 := by rw [xst_nn (by omega), xst_nn (by omega), e3]
    have g7 : (xst (xst C 24 3 ((i + 1 : Nat) : Int)) 24 4 (C 27 (i + 1))) 29 (i + 1) = C 29 (i + 1) := by rw [xst_nn (by omega), xst_nn (by omega)]
    have g8 : (xst C 24 3 ((i + 1 : Nat) : Int)) 24 0 = 26 := by rw [xst_nn (by omega), a1]
    have t26 : (26 : Int).toNat = 26 := rfl
    have t27 : (27 : Int).toNat = 27 := rfl
    have t29 : (29 : Int).toNat = 29 := rfl
    have hc1 : ¬ (((c + 1 : Nat) : Int) ≤ ((i + 1 : Nat) : Int)) := by omega
    rw [xm_X5_step, e0, p1, w32_s (by omega)]
    simp only [c1, Int.toNat_natCast, eix, cond_true, Bool.cond_decide, g3, g4, g5, g6, g7, g8, t26, t27, t29, if_neg hc1]
  · rw [xst_nn (by omega), xst_nn (by omega), xst_at]
  · rw [xst_nn (by omega), xst_at, q1]
  · rw [xst_at, q3 q]
  · rw [xst_nn (by omega), xst_nn (by omega), xst_nn (by omega), p5]
/-- a fault of the class -/
def cFl (oo : xC) (x : Int × Int) (F : xC) : Prop := F 24 8 = x.1 ∧ F 24 9 = x.2 ∧ 0 < x.1 ∧ ((F 24 2 = 2 ∧ F 2 12 = 11 ∧ oo 24 2 = 2 ∧ ∀ i j, 13 ≤ i → i ≤ 23 → F i j = oo i j) ∨ (F 24 2 = 13 ∧ F 13 12 = 22 ∧ oo 24 2 = 13 ∧ ∀ i j, 2 ≤ i → i ≤ 12 → F i j = oo i j))
theorem cp_refuse (hd : 1 ≤ d) (h : pSt oo g N c r C) (ha : pAt g N c i C) {a : Int} (hpos : 0 < a) : ∃ F, xM d 50 [pR, .inl a] C = some (0, F) ∧ cFl oo (if tkK g N i = 25 then 1 else a, tkP g N i) F := by
  obtain ⟨d, rfl⟩ := Nat.exists_eq_add_of_le' hd
  obtain ⟨⟨a1, a2, a3, a4⟩, b, ⟨c1, c2⟩, ⟨e1, e2, e3⟩, f1, f2, f3, f4⟩ := h
  obtain ⟨p1, p2, p3, p4, p5⟩ := ha
  obtain ⟨q1, q2, q3⟩ := c2 i (by omega)
  have e0 : (C 24 0).toNat = 26 := by rw [a1]; rfl
  have eix : xix (i : Int) 1701 = true := xixn (by omega)
  have key : ∀ y : Int, ∃ F, (cond (decide (C 24 3 < 0))
    (some ((0 : Int), (xst (xst C 24 8 y) 24 9 (-1))))
    (cond (decide ((xst C 24 8 y) (C 24 0).toNat 2 ≤ C 24 3))
      (some (0, (xst (xst C 24 8 y) 24 9 (-1))))
      (cond (xix (C 24 3) 1701)
        (some (0, (xst (xst C 24 8 y) 24 9 ((xst C 24 8 y) ((xst C 24 8 y) (C 24 0).toNat 4).toNat ((C 24 3).toNat)))))
        none))) = some (0, F) ∧ F 24 8 = y ∧ F 24 9 = tkP g N i ∧ ((F 24 2 = 2 ∧ F 2 12 = 11 ∧ oo 24 2 = 2 ∧ ∀ i j, 13 ≤ i → i ≤ 23 → F i j = oo i j) ∨ (F 24 2 = 13 ∧ F 13 12 = 22 ∧ oo 24 2 = 13 ∧ ∀ i j, 2 ≤ i → i ≤ 12 → F i j = oo i j)) := by
    intro y
    have g2 : (xst C 24 8 y) 26 2 = ((c + 1 : Nat) : Int) := by rw [xst_nn (by omega), c1]
    have g4 : (xst C 24 8 y) 26 4 = 28 := by rw [xst_nn (by omega), e2]
    have g5 : (xst C 24 8 y) 28 i = tkP g N i := by rw [xst_nn (by omega), q2]
    have t28 : (28 : Int).toNat = 28 := rfl
    have hrow : (xst (xst C 24 8 y) 24 9 (tkP g N i)) 24 2 = (r : Int) ∧ (xst (xst C 24 8 y) 24 9 (tkP g N i)) r 12 = ((r + 1 + 8 : Nat) : Int) ∧ oo 24 2 = (r : Int) ∧ (∀ i' j', 15 - r ≤ i' → i' ≤ 25 - r → (xst (xst C 24 8 y) 24 9 (tkP g N i)) i' j' = oo i' j') := ⟨by rw [xst_nn (by omega), xst_nn (by omega), a3], by rw [xst_nn (by omega), xst_nn (by omega)]; exact b 8 (by decide), f4.1, fun i j q1 q2 => by rw [xst_nn (by omega), xst_nn (by omega)]; exact f4.2 i j q1 q2⟩
    refine ⟨xst (xst C 24 8 y) 24 9 (tkP g N i), ?_, by rw [xst_nn (by omega), xst_at], by rw [xst_at], by
      rcases a4 with h2 | h2
      · subst h2; exact Or.inl hrow
      · subst h2; exact Or.inr hrow⟩
    have hn0 : ¬ ((i : Int) < 0) := by omega
    have hn1 : ¬ (((c + 1 : Nat) : Int) ≤ (i : Int)) := by omega
    simp only [e0, p1, g2, g4, g5, t28, Int.toNat_natCast, eix, cond_true, Bool.cond_decide, if_neg hn0, if_neg hn1]
  rw [xm_X5_refuse, Bool.cond_decide, p2]
  by_cases h25 : tkK g N i = 25
  · obtain ⟨F, k1, k2, k3, k4⟩ := key 1
    rw [if_neg (fun q => q h25), if_pos h25]
    exact ⟨F, k1, k2, k3, (show (0 : Int) < 1 by decide), k4⟩
  · obtain ⟨F, k1, k2, k3, k4⟩ := key a
    rw [if_pos h25, if_neg h25]
    exact ⟨F, k1, k2, k3, hpos, k4⟩
/-- what a method of the class gives -/
def cR {A : Type} (oo : xC) (P : A → xC → Prop) (o : Option (Int × xC)) (r : tX A) : Prop := match r with
  | .error x => ∃ F, o = some (0, F) ∧ cFl oo x F
  | .ok a => ∃ F, o = some (1, F) ∧ P a F
theorem cR_err {A : Type} {P : A → xC → Prop} (hd : 1 ≤ d) (h : pSt oo g N c r C) (ha : pAt g N c i C) {a : Int} (hpos : 0 < a) : cR oo P ((xM d 50 [pR, .inl a] C).bind fun q => xfr 1 q.2 (cond (decide (q.1 = 0) || decide (q.1 = 1)) (some (1, q.1)) none)) (tErr (tkK g N) (tkP g N) i a : tX A) := by
  obtain ⟨F, k1, k2⟩ := cp_refuse hd h ha hpos
  rw [k1]
  exact ⟨F, rfl, k2⟩
theorem cp_accept (hd : 2 ≤ d) (h : pSt oo g N c r C) {z : tZ} (ha : pAt g N c z.1 C) {a : Int} (h24 : a ≠ 24) :
    cR oo (fun y F => pAt g N c y.1 F ∧ xSm cS2 C F) (xM d 48 [pR, .inl a] C) (zAcc (tkK g N) (tkP g N) a z) := by
  obtain ⟨d, rfl⟩ := Nat.exists_eq_add_of_le' (show 1 ≤ d by omega)
  rw [xm_X5_accept, Bool.cond_decide, ha.2.1]
  unfold zAcc
  by_cases hk : tkK g N z.1 = a
  · obtain ⟨F, k1, k2, k3⟩ := cp_step (d := d) (by omega) h ha (by rw [hk]; exact h24)
    rw [if_pos hk, if_pos hk, k1]
    exact ⟨F, rfl, k2, k3⟩
  · rw [if_neg hk, if_neg hk]
    exact cR_err (by omega) h ha (by decide)
theorem xcmp_lt {a b : Int} : ((if a < b then (1 : Int) else (if b = a then 0 else -1)) < 0) ↔ b < a := by
  by_cases h1 : a < b
  · rw [if_pos h1]; omega
  · rw [if_neg h1]
    by_cases h2 : b = a
    · rw [if_pos h2]; omega
    · rw [if_neg h2]; omega
theorem xcmp_le {a b : Int} : ((if a < b then (1 : Int) else (if b = a then 0 else -1)) ≤ 0) ↔ b ≤ a := by
  by_cases h1 : a < b
  · rw [if_pos h1]; omega
  · rw [if_neg h1]
    by_cases h2 : b = a
    · rw [if_pos h2]; omega
    · rw [if_neg h2]; omega
theorem xcmp_ne {a b : Int} : ((if a < b then (1 : Int) else (if b = a then 0 else -1)) ≠ 0) ↔ b ≠ a := by
  by_cases h1 : a < b
  · rw [if_pos h1]; omega
  · rw [if_neg h1]
    by_cases h2 : b = a
    · rw [if_pos h2]; omega
    · rw [if_neg h2]; omega
def cS3 (i j : Nat) : Bool := decide (i = 24 ∧ (j = 3 ∨ j = 4 ∨ j = 5 ∨ j = 6))
theorem cS2_3 {i j : Nat} (h : cS3 i j = false) : cS2 i j = false := by
  simp only [cS3, cS2, decide_eq_false_iff_not] at h ⊢; omega
theorem cp_num (hd : 2 ≤ d) (h : pSt oo g N c r C) {z : tZ} (ha : pAt g N c z.1 C) {lo hi : Int} :
    cR oo (fun y F => pAt g N c y.1 F ∧ xSm cS3 C F ∧ F 24 6 = y.2.2.1) (xM d 47 [pR, .inl lo, .inl hi] C) (zNum (tkK g N) (tkP g N) (tkV g N) lo hi z) := by
  obtain ⟨d, rfl⟩ := Nat.exists_eq_add_of_le' (show 1 ≤ d by omega)
  rw [xm_X5_readNumber]
  simp only [Bool.cond_decide, xcmp_lt, xcmp_le]
  rw [ha.2.1]
  unfold zNum
  by_cases hk : tkK g N z.1 = 23
  · have hv := ha.2.2.1 (by omega)
    obtain ⟨-, -, o3⟩ := rdK_ok (g := g) (N := N) (rdP g N z.1)
    have o3 : 0 ≤ tkV g N z.1 ∧ tkV g N z.1 ≤ 9999 := o3 hk
    rw [if_pos hk, if_pos hk, hv]
    by_cases hlo : tkV g N z.1 < lo
    · rw [if_pos hlo, if_neg (show ¬ (lo ≤ tkV g N z.1 ∧ tkV g N z.1 ≤ hi) by omega)]
      exact cR_err (by omega) h ha (by decide)
    · rw [if_neg hlo]
      by_cases hhi : tkV g N z.1 ≤ hi
      · rw [if_pos hhi, if_pos (show lo ≤ tkV g N z.1 ∧ tkV g N z.1 ≤ hi by omega), w32_id (by omega) (by omega)]
        have hS : xSm cS3 C (xst C 24 6 (tkV g N z.1)) := xSm_st xSm_refl rfl
        have h2 : pSt oo g N c r (xst C 24 6 (tkV g N z.1)) := pSt_same h hS ⟨rfl, rfl, rfl⟩ (fun k _ => by have := h.1.2.2.2; simp [cS3]; omega) ⟨rfl, rfl, rfl, rfl⟩ (fun j => ⟨rfl, rfl, rfl⟩) (fun i j q1 q2 => by have := h.1.2.2.2; simp only [cS3, decide_eq_false_iff_not]; omega)
        have ha2 : pAt g N c z.1 (xst C 24 6 (tkV g N z.1)) := ⟨by rw [xst_nn (by omega)]; exact ha.1, by rw [xst_nn (by omega)]; exact ha.2.1, fun q => by rw [xst_nn (by omega)]; exact ha.2.2.1 q, ha.2.2.2.1, by rw [xst_nn (by omega)]; exact ha.2.2.2.2⟩
        obtain ⟨F, k1, k2, k3⟩ := cp_step (d := d) (by omega) h2 ha2 (by omega)
        rw [k1]
        exact ⟨F, rfl, k2, xSm_trans hS (xSm_mono k3 fun _ _ => cS2_3), by rw [k3 _ _ rfl, xst_at]⟩
      · rw [if_neg hhi, if_neg (show ¬ (lo ≤ tkV g N z.1 ∧ tkV g N z.1 ≤ hi) by omega)]
        exact cR_err (by omega) h ha (by decide)
  · rw [if_neg hk, if_neg hk]
    exact cR_err (by omega) h ha (by decide)
/-- the names of a sort -/
def cNm (r s : Nat) (nm : List Int) (C : xC) : Prop := C (r + 1) s = (nm.length : Int) ∧ ∀ (j : Nat) (x : Int), nm[j]? = some x → C 25 (6 * s + j) = x
theorem w32_6 {s j : Nat} (h : 6 * s + j ≤ 2147483647) : w32 (w32 ((s : Int) * 6) + (j : Int)) = ((6 * s + j : Nat) : Int) := by rw [w32_id (z := (s : Int) * 6) (by omega) (by omega), w32_id (by omega) (by omega)]; omega
theorem cRw_same {r : Nat} {cs : List Int} {C F : xC} (h : cRw r cs C) (hs : ∀ j, F (r + 10) j = C (r + 10) j) : cRw r cs F := fun j x hx => (hs j).trans (h j x hx)
theorem cRw_add {r : Nat} {cs : List Int} {x : Int} {C F : xC} (h : cRw r cs C) (h1 : F (r + 10) cs.length = x) (h2 : ∀ j, j ≠ cs.length → F (r + 10) j = C (r + 10) j) : cRw r (cs ++ [x]) F := by
  intro j y hy
  by_cases hj : j < cs.length
  · rw [List.getElem?_append_left hj] at hy
    rw [h2 j (by omega)]
    exact h j y hy
  · rw [List.getElem?_append_right (by omega)] at hy
    have hj2 : j - cs.length = 0 := by
      rcases Nat.lt_or_ge (j - cs.length) 1 with q | q
      · omega
      · rw [List.getElem?_eq_none (by simpa using q)] at hy; cases hy
    rw [hj2] at hy
    rw [show j = cs.length by omega, h1]
    exact Option.some.inj hy
theorem cp_find (hd : 1 ≤ d) (h : pSt oo g N c r C) {s : Nat} {nm : List Int} (hs : s < 5) (hn : cNm r s nm C) (hl : nm.length ≤ 6) :
    ∃ x : Int, xM d 46 [pR, .inl (s : Int)] C = some (x, C) ∧ ((0 ≤ x ∧ x < nm.length ∧ C 24 5 ∈ nm ∧ x ≠ -1) ∨ (x = -1 ∧ C 24 5 ∉ nm)) := by
  obtain ⟨d, rfl⟩ := Nat.exists_eq_add_of_le' hd
  obtain ⟨⟨a1, a2, a3, a4⟩, b, -⟩ := h
  rw [xm_X5_find]
  have e2 : (C 24 2).toNat = r := by rw [a3]; rfl
  have e4 : (C r 4).toNat = r + 1 := by rw [b 0 (by decide)]; rfl
  have e1 : (C 24 1).toNat = 25 := by rw [a2]; rfl
  have es : xix (s : Int) 5 = true := xixn hs
  have key : ∀ (m k : Nat), k + m = nm.length → (∀ j, j < k → nm[j]? ≠ some (C 24 5)) →
      ∃ x : Int, xw_X5_find d (2, [some pR, some (.inl (s : Int)), some (.inl (k : Int))], [], C) = some (x, C) ∧ ((0 ≤ x ∧ x < nm.length ∧ C 24 5 ∈ nm ∧ x ≠ -1) ∨ (x = -1 ∧ C 24 5 ∉ nm)) := by
    intro m
    induction m with
    | zero =>
      intro k hk hall
      refine ⟨-1, ?_, Or.inr ⟨rfl, fun hm => ?_⟩⟩
      · rw [xl_X5_find_2, es, e2, e4, Int.toNat_natCast, hn.1]
        simp only [cond_true, Bool.cond_decide]
        rw [if_pos (by omega)]
      · obtain ⟨j, hj, e⟩ := List.mem_iff_getElem.mp hm
        exact hall j (by omega) (by rw [List.getElem?_eq_getElem hj, e])
    | succ m ih =>
      intro k hk hall
      have hkl : k < nm.length := by omega
      have hg : nm[k]? = some nm[k] := List.getElem?_eq_getElem hkl
      have hnk := hn.2 k _ hg
      have hkk : ¬ ((nm.length : Int) ≤ (k : Int)) := by omega
      have e30 : xix ((6 * s + k : Nat) : Int) 30 = true := xixn (by omega)
      rw [xl_X5_find_2, es, e2, e4, Int.toNat_natCast, hn.1]
      simp only [cond_true, Bool.cond_decide, xcmp_ne]
      rw [if_neg hkk, w32_6 (by omega), e30, e1, Int.toNat_natCast, hnk]
      simp only [cond_true]
      by_cases hq : nm[k] = C 24 5
      · rw [if_neg (fun q => q hq)]
        exact ⟨(k : Int), rfl, Or.inl ⟨by omega, by omega, by rw [← hq]; exact List.getElem_mem hkl, by omega⟩⟩
      · rw [if_pos hq, w32_s (by omega)]
        refine ih (k + 1) (by omega) fun j hj => ?_
        by_cases hjk : j = k
        · rw [hjk, hg]
          exact fun e => hq (Option.some.inj e)
        · exact hall j (by omega)
  exact key nm.length 0 (by omega) (fun j hj => by omega)
theorem cp_findi (hd : 1 ≤ d) (h : pSt oo g N c r C) {s : Nat} {nm : List Int} (hs : s < 5) (hn : cNm r s nm C) (hl : nm.length ≤ 6) :
    ∃ x : Int, xM d 46 [pR, .inl (s : Int)] C = some (x, C) ∧ ((0 ≤ x ∧ nm[x.toNat]? = some (C 24 5) ∧ C 24 5 ∈ nm ∧ x ≠ -1) ∨ (x = -1 ∧ C 24 5 ∉ nm)) := by
  obtain ⟨d, rfl⟩ := Nat.exists_eq_add_of_le' hd
  obtain ⟨⟨a1, a2, a3, a4⟩, b, -⟩ := h
  rw [xm_X5_find]
  have e2 : (C 24 2).toNat = r := by rw [a3]; rfl
  have e4 : (C r 4).toNat = r + 1 := by rw [b 0 (by decide)]; rfl
  have e1 : (C 24 1).toNat = 25 := by rw [a2]; rfl
  have es : xix (s : Int) 5 = true := xixn hs
  have key : ∀ (m k : Nat), k + m = nm.length → (∀ j, j < k → nm[j]? ≠ some (C 24 5)) →
      ∃ x : Int, xw_X5_find d (2, [some pR, some (.inl (s : Int)), some (.inl (k : Int))], [], C) = some (x, C) ∧ ((0 ≤ x ∧ nm[x.toNat]? = some (C 24 5) ∧ C 24 5 ∈ nm ∧ x ≠ -1) ∨ (x = -1 ∧ C 24 5 ∉ nm)) := by
    intro m
    induction m with
    | zero =>
      intro k hk hall
      refine ⟨-1, ?_, Or.inr ⟨rfl, fun hm => ?_⟩⟩
      · rw [xl_X5_find_2, es, e2, e4, Int.toNat_natCast, hn.1]
        simp only [cond_true, Bool.cond_decide]
        rw [if_pos (by omega)]
      · obtain ⟨j, hj, e⟩ := List.mem_iff_getElem.mp hm
        exact hall j (by omega) (by rw [List.getElem?_eq_getElem hj, e])
    | succ m ih =>
      intro k hk hall
      have hkl : k < nm.length := by omega
      have hg : nm[k]? = some nm[k] := List.getElem?_eq_getElem hkl
      have hnk := hn.2 k _ hg
      have hkk : ¬ ((nm.length : Int) ≤ (k : Int)) := by omega
      have e30 : xix ((6 * s + k : Nat) : Int) 30 = true := xixn (by omega)
      rw [xl_X5_find_2, es, e2, e4, Int.toNat_natCast, hn.1]
      simp only [cond_true, Bool.cond_decide, xcmp_ne]
      rw [if_neg hkk, w32_6 (by omega), e30, e1, Int.toNat_natCast, hnk]
      simp only [cond_true]
      by_cases hq : nm[k] = C 24 5
      · rw [if_neg (fun q => q hq)]
        exact ⟨(k : Int), rfl, Or.inl ⟨by omega, by rw [Int.toNat_natCast, hg, hq], by rw [← hq]; exact List.getElem_mem hkl, by omega⟩⟩
      · rw [if_pos hq, w32_s (by omega)]
        refine ih (k + 1) (by omega) fun j hj => ?_
        by_cases hjk : j = k
        · rw [hjk, hg]
          exact fun e => hq (Option.some.inj e)
        · exact hall j (by omega)
  exact key nm.length 0 (by omega) (fun j hj => by omega)
theorem cp_code (hd : 1 ≤ d) (hr : r = 2 ∨ r = 13) (hp : C r 13 = ((r + 10 : Nat) : Int)) {cl : Nat} (hc : C r 3 = (cl : Int)) (hl : cl < 1024) {a b : Int} :
    ∃ F, xM d 21 [.inr (.inr (.inl (r, 2))), .inl a, .inl b] C = some (0, F) ∧ F r 3 = ((cl + 1 : Nat) : Int) ∧ (∀ i j, i ≠ r + 10 → ¬ (i = r ∧ j = 3) → F i j = C i j) ∧ F (r + 10) cl = ccd a b ∧ (∀ j, j ≠ cl → F (r + 10) j = C (r + 10) j) := by
  obtain ⟨d, rfl⟩ := Nat.exists_eq_add_of_le' hd
  have e13 : (C r 13).toNat = r + 10 := by rw [hp]; rfl
  have eix : xix (cl : Int) 1024 = true := xixn hl
  rw [xm_X3_addCode, hc, e13]
  simp only [Int.toNat_natCast, eix, xna, Bool.and_self, cond_true, Bool.cond_decide]
  rw [if_neg (by omega)]
  refine ⟨_, rfl, ?_, fun i j h1 h2 => ?_, ?_, fun j hj => ?_⟩
  · rw [xst_at, xst_nn (by omega), hc, w32_s (by omega)]
  · rw [xst_nn h2, xst_nn (fun q => h1 q.1)]
  · rw [xst_nn (by omega), xst_at]; rfl
  · rw [xst_nn (by omega), xst_nn (by omega)]
/-- which sign joins a level -/
theorem cp_joint (hd : 1 ≤ d) (ha : C 24 4 = tkK g N i) {lv : Nat} (hlv : lv ≤ 4) :
    ∃ x : Int, xM d 43 [pR, .inl (lv : Int)] C = some (x, C) ∧ (x ≠ -1 ↔ tJ (tkK g N i) = tL lv) ∧ (tJ (tkK g N i) = tL lv → x = ceS (tSg (tkK g N i))) := by
  obtain ⟨d, rfl⟩ := Nat.exists_eq_add_of_le' hd
  rw [xm_X5_joint, ha]
  simp only [Bool.cond_decide]
  generalize tkK g N i = k
  have hcase : lv = 0 ∨ lv = 1 ∨ lv = 2 ∨ lv = 3 ∨ lv = 4 := by omega
  by_cases hs : k = 17 ∨ k = 18 ∨ k = 37 ∨ k = 42 ∨ k = 43 ∨ k = 45 ∨ k = 47 ∨ k = 60 ∨ k = 61 ∨ k = 62
  · rcases hs with hs | hs | hs | hs | hs | hs | hs | hs | hs | hs <;> subst hs <;> rcases hcase with rfl | rfl | rfl | rfl | rfl <;> exact ⟨_, rfl, by decide⟩
  · simp only [not_or] at hs
    refine ⟨-1, by simp [hs], ?_, fun hh => ?_⟩
    rotate_left
    · have h0 : tJ k = 0 := by
        unfold tJ
        rw [if_neg (by omega), if_neg (by omega), if_neg (by omega), if_neg (by omega), if_neg (by omega)]
      rw [h0] at hh
      exfalso
      rcases hcase with rfl | rfl | rfl | rfl | rfl <;> exact absurd hh (by decide)
    have h0 : tJ k = 0 := by
      unfold tJ
      rw [if_neg (by omega), if_neg (by omega), if_neg (by omega), if_neg (by omega), if_neg (by omega)]
    rw [h0]
    rcases hcase with rfl | rfl | rfl | rfl | rfl <;> decide
end cSmall
