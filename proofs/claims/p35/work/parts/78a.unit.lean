/-! The reference's formula: its state, its ends, its units. -/
section rForm
variable {g : Nat → Int} {N d e i : Nat} {D E : xC} {th : List Int} {w : Int} {s : tF} {st : List Int}
noncomputable abbrev wF (d : Nat) (w l2 : Int) (o : Option xV) (D : xC) : Option (Int × xC) := xw_X12_formula d (47, [some mR, some (.inl w), some (.inl l2), o], [], D)
noncomputable abbrev wU (e : Nat) (D : xC) : Option (Int × xC) := xw_X12_unit e (2, [some mR, some (.inl 1), none], [], D)
noncomputable def rBB (e : Nat) (w : Int) (D : xC) : Option (Int × xC) := (wU e D).bind fun q => wF (e + 1) w 1 none q.2
theorem rf_193 {l2 : Int} {o o' : Option xV} : xw_X12_formula d (193, [some mR, some (.inl w), some (.inl l2), o], [], D) = xw_X12_formula d (193, [some mR, some (.inl w), some (.inl l2), o'], [], D) := by
  have h : ∀ C, xw_X12_formula d (205, [some mR, some (.inl w), some (.inl l2), o], [], C) = xw_X12_formula d (205, [some mR, some (.inl w), some (.inl l2), o'], [], C) := fun C => (xl_X12_formula_205 d w l2 o C).trans (xl_X12_formula_205 d w l2 o' C).symm
  refine (xl_X12_formula_193 d w l2 o D).trans (Eq.trans ?_ (xl_X12_formula_193 d w l2 o' D).symm)
  simp only [h]
theorem rf_174 {l2 : Int} {o o' : Option xV} : xw_X12_formula d (174, [some mR, some (.inl w), some (.inl l2), o], [], D) = xw_X12_formula d (174, [some mR, some (.inl w), some (.inl l2), o'], [], D) := by
  have h : ∀ C, xw_X12_formula d (193, [some mR, some (.inl w), some (.inl l2), o], [], C) = xw_X12_formula d (193, [some mR, some (.inl w), some (.inl l2), o'], [], C) := fun C => rf_193
  refine (xl_X12_formula_174 d w l2 o D).trans (Eq.trans ?_ (xl_X12_formula_174 d w l2 o' D).symm)
  simp only [h]
theorem wF_o {l2 : Int} {o o' : Option xV} : wF d w l2 o D = wF d w l2 o' D := by
  have h : ∀ C, xw_X12_formula d (174, [some mR, some (.inl w), some (.inl l2), o], [], C) = xw_X12_formula d (174, [some mR, some (.inl w), some (.inl l2), o'], [], C) := fun C => rf_174
  refine (xl_X12_formula_47 d w l2 o D).trans (Eq.trans ?_ (xl_X12_formula_47 d w l2 o' D).symm)
  simp only [h]
/-- what a formula may change: without a fault, with one -/
def rS1 (i j : Nat) : Bool := decide (i = 77 ∨ i = 78 ∨ i = 85 ∨ (i = 74 ∧ (j = 4 ∨ j = 6 ∨ j = 7 ∨ j = 8 ∨ j = 9 ∨ j = 22 ∨ j = 23 ∨ j = 24 ∨ j = 26 ∨ j = 27)))
def rSf (i j : Nat) : Bool := decide (rS1 i j = true ∨ (i = 74 ∧ (j = 2 ∨ j = 3)) ∨ i = 80)
def rS1b (i j : Nat) : Bool := decide (rS1 i j = true ∨ i = 80)
theorem rS1_b {i j : Nat} (h : rS1b i j = false) : rS1 i j = false := by
  simp only [rS1b, decide_eq_false_iff_not] at h
  cases hh : rS1 i j with
  | true => exact absurd (Or.inl hh) h
  | false => rfl
theorem rS0_1 {i j : Nat} (h : rS1 i j = false) : rS0 i j = false := by
  simp only [rS1, rS0, decide_eq_false_iff_not] at h ⊢; omega
theorem rS2_1 {i j : Nat} (h : rS1 i j = false) : rS2 i j = false := by
  simp only [rS1, rS2, decide_eq_false_iff_not] at h ⊢; omega
theorem rS1_f {i j : Nat} (h : rSf i j = false) : rS1 i j = false := by
  simp only [rSf, decide_eq_false_iff_not] at h
  cases hh : rS1 i j with
  | true => exact absurd (Or.inl hh) h
  | false => rfl
theorem xSm_01 (h : xSm rS0 D E) : xSm rS1 D E := xSm_mono h fun _ _ => rS0_1
theorem xSm_21 (h : xSm rS2 D E) : xSm rS1 D E := xSm_mono h fun _ _ => rS2_1
theorem xSm_1f (h : xSm rS1 D E) : xSm rSf D E := xSm_mono h fun _ _ => rS1_f
/-- what stays in a formula -/
def rFs (g : Nat → Int) (N : Nat) (th : List Int) (w : Int) (D : xC) : Prop := rTx g N D ∧ rPt D ∧ (D 74 42 = (th.length : Int) ∧ rNm 0 th D ∧ th.length ≤ 6) ∧ D 74 21 = w ∧ 0 ≤ w ∧ w < 70
theorem rNm_same {b : Nat} {nm : List Int} (h : rNm b nm D) (hs : ∀ j, E 76 j = D 76 j) : rNm b nm E := ⟨fun j x hx => (hs _).trans (h.1 j x hx), h.2⟩
theorem rFs_f (h : rFs g N th w D) (hs : xSm rSf D E) : rFs g N th w E :=
  ⟨rTx_same h.1 hs rfl rfl (fun j => by simp [rSf, rS1]), rPt_same h.2.1 hs rfl, ⟨(hs _ _ rfl).trans h.2.2.1.1, rNm_same h.2.2.1.2.1 (fun j => hs _ _ (by simp [rSf, rS1])), h.2.2.1.2.2⟩, (hs _ _ rfl).trans h.2.2.2.1, h.2.2.2.2⟩
theorem rFs_1 (h : rFs g N th w D) (hs : xSm rS1 D E) : rFs g N th w E := rFs_f h (xSm_1f hs)
/-- the token, the units, the signs -/
def rFd (g : Nat → Int) (N : Nat) (s : tF) (st : List Int) (es : List tE) (D : xC) : Prop := rAtI g N s.1 D ∧ D 74 2 = 0 ∧ D 74 24 = s.2.1 ∧ D 74 26 = s.2.2 ∧ (0 ≤ s.2.1 ∧ s.2.1 ≤ 150 ∧ 0 ≤ s.2.2 ∧ s.2.2 ≤ 30) ∧ D 74 22 = (st.length : Int) ∧ stk st D ∧ D 74 27 = (dpt st : Int) ∧ rRw es D ∧ es.length + st.length ≤ s.1 ∧ s.1 ≤ N
theorem rt_wrong (hd : 1 ≤ d) (hk : rAtI g N i D) (h2 : D 74 2 = 0) {a : Int} : xM d 158 [mR, .inl a] D = some (0, xst (xst D 74 2 (if tkK g N i = 25 then 1 else a)) 74 3 (tkP g N i)) := by
  rw [xn_wrong hd, if_pos (by omega)]
  obtain ⟨k6, k7, -⟩ := hk
  have e7 : D 74 7 = tkP g N i := k7
  have e6 : D 74 6 = 3 ↔ tkK g N i = 25 := by
    rw [k6]
    show rdS (rdK g N (rdP g N i)) = 3 ↔ rdK g N (rdP g N i) = 25
    obtain ⟨o1, -⟩ := rdK_ok (g := g) (N := N) (rdP g N i)
    rw [rdSg_iff] at o1
    unfold rdS
    repeat' split
    all_goals omega
  rw [e7]
  by_cases h : tkK g N i = 25
  · rw [if_pos h, if_pos (e6.mpr h)]
  · rw [if_neg h, if_neg (fun q => h (e6.mp q))]
/-- what the reference sees of a token: a sign, a number, a word -/
theorem rt_sort (hk : rAtI g N i D) : (∀ c, c ∈ rdSg → (D 74 6 = c ↔ tkK g N i = c)) ∧ (D 74 6 = 2 ↔ tkK g N i = 23) ∧ (D 74 6 = 0 ↔ tkK g N i = 24) := by
  obtain ⟨k6, -⟩ := hk
  obtain ⟨o1, -⟩ := rdK_ok (g := g) (N := N) (rdP g N i)
  rw [k6]
  show (∀ c, c ∈ rdSg → (rdS (rdK g N (rdP g N i)) = c ↔ rdK g N (rdP g N i) = c)) ∧ (rdS (rdK g N (rdP g N i)) = 2 ↔ rdK g N (rdP g N i) = 23) ∧ (rdS (rdK g N (rdP g N i)) = 0 ↔ rdK g N (rdP g N i) = 24)
  rw [rdSg_iff] at o1
  generalize rdK g N (rdP g N i) = c at o1
  unfold rdS
  refine ⟨fun q hq => ?_, ?_, ?_⟩
  · rw [rdSg_iff] at hq
    repeat' split
    all_goals omega
  · repeat' split
    all_goals omega
  · repeat' split
    all_goals omega
/-- the end of a formula with a fault -/
theorem rf_fault (hP : rPt D) (h21 : D 74 21 = w) (hw : 0 ≤ w ∧ w < 70) (hf : D 74 2 ≠ 0) {l2 : Int} {o : Option xV} : ∃ F, wF d w l2 o D = some (0, F) ∧ F 74 2 = D 74 2 ∧ F 74 3 = D 74 3 ∧ xSm rSf D F := by
  have eix : xix w 70 = true := xixz.mpr ⟨hw.1, by omega⟩
  have e14 : (D 74 14).toNat = 80 := by rw [hP.2.2.2.2.1]; rfl
  have e : ∀ l2, xw_X12_formula d (174, [some mR, some (.inl w), some (.inl l2), o], [], D) = some (0, xst D 80 w.toNat (w32 ((D 74 23) - (D (D 74 13).toNat (w.toNat))))) := by
    intro l2
    rw [xl_X12_formula_174]
    simp only [Bool.cond_decide]
    rw [if_pos hf, xl_X12_formula_193]
    simp only [Bool.cond_decide]
    rw [if_pos hf, xl_X12_formula_205, h21, eix, e14]
    rfl
  refine ⟨_, ?_, ?_, ?_, xSm_st xSm_refl (i := 80) (j := w.toNat) (z := w32 ((D 74 23) - (D (D 74 13).toNat (w.toNat)))) (by simp [rSf])⟩
  · rw [wF, xl_X12_formula_47]
    simp only [Bool.cond_decide]
    rw [e]
    by_cases h : l2 = 0
    · rw [if_pos h]
    · rw [if_neg h, if_pos hf]
  · rw [xst_nn (by omega)]
  · rw [xst_nn (by omega)]
/-- a unit ahead of which there is a fault -/
theorem rb_fault (hs : rFs g N th w D) (hf : D 74 2 ≠ 0) (hf0 : 0 ≤ D 74 2) : ∃ F, rBB e w D = some (0, F) ∧ F 74 2 = D 74 2 ∧ F 74 3 = D 74 3 ∧ xSm rSf D F := by
  obtain ⟨F, k1, k2⟩ := rf_fault (d := e + 1) (l2 := 1) (o := none) hs.2.1 hs.2.2.2.1 hs.2.2.2.2 hf
  refine ⟨F, ?_, k2⟩
  rw [rBB, wU, xl_X12_unit_2]
  simp only [Bool.cond_decide]
  rw [if_neg (by decide), if_pos hf, xl_X12_unit_101]
  simp only [Bool.cond_decide]
  rw [if_neg (by omega)]
  exact k1
end rForm
