/-! The reference reads a formula as it is told. -/
section rFormula
variable {es : List tE} {g : Nat → Int} {N d e i : Nat} {D E : xC} {th : List Int} {w : Int} {s : tF} {st ops : List Int}
theorem rf_lv (he : 3 ≤ e) (hnd : th.Nodup) : ∀ (n lv dp : Nat) (st : List Int) (es : List tE) (s : tF) (D : xC), lv ≤ 5 → dp ≤ 7 → 6 * (8 - dp) ≤ n + lv → rFs g N th w D → rFd g N s st es D → dpt st = dp → (bnr st : Int) ≤ s.2.2 → fPre lv st → fNot lv st (tkK g N s.1) →
    rRes e w g N lv s st es (pLv (tkK g N) (tkP g N) (tkV g N) th n lv dp s) D (fLv (tkK g N) (tkP g N) (tkV g N) th n lv dp s) := by
  intro n
  induction n with
  | zero => intro lv dp st es s D hlv hdp hn; omega
  | succ n ih =>
    intro lv dp st es s D hlv hdp hn hs hd hst hb hpre hnot
    have hbd := hd.2.2.2.2.1
    simp only [fLv, pLv]
    by_cases h5 : lv = 5
    · rw [if_pos h5, if_pos h5]
      subst h5
      have stop5 : ∀ c, fStop 5 c [] := fun c => Or.inl (by
        have := tJ_val c
        have e5 : tL 5 = 7 := rfl
        omega)
      by_cases h40 : tkK g N s.1 = 40
      · have hbk := rf_brk he hs hd (by omega) (by omega) h40
        rw [hst] at hbk
        have hun : fUnit (tkK g N) (tkP g N) (tkV g N) th (fLv (tkK g N) (tkP g N) (tkV g N) th n) dp s = (if 150 ≤ s.2.1 ∨ 30 ≤ s.2.2 then tErr (tkK g N) (tkP g N) s.1 2 else if 6 < dp then tErr (tkK g N) (tkP g N) s.1 2 else
          (fLv (tkK g N) (tkP g N) (tkV g N) th n 0 (dp + 1) (s.1 + 1, s.2.1 + 1, s.2.2 + 1)).bind fun s' => if tkK g N s'.1 = 41 then .ok (s'.1 + 1, s'.2) else tErr (tkK g N) (tkP g N) s'.1 2) := by
          unfold fUnit
          rw [if_neg (show ¬ (tkK g N s.1 = 23 ∨ tkK g N s.1 = 20 ∨ tkK g N s.1 = 21) by omega), if_neg (show ¬ tkK g N s.1 = 22 by omega), if_pos h40]
        have hpu : pUnit (tkK g N) (tkV g N) th (pLv (tkK g N) (tkP g N) (tkV g N) th n) dp s = pLv (tkK g N) (tkP g N) (tkV g N) th n 0 (dp + 1) (s.1 + 1, s.2.1 + 1, s.2.2 + 1) := by
          unfold pUnit
          rw [if_neg (show ¬ tkK g N s.1 = 23 by omega), if_neg (show ¬ tkK g N s.1 = 20 by omega), if_neg (show ¬ tkK g N s.1 = 21 by omega), if_neg (show ¬ tkK g N s.1 = 22 by omega)]
        rw [hun, hpu]
        by_cases hfull : 150 ≤ s.2.1 ∨ 30 ≤ s.2.2
        · rw [if_pos hfull] at hbk ⊢
          exact hbk
        · rw [if_neg hfull] at hbk ⊢
          by_cases h6 : 6 < dp
          · rw [if_pos h6] at hbk ⊢
            exact hbk
          · rw [if_neg h6] at hbk ⊢
            obtain ⟨F, k1, k2, k3⟩ := hbk
            have hr := ih 0 (dp + 1) (20 :: st) es (s.1 + 1, s.2.1 + 1, s.2.2 + 1) F (by omega) (by omega) (by omega) (rFs_1 hs k3) k2 (by simp only [dpt]; rw [if_pos (Or.inl trivial)]; omega) (by
              simp only [bnr]; rw [if_pos (Or.inl trivial)]
              show ((0 + bnr st : Nat) : Int) ≤ s.2.2 + 1
              omega) (fun x q hq => by cases hq; exact Or.inl rfl) (fun h => by omega)
            cases hfs : fLv (tkK g N) (tkP g N) (tkV g N) th n 0 (dp + 1) (s.1 + 1, s.2.1 + 1, s.2.2 + 1) with
            | error x =>
              rw [hfs] at hr
              obtain ⟨F2, a1, a2, a3, a4, a5⟩ := hr
              exact ⟨F2, k1.trans a1, a2, a3, a4, xSm_trans (xSm_1f k3) a5⟩
            | ok s1 =>
              rw [hfs] at hr
              obtain ⟨ops, es', E, a1, ⟨a2, acw⟩, a3, a4, a5, a6, a7, a8⟩ := hr
              have a8 : s.2.2 + 1 + 1 ≤ s1.2.2 := a8
              have hs2 := rFs_1 hs (xSm_trans k3 a3)
              have h30 := a2.2.2.2.2.1.2.2.2
              have hba := bnr_app ops (20 :: st)
              have hb2 : bnr (20 :: st) = 0 + bnr st := rfl
              show rRes e w g N 5 s st es _ D (if tkK g N s1.1 = 41 then .ok (s1.1 + 1, s1.2) else tErr (tkK g N) (tkP g N) s1.1 2)
              by_cases h41 : tkK g N s1.1 = 41
              · rw [if_pos h41]
                obtain ⟨F2, b1, b2, b3⟩ := rf_shut (e := e) (by omega) hs2 a2 (by omega) a6 h41 (fun x hx => ⟨(a4 x hx).1, by have := (a4 x hx).2; have e0 : tmin 0 = 1 := rfl; omega⟩)
                refine ⟨[], _, F2, k1.trans (a1.trans b1), ⟨b2, by rw [List.map_nil, List.append_nil]; exact acw⟩, xSm_trans k3 (xSm_trans a3 b3), (fun x hx => by cases hx), ?_, ?_, stop5 _, ?_⟩
                · show (bnr st : Int) + 1 ≤ s1.2.2
                  omega
                · show dpt st ≤ 7
                  omega
                · show s.2.2 + 1 ≤ s1.2.2
                  omega
              · rw [if_neg h41]
                have e0 : tL 0 = 1 := rfl
                have hv := tJ_val (tkK g N s1.1)
                obtain ⟨F2, b1, b2, b3, b4⟩ := rf_wide (e := e) (by omega) hs2 a2 (by omega) a6 (by
                  rcases a7 with a7 | ⟨-, a7, a9⟩
                  · exact Or.inl (by omega)
                  · exact Or.inr ⟨a7, hrl_app a9⟩) h41 (by simp)
                obtain ⟨x, x1, x2, x3, x4⟩ := tErr_pos (k := tkK g N) (pl := tkP g N) (i := s1.1) (c := 2) (by decide) (A := tF)
                rw [x1]
                exact ⟨F2, k1.trans (a1.trans b1), b2.trans x2.symm, b3.trans x3.symm, x4, xSm_trans (xSm_1f (xSm_trans k3 a3)) b4⟩
      · have hu := rf_unit1 he hnd hs hd hb (by omega) h40 (fun h => hnot (by omega) h)
        have hun : fUnit (tkK g N) (tkP g N) (tkV g N) th (fLv (tkK g N) (tkP g N) (tkV g N) th n) dp s = (if 150 ≤ s.2.1 ∨ 30 ≤ s.2.2 then tErr (tkK g N) (tkP g N) s.1 2
      else if tkK g N s.1 = 23 ∨ tkK g N s.1 = 20 ∨ tkK g N s.1 = 21 then .ok (s.1 + 1, s.2.1 + 1, s.2.2 + 1)
      else if tkK g N s.1 = 22 then (if tkV g N s.1 ∈ th then .ok (s.1 + 1, s.2.1 + 1, s.2.2 + 1) else tErr (tkK g N) (tkP g N) s.1 5)
      else tErr (tkK g N) (tkP g N) s.1 2) := by
          unfold fUnit
          rw [if_neg h40]
        rw [hun]
        have hpu : (∃ s', (if 150 ≤ s.2.1 ∨ 30 ≤ s.2.2 then tErr (tkK g N) (tkP g N) s.1 2
      else if tkK g N s.1 = 23 ∨ tkK g N s.1 = 20 ∨ tkK g N s.1 = 21 then .ok (s.1 + 1, s.2.1 + 1, s.2.2 + 1)
      else if tkK g N s.1 = 22 then (if tkV g N s.1 ∈ th then .ok (s.1 + 1, s.2.1 + 1, s.2.2 + 1) else tErr (tkK g N) (tkP g N) s.1 5)
      else tErr (tkK g N) (tkP g N) s.1 2 : tX tF) = .ok s') → pUnit (tkK g N) (tkV g N) th (pLv (tkK g N) (tkP g N) (tkV g N) th n) dp s = [if tkK g N s.1 = 23 then (0, tkV g N s.1) else if tkK g N s.1 = 20 then (1, 6) else if tkK g N s.1 = 21 then (1, 7) else (1, (th.idxOf (tkV g N s.1) : Int))] := by
          rintro ⟨s', hs'⟩
          unfold pUnit
          by_cases k23 : tkK g N s.1 = 23
          · rw [if_pos k23, if_pos k23]
          rw [if_neg k23, if_neg k23]
          by_cases k20 : tkK g N s.1 = 20
          · rw [if_pos k20, if_pos k20]
          rw [if_neg k20, if_neg k20]
          by_cases k21 : tkK g N s.1 = 21
          · rw [if_pos k21, if_pos k21]
          rw [if_neg k21, if_neg k21]
          by_cases k22 : tkK g N s.1 = 22
          · rw [if_pos k22]
          exfalso
          rw [if_neg (show ¬ (tkK g N s.1 = 23 ∨ tkK g N s.1 = 20 ∨ tkK g N s.1 = 21) by omega), if_neg k22] at hs'
          split at hs' <;> exact absurd hs' tErr_ne
        generalize (if 150 ≤ s.2.1 ∨ 30 ≤ s.2.2 then tErr (tkK g N) (tkP g N) s.1 2
      else if tkK g N s.1 = 23 ∨ tkK g N s.1 = 20 ∨ tkK g N s.1 = 21 then .ok (s.1 + 1, s.2.1 + 1, s.2.2 + 1)
      else if tkK g N s.1 = 22 then (if tkV g N s.1 ∈ th then .ok (s.1 + 1, s.2.1 + 1, s.2.2 + 1) else tErr (tkK g N) (tkP g N) s.1 5)
      else tErr (tkK g N) (tkP g N) s.1 2) = r at hu hpu
        cases r with
        | error x => exact hu
        | ok s' =>
          obtain ⟨rfl, F, k1, k2, k3⟩ := hu
          refine ⟨[], _, F, k1, ⟨k2, by rw [hpu ⟨_, rfl⟩, List.map_nil, List.append_nil]⟩, k3, (fun x hx => by cases hx), ?_, ?_, stop5 _, Int.le_refl _⟩
          · show (bnr st : Int) + 1 ≤ s.2.2 + 1
            omega
          · show dpt st ≤ 7
            omega
    · rw [if_neg h5, if_neg h5]
      have hcase : lv = 0 ∨ lv = 1 ∨ lv = 2 ∨ lv = 3 ∨ lv = 4 := by omega
      by_cases hnt : lv = 2 ∧ tkK g N s.1 = 19
      · rw [if_pos hnt, if_pos hnt]
        obtain ⟨rfl, k19⟩ := hnt
        have e2 : tL 2 = 4 := rfl
        have hn := rf_not he hs hd (by omega) (by omega) k19 (fun x q hq => hpre x q hq)
        rw [hst] at hn
        by_cases h6 : 6 < dp
        · rw [if_pos h6] at hn ⊢
          exact hn
        · rw [if_neg h6] at hn ⊢
          obtain ⟨F, k1, k2, k3⟩ := hn
          have hr := ih 2 (dp + 1) (21 :: st) es (s.1 + 1, s.2) F (by omega) (by omega) (by omega) (rFs_1 hs k3) k2 (by simp only [dpt]; rw [if_pos (Or.inr trivial)]; omega) (by
              simp only [bnr]; rw [if_pos (Or.inr trivial)]
              show ((0 + bnr st : Nat) : Int) ≤ s.2.2
              omega) (fun x q hq => by cases hq; exact Or.inr (by decide)) (fun h => by omega)
          cases hfs : fLv (tkK g N) (tkP g N) (tkV g N) th n 2 (dp + 1) (s.1 + 1, s.2) with
          | error x =>
            rw [hfs] at hr
            obtain ⟨F2, a1, a2, a3, a4, a5⟩ := hr
            exact ⟨F2, k1.trans a1, a2, a3, a4, xSm_trans (xSm_1f k3) a5⟩
          | ok s1 =>
            rw [hfs] at hr
            obtain ⟨ops, es', E, a1, ⟨a2, acw⟩, a3, a4, a5, a6, a7, a8⟩ := hr
            have happ : ops ++ 21 :: st = (ops ++ [21]) ++ st := by simp
            rw [happ] at a2 a5 a6
            refine ⟨ops ++ [21], es', E, k1.trans a1, ⟨a2, by rw [List.map_append, ← List.append_assoc, acw, List.append_assoc]; rfl⟩, xSm_trans k3 a3, ?_, a5, a6, ?_, a8⟩
            · intro x hx
              rcases List.mem_append.mp hx with hx | hx
              · exact a4 x hx
              · rw [List.mem_singleton] at hx
                rw [hx]
                exact ⟨by decide, by decide⟩
            · rcases a7 with a7 | ⟨b1, b2, b3⟩
              · exact Or.inl a7
              · exact Or.inr ⟨b1, b2, hrl_app b3⟩
      · rw [if_neg hnt, if_neg hnt]
        have hmono : tL lv < tL (lv + 1) := by rcases hcase with rfl | rfl | rfl | rfl | rfl <;> decide
        have hop : ∀ (st : List Int) (es : List tE) (s : tF) (D : xC), rFs g N th w D → rFd g N s st es D → dpt st = dp → (bnr st : Int) ≤ s.2.2 → fPre (lv + 1) st → fNot (lv + 1) st (tkK g N s.1) → rRes e w g N (lv + 1) s st es (pLv (tkK g N) (tkP g N) (tkV g N) th n (lv + 1) dp s) D (fLv (tkK g N) (tkP g N) (tkV g N) th n (lv + 1) dp s) := fun st es s D c1 c2 c3 c4 c5 c6 => ih (lv + 1) dp st es s D (by omega) hdp (by omega) c1 c2 c3 c4 c5 c6
        have hr := hop st es s D hs hd hst hb (fun x q hq => by
          rcases hpre x q hq with h | h
          · exact Or.inl h
          · exact Or.inr (by omega)) (fun hl h19 => by
          by_cases hl2 : lv = 2
          · exact absurd ⟨hl2, h19⟩ hnt
          · exact hnot (by omega) h19)
        cases hfs : fLv (tkK g N) (tkP g N) (tkV g N) th n (lv + 1) dp s with
        | error x =>
          rw [hfs] at hr
          exact hr
        | ok s1 =>
          rw [hfs] at hr
          obtain ⟨ops, es', E, a1, a2, a3, a4, a5, a6, a7, a8⟩ := hr
          refine rf_join he (by omega) hs hst hpre hop (if lv = 2 then 1 else 30) _ s1 ops es' E a1 a2 a3 (fun x hx => ⟨(a4 x hx).1, ?_⟩) a5 a6 a7 a8 ?_
          · have := (a4 x hx).2
            have hm : tmin lv ≤ tmin (lv + 1) := by rcases hcase with rfl | rfl | rfl | rfl | rfl <;> decide
            omega
          · by_cases hl2 : lv = 2
            · subst hl2
              refine Or.inl ⟨rfl, Or.inl ⟨rfl, fun x hx => ?_⟩⟩
              have := (a4 x hx).2
              have e3 : tmin (2 + 1) = 5 := rfl
              omega
            · refine Or.inr ⟨hl2, ?_⟩
              rw [if_neg hl2]
              omega
/-- what a formula may change, its begin too -/
def rS4 (i j : Nat) : Bool := decide (rS1 i j = true ∨ i = 79 ∨ i = 80 ∨ (i = 74 ∧ j = 21))
def rS4f (i j : Nat) : Bool := decide (rS4 i j = true ∨ (i = 74 ∧ (j = 2 ∨ j = 3)))
theorem rS1_4 {i j : Nat} (h : rS4 i j = false) : rS1 i j = false := by
  simp only [rS4, decide_eq_false_iff_not] at h
  cases hh : rS1 i j with
  | true => exact absurd (Or.inl hh) h
  | false => rfl
theorem rS4_f {i j : Nat} (h : rS4f i j = false) : rS4 i j = false := by
  simp only [rS4f, decide_eq_false_iff_not] at h
  cases hh : rS4 i j with
  | true => exact absurd (Or.inl hh) h
  | false => rfl
theorem rSf_4 {i j : Nat} (h : rS4f i j = false) : rSf i j = false := by
  have h1 := rS1_4 (rS4_f h)
  simp only [rS4f, decide_eq_false_iff_not] at h
  simp only [rSf, decide_eq_false_iff_not]
  rintro (q | q | q)
  · rw [h1] at q; cases q
  · exact h (Or.inr q)
  · exact h (Or.inl (by simp only [rS4, decide_eq_true_eq]; exact Or.inr (Or.inr (Or.inl q))))
theorem rS1b_4 {i j : Nat} (h : rS4 i j = false) : rS1b i j = false := by
  have h1 := rS1_4 h
  simp only [rS4, decide_eq_false_iff_not] at h
  simp only [rS1b, decide_eq_false_iff_not]
  rintro (q | q)
  · rw [h1] at q; cases q
  · exact h (Or.inr (Or.inr (Or.inl q)))
/-- a whole formula -/
theorem rf_formula (hd : 4 ≤ d) (hnd : th.Nodup) (hT : rTx g N D) (hP : rPt D) (hn : D 74 42 = (th.length : Int) ∧ rNm 0 th D ∧ th.length ≤ 6) (hw : 0 ≤ w ∧ w < 70) {u : Int} (hk : rAtI g N i D) (h2 : D 74 2 = 0) (h24 : D 74 24 = u) (hu : 0 ≤ u ∧ u ≤ 150) (hns : rRw es D ∧ es.length ≤ i) (hi : i ≤ N) :
    match sFrm (tkK g N) (tkP g N) (tkV g N) th i u with
    | .error x => ∃ F, xM (d + 1) 179 [mR, .inl w] D = some (0, F) ∧ F 74 2 = x.1 ∧ F 74 3 = x.2 ∧ 0 < x.1 ∧ xSm rS4f D F
    | .ok q => ∃ F, xM (d + 1) 179 [mR, .inl w] D = some (0, F) ∧ rAtI g N q.1 F ∧ F 74 2 = 0 ∧ F 74 24 = q.2 ∧ (0 ≤ q.2 ∧ q.2 ≤ 150) ∧ (rRw (es ++ pFrm (tkK g N) (tkP g N) (tkV g N) th i u) F ∧ (es ++ pFrm (tkK g N) (tkP g N) (tkV g N) th i u).length ≤ q.1) ∧ q.1 ≤ N ∧ xSm rS4 D F ∧ F 79 w.toNat = (es.length : Int) ∧ F 80 w.toNat = ((pFrm (tkK g N) (tkP g N) (tkV g N) th i u).length : Int) ∧ (∀ j, j ≠ w.toNat → F 79 j = D 79 j ∧ F 80 j = D 80 j) := by
  obtain ⟨e, rfl⟩ := Nat.exists_eq_add_of_le' (show 1 ≤ d by omega)
  obtain ⟨h23, hns⟩ := hns
  have eix : xix w 70 = true := xixz.mpr ⟨hw.1, by omega⟩
  have e13 : (D 74 13).toNat = 79 := by rw [hP.2.2.2.1]; rfl
  have hS : xSm rS4 D (xst (xst (xst (xst (xst D 74 21 w) 79 w.toNat (D 74 23)) 74 22 0) 74 27 0) 74 26 0) := xSm_st (xSm_st (xSm_st (xSm_st (xSm_st xSm_refl rfl) (by simp [rS4])) rfl) rfl) rfl
  have hstart : xM (e + 1 + 1) 179 [mR, .inl w] D = rBB e w (xst (xst (xst (xst (xst D 74 21 w) 79 w.toNat (D 74 23)) 74 22 0) 74 27 0) 74 26 0) := by
    rw [xm_X12_formula, eix, e13]
    simp only [Bool.cond_decide]
    rw [if_pos (by omega)]
    simp only [xna, Bool.and_self, cond_true]
    rw [xm_X12_unit]
    rfl
  generalize hD1 : (xst (xst (xst (xst (xst D 74 21 w) 79 w.toNat (D 74 23)) 74 22 0) 74 27 0) 74 26 0) = D1 at *
  have hs1 : rFs g N th w D1 := ⟨rTx_same hT hS rfl rfl (fun j => by simp [rS4, rS1]), rPt_same hP hS rfl, ⟨(hS _ _ rfl).trans hn.1, rNm_same hn.2.1 (fun j => hS _ _ (by simp [rS4, rS1])), hn.2.2⟩, by rw [← hD1, xst_nn (by omega), xst_nn (by omega), xst_nn (by omega), xst_nn (by omega), xst_at], hw⟩
  have hd1 : rFd g N (i, u, 0) [] es D1 := by
    refine ⟨?_, ?_, ?_, ?_, ⟨hu.1, hu.2, Int.le_refl 0, (show (0 : Int) ≤ 30 by decide)⟩, ?_, trivial, ?_, ?_, hns, hi⟩
    · obtain ⟨a1, a2, a3, a4, a5⟩ := hk
      rw [← hD1]
      refine ⟨?_, ?_, fun q => ?_, fun q => ?_, fun q => ?_⟩
      all_goals rw [xst_nn (by omega), xst_nn (by omega), xst_nn (by omega), xst_nn (by omega), xst_nn (by omega)]
      · exact a1
      · exact a2
      · exact a3 q
      · exact a4 q
      · exact a5 q
    · rw [← hD1, xst_nn (by omega), xst_nn (by omega), xst_nn (by omega), xst_nn (by omega), xst_nn (by omega), h2]
    · rw [← hD1, xst_nn (by omega), xst_nn (by omega), xst_nn (by omega), xst_nn (by omega), xst_nn (by omega), h24]
    · rw [← hD1, xst_at]
    · rw [← hD1, xst_nn (by omega), xst_nn (by omega), xst_at]; rfl
    · rw [← hD1, xst_nn (by omega), xst_at]; rfl
    · exact rRw_same h23 (by rw [← hD1, xst_nn (by omega), xst_nn (by omega), xst_nn (by omega), xst_nn (by omega), xst_nn (by omega)]) (fun j => by rw [← hD1, xst_nn (by omega), xst_nn (by omega), xst_nn (by omega), xst_nn (by omega), xst_nn (by omega)]) (fun j => by rw [← hD1, xst_nn (by omega), xst_nn (by omega), xst_nn (by omega), xst_nn (by omega), xst_nn (by omega)])
  have hr := rf_lv (g := g) (N := N) (th := th) (w := w) (e := e) (by omega) hnd 50 0 0 [] es (i, u, 0) D1 (by omega) (by omega) (by omega) hs1 hd1 rfl (Int.le_refl 0) (fun x q hq => by cases hq) (fun h => by omega)
  unfold sFrm
  cases hfs : fLv (tkK g N) (tkP g N) (tkV g N) th 50 0 0 (i, u, 0) with
  | error x =>
    rw [hfs] at hr
    obtain ⟨F, a1, a2, a3, a4, a5⟩ := hr
    exact ⟨F, hstart.trans a1, a2, a3, a4, xSm_trans (xSm_mono hS fun _ _ => rS4_f) (xSm_mono a5 fun _ _ => rSf_4)⟩
  | ok s1 =>
    rw [hfs] at hr
    obtain ⟨ops, es', E, a1, ⟨a2, acw⟩, a3, a4, a5, a6, a7, a8⟩ := hr
    rw [List.append_nil] at a2 a5 a6
    have hv := tJ_val (tkK g N s1.1)
    have h30 := a2.2.2.2.2.1
    have e0 : tL 0 = 1 := rfl
    have hiN : s1.1 ≤ N := by
      obtain ⟨-, -, -, -, -, -, -, -, -, -, hh⟩ := a2
      exact hh
    obtain ⟨F, b1, b2, b3, b4, b5, b6, b7, b8⟩ := rf_done (e := e) (by omega) (rFs_1 hs1 a3) a2 (by omega) a6 (by
      rcases a7 with a7 | ⟨-, a7, a9⟩
      · exact Or.inl (by omega)
      · exact Or.inr ⟨a7, a9⟩) (fun x hx => ⟨(a4 x hx).1, by have := (a4 x hx).2; have e0 : tmin 0 = 1 := rfl; omega⟩)
    rw [acw] at b5
    have hsm : xSm rS1b D1 F := xSm_trans (xSm_mono a3 fun _ _ => rS1_b) b6
    have f79 : ∀ j, F 79 j = D1 79 j := fun j => hsm 79 j rfl
    have e79 : F 79 w.toNat = (es.length : Int) := by rw [f79, ← hD1, xst_nn (by omega), xst_nn (by omega), xst_nn (by omega), xst_at, h23.1]
    have hlen : (es ++ pFrm (tkK g N) (tkP g N) (tkV g N) th i u).length ≤ s1.1 := b5.2
    have e80 : F 80 w.toNat = ((pFrm (tkK g N) (tkP g N) (tkV g N) th i u).length : Int) := by
      have hN := hT.2.2.1
      rw [b7, e79, b5.1.1]
      show w32 (((es ++ pFrm (tkK g N) (tkP g N) (tkV g N) th i u).length : Int) - (es.length : Int)) = _
      rw [w32_id (by omega) (by rw [List.length_append] at *; omega), List.length_append]
      omega
    exact ⟨F, hstart.trans (a1.trans b1), b2, b3, b4, ⟨h30.1, h30.2.1⟩, b5, hiN, xSm_trans hS (xSm_mono hsm fun _ _ => rS1b_4), e79, e80, fun j hj => ⟨by rw [f79, ← hD1, xst_nn (by omega), xst_nn (by omega), xst_nn (by omega), xst_nn (by omega), xst_nn (by omega)], by rw [b8 j hj, a3 80 j rfl, ← hD1, xst_nn (by omega), xst_nn (by omega), xst_nn (by omega), xst_nn (by omega), xst_nn (by omega)]⟩⟩
end rFormula
