/-! The reference's formula, step by step: nots, brackets, signs. -/
section rSteps
variable {es : List tE} {g : Nat → Int} {N d e i : Nat} {D E : xC} {th : List Int} {w : Int} {s : tF} {st ops : List Int}
theorem rb_fw (hf : D 74 2 ≠ 0) (hf0 : 0 ≤ D 74 2) : rBB e w D = wF (e + 1) w 1 none D := by
  rw [rBB, wU, xl_X12_unit_2]
  simp only [Bool.cond_decide]
  rw [if_neg (by decide), if_pos hf, xl_X12_unit_101]
  simp only [Bool.cond_decide]
  rw [if_neg (by omega)]
  rfl
theorem rb_of (h : wU e D = wU e E) : rBB e w D = rBB e w E := by rw [rBB, h]; rfl
/-- a step on, or the fault -/
def rStp (e : Nat) (w : Int) (g : Nat → Int) (N : Nat) (D : xC) (s : tF) (st : List Int) (es : List tE) (r : tX Unit) : Prop := match r with
  | .error x => ∃ F, rBB e w D = some (0, F) ∧ F 74 2 = x.1 ∧ F 74 3 = x.2 ∧ 0 < x.1 ∧ xSm rSf D F
  | .ok _ => ∃ F, rBB e w D = rBB e w F ∧ rFd g N s st es F ∧ xSm rS1 D F
theorem rb_err2 {a : Int} {D1 : xC} (hs : rFs g N th w D) (hsm : xSm rS1 D D1) (ha : 0 < a) (hk : rAtI g N i D1) (h2 : D1 74 2 = 0)
    (hr : ∃ D2, xSm rS1 (xst (xst D1 74 2 (if tkK g N i = 25 then 1 else a)) 74 3 (tkP g N i)) D2 ∧ rBB e w D = rBB e w D2) : rStp e w g N D s st es (tErr (tkK g N) (tkP g N) i a) := by
  obtain ⟨D2, h3, h4⟩ := hr
  have hpos : 0 < (if tkK g N i = 25 then (1 : Int) else a) := by split <;> omega
  have e2 : D2 74 2 = (if tkK g N i = 25 then 1 else a) := by rw [h3 _ _ rfl, xst_nn (by omega), xst_at]
  have := rb_err (e := e) (s := s) (st := st) (es := es) (u0 := (0, 0)) hs hsm ha hk h2 ⟨D2, h3, h4.trans (rb_fw (by omega) (by omega))⟩
  exact this
theorem rf_push {c : Int} {F : xC} {u f : Int} (hd : rFd g N s st es D) (hk : rAtI g N (s.1 + 1) F) (hlt : s.1 + 1 ≤ N) (h2 : F 74 2 = D 74 2) (h24 : F 74 24 = u) (h26 : F 74 26 = f) (hb : 0 ≤ u ∧ u ≤ 150 ∧ 0 ≤ f ∧ f ≤ 30) (h22 : F 74 22 = ((st.length + 1 : Nat) : Int)) (h27 : F 74 27 = (dpt (c :: st) : Int)) (hc : F 85 st.length = c) (hst : ∀ j, j < st.length → F 85 j = D 85 j) (h23 : F 74 23 = D 74 23) (h77 : ∀ j, F 77 j = D 77 j) (h78 : ∀ j, F 78 j = D 78 j) : rFd g N (s.1 + 1, u, f) (c :: st) es F := by
  obtain ⟨q1, q2, q3, q4, q5, q6, q7, q8, q9, qa, qb⟩ := hd
  refine ⟨hk, h2.trans q2, h24, h26, hb, h22, ⟨hc, stk_same q7 hst (Nat.le_refl _)⟩, h27, rRw_same q9 h23 h77 h78, ?_, hlt⟩
  show es.length + (st.length + 1) ≤ s.1 + 1
  omega
/-- a not -/
theorem rf_not (he : 3 ≤ e) (hs : rFs g N th w D) (hd : rFd g N s st es D) (hb : bnr st ≤ 30) (hdp : dpt st ≤ 7) (hk : tkK g N s.1 = 19) (htop : ∀ x q, st = x :: q → x = 20 ∨ tgt x < 4) :
    rStp e w g N D (s.1 + 1, s.2) (21 :: st) es (if 6 < dpt st then tErr (tkK g N) (tkP g N) s.1 2 else .ok ()) := by
  have hd0 := hd
  obtain ⟨q1, q2, q3, q4, q5, q6, q7, q8, q9, qa, qb⟩ := hd
  have hl := len_st st
  have hlt := tk_lt (g := g) (N := N) (i := s.1) (by omega)
  have wn := rt_isWord (d := e) (by omega) q1 (j := 19) (c := 7237492) rfl
  have mn : xM e 172 [mR] D = some (1, D) := by
    rw [rt_mayNot (by omega) hs.2.1.2.2.2.2.2.1 q6 q7 (by omega)]
    cases st with
    | nil => rfl
    | cons x q =>
      rw [mnt, if_pos (htop x q rfl)]
  have hstart : wU e D = (if D 74 27 ≤ 6 then xw_X12_unit e (44, [some mR, some (.inl 1), none], [], D) else (xM e 158 [mR, .inl 2] D).bind fun q3 => xw_X12_unit e (44, [some mR, some (.inl 1), none], [], q3.2)) := by
    rw [wU, xl_X12_unit_2]
    simp only [Bool.cond_decide]
    rw [if_neg (by decide), if_neg (fun h => h q2), wn]
    simp only [Option.bind_some]
    rw [if_pos (show tkK g N s.1 = ((19 : Nat) : Int) from hk), if_neg (by decide), mn]
    simp only [Option.bind_some]
    rw [if_neg (by decide)]
  by_cases h6 : 6 < dpt st
  · rw [if_pos h6]
    have h6' : ¬ D 74 27 ≤ 6 := by omega
    rw [if_neg h6', rt_wrong (by omega) q1 q2] at hstart
    simp only [Option.bind_some] at hstart
    have hpos : (if tkK g N s.1 = 25 then (1 : Int) else 2) ≠ 0 := by split <;> omega
    rw [xl_X12_unit_44, rt_openF (by omega) (n := st.length) (m := dpt st) (rPt_same (S := rSf) hs.2.1 (xSm_st (xSm_st xSm_refl rfl) rfl) rfl) (by rw [xst_nn (by omega), xst_nn (by omega), q6]) (by omega) (by rw [xst_nn (by omega), xst_nn (by omega), q8]) (by omega) (by rw [xst_nn (by omega), xst_at]; exact hpos)] at hstart
    simp only [Option.bind_some] at hstart
    exact rb_err2 hs xSm_refl (by decide) q1 q2 ⟨_, xSm_st (xSm_st (xSm_st xSm_refl (by simp [rS1])) rfl) rfl, rb_of hstart⟩
  · rw [if_neg h6]
    rw [if_pos (by omega)] at hstart
    obtain ⟨F, k1, k2, k3, k4, k5, k6, k7⟩ := rt_open (d := e) (x := 21) he hs.1 hs.2.1 q1 (by omega) q6 (by omega) q8 (by omega) q2
    rw [xl_X12_unit_44, k1] at hstart
    simp only [Option.bind_some] at hstart
    refine ⟨F, rb_of hstart, ?_, xSm_mono k3 fun _ _ => rS3_1⟩
    exact rf_push (u := s.2.1) (f := s.2.2) hd0 k2 hlt.2.2 (k3 _ _ rfl) ((k3 _ _ rfl).trans q3) ((k3 _ _ rfl).trans q4) q5 k4 (by rw [k5]; simp only [dpt]; rw [if_pos (Or.inr trivial)]; omega) k6 k7 (k3 _ _ rfl) (fun j => k3 _ _ rfl) (fun j => k3 _ _ rfl)
/-- a bracket -/
theorem rf_brk (he : 3 ≤ e) (hs : rFs g N th w D) (hd : rFd g N s st es D) (hb : bnr st ≤ 30) (hdp : dpt st ≤ 7) (hk : tkK g N s.1 = 40) :
    rStp e w g N D (s.1 + 1, s.2.1 + 1, s.2.2 + 1) (20 :: st) es (if 150 ≤ s.2.1 ∨ 30 ≤ s.2.2 then tErr (tkK g N) (tkP g N) s.1 2 else if 6 < dpt st then tErr (tkK g N) (tkP g N) s.1 2 else .ok ()) := by
  have hd0 := hd
  obtain ⟨q1, q2, q3, q4, q5, q6, q7, q8, q9, qa, qb⟩ := hd
  have hl := len_st st
  have hlt := tk_lt (g := g) (N := N) (i := s.1) (by omega)
  have wn := rt_isWord (d := e) (by omega) q1 (j := 19) (c := 7237492) rfl
  obtain ⟨so1, so2, so3⟩ := rt_sort q1
  have s40 : D 74 6 = 40 := (so1 40 (by decide)).mpr hk
  have hstart : wU e D = (xM e 173 [mR] D).bind fun q1 => if q1.1 ≠ 0 then xw_X12_unit e (78, [some mR, some (.inl 1), none], [], q1.2) else if q1.2 74 27 ≤ 6 then xw_X12_unit e (83, [some mR, some (.inl 1), none], [], q1.2) else xw_X12_unit e (78, [some mR, some (.inl 1), none], [], q1.2) := by
    rw [wU, xl_X12_unit_2]
    simp only [Bool.cond_decide]
    rw [if_neg (by decide), if_neg (fun h => h q2), wn]
    simp only [Option.bind_some]
    rw [if_neg (show ¬ tkK g N s.1 = ((19 : Nat) : Int) by omega), if_pos rfl, xl_X12_unit_53]
    simp only [Bool.cond_decide]
    rw [if_neg (fun h => h s40)]
  have kf := rt_isFull (d := e) (D := D) (by omega) q3 q4
  rw [kf] at hstart
  simp only [Option.bind_some] at hstart
  have e78 : xw_X12_unit e (78, [some mR, some (.inl 1), none], [], D) = wU e (xst (xst (xst (xst (xst (xst (xst D 74 2 (if tkK g N s.1 = 25 then 1 else 2)) 74 3 (tkP g N s.1)) 74 24 (s.2.1 + 1)) 74 26 (s.2.2 + 1)) 85 st.length 20) 74 22 ((st.length + 1 : Nat) : Int)) 74 27 ((dpt st + 1 : Nat) : Int)) := by
    have hpos : (if tkK g N s.1 = 25 then (1 : Int) else 2) ≠ 0 := by split <;> omega
    rw [xl_X12_unit_78, rt_wrong (by omega) q1 q2]
    simp only [Option.bind_some]
    rw [xl_X12_unit_83, rt_count (by omega) (u := s.2.1) (f := s.2.2) (by rw [xst_nn (by omega), xst_nn (by omega), q3]) (by rw [xst_nn (by omega), xst_nn (by omega), q4]) (by omega) (by omega)]
    simp only [Option.bind_some]
    rw [rt_openF (by omega) (n := st.length) (m := dpt st) (rPt_same (S := rSf) hs.2.1 (xSm_st (xSm_st (xSm_st (xSm_st xSm_refl rfl) rfl) rfl) rfl) rfl) (by rw [xst_nn (by omega), xst_nn (by omega), xst_nn (by omega), xst_nn (by omega), q6]) (by omega) (by rw [xst_nn (by omega), xst_nn (by omega), xst_nn (by omega), xst_nn (by omega), q8]) (by omega) (by rw [xst_nn (by omega), xst_nn (by omega), xst_nn (by omega), xst_at]; exact hpos)]
    rfl
  have hsm : xSm rS1 (xst (xst D 74 2 (if tkK g N s.1 = 25 then 1 else 2)) 74 3 (tkP g N s.1)) (xst (xst (xst (xst (xst (xst (xst D 74 2 (if tkK g N s.1 = 25 then 1 else 2)) 74 3 (tkP g N s.1)) 74 24 (s.2.1 + 1)) 74 26 (s.2.2 + 1)) 85 st.length 20) 74 22 ((st.length + 1 : Nat) : Int)) 74 27 ((dpt st + 1 : Nat) : Int)) := xSm_st (xSm_st (xSm_st (xSm_st (xSm_st xSm_refl rfl) rfl) (by simp [rS1])) rfl) rfl
  by_cases hfull : s.2.1 = 150 ∨ s.2.2 = 30
  · rw [if_pos (show 150 ≤ s.2.1 ∨ 30 ≤ s.2.2 by omega)]
    rw [if_pos hfull, if_pos (by decide), e78] at hstart
    exact rb_err2 hs xSm_refl (by decide) q1 q2 ⟨_, hsm, rb_of hstart⟩
  · rw [if_neg (show ¬ (150 ≤ s.2.1 ∨ 30 ≤ s.2.2) by omega)]
    rw [if_neg hfull, if_neg (by decide)] at hstart
    by_cases h6 : 6 < dpt st
    · rw [if_pos h6]
      rw [if_neg (by omega), e78] at hstart
      exact rb_err2 hs xSm_refl (by decide) q1 q2 ⟨_, hsm, rb_of hstart⟩
    · rw [if_neg h6]
      rw [if_pos (by omega), xl_X12_unit_83, rt_count (by omega) q3 q4 (by omega) (by omega)] at hstart
      simp only [Option.bind_some] at hstart
      have hS : xSm rS1 D (xst (xst D 74 24 (s.2.1 + 1)) 74 26 (s.2.2 + 1)) := xSm_st (xSm_st xSm_refl rfl) rfl
      have hs2 := rFs_1 hs hS
      have hk2 : rAtI g N s.1 (xst (xst D 74 24 (s.2.1 + 1)) 74 26 (s.2.2 + 1)) := by
        obtain ⟨a1, a2, a3, a4, a5⟩ := q1
        refine ⟨?_, ?_, fun q => ?_, fun q => ?_, fun q => ?_⟩
        all_goals rw [xst_nn (by omega), xst_nn (by omega)]
        · exact a1
        · exact a2
        · exact a3 q
        · exact a4 q
        · exact a5 q
      obtain ⟨F, k1, k2, k3, k4, k5, k6, k7⟩ := rt_open (d := e) (x := 20) (n := st.length) (m := dpt st) he hs2.1 hs2.2.1 hk2 (by omega) (by rw [xst_nn (by omega), xst_nn (by omega), q6]) (by omega) (by rw [xst_nn (by omega), xst_nn (by omega), q8]) (by omega) (by rw [xst_nn (by omega), xst_nn (by omega), q2])
      rw [k1] at hstart
      simp only [Option.bind_some] at hstart
      refine ⟨F, rb_of hstart, ?_, xSm_trans hS (xSm_mono k3 fun _ _ => rS3_1)⟩
      refine rf_push (u := s.2.1 + 1) (f := s.2.2 + 1) hd0 k2 hlt.2.2 ?_ ?_ ?_ (by omega) k4 (by rw [k5]; simp only [dpt]; rw [if_pos (Or.inl trivial)]; omega) k6 (fun j hj => ?_) ?_ (fun j => ?_) (fun j => ?_)
      · rw [k3 _ _ rfl, xst_nn (by omega), xst_nn (by omega)]
      · rw [k3 _ _ rfl, xst_nn (by omega), xst_at]
      · rw [k3 _ _ rfl, xst_at]
      · rw [k7 j hj, xst_nn (by omega), xst_nn (by omega)]
      · rw [k3 _ _ rfl, xst_nn (by omega), xst_nn (by omega)]
      · rw [k3 _ _ rfl, xst_nn (by omega), xst_nn (by omega)]
      · rw [k3 _ _ rfl, xst_nn (by omega), xst_nn (by omega)]
/-- a token's sign -/
def sgc (c : Int) : Int := if c = 18 then 38 else if c = 17 then 124 else c
theorem tgt_sgc {c : Int} (h : tJ c ≠ 0) : tgt (sgc c) = tJ c ∧ sgc c ≠ 0 ∧ sgc c ≠ 20 ∧ sgc c ≠ 21 := by
  unfold tJ at h
  unfold tgt sgc tJ
  split at h
  · rename_i hc; subst hc; decide
  · split at h
    · rename_i hc; subst hc; decide
    · split at h
      · rename_i hc; rcases hc with hc | hc | hc <;> subst hc <;> decide
      · split at h
        · rename_i hc; rcases hc with hc | hc <;> subst hc <;> decide
        · split at h
          · rename_i hc; rcases hc with hc | hc | hc <;> subst hc <;> decide
          · exact absurd rfl h
theorem tJ_iff {c : Int} : tJ c ≠ 0 ↔ c = 17 ∨ c = 18 ∨ c = 60 ∨ c = 61 ∨ c = 62 ∨ c = 43 ∨ c = 45 ∨ c = 42 ∨ c = 47 ∨ c = 37 := by
  unfold tJ
  repeat' split
  all_goals omega
theorem rt_sign (hd : 2 ≤ d) (hk : rAtI g N i D) : xM d 177 [mR] D = some (if tJ (tkK g N i) = 0 then 0 else sgc (tkK g N i), D) := by
  obtain ⟨d, rfl⟩ := Nat.exists_eq_add_of_le' (show 1 ≤ d by omega)
  have wa := rt_isWord (d := d) (by omega) hk (j := 18) (c := 1634497391) rfl
  have wo := rt_isWord (d := d) (by omega) hk (j := 17) (c := 28530) rfl
  obtain ⟨so1, so2, so3⟩ := rt_sort hk
  have t60 := so1 60 (by decide)
  have t61 := so1 61 (by decide)
  have t62 := so1 62 (by decide)
  have t43 := so1 43 (by decide)
  have t45 := so1 45 (by decide)
  have t42 := so1 42 (by decide)
  have t47 := so1 47 (by decide)
  have t37 := so1 37 (by decide)
  have hiff := tJ_iff (c := tkK g N i)
  rw [xm_X12_sign, wa]
  simp only [Option.bind_some, Bool.cond_decide]
  by_cases h18 : tkK g N i = ((18 : Nat) : Int)
  · rw [if_pos h18, if_neg (by decide), if_neg (hiff.mpr (by omega)), sgc, if_pos (by omega)]
  · rw [if_neg h18, if_pos (by decide), wo]
    simp only [Option.bind_some]
    by_cases h17 : tkK g N i = ((17 : Nat) : Int)
    · rw [if_pos h17, if_neg (by decide), if_neg (hiff.mpr (by omega)), sgc, if_neg (by omega), if_pos (by omega)]
    · rw [if_neg h17, if_pos (by decide)]
      unfold sgc
      rw [if_neg (show ¬ tkK g N i = 18 by omega), if_neg (show ¬ tkK g N i = 17 by omega)]
      generalize tkK g N i = c at *
      generalize D 74 6 = z at *
      by_cases h0 : tJ c = 0
      · rw [if_pos h0]
        have : ¬ (c = 17 ∨ c = 18 ∨ c = 60 ∨ c = 61 ∨ c = 62 ∨ c = 43 ∨ c = 45 ∨ c = 42 ∨ c = 47 ∨ c = 37) := fun q => hiff.mpr q h0
        rw [if_neg (by omega), if_neg (by omega), if_neg (by omega), if_neg (by omega), if_neg (by omega), if_neg (by omega), if_neg (by omega), if_pos (by omega)]
      · rw [if_neg h0]
        have := hiff.mp h0
        have hz : z = c := by omega
        subst hz
        clear t60 t61 t62 t43 t45 t42 t47 t37 so1 so2 so3 wa wo
        repeat' split
        all_goals first | rfl | (exfalso; omega)
end rSteps
