/-! The reference's formula behind a unit: signs, closed brackets, the end. -/
section rSigns
variable {es : List tE} {g : Nat → Int} {N d e i : Nat} {D E : xC} {th : List Int} {w : Int} {s : tF} {st ops : List Int}
theorem rAtI_2 (h : rAtI g N i D) (hs : xSm rS2 D E) : rAtI g N i E := rTk_same h hs rfl rfl rfl rfl rfl
/-- the loop's head behind a unit -/
theorem wF_head (h2 : D 74 2 = 0) (he : 2 ≤ d) (hk : rAtI g N i D) {st : List Int} (h19 : D 74 19 = 85) (h22 : D 74 22 = (st.length : Int)) (hst : stk st D) (hl : st.length ≤ 160) {o : Option xV} :
    wF d w 1 o D = if tkK g N i = 41 ∧ 20 ∈ st then ((xM d 170 [mR, .inl 0] D).bind fun q3 => (xM d 157 [mR] (xst (xst q3.2 74 22 (w32 ((q3.2 74 22) - 1))) 74 27 (w32 ((q3.2 74 27) - 1)))).bind fun q4 => wF d w 1 none q4.2)
      else if tJ (tkK g N i) = 0 ∨ (tJ (tkK g N i) = 4 ∧ hrl st = true) then xw_X12_formula d (174, [some mR, some (.inl w), some (.inl 0), none], [], D)
      else xw_X12_formula d (130, [some mR, some (.inl w), some (.inl 1), some (.inl (sgc (tkK g N i)))], [], D) := by
  have sg := rt_sign he hk
  obtain ⟨so1, -, -⟩ := rt_sort hk
  have s41 := so1 41 (by decide)
  have hb := rt_bracket (d := d) (by omega) h19 h22 hst hl
  have hr := rt_relation he h19 h22 hst hl
  have h171 : ∀ (l3 : Int) (C : xC), xw_X12_formula d (171, [some mR, some (.inl w), some (.inl 1), some (.inl l3)], [], C) = wF d w 1 none C := fun l3 C => (xl_X12_formula_171 d w 1 l3 C).trans wF_o
  have h169 : ∀ (l3 : Int), xw_X12_formula d (169, [some mR, some (.inl w), some (.inl 1), some (.inl l3)], [], D) = xw_X12_formula d (174, [some mR, some (.inl w), some (.inl 0), none], [], D) := by
    intro l3
    rw [xl_X12_formula_169, xl_X12_formula_171, xl_X12_formula_47]
    simp only [Bool.cond_decide]
    rw [if_pos trivial]
    exact rf_174
  have h111 : xw_X12_formula d (111, [some mR, some (.inl w), some (.inl 1), some (.inl (if tJ (tkK g N i) = 0 then 0 else sgc (tkK g N i)))], [], D) = if tJ (tkK g N i) = 0 ∨ (tJ (tkK g N i) = 4 ∧ hrl st = true) then xw_X12_formula d (174, [some mR, some (.inl w), some (.inl 0), none], [], D)
      else xw_X12_formula d (130, [some mR, some (.inl w), some (.inl 1), some (.inl (sgc (tkK g N i)))], [], D) := by
    rw [xl_X12_formula_111]
    simp only [Bool.cond_decide]
    by_cases h0 : tJ (tkK g N i) = 0
    · rw [if_pos h0, if_pos (rfl : (0 : Int) = 0), if_pos (Or.inl h0), h169]
    · obtain ⟨t1, t2, t3, t4⟩ := tgt_sgc h0
      rw [if_neg h0, if_neg t2, rt_tight (by omega)]
      simp only [Option.bind_some]
      rw [t1]
      by_cases h4 : tJ (tkK g N i) = 4
      · rw [if_neg (fun q => q h4), hr]
        simp only [Option.bind_some]
        by_cases hh : hrl st = true
        · rw [if_pos hh, if_pos (by decide), if_pos (Or.inr ⟨h4, hh⟩), h169]
        · rw [if_neg hh, if_neg (by decide), if_neg (by
            rintro (q | ⟨-, q⟩)
            · exact h0 q
            · exact hh q)]
      · rw [if_pos h4, if_neg (by
          rintro (q | ⟨q, -⟩)
          · exact h0 q
          · exact h4 q)]
  rw [wF, xl_X12_formula_47]
  simp only [Bool.cond_decide]
  rw [if_neg (by decide), if_neg (fun h => h h2), sg]
  simp only [Option.bind_some]
  by_cases h41 : tkK g N i = 41
  · rw [if_neg (fun q => q (s41.mpr h41)), hb]
    simp only [Option.bind_some]
    by_cases hm : 20 ∈ st
    · rw [if_pos hm, if_neg (by decide), if_pos (show tkK g N i = 41 ∧ 20 ∈ st from ⟨h41, hm⟩)]
      simp only [h171]
    · rw [if_neg hm, if_pos (rfl : (0 : Int) = 0), if_neg (show ¬ (tkK g N i = 41 ∧ 20 ∈ st) from fun q => hm q.2), h111]
  · rw [if_pos (fun q => h41 (s41.mp q)), if_neg (show ¬ (tkK g N i = 41 ∧ 20 ∈ st) from fun q => h41 q.1), h111]
/-- a sign is done: those above it are closed, it is put on the stack, the next unit is due -/
theorem rf_joint (he : 2 ≤ e) (hs : rFs g N th w D) (hd : rFd g N s (ops ++ st) es D) (hb : bnr (ops ++ st) + 1 ≤ s.2.2) (hdp : dpt (ops ++ st) ≤ 7) (ht : tJ (tkK g N s.1) ≠ 0) (hops : ∀ x, x ∈ ops → x ≠ 20 ∧ tJ (tkK g N s.1) ≤ tgt x) (htop : ∀ x q, st = x :: q → x = 20 ∨ tgt x < tJ (tkK g N s.1)) (hrel : ¬ (tJ (tkK g N s.1) = 4 ∧ hrl (ops ++ st) = true)) :
    ∃ F, wF (e + 1) w 1 none D = rBB e w F ∧ rFd g N (s.1 + 1, s.2) (sgc (tkK g N s.1) :: st) (es ++ ops.map dmp) F ∧ xSm rS1 D F := by
  obtain ⟨q1, q2, q3, q4, q5, q6, q7, q8, q9, qa, qb⟩ := hd
  have hl := len_st (ops ++ st)
  have hla : (ops ++ st).length = ops.length + st.length := List.length_append
  have hj := tJ_iff.mp ht
  have hlt := tk_lt (g := g) (N := N) (i := s.1) (by omega)
  have hN := hs.1.2.2.1
  obtain ⟨t1, t2, t3, t4⟩ := tgt_sgc ht
  obtain ⟨E1, c1, c2, c3, c4, c5, c6⟩ := rt_close (d := e + 1) (t := tJ (tkK g N s.1)) (by omega) ops es D hs.2.1 q6 q7 q8 q9 (by omega) (by omega) hops htop
  have hs1 := rFs_1 hs (xSm_21 c6)
  have hk1 := rAtI_2 q1 c6
  have eix : xix (st.length : Int) 160 = true := xixz.mpr ⟨by omega, by omega⟩
  have e19 : (E1 74 19).toNat = 85 := by rw [hs1.2.1.2.2.2.2.2.1]; rfl
  generalize hs0 : sgc (tkK g N s.1) = sg at *
  have hS2 : xSm rS3 E1 (xst (xst E1 85 st.length sg) 74 22 ((st.length : Int) + 1)) := xSm_st (xSm_st xSm_refl (by simp [rS3])) rfl
  have hT2 : rTx g N (xst (xst E1 85 st.length sg) 74 22 ((st.length : Int) + 1)) := rTx_same hs1.1 hS2 rfl rfl (fun j => by simp [rS3])
  have hk2 : rAtI g N s.1 (xst (xst E1 85 st.length sg) 74 22 ((st.length : Int) + 1)) := by
    obtain ⟨a1, a2, a3, a4, a5⟩ := hk1
    refine ⟨?_, ?_, fun q => ?_, fun q => ?_, fun q => ?_⟩
    all_goals rw [xst_nn (by omega), xst_nn (by omega)]
    · exact a1
    · exact a2
    · exact a3 q
    · exact a4 q
    · exact a5 q
  obtain ⟨F, k1, k2, k3⟩ := rt_next (d := e + 1) (by omega) hT2 hk2 (by omega)
  refine ⟨F, ?_, ⟨k2, ?_, ?_, ?_, q5, ?_, ⟨?_, ?_⟩, ?_, ?_, ?_, ?_⟩, ?_⟩
  · rw [wF_head q2 (by omega) q1 hs.2.1.2.2.2.2.2.1 q6 q7 (by omega), if_neg (fun h => by have := h.1; omega), if_neg (by
      rintro (h | h)
      · exact ht h
      · exact hrel h), hs0, xl_X12_formula_130, rt_tight (by omega)]
    simp only [Option.bind_some]
    rw [t1, c1]
    simp only [Option.bind_some]
    rw [c2, eix, e19, Int.toNat_natCast, show (xst E1 85 st.length sg) 74 22 = (st.length : Int) by rw [xst_nn (by omega), c2], w32_id (by omega) (by omega), k1]
    simp only [Option.bind_some, xna, Bool.and_self, cond_true]
    rw [xm_X12_unit]
    have hfun : (fun q4 : Int × xC => xw_X12_formula (e + 1) (171, [some mR, some (.inl w), some (.inl 1), some (.inl sg)], [], q4.2)) = fun q => wF (e + 1) w 1 none q.2 := funext fun q => (xl_X12_formula_171 (e + 1) w 1 sg q.2).trans wF_o
    exact congrArg (Option.bind (wU e F)) hfun
  · rw [k3 _ _ rfl, xst_nn (by omega), xst_nn (by omega), c6 _ _ rfl, q2]
  · rw [k3 _ _ rfl, xst_nn (by omega), xst_nn (by omega), c6 _ _ rfl, q3]
  · rw [k3 _ _ rfl, xst_nn (by omega), xst_nn (by omega), c6 _ _ rfl, q4]
  · rw [k3 _ _ rfl, xst_at]; simp only [List.length_cons]; omega
  · rw [k3 _ _ rfl, xst_nn (by omega), xst_at]
  · exact stk_same (n := st.length) c3 (fun j hj => by rw [k3 _ _ rfl, xst_nn (by omega), xst_nn (by omega)]) (Nat.le_refl _)
  · rw [k3 _ _ rfl, xst_nn (by omega), xst_nn (by omega), c4]
    simp only [dpt]
    rw [if_neg (by omega)]; omega
  · exact rRw_same c5 (by rw [k3 _ _ rfl, xst_nn (by omega), xst_nn (by omega)]) (fun j => by rw [k3 _ _ rfl, xst_nn (by omega), xst_nn (by omega)]) (fun j => by rw [k3 _ _ rfl, xst_nn (by omega), xst_nn (by omega)])
  · show (es ++ ops.map dmp).length + (st.length + 1) ≤ s.1 + 1
    rw [List.length_append, List.length_map]
    omega
  · exact hlt.2.2
  · exact xSm_trans (xSm_21 c6) (xSm_trans (xSm_mono hS2 fun _ _ => rS3_1) (xSm_01 k3))
/-- a bracket is closed -/
theorem rf_shut (he : 2 ≤ e) (hs : rFs g N th w D) (hd : rFd g N s (ops ++ 20 :: st) es D) (hb : bnr (ops ++ 20 :: st) ≤ 30) (hdp : dpt (ops ++ 20 :: st) ≤ 7) (ht : tkK g N s.1 = 41) (hops : ∀ x, x ∈ ops → x ≠ 20 ∧ 0 ≤ tgt x) :
    ∃ F, wF (e + 1) w 1 none D = wF (e + 1) w 1 none F ∧ rFd g N (s.1 + 1, s.2) st (es ++ ops.map dmp) F ∧ xSm rS1 D F := by
  obtain ⟨q1, q2, q3, q4, q5, q6, q7, q8, q9, qa, qb⟩ := hd
  have hl := len_st (ops ++ 20 :: st)
  have hla : (ops ++ 20 :: st).length = ops.length + (st.length + 1) := List.length_append
  have hlt := tk_lt (g := g) (N := N) (i := s.1) (by omega)
  have hN := hs.1.2.2.1
  obtain ⟨E1, c1, c2, c3, c4, c5, c6⟩ := rt_close (d := e + 1) (t := 0) (st := 20 :: st) (by omega) ops es D hs.2.1 q6 q7 q8 q9 (by omega) (by omega) hops (fun x q h => by
    cases h
    exact Or.inl rfl)
  have hs1 := rFs_1 hs (xSm_21 c6)
  have hk1 := rAtI_2 q1 c6
  have hl2 := len_st st
  have c2' : E1 74 22 = ((st.length + 1 : Nat) : Int) := c2
  have c4' : E1 74 27 = ((dpt st + 1 : Nat) : Int) := by
    rw [c4]
    simp only [dpt]
    rw [if_pos (Or.inl trivial)]; omega
  have hS2 : xSm rS2 E1 (xst (xst E1 74 22 (st.length : Int)) 74 27 (dpt st : Int)) := xSm_st (xSm_st xSm_refl rfl) rfl
  have hs2 := rFs_1 hs1 (xSm_21 hS2)
  have hk2 := rAtI_2 hk1 hS2
  have hdd : dpt (ops ++ 20 :: st) = dpt ops + dpt (20 :: st) := dpt_app _ _
  obtain ⟨F, k1, k2, k3⟩ := rt_next (d := e + 1) (by omega) hs2.1 hk2 (by omega)
  refine ⟨F, ?_, ⟨k2, ?_, ?_, ?_, q5, ?_, ?_, ?_, ?_, ?_, ?_⟩, ?_⟩
  · rw [wF_head q2 (by omega) q1 hs.2.1.2.2.2.2.2.1 q6 q7 (by omega), if_pos ⟨ht, by simp⟩, c1]
    simp only [Option.bind_some]
    rw [c2', c4', w32_id (by omega) (by omega), w32_id (by omega) (by omega), show (((st.length + 1 : Nat) : Int) - 1) = (st.length : Int) by omega, show (((dpt st + 1 : Nat) : Int) - 1) = (dpt st : Int) by omega, k1]
    rfl
  · rw [k3 _ _ rfl, xst_nn (by omega), xst_nn (by omega), c6 _ _ rfl, q2]
  · rw [k3 _ _ rfl, xst_nn (by omega), xst_nn (by omega), c6 _ _ rfl, q3]
  · rw [k3 _ _ rfl, xst_nn (by omega), xst_nn (by omega), c6 _ _ rfl, q4]
  · rw [k3 _ _ rfl, xst_nn (by omega), xst_at]
  · exact stk_same (n := st.length) c3.2 (fun j hj => by rw [k3 _ _ rfl, xst_nn (by omega), xst_nn (by omega)]) (Nat.le_refl _)
  · rw [k3 _ _ rfl, xst_at]
  · exact rRw_same c5 (by rw [k3 _ _ rfl, xst_nn (by omega), xst_nn (by omega)]) (fun j => by rw [k3 _ _ rfl, xst_nn (by omega), xst_nn (by omega)]) (fun j => by rw [k3 _ _ rfl, xst_nn (by omega), xst_nn (by omega)])
  · show (es ++ ops.map dmp).length + st.length ≤ s.1 + 1
    rw [List.length_append, List.length_map]
    omega
  · exact hlt.2.2
  · exact xSm_trans (xSm_21 c6) (xSm_trans (xSm_21 hS2) (xSm_01 k3))
/-- no more: what is left on the stack is closed -/
theorem rf_done (he : 2 ≤ e) (hs : rFs g N th w D) (hd : rFd g N s ops es D) (hb : bnr ops ≤ 30) (hdp : dpt ops ≤ 7) (ht : tJ (tkK g N s.1) = 0 ∨ (tJ (tkK g N s.1) = 4 ∧ hrl ops = true)) (hops : ∀ x, x ∈ ops → x ≠ 20 ∧ 0 ≤ tgt x) :
    ∃ F, wF (e + 1) w 1 none D = some (0, F) ∧ rAtI g N s.1 F ∧ F 74 2 = 0 ∧ F 74 24 = s.2.1 ∧ (rRw (es ++ ops.map dmp) F ∧ (es ++ ops.map dmp).length ≤ s.1) ∧ xSm rS1b D F ∧ F 80 w.toNat = w32 ((F 74 23) - (F 79 w.toNat)) ∧ ∀ j, j ≠ w.toNat → F 80 j = D 80 j := by
  obtain ⟨q1, q2, q3, q4, q5, q6, q7, q8, q9, qa, qb⟩ := hd
  have hl := len_st ops
  have hN := hs.1.2.2.1
  have h20 : 20 ∉ ops := fun h => (hops 20 h).1 rfl
  obtain ⟨E1, c1, c2, c3, c4, c5, c6⟩ := rt_close (d := e + 1) (t := 0) (st := []) (by omega) ops es D hs.2.1 (by rw [List.append_nil]; exact q6) (by rw [List.append_nil]; exact q7) (by rw [List.append_nil]; exact q8) q9 (by rw [List.append_nil]; omega) (by rw [List.append_nil]; omega) hops (fun x q h => by cases h)
  have hs1 := rFs_1 hs (xSm_21 c6)
  have hk1 := rAtI_2 q1 c6
  have eix : xix w 70 = true := xixz.mpr ⟨hs.2.2.2.2.1, by have := hs.2.2.2.2.2; omega⟩
  have e14 : (E1 74 14).toNat = 80 := by rw [hs1.2.1.2.2.2.2.1]; rfl
  refine ⟨xst E1 80 w.toNat (w32 ((E1 74 23) - (E1 (E1 74 13).toNat (w.toNat)))), ?_, ?_, ?_, ?_, ⟨?_, ?_⟩, ?_, ?_, fun j hj => ?_⟩
  · rw [wF_head q2 (by omega) q1 hs.2.1.2.2.2.2.2.1 q6 q7 (by omega), if_neg (fun h => h20 h.2), if_pos ht, xl_X12_formula_174]
    simp only [Bool.cond_decide]
    rw [if_neg (fun h => h q2), rt_bracket (by omega) hs.2.1.2.2.2.2.2.1 q6 q7 (by omega), if_neg h20]
    simp only [Option.bind_some]
    rw [if_pos trivial, xl_X12_formula_193]
    simp only [Bool.cond_decide]
    rw [if_neg (fun h => h q2), c1]
    simp only [Option.bind_some]
    rw [xl_X12_formula_205, hs1.2.2.2.1, eix, e14]
    rfl
  · obtain ⟨a1, a2, a3, a4, a5⟩ := hk1
    refine ⟨?_, ?_, fun q => ?_, fun q => ?_, fun q => ?_⟩
    all_goals rw [xst_nn (by omega)]
    · exact a1
    · exact a2
    · exact a3 q
    · exact a4 q
    · exact a5 q
  · rw [xst_nn (by omega), c6 _ _ rfl, q2]
  · rw [xst_nn (by omega), c6 _ _ rfl, q3]
  · exact rRw_same c5 (by rw [xst_nn (by omega)]) (fun j => by rw [xst_nn (by omega)]) (fun j => by rw [xst_nn (by omega)])
  · rw [List.length_append, List.length_map]
    omega
  · exact xSm_st (xSm_mono (xSm_21 c6) fun _ _ => rS1_b) (by simp [rS1b])
  · rw [xst_at, xst_nn (by omega), xst_nn (by omega), show (E1 74 13).toNat = 79 by rw [hs1.2.1.2.2.2.1]; rfl]
  · rw [xst_nn (by omega), c6 _ _ rfl]
/-- no more, but a bracket stands open -/
theorem rf_wide (he : 2 ≤ e) (hs : rFs g N th w D) (hd : rFd g N s ops es D) (hb : bnr ops ≤ 30) (hdp : dpt ops ≤ 7) (ht : tJ (tkK g N s.1) = 0 ∨ (tJ (tkK g N s.1) = 4 ∧ hrl ops = true)) (h41 : tkK g N s.1 ≠ 41) (h20 : 20 ∈ ops) :
    ∃ F, wF (e + 1) w 1 none D = some (0, F) ∧ F 74 2 = (if tkK g N s.1 = 25 then 1 else 2) ∧ F 74 3 = tkP g N s.1 ∧ xSm rSf D F := by
  obtain ⟨q1, q2, q3, q4, q5, q6, q7, q8, q9, qa, qb⟩ := hd
  have hl := len_st ops
  have hpos : (if tkK g N s.1 = 25 then (1 : Int) else 2) ≠ 0 := by split <;> omega
  have eix : xix w 70 = true := xixz.mpr ⟨hs.2.2.2.2.1, by have := hs.2.2.2.2.2; omega⟩
  have hsm : xSm rSf D (xst (xst D 74 2 (if tkK g N s.1 = 25 then 1 else 2)) 74 3 (tkP g N s.1)) := xSm_st (xSm_st xSm_refl rfl) rfl
  have hs1 := rFs_f hs hsm
  have e2 : (xst (xst D 74 2 (if tkK g N s.1 = 25 then 1 else 2)) 74 3 (tkP g N s.1)) 74 2 = (if tkK g N s.1 = 25 then 1 else 2) := by rw [xst_nn (by omega), xst_at]
  have e3 : (xst (xst D 74 2 (if tkK g N s.1 = 25 then 1 else 2)) 74 3 (tkP g N s.1)) 74 3 = tkP g N s.1 := by rw [xst_at]
  have h1 : wF (e + 1) w 1 none D = xw_X12_formula (e + 1) (193, [some mR, some (.inl w), some (.inl 0), none], [], xst (xst D 74 2 (if tkK g N s.1 = 25 then 1 else 2)) 74 3 (tkP g N s.1)) := by
    rw [wF_head q2 (by omega) q1 hs.2.1.2.2.2.2.2.1 q6 q7 (by omega), if_neg (fun h => h41 h.1), if_pos ht, xl_X12_formula_174]
    simp only [Bool.cond_decide]
    rw [if_neg (fun h => h q2), rt_bracket (by omega) hs.2.1.2.2.2.2.2.1 q6 q7 (by omega), if_pos h20]
    simp only [Option.bind_some]
    rw [if_neg (by decide), rt_wrong (by omega) q1 q2]
    rfl
  generalize (xst (xst D 74 2 (if tkK g N s.1 = 25 then 1 else 2)) 74 3 (tkP g N s.1)) = E1 at *
  have e14 : (E1 74 14).toNat = 80 := by rw [hs1.2.1.2.2.2.2.1]; rfl
  refine ⟨xst E1 80 w.toNat (w32 ((E1 74 23) - (E1 (E1 74 13).toNat (w.toNat)))), ?_, ?_, ?_, ?_⟩
  · rw [h1, xl_X12_formula_193]
    simp only [Bool.cond_decide]
    rw [if_pos (by rw [e2]; exact hpos), xl_X12_formula_205, hs1.2.2.2.1, eix, e14]
    rfl
  · rw [xst_nn (by omega), e2]
  · rw [xst_nn (by omega), e3]
  · exact xSm_st hsm (by simp [rSf, rS1])
end rSigns
