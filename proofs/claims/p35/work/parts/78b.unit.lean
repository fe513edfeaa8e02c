/-! The reference's units. -/
section rUnit
variable {es : List tE} {u0 : tE} {g : Nat → Int} {N d e i : Nat} {D E : xC} {th : List Int} {w : Int} {s : tF} {st : List Int}
def rS3 (i j : Nat) : Bool := decide (i = 85 ∨ (i = 74 ∧ (j = 4 ∨ j = 6 ∨ j = 7 ∨ j = 8 ∨ j = 9 ∨ j = 22 ∨ j = 27)))
theorem rS3_1 {i j : Nat} (h : rS1 i j = false) : rS3 i j = false := by
  simp only [rS1, rS3, decide_eq_false_iff_not] at h ⊢; omega
theorem rS0_3 {i j : Nat} (h : rS3 i j = false) : rS0 i j = false := by
  simp only [rS3, rS0, decide_eq_false_iff_not] at h ⊢; omega
theorem rt_openF (hd : 1 ≤ d) {x : Int} {n m : Nat} (hP : rPt D) (h22 : D 74 22 = (n : Int)) (hn : n < 160) (h27 : D 74 27 = (m : Int)) (hm : m ≤ 1000) (h2 : D 74 2 ≠ 0) : xM d 175 [mR, .inl x] D = some (0, xst (xst (xst D 85 n x) 74 22 ((n + 1 : Nat) : Int)) 74 27 ((m + 1 : Nat) : Int)) := by
  obtain ⟨d, rfl⟩ := Nat.exists_eq_add_of_le' hd
  have eix : xix (n : Int) 160 = true := xixz.mpr ⟨by omega, by omega⟩
  have e19 : (D 74 19).toNat = 85 := by rw [hP.2.2.2.2.2.1]; rfl
  rw [xm_X12_openUp, h22, eix, e19, Int.toNat_natCast, show (xst D 85 n x) 74 2 = D 74 2 by rw [xst_nn (by omega)], show (xst D 85 n x) 74 22 = (n : Int) by rw [xst_nn (by omega), h22], w32_id (by omega) (by omega), show (xst D 85 n x) 74 27 = (m : Int) by rw [xst_nn (by omega), h27], w32_id (z := (m : Int) + 1) (by omega) (by omega)]
  simp only [Bool.cond_decide]
  rw [if_pos h2]
  rfl
theorem rt_open (hd : 3 ≤ d) {x : Int} {n m : Nat} (hT : rTx g N D) (hP : rPt D) (hk : rAtI g N i D) (h25 : tkK g N i ≠ 25) (h22 : D 74 22 = (n : Int)) (hn : n < 160) (h27 : D 74 27 = (m : Int)) (hm : m ≤ 1000) (h2 : D 74 2 = 0) :
    ∃ F, xM d 175 [mR, .inl x] D = some (0, F) ∧ rAtI g N (i + 1) F ∧ xSm rS3 D F ∧ F 74 22 = ((n + 1 : Nat) : Int) ∧ F 74 27 = ((m + 1 : Nat) : Int) ∧ F 85 n = x ∧ ∀ j, j < n → F 85 j = D 85 j := by
  obtain ⟨d, rfl⟩ := Nat.exists_eq_add_of_le' (show 1 ≤ d by omega)
  have eix : xix (n : Int) 160 = true := xixz.mpr ⟨by omega, by omega⟩
  have e19 : (D 74 19).toNat = 85 := by rw [hP.2.2.2.2.2.1]; rfl
  have hS : xSm rS3 D (xst (xst (xst D 85 n x) 74 22 ((n : Int) + 1)) 74 27 ((m : Int) + 1)) := xSm_st (xSm_st (xSm_st xSm_refl (by simp [rS3])) rfl) rfl
  have hT1 : rTx g N (xst (xst (xst D 85 n x) 74 22 ((n : Int) + 1)) 74 27 ((m : Int) + 1)) := rTx_same hT hS rfl rfl (fun j => by simp [rS3])
  have hk1 : rAtI g N i (xst (xst (xst D 85 n x) 74 22 ((n : Int) + 1)) 74 27 ((m : Int) + 1)) := by
    obtain ⟨a, b, c, e, f⟩ := hk
    refine ⟨?_, ?_, fun q => ?_, fun q => ?_, fun q => ?_⟩
    all_goals rw [xst_nn (by omega), xst_nn (by omega), xst_nn (by omega)]
    · exact a
    · exact b
    · exact c q
    · exact e q
    · exact f q
  obtain ⟨F, k1, k2, k3⟩ := rt_next (d := d) (by omega) hT1 hk1 h25
  refine ⟨F, ?_, k2, xSm_trans hS (xSm_mono k3 fun _ _ => rS0_3), ?_, ?_, ?_, fun j hj => ?_⟩
  · rw [xm_X12_openUp, h22, eix, e19, Int.toNat_natCast, show (xst D 85 n x) 74 2 = D 74 2 by rw [xst_nn (by omega)], show (xst D 85 n x) 74 22 = (n : Int) by rw [xst_nn (by omega), h22], w32_id (by omega) (by omega), show (xst D 85 n x) 74 27 = (m : Int) by rw [xst_nn (by omega), h27], w32_id (z := (m : Int) + 1) (by omega) (by omega)]
    simp only [Bool.cond_decide]
    rw [if_neg (fun h => h h2), k1]
    rfl
  · rw [k3 _ _ rfl, xst_nn (by omega), xst_at]; omega
  · rw [k3 _ _ rfl, xst_at]; omega
  · rw [k3 _ _ rfl, xst_nn (by omega), xst_nn (by omega), xst_at]
  · rw [k3 _ _ rfl, xst_nn (by omega), xst_nn (by omega), xst_nn (by omega)]
theorem rt_isFull (hd : 1 ≤ d) {u f : Int} (h24 : D 74 24 = u) (h26 : D 74 26 = f) : xM d 173 [mR] D = some (if u = 150 ∨ f = 30 then 1 else 0, D) := by
  obtain ⟨d, rfl⟩ := Nat.exists_eq_add_of_le' hd
  rw [xm_X12_isFull, h24, h26]
  simp only [Bool.cond_decide]
  repeat' split
  all_goals first | rfl | (exfalso; omega)
theorem rt_count (hd : 1 ≤ d) {u f : Int} (h24 : D 74 24 = u) (h26 : D 74 26 = f) (hu : 0 ≤ u ∧ u ≤ 1000) (hf : 0 ≤ f ∧ f ≤ 1000) : xM d 174 [mR] D = some (0, xst (xst D 74 24 (u + 1)) 74 26 (f + 1)) := by
  obtain ⟨d, rfl⟩ := Nat.exists_eq_add_of_le' hd
  rw [xm_X12_countUnit, h24, h26, w32_id (by omega) (by omega), w32_id (by omega) (by omega)]
/-- behind a unit that is one token: its fault, or the next token -/
def rOne (e : Nat) (w : Int) (g : Nat → Int) (N : Nat) (s : tF) (st : List Int) (es : List tE) (u0 : tE) (D : xC) (r : tX tF) : Prop := match r with
  | .error x => ∃ F, rBB e w D = some (0, F) ∧ F 74 2 = x.1 ∧ F 74 3 = x.2 ∧ 0 < x.1 ∧ xSm rSf D F
  | .ok s' => s' = (s.1 + 1, s.2.1 + 1, s.2.2 + 1) ∧ ∃ F, rBB e w D = wF (e + 1) w 1 none F ∧ rFd g N s' st (es ++ [u0]) F ∧ xSm rS1 D F
theorem rb_err {a : Int} {D1 : xC} (hs : rFs g N th w D) (hsm : xSm rS1 D D1) (ha : 0 < a) (hk : rAtI g N i D1) (h2 : D1 74 2 = 0)
    (hr : ∃ D2, xSm rS1 (xst (xst D1 74 2 (if tkK g N i = 25 then 1 else a)) 74 3 (tkP g N i)) D2 ∧ rBB e w D = wF (e + 1) w 1 none D2) : rOne e w g N s st es u0 D (tErr (tkK g N) (tkP g N) i a) := by
  obtain ⟨D2, h3, h4⟩ := hr
  have hsf : xSm rSf D (xst (xst D1 74 2 (if tkK g N i = 25 then 1 else a)) 74 3 (tkP g N i)) := xSm_st (xSm_st (xSm_1f hsm) rfl) rfl
  have hD2 : xSm rSf D D2 := xSm_trans hsf (xSm_1f h3)
  have hs2 := rFs_f hs hD2
  have e2 : D2 74 2 = (if tkK g N i = 25 then 1 else a) := by rw [h3 _ _ rfl, xst_nn (by omega), xst_at]
  have e3 : D2 74 3 = tkP g N i := by rw [h3 _ _ rfl, xst_at]
  have hpos : 0 < (if tkK g N i = 25 then (1 : Int) else a) := by split <;> omega
  obtain ⟨F, k1, k2, k3, k4⟩ := rf_fault (d := e + 1) (l2 := 1) (o := none) hs2.2.1 hs2.2.2.2.1 hs2.2.2.2.2 (by omega)
  exact ⟨F, h4.trans k1, k2.trans e2, k3.trans e3, hpos, xSm_trans hD2 k4⟩
/-- a unit of one token -/
theorem rf_unit1 (he : 3 ≤ e) (hnd : th.Nodup) (hs : rFs g N th w D) (hd : rFd g N s st es D) (hb : bnr st ≤ s.2.2) (hdp : dpt st ≤ 7) (h40 : tkK g N s.1 ≠ 40) (h19 : tkK g N s.1 = 19 → ∃ x q, st = x :: q ∧ ¬ (x = 20 ∨ tgt x < 4)) :
    rOne e w g N s st es (if tkK g N s.1 = 23 then (0, tkV g N s.1) else if tkK g N s.1 = 20 then (1, 6) else if tkK g N s.1 = 21 then (1, 7) else (1, (th.idxOf (tkV g N s.1) : Int))) D (if 150 ≤ s.2.1 ∨ 30 ≤ s.2.2 then tErr (tkK g N) (tkP g N) s.1 2
      else if tkK g N s.1 = 23 ∨ tkK g N s.1 = 20 ∨ tkK g N s.1 = 21 then .ok (s.1 + 1, s.2.1 + 1, s.2.2 + 1)
      else if tkK g N s.1 = 22 then (if tkV g N s.1 ∈ th then .ok (s.1 + 1, s.2.1 + 1, s.2.2 + 1) else tErr (tkK g N) (tkP g N) s.1 5)
      else tErr (tkK g N) (tkP g N) s.1 2) := by
  obtain ⟨hk, h2, h24, h26, hbd, h22, hst, h27, h23, hns, hiN⟩ := hd
  obtain ⟨hT, hP, ⟨h42, hnm, hth⟩, h21, hw0, hw1⟩ := hs
  have hs : rFs g N th w D := ⟨hT, hP, ⟨h42, hnm, hth⟩, h21, hw0, hw1⟩
  have hN := hT.2.2.1
  have hl0 := len_st st
  have hlen : st.length ≤ 160 := by omega
  obtain ⟨so1, so2, so3⟩ := rt_sort hk
  have s40 : ¬ D 74 6 = 40 := fun h => h40 ((so1 40 (by decide)).mp h)
  have iw : ∀ {j : Nat} {c : Int}, rdW[j]? = some c → xM e 159 [mR, .inr (.inl c)] D = some (if tkK g N s.1 = (j : Int) then 1 else 0, D) := fun hc => rt_isWord (by omega) hk hc
  have wn := iw (j := 19) (c := 7237492) rfl
  have wd := iw (j := 20) (c := 6578553) rfl
  have wh := iw (j := 21) (c := 1752135026) rfl
  have h53 : wU e D = xw_X12_unit e (53, [some mR, some (.inl 1), none], [], D) := by
    rw [wU, xl_X12_unit_2]
    simp only [Bool.cond_decide]
    rw [if_neg (by decide), if_neg (fun h => h h2), wn]
    simp only [Option.bind_some]
    by_cases k19 : tkK g N s.1 = ((19 : Nat) : Int)
    · obtain ⟨x, q, rfl, hx⟩ := h19 k19
      rw [if_pos k19, if_neg (by decide), rt_mayNot (by omega) hP.2.2.2.2.2.1 h22 hst hlen]
      simp only [Option.bind_some]
      rw [mnt, if_neg hx, if_pos rfl]
    · rw [if_neg k19, if_pos rfl]
  have hU : rBB e w D = (xw_X12_unit e (101, [some mR, some (.inl 0), none], [], D)).bind fun q => wF (e + 1) w 1 none q.2 := by
    rw [rBB, h53, xl_X12_unit_53]
    simp only [Bool.cond_decide]
    rw [if_pos s40, xl_X12_unit_2]
    simp only [Bool.cond_decide]
    rw [if_pos trivial]
  generalize hX : xw_X12_unit e (101, [some mR, some (.inl 0), none], [], D) = U at hU
  have err : ∀ (u0 : tE) (c a : Int), 0 < c → (U = (xM e 158 [mR, .inl c] D).bind fun q => xw_X12_unit e (211, [some mR, some (.inl 0), some (.inl a)], [], q.2)) → rOne e w g N s st es u0 D (tErr (tkK g N) (tkP g N) s.1 c) := by
    intro u0 c a hc hE
    refine rb_err hs xSm_refl hc hk h2 ⟨_, xSm_refl, ?_⟩
    have hpos : 0 < (if tkK g N s.1 = 25 then (1 : Int) else c) := by split <;> omega
    rw [hU, hE, rt_wrong (by omega) hk h2]
    simp only [Option.bind_some]
    rw [xl_X12_unit_211]
    simp only [Bool.cond_decide]
    rw [if_neg (by rw [xst_nn (by omega), xst_at]; omega)]
    rfl
  have ok : ∀ (u0 : tE) (a : Int), u0 = (if 0 ≤ a then ((1 : Int), a) else ((0 : Int), D 74 8)) → ¬ (s.2.1 = 150 ∨ s.2.2 = 30) → tkK g N s.1 ≠ 24 → tkK g N s.1 ≠ 25 → U = xw_X12_unit e (211, [some mR, some (.inl 0), some (.inl a)], [], D) → rOne e w g N s st es u0 D (.ok (s.1 + 1, s.2.1 + 1, s.2.2 + 1)) := by
    intro u0 a hu0 hfull k24 k25 hE
    refine ⟨rfl, ?_⟩
    have hlt := tk_lt k24
    have hP1 : rPt (xst (xst D 74 24 (s.2.1 + 1)) 74 26 (s.2.2 + 1)) := rPt_same (S := rS1) hP (xSm_st (xSm_st xSm_refl rfl) rfl) rfl
    have key : ∀ x y : Int, ∃ F, ((xM e 168 [mR, .inl x, .inl y] (xst (xst D 74 24 (s.2.1 + 1)) 74 26 (s.2.2 + 1))).bind fun q2 => (xM e 157 [mR] q2.2).bind fun q3 => some ((0 : Int), q3.2)) = some (0, F) ∧ rFd g N (s.1 + 1, s.2.1 + 1, s.2.2 + 1) st (es ++ [(x, y)]) F ∧ xSm rS1 D F := by
      intro x y
      rw [rt_add (by omega) hP1 (ns := es.length) (by rw [xst_nn (by omega), xst_nn (by omega), h23.1]) (by omega)]
      simp only [Option.bind_some]
      generalize hD3 : (xst (xst (xst (xst (xst D 74 24 (s.2.1 + 1)) 74 26 (s.2.2 + 1)) 77 es.length x) 78 es.length y) 74 23 ((es.length + 1 : Nat) : Int)) = D3
      have hS : xSm rS1 D D3 := by
        rw [← hD3]
        exact xSm_st (xSm_st (xSm_st (xSm_st (xSm_st xSm_refl rfl) rfl) (by simp [rS1])) (by simp [rS1])) rfl
      have hk3 : rAtI g N s.1 D3 := by
        obtain ⟨a1, a2, a3, a4, a5⟩ := hk
        rw [← hD3]
        refine ⟨?_, ?_, fun q => ?_, fun q => ?_, fun q => ?_⟩
        all_goals rw [xst_nn (by omega), xst_nn (by omega), xst_nn (by omega), xst_nn (by omega), xst_nn (by omega)]
        · exact a1
        · exact a2
        · exact a3 q
        · exact a4 q
        · exact a5 q
      obtain ⟨F, k1, k2, k3⟩ := rt_next (d := e) (by omega) (rFs_1 hs hS).1 hk3 k25
      refine ⟨F, by rw [k1]; rfl, ⟨k2, ?_, ?_, ?_, ⟨?_, ?_, ?_, ?_⟩, ?_, ?_, ?_, ?_, ?_, ?_⟩, xSm_trans hS (xSm_01 k3)⟩
      · rw [k3 _ _ rfl, hS _ _ rfl, h2]
      · rw [k3 _ _ rfl, ← hD3, xst_nn (by omega), xst_nn (by omega), xst_nn (by omega), xst_nn (by omega), xst_at]
      · rw [k3 _ _ rfl, ← hD3, xst_nn (by omega), xst_nn (by omega), xst_nn (by omega), xst_at]
      · show 0 ≤ s.2.1 + 1
        omega
      · show s.2.1 + 1 ≤ 150
        omega
      · show 0 ≤ s.2.2 + 1
        omega
      · show s.2.2 + 1 ≤ 30
        omega
      · rw [k3 _ _ rfl, ← hD3, xst_nn (by omega), xst_nn (by omega), xst_nn (by omega), xst_nn (by omega), xst_nn (by omega), h22]
      · exact stk_same (n := st.length) hst (fun j hj => by rw [k3 _ _ rfl, ← hD3, xst_nn (by omega), xst_nn (by omega), xst_nn (by omega), xst_nn (by omega), xst_nn (by omega)]) (Nat.le_refl _)
      · rw [k3 _ _ rfl, ← hD3, xst_nn (by omega), xst_nn (by omega), xst_nn (by omega), xst_nn (by omega), xst_nn (by omega), h27]
      · refine rRw_same (D := D3) ?_ (k3 _ _ rfl) (fun j => k3 _ _ rfl) (fun j => k3 _ _ rfl)
        exact rRw_add h23 (by rw [← hD3, xst_at]) (fun j hj => by rw [← hD3, xst_nn (by omega), xst_nn (by omega), xst_nn (by omega), xst_nn (by omega), xst_nn (by omega)]) (fun j hj => by rw [← hD3, xst_nn (by omega), xst_nn (by omega), xst_nn (by omega), xst_nn (by omega), xst_nn (by omega)]) (by rw [← hD3, xst_nn (by omega), xst_nn (by omega), xst_at]) (by rw [← hD3, xst_nn (by omega), xst_at])
      · show (es ++ [(x, y)]).length + st.length ≤ s.1 + 1
        rw [List.length_append, List.length_singleton]
        omega
      · show s.1 + 1 ≤ N
        omega
    have kc := rt_count (d := e) (D := D) (by omega) h24 h26 (by omega) (by omega)
    have k211 : ∃ F, xw_X12_unit e (211, [some mR, some (.inl 0), some (.inl a)], [], D) = some (0, F) ∧ rFd g N (s.1 + 1, s.2.1 + 1, s.2.2 + 1) st (es ++ [u0]) F ∧ xSm rS1 D F := by
      have e8 : (xst (xst D 74 24 (s.2.1 + 1)) 74 26 (s.2.2 + 1)) 74 8 = D 74 8 := by rw [xst_nn (by omega), xst_nn (by omega)]
      rw [xl_X12_unit_211]
      simp only [Bool.cond_decide]
      rw [if_pos (by omega), kc]
      simp only [Option.bind_some]
      by_cases ha : 0 ≤ a
      · rw [if_pos ha] at hu0
        rw [if_pos ha, if_pos ha, hu0]; exact key _ _
      · rw [if_neg ha, ← e8] at hu0
        rw [if_neg ha, if_neg ha, hu0]; exact key _ _
    obtain ⟨F, k1, k2, k3⟩ := k211
    refine ⟨F, ?_, k2, k3⟩
    rw [hU, hE, k1]
    rfl
  have hcl : (tkK g N s.1 = 20 ∧ U = xw_X12_unit e (179, [some mR, some (.inl 0), some (.inl 6)], [], D)) ∨ (tkK g N s.1 = 21 ∧ U = xw_X12_unit e (179, [some mR, some (.inl 0), some (.inl 7)], [], D)) ∨ (tkK g N s.1 = 22 ∧ ∃ r : Int, U = xw_X12_unit e (179, [some mR, some (.inl 0), some (.inl r)], [], D) ∧ ((r = (th.idxOf (tkV g N s.1) : Int) ∧ tkV g N s.1 ∈ th) ∨ (r = -1 ∧ tkV g N s.1 ∉ th))) ∨ (tkK g N s.1 = 23 ∧ U = xw_X12_unit e (179, [some mR, some (.inl 0), some (.inl (-1))], [], D)) ∨ ((tkK g N s.1 ≠ 20 ∧ tkK g N s.1 ≠ 21 ∧ tkK g N s.1 ≠ 22 ∧ tkK g N s.1 ≠ 23) ∧ U = xw_X12_unit e (186, [some mR, some (.inl 0), some (.inl (-1))], [], D)) := by
    rw [← hX, xl_X12_unit_101]
    simp only [Bool.cond_decide]
    rw [if_pos (show D 74 2 ≤ 0 by omega), wd]
    simp only [Option.bind_some]
    by_cases k20 : tkK g N s.1 = ((20 : Nat) : Int)
    · refine Or.inl ⟨k20, ?_⟩
      rw [if_pos k20, if_neg (by decide)]
      split <;> rfl
    · refine Or.inr ?_
      rw [if_neg k20, if_pos (by decide), wh]
      simp only [Option.bind_some]
      by_cases k21 : tkK g N s.1 = ((21 : Nat) : Int)
      · refine Or.inl ⟨k21, ?_⟩
        rw [if_pos k21, if_neg (by decide)]
        split <;> rfl
      · refine Or.inr ?_
        have inm := rt_isName (d := e) (by omega) hk
        rw [if_neg k21, if_pos (by decide), inm]
        simp only [Option.bind_some]
        by_cases k22 : tkK g N s.1 = 22
        · refine Or.inl ⟨k22, ?_⟩
          obtain ⟨o1, o2, -⟩ := rdK_ok (g := g) (N := N) (rdP g N s.1)
          obtain ⟨q1, q2, q3, q4⟩ := o2 (by have : rdK g N (rdP g N s.1) = 22 := k22; omega)
          have h9 : rdWd (D 74 9) (tkV g N s.1) := by
            show D 74 9 = rdC 8 (tkV g N s.1)
            rw [hk.2.2.1 (by have : rdK g N (rdP g N s.1) = 22 := k22; omega)]
            exact q4.symm
          obtain ⟨r, r1, r2⟩ := rt_find (d := e) (b := 0) (by omega) hP.1 hnm (by omega) h9 q2 q3
          have hn2 : ¬ D 74 6 = 2 := fun h => by have := so2.mp h; omega
          rw [if_pos k22, if_neg (by decide), h42, show (0 : Int) = ((0 : Nat) : Int) from rfl, r1]
          simp only [Option.bind_some]
          refine ⟨r, ?_, ?_⟩
          · rw [if_neg hn2]
            by_cases hr : ((0 : Nat) : Int) ≤ r
            · rw [if_pos hr]
            · rw [if_neg hr, inm]
              simp only [Option.bind_some]
              rw [if_pos k22, if_neg (by decide)]
          · rcases r2 with ⟨a1, -, a3, a2⟩ | ⟨a1, a2⟩
            · exact Or.inl ⟨rIdx hnd a1 a3, a2⟩
            · exact Or.inr ⟨a1, a2⟩
        · refine Or.inr ?_
          rw [if_neg k22, if_pos (by decide)]
          by_cases k23 : tkK g N s.1 = 23
          · refine Or.inl ⟨k23, ?_⟩
            rw [if_pos (so2.mpr k23)]
          · refine Or.inr ⟨⟨by omega, by omega, k22, k23⟩, ?_⟩
            rw [if_neg (fun h => k23 (so2.mp h)), inm]
            simp only [Option.bind_some]
            rw [if_neg k22, if_pos (by decide)]
  have f186 : ∀ a, xw_X12_unit e (186, [some mR, some (.inl 0), some (.inl a)], [], D) = (xM e 158 [mR, .inl 2] D).bind fun q => xw_X12_unit e (211, [some mR, some (.inl 0), some (.inl a)], [], q.2) := fun a => xl_X12_unit_186 e 0 a D
  have kf := rt_isFull (d := e) (D := D) (by omega) h24 h26
  by_cases hfull : s.2.1 = 150 ∨ s.2.2 = 30
  · rw [if_pos (show 150 ≤ s.2.1 ∨ 30 ≤ s.2.2 by omega)]
    have f179 : ∀ a, xw_X12_unit e (179, [some mR, some (.inl 0), some (.inl a)], [], D) = (xM e 158 [mR, .inl 2] D).bind fun q => xw_X12_unit e (211, [some mR, some (.inl 0), some (.inl a)], [], q.2) := by
      intro a
      rw [xl_X12_unit_179, kf]
      simp only [Option.bind_some, Bool.cond_decide]
      rw [if_pos hfull, if_neg (by decide), f186]
    rcases hcl with ⟨-, h⟩ | ⟨-, h⟩ | ⟨-, r, h, -⟩ | ⟨-, h⟩ | ⟨-, h⟩
    · exact err _ 2 _ (by decide) (h.trans (f179 _))
    · exact err _ 2 _ (by decide) (h.trans (f179 _))
    · exact err _ 2 _ (by decide) (h.trans (f179 _))
    · exact err _ 2 _ (by decide) (h.trans (f179 _))
    · exact err _ 2 _ (by decide) (h.trans (f186 _))
  · rw [if_neg (show ¬ (150 ≤ s.2.1 ∨ 30 ≤ s.2.2) by omega)]
    have f179 : ∀ a : Int, (D 74 6 = 2 ∨ 0 ≤ a) → xw_X12_unit e (179, [some mR, some (.inl 0), some (.inl a)], [], D) = xw_X12_unit e (211, [some mR, some (.inl 0), some (.inl a)], [], D) := by
      intro a ha
      rw [xl_X12_unit_179, kf]
      simp only [Option.bind_some, Bool.cond_decide]
      rw [if_neg hfull, if_pos rfl]
      by_cases h6 : D 74 6 = 2
      · rw [if_pos h6]
      · rw [if_neg h6, if_pos (by omega)]
    rcases hcl with ⟨k, h⟩ | ⟨k, h⟩ | ⟨k, r, h, hr⟩ | ⟨k, h⟩ | ⟨k, h⟩
    · rw [if_pos (show tkK g N s.1 = 23 ∨ tkK g N s.1 = 20 ∨ tkK g N s.1 = 21 by omega)]
      exact ok _ _ (by rw [if_neg (show ¬ tkK g N s.1 = 23 by omega), if_pos (show tkK g N s.1 = 20 from k), if_pos (by decide)]) hfull (by omega) (by omega) (h.trans (f179 _ (by omega)))
    · rw [if_pos (show tkK g N s.1 = 23 ∨ tkK g N s.1 = 20 ∨ tkK g N s.1 = 21 by omega)]
      exact ok _ _ (by rw [if_neg (show ¬ tkK g N s.1 = 23 by omega), if_neg (show ¬ tkK g N s.1 = 20 by omega), if_pos (show tkK g N s.1 = 21 from k), if_pos (by decide)]) hfull (by omega) (by omega) (h.trans (f179 _ (by omega)))
    · rw [if_neg (show ¬ (tkK g N s.1 = 23 ∨ tkK g N s.1 = 20 ∨ tkK g N s.1 = 21) by omega), if_pos (show tkK g N s.1 = 22 from k)]
      rcases hr with ⟨r0, rm⟩ | ⟨r0, rm⟩
      · rw [if_pos rm]
        exact ok _ _ (by rw [if_neg (show ¬ tkK g N s.1 = 23 by omega), if_neg (show ¬ tkK g N s.1 = 20 by omega), if_neg (show ¬ tkK g N s.1 = 21 by omega), if_pos (show 0 ≤ r by omega), r0]) hfull (by omega) (by omega) (h.trans (f179 _ (by omega)))
      · rw [if_neg rm]
        refine err _ 5 r (by decide) (h.trans ?_)
        rw [xl_X12_unit_179, kf]
        simp only [Option.bind_some, Bool.cond_decide]
        rw [if_neg hfull, if_pos rfl, if_neg (fun q => by have := so2.mp q; omega), if_neg (by omega)]
    · rw [if_pos (show tkK g N s.1 = 23 ∨ tkK g N s.1 = 20 ∨ tkK g N s.1 = 21 by omega)]
      exact ok _ _ (by rw [if_pos (show tkK g N s.1 = 23 from k), if_neg (show ¬ (0 ≤ (-1 : Int)) by decide), hk.2.2.2.1 k]; rfl) hfull (by omega) (by omega) (h.trans (f179 _ (Or.inl (so2.mpr k))))
    · rw [if_neg (show ¬ (tkK g N s.1 = 23 ∨ tkK g N s.1 = 20 ∨ tkK g N s.1 = 21) by omega), if_neg k.2.2.1]
      exact err _ 2 _ (by decide) (h.trans (f186 _))
end rUnit
