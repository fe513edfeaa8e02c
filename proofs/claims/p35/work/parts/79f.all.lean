/-! The reference reads a text as it is told. -/
section rAll
variable {g : Nat → Int} {N d i : Nat} {D D0 E F1 Fn : xC} {r : tX tZ} {z : tZ} {s : tS} {nm : Nat → List Int} {fl : Nat → Bool}
noncomputable abbrev wL (d pc : Nat) (D : xC) : Option (Int × xC) := xw_X12_readLine d (pc, [some mR], [], D)
/-- what comes of a line -/
def rOL (g : Nat → Int) (N : Nat) (r : tX tS) (D : xC) : Prop := match r with
  | .error x => D 74 2 = x.1 ∧ D 74 3 = x.2 ∧ 0 < x.1
  | .ok s => rSt g N s D
theorem rAtI_st {j : Nat} {x : Int} (h : rAtI g N i D) (hj : j ≠ 4 ∧ j ≠ 6 ∧ j ≠ 7 ∧ j ≠ 8 ∧ j ≠ 9) : rAtI g N i (xst D 74 j x) := by
  obtain ⟨a1, a2, a3, a4, a5⟩ := h
  refine ⟨?_, ?_, fun q => ?_, fun q => ?_, fun q => ?_⟩
  all_goals rw [xst_nn (by omega)]
  · exact a1
  · exact a2
  · exact a3 q
  · exact a4 q
  · exact a5 q
theorem rLp_st {j : Nat} {x : Int} (h : rLp g N z D) (hj : j ≠ 2 ∧ j ≠ 4 ∧ j ≠ 6 ∧ j ≠ 7 ∧ j ≠ 8 ∧ j ≠ 9 ∧ j ≠ 23 ∧ j ≠ 24 ∧ j ≠ 48) : rLp g N z (xst D 74 j x) := by
  obtain ⟨b1, b2, b3, b4, b5, b7⟩ := h
  exact ⟨rAtI_st b1 (by omega), by rw [xst_nn (by omega), b2], by rw [xst_nn (by omega), b3], b4, rE_same b5 (Nat.le_refl _) (fun i j q => by rw [xst_nn (by omega)]), b7⟩
theorem rLS_st {j : Nat} {x : Int} (h : rLS g N nm D) (hj : 47 ≤ j ∧ j ≤ 61) : rLS g N nm (xst D 74 j x) := by
  obtain ⟨⟨q1, q2, q3, q4⟩, ⟨a1, a2, a3, a4, a5, a6, a7, a8, a9, e1, e2, e3, e4, e5⟩, h3⟩ := h
  refine ⟨⟨by rw [xst_nn (by omega), q1], by rw [xst_nn (by omega), q2], q3, fun j hj => by rw [xst_nn (by omega)]; exact q4 j hj⟩, ⟨by rw [xst_nn (by omega), a1], by rw [xst_nn (by omega), a2], by rw [xst_nn (by omega), a3], by rw [xst_nn (by omega), a4], by rw [xst_nn (by omega), a5], by rw [xst_nn (by omega), a6], by rw [xst_nn (by omega), a7], by rw [xst_nn (by omega), a8], by rw [xst_nn (by omega), a9], by rw [xst_nn (by omega), e1], by rw [xst_nn (by omega), e2], by rw [xst_nn (by omega), e3], by rw [xst_nn (by omega), e4], rPz_st (rPz_in (by omega)) e5⟩, fun t ht => ⟨by rw [xst_nn (by omega)]; exact (h3 t ht).1, (h3 t ht).2⟩⟩
/-- the end of a line -/
theorem rl_tail (hd : 3 ≤ d) {r : tX tB} (h : rOB g N fl r D) :
    ∃ F, wL d 233 D = some (0, F) ∧ rOL g N (r.bind fun q => (zAcc (tkK g N) (tkP g N) 59 q.1).bind fun z => .ok (z.1, z.2.1, q.2.1, q.2.2.1, tTell fl q.2.2.2, z.2.2.2)) F := by
  rw [wL, xl_X12_readLine_233]
  simp only [Bool.cond_decide]
  have h259 : ∀ C : xC, C 74 2 ≠ 0 → wL d 259 C = some (0, C) := by
    intro C hC
    rw [wL, xl_X12_readLine_259]
    simp only [Bool.cond_decide]
    rw [if_pos hC]
  cases r with
  | error x =>
    obtain ⟨h1, h2, h3⟩ := h
    rw [if_pos (by omega)]
    exact ⟨_, h259 _ (by rw [xst_nn (by omega)]; omega), by rw [xst_nn (by omega), h1], by rw [xst_nn (by omega), h2], h3⟩
  | ok q =>
    obtain ⟨h1, h2, h3, h4, h5, h6, h7, h8⟩ := h
    have h20 := h2.2.1
    obtain ⟨so1, so2, so3⟩ := rt_sort h2.1
    have s59 := so1 59 (by decide)
    have hL := rLS_st (j := 57) (x := 1) h1 (by decide)
    have hp := rLp_st (j := 57) (x := 1) h2 (by decide)
    have hn : rNms q.2.2.1 (xst D 74 57 1) := rNms_same h3 (fun j => by rw [xst_nn (by omega)])
    show ∃ F, _ ∧ rOL g N ((zAcc (tkK g N) (tkP g N) 59 q.1).bind _) F
    unfold zAcc
    rw [if_neg (fun q => q h20)]
    by_cases hk : tkK g N q.1.1 = 59
    · rw [if_pos (s59.mpr hk), if_pos hk, xl_X12_readLine_259]
      simp only [Bool.cond_decide]
      rw [if_neg (by rw [xst_nn (by omega)]; exact fun q => q h20)]
      obtain ⟨F, k1, k2, k3⟩ := rl_next (d := d) (x := 0) (by omega) hL hp hn xSm_refl (by omega) (by omega)
      rw [k1]
      refine ⟨F, rfl, rLS_E hL (rSE_0 (rS5_0 k3)), k2.1, k2.2.1, ?_, ?_, h6, fun hh => ?_, ?_, ?_, ?_⟩
      · rw [k3 _ _ rfl, xst_nn (by omega), h4]
      · rw [k3 _ _ rfl, xst_nn (by omega), h5]
      · cases hh
      · rw [k3 _ _ rfl, xst_at]; rfl
      · rw [k3 _ _ rfl, xst_nn (by omega), h7]
      · rw [k3 _ _ rfl, xst_nn (by omega), h8]
    · rw [if_neg (fun q => hk (s59.mp q)), if_neg hk, rt_wrong (by omega) hp.1 hp.2.1]
      simp only [Option.bind_some]
      obtain ⟨x, x1, x2, x3, x4⟩ := tErr_pos (k := tkK g N) (pl := tkP g N) (i := q.1.1) (c := 2) (by decide) (A := tZ)
      rw [x1]
      have e2 : (xst (xst (xst D 74 57 1) 74 2 (if tkK g N q.1.1 = 25 then 1 else 2)) 74 3 (tkP g N q.1.1)) 74 2 = x.1 := by rw [xst_nn (by omega), xst_at, x2]
      exact ⟨_, h259 _ (by rw [e2]; omega), e2, by rw [xst_at, x3], x4⟩
theorem rl_aim (hd : 6 ≤ d) {f c w : Nat} (h : rSt g N s D) (hf : (f = 1 ∧ c = 58) ∨ (f = 2 ∧ c = 59)) (hw : w = 58 + f) (h25 : tkK g N s.1 ≠ 25) (h24 : tkK g N s.1 ≠ 24) :
    ∃ F1 F, xM d 157 [mR] (xst D 74 c 1) = some (0, F1) ∧ xM d 179 [mR, .inl (w : Int)] F1 = some (0, F) ∧ rOB g N s.2.2.2.2.1 (sAim (tkK g N) (tkP g N) (tkV g N) f s) F := by
  obtain ⟨g1, g2, g3, g4, g5, g6, g7, g8, g9, g10⟩ := h
  have hc : 47 ≤ c ∧ c ≠ 48 ∧ c ≠ 2 ∧ c ≠ 3 ∧ c ≠ 4 ∧ c ≠ 6 ∧ c ≠ 7 ∧ c ≠ 8 ∧ c ≠ 9 ∧ c ≠ 23 ∧ c ≠ 24 ∧ c ≠ 47 := by omega
  have hL := rLS_st (j := c) (x := 1) g1 (by omega)
  have hp := rLp_st (j := c) (x := 1) g2 (by omega)
  have hn : rNms s.2.2.2.1 (xst D 74 c 1) := rNms_same g3 (fun j => by rw [xst_nn (by omega)])
  obtain ⟨F1, k1, k2, k3⟩ := rl_next (d := d) (x := 0) (by omega) hL hp hn xSm_refl h25 h24
  obtain ⟨F, j1, j2, j3, -⟩ := rl_formula (d := d) (w := w) (by omega) hL k2 (by omega)
  subst hw
  refine ⟨F1, F, k1, j1, ?_⟩
  unfold sAim
  have j2 : rO g N s.2.2.2.1 (xst D 74 c 1) (zFrm (tkK g N) (tkP g N) (tkV g N) (s.2.2.2.1 0) (58 + f) (s.1 + 1, s.2.1, 0, s.2.2.2.2.2)) F := j2
  cases hz : zFrm (tkK g N) (tkP g N) (tkV g N) (s.2.2.2.1 0) (58 + f) (s.1 + 1, s.2.1, 0, s.2.2.2.2.2) with
  | error x =>
    rw [hz] at j2
    exact ⟨j2.1, j2.2.1, j2.2.2.1⟩
  | ok z =>
    rw [hz] at j2
    obtain ⟨c1, c2, c3⟩ := j2
    refine ⟨rLS_E hL (rSE_0 c3), c1, c2, ?_, ?_, g6, ?_, ?_⟩
    · rw [c3 _ _ rfl, xst_nn (by omega), g4]
    · rw [c3 _ _ rfl, xst_nn (by omega), g5]
    · rcases hf with ⟨rfl, rfl⟩ | ⟨rfl, rfl⟩
      · rw [c3 _ _ rfl, xst_at]; rfl
      · rw [c3 _ _ rfl, xst_nn (by omega), g9]; rfl
    · rcases hf with ⟨rfl, rfl⟩ | ⟨rfl, rfl⟩
      · rw [c3 _ _ rfl, xst_nn (by omega), g10]; rfl
      · rw [c3 _ _ rfl, xst_at]; rfl
theorem rl_body (hd : 9 ≤ d) (h : rSt g N s D) (h24 : tkK g N s.1 ≠ 24) :
    ∃ F, xM (d + 1) 192 [mR] D = wL d 233 F ∧ rOB g N s.2.2.2.2.1 (sBody (tkK g N) (tkP g N) (tkV g N) s) F := by
  have hS := h
  obtain ⟨g1, g2, g3, g4, g5, g6, g7, g8, g9, g10⟩ := h
  have hk : rAtI g N s.1 D := g2.1
  have iw : ∀ {j : Nat} {c : Int}, rdW[j]? = some c → xM d 159 [mR, .inr (.inl c)] D = some (if tkK g N s.1 = (j : Int) then 1 else 0, D) := fun hc => rt_isWord (by omega) hk hc
  have c0 : D 74 42 = ((s.2.2.2.1 0).length : Int) := (g1.2.2 0 (by decide)).1
  have c1 : D 74 43 = ((s.2.2.2.1 1).length : Int) := (g1.2.2 1 (by decide)).1
  have c2 : D 74 44 = ((s.2.2.2.1 2).length : Int) := (g1.2.2 2 (by decide)).1
  have c3 : D 74 45 = ((s.2.2.2.1 3).length : Int) := (g1.2.2 3 (by decide)).1
  have c4 : D 74 46 = ((s.2.2.2.1 4).length : Int) := (g1.2.2 4 (by decide)).1
  have w0 := iw (j := 0) (c := 2003133803) rfl
  have w2 := iw (j := 2) (c := 499967946343) rfl
  have w4 := iw (j := 4) (c := 7102839) rfl
  have w9 := iw (j := 9) (c := 1684366692) rfl
  have w10 := iw (j := 10) (c := 6447470) rfl
  have w11 := iw (j := 11) (c := 1735352684) rfl
  have w12 := iw (j := 12) (c := 1734437230) rfl
  have w13 := iw (j := 13) (c := 444351474788) rfl
  have t228 : ∃ F, wL d 228 D = wL d 233 F ∧ rOB g N s.2.2.2.2.1 (tErr (tkK g N) (tkP g N) s.1 2) F := by
    rw [wL, xl_X12_readLine_228, rt_wrong (by omega) hk g2.2.1]
    simp only [Option.bind_some]
    refine ⟨_, rfl, ?_⟩
    obtain ⟨x, x1, x2, x3, x4⟩ := tErr_pos (k := tkK g N) (pl := tkP g N) (i := s.1) (c := 2) (by decide) (A := tB)
    rw [x1]
    exact ⟨by rw [xst_nn (by omega), xst_at, x2], by rw [xst_at, x3], x4⟩
  have t203 : wL d 203 D = if tkK g N s.1 = 13 ∧ (s.2.2.2.1 4).length < 4 then (xM d 191 [mR] D).bind fun q2 => wL d 233 q2.2 else wL d 228 D := by
    rw [wL, xl_X12_readLine_203, w13]
    simp only [Option.bind_some, Bool.cond_decide, c4]
    by_cases k : tkK g N s.1 = ((13 : Nat) : Int)
    · rw [if_pos k, if_neg (by decide)]
      by_cases hl : (s.2.2.2.1 4).length < 4
      · rw [if_neg (by omega), if_pos ⟨k, hl⟩]
      · rw [if_pos (by omega), if_neg (fun q => hl q.2)]
    · rw [if_neg k, if_pos (by decide), if_neg (fun q => k q.1)]
  have t168 : wL d 168 D = if tkK g N s.1 = 12 ∧ s.2.2.2.2.1 2 = false then (xM d 157 [mR] (xst D 74 59 1)).bind fun q2 => (xM d 179 [mR, .inl 60] q2.2).bind fun q3 => wL d 233 q3.2 else wL d 203 D := by
    rw [wL, xl_X12_readLine_168, w12]
    simp only [Option.bind_some, Bool.cond_decide, g10]
    by_cases k : tkK g N s.1 = ((12 : Nat) : Int)
    · rw [if_pos k, if_neg (by decide)]
      cases hf : s.2.2.2.2.1 2 with
      | true => rw [if_pos (by decide), if_neg (fun q => by have := q.2; cases this)]
      | false => rw [if_neg (by decide), if_pos ⟨k, rfl⟩]
    · rw [if_neg k, if_pos (by decide), if_neg (fun q => k q.1)]
  have t133 : wL d 133 D = if tkK g N s.1 = 11 ∧ s.2.2.2.2.1 1 = false then (xM d 157 [mR] (xst D 74 58 1)).bind fun q2 => (xM d 179 [mR, .inl 59] q2.2).bind fun q3 => wL d 233 q3.2 else wL d 168 D := by
    rw [wL, xl_X12_readLine_133, w11]
    simp only [Option.bind_some, Bool.cond_decide, g9]
    by_cases k : tkK g N s.1 = ((11 : Nat) : Int)
    · rw [if_pos k, if_neg (by decide)]
      cases hf : s.2.2.2.2.1 1 with
      | true => rw [if_pos (by decide), if_neg (fun q => by have := q.2; cases this)]
      | false => rw [if_neg (by decide), if_pos ⟨k, rfl⟩]
    · rw [if_neg k, if_pos (by decide), if_neg (fun q => k q.1)]
  have t108 : wL d 108 D = if tkK g N s.1 = 10 ∧ (s.2.2.2.1 3).length < 4 then (xM d 190 [mR] D).bind fun q2 => wL d 233 q2.2 else wL d 133 D := by
    rw [wL, xl_X12_readLine_108, w10]
    simp only [Option.bind_some, Bool.cond_decide, c3]
    by_cases k : tkK g N s.1 = ((10 : Nat) : Int)
    · rw [if_pos k, if_neg (by decide)]
      by_cases hl : (s.2.2.2.1 3).length < 4
      · rw [if_neg (by omega), if_pos ⟨k, hl⟩]
      · rw [if_pos (by omega), if_neg (fun q => hl q.2)]
    · rw [if_neg k, if_pos (by decide), if_neg (fun q => k q.1)]
  have t82 : wL d 82 D = if tkK g N s.1 = 9 ∧ (s.2.2.2.1 2).length < 6 then (xM d 189 [mR] D).bind fun q2 => wL d 233 q2.2 else wL d 108 D := by
    rw [wL, xl_X12_readLine_82, w9]
    simp only [Option.bind_some, Bool.cond_decide, c2]
    by_cases k : tkK g N s.1 = ((9 : Nat) : Int)
    · rw [if_pos k, if_neg (by decide)]
      by_cases hl : (s.2.2.2.1 2).length < 6
      · rw [if_neg (by omega), if_pos ⟨k, hl⟩]
      · rw [if_pos (by omega), if_neg (fun q => hl q.2)]
    · rw [if_neg k, if_pos (by decide), if_neg (fun q => k q.1)]
  have t57 : wL d 57 D = if tkK g N s.1 = 4 ∧ (s.2.2.2.1 1).length < 5 then (xM d 188 [mR] D).bind fun q2 => wL d 233 q2.2 else wL d 82 D := by
    rw [wL, xl_X12_readLine_57, w4]
    simp only [Option.bind_some, Bool.cond_decide, c1]
    by_cases k : tkK g N s.1 = ((4 : Nat) : Int)
    · rw [if_pos k, if_neg (by decide)]
      by_cases hl : (s.2.2.2.1 1).length < 5
      · rw [if_neg (by omega), if_pos ⟨k, hl⟩]
      · rw [if_pos (by omega), if_neg (fun q => hl q.2)]
    · rw [if_neg k, if_pos (by decide), if_neg (fun q => k q.1)]
  have t31 : wL d 31 D = if tkK g N s.1 = 2 ∧ (s.2.2.2.1 0).length < 6 then (xM d 185 [mR] D).bind fun q2 => wL d 233 q2.2 else wL d 57 D := by
    rw [wL, xl_X12_readLine_31, w2]
    simp only [Option.bind_some, Bool.cond_decide, c0]
    by_cases k : tkK g N s.1 = ((2 : Nat) : Int)
    · rw [if_pos k, if_neg (by decide)]
      by_cases hl : (s.2.2.2.1 0).length < 6
      · rw [if_neg (by omega), if_pos ⟨k, hl⟩]
      · rw [if_pos (by omega), if_neg (fun q => hl q.2)]
    · rw [if_neg k, if_pos (by decide), if_neg (fun q => k q.1)]
  have t0 : xM (d + 1) 192 [mR] D = if tkK g N s.1 = 0 ∧ s.2.2.2.2.1 0 = false then (xM d 184 [mR] D).bind fun q2 => wL d 233 q2.2 else wL d 31 D := by
    rw [xm_X12_readLine, w0]
    simp only [Option.bind_some, Bool.cond_decide, g8]
    by_cases k : tkK g N s.1 = ((0 : Nat) : Int)
    · rw [if_pos k, if_neg (by decide)]
      cases hf : s.2.2.2.2.1 0 with
      | true =>
        rw [if_neg (show ¬ (tkK g N s.1 = 0 ∧ true = false) from fun q => by have := q.2; cases this)]
        split
        · rfl
        · rw [if_pos (by decide)]
      | false => rw [if_neg (by rw [g7 hf]; decide), if_neg (by decide), if_pos ⟨k, rfl⟩]
    · rw [if_neg k, if_pos (by decide), if_neg (fun q => k q.1)]
  rw [t0]
  unfold sBody
  by_cases b0 : tkK g N s.1 = 0 ∧ s.2.2.2.2.1 0 = false
  · rw [if_pos b0, if_pos b0]
    obtain ⟨F, k1, k2⟩ := rl_week (d := d) (by omega) hS b0.1
    exact ⟨F, by rw [k1]; rfl, k2⟩
  rw [if_neg b0, if_neg b0, t31]
  by_cases b2 : tkK g N s.1 = 2 ∧ (s.2.2.2.1 0).length < 6
  · rw [if_pos b2, if_pos b2]
    obtain ⟨F, k1, k2⟩ := rl_thing (d := d) (by omega) hS b2.1 b2.2
    exact ⟨F, by rw [k1]; rfl, k2⟩
  rw [if_neg b2, if_neg b2, t57]
  by_cases b4 : tkK g N s.1 = 4 ∧ (s.2.2.2.1 1).length < 5
  · rw [if_pos b4, if_pos b4]
    obtain ⟨F, k1, k2⟩ := rl_law (d := d) (by omega) hS b4.1 b4.2
    exact ⟨F, by rw [k1]; rfl, k2⟩
  rw [if_neg b4, if_neg b4, t82]
  by_cases b9 : tkK g N s.1 = 9 ∧ (s.2.2.2.1 2).length < 6
  · rw [if_pos b9, if_pos b9]
    obtain ⟨F, k1, k2⟩ := rl_deed (d := d) (by omega) hS b9.1 b9.2
    exact ⟨F, by rw [k1]; rfl, k2⟩
  rw [if_neg b9, if_neg b9, t108]
  by_cases b10 : tkK g N s.1 = 10 ∧ (s.2.2.2.1 3).length < 4
  · rw [if_pos b10, if_pos b10]
    obtain ⟨F, k1, k2⟩ := rl_ban (d := d) (by omega) hS b10.1 b10.2
    exact ⟨F, by rw [k1]; rfl, k2⟩
  rw [if_neg b10, if_neg b10, t133]
  by_cases b11 : tkK g N s.1 = 11 ∧ s.2.2.2.2.1 1 = false
  · rw [if_pos b11, if_pos b11]
    obtain ⟨F1, F, k1, k2, k3⟩ := rl_aim (d := d) (f := 1) (c := 58) (w := 59) (by omega) hS (Or.inl ⟨rfl, rfl⟩) rfl (by omega) h24
    have k2 : xM d 179 [mR, .inl 59] F1 = some (0, F) := k2
    exact ⟨F, by rw [k1]; simp only [Option.bind_some]; rw [k2]; rfl, k3⟩
  rw [if_neg b11, if_neg b11, t168]
  by_cases b12 : tkK g N s.1 = 12 ∧ s.2.2.2.2.1 2 = false
  · rw [if_pos b12, if_pos b12]
    obtain ⟨F1, F, k1, k2, k3⟩ := rl_aim (d := d) (f := 2) (c := 59) (w := 60) (by omega) hS (Or.inr ⟨rfl, rfl⟩) rfl (by omega) h24
    have k2 : xM d 179 [mR, .inl 60] F1 = some (0, F) := k2
    exact ⟨F, by rw [k1]; simp only [Option.bind_some]; rw [k2]; rfl, k3⟩
  rw [if_neg b12, if_neg b12, t203]
  by_cases b13 : tkK g N s.1 = 13 ∧ (s.2.2.2.1 4).length < 4
  · rw [if_pos b13, if_pos b13]
    obtain ⟨F, k1, k2⟩ := rl_guild (d := d) (by omega) hS b13.1 b13.2
    exact ⟨F, by rw [k1]; rfl, k2⟩
  rw [if_neg b13, if_neg b13]
  exact t228
theorem rl_line (hd : 10 ≤ d) (h : rSt g N s D) (h24 : tkK g N s.1 ≠ 24) :
    ∃ F, xM d 192 [mR] D = some (0, F) ∧ rOL g N (sLine (tkK g N) (tkP g N) (tkV g N) s) F := by
  obtain ⟨d, rfl⟩ := Nat.exists_eq_add_of_le' (show 1 ≤ d by omega)
  obtain ⟨F1, k1, k2⟩ := rl_body (d := d) (by omega) h h24
  obtain ⟨F, j1, j2⟩ := rl_tail (d := d) (by omega) k2
  exact ⟨F, k1.trans j1, j2⟩
end rAll
