/-! The class in a line: names that are new, formulas, sets. -/
section cLine1
variable {oo : xC} {g : Nat → Int} {N d c r cl : Nat} {C F : xC} {z : tZ} {days : Int} {nm : Nat → List Int} {fl : Nat → Bool}
theorem cS2_25 (j : Nat) : cS2 25 j = false := decide_eq_false (by omega)
theorem cS3_25 (j : Nat) : cS3 25 j = false := decide_eq_false (by omega)
theorem cz_new (hd : 2 ≤ d) (h : cZ oo g N c r days nm z cl C) {s : Nat} {most : Int} (hs : s < 5) (hm : ((nm s).length : Int) < most) (hm6 : most ≤ 6) (h24 : tkK g N z.1 ≠ 24) :
    cR oo (fun y F => cZ oo g N c r days nm y cl F ∧ xSm (cSL r) C F ∧ F 25 (6 * s + (nm s).length) = y.2.2) (xM d 44 [pR, .inl (s : Int), .inl most] C) (zNew (tkK g N) (tkP g N) (tkV g N) (nm s) z) := by
  obtain ⟨d, rfl⟩ := Nat.exists_eq_add_of_le' (show 1 ≤ d by omega)
  have hr := cZ_r h
  have es : xix (s : Int) 5 = true := xixn hs
  rw [xm_X5_readNewName, es, Int.toNat_natCast, cZ_cnt h hs]
  rw [cond_true, decide_eq_true hm, cond_true]
  simp only [Bool.cond_decide]
  obtain ⟨F1, k1, k2, k3⟩ := cp_step (d := d) (by omega) h.1 h.2.1 h24
  obtain ⟨z1, hz1, hz2⟩ : ∃ z1 : tZ, z1.1 = z.1 + 1 ∧ z1.2 = z.2 := ⟨(z.1 + 1, z.2), rfl, rfl⟩
  have e2 : z.1 + 2 = z1.1 + 1 := by omega
  have h1 : cZ oo g N c r days nm z1 cl F1 := cZ_mv h (xSm_mono k3 fun _ _ => cS2_3) (by rw [hz1]; exact k2) (by rw [hz2]) (by rw [hz1]; exact tkP_mono z.1)
  have hk4 : F1 24 4 = tkK g N z1.1 := h1.2.1.2.1
  rw [k1]
  simp only [Option.bind_some]
  rw [hk4]
  unfold zNew
  rw [e2, ← hz1, ← hz2]
  by_cases hk : tkK g N z1.1 = 22
  · rw [if_pos hk, if_pos hk]
    obtain ⟨x, x1, x2⟩ := cp_find (d := d) (by omega) h1.1 hs (h1.2.2.2.2.2 s hs).1 (h1.2.2.2.2.2 s hs).2
    have e5 : F1 24 5 = tkV g N z1.1 := h1.2.1.2.2.1 (by omega)
    rw [e5] at x2
    rw [x1]
    simp only [Option.bind_some]
    rcases x2 with ⟨x3, x4, x5, x6⟩ | ⟨x3, x4⟩
    · rw [if_neg x6, if_pos x5]
      exact cR_err (by omega) h1.1 h1.2.1 (by decide)
    · have e1 : (F1 24 1).toNat = 25 := by rw [h1.1.1.2.1]; rfl
      have e30 : xix ((6 * s + (nm s).length : Nat) : Int) 30 = true := xixn (by omega)
      rw [if_pos x3, if_neg x4, cZ_cnt h1 hs, w32_6 (by omega), e30, e1, Int.toNat_natCast, e5, cond_true, cond_true]
      generalize tkV g N z1.1 = vv at *
      have h2 := cZ_nw (x := vv) h1 hs (by omega)
      have hS : xSm (cSL r) F1 (xst F1 25 (6 * s + (nm s).length) vv) := xSm_st xSm_refl (decide_eq_true (by omega))
      have hv : (xst F1 25 (6 * s + (nm s).length) vv) 25 (6 * s + (nm s).length) = vv := xst_at
      generalize (xst F1 25 (6 * s + (nm s).length) vv) = E at *
      obtain ⟨F2, j1, j2, j3⟩ := cp_step (d := d) (by omega) h2.1 h2.2.1 (by omega)
      rw [j1]
      refine ⟨F2, rfl, cZ_mv h2 (xSm_mono j3 fun _ _ => cS2_3) j2 rfl (tkP_mono z1.1), xSm_trans (xSm_mono k3 fun _ _ => cS2_L) (xSm_trans hS (xSm_mono j3 fun _ _ => cS2_L)), ?_⟩
      rw [j3 _ _ (cS2_25 _), hv]
  · rw [if_neg hk, if_neg hk]
    exact cR_err (by omega) h1.1 h1.2.1 (by decide)
/-- a formula -/
theorem cz_frm (hd : 106 ≤ d) (hN : N ≤ 1700) (h : cZ oo g N c r days nm z cl C) {f : Nat} (hf : f < 65) :
    cR oo (fun y F => ∃ cl' : Nat, cZ oo g N c r days nm y cl' F ∧ xSm (cSF r f) C F ∧ F (r + 8) f = (cl : Int) ∧ F (r + 9) f = (cl' : Int) ∧ cl < cl') (xM d 39 [pR, .inl (f : Int)] C) (zFrm (tkK g N) (tkP g N) (tkV g N) (nm 0) z) := by
  obtain ⟨d, rfl⟩ := Nat.exists_eq_add_of_le' (show 1 ≤ d by omega)
  have hr := cZ_r h
  have ef : xix (f : Int) 65 = true := xixn hf
  have e2 : (C 24 2).toNat = r := by rw [h.1.1.2.2.1]; rfl
  have e11 : ((xst C 24 7 0) r 11).toNat = r + 8 := by rw [xst_nn (by omega), h.1.2.1 7 (by decide)]; rfl
  have e3 : (xst C 24 7 0) r 3 = (cl : Int) := by rw [xst_nn (by omega), h.2.2.2.1.1]
  rw [xm_X5_readFormula, ef, e2, e11, e3, Int.toNat_natCast]
  simp only [xna, Bool.and_true, cond_true, Bool.true_and]
  have hS : xSm (cSF r f) C (xst (xst C 24 7 0) (r + 8) f (cl : Int)) := xSm_st (xSm_st xSm_refl (decide_eq_true (by omega))) (decide_eq_true (by omega))
  have hcF : cFd oo g N c r (nm 0) (z.1, z.2.1, 0) cl (xst (xst C 24 7 0) (r + 8) f (cl : Int)) := by
    obtain ⟨h1, h2, ⟨h3, h3b⟩, ⟨h4, h4b⟩, ⟨h5, h5b⟩, h6⟩ := h
    obtain ⟨p1, p2, p3, p4, p5⟩ := h2
    refine ⟨pSt_same (S := cSF r f) h1 hS ⟨?_, ?_, ?_⟩ (fun k _ => ?_) ⟨?_, ?_, ?_, ?_⟩ (fun j => ⟨?_, ?_, ?_⟩) (fun i j q1 q2 => ?_), ⟨?_, ?_, fun q => ?_, p4, ?_⟩, ?_, ?_, ⟨h3b.1, h3b.2, Int.le_refl _, (show (0 : Int) ≤ 30 by decide)⟩, ⟨⟨?_, fun j x hx => ?_⟩, (h6 0 (by decide)).2⟩, ?_, h4b⟩
    · simp only [cSF, decide_eq_false_iff_not]; omega
    · simp only [cSF, decide_eq_false_iff_not]; omega
    · simp only [cSF, decide_eq_false_iff_not]; omega
    · simp only [cSF, decide_eq_false_iff_not]; omega
    · simp only [cSF, decide_eq_false_iff_not]; omega
    · simp only [cSF, decide_eq_false_iff_not]; omega
    · simp only [cSF, decide_eq_false_iff_not]; omega
    · simp only [cSF, decide_eq_false_iff_not]; omega
    · simp only [cSF, decide_eq_false_iff_not]; omega
    · simp only [cSF, decide_eq_false_iff_not]; omega
    · simp only [cSF, decide_eq_false_iff_not]; omega
    · simp only [cSF, decide_eq_false_iff_not]; omega
    · rw [xst_nn (by omega), xst_nn (by omega)]; exact p1
    · rw [xst_nn (by omega), xst_nn (by omega)]; exact p2
    · rw [xst_nn (by omega), xst_nn (by omega)]; exact p3 q
    · rw [xst_nn (by omega), xst_nn (by omega)]; exact p5
    · rw [xst_nn (by omega), xst_nn (by omega)]; exact h3
    · rw [xst_nn (by omega), xst_at]
    · rw [xst_nn (by omega), xst_nn (by omega)]; exact (h6 0 (by decide)).1.1
    · rw [xst_nn (by omega), xst_nn (by omega)]; exact (h6 0 (by decide)).1.2 j x hx
    · rw [xst_nn (by omega), xst_nn (by omega)]; exact h4
  have h8 : (xst (xst C 24 7 0) (r + 8) f (cl : Int)) (r + 8) f = (cl : Int) := xst_at
  generalize (xst (xst C 24 7 0) (r + 8) f (cl : Int)) = E at *
  have hl := cf_lv hN 50 d 0 0 (z.1, z.2.1, 0) cl E (by omega) (by omega) (by omega) (by omega) hcF
  unfold zFrm sFrm
  cases hq : fLv (tkK g N) (tkP g N) (tkV g N) (nm 0) 50 0 0 (z.1, z.2.1, 0) with
  | error x =>
    rw [hq] at hl
    obtain ⟨F, k1, q1, q2, q3, q4⟩ := hl
    have k1 : xM d 40 [pR, .inl 0, .inl 0] E = some (0, F) := k1
    rw [k1]
    simp only [Option.bind_some]
    rcases q4 with ⟨w1, w2, w3⟩ | ⟨w1, w2, w3⟩
    · have e9 : (F (F 24 2).toNat 12).toNat = 11 := by rw [w1]; show (F 2 12).toNat = 11; rw [w2]; rfl
      rw [e9]
      refine ⟨_, rfl, ?_, ?_, q3, Or.inl ⟨?_, ?_, w3.1, fun i j u1 u2 => ?_⟩⟩
      all_goals rw [xst_nn (by omega)]
      · exact q1
      · exact q2
      · exact w1
      · exact w2
      · exact w3.2 i j u1 u2
    · have e9 : (F (F 24 2).toNat 12).toNat = 22 := by rw [w1]; show (F 13 12).toNat = 22; rw [w2]; rfl
      rw [e9]
      refine ⟨_, rfl, ?_, ?_, q3, Or.inr ⟨?_, ?_, w3.1, fun i j u1 u2 => ?_⟩⟩
      all_goals rw [xst_nn (by omega)]
      · exact q1
      · exact q2
      · exact w1
      · exact w2
      · exact w3.2 i j u1 u2
  | ok s1 =>
    rw [hq] at hl
    obtain ⟨F, cl', k1, k2, k3, k4, k5, k6⟩ := hl
    have k1 : xM d 40 [pR, .inl 0, .inl 0] E = some (1, F) := k1
    rw [k1]
    simp only [Option.bind_some]
    obtain ⟨m1, m2, m3, m4, m5, m6, m7, m8⟩ := k2
    have f2 : (F 24 2).toNat = r := by rw [m1.1.2.2.1]; rfl
    have f12 : (F r 12).toNat = r + 9 := by rw [m1.2.1 8 (by decide)]; rfl
    rw [f2, f12, m7]
    have hS3 : xSm (cSF r f) E F := xSm_mono k3 fun i j q => by
      simp only [cSF, cS4, decide_eq_false_iff_not] at q ⊢
      omega
    have hS4 : xSm (cSF r f) F (xst F (r + 9) f (cl' : Int)) := xSm_st xSm_refl (decide_eq_true (by omega))
    have hall : xSm (cSF r f) C (xst F (r + 9) f (cl' : Int)) := xSm_trans hS (xSm_trans hS3 hS4)
    have k : ∀ i j, i ≠ 24 → (i = r → j ≠ 2 ∧ j ≠ 3) → i ≠ r + 8 → i ≠ r + 9 → i ≠ r + 10 → (xst F (r + 9) f (cl' : Int)) i j = C i j := fun i j q1 q2 q3 q4 q5 => hall i j (by simp only [cSF, decide_eq_false_iff_not]; omega)
    obtain ⟨p1, p2, p3, p4, p5⟩ := m2
    obtain ⟨h1, h2, ⟨h3, h3b⟩, ⟨h4, h4b⟩, ⟨h5, h5b⟩, h6⟩ := h
    refine ⟨_, rfl, cl', ⟨pSt_same (S := cSF r f) m1 hS4 ⟨?_, ?_, ?_⟩ (fun k _ => ?_) ⟨?_, ?_, ?_, ?_⟩ (fun j => ⟨?_, ?_, ?_⟩) (fun i j q1 q2 => ?_), ⟨?_, ?_, fun q => ?_, p4, ?_⟩, ⟨?_, m5.1, m5.2.1⟩, ⟨?_, m8⟩, ⟨?_, h5b⟩, fun t ht => ⟨⟨?_, fun j x hx => ?_⟩, (h6 t ht).2⟩⟩, hall, ?_, xst_at, k4⟩
    · simp only [cSF, decide_eq_false_iff_not]; omega
    · simp only [cSF, decide_eq_false_iff_not]; omega
    · simp only [cSF, decide_eq_false_iff_not]; omega
    · simp only [cSF, decide_eq_false_iff_not]; omega
    · simp only [cSF, decide_eq_false_iff_not]; omega
    · simp only [cSF, decide_eq_false_iff_not]; omega
    · simp only [cSF, decide_eq_false_iff_not]; omega
    · simp only [cSF, decide_eq_false_iff_not]; omega
    · simp only [cSF, decide_eq_false_iff_not]; omega
    · simp only [cSF, decide_eq_false_iff_not]; omega
    · simp only [cSF, decide_eq_false_iff_not]; omega
    · simp only [cSF, decide_eq_false_iff_not]; omega
    · rw [xst_nn (by omega)]; exact p1
    · rw [xst_nn (by omega)]; exact p2
    · rw [xst_nn (by omega)]; exact p3 q
    · rw [xst_nn (by omega)]; exact p5
    · rw [xst_nn (by omega)]; exact m3
    · rw [xst_nn (by omega)]; exact m7
    · rw [k r 0 (by omega) (by omega) (by omega) (by omega) (by omega)]; exact h5
    · rw [k (r + 1) t (by omega) (by omega) (by omega) (by omega) (by omega)]; exact (h6 t ht).1.1
    · rw [k 25 _ (by omega) (by omega) (by omega) (by omega) (by omega)]; exact (h6 t ht).1.2 j x hx
    · rw [xst_nn (by omega), k3 (r + 8) f (by simp only [cS4, decide_eq_false_iff_not]; omega)]; exact h8
/-- a line's part: what stands then -/
def cZF (oo : xC) (g : Nat → Int) (N c r : Nat) (days : Int) (nm : Nat → List Int) (fl : Nat → Bool) (z : tZ) (C : xC) : Prop := ∃ cl, cZ oo g N c r days nm z cl C ∧ cFg r fl C
theorem cz_feast (hd : 3 ≤ d) (h : cZ oo g N c r days nm z cl C) (hf : cFg r fl C) {a : Nat} (ha : a < 9) :
    cR oo (fun y F => cZ oo g N c r days nm y cl F ∧ cFg r fl F ∧ ∀ j, F 25 j = C 25 j) (xM d 37 [pR, .inl (a : Int)] C) (zFeast (tkK g N) (tkP g N) (tkV g N) days z) := by
  obtain ⟨d, rfl⟩ := Nat.exists_eq_add_of_le' (show 1 ≤ d by omega)
  have hr := cZ_r h
  rw [xm_X5_readFeast]
  simp only [Bool.cond_decide]
  refine cR_bind (cz_acc (by omega) h (by decide)) (fun F => rfl) fun z1 F1 ⟨a1, a2, a3⟩ => ?_
  have e2 : (F1 24 2).toNat = r := by rw [a1.1.1.2.2.1]; rfl
  have hf1 := cFg_L hr hf (xSm_mono a2 fun _ _ => cS2_L)
  dsimp only
  rw [if_neg (by decide), e2, a1.2.2.2.2.1.1, w32_id (by have := a1.2.2.2.2.1.2; omega) (by have := a1.2.2.2.2.1.2; omega)]
  have hnum := cz_num (d := d) (by omega) a1 (lo := 0) (hi := days - 1)
  have hq : zNum (tkK g N) (tkP g N) (tkV g N) 0 (days - 1) z1 = (zNum (tkK g N) (tkP g N) (tkV g N) 0 (days - 1) z1).bind fun y => .ok y := by cases zNum (tkK g N) (tkP g N) (tkV g N) 0 (days - 1) z1 <;> rfl
  rw [hq]
  refine cR_bind hnum (fun F => rfl) fun z2 F2 ⟨b1, b2, b3, b4⟩ => ?_
  have hf2 := cFg_L hr hf1 (xSm_mono b2 fun _ _ => cS3_L)
  have e3 := cZ_row (k := 3) b1 (by decide)
  have e3 : (F2 (F2 24 2).toNat 7).toNat = r + 1 + 3 := e3
  have ea : xix (a : Int) 9 = true := xixn ha
  dsimp only
  rw [if_pos (by decide), ea, e3, Int.toNat_natCast]
  simp only [xna, Bool.and_true, cond_true]
  exact ⟨_, rfl, cZ_pt b1 (by omega), cFg_L hr hf2 (xSm_st xSm_refl (decide_eq_true (by omega))), fun j => by rw [xst_nn (by omega), b2 _ _ rfl, a2 _ _ rfl]⟩
/-- the sets -/
theorem cz_sets (hd : 108 ≤ d) (hN : N ≤ 1700) {a : Nat} (ha : a < 11) : ∀ (n i : Nat) (z : tZ) (cl : Nat) (C : xC) (o : Option xV), i + n = 4 → cZ oo g N c r days nm z cl C → cFg r fl C →
    cR oo (cZF oo g N c r days nm fl) (xw_X5_readActor d (30, [some pR, some (.inl (a : Int)), some (.inl (i : Int)), o], [], C)) ((zSets (tkK g N) (tkP g N) (tkV g N) (nm 0) n z).bind fun z => zAcc (tkK g N) (tkP g N) 59 z) := by
  intro n
  induction n with
  | zero =>
    intro i z cl C o hi h hf
    rw [xl_X5_readActor_30]
    simp only [Bool.cond_decide]
    rw [if_pos (by omega)]
    exact cR_err (by omega) h.1 h.2.1 (by decide)
  | succ n ih =>
    intro i z cl C o hi h hf
    have hr := cZ_r h
    have w1 : w32 (w32 ((a : Int) * 4) + (i : Int)) = ((4 * a + i : Nat) : Int) := by rw [w32_id (z := (a : Int) * 4) (by omega) (by omega), w32_id (by omega) (by omega)]; omega
    have w2 : w32 (21 + ((4 * a + i : Nat) : Int)) = ((21 + (4 * a + i) : Nat) : Int) := by rw [w32_id (by omega) (by omega)]; omega
    have x44 : xix ((4 * a + i : Nat) : Int) 44 = true := xixn (by omega)
    have x11 : xix (a : Int) 11 = true := xixn ha
    have w3 : w32 ((i : Int) + 1) = ((i + 1 : Nat) : Int) := w32_s (by omega)
    rw [xl_X5_readActor_30]
    simp only [Bool.cond_decide, zSets, zSet, tX_assoc]
    rw [if_neg (by omega), w1, w2, w3, x44, x11]
    simp only [xna, Bool.and_true, cond_true, Int.toNat_natCast]
    refine cR_bind (cz_old (s := 0) (by omega) h (by decide)) (fun F => rfl) fun z1 F1 ⟨a1, a2⟩ => ?_
    have hf1 := cFg_L hr hf (xSm_mono a2 fun _ _ => cS3_L)
    have e6 : (F1 (F1 24 2).toNat 10).toNat = r + 1 + 6 := cZ_row (k := 6) a1 (by decide)
    dsimp only
    rw [if_pos (by decide), e6]
    have b1 := cZ_pt (i := r + 1 + 6) (j := 4 * a + i) (x := F1 24 6) a1 (by omega)
    have hf2 : cFg r fl (xst F1 (r + 1 + 6) (4 * a + i) (F1 24 6)) := cFg_L hr hf1 (xSm_st xSm_refl (decide_eq_true (by omega)))
    generalize (xst F1 (r + 1 + 6) (4 * a + i) (F1 24 6)) = E at *
    refine cR_bind (cz_acc (by omega) b1 (by decide)) (fun F => by simp only [if_true]; exact xl_X5_readActor_84 _ _ _ _ _) fun z2 F2 ⟨c1, c2, c3⟩ => ?_
    have hf3 := cFg_L hr hf2 (xSm_mono c2 fun _ _ => cS2_L)
    dsimp only
    rw [if_neg (by decide)]
    refine cR_bind (cz_frm (by omega) hN c1 (f := 21 + (4 * a + i)) (by omega)) (fun F => by simp only [ne_eq, not_true_eq_false, if_false]; exact xl_X5_readActor_84 _ _ _ _ _) fun z3 F3 ⟨cl3, d1, d2, d3⟩ => ?_
    have hf4 := cFg_L hr hf3 (xSm_mono d2 fun _ _ => cSF_L (by omega) (by omega))
    have e5 : (F3 (F3 24 2).toNat 9).toNat = r + 1 + 5 := cZ_row (k := 5) d1 (by decide)
    dsimp only
    rw [if_pos (by decide), e5]
    have g1 := cZ_pt (i := r + 1 + 5) (j := a) (x := ((i + 1 : Nat) : Int)) d1 (by omega)
    have hf5 : cFg r fl (xst F3 (r + 1 + 5) a ((i + 1 : Nat) : Int)) := cFg_L hr hf4 (xSm_st xSm_refl (decide_eq_true (by omega)))
    generalize (xst F3 (r + 1 + 5) a ((i + 1 : Nat) : Int)) = E2 at *
    rw [g1.2.1.2.1]
    by_cases h8 : tkK g N z3.1 = 8
    · rw [if_pos h8, if_pos h8]
      by_cases hn : n = 0
      · rw [if_pos (by omega), if_pos hn, xl_X5_readActor_125, w3]
        exact ih (i + 1) z3 cl3 E2 _ (by omega) g1 hf5
      · obtain ⟨F5, k1, k2, k3⟩ := cp_step (d := d) (by omega) g1.1 g1.2.1 (by omega)
        rw [if_neg (by omega), if_neg hn, k1]
        simp only [Option.bind_some]
        rw [xl_X5_readActor_125, w3]
        exact ih (i + 1) (z3.1 + 1, z3.2) cl3 F5 _ (by omega) (cZ_mv g1 (xSm_mono k3 fun _ _ => cS2_3) k2 rfl (tkP_mono z3.1)) (cFg_L hr hf5 (xSm_mono k3 fun _ _ => cS2_L))
    · rw [if_neg h8, if_neg h8]
      refine cR_fr (cR_mono (cz_acc (by omega) g1 (by decide)) fun y F ⟨q1, q2, q3⟩ => ⟨cl3, q1, cFg_L hr hf5 (xSm_mono q2 fun _ _ => cS2_L)⟩)
theorem cz_actor (hd : 110 ≤ d) (hN : N ≤ 1700) (h : cZ oo g N c r days nm z cl C) (hf : cFg r fl C) {a : Nat} (ha : a < 11) :
    cR oo (cZF oo g N c r days nm fl) (xM d 38 [pR, .inl (a : Int)] C) ((zActor (tkK g N) (tkP g N) (tkV g N) (nm 0) z).bind fun z => zAcc (tkK g N) (tkP g N) 59 z) := by
  obtain ⟨d, rfl⟩ := Nat.exists_eq_add_of_le' (show 1 ≤ d by omega)
  have hr := cZ_r h
  rw [xm_X5_readActor]
  unfold zActor
  simp only [Bool.cond_decide, tX_assoc]
  refine cR_bind (cz_acc (by omega) h (by decide)) (fun F => by simp only [if_true]; exact xl_X5_readActor_26 _ _ _) fun z1 F1 ⟨a1, a2, a3⟩ => ?_
  have hf1 := cFg_L hr hf (xSm_mono a2 fun _ _ => cS2_L)
  dsimp only
  rw [if_neg (by decide)]
  refine cR_bind (cz_frm (by omega) hN a1 (f := a) (by omega)) (fun F => by simp only [if_true]; exact xl_X5_readActor_26 _ _ _) fun z2 F2 ⟨cl2, b1, b2, b3⟩ => ?_
  have hf2 := cFg_L hr hf1 (xSm_mono b2 fun _ _ => cSF_L (by omega) (by omega))
  dsimp only
  rw [if_neg (by decide)]
  refine cR_bind (cz_acc (by omega) b1 (by decide)) (fun F => by simp only [ne_eq, not_true_eq_false, if_false]; exact xl_X5_readActor_26 _ _ _) fun z3 F3 ⟨c1, c2, c3⟩ => ?_
  have hf3 := cFg_L hr hf2 (xSm_mono c2 fun _ _ => cS2_L)
  dsimp only
  rw [if_pos (by decide)]
  exact cz_sets (by omega) hN ha 4 0 z3 cl2 F3 none rfl c1 hf3
end cLine1
