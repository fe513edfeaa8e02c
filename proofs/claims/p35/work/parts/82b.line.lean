/-! The class in a line: names that are new, formulas, sets. -/
section cLine1
variable {oo : xC} {g : Nat → Int} {N d c r cl : Nat} {C F : xC} {z : tZ} {days : Int} {nm : Nat → List Int} {fl : Nat → Bool}
theorem cS2_25 (j : Nat) : cS2 25 j = false := decide_eq_false (by omega)
theorem cS3_25 (j : Nat) : cS3 25 j = false := decide_eq_false (by omega)
theorem cz0_new (hd : 2 ≤ d) (h : cZ0 oo g N c r days nm z cl C) {s : Nat} {most : Int} (hs : s < 5) (hm : ((nm s).length : Int) < most) (hm6 : most ≤ 6) (h24 : tkK g N z.1 ≠ 24) :
    cR oo (fun y F => cZ0 oo g N c r days nm y cl F ∧ xSm (cSL r) C F ∧ F 25 (6 * s + (nm s).length) = y.2.2.1 ∧ y.2.2.2 = z.2.2.2 ∧ (∀ i j, i ≠ 24 → i ≠ 25 → F i j = C i j) ∧ y.2.2.1 ∉ nm s) (xM d 44 [pR, .inl (s : Int), .inl most] C) (zNew (tkK g N) (tkP g N) (tkV g N) (nm s) z) := by
  obtain ⟨d, rfl⟩ := Nat.exists_eq_add_of_le' (show 1 ≤ d by omega)
  have hr := cZ0_r h
  have es : xix (s : Int) 5 = true := xixn hs
  rw [xm_X5_readNewName, es, Int.toNat_natCast, cZ0_cnt h hs]
  rw [cond_true, decide_eq_true hm, cond_true]
  simp only [Bool.cond_decide]
  obtain ⟨F1, k1, k2, k3⟩ := cp_step (d := d) (by omega) h.1 h.2.1 h24
  obtain ⟨z1, hz1, hz2⟩ : ∃ z1 : tZ, z1.1 = z.1 + 1 ∧ z1.2 = z.2 := ⟨(z.1 + 1, z.2), rfl, rfl⟩
  have e2 : z.1 + 2 = z1.1 + 1 := by omega
  have h1 : cZ0 oo g N c r days nm z1 cl F1 := cZ0_mv h (xSm_mono k3 fun _ _ => cS2_3) (by rw [hz1]; exact k2) (by rw [hz2]) (by rw [hz1]; exact tkP_mono z.1)
  have hk4 : F1 24 4 = tkK g N z1.1 := h1.2.1.2.1
  rw [k1]
  simp only [Option.bind_some]
  rw [hk4]
  unfold zNew
  rw [e2, ← hz1, ← hz2]
  by_cases hk : tkK g N z1.1 = 22
  · rw [if_pos hk, if_pos hk]
    obtain ⟨x, x1, x2⟩ := cp_find (d := d) (by omega) h1.1 hs (h1.2.2.2.2.2 s hs).1 (h1.2.2.2.2.2 s hs).2
    have e5 : F1 24 5 = tkV g N z1.1 := h1.2.1.2.2.1 (by omega)
    rw [e5] at x2
    rw [x1]
    simp only [Option.bind_some]
    rcases x2 with ⟨x3, x4, x5, x6⟩ | ⟨x3, x4⟩
    · rw [if_neg x6, if_pos x5]
      exact cR_err (by omega) h1.1 h1.2.1 (by decide)
    · have e1 : (F1 24 1).toNat = 25 := by rw [h1.1.1.2.1]; rfl
      have e30 : xix ((6 * s + (nm s).length : Nat) : Int) 30 = true := xixn (by omega)
      rw [if_pos x3, if_neg x4, cZ0_cnt h1 hs, w32_6 (by omega), e30, e1, Int.toNat_natCast, e5, cond_true, cond_true]
      generalize tkV g N z1.1 = vv at *
      have h2 := cZ0_nw (x := vv) h1 hs (by omega)
      have hS : xSm (cSL r) F1 (xst F1 25 (6 * s + (nm s).length) vv) := xSm_st xSm_refl (decide_eq_true (by omega))
      have hfr : ∀ i j, i ≠ 24 → i ≠ 25 → (xst F1 25 (6 * s + (nm s).length) vv) i j = C i j := fun i j q1 q2 => by rw [xst_nn (fun q => q2 q.1)]; exact k3 i j (by simp only [cS2, decide_eq_false_iff_not]; omega)
      have hv : (xst F1 25 (6 * s + (nm s).length) vv) 25 (6 * s + (nm s).length) = vv := xst_at
      generalize (xst F1 25 (6 * s + (nm s).length) vv) = E at *
      obtain ⟨F2, j1, j2, j3⟩ := cp_step (d := d) (by omega) h2.1 h2.2.1 (by omega)
      rw [j1]
      refine ⟨F2, rfl, cZ0_mv h2 (xSm_mono j3 fun _ _ => cS2_3) j2 rfl (tkP_mono z1.1), xSm_trans (xSm_mono k3 fun _ _ => cS2_L) (xSm_trans hS (xSm_mono j3 fun _ _ => cS2_L)), ?_, by rw [hz2], fun i j q1 q2 => (j3 i j (by simp only [cS2, decide_eq_false_iff_not]; omega)).trans (hfr i j q1 q2), x4⟩
      rw [j3 _ _ (cS2_25 _), hv]
  · rw [if_neg hk, if_neg hk]
    exact cR_err (by omega) h1.1 h1.2.1 (by decide)
theorem tX_ok {A B : Type} (a : A) (f : A → tX B) : (Except.ok a : tX A).bind f = f a := rfl
/-- a formula -/
theorem cz0_frm (hd : 106 ≤ d) (hN : N ≤ 1700) (hnd : (nm 0).Nodup) {cs : List Int} (h : cZ0 oo g N c r days nm z cs.length C) (hcs : cRw r cs C) {f w : Nat} (hf : f < 65) :
    cR oo (fun y F => (cZ0 oo g N c r days nm y (cs ++ (pFrm (tkK g N) (tkP g N) (tkV g N) (nm 0) z.1 z.2.1).map ce).length F ∧ cRw r (cs ++ (pFrm (tkK g N) (tkP g N) (tkV g N) (nm 0) z.1 z.2.1).map ce) F ∧ y.2.2.2 = cL z.2.2.2 w (pFrm (tkK g N) (tkP g N) (tkV g N) (nm 0) z.1 z.2.1)) ∧ xSm (cSF r f) C F ∧ F (r + 8) f = (cs.length : Int) ∧ F (r + 9) f = ((cs ++ (pFrm (tkK g N) (tkP g N) (tkV g N) (nm 0) z.1 z.2.1).map ce).length : Int) ∧ cs.length < (cs ++ (pFrm (tkK g N) (tkP g N) (tkV g N) (nm 0) z.1 z.2.1).map ce).length) (xM d 39 [pR, .inl (f : Int)] C) (zFrm (tkK g N) (tkP g N) (tkV g N) (nm 0) w z) := by
  obtain ⟨d, rfl⟩ := Nat.exists_eq_add_of_le' (show 1 ≤ d by omega)
  have hr := cZ0_r h
  have ef : xix (f : Int) 65 = true := xixn hf
  have e2 : (C 24 2).toNat = r := by rw [h.1.1.2.2.1]; rfl
  have e11 : ((xst C 24 7 0) r 11).toNat = r + 8 := by rw [xst_nn (by omega), h.1.2.1 7 (by decide)]; rfl
  have e3 : (xst C 24 7 0) r 3 = (cs.length : Int) := by rw [xst_nn (by omega), h.2.2.2.1.1]
  rw [xm_X5_readFormula, ef, e2, e11, e3, Int.toNat_natCast]
  simp only [xna, Bool.and_true, cond_true, Bool.true_and]
  have hS : xSm (cSF r f) C (xst (xst C 24 7 0) (r + 8) f (cs.length : Int)) := xSm_st (xSm_st xSm_refl (decide_eq_true (by omega))) (decide_eq_true (by omega))
  have hcF : cFd oo g N c r (nm 0) (z.1, z.2.1, 0) cs (xst (xst C 24 7 0) (r + 8) f (cs.length : Int)) := by
    obtain ⟨h1, h2, ⟨h3, h3b⟩, ⟨h4, h4b⟩, ⟨h5, h5b⟩, h6⟩ := h
    obtain ⟨p1, p2, p3, p4, p5⟩ := h2
    refine ⟨pSt_same (S := cSF r f) h1 hS ⟨?_, ?_, ?_⟩ (fun k _ => ?_) ⟨?_, ?_, ?_, ?_⟩ (fun j => ⟨?_, ?_, ?_⟩) (fun i j q1 q2 => ?_), ⟨?_, ?_, fun q => ?_, p4, ?_⟩, ?_, ?_, ⟨h3b.1, h3b.2, Int.le_refl _, (show (0 : Int) ≤ 30 by decide)⟩, ⟨⟨?_, fun j x hx => ?_⟩, (h6 0 (by decide)).2⟩, ⟨?_, cRw_same hcs fun j => by rw [xst_nn (by omega), xst_nn (by omega)]⟩, h4b⟩
    · simp only [cSF, decide_eq_false_iff_not]; omega
    · simp only [cSF, decide_eq_false_iff_not]; omega
    · simp only [cSF, decide_eq_false_iff_not]; omega
    · simp only [cSF, decide_eq_false_iff_not]; omega
    · simp only [cSF, decide_eq_false_iff_not]; omega
    · simp only [cSF, decide_eq_false_iff_not]; omega
    · simp only [cSF, decide_eq_false_iff_not]; omega
    · simp only [cSF, decide_eq_false_iff_not]; omega
    · simp only [cSF, decide_eq_false_iff_not]; omega
    · simp only [cSF, decide_eq_false_iff_not]; omega
    · simp only [cSF, decide_eq_false_iff_not]; omega
    · simp only [cSF, decide_eq_false_iff_not]; omega
    · rw [xst_nn (by omega), xst_nn (by omega)]; exact p1
    · rw [xst_nn (by omega), xst_nn (by omega)]; exact p2
    · rw [xst_nn (by omega), xst_nn (by omega)]; exact p3 q
    · rw [xst_nn (by omega), xst_nn (by omega)]; exact p5
    · rw [xst_nn (by omega), xst_nn (by omega)]; exact h3
    · rw [xst_nn (by omega), xst_at]
    · rw [xst_nn (by omega), xst_nn (by omega)]; exact (h6 0 (by decide)).1.1
    · rw [xst_nn (by omega), xst_nn (by omega)]; exact (h6 0 (by decide)).1.2 j x hx
    · rw [xst_nn (by omega), xst_nn (by omega)]; exact h4
  have h8 : (xst (xst C 24 7 0) (r + 8) f (cs.length : Int)) (r + 8) f = (cs.length : Int) := xst_at
  generalize (xst (xst C 24 7 0) (r + 8) f (cs.length : Int)) = E at *
  have hl := cf_lv hN hnd 50 d 0 0 (z.1, z.2.1, 0) cs E (by omega) (by omega) (by omega) (by omega) hcF
  unfold zFrm sFrm
  cases hq : fLv (tkK g N) (tkP g N) (tkV g N) (nm 0) 50 0 0 (z.1, z.2.1, 0) with
  | error x =>
    rw [hq] at hl
    obtain ⟨F, k1, q1, q2, q3, q4⟩ := hl
    have k1 : xM d 40 [pR, .inl 0, .inl 0] E = some (0, F) := k1
    rw [k1]
    simp only [Option.bind_some]
    rcases q4 with ⟨w1, w2, w3⟩ | ⟨w1, w2, w3⟩
    · have e9 : (F (F 24 2).toNat 12).toNat = 11 := by rw [w1]; show (F 2 12).toNat = 11; rw [w2]; rfl
      rw [e9]
      refine ⟨_, rfl, ?_, ?_, q3, Or.inl ⟨?_, ?_, w3.1, fun i j u1 u2 => ?_⟩⟩
      all_goals rw [xst_nn (by omega)]
      · exact q1
      · exact q2
      · exact w1
      · exact w2
      · exact w3.2 i j u1 u2
    · have e9 : (F (F 24 2).toNat 12).toNat = 22 := by rw [w1]; show (F 13 12).toNat = 22; rw [w2]; rfl
      rw [e9]
      refine ⟨_, rfl, ?_, ?_, q3, Or.inr ⟨?_, ?_, w3.1, fun i j u1 u2 => ?_⟩⟩
      all_goals rw [xst_nn (by omega)]
      · exact q1
      · exact q2
      · exact w1
      · exact w2
      · exact w3.2 i j u1 u2
  | ok s1 =>
    rw [hq] at hl
    obtain ⟨F, k1, k2, k3, k4, k5, k6⟩ := hl
    have hcs' : (cs ++ (pFrm (tkK g N) (tkP g N) (tkV g N) (nm 0) z.1 z.2.1).map ce) = (cs ++ (pLv (tkK g N) (tkP g N) (tkV g N) (nm 0) 50 0 0 (z.1, z.2.1, 0)).map ce) := rfl
    have hlen : (cs ++ (pFrm (tkK g N) (tkP g N) (tkV g N) (nm 0) z.1 z.2.1).map ce).length = cs.length + (pFrm (tkK g N) (tkP g N) (tkV g N) (nm 0) z.1 z.2.1).length := by rw [List.length_append, List.length_map]
    have k4 : 0 < (pFrm (tkK g N) (tkP g N) (tkV g N) (nm 0) z.1 z.2.1).length := k4
    rw [← hcs'] at k2
    generalize hcl : (cs ++ (pFrm (tkK g N) (tkP g N) (tkV g N) (nm 0) z.1 z.2.1).map ce) = cs2 at *
    have k1 : xM d 40 [pR, .inl 0, .inl 0] E = some (1, F) := k1
    rw [k1]
    simp only [Option.bind_some]
    obtain ⟨m1, m2, m3, m4, m5, m6, m7, m8⟩ := k2
    have f2 : (F 24 2).toNat = r := by rw [m1.1.2.2.1]; rfl
    have f12 : (F r 12).toNat = r + 9 := by rw [m1.2.1 8 (by decide)]; rfl
    rw [f2, f12, m7.1]
    have hS3 : xSm (cSF r f) E F := xSm_mono k3 fun i j q => by
      simp only [cSF, cS4, decide_eq_false_iff_not] at q ⊢
      omega
    have hS4 : xSm (cSF r f) F (xst F (r + 9) f (cs2.length : Int)) := xSm_st xSm_refl (decide_eq_true (by omega))
    have hall : xSm (cSF r f) C (xst F (r + 9) f (cs2.length : Int)) := xSm_trans hS (xSm_trans hS3 hS4)
    have k : ∀ i j, i ≠ 24 → (i = r → j ≠ 2 ∧ j ≠ 3) → i ≠ r + 8 → i ≠ r + 9 → i ≠ r + 10 → (xst F (r + 9) f (cs2.length : Int)) i j = C i j := fun i j q1 q2 q3 q4 q5 => hall i j (by simp only [cSF, decide_eq_false_iff_not]; omega)
    obtain ⟨p1, p2, p3, p4, p5⟩ := m2
    obtain ⟨h1, h2, ⟨h3, h3b⟩, ⟨h4, h4b⟩, ⟨h5, h5b⟩, h6⟩ := h
    refine ⟨_, rfl, ⟨⟨pSt_same (S := cSF r f) m1 hS4 ⟨?_, ?_, ?_⟩ (fun k _ => ?_) ⟨?_, ?_, ?_, ?_⟩ (fun j => ⟨?_, ?_, ?_⟩) (fun i j q1 q2 => ?_), ⟨?_, ?_, fun q => ?_, p4, ?_⟩, ⟨?_, m5.1, m5.2.1⟩, ⟨?_, m8⟩, ⟨?_, h5b⟩, fun t ht => ⟨⟨?_, fun j x hx => ?_⟩, (h6 t ht).2⟩⟩, cRw_same m7.2 (fun j => by rw [xst_nn (by omega)]), rfl⟩, hall, ?_, xst_at, by omega⟩
    · simp only [cSF, decide_eq_false_iff_not]; omega
    · simp only [cSF, decide_eq_false_iff_not]; omega
    · simp only [cSF, decide_eq_false_iff_not]; omega
    · simp only [cSF, decide_eq_false_iff_not]; omega
    · simp only [cSF, decide_eq_false_iff_not]; omega
    · simp only [cSF, decide_eq_false_iff_not]; omega
    · simp only [cSF, decide_eq_false_iff_not]; omega
    · simp only [cSF, decide_eq_false_iff_not]; omega
    · simp only [cSF, decide_eq_false_iff_not]; omega
    · simp only [cSF, decide_eq_false_iff_not]; omega
    · simp only [cSF, decide_eq_false_iff_not]; omega
    · simp only [cSF, decide_eq_false_iff_not]; omega
    · rw [xst_nn (by omega)]; exact p1
    · rw [xst_nn (by omega)]; exact p2
    · rw [xst_nn (by omega)]; exact p3 q
    · rw [xst_nn (by omega)]; exact p5
    · rw [xst_nn (by omega)]; exact m3
    · rw [xst_nn (by omega)]; exact m7.1
    · rw [k r 0 (by omega) (by omega) (by omega) (by omega) (by omega)]; exact h5
    · rw [k (r + 1) t (by omega) (by omega) (by omega) (by omega) (by omega)]; exact (h6 t ht).1.1
    · rw [k 25 _ (by omega) (by omega) (by omega) (by omega) (by omega)]; exact (h6 t ht).1.2 j x hx
    · rw [xst_nn (by omega), k3 (r + 8) f (by simp only [cS4, decide_eq_false_iff_not]; omega)]; exact h8
theorem cf_inj {w u : Nat} (hw : w < 65) (hu : u < 65) (h : cf w = cf u) : w = u := by
  unfold cf at h
  repeat' split at h
  all_goals omega
theorem cf_act {a : Nat} (ha : a < 11) : cf (5 * a) = a := by
  unfold cf
  rw [if_pos (by omega), if_pos (by omega)]
  omega
theorem cf_set {a i : Nat} (ha : a < 11) (hi : i < 4) : cf (5 * a + 1 + i) = 21 + (4 * a + i) := by
  unfold cf
  rw [if_pos (by omega), if_neg (by omega)]
  omega
theorem cf_ban {n : Nat} (h : n < 4) : cf (55 + n) = 11 + n := by
  unfold cf
  rw [if_neg (by omega), if_pos (by omega)]
  omega
theorem cf_aim {f : Nat} (h : f = 1 ∨ f = 2) : cf (58 + f) = 14 + f := by
  rcases h with rfl | rfl <;> rfl
theorem cf_guild {n : Nat} (h : n < 4) : cf (61 + n) = 17 + n := by
  unfold cf
  rw [if_neg (by omega), if_neg (by omega), if_neg (by omega)]
  omega
theorem cC_same {q : tC} {cs : List Int} (h : cC q cs r C) (hs : ∀ i j, ((i = r ∧ j = 1) ∨ i = r + 2 ∨ i = r + 3 ∨ i = r + 6 ∨ i = r + 7 ∨ i = r + 8 ∨ i = r + 9) → F i j = C i j) : cC q cs r F := by
  obtain ⟨h1, h2, h3⟩ := h
  refine ⟨fun w l hw hl => ?_, fun x hx => (hs _ _ (by omega)).trans (h2 x hx), fun j x => ⟨fun hx => (hs _ _ (by omega)).trans ((h3 j x).1 hx), fun hx => (hs _ _ (by omega)).trans ((h3 j x).2.1 hx), fun hx => (hs _ _ (by omega)).trans ((h3 j x).2.2.1 hx), fun hx => (hs _ _ (by omega)).trans ((h3 j x).2.2.2 hx)⟩⟩
  obtain ⟨b, b1, b2, b3⟩ := h1 w l hw hl
  exact ⟨b, (hs _ _ (by omega)).trans b1, (hs _ _ (by omega)).trans b2, b3⟩
/-- the class in a line, with what is told -/
def cZ (oo : xC) (g : Nat → Int) (N c r : Nat) (days : Int) (nm : Nat → List Int) (z : tZ) (cs : List Int) (C : xC) : Prop := cZ0 oo g N c r days nm z cs.length C ∧ cRw r cs C ∧ cC z.2.2.2 cs r C ∧ ∀ t, t < 5 → (nm t).Nodup
variable {cs : List Int}
theorem cZ_r (h : cZ oo g N c r days nm z cs C) : r = 2 ∨ r = 13 := cZ0_r h.1
theorem cZ_step {z' : tZ} (h : cZ oo g N c r days nm z cs C) (h' : cZ0 oo g N c r days nm z' cs.length F) (hs : ∀ i j, i ≠ 24 → i ≠ 25 → F i j = C i j) (hc : z'.2.2.2 = z.2.2.2) : cZ oo g N c r days nm z' cs F := by
  have hr := cZ0_r h.1
  exact ⟨h', cRw_same h.2.1 fun j => hs _ _ (by omega) (by omega), by rw [hc]; exact cC_same h.2.2.1 fun i j q => hs _ _ (by omega) (by omega), h.2.2.2⟩
theorem cZ_mv {z' : tZ} (h : cZ oo g N c r days nm z cs C) (hs : xSm cS3 C F) (ha : pAt g N c z'.1 F) (hu : z'.2.1 = z.2.1) (hp : tkP g N z.1 ≤ tkP g N z'.1) (hc : z'.2.2.2 = z.2.2.2) : cZ oo g N c r days nm z' cs F :=
  cZ_step h (cZ0_mv h.1 hs ha hu hp) (fun i j q1 _ => hs i j (by simp only [cS3, decide_eq_false_iff_not]; omega)) hc
theorem cZ_cnt {t : Nat} (h : cZ oo g N c r days nm z cs C) (ht : t < 5) : C (C (C 24 2).toNat 4).toNat t = ((nm t).length : Int) := cZ0_cnt h.1 ht
theorem cZ_row {k : Nat} (h : cZ oo g N c r days nm z cs C) (hk : k < 10) : (C (C 24 2).toNat (4 + k)).toNat = r + 1 + k := cZ0_row h.1 hk
/-- a row's place is written of which nothing is told -/
theorem cZ_ptn {i j : Nat} {x : Int} (h : cZ oo g N c r days nm z cs C) (hi : i = r + 4 ∨ i = r + 5) : cZ oo g N c r days nm z cs (xst C i j x) :=
  ⟨cZ0_pt h.1 (by omega), cRw_same h.2.1 fun j => by rw [xst_nn (by omega)], cC_same h.2.2.1 fun i' j' q => by rw [xst_nn (by omega)], h.2.2.2⟩
theorem cZ_put {i i' j : Nat} {x : Int} (h : cZ oo g N c r days nm z cs C) (hi : (i = 87 ∧ i' = r + 2) ∨ (i = 88 ∧ i' = r + 3) ∨ (i = 92 ∧ i' = r + 6) ∨ (i = 93 ∧ i' = r + 7)) : cZ oo g N c r days nm (zCnt i j x z) cs (xst C i' j x) := by
  obtain ⟨h1, h2, ⟨h3, h4, h5⟩, h6⟩ := h
  have hp : cZ0 oo g N c r days nm z cs.length (xst C i' j x) := cZ0_pt h1 (by omega)
  refine ⟨hp, cRw_same h2 fun j => by rw [xst_nn (by omega)], ⟨fun w l hw hl => ?_, fun y hy => ?_, fun j' y => ?_⟩, h6⟩
  · obtain ⟨b, b1, b2, b3⟩ := h3 w l hw hl
    exact ⟨b, by rw [xst_nn (by omega), b1], by rw [xst_nn (by omega), b2], b3⟩
  · have hy : (if 0 = i ∧ 0 = j then some x else z.2.2.2.2 0 0) = some y := hy
    rw [if_neg (by omega)] at hy
    rw [xst_nn (by omega)]
    exact h4 y hy
  · have key : ∀ (m m' : Nat), ((m = 87 ∧ m' = r + 2) ∨ (m = 88 ∧ m' = r + 3) ∨ (m = 92 ∧ m' = r + 6) ∨ (m = 93 ∧ m' = r + 7)) → (z.2.2.2.2 m j' = some y → C m' j' = y) → (cM z.2.2.2 i j x).2 m j' = some y → (xst C i' j x) m' j' = y := by
      intro m m' hm hold hy
      have hy : (if m = i ∧ j' = j then some x else z.2.2.2.2 m j') = some y := hy
      rw [xst_get]
      by_cases e : m = i ∧ j' = j
      · rw [if_pos e] at hy
        rw [if_pos (show m' = i' ∧ j' = j by omega)]
        exact Option.some.inj hy
      · rw [if_neg e] at hy
        rw [if_neg (show ¬ (m' = i' ∧ j' = j) by omega)]
        exact hold hy
    exact ⟨key 87 (r + 2) (by omega) (h5 j' y).1, key 88 (r + 3) (by omega) (h5 j' y).2.1, key 92 (r + 6) (by omega) (h5 j' y).2.2.1, key 93 (r + 7) (by omega) (h5 j' y).2.2.2⟩
theorem cZ_48 {x : Int} (h : cZ oo g N c r days nm z cs C) : cZ oo g N c r days nm (zCnt 0 0 x z) cs (xst C r 1 x) := by
  obtain ⟨h1, h2, ⟨h3, h4, h5⟩, h6⟩ := h
  have hp : cZ0 oo g N c r days nm z cs.length (xst C r 1 x) := cZ0_pt h1 (by omega)
  refine ⟨hp, cRw_same h2 fun j => by rw [xst_nn (by omega)], ⟨fun w l hw hl => ?_, fun y hy => ?_, fun j' y => ?_⟩, h6⟩
  · obtain ⟨b, b1, b2, b3⟩ := h3 w l hw hl
    exact ⟨b, by rw [xst_nn (by omega), b1], by rw [xst_nn (by omega), b2], b3⟩
  · have hy : (some x : Option Int) = some y := hy
    rw [xst_at]
    exact Option.some.inj hy
  · have key : ∀ m m' : Nat, m ≠ 0 → m' ≠ r → (z.2.2.2.2 m j' = some y → C m' j' = y) → (cM z.2.2.2 0 0 x).2 m j' = some y → (xst C r 1 x) m' j' = y := by
      intro m m' hm hm' hold hy
      have hy : (if m = 0 ∧ j' = 0 then some x else z.2.2.2.2 m j') = some y := hy
      rw [if_neg (by omega)] at hy
      rw [xst_nn (by omega)]
      exact hold hy
    exact ⟨key 87 (r + 2) (by omega) (by omega) (h5 j' y).1, key 88 (r + 3) (by omega) (by omega) (h5 j' y).2.1, key 92 (r + 6) (by omega) (by omega) (h5 j' y).2.2.1, key 93 (r + 7) (by omega) (by omega) (h5 j' y).2.2.2⟩
theorem cZ_ct {s : Nat} {x : Int} (h : cZ oo g N c r days nm z cs C) (hs : s < 5) (hl : (nm s).length < 6) (hx : C 25 (6 * s + (nm s).length) = x) (hn : x ∉ nm s) : cZ oo g N c r days (tAdd nm s x) z cs (xst C (r + 1) s (((nm s).length : Int) + 1)) := by
  have hr := cZ0_r h.1
  refine ⟨cZ0_ct h.1 hs hl hx, cRw_same h.2.1 fun j => by rw [xst_nn (by omega)], cC_same h.2.2.1 fun i j q => by rw [xst_nn (by omega)], fun t ht => ?_⟩
  by_cases hts : t = s
  · subst hts
    have e : tAdd nm t x t = nm t ++ [x] := if_pos rfl
    rw [e]
    exact List.nodup_append.mpr ⟨h.2.2.2 t ht, List.nodup_cons.mpr ⟨List.not_mem_nil, List.nodup_nil⟩, fun a ha b hb e => hn (by rw [List.mem_singleton] at hb; rw [← hb, ← e]; exact ha)⟩
  · have e : tAdd nm s x t = nm t := if_neg hts
    rw [e]
    exact h.2.2.2 t ht
theorem cz_acc (hd : 2 ≤ d) (h : cZ oo g N c r days nm z cs C) {a : Int} (h24 : a ≠ 24) :
    cR oo (fun y F => cZ oo g N c r days nm y cs F ∧ xSm cS2 C F ∧ y.2 = z.2) (xM d 48 [pR, .inl a] C) (zAcc (tkK g N) (tkP g N) a z) :=
  cR_mono (cz0_acc hd h.1 h24) fun y F ⟨a1, a2, a3⟩ => ⟨cZ_step h a1 (fun i j q1 _ => a2 i j (by simp only [cS2, decide_eq_false_iff_not]; omega)) (by rw [a3]), a2, a3⟩
theorem cz_num (hd : 2 ≤ d) (h : cZ oo g N c r days nm z cs C) {lo hi : Int} :
    cR oo (fun y F => cZ oo g N c r days nm y cs F ∧ xSm cS3 C F ∧ F 24 6 = y.2.2.1 ∧ lo ≤ y.2.2.1 ∧ y.2.2.1 ≤ hi) (xM d 47 [pR, .inl lo, .inl hi] C) (zNum (tkK g N) (tkP g N) (tkV g N) lo hi z) :=
  cR_mono (cz0_num hd h.1) fun y F ⟨a1, a2, a3, a4, a5⟩ => ⟨cZ_step h a1 (fun i j q1 _ => a2 i j (by simp only [cS3, decide_eq_false_iff_not]; omega)) a5, a2, a3, a4⟩
theorem cz_old (hd : 2 ≤ d) (h : cZ oo g N c r days nm z cs C) {s : Nat} (hs : s < 5) :
    cR oo (fun y F => cZ oo g N c r days nm y cs F ∧ xSm cS3 C F ∧ F 24 6 = y.2.2.1) (xM d 45 [pR, .inl (s : Int)] C) (zOld (tkK g N) (tkP g N) (tkV g N) (nm s) z) :=
  cR_mono (cz0_old hd h.1 hs (h.2.2.2 s hs)) fun y F ⟨a1, a2, a3, a4⟩ => ⟨cZ_step h a1 (fun i j q1 _ => a2 i j (by simp only [cS3, decide_eq_false_iff_not]; omega)) a3, a2, a4⟩
theorem cz_new (hd : 2 ≤ d) (h : cZ oo g N c r days nm z cs C) {s : Nat} {most : Int} (hs : s < 5) (hm : ((nm s).length : Int) < most) (hm6 : most ≤ 6) (h24 : tkK g N z.1 ≠ 24) :
    cR oo (fun y F => cZ oo g N c r days nm y cs F ∧ xSm (cSL r) C F ∧ F 25 (6 * s + (nm s).length) = y.2.2.1 ∧ y.2.2.1 ∉ nm s) (xM d 44 [pR, .inl (s : Int), .inl most] C) (zNew (tkK g N) (tkP g N) (tkV g N) (nm s) z) :=
  cR_mono (cz0_new hd h.1 hs hm hm6 h24) fun y F ⟨a1, a2, a3, a4, a5, a6⟩ => ⟨cZ_step h a1 a5 a4, a2, a3, a6⟩
theorem cz_frm (hd : 106 ≤ d) (hN : N ≤ 1700) (h : cZ oo g N c r days nm z cs C) {f w : Nat} (hf : f < 65) (hw : w < 65) (hfw : cf w = f) :
    cR oo (fun y F => ∃ cs' : List Int, cZ oo g N c r days nm y cs' F ∧ xSm (cSF r f) C F ∧ F (r + 8) f = (cs.length : Int) ∧ F (r + 9) f = (cs'.length : Int) ∧ cs.length < cs'.length) (xM d 39 [pR, .inl (f : Int)] C) (zFrm (tkK g N) (tkP g N) (tkV g N) (nm 0) w z) := by
  have hr := cZ_r h
  refine cR_mono (cz0_frm hd hN (h.2.2.2 0 (by decide)) h.1 h.2.1 (w := w) hf) fun y F ⟨⟨a1, a2, a3⟩, b1, b2, b3, b4⟩ => ⟨_, ⟨a1, a2, ?_, h.2.2.2⟩, b1, b2, b3, b4⟩
  generalize pFrm (tkK g N) (tkP g N) (tkV g N) (nm 0) z.1 z.2.1 = p at *
  obtain ⟨-, -, ⟨h3, h4, h5⟩, -⟩ := h
  have k : ∀ i j, i ≠ 24 → (i = r → j ≠ 2 ∧ j ≠ 3) → (i = r + 8 ∨ i = r + 9 → j ≠ f) → i ≠ r + 10 → F i j = C i j := fun i j q1 q2 q3 q4 => b1 i j (by simp only [cSF, decide_eq_false_iff_not]; omega)
  rw [a3]
  refine ⟨fun u l hu hl => ?_, fun x hx => (k r 1 (by omega) (by omega) (by omega) (by omega)).trans (h4 x hx), fun j x => ⟨fun hx => (k _ _ (by omega) (by omega) (by omega) (by omega)).trans ((h5 j x).1 hx), fun hx => (k _ _ (by omega) (by omega) (by omega) (by omega)).trans ((h5 j x).2.1 hx), fun hx => (k _ _ (by omega) (by omega) (by omega) (by omega)).trans ((h5 j x).2.2.1 hx), fun hx => (k _ _ (by omega) (by omega) (by omega) (by omega)).trans ((h5 j x).2.2.2 hx)⟩⟩
  have hl : (if u = w then some p else z.2.2.2.1 u) = some l := hl
  by_cases e : u = w
  · rw [if_pos e] at hl
    have hl := Option.some.inj hl
    subst hl
    rw [e, hfw]
    refine ⟨cs.length, b2, by rw [b3, List.length_append, List.length_map], fun i x hx => ?_⟩
    rw [List.getElem?_append_right (by omega), Nat.add_sub_cancel_left, List.getElem?_map, hx]
    rfl
  · rw [if_neg e] at hl
    obtain ⟨b, c1, c2, c3⟩ := h3 u l hu hl
    have hne : cf u ≠ f := fun q => e (cf_inj hu hw (q.trans hfw.symm))
    refine ⟨b, (k _ _ (by omega) (by omega) (fun _ => hne) (by omega)).trans c1, (k _ _ (by omega) (by omega) (fun _ => hne) (by omega)).trans c2, fun i x hx => ?_⟩
    have hb := c3 i x hx
    rw [List.getElem?_append_left (List.getElem?_eq_some_iff.mp hb).1]
    exact hb
theorem zAcc_put {k pl : Nat → Int} {due : Int} {i j : Nat} : zAcc k pl due (zPut i j z) = (zAcc k pl due z).bind fun z => .ok (zPut i j z) := by
  unfold zAcc
  show (if k z.1 = due then _ else _) = _
  by_cases h : k z.1 = due
  · rw [if_pos h, if_pos h]; rfl
  · rw [if_neg h, if_neg h]; rfl
/-- a line's part: what stands then -/
def cZF (oo : xC) (g : Nat → Int) (N c r : Nat) (days : Int) (nm : Nat → List Int) (fl : Nat → Bool) (z : tZ) (C : xC) : Prop := ∃ cs, cZ oo g N c r days nm z cs C ∧ cFg r fl C
theorem cz_feast (hd : 3 ≤ d) (h : cZ oo g N c r days nm z cs C) (hf : cFg r fl C) {a : Nat} (ha : a < 9) :
    cR oo (fun y F => cZ oo g N c r days nm y cs F ∧ cFg r fl F ∧ ∀ j, F 25 j = C 25 j) (xM d 37 [pR, .inl (a : Int)] C) (zFeast (tkK g N) (tkP g N) (tkV g N) days z) := by
  obtain ⟨d, rfl⟩ := Nat.exists_eq_add_of_le' (show 1 ≤ d by omega)
  have hr := cZ_r h
  rw [xm_X5_readFeast]
  simp only [Bool.cond_decide]
  refine cR_bind (cz_acc (by omega) h (by decide)) (fun F => rfl) fun z1 F1 ⟨a1, a2, a3⟩ => ?_
  have e2 : (F1 24 2).toNat = r := by rw [a1.1.1.1.2.2.1]; rfl
  have hf1 := cFg_L hr hf (xSm_mono a2 fun _ _ => cS2_L)
  dsimp only
  rw [if_neg (by decide), e2, a1.1.2.2.2.2.1.1, w32_id (by have := a1.1.2.2.2.2.1.2; omega) (by have := a1.1.2.2.2.2.1.2; omega)]
  have hnum := cz_num (d := d) (by omega) a1 (lo := 0) (hi := days - 1)
  have hq : zNum (tkK g N) (tkP g N) (tkV g N) 0 (days - 1) z1 = (zNum (tkK g N) (tkP g N) (tkV g N) 0 (days - 1) z1).bind fun y => .ok y := by cases zNum (tkK g N) (tkP g N) (tkV g N) 0 (days - 1) z1 <;> rfl
  rw [hq]
  refine cR_bind hnum (fun F => rfl) fun z2 F2 ⟨b1, b2, b3, b4⟩ => ?_
  have hf2 := cFg_L hr hf1 (xSm_mono b2 fun _ _ => cS3_L)
  have e3 := cZ_row (k := 3) b1 (by decide)
  have e3 : (F2 (F2 24 2).toNat 7).toNat = r + 1 + 3 := e3
  have ea : xix (a : Int) 9 = true := xixn ha
  dsimp only
  rw [if_pos (by decide), ea, e3, Int.toNat_natCast]
  simp only [xna, Bool.and_true, cond_true]
  exact ⟨_, rfl, cZ_ptn b1 (by omega), cFg_L hr hf2 (xSm_st xSm_refl (decide_eq_true (by omega))), fun j => by rw [xst_nn (by omega), b2 _ _ rfl, a2 _ _ rfl]⟩
/-- the sets -/
theorem cz_sets (hd : 108 ≤ d) (hN : N ≤ 1700) {a : Nat} (ha : a < 11) : ∀ (n i : Nat) (z : tZ) (cs : List Int) (C : xC) (o : Option xV), i + n = 4 → cZ oo g N c r days nm z cs C → cFg r fl C →
    cR oo (cZF oo g N c r days nm fl) (xw_X5_readActor d (30, [some pR, some (.inl (a : Int)), some (.inl (i : Int)), o], [], C)) ((zSets (tkK g N) (tkP g N) (tkV g N) (nm 0) a n z).bind fun z => zAcc (tkK g N) (tkP g N) 59 z) := by
  intro n
  induction n with
  | zero =>
    intro i z cs C o hi h hf
    rw [xl_X5_readActor_30]
    simp only [Bool.cond_decide]
    rw [if_pos (by omega)]
    exact cR_err (by omega) h.1.1 h.1.2.1 (by decide)
  | succ n ih =>
    intro i z cs C o hi h hf
    have hr := cZ_r h
    have w1 : w32 (w32 ((a : Int) * 4) + (i : Int)) = ((4 * a + i : Nat) : Int) := by rw [w32_id (z := (a : Int) * 4) (by omega) (by omega), w32_id (by omega) (by omega)]; omega
    have w2 : w32 (21 + ((4 * a + i : Nat) : Int)) = ((21 + (4 * a + i) : Nat) : Int) := by rw [w32_id (by omega) (by omega)]; omega
    have x44 : xix ((4 * a + i : Nat) : Int) 44 = true := xixn (by omega)
    have x11 : xix (a : Int) 11 = true := xixn ha
    have w3 : w32 ((i : Int) + 1) = ((i + 1 : Nat) : Int) := w32_s (by omega)
    rw [xl_X5_readActor_30]
    have hi4 : 4 - (n + 1) = i := by omega
    simp only [Bool.cond_decide, zSets, zSet, tX_assoc, tX_ok, hi4]
    rw [if_neg (by omega), w1, w2, w3, x44, x11]
    simp only [xna, Bool.and_true, cond_true, Int.toNat_natCast]
    refine cR_bind (cz_old (s := 0) (by omega) h (by decide)) (fun F => rfl) fun z1 F1 ⟨a1, a2, a3⟩ => ?_
    have hf1 := cFg_L hr hf (xSm_mono a2 fun _ _ => cS3_L)
    have e6 : (F1 (F1 24 2).toNat 10).toNat = r + 1 + 6 := cZ_row (k := 6) a1 (by decide)
    dsimp only
    rw [if_pos (by decide), e6]
    have b1 : cZ oo g N c r days nm (zPut 93 (4 * a + i) z1) cs (xst F1 (r + 1 + 6) (4 * a + i) (F1 24 6)) := by
      rw [a3]
      exact cZ_put (i := 93) a1 (by omega)
    have hconv : ∀ {B : Type} (K : tZ → tX B), ((zAcc (tkK g N) (tkP g N) 16 z1).bind fun z => K (zPut 93 (4 * a + i) z)) = (zAcc (tkK g N) (tkP g N) 16 (zPut 93 (4 * a + i) z1)).bind K := fun K => by rw [zAcc_put, tX_assoc]; rfl
    have hf2 : cFg r fl (xst F1 (r + 1 + 6) (4 * a + i) (F1 24 6)) := cFg_L hr hf1 (xSm_st xSm_refl (decide_eq_true (by omega)))
    generalize (xst F1 (r + 1 + 6) (4 * a + i) (F1 24 6)) = E at *
    rw [hconv (fun z => (zFrm (tkK g N) (tkP g N) (tkV g N) (nm 0) (5 * a + 1 + i) z).bind _)]
    refine cR_bind (cz_acc (by omega) b1 (by decide)) (fun F => by simp only [if_true]; exact xl_X5_readActor_84 _ _ _ _ _) fun z2 F2 ⟨c1, c2, c3⟩ => ?_
    have hf3 := cFg_L hr hf2 (xSm_mono c2 fun _ _ => cS2_L)
    dsimp only
    rw [if_neg (by decide)]
    refine cR_bind (cz_frm (by omega) hN c1 (f := 21 + (4 * a + i)) (w := 5 * a + 1 + i) (by omega) (by omega) (cf_set ha (by omega))) (fun F => by simp only [ne_eq, not_true_eq_false, if_false]; exact xl_X5_readActor_84 _ _ _ _ _) fun z3 F3 ⟨cl3, d1, d2, d3⟩ => ?_
    have hf4 := cFg_L hr hf3 (xSm_mono d2 fun _ _ => cSF_L (by omega) (by omega))
    have e5 : (F3 (F3 24 2).toNat 9).toNat = r + 1 + 5 := cZ_row (k := 5) d1 (by decide)
    dsimp only
    rw [if_pos (by decide), e5]
    have g1 := cZ_put (i := 92) (i' := r + 1 + 5) (j := a) (x := ((i + 1 : Nat) : Int)) d1 (by omega)
    have hf5 : cFg r fl (xst F3 (r + 1 + 5) a ((i + 1 : Nat) : Int)) := cFg_L hr hf4 (xSm_st xSm_refl (decide_eq_true (by omega)))
    generalize (xst F3 (r + 1 + 5) a ((i + 1 : Nat) : Int)) = E2 at *
    have g24 : E2 24 4 = tkK g N z3.1 := g1.1.2.1.2.1
    rw [g24]
    by_cases h8 : tkK g N z3.1 = 8
    · rw [if_pos h8, if_pos (show tkK g N (zCnt 92 a ((i + 1 : Nat) : Int) z3).1 = 8 from h8)]
      by_cases hn : n = 0
      · rw [if_pos (by omega), if_pos hn, xl_X5_readActor_125, w3]
        exact ih (i + 1) _ cl3 E2 _ (by omega) g1 hf5
      · obtain ⟨F5, k1, k2, k3⟩ := cp_step (d := d) (by omega) g1.1.1 g1.1.2.1 (by show tkK g N z3.1 ≠ 24; omega)
        rw [if_neg (by omega), if_neg hn, k1]
        simp only [Option.bind_some]
        rw [xl_X5_readActor_125, w3]
        exact ih (i + 1) (z3.1 + 1, (zCnt 92 a ((i + 1 : Nat) : Int) z3).2) cl3 F5 _ (by omega) (cZ_mv g1 (xSm_mono k3 fun _ _ => cS2_3) k2 rfl (tkP_mono z3.1) rfl) (cFg_L hr hf5 (xSm_mono k3 fun _ _ => cS2_L))
    · rw [if_neg h8, if_neg (show ¬ (tkK g N (zCnt 92 a ((i + 1 : Nat) : Int) z3).1 = 8) from h8)]
      refine cR_fr (cR_mono (cz_acc (by omega) g1 (by decide)) fun y F ⟨q1, q2, q3⟩ => ⟨cl3, q1, cFg_L hr hf5 (xSm_mono q2 fun _ _ => cS2_L)⟩)
theorem cz_actor (hd : 110 ≤ d) (hN : N ≤ 1700) (h : cZ oo g N c r days nm z cs C) (hf : cFg r fl C) {a : Nat} (ha : a < 11) :
    cR oo (cZF oo g N c r days nm fl) (xM d 38 [pR, .inl (a : Int)] C) ((zActor (tkK g N) (tkP g N) (tkV g N) (nm 0) a z).bind fun z => zAcc (tkK g N) (tkP g N) 59 z) := by
  obtain ⟨d, rfl⟩ := Nat.exists_eq_add_of_le' (show 1 ≤ d by omega)
  have hr := cZ_r h
  rw [xm_X5_readActor]
  unfold zActor
  simp only [Bool.cond_decide, tX_assoc]
  refine cR_bind (cz_acc (by omega) h (by decide)) (fun F => by simp only [if_true]; exact xl_X5_readActor_26 _ _ _) fun z1 F1 ⟨a1, a2, a3⟩ => ?_
  have hf1 := cFg_L hr hf (xSm_mono a2 fun _ _ => cS2_L)
  dsimp only
  rw [if_neg (by decide)]
  refine cR_bind (cz_frm (by omega) hN a1 (f := a) (w := 5 * a) (by omega) (by omega) (cf_act ha)) (fun F => by simp only [if_true]; exact xl_X5_readActor_26 _ _ _) fun z2 F2 ⟨cl2, b1, b2, b3⟩ => ?_
  have hf2 := cFg_L hr hf1 (xSm_mono b2 fun _ _ => cSF_L (by omega) (by omega))
  dsimp only
  rw [if_neg (by decide)]
  refine cR_bind (cz_acc (by omega) b1 (by decide)) (fun F => by simp only [ne_eq, not_true_eq_false, if_false]; exact xl_X5_readActor_26 _ _ _) fun z3 F3 ⟨c1, c2, c3⟩ => ?_
  have hf3 := cFg_L hr hf2 (xSm_mono c2 fun _ _ => cS2_L)
  dsimp only
  rw [if_pos (by decide)]
  exact cz_sets (by omega) hN ha 4 0 z3 cl2 F3 none rfl c1 hf3
end cLine1
