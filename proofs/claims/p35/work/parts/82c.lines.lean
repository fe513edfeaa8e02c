/-! The class's lines. -/
section cLine2
variable {cs : List Int} {oo : xC} {g : Nat → Int} {N d c r cl : Nat} {C F : xC} {z : tZ} {days : Int} {nm : Nat → List Int} {fl : Nat → Bool} {s : tS}
/-- the class between two lines -/
def cLS (oo : xC) (g : Nat → Int) (N c r : Nat) (s : tS) (C : xC) : Prop := ∃ cs, cZ oo g N c r s.2.2.1 s.2.2.2.1 (s.1, s.2.1, 0, s.2.2.2.2.2) cs C ∧ cFg r s.2.2.2.2.1 C
/-- a line's end -/
def cEnd (k pl : Nat → Int) (s : tS) (q : tB) : tX tS := (zAcc k pl 59 q.1).bind fun z => .ok (z.1, z.2.1, q.2.1, q.2.2.1, tTell s.2.2.2.2.1 q.2.2.2, z.2.2.2)
theorem cFg_0 (h : cFg r fl C) : cFg r (tTell fl 0) C := by
  obtain ⟨h1, h2⟩ := h
  refine ⟨h1, fun f hf => ?_⟩
  have e : tTell fl 0 f = fl f := if_neg (by omega)
  rw [e]
  exact h2 f hf
theorem cR_map {A B : Type} {P : A → xC → Prop} {Q : B → xC → Prop} {o : Option (Int × xC)} {q : tX A} {f : A → B} (h : cR oo P o q) (hk : ∀ a F, P a F → Q (f a) F) : cR oo Q o (q.bind fun a => .ok (f a)) := by
  cases q with
  | error x => exact h
  | ok a =>
    obtain ⟨F, k1, k2⟩ := h
    exact ⟨F, k1, hk a F k2⟩
theorem cR_id {A : Type} {P : A → xC → Prop} {o : Option (Int × xC)} {q : tX A} {k : Int × xC → Option (Int × xC)} (h : cR oo P o q) (h0 : ∀ F, k (0, F) = some (0, F)) (h1 : ∀ F, k (1, F) = some (1, F)) : cR oo P (o.bind k) q := by
  cases q with
  | error x =>
    obtain ⟨F, k1, k2⟩ := h
    exact ⟨F, by rw [k1]; exact h0 F, k2⟩
  | ok a =>
    obtain ⟨F, k1, k2⟩ := h
    exact ⟨F, by rw [k1]; exact h1 F, k2⟩
theorem cl_fin (hd : 2 ≤ d) (h : cZ oo g N c r days nm z cs C) (hf : cFg r s.2.2.2.2.1 C) : cR oo (cLS oo g N c r) (xM d 48 [pR, .inl 59] C) (cEnd (tkK g N) (tkP g N) s (z, days, nm, 0)) := by
  have hr := cZ_r h
  exact cR_map (cz_acc hd h (by decide)) fun y F ⟨a1, a2, a3⟩ => ⟨cs, a1, cFg_0 (cFg_L hr hf (xSm_mono a2 fun _ _ => cS2_L))⟩
theorem cZ0_days {x : Int} (h : cZ0 oo g N c r days nm z cl C) (h0 : 0 ≤ x) (h9 : x ≤ 9) : cZ0 oo g N c r x nm z cl (xst C r 0 x) := by
  obtain ⟨h1, h2, ⟨h3, h3b⟩, ⟨h4, h4b⟩, ⟨h5, h5b⟩, h6⟩ := h
  have hr := h1.1.2.2.2
  obtain ⟨p1, p2, p3, p4, p5⟩ := h2
  refine ⟨pSt_same (S := fun i j => decide (i = r ∧ j = 0)) h1 (xSm_st xSm_refl (by simp)) ⟨?_, ?_, ?_⟩ (fun k _ => ?_) ⟨?_, ?_, ?_, ?_⟩ (fun j => ⟨?_, ?_, ?_⟩) (fun i j q1 q2 => ?_), ⟨?_, ?_, fun q => ?_, p4, ?_⟩, ⟨by rw [xst_nn (by omega), h3], h3b⟩, ⟨by rw [xst_nn (by omega), h4], h4b⟩, ⟨xst_at, h0, h9⟩, fun t ht => ⟨⟨?_, fun j y hy => ?_⟩, (h6 t ht).2⟩⟩
  · simp only [decide_eq_false_iff_not]; omega
  · simp only [decide_eq_false_iff_not]; omega
  · simp only [decide_eq_false_iff_not]; omega
  · simp only [decide_eq_false_iff_not]; omega
  · simp only [decide_eq_false_iff_not]; omega
  · simp only [decide_eq_false_iff_not]; omega
  · simp only [decide_eq_false_iff_not]; omega
  · simp only [decide_eq_false_iff_not]; omega
  · simp only [decide_eq_false_iff_not]; omega
  · simp only [decide_eq_false_iff_not]; omega
  · simp only [decide_eq_false_iff_not]; omega
  · simp only [decide_eq_false_iff_not]; omega
  · rw [xst_nn (by omega)]; exact p1
  · rw [xst_nn (by omega)]; exact p2
  · rw [xst_nn (by omega)]; exact p3 q
  · rw [xst_nn (by omega)]; exact p5
  · rw [xst_nn (by omega)]; exact (h6 t ht).1.1
  · rw [xst_nn (by omega)]; exact (h6 t ht).1.2 j y hy
theorem cZ_days {x : Int} (h : cZ oo g N c r days nm z cs C) (h0 : 0 ≤ x) (h9 : x ≤ 9) : cZ oo g N c r x nm z cs (xst C r 0 x) := by
  have hr := cZ_r h
  exact ⟨cZ0_days h.1 h0 h9, cRw_same h.2.1 fun j => by rw [xst_nn (by omega)], cC_same h.2.2.1 fun i j q => by rw [xst_nn (by omega)], h.2.2.2⟩
theorem cl_week (hd : 4 ≤ d) (h : cLS oo g N c r s C) (hk : tkK g N s.1 = 0) : cR oo (cLS oo g N c r) (xM d 30 [pR, .inl 1] C) ((sWeek (tkK g N) (tkP g N) (tkV g N) s).bind (cEnd (tkK g N) (tkP g N) s)) := by
  obtain ⟨d, rfl⟩ := Nat.exists_eq_add_of_le' (show 1 ≤ d by omega)
  obtain ⟨cl, hz, hf⟩ := h
  have hr := cZ_r hz
  rw [xm_X5_readWeek]
  unfold sWeek
  simp only [Bool.cond_decide, tX_assoc, tX_ok]
  rw [if_pos (by decide)]
  obtain ⟨F1, k1, k2, k3⟩ := cp_step (d := d) (by omega) hz.1.1 hz.1.2.1 (by show tkK g N s.1 ≠ 24; omega)
  have h1 : cZ oo g N c r s.2.2.1 s.2.2.2.1 (s.1 + 1, s.2.1, 0, s.2.2.2.2.2) cl F1 := cZ_mv hz (xSm_mono k3 fun _ _ => cS2_3) k2 rfl (tkP_mono s.1) rfl
  have hf1 := cFg_L hr hf (xSm_mono k3 fun _ _ => cS2_L)
  rw [k1]
  simp only [Option.bind_some]
  refine cR_bind (cz_num (by omega) h1) (fun F => rfl) fun z2 F2 ⟨a1, a2, a3, a4⟩ => ?_
  have hf2 := cFg_L hr hf1 (xSm_mono a2 fun _ _ => cS3_L)
  have e2 : (F2 24 2).toNat = r := by rw [a1.1.1.1.2.2.1]; rfl
  dsimp only
  rw [if_pos (by decide), e2, a3]
  have b1 := cZ_days (x := z2.2.2.1) a1 (by omega) (by omega)
  have hf3 : cFg r s.2.2.2.2.1 (xst F2 r 0 z2.2.2.1) := cFg_L hr hf2 (xSm_st xSm_refl (decide_eq_true (by omega)))
  generalize (xst F2 r 0 z2.2.2.1) = E at *
  refine cR_bind (cz_acc (by omega) b1 (by decide)) (fun F => rfl) fun z3 F3 ⟨c1, c2, c3⟩ => ?_
  have hf4 := cFg_L hr hf3 (xSm_mono c2 fun _ _ => cS2_L)
  dsimp only
  rw [if_neg (by decide)]
  refine cR_bind (cz_num (by omega) c1) (fun F => rfl) fun z4 F4 ⟨d1, d2, d3, d4⟩ => ?_
  have hf5 := cFg_L hr hf4 (xSm_mono d2 fun _ _ => cS3_L)
  have e4 : (F4 24 2).toNat = r := by rw [d1.1.1.1.2.2.1]; rfl
  dsimp only
  rw [if_pos (by decide), e4]
  have w1 : cZ oo g N c r z2.2.2.1 s.2.2.2.1 (zPut 0 0 z4) cl (xst F4 r 1 (F4 24 6)) := by rw [d3]; exact cZ_48 d1
  exact cR_fr (cl_fin (by omega) w1 (cFg_L hr hf5 (xSm_st xSm_refl (decide_eq_true (by omega)))))
theorem xix_c {n m : Nat} (h : n < m) : xix (n : Int) m = true := xixn h
theorem w32_1 {n : Nat} (h : n < 2147483647) : w32 ((n : Int) + 1) = (n : Int) + 1 := w32_id (by omega) (by omega)
theorem cl_thing (hd : 4 ≤ d) (h : cLS oo g N c r s C) (hk : tkK g N s.1 = 2) (hl : (s.2.2.2.1 0).length < 6) : cR oo (cLS oo g N c r) (xM d 31 [pR] C) ((sThing (tkK g N) (tkP g N) (tkV g N) s).bind (cEnd (tkK g N) (tkP g N) s)) := by
  obtain ⟨d, rfl⟩ := Nat.exists_eq_add_of_le' (show 1 ≤ d by omega)
  obtain ⟨cl, hz, hf⟩ := h
  have hr := cZ_r hz
  rw [xm_X5_readThing]
  unfold sThing
  simp only [Bool.cond_decide, tX_assoc, tX_ok]
  have x05 : xix 0 5 = true := rfl
  refine cR_bind (cz_new (z := (s.1, s.2.1, 0, s.2.2.2.2.2)) (s := 0) (by omega) hz (by decide) (by omega) (by decide) (by show tkK g N s.1 ≠ 24; omega)) (fun F => rfl) fun z1 F1 ⟨a1, a2, a3, a4⟩ => ?_
  have hf1 := cFg_L hr hf a2
  dsimp only
  rw [if_neg (by decide)]
  refine cR_bind (cz_num (by omega) a1) (fun F => rfl) fun z2 F2 ⟨b1, b2, b3, b4⟩ => ?_
  have hf2 := cFg_L hr hf1 (xSm_mono b2 fun _ _ => cS3_L)
  have eN : F2 25 (6 * 0 + (s.2.2.2.1 0).length) = z1.2.2.1 := by rw [b2 _ _ rfl, a3]
  have e5 : (F2 (F2 24 2).toNat 5).toNat = r + 1 + 1 := cZ_row (k := 1) b1 (by decide)
  dsimp only
  rw [if_pos (by decide), cZ_cnt (t := 0) b1 (by decide), xixn hl, e5, Int.toNat_natCast]
  simp only [xna, Bool.and_true, cond_true]
  have c1 : cZ oo g N c r s.2.2.1 s.2.2.2.1 (zPut 87 (s.2.2.2.1 0).length z2) cl (xst F2 (r + 1 + 1) (s.2.2.2.1 0).length (F2 24 6)) := by rw [b3]; exact cZ_put (i := 87) b1 (by omega)
  have hf3 : cFg r s.2.2.2.2.1 (xst F2 (r + 1 + 1) (s.2.2.2.1 0).length (F2 24 6)) := cFg_L hr hf2 (xSm_st xSm_refl (decide_eq_true (by omega)))
  have e6 : (xst F2 (r + 1 + 1) (s.2.2.2.1 0).length (F2 24 6)) 24 6 = z2.2.2.1 := by rw [xst_nn (by omega), b3]
  have eN1 : (xst F2 (r + 1 + 1) (s.2.2.2.1 0).length (F2 24 6)) 25 (6 * 0 + (s.2.2.2.1 0).length) = z1.2.2.1 := by rw [xst_nn (by omega), eN]
  generalize (xst F2 (r + 1 + 1) (s.2.2.2.1 0).length (F2 24 6)) = E at *
  refine cR_bind (cz_acc (by omega) c1 (by decide)) (fun F => rfl) fun z3 F3 ⟨d1, d2, d3⟩ => ?_
  have hf4 := cFg_L hr hf3 (xSm_mono d2 fun _ _ => cS2_L)
  have e3n : z3.2.2.1 = z2.2.2.1 := by
      have h := congrArg (fun q : Int × Int × tC => q.2.1) d3
      exact h
  have e36 : F3 24 6 = z3.2.2.1 := by rw [d2 _ _ rfl, e6, e3n]
  dsimp only
  rw [if_neg (by decide), e36]
  refine cR_bind (cz_num (by omega) d1) (fun F => rfl) fun z4 F4 ⟨f1, f2, f3, f4⟩ => ?_
  have hf5 := cFg_L hr hf4 (xSm_mono f2 fun _ _ => cS3_L)
  have eN2 : F4 25 (6 * 0 + (s.2.2.2.1 0).length) = z1.2.2.1 := by rw [f2 _ _ rfl, d2 _ _ rfl, eN1]
  have e7 : (F4 (F4 24 2).toNat 6).toNat = r + 1 + 2 := cZ_row (k := 2) f1 (by decide)
  dsimp only
  rw [if_pos (by decide), e7]
  have g1 : cZ oo g N c r s.2.2.1 s.2.2.2.1 (zPut 88 (s.2.2.2.1 0).length z4) cl (xst F4 (r + 1 + 2) (s.2.2.2.1 0).length (F4 24 6)) := by rw [f3]; exact cZ_put (i := 88) f1 (by omega)
  have hf6 : cFg r s.2.2.2.2.1 (xst F4 (r + 1 + 2) (s.2.2.2.1 0).length (F4 24 6)) := cFg_L hr hf5 (xSm_st xSm_refl (decide_eq_true (by omega)))
  have eN3 : (xst F4 (r + 1 + 2) (s.2.2.2.1 0).length (F4 24 6)) 25 (6 * 0 + (s.2.2.2.1 0).length) = z1.2.2.1 := by rw [xst_nn (by omega), eN2]
  generalize (xst F4 (r + 1 + 2) (s.2.2.2.1 0).length (F4 24 6)) = E2 at *
  have e8 : (E2 (E2 24 2).toNat 4).toNat = r + 1 := cZ_row (k := 0) g1 (by decide)
  rw [x05, cZ_cnt (t := 0) g1 (by decide), w32_1 (by omega), e8]
  simp only [Bool.and_true, cond_true]
  exact cR_fr (cl_fin (by omega) (cZ_ct g1 (by decide) hl eN3 a4) (cFg_L hr hf6 (xSm_st xSm_refl (decide_eq_true (by omega)))))
theorem cZ_tell {nm' : Nat → List Int} {t : Nat} {x : Int} (e : nm' = tAdd nm t x) : (nm' t).length = (nm t).length + 1 := by
  have : nm' t = nm t ++ [x] := by rw [e]; exact if_pos rfl
  rw [this, List.length_append]
  rfl
theorem cl_law (hd : 113 ≤ d) (hN : N ≤ 1700) (h : cLS oo g N c r s C) (hk : tkK g N s.1 = 4) (hl : (s.2.2.2.1 1).length < 5) : cR oo (cLS oo g N c r) (xM d 32 [pR] C) ((sLaw (tkK g N) (tkP g N) (tkV g N) s).bind (cEnd (tkK g N) (tkP g N) s)) := by
  obtain ⟨d, rfl⟩ := Nat.exists_eq_add_of_le' (show 1 ≤ d by omega)
  obtain ⟨cl, hz, hf⟩ := h
  have hr := cZ_r hz
  rw [xm_X5_readLaw]
  unfold sLaw
  simp only [Bool.cond_decide, tX_assoc, tX_ok]
  have x15 : xix 1 5 = true := rfl
  refine cR_bind (cz_new (z := (s.1, s.2.1, 0, s.2.2.2.2.2)) (s := 1) (by omega) hz (by decide) (by omega) (by decide) (by show tkK g N s.1 ≠ 24; omega)) (fun F => rfl) fun z1 F1 ⟨a1, a2, a3, a4⟩ => ?_
  have hf1 := cFg_L hr hf a2
  dsimp only
  rw [if_neg (by decide), cZ_cnt (t := 1) a1 (by decide)]
  refine cR_bind (cz_feast (by omega) a1 hf1 (a := (s.2.2.2.1 1).length) (by omega)) (fun F => rfl) fun z2 F2 ⟨b1, b2, b3⟩ => ?_
  have eN : F2 25 (6 * 1 + (s.2.2.2.1 1).length) = z1.2.2.1 := by rw [b3, a3]
  have e4 : (F2 (F2 24 2).toNat 4).toNat = r + 1 := cZ_row (k := 0) b1 (by decide)
  dsimp only
  rw [if_pos (by decide), x15, cZ_cnt (t := 1) b1 (by decide), e4, w32_1 (by omega)]
  simp only [xna, Bool.and_true, cond_true]
  have g1 := cZ_ct b1 (s := 1) (by decide) (by omega) eN a4
  have hf2 : cFg r s.2.2.2.2.1 (xst F2 (r + 1) 1 (((s.2.2.2.1 1).length : Int) + 1)) := cFg_L hr b2 (xSm_st xSm_refl (decide_eq_true (by omega)))
  generalize (xst F2 (r + 1) 1 (((s.2.2.2.1 1).length : Int) + 1)) = E at *
  have eC := cZ_cnt (t := 1) g1 (by decide)
  rw [cZ_tell rfl] at eC
  rw [eC, w32_id (z := 0 + (((s.2.2.2.1 1).length + 1 : Nat) : Int)) (by omega) (by omega), w32_id (by omega) (by omega), show 0 + (((s.2.2.2.1 1).length + 1 : Nat) : Int) - 1 = ((s.2.2.2.1 1).length : Int) by omega]
  have k := cz_actor (d := d) (by omega) hN g1 hf2 (a := (s.2.2.2.1 1).length) (by omega)
  have k2 := cR_fr (cR_map (Q := cLS oo g N c r) (f := fun z : tZ => ((z.1, z.2.1, s.2.2.1, tAdd s.2.2.2.1 1 z1.2.2.1, tTell s.2.2.2.2.1 0, z.2.2.2) : tS)) k fun y F ⟨cl', q1, q2⟩ => ⟨cl', q1, cFg_0 q2⟩)
  rw [tX_assoc] at k2
  exact k2
theorem cl_deed (hd : 113 ≤ d) (hN : N ≤ 1700) (h : cLS oo g N c r s C) (hk : tkK g N s.1 = 9) (hl : (s.2.2.2.1 2).length < 6) : cR oo (cLS oo g N c r) (xM d 33 [pR] C) ((sDeed (tkK g N) (tkP g N) (tkV g N) s).bind (cEnd (tkK g N) (tkP g N) s)) := by
  obtain ⟨d, rfl⟩ := Nat.exists_eq_add_of_le' (show 1 ≤ d by omega)
  obtain ⟨cl, hz, hf⟩ := h
  have hr := cZ_r hz
  rw [xm_X5_readDeed]
  unfold sDeed
  simp only [Bool.cond_decide, tX_assoc, tX_ok]
  have x25 : xix 2 5 = true := rfl
  refine cR_bind (cz_new (z := (s.1, s.2.1, 0, s.2.2.2.2.2)) (s := 2) (by omega) hz (by decide) (by omega) (by decide) (by show tkK g N s.1 ≠ 24; omega)) (fun F => rfl) fun z1 F1 ⟨a1, a2, a3, a4⟩ => ?_
  have hf1 := cFg_L hr hf a2
  have e4 : (F1 (F1 24 2).toNat 4).toNat = r + 1 := cZ_row (k := 0) a1 (by decide)
  dsimp only
  rw [if_pos (by decide), x25, cZ_cnt (t := 2) a1 (by decide), e4, w32_1 (by omega)]
  simp only [xna, Bool.and_true, cond_true]
  have g1 := cZ_ct a1 (s := 2) (by decide) (by omega) a3 a4
  have hf2 : cFg r s.2.2.2.2.1 (xst F1 (r + 1) 2 (((s.2.2.2.1 2).length : Int) + 1)) := cFg_L hr hf1 (xSm_st xSm_refl (decide_eq_true (by omega)))
  generalize (xst F1 (r + 1) 2 (((s.2.2.2.1 2).length : Int) + 1)) = E at *
  have eC := cZ_cnt (t := 2) g1 (by decide)
  rw [cZ_tell rfl] at eC
  rw [eC, w32_id (z := 5 + (((s.2.2.2.1 2).length + 1 : Nat) : Int)) (by omega) (by omega), w32_id (by omega) (by omega), show 5 + (((s.2.2.2.1 2).length + 1 : Nat) : Int) - 1 = ((5 + (s.2.2.2.1 2).length : Nat) : Int) by omega]
  have k := cz_actor (d := d) (by omega) hN g1 hf2 (a := 5 + (s.2.2.2.1 2).length) (by omega)
  have k2 := cR_fr (cR_map (Q := cLS oo g N c r) (f := fun z : tZ => ((z.1, z.2.1, s.2.2.1, tAdd s.2.2.2.1 2 z1.2.2.1, tTell s.2.2.2.2.1 0, z.2.2.2) : tS)) k fun y F ⟨cl', q1, q2⟩ => ⟨cl', q1, cFg_0 q2⟩)
  rw [tX_assoc] at k2
  exact k2
theorem cl_ban (hd : 113 ≤ d) (hN : N ≤ 1700) (h : cLS oo g N c r s C) (hk : tkK g N s.1 = 10) (hl : (s.2.2.2.1 3).length < 4) : cR oo (cLS oo g N c r) (xM d 34 [pR] C) ((sBan (tkK g N) (tkP g N) (tkV g N) s).bind (cEnd (tkK g N) (tkP g N) s)) := by
  obtain ⟨d, rfl⟩ := Nat.exists_eq_add_of_le' (show 1 ≤ d by omega)
  obtain ⟨cl, hz, hf⟩ := h
  have hr := cZ_r hz
  rw [xm_X5_readBan, cZ_cnt (t := 3) hz (by decide)]
  unfold sBan
  simp only [Bool.cond_decide, tX_assoc, tX_ok]
  have x35 : xix 3 5 = true := rfl
  have w5 : w32 (5 + ((s.2.2.2.1 3).length : Int)) = ((5 + (s.2.2.2.1 3).length : Nat) : Int) := by rw [w32_id (by omega) (by omega)]; omega
  have w11 : w32 (11 + ((s.2.2.2.1 3).length : Int)) = ((11 + (s.2.2.2.1 3).length : Nat) : Int) := by rw [w32_id (by omega) (by omega)]; omega
  rw [w5, w11]
  refine cR_bind (cz_new (z := (s.1, s.2.1, 0, s.2.2.2.2.2)) (s := 3) (by omega) hz (by decide) (by omega) (by decide) (by show tkK g N s.1 ≠ 24; omega)) (fun F => rfl) fun z1 F1 ⟨a1, a2, a3, a4⟩ => ?_
  have hf1 := cFg_L hr hf a2
  dsimp only
  rw [if_neg (by decide)]
  refine cR_bind (cz_feast (by omega) a1 hf1 (a := 5 + (s.2.2.2.1 3).length) (by omega)) (fun F => rfl) fun z2 F2 ⟨b1, b2, b3⟩ => ?_
  have eN : F2 25 (6 * 3 + (s.2.2.2.1 3).length) = z1.2.2.1 := by rw [b3, a3]
  have e4 : (F2 (F2 24 2).toNat 4).toNat = r + 1 := cZ_row (k := 0) b1 (by decide)
  dsimp only
  rw [if_pos (by decide), x35, cZ_cnt (t := 3) b1 (by decide), e4, w32_1 (by omega)]
  simp only [xna, Bool.and_true, cond_true]
  have g1 := cZ_ct b1 (s := 3) (by decide) (by omega) eN a4
  have hf2 : cFg r s.2.2.2.2.1 (xst F2 (r + 1) 3 (((s.2.2.2.1 3).length : Int) + 1)) := cFg_L hr b2 (xSm_st xSm_refl (decide_eq_true (by omega)))
  generalize (xst F2 (r + 1) 3 (((s.2.2.2.1 3).length : Int) + 1)) = E at *
  refine cR_bind (cz_acc (by omega) g1 (by decide)) (fun F => rfl) fun z3 F3 ⟨c1, c2, c3⟩ => ?_
  have hf3 := cFg_L hr hf2 (xSm_mono c2 fun _ _ => cS2_L)
  dsimp only
  rw [if_neg (by decide)]
  refine cR_bind (cz_frm (by omega) hN c1 (f := 11 + (s.2.2.2.1 3).length) (w := 55 + (s.2.2.2.1 3).length) (by omega) (by omega) (cf_ban hl)) (fun F => rfl) fun z4 F4 ⟨cl4, d1, d2, d3⟩ => ?_
  have hf4 := cFg_L hr hf3 (xSm_mono d2 fun _ _ => cSF_L (by omega) (by omega))
  dsimp only
  rw [if_neg (by decide)]
  exact cR_id (cl_fin (by omega) d1 hf4) (fun F => rfl) (fun F => rfl)
theorem cl_guild (hd : 113 ≤ d) (hN : N ≤ 1700) (h : cLS oo g N c r s C) (hk : tkK g N s.1 = 13) (hl : (s.2.2.2.1 4).length < 4) : cR oo (cLS oo g N c r) (xM d 36 [pR] C) ((sGuild (tkK g N) (tkP g N) (tkV g N) s).bind (cEnd (tkK g N) (tkP g N) s)) := by
  obtain ⟨d, rfl⟩ := Nat.exists_eq_add_of_le' (show 1 ≤ d by omega)
  obtain ⟨cl, hz, hf⟩ := h
  have hr := cZ_r hz
  rw [xm_X5_readGuild, cZ_cnt (t := 4) hz (by decide)]
  unfold sGuild
  simp only [Bool.cond_decide, tX_assoc, tX_ok]
  have x45 : xix 4 5 = true := rfl
  have w17 : w32 (17 + ((s.2.2.2.1 4).length : Int)) = ((17 + (s.2.2.2.1 4).length : Nat) : Int) := by rw [w32_id (by omega) (by omega)]; omega
  rw [w17, xixn hl, x45, Int.toNat_natCast]
  simp only [xna, Bool.and_true, cond_true]
  refine cR_bind (cz_new (z := (s.1, s.2.1, 0, s.2.2.2.2.2)) (s := 4) (by omega) hz (by decide) (by omega) (by decide) (by show tkK g N s.1 ≠ 24; omega)) (fun F => rfl) fun z1 F1 ⟨a1, a2, a3, a4⟩ => ?_
  have hf1 := cFg_L hr hf a2
  dsimp only
  rw [if_neg (by decide)]
  refine cR_bind (cz_acc (by omega) a1 (by decide)) (fun F => rfl) fun z2 F2 ⟨b1, b2, b3⟩ => ?_
  have hf2 := cFg_L hr hf1 (xSm_mono b2 fun _ _ => cS2_L)
  dsimp only
  rw [if_neg (by decide)]
  refine cR_bind (cz_old (s := 1) (by omega) b1 (by decide)) (fun F => rfl) fun z3 F3 ⟨c1, c2, c2b⟩ => ?_
  have hf3 := cFg_L hr hf2 (xSm_mono c2 fun _ _ => cS3_L)
  have eN : F3 25 (6 * 4 + (s.2.2.2.1 4).length) = z1.2.2.1 := by rw [c2 _ _ rfl, b2 _ _ rfl, a3]
  have e8 : (F3 (F3 24 2).toNat 8).toNat = r + 1 + 4 := cZ_row (k := 4) c1 (by decide)
  dsimp only
  rw [if_pos (by decide), e8]
  have c3 := cZ_ptn (i := r + 1 + 4) (j := (s.2.2.2.1 4).length) (x := F3 24 6) c1 (by omega)
  have hf4 : cFg r s.2.2.2.2.1 (xst F3 (r + 1 + 4) (s.2.2.2.1 4).length (F3 24 6)) := cFg_L hr hf3 (xSm_st xSm_refl (decide_eq_true (by omega)))
  have eN1 : (xst F3 (r + 1 + 4) (s.2.2.2.1 4).length (F3 24 6)) 25 (6 * 4 + (s.2.2.2.1 4).length) = z1.2.2.1 := by rw [xst_nn (by omega), eN]
  generalize (xst F3 (r + 1 + 4) (s.2.2.2.1 4).length (F3 24 6)) = E at *
  have e4 : (E (E 24 2).toNat 4).toNat = r + 1 := cZ_row (k := 0) c3 (by decide)
  rw [cZ_cnt (t := 4) c3 (by decide), e4, w32_1 (by omega)]
  have g1 := cZ_ct c3 (s := 4) (by decide) (by omega) eN1 a4
  have hf5 : cFg r s.2.2.2.2.1 (xst E (r + 1) 4 (((s.2.2.2.1 4).length : Int) + 1)) := cFg_L hr hf4 (xSm_st xSm_refl (decide_eq_true (by omega)))
  generalize (xst E (r + 1) 4 (((s.2.2.2.1 4).length : Int) + 1)) = E2 at *
  refine cR_bind (cz_acc (by omega) g1 (by decide)) (fun F => rfl) fun z4 F4 ⟨d1, d2, d3⟩ => ?_
  have hf6 := cFg_L hr hf5 (xSm_mono d2 fun _ _ => cS2_L)
  dsimp only
  rw [if_neg (by decide)]
  refine cR_bind (cz_frm (by omega) hN d1 (f := 17 + (s.2.2.2.1 4).length) (w := 61 + (s.2.2.2.1 4).length) (by omega) (by omega) (cf_guild hl)) (fun F => rfl) fun z5 F5 ⟨cl5, f1, f2, f3⟩ => ?_
  have hf7 := cFg_L hr hf6 (xSm_mono f2 fun _ _ => cSF_L (by omega) (by omega))
  dsimp only
  rw [if_neg (by decide)]
  exact cR_id (cl_fin (by omega) f1 hf7) (fun F => rfl) (fun F => rfl)
/-- goal and gain -/
theorem cl_tells (hd : 1 ≤ d) (h : cZ oo g N c r days nm z cs C) (hf : cFg r fl C) {f : Nat} (hf2 : f = 1 ∨ f = 2) : xM d 20 [.inr (.inr (.inl (r, 2))), .inl ((14 + f : Nat) : Int)] C = some (if fl f = true then 1 else 0, C) := by
  obtain ⟨d, rfl⟩ := Nat.exists_eq_add_of_le' hd
  have e11 : (C r 11).toNat = r + 8 := by rw [h.1.1.2.1 7 (by decide)]; rfl
  have e12 : (C r 12).toNat = r + 9 := by rw [h.1.1.2.1 8 (by decide)]; rfl
  rw [xm_X3_tells, xixn (by omega), e11, e12, Int.toNat_natCast]
  simp only [cond_true, Bool.cond_decide]
  rcases hf.2 f hf2 with ⟨q1, q2⟩ | ⟨q1, q2, q3⟩
  · rw [if_neg (by omega), if_pos q1]
  · rw [if_pos (by omega), if_neg (by rw [q1]; decide)]
theorem cl_aim (hd : 113 ≤ d) (hN : N ≤ 1700) (h : cLS oo g N c r s C) {f : Nat} (hk : tkK g N s.1 ≠ 24) (hf2 : f = 1 ∨ f = 2) (hfl : s.2.2.2.2.1 f = false) : cR oo (cLS oo g N c r) (xM d 35 [pR, .inl ((14 + f : Nat) : Int)] C) ((sAim (tkK g N) (tkP g N) (tkV g N) f s).bind (cEnd (tkK g N) (tkP g N) s)) := by
  obtain ⟨d, rfl⟩ := Nat.exists_eq_add_of_le' (show 1 ≤ d by omega)
  obtain ⟨cl, hz, hf⟩ := h
  have hr := cZ_r hz
  have e2 : (C 24 2).toNat = r := by rw [hz.1.1.1.2.2.1]; rfl
  rw [xm_X5_readAim, e2, cl_tells (by omega) hz hf hf2, hfl]
  unfold sAim
  simp only [Bool.cond_decide, tX_assoc, tX_ok, Option.bind_some]
  rw [if_pos (by decide)]
  obtain ⟨F1, k1, k2, k3⟩ := cp_step (d := d) (by omega) hz.1.1 hz.1.2.1 hk
  have h1 : cZ oo g N c r s.2.2.1 s.2.2.2.1 (s.1 + 1, s.2.1, 0, s.2.2.2.2.2) cl F1 := cZ_mv hz (xSm_mono k3 fun _ _ => cS2_3) k2 rfl (tkP_mono s.1) rfl
  have hf1 := cFg_L hr hf (xSm_mono k3 fun _ _ => cS2_L)
  rw [k1]
  simp only [Option.bind_some]
  refine cR_bind (cz_frm (by omega) hN h1 (f := 14 + f) (w := 58 + f) (by omega) (by omega) (cf_aim hf2)) (fun F => rfl) fun z2 F2 ⟨cl2, b1, b2, b3, b4, b5⟩ => ?_
  dsimp only
  rw [if_neg (by decide)]
  have hf3 : cFg r (tTell s.2.2.2.2.1 f) F2 := by
    refine ⟨(b2 _ _ (by simp only [cSF, decide_eq_false_iff_not]; omega)).trans hf1.1, fun t ht => ?_⟩
    by_cases htf : t = f
    · subst htf
      refine Or.inl ⟨if_pos (Or.inr rfl), ?_⟩
      rw [b3, b4]; omega
    · have e : tTell s.2.2.2.2.1 f t = s.2.2.2.2.1 t := if_neg (by omega)
      rw [e, b2 (r + 8) (14 + t) (by simp only [cSF, decide_eq_false_iff_not]; omega), b2 (r + 9) (14 + t) (by simp only [cSF, decide_eq_false_iff_not]; omega)]
      exact hf1.2 t ht
  refine cR_id (cR_map (cz_acc (by omega) b1 (by decide)) fun y F ⟨a1, a2, a3⟩ => ⟨cl2, a1, cFg_L hr hf3 (xSm_mono a2 fun _ _ => cS2_L)⟩) (fun F => rfl) (fun F => rfl)
theorem cl_aim2 (hd : 2 ≤ d) (h : cLS oo g N c r s C) {f : Nat} (hf2 : f = 1 ∨ f = 2) (hfl : ¬ s.2.2.2.2.1 f = false) {A : Type} {P : A → xC → Prop} : cR oo P (xM d 35 [pR, .inl ((14 + f : Nat) : Int)] C) (tErr (tkK g N) (tkP g N) s.1 2 : tX A) := by
  obtain ⟨d, rfl⟩ := Nat.exists_eq_add_of_le' (show 1 ≤ d by omega)
  obtain ⟨cl, hz, hf⟩ := h
  have e2 : (C 24 2).toNat = r := by rw [hz.1.1.1.2.2.1]; rfl
  have hfl : s.2.2.2.2.1 f = true := by
    cases q : s.2.2.2.2.1 f with
    | true => rfl
    | false => exact absurd q hfl
  rw [xm_X5_readAim, e2, cl_tells (by omega) hz hf hf2, hfl]
  simp only [Bool.cond_decide, Option.bind_some]
  rw [if_neg (by decide)]
  exact cR_err (by omega) hz.1.1 hz.1.2.1 (by decide)
theorem cl_full (hd : 2 ≤ d) (h : cZ oo g N c r days nm z cs C) {t : Nat} {most : Int} (ht : t < 5) (hm : ¬ ((nm t).length : Int) < most) {A : Type} {P : A → xC → Prop} {k : Int × xC → Option (Int × xC)} (hk : ∀ F, k (0, F) = some (0, F)) : cR oo P ((xM d 44 [pR, .inl (t : Int), .inl most] C).bind k) (tErr (tkK g N) (tkP g N) z.1 2 : tX A) := by
  obtain ⟨d, rfl⟩ := Nat.exists_eq_add_of_le' (show 1 ≤ d by omega)
  have es : xix (t : Int) 5 = true := xixn ht
  rw [xm_X5_readNewName, es, Int.toNat_natCast, cZ_cnt h ht]
  rw [cond_true, decide_eq_false hm, cond_false]
  have := cR_err (P := P) (d := d) (by omega) h.1.1 h.1.2.1 (a := 2) (by decide)
  obtain ⟨F, k1, k2⟩ := this
  exact ⟨F, by rw [k1]; exact hk F, k2⟩
end cLine2
