/-! The class reads a formula as it is told. -/
section cLevel
variable {oo : xC} {g : Nat → Int} {N d c r i : Nat} {C D F : xC} {th : List Int} {s : tF}
def cS4 (r i j : Nat) : Bool := decide ((i = 24 ∧ (j = 3 ∨ j = 4 ∨ j = 5 ∨ j = 7)) ∨ (i = r ∧ (j = 2 ∨ j = 3)) ∨ i = r + 10)
theorem cS2_4 {i j : Nat} (h : cS4 r i j = false) : cS2 i j = false := by
  simp only [cS4, cS2, decide_eq_false_iff_not] at h ⊢; omega
theorem pSt_4 (h : pSt oo g N c r C) (hs : xSm (cS4 r) C F) : pSt oo g N c r F := by
  have hr := h.1.2.2.2
  refine pSt_same h hs ⟨?_, ?_, ?_⟩ (fun k _ => ?_) ⟨?_, ?_, ?_, ?_⟩ (fun j => ⟨?_, ?_, ?_⟩) (fun i j q1 q2 => ?_)
  all_goals simp only [cS4, decide_eq_false_iff_not]; omega
theorem cNm_4 {nm : List Int} {t : Nat} (hr : r = 2 ∨ r = 13) (h : cNm r t nm C) (hs : xSm (cS4 r) C F) : cNm r t nm F :=
  ⟨(hs _ _ (by simp only [cS4, decide_eq_false_iff_not]; omega)).trans h.1, fun j x hx => (hs _ _ (by simp only [cS4, decide_eq_false_iff_not]; omega)).trans (h.2 j x hx)⟩
/-- the token, the units, the codes -/
def cFd (oo : xC) (g : Nat → Int) (N c r : Nat) (th : List Int) (s : tF) (cs : List Int) (C : xC) : Prop := pSt oo g N c r C ∧ pAt g N c s.1 C ∧ C r 2 = s.2.1 ∧ C 24 7 = s.2.2 ∧ (0 ≤ s.2.1 ∧ s.2.1 ≤ 150 ∧ 0 ≤ s.2.2 ∧ s.2.2 ≤ 30) ∧ (cNm r 0 th C ∧ th.length ≤ 6) ∧ (C r 3 = (cs.length : Int) ∧ cRw r cs C) ∧ 3 * (cs.length : Int) ≤ 6 * s.2.1 + tkP g N s.1
theorem tkP_le (i : Nat) (hN : N ≤ 1700) : 0 ≤ tkP g N i ∧ tkP g N i ≤ 1700 := by
  have h := rdP_le (g := g) (N := N) i
  have e : tkP g N i = ((rdP g N i : Nat) : Int) := rfl
  omega
theorem tkP_mono (i : Nat) : tkP g N i ≤ tkP g N (i + 1) := by
  have e1 : tkP g N i = ((rdP g N i : Nat) : Int) := rfl
  have e2 : tkP g N (i + 1) = ((rdP g N (i + 1) : Nat) : Int) := rfl
  have h0 := rdP_le (g := g) (N := N) i
  have h2 := (rdEnd_spec (P := rdBlk) (g := g) (N := N) (rdE g N (rdP g N i))).1
  have h3 : rdP g N (i + 1) = rdEnd rdBlk g N (rdE g N (rdP g N i)) := rfl
  by_cases h : rdP g N i < N
  · have := rdP_lt h
    omega
  · have e : rdE g N (rdP g N i) = rdP g N i := by unfold rdE; rw [if_pos (by omega)]
    omega
/-- the word not takes three bytes -/
theorem tkP_not (i : Nat) (h : tkK g N i = 19) : tkP g N i + 3 ≤ tkP g N (i + 1) := by
  have e1 : tkP g N i = ((rdP g N i : Nat) : Int) := rfl
  have e2 : tkP g N (i + 1) = ((rdP g N (i + 1) : Nat) : Int) := rfl
  have hlt := (tk_lt (g := g) (N := N) (i := i) (by omega)).1
  have h2 := (rdEnd_spec (P := rdBlk) (g := g) (N := N) (rdE g N (rdP g N i))).1
  have h3 : rdP g N (i + 1) = rdEnd rdBlk g N (rdE g N (rdP g N i)) := rfl
  have hk : rdK g N (rdP g N i) = 19 := h
  have hl : rdLet (g (rdP g N i)) = true := by
    by_cases hl : rdLet (g (rdP g N i)) = true
    · exact hl
    · exfalso
      rw [rdK, if_neg (by omega), if_neg hl] at hk
      split at hk
      · split at hk <;> omega
      · split at hk
        · rename_i hs
          rw [rdSgn_iff, rdSg_iff] at hs
          omega
        · omega
  rw [rdK, if_neg (by omega), if_pos hl] at hk
  have hE : rdE g N (rdP g N i) = rdEnd rdLet g N (rdP g N i) := by rw [rdE, if_neg (by omega), if_pos hl]
  have hrun := rdEnd_run (P := rdLet) (g := g) (N := N) (p := rdP g N i)
  have hge := (rdEnd_spec (P := rdLet) (g := g) (N := N) (rdP g N i)).1
  split at hk
  · omega
  · have hw := (rdKw_iff (rdV 256 0 g (rdP g N i) (rdEnd rdLet g N (rdP g N i) - rdP g N i)) (j := 19) (c := 7237492) rfl).mp hk
    have hv := (rdV_256 (g := g) (p := rdP g N i) (rdEnd rdLet g N (rdP g N i) - rdP g N i) hrun).2
    rw [hw] at hv
    have h3 : 3 ≤ rdEnd rdLet g N (rdP g N i) - rdP g N i := by
      rcases Nat.lt_or_ge (rdEnd rdLet g N (rdP g N i) - rdP g N i) 3 with q | q
      · have : (256 : Int) ^ (rdEnd rdLet g N (rdP g N i) - rdP g N i) ≤ 256 ^ 2 := rdPow256 (by omega)
        omega
      · exact q
    omega
/-- the next token, within a formula -/
theorem cf_step (hd : 1 ≤ d) {cs : List Int} (h : cFd oo g N c r th s cs C) (h24 : tkK g N s.1 ≠ 24) : ∃ F, xM d 49 [pR] C = some (0, F) ∧ cFd oo g N c r th (s.1 + 1, s.2) cs F ∧ xSm (cS4 r) C F := by
  obtain ⟨a1, a2, a3, a4, a5, ⟨a6, a7⟩, a8, a9⟩ := h
  obtain ⟨F, k1, k2, k3⟩ := cp_step hd a1 a2 h24
  have hs : xSm (cS4 r) C F := xSm_mono k3 fun _ _ => cS2_4
  have hr := a1.1.2.2.2
  have hm := tkP_mono (g := g) (N := N) s.1
  refine ⟨F, k1, ⟨pSt_2 a1 k3, k2, (k3 _ _ ?_).trans a3, (k3 _ _ rfl).trans a4, a5, ⟨cNm_4 hr a6 hs, a7⟩, ⟨(k3 _ _ ?_).trans a8.1, cRw_same a8.2 fun j => k3 _ _ (by simp only [cS2, decide_eq_false_iff_not]; omega)⟩, ?_⟩, hs⟩
  · simp only [cS2, decide_eq_false_iff_not]; omega
  · simp only [cS2, decide_eq_false_iff_not]; omega
  · show 3 * (cs.length : Int) ≤ 6 * s.2.1 + tkP g N (s.1 + 1)
    omega
/-- one code more -/
theorem cf_code (hd : 1 ≤ d) (hN : N ≤ 1700) {cs : List Int} {a b : Int} (h1 : pSt oo g N c r C) (hat : pAt g N c i C) {u f : Int} (hu : C r 2 = u) (hf : C 24 7 = f) (hb : 0 ≤ u ∧ u ≤ 150 ∧ 0 ≤ f ∧ f ≤ 30) (hn : cNm r 0 th C ∧ th.length ≤ 6) (hc : C r 3 = (cs.length : Int) ∧ cRw r cs C) (hl : cs.length < 1024) (hl2 : 3 * ((cs.length + 1 : Nat) : Int) ≤ 6 * u + tkP g N i) :
    ∃ F, xM d 21 [.inr (.inr (.inl (r, 2))), .inl a, .inl b] C = some (0, F) ∧ cFd oo g N c r th (i, u, f) (cs ++ [ccd a b]) F ∧ xSm (cS4 r) C F := by
  have hr := h1.1.2.2.2
  have h13 : C r 13 = ((r + 10 : Nat) : Int) := h1.2.1 9 (by decide)
  obtain ⟨F, k1, k2, k3, k4, k5⟩ := cp_code (a := a) (b := b) hd hr h13 hc.1 hl
  have hs : xSm (cS4 r) C F := fun i' j' q => by
    simp only [cS4, decide_eq_false_iff_not] at q
    exact k3 i' j' (by omega) (by omega)
  obtain ⟨p1, p2, p3, p4, p5⟩ := hat
  exact ⟨F, k1, ⟨pSt_4 h1 hs, ⟨(k3 _ _ (by omega) (by omega)).trans p1, (k3 _ _ (by omega) (by omega)).trans p2, fun q => (k3 _ _ (by omega) (by omega)).trans (p3 q), p4, (k3 _ _ (by omega) (by omega)).trans p5⟩, (k3 _ _ (by omega) (by omega)).trans hu, (k3 _ _ (by omega) (by omega)).trans hf, hb, ⟨cNm_4 hr hn.1 hs, hn.2⟩, ⟨by rw [k2, List.length_append]; rfl, cRw_add hc.2 k4 k5⟩, by rw [List.length_append]; exact hl2⟩, hs⟩
/-- what comes of a level of the class -/
def cRes (oo : xC) (g : Nat → Int) (N c r : Nat) (th : List Int) (s : tF) (cs : List Int) (w : List tE) (C : xC) (o : Option (Int × xC)) (q : tX tF) : Prop := match q with
  | .error x => ∃ F, o = some (0, F) ∧ cFl oo x F
  | .ok s' => ∃ F, o = some (1, F) ∧ cFd oo g N c r th s' (cs ++ w.map ce) F ∧ xSm (cS4 r) C F ∧ 0 < w.length ∧ 3 * (w.length : Int) + 3 ≤ 6 * (s'.2.1 - s.2.1) + (tkP g N s'.1 - tkP g N s.1) ∧ s.2.2 + 1 ≤ s'.2.2
theorem cRes_fr {cs : List Int} {w : List tE} {o : Option (Int × xC)} {q : tX tF} (h : cRes oo g N c r th s cs w C o q) : cRes oo g N c r th s cs w C (o.bind fun q => xfr 1 q.2 (cond (decide (q.1 = 0) || decide (q.1 = 1)) (some (1, q.1)) none)) q := by
  cases q with
  | error x =>
    obtain ⟨F, k1, k2⟩ := h
    exact ⟨F, by rw [k1]; rfl, k2⟩
  | ok s' =>
    obtain ⟨F, k1, k2⟩ := h
    exact ⟨F, by rw [k1]; rfl, k2⟩
theorem cRes_err {cs : List Int} {w : List tE} {o : Option (Int × xC)} {a : Int} (ha : 0 < a) (h : ∃ F, o = some (0, F) ∧ cFl oo (if tkK g N i = 25 then 1 else a, tkP g N i) F) : cRes oo g N c r th s cs w C o (tErr (tkK g N) (tkP g N) i a) := h
theorem cf_unit (hd : 3 ≤ d) (hN : N ≤ 1700) (hnd : th.Nodup) {cs : List Int} {dp : Nat} (h : cFd oo g N c r th s cs C) (hdp : dp ≤ 7) {rec : Nat → Nat → tF → tX tF} {pr : Nat → Nat → tF → List tE}
    (hrec : ∀ (s' : tF) (C' : xC), dp ≤ 6 → cFd oo g N c r th s' cs C' → cRes oo g N c r th s' cs (pr 0 (dp + 1) s') C' (xM (d - 1) 40 [pR, .inl 0, .inl ((dp + 1 : Nat) : Int)] C') (rec 0 (dp + 1) s')) :
    cRes oo g N c r th s cs (pUnit (tkK g N) (tkV g N) th pr dp s) C (xM d 42 [pR, .inl (dp : Int)] C) (fUnit (tkK g N) (tkP g N) (tkV g N) th rec dp s) := by
  obtain ⟨d, rfl⟩ := Nat.exists_eq_add_of_le' (show 1 ≤ d by omega)
  have hh := h
  obtain ⟨a1, a2, a3, a4, a5, ⟨a6, a7⟩, a8, a9⟩ := h
  have hr := a1.1.2.2.2
  have e2 : (C 24 2).toNat = r := by rw [a1.1.2.2.1]; rfl
  have hpl := tkP_le (g := g) s.1 hN
  have hm := tkP_mono (g := g) (N := N) s.1
  have h22 : ∃ F, xw_X5_readUnit d (22, [some pR, some (.inl (dp : Int)), none], [], C) = some (0, F) ∧ cFl oo (if tkK g N s.1 = 25 then 1 else 2, tkP g N s.1) F := by
    obtain ⟨F, k1, k2⟩ := cp_refuse (d := d) (by omega) a1 a2 (a := 2) (by decide)
    refine ⟨F, ?_, k2⟩
    rw [xl_X5_readUnit_22, k1]
    rfl
  have h223 : ∀ (o : Option xV) (i' : Nat) (x : Int × Int) (w : List tE) (E : xC), cFd oo g N c r th (i', x) (cs ++ w.map ce) E → tkK g N i' ≠ 24 → xSm (cS4 r) C E → 0 < w.length → 3 * (w.length : Int) + 3 ≤ 6 * (x.1 - s.2.1) + (tkP g N i' - tkP g N s.1) → s.2.2 + 1 ≤ x.2 → cRes oo g N c r th s cs w C (xw_X5_readUnit d (223, [some pR, some (.inl (dp : Int)), o], [], E)) (.ok (i' + 1, x)) := by
    intro o i' x w E g1 g2 g3 g4 g5 g6
    obtain ⟨F, k1, k2, k3⟩ := cf_step (d := d) (by omega) g1 g2
    have hm' := tkP_mono (g := g) (N := N) i'
    refine ⟨F, ?_, k2, xSm_trans g3 k3, g4, ?_, g6⟩
    · rw [xl_X5_readUnit_223, k1]; rfl
    · show 3 * (w.length : Int) + 3 ≤ 6 * (x.1 - s.2.1) + (tkP g N (i' + 1) - tkP g N s.1)
      omega
  unfold fUnit pUnit
  rw [xm_X5_readUnit, e2]
  simp only [Bool.cond_decide]
  rw [a3, a4]
  by_cases hfull : 150 ≤ s.2.1 ∨ 30 ≤ s.2.2
  · rw [if_pos hfull]
    refine cRes_err (by decide) ?_
    by_cases h150 : 150 ≤ s.2.1
    · rw [if_pos h150]; exact h22
    · rw [if_neg h150, if_neg (by omega)]; exact h22
  · rw [if_neg hfull, if_neg (show ¬ (150 ≤ s.2.1) by omega), if_pos (show s.2.2 < 30 by omega), w32_id (z := s.2.1 + 1) (by omega) (by omega)]
    have g7 : (xst C r 2 (s.2.1 + 1)) 24 7 = s.2.2 := by rw [xst_nn (by omega), a4]
    have g4 : (xst C r 2 (s.2.1 + 1)) 24 4 = tkK g N s.1 := by rw [xst_nn (by omega), a2.2.1]
    have g2 : (xst C r 2 (s.2.1 + 1)) 24 2 = (r : Int) := by rw [xst_nn (by omega), a1.1.2.2.1]
    rw [g7, g4, g2, w32_id (z := s.2.2 + 1) (by omega) (by omega), Int.toNat_natCast]
    have hS : xSm (cS4 r) C (xst (xst C r 2 (s.2.1 + 1)) 24 7 (s.2.2 + 1)) := xSm_st (xSm_st xSm_refl (by simp [cS4])) (by simp [cS4])
    have b1 := pSt_4 a1 hS
    have b2 : pAt g N c s.1 (xst (xst C r 2 (s.2.1 + 1)) 24 7 (s.2.2 + 1)) := by
      obtain ⟨p1, p2, p3, p4, p5⟩ := a2
      refine ⟨?_, ?_, fun q => ?_, p4, ?_⟩
      all_goals rw [xst_nn (by omega), xst_nn (by omega)]
      · exact p1
      · exact p2
      · exact p3 q
      · exact p5
    have b3 : (xst (xst C r 2 (s.2.1 + 1)) 24 7 (s.2.2 + 1)) r 2 = s.2.1 + 1 := by rw [xst_nn (by omega), xst_at]
    have b4 : (xst (xst C r 2 (s.2.1 + 1)) 24 7 (s.2.2 + 1)) 24 7 = s.2.2 + 1 := by rw [xst_at]
    have b8 : (xst (xst C r 2 (s.2.1 + 1)) 24 7 (s.2.2 + 1)) r 3 = (cs.length : Int) ∧ cRw r cs (xst (xst C r 2 (s.2.1 + 1)) 24 7 (s.2.2 + 1)) := ⟨by rw [xst_nn (by omega), xst_nn (by omega), a8.1], cRw_same a8.2 fun j => by rw [xst_nn (by omega), xst_nn (by omega)]⟩
    have b6 := cNm_4 hr a6 hS
    generalize (xst (xst C r 2 (s.2.1 + 1)) 24 7 (s.2.2 + 1)) = E at *
    have hbb : 0 ≤ s.2.1 + 1 ∧ s.2.1 + 1 ≤ 150 ∧ 0 ≤ s.2.2 + 1 ∧ s.2.2 + 1 ≤ 30 := by omega
    have hcl : cs.length < 1024 := by omega
    have hcode : ∀ x y : Int, ∃ F, xM d 21 [.inr (.inr (.inl (r, 2))), .inl x, .inl y] E = some (0, F) ∧ cFd oo g N c r th (s.1, s.2.1 + 1, s.2.2 + 1) (cs ++ [ccd x y]) F ∧ xSm (cS4 r) E F := fun x y => cf_code (d := d) (by omega) hN b1 b2 b3 b4 hbb ⟨b6, a7⟩ b8 hcl (by omega)
    have hgood : ∀ (x y : Int) (e : tE) (o : Option xV), ce e = ccd x y → tkK g N s.1 ≠ 24 → cRes oo g N c r th s cs [e] C ((xM d 21 [.inr (.inr (.inl (r, 2))), .inl x, .inl y] E).bind fun q => xw_X5_readUnit d (223, [some pR, some (.inl (dp : Int)), o], [], q.2)) (.ok (s.1 + 1, s.2.1 + 1, s.2.2 + 1)) := by
      intro x y e o he h24
      obtain ⟨F, k1, k2, k3⟩ := hcode x y
      rw [← he] at k2
      rw [k1]
      exact h223 o s.1 (s.2.1 + 1, s.2.2 + 1) [e] F k2 h24 (xSm_trans hS k3) (Nat.le_refl 1) (by show 3 * ((1 : Nat) : Int) + 3 ≤ 6 * (s.2.1 + 1 - s.2.1) + (tkP g N s.1 - tkP g N s.1); omega) (Int.le_refl _)
    by_cases k20 : tkK g N s.1 = 20
    · rw [if_pos k20, if_pos (show tkK g N s.1 = 23 ∨ tkK g N s.1 = 20 ∨ tkK g N s.1 = 21 by omega), if_neg (show ¬ tkK g N s.1 = 23 by omega), if_pos k20]
      exact hgood 2 0 (1, 6) none rfl (by omega)
    rw [if_neg k20]
    by_cases k21 : tkK g N s.1 = 21
    · rw [if_pos k21, if_pos (show tkK g N s.1 = 23 ∨ tkK g N s.1 = 20 ∨ tkK g N s.1 = 21 by omega), if_neg (show ¬ tkK g N s.1 = 23 by omega), if_neg k20, if_pos k21]
      exact hgood 3 0 (1, 7) none rfl (by omega)
    rw [if_neg k21]
    by_cases k22 : tkK g N s.1 = 22
    · rw [if_pos k22, if_neg (show ¬ (tkK g N s.1 = 23 ∨ tkK g N s.1 = 20 ∨ tkK g N s.1 = 21) by omega), if_pos k22, if_neg (show ¬ tkK g N s.1 = 23 by omega), if_neg k20, if_neg k21, if_pos k22]
      obtain ⟨x, x1, x2⟩ := cp_findi (d := d) (s := 0) (by omega) b1 (by decide) b6 a7
      have e5 : E 24 5 = tkV g N s.1 := b2.2.2.1 (by omega)
      rw [e5] at x2
      have x1 : xM d 46 [pR, .inl (0 : Int)] E = some (x, E) := x1
      rw [x1]
      simp only [Option.bind_some]
      rcases x2 with ⟨x3, x4, x5, x6⟩ | ⟨x3, x4⟩
      · have e2E : (E 24 2).toNat = r := by rw [b1.1.2.2.1]; rfl
        rw [if_pos x6, if_pos x5, e2E]
        have hx := rIdx hnd x3 x4
        have hi := List.idxOf_lt_length_iff.mpr x5
        refine hgood 1 x _ _ ?_ (by omega)
        show ccd (ceK (1, ((th.idxOf (tkV g N s.1) : Nat) : Int))) (ceN (1, ((th.idxOf (tkV g N s.1) : Nat) : Int))) = ccd 1 x
        rw [hx]
        generalize th.idxOf (tkV g N s.1) = m at *
        have e1 : ceK (1, ((m : Nat) : Int)) = 1 := by
          show (if ((m : Nat) : Int) = 6 then (2 : Int) else if ((m : Nat) : Int) = 7 then 3 else 1) = 1
          rw [if_neg (by omega), if_neg (by omega)]
        have e2 : ceN (1, ((m : Nat) : Int)) = (m : Int) := if_pos (show (1 : Int) = 1 ∧ ((m : Nat) : Int) ≠ 6 ∧ ((m : Nat) : Int) ≠ 7 by omega)
        rw [e1, e2]
      · rw [if_neg (fun q => q x3), if_neg x4]
        obtain ⟨F, k1, k2⟩ := cp_refuse (d := d) (by omega) b1 b2 (a := 5) (by decide)
        rw [k1]
        exact ⟨F, rfl, k2⟩
    rw [if_neg k22]
    by_cases k23 : tkK g N s.1 = 23
    · have o3 : 0 ≤ tkV g N s.1 ∧ tkV g N s.1 ≤ 9999 := (rdK_ok (g := g) (N := N) (rdP g N s.1)).2.2 k23
      have e5 : (xst C r 2 (s.2.1 + 1)) 24 5 = tkV g N s.1 := by
        rw [xst_nn (by omega)]
        exact a2.2.2.1 (by omega)
      rw [if_pos k23, if_pos (show tkK g N s.1 = 23 ∨ tkK g N s.1 = 20 ∨ tkK g N s.1 = 21 by omega), if_pos k23, if_neg k20, if_neg k21, if_neg k22, e5, w32_id (by omega) (by omega)]
      exact hgood 0 _ (0, tkV g N s.1) none rfl (by omega)
    rw [if_neg k23, if_neg (show ¬ (tkK g N s.1 = 23 ∨ tkK g N s.1 = 20 ∨ tkK g N s.1 = 21) by omega), if_neg k22, if_neg k23, if_neg k20, if_neg k21, if_neg k22]
    by_cases k40 : tkK g N s.1 = 40
    · rw [if_pos k40, if_pos k40]
      by_cases h6 : 6 < dp
      · rw [if_neg (show ¬ ((dp : Int) ≤ 6) by omega), if_pos h6]
        obtain ⟨F, k1, k2⟩ := cp_refuse (d := d) (by omega) b1 b2 (a := 2) (by decide)
        rw [k1]
        exact ⟨F, rfl, k2⟩
      · rw [if_pos (show ((dp : Int) ≤ 6) by omega), if_neg h6]
        have hE : cFd oo g N c r th (s.1, s.2.1 + 1, s.2.2 + 1) cs E := ⟨b1, b2, b3, b4, hbb, ⟨b6, a7⟩, b8, by show 3 * (cs.length : Int) ≤ 6 * (s.2.1 + 1) + tkP g N s.1; omega⟩
        obtain ⟨F, k1, k2, k3⟩ := cf_step (d := d) (by omega) hE (by show tkK g N s.1 ≠ 24; omega)
        rw [k1]
        simp only [Option.bind_some]
        have hrr := hrec (s.1 + 1, s.2.1 + 1, s.2.2 + 1) F (by omega) k2
        rw [w32_s (by omega)]
        cases hq : rec 0 (dp + 1) (s.1 + 1, s.2.1 + 1, s.2.2 + 1) with
        | error x =>
          rw [hq] at hrr
          obtain ⟨F2, j1, j2⟩ := hrr
          have j1 : xM d 40 [pR, .inl 0, .inl ((dp + 1 : Nat) : Int)] F = some (0, F2) := j1
          rw [j1]
          exact ⟨F2, rfl, j2⟩
        | ok s1 =>
          rw [hq] at hrr
          obtain ⟨F2, j1, j2, j3, j4, j5, j6⟩ := hrr
          have j1 : xM d 40 [pR, .inl 0, .inl ((dp + 1 : Nat) : Int)] F = some (1, F2) := j1
          have j5 : 3 * ((pr 0 (dp + 1) (s.1 + 1, s.2.1 + 1, s.2.2 + 1)).length : Int) + 3 ≤ 6 * (s1.2.1 - (s.2.1 + 1)) + (tkP g N s1.1 - tkP g N (s.1 + 1)) := j5
          have j6 : s.2.2 + 1 + 1 ≤ s1.2.2 := j6
          rw [j1]
          simp only [Option.bind_some]
          show cRes oo g N c r th s cs _ C _ (if tkK g N s1.1 = 41 then .ok (s1.1 + 1, s1.2) else tErr (tkK g N) (tkP g N) s1.1 2)
          rw [if_pos (by decide), j2.2.1.2.1]
          by_cases k41 : tkK g N s1.1 = 41
          · rw [if_pos k41, if_pos k41]
            exact h223 none s1.1 s1.2 _ F2 j2 (by omega) (xSm_trans hS (xSm_trans k3 j3)) j4 (by omega) (by omega)
          · rw [if_neg k41, if_neg k41]
            obtain ⟨F3, l1, l2⟩ := cp_refuse (d := d) (by omega) j2.1 j2.2.1 (a := 2) (by decide)
            rw [l1]
            exact ⟨F3, rfl, l2⟩
    · rw [if_neg k40, if_neg k40]
      obtain ⟨F, k1, k2⟩ := cp_refuse (d := d) (by omega) b1 b2 (a := 2) (by decide)
      rw [k1]
      exact ⟨F, rfl, k2⟩
end cLevel
