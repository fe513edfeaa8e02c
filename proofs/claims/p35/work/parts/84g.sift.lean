/-! How many calendars fit: the class, the reference. -/
section cSift
variable {T d r : Nat} {C F : xC} {t : eT} {c : tC} {f : Nat → Int} {nL : Nat} {D : Int} {K : eK} {k : Int}
theorem eNum_no {p : Nat → Bool} (h : ∀ n, p n = false) : ∀ n, eNum p n = 0 := by
  intro n
  induction n with
  | zero => rfl
  | succ n ih =>
    show eNum p n + (if p n = true then 1 else 0) = 0
    rw [ih, h n, if_neg (by decide)]
theorem eOr_no {p : Nat → Bool} {f : Nat → Int} (h : ∀ n, p n = false) : ∀ n, eOr p f n = 0 := by
  intro n
  induction n with
  | zero => rfl
  | succ n ih =>
    show (if p n = true then _ else eOr p f n) = 0
    rw [h n, if_neg (by decide), ih]
theorem eNum_le {p : Nat → Bool} : ∀ n, eNum p n ≤ n := by
  intro n
  induction n with
  | zero => exact Nat.le_refl _
  | succ n ih =>
    show eNum p n + (if p n = true then 1 else 0) ≤ n + 1
    split <;> omega
/-- what of the class's objects stays as it is while calendars are sifted -/
def cFx (C : xC) : Prop := (C 65 0 = 59 ∧ C 65 1 = 37 ∧ C 65 2 = 70 ∧ C 65 3 = 66 ∧ C 65 6 = 69) ∧ C 37 5 = 38 ∧ C 37 6 = 39 ∧ C 37 7 = 40
theorem cFx_same (h : cFx C) (hs : ∀ i j, i = 65 ∨ (i = 37 ∧ 5 ≤ j) → F i j = C i j) : cFx F := by
  obtain ⟨⟨a1, a2, a3, a4, a5⟩, b1, b2, b3⟩ := h
  exact ⟨⟨by rw [hs _ _ (by omega), a1], by rw [hs _ _ (by omega), a2], by rw [hs _ _ (by omega), a3], by rw [hs _ _ (by omega), a4], by rw [hs _ _ (by omega), a5]⟩, by rw [hs _ _ (by omega), b1], by rw [hs _ _ (by omega), b2], by rw [hs _ _ (by omega), b3]⟩
theorem cSM_keep {i j : Nat} (h : xSm cSM C F) (q : i ≠ 38 ∧ i ≠ 40 ∧ ¬ (i = 37 ∧ (j = 2 ∨ j = 3))) : F i j = C i j := h i j (by simp only [cSM, decide_eq_false_iff_not]; omega)
/-- how a thing's number is seen at an hour: what is counted -/
def leftP (T : Nat) (c : tC) (D : Int) (nL : Nat) (K : eK) (k : Int) (h n : Nat) (C : xC) : Prop := (∀ i v, i < T → v < 1000 → C 68 (1000 * i + v) = (eTal c D nL K k h i (v : Int) n : Int)) ∧ ∀ i v, i < 6 → v < 1000 → 0 ≤ C 68 (1000 * i + v) ∧ C 68 (1000 * i + v) ≤ (n : Int)
theorem eTal_le {h j n : Nat} {v : Int} : eTal c D nL K k h j v n ≤ n := eNum_le n
/-- an equation that isn't looked into -/
def eqI (a b : Int) : Prop := a = b
theorem lmax (last h : Nat) (h1 : last ≤ 60) (h2 : h ≤ 60) : ∃ lm : Nat, eqI (max (last : Int) (h : Int)) (lm : Int) ∧ last ≤ lm ∧ h ≤ lm ∧ lm ≤ 60 := ⟨max last h, by unfold eqI; omega, by omega, by omega, by omega⟩
/-- one calendar after the other, asked of an hour -/
theorem cv_siftH (hd : 6 ≤ d) (hc : eLok T c nL) (hT6 : T ≤ 6) (h2 : 2 ≤ D) (h9 : D ≤ 9) (hK : kOk T K) {r2 : Nat} {kn : Nat → Int} (hkn : kTb K k K.1 kn) {last : Nat} (hl60 : last ≤ 60) (hlast : ∀ x, x < K.1 → kCt K k x = true → K.2.1 x ≤ (last : Int)) {N : Nat} (hN : N ≤ 20000) {h : Nat} (hh60 : h ≤ 60) (hbd : ∀ n j, j < T → 0 ≤ eSee c D nL h j n ∧ eSee c D nL h j n ≤ 999) : ∀ (m n : Nat) (C : xC), n + m = N → C 66 = kn → cFx C ∧ C 65 4 = 67 ∧ C 65 5 = 68 → cTr T r c (eLay D nL (n : Int)) nL D C → (∀ j, j < 6 → 0 ≤ C 71 j ∧ C 71 j ≤ 999) → leftP T c D nL K k h n C →
    ∃ F, xw_X2_sift d (68, [some fR, some (.inr (.inr (.inl (r2, 2)))), some (.inl k), some (.inl (h : Int)), some (.inl (N : Int)), some (.inl (last : Int)), some (.inl ((eNum (fun n => eFits c (eLay D nL (n : Int)) D nL K k) n : Nat) : Int)), some (.inl (n : Int))], [], C) = some (((eNum (fun n => eFits c (eLay D nL (n : Int)) D nL K k) N : Nat) : Int), F) ∧ leftP T c D nL K k h N F ∧ (cFx F ∧ F 65 4 = 67 ∧ F 65 5 = 68) ∧ (∀ j, F 0 j = C 0 j) ∧ ∀ i j, r ≤ i → i ≤ r + 10 → F i j = C i j := by
  intro m
  induction m with
  | zero =>
    intro n C hn h66 hF hT hB hP
    have hn : n = N := hn
    subst hn
    refine ⟨C, ?_, hP, hF, fun _ => rfl, fun _ _ _ _ => rfl⟩
    rw [xl_X2_sift_68]
    simp only [Bool.cond_decide]
    rw [if_pos (Int.le_refl _)]
  | succ m ih =>
    intro n C hn h66 hF hT hB hP
    have h5 := hc.1
    have hr := hT.2.2.2.2.1
    obtain ⟨hF, hf4, hf5⟩ := hF
    obtain ⟨lm, hlm, lm1, lm2, lm60⟩ := lmax last h hl60 hh60
    have en : ((n : Int) + 1) = ((n + 1 : Nat) : Int) := by omega
    have hle := eNum_le (p := fun n => eFits c (eLay D nL (n : Int)) D nL K k) n
    have hnN : ¬ ((N : Int) ≤ (n : Int)) := by omega
    have hl1 : ¬ ((last : Int) = -1) := by omega
    obtain ⟨F1, p1, p2, p3, p4⟩ := cv_copy (d := d) (by omega) hT6 h5 hT hF.2
    have hF1 : cFx F1 := by
      obtain ⟨⟨a1, a2, a3, a4, a5⟩, b1, b2, b3⟩ := hF
      exact ⟨⟨by rw [p3 _ _ (by omega) (by omega) (by omega), a1], by rw [p3 _ _ (by omega) (by omega) (by omega), a2], by rw [p3 _ _ (by omega) (by omega) (by omega), a3], by rw [p3 _ _ (by omega) (by omega) (by omega), a4], by rw [p3 _ _ (by omega) (by omega) (by omega), a5]⟩, p2.1.2.1, p2.1.2.2.1, p2.1.2.2.2.1⟩
    have k66 : F1 66 = kn := by rw [← h66]; exact funext fun j => p3 66 j (by omega) (by omega) (by omega)
    have hT1 : cTr T r c (eLay D nL (n : Int)) nL D F1 := cTr_same hT (fun i j q => p3 i j (by omega) (by omega) (by omega)) fun l hl => by rw [p3 _ _ (by omega) (by omega) (by omega), hT.2.2.2.1 l hl]
    obtain ⟨d', rfl⟩ := Nat.exists_eq_add_of_le' (show 1 ≤ d by omega)
    obtain ⟨b, F2, q1, q2, qT, q3⟩ := cv_fitting (d := d') (f := eLay D nL (n : Int)) (last := lm) (as := (h : Int)) (by omega) hc h2 h9 lm60 (lm + 1) 0 F1 (by omega) ⟨hF1.1.2.2.2.1, hF1.1.2.1, by rw [p3 _ _ (by omega) (by omega) (by omega), hf4]⟩ (by rw [k66]; exact kTb_T hK hkn) p2
    have q1 : xM (d' + 1) 12 [fR, .inl (lm : Int), .inl (h : Int)] F1 = some (b, F2) := by
      rw [xm_X2_fitting]
      exact q1
    unfold fitQ at q3
    rw [k66] at q3
    have kN : ∀ i j, i ≠ 38 → i ≠ 40 → i ≠ 67 → ¬ (i = 37 ∧ (j = 2 ∨ j = 3)) → F2 i j = F1 i j := by
      clear q3
      exact fun i j u1 u2 u3 u4 => q2 i j (by simp only [cSN, cSM, decide_eq_false_iff_not, decide_eq_true_eq]; omega)
    have hF2 : cFx F2 := by
      clear q3
      exact cFx_same hF1 fun i j q => kN _ _ (by omega) (by omega) (by omega) (by omega)
    have k662 : F2 66 = kn := by rw [← k66]; exact funext fun j => kN _ _ (by decide) (by decide) (by decide) (fun q => absurd q.1 (by decide))
    have hT2 : cTr T r c (eLay D nL (n : Int)) nL D F2 := by
      clear q3
      exact cTr_same hT1 (fun i j q => kN _ _ (by omega) (by omega) (by omega) (by omega)) fun l hl => by rw [kN _ _ (by omega) (by omega) (by omega) (by omega), hT1.2.2.2.1 l hl]
    have k2C : ∀ i j, i ≠ 37 → i ≠ 38 → i ≠ 39 → i ≠ 40 → i ≠ 67 → F2 i j = C i j := fun i j u1 u2 u3 u4 u5 => by rw [kN _ _ u2 u4 u5 (fun w => u1 w.1), p3 _ _ u1 u2 u3]
    have hiff := kTb_fits (c := c) (f := eLay D nL (n : Int)) (D := D) (nL := nL) hK hkn (last := lm) lm60 (fun x hx hcx => by
      clear q3
      have := hlast x hx hcx
      omega)
    have ws1 : w32 ((n : Int) + 1) = ((n + 1 : Nat) : Int) := by clear q3 hiff; exact w32_s (by omega)
    have ws2 : w32 (((eNum (fun n => eFits c (eLay D nL (n : Int)) D nL K k) n : Nat) : Int) + 1) = ((eNum (fun n => eFits c (eLay D nL (n : Int)) D nL K k) n + 1 : Nat) : Int) := by clear q3 hiff ws1; exact w32_s (by omega)
    have e1 : (C 65 1).toNat = 37 := by rw [hF.1.2.1]; rfl
    have e2 : (C 65 2).toNat = 70 := by rw [hF.1.2.2.1]; rfl
    rw [xl_X2_sift_68, e1, e2, show max (last : Int) (h : Int) = (lm : Int) from hlm, p1, ws1, ws2]
    clear ws1 ws2 e1 e2
    simp only [Bool.cond_decide, Option.bind_some]
    rw [if_neg hnN, if_neg hl1, q1]
    simp only [Option.bind_some]
    rcases q3 with ⟨rfl, q3, q4, -⟩ | ⟨rfl, q3⟩
    · have hyes : eFits c (eLay D nL (n : Int)) D nL K k = true := hiff.mp fun h' hh => q3 h' (Nat.zero_le _) hh
      have hsee := q4 h rfl (Nat.zero_le _) lm2
      clear q3 q4 hiff
      rw [if_neg (show ¬ ((1 : Int) = 0) by decide)]
      have h38 : ∀ j, j < 6 → F1 38 j = C 71 j := p4
      have hs67 : ∀ j, j < 6 → 0 ≤ F2 67 j ∧ F2 67 j ≤ 999 := fun j hj => by
        rw [hsee j hj]
        by_cases hjT : j < T
        · rw [if_pos hjT]; exact hbd n j hjT
        · rw [if_neg hjT, h38 j hj]; exact hB j hj
      have hb68 : ∀ i v, i < 6 → v < 1000 → 0 ≤ F2 68 (1000 * i + v) ∧ F2 68 (1000 * i + v) ≤ 100000 := fun i v hi hv => by
        rw [k2C _ _ (by decide) (by decide) (by decide) (by decide) (by decide)]
        have := hP.2 i v hi hv
        omega
      obtain ⟨F3, s1, s2, s3⟩ := cv_noteA (d := d' + 1) (by omega) ⟨hF2.1.2.2.1, hF2.1.2.2.2.2, by rw [k2C _ _ (by decide) (by decide) (by decide) (by decide) (by decide), hf4], by rw [k2C _ _ (by decide) (by decide) (by decide) (by decide) (by decide), hf5]⟩ hT2 h5 (as := (h : Int)) (by omega) hs67 hb68
      rw [s1]
      simp only [Option.bind_some]
      have hT3 : cTr T r c (eLay D nL (n : Int)) nL D F3 := cTr_same hT2 (fun i j q => s2 i j (by omega) (by omega)) fun l hl => by rw [s2 _ _ (by omega) (by omega), hT2.2.2.2.1 l hl]
      obtain ⟨F4, u1, u2, u3⟩ := cv_nextC (d := d' + 1) (by omega) h2 h9 h5 (Int.natCast_nonneg n) hT3
      have e23 : (F3 65 2).toNat = 70 := by rw [s2 _ _ (by omega) (by omega), hF2.1.2.2.1]; rfl
      rw [e23, u1]
      clear e23
      simp only [Option.bind_some]
      rw [en] at u2
      have hnum : eNum (fun n => eFits c (eLay D nL (n : Int)) D nL K k) n + 1 = eNum (fun n => eFits c (eLay D nL (n : Int)) D nL K k) (n + 1) := by
        show _ = eNum (fun n => eFits c (eLay D nL (n : Int)) D nL K k) n + (if eFits c (eLay D nL (n : Int)) D nL K k = true then 1 else 0)
        rw [if_pos hyes]
      rw [hnum]
      have k4 : ∀ i j, i ≠ 37 → i ≠ 38 → i ≠ 39 → i ≠ 40 → i ≠ 67 → i ≠ 68 → i ≠ 69 → i ≠ 72 → F4 i j = C i j := fun i j w1 w2 w3 w4 w5 w6 w7 w8 => by rw [u3 _ _ w8, s2 _ _ w7 w6, k2C _ _ w1 w2 w3 w4 w5]
      have h468 : ∀ i v, i < 6 → v < 1000 → F4 68 (1000 * i + v) = C 68 (1000 * i + v) + (if F2 67 i = (v : Int) then 1 else 0) := fun i v hi hv => by
        rw [u3 _ _ (by decide), s3 i v hi hv, k2C _ _ (by decide) (by decide) (by decide) (by decide) (by decide)]
      have hP4 : leftP T c D nL K k h (n + 1) F4 := by
        refine ⟨fun i v hi hv => ?_, fun i v hi hv => ?_⟩
        · rw [h468 i v (by omega) hv, hP.1 i v hi hv, hsee i (by omega), if_pos hi]
          show (eTal c D nL K k h i (v : Int) n : Int) + (if eSee c D nL h i n = (v : Int) then 1 else 0) = ((eTal c D nL K k h i (v : Int) n + (if (eFits c (eLay D nL (n : Int)) D nL K k && decide (eSee c D nL h i n = (v : Int))) = true then 1 else 0) : Nat) : Int)
          rw [hyes, Bool.true_and]
          by_cases hv2 : eSee c D nL h i n = (v : Int)
          · rw [if_pos hv2, if_pos (decide_eq_true hv2), Int.natCast_add]; rfl
          · rw [if_neg hv2, if_neg (by rw [decide_eq_false hv2]; decide), Nat.add_zero, Int.add_zero]
        · rw [h468 i v hi hv]
          have := hP.2 i v hi hv
          split <;> omega
      obtain ⟨F, g1, g2, g3, g4, g5⟩ := ih (n + 1) F4 (by omega) (by rw [← h66]; exact funext fun j => k4 _ _ (by decide) (by decide) (by decide) (by decide) (by decide) (by decide) (by decide) (by decide)) ⟨cFx_same hF2 fun i j q => by rw [u3 _ _ (by omega), s2 _ _ (by omega) (by omega)], by rw [k4 _ _ (by decide) (by decide) (by decide) (by decide) (by decide) (by decide) (by decide) (by decide), hf4], by rw [k4 _ _ (by decide) (by decide) (by decide) (by decide) (by decide) (by decide) (by decide) (by decide), hf5]⟩ u2 (fun j hj => by rw [k4 _ _ (by decide) (by decide) (by decide) (by decide) (by decide) (by decide) (by decide) (by decide)]; exact hB j hj) hP4
      exact ⟨F, g1, g2, g3, fun j => by rw [g4, k4 _ _ (by decide) (by decide) (by decide) (by decide) (by decide) (by decide) (by decide) (by decide)], fun i j w1 w2 => by rw [g5 i j w1 w2, k4 _ _ (by omega) (by omega) (by omega) (by omega) (by omega) (by omega) (by omega) (by omega)]⟩
    · have hno : ¬ eFits c (eLay D nL (n : Int)) D nL K k = true := fun h => by
        obtain ⟨h', h1, h3⟩ := q3
        exact h3 (hiff.mpr h h' h1)
      clear q3 hiff
      rw [if_pos (show (0 : Int) = 0 from rfl)]
      obtain ⟨F4, u1, u2, u3⟩ := cv_nextC (d := d' + 1) (by omega) h2 h9 h5 (Int.natCast_nonneg n) hT2
      have e22 : (F2 65 2).toNat = 70 := by rw [hF2.1.2.2.1]; rfl
      rw [e22, u1]
      clear e22
      simp only [Option.bind_some]
      rw [en] at u2
      have hnum : eNum (fun n => eFits c (eLay D nL (n : Int)) D nL K k) n = eNum (fun n => eFits c (eLay D nL (n : Int)) D nL K k) (n + 1) := by
        show _ = eNum (fun n => eFits c (eLay D nL (n : Int)) D nL K k) n + (if eFits c (eLay D nL (n : Int)) D nL K k = true then 1 else 0)
        rw [if_neg hno, Nat.add_zero]
      rw [hnum]
      have k4 : ∀ i j, i ≠ 37 → i ≠ 38 → i ≠ 39 → i ≠ 40 → i ≠ 67 → i ≠ 72 → F4 i j = C i j := fun i j w1 w2 w3 w4 w5 w8 => by rw [u3 _ _ w8, k2C _ _ w1 w2 w3 w4 w5]
      have hP4 : leftP T c D nL K k h (n + 1) F4 := by
        refine ⟨fun i v hi hv => ?_, fun i v hi hv => ?_⟩
        · rw [k4 _ _ (by decide) (by decide) (by decide) (by decide) (by decide) (by decide), hP.1 i v hi hv]
          show (eTal c D nL K k h i (v : Int) n : Int) = ((eTal c D nL K k h i (v : Int) n + (if (eFits c (eLay D nL (n : Int)) D nL K k && decide (eSee c D nL h i n = (v : Int))) = true then 1 else 0) : Nat) : Int)
          rw [show eFits c (eLay D nL (n : Int)) D nL K k = false by simpa using hno, Bool.false_and, if_neg (by decide), Nat.add_zero]
        · rw [k4 _ _ (by decide) (by decide) (by decide) (by decide) (by decide) (by decide)]
          have := hP.2 i v hi hv
          omega
      obtain ⟨F, g1, g2, g3, g4, g5⟩ := ih (n + 1) F4 (by omega) (by rw [← k662]; exact funext fun j => u3 _ _ (by omega)) ⟨cFx_same hF2 fun i j q => u3 _ _ (by omega), by rw [k4 _ _ (by decide) (by decide) (by decide) (by decide) (by decide) (by decide), hf4], by rw [k4 _ _ (by decide) (by decide) (by decide) (by decide) (by decide) (by decide), hf5]⟩ u2 (fun j hj => by rw [k4 _ _ (by decide) (by decide) (by decide) (by decide) (by decide) (by decide)]; exact hB j hj) hP4
      exact ⟨F, g1, g2, g3, fun j => by rw [g4, k4 _ _ (by decide) (by decide) (by decide) (by decide) (by decide) (by decide)], fun i j w1 w2 => by rw [g5 i j w1 w2, k4 _ _ (by omega) (by omega) (by omega) (by omega) (by omega) (by omega)]⟩
/-- the land as it stands in the class's objects -/
def cLand (T r : Nat) (c : tC) (nL : Nat) (D : Int) (C : xC) : Prop := (r = 2 ∨ r = 13) ∧ (∀ k, k < 10 → C r (4 + k) = ((r + 1 + k : Nat) : Int)) ∧ cLd r c C ∧ C (r + 1) 1 = (nL : Int) ∧ C r 0 = D ∧ ∀ j, j < T → c.2 87 j = some (eN c 87 j)
/-- the trial's beginning -/
theorem cv_begin (hd : 1 ≤ d) (hT6 : T ≤ 6) (h : cLand T r c nL D C) (hm : C 70 5 = 71 ∧ C 70 6 = 72) :
    ∃ F, xM d 55 [tR, .inr (.inr (.inl (r, 2)))] C = some (0, F) ∧ cTr T r c (fun l => F 72 l) nL D F ∧ (∀ i j, i ≠ 70 → i ≠ 71 → i ≠ 72 → F i j = C i j) ∧ ∀ j, j < 6 → F 71 j = C (r + 2) j := by
  obtain ⟨d, rfl⟩ := Nat.exists_eq_add_of_le' hd
  obtain ⟨h3, h4, hL, h6, h0, h87⟩ := h
  rw [xm_X7_begin]
  have z0 : xst C 70 0 (Int.ofNat r) r 0 = D := by rw [xst_nn (by omega), h0]
  rw [z0]
  generalize hE : (xst (xst (xst (xst (xst C 70 0 (Int.ofNat r)) 70 1 D) 70 2 0) 70 3 0) 70 4 0) = E
  have k0 : E 70 0 = (r : Int) := by rw [← hE, xst_nn (by omega), xst_nn (by omega), xst_nn (by omega), xst_nn (by omega), xst_at]; rfl
  have k1 : E 70 1 = D := by rw [← hE, xst_nn (by omega), xst_nn (by omega), xst_nn (by omega), xst_at]
  have k2 : E 70 2 = 0 := by rw [← hE, xst_nn (by omega), xst_nn (by omega), xst_at]
  have k3 : E 70 3 = 0 := by rw [← hE, xst_nn (by omega), xst_at]
  have k4 : E 70 4 = 0 := by rw [← hE, xst_at]
  have kk : ∀ i j, ¬ (i = 70 ∧ j < 5) → E i j = C i j := fun i j q => by
    rw [← hE, xst_nn (by omega), xst_nn (by omega), xst_nn (by omega), xst_nn (by omega), xst_nn (by omega)]
  obtain ⟨cs, hcs1, hcs2, hcs3⟩ := id hL
  have second : ∀ (m l : Nat) (G : xC), l + m = 9 → (∀ i j, i ≠ 71 → i ≠ 72 → G i j = E i j) → (∀ j, j < 6 → G 71 j = C (r + 2) j) → ∃ F, xw_X7_begin d (56, [some tR, some (.inr (.inr (.inl (r, 2)))), some (.inl (l : Int))], [], G) = some (0, F) ∧ (∀ i j, i ≠ 71 → i ≠ 72 → F i j = E i j) ∧ (∀ j, j < 6 → F 71 j = C (r + 2) j) := by
    intro m
    induction m with
    | zero =>
      intro l G hl g1 g2
      refine ⟨G, ?_, g1, g2⟩
      rw [xl_X7_begin_56]
      simp only [Bool.cond_decide]
      rw [if_pos (by omega)]
    | succ m ih =>
      intro l G hl g1 g2
      have e6 : (G 70 6).toNat = 72 := by rw [g1 _ _ (by omega) (by omega), kk _ _ (by omega), hm.2]; rfl
      have x9 : xix (l : Int) 9 = true := xixn (by omega)
      rw [xl_X7_begin_56, x9, e6, Int.toNat_natCast, w32_s (by omega)]
      simp only [Bool.cond_decide, cond_true, xna, Bool.and_true]
      rw [if_neg (by omega)]
      exact ih (l + 1) _ (by omega) (fun i j q1 q2 => by rw [xst_nn (by omega), g1 i j q1 q2]) (fun j hj => by rw [xst_nn (by omega), g2 j hj])
  have first : ∀ (m l : Nat) (G : xC), l + m = 6 → (∀ i j, i ≠ 71 → G i j = E i j) → (∀ j, j < l → G 71 j = C (r + 2) j) → ∃ F, xw_X7_begin d (30, [some tR, some (.inr (.inr (.inl (r, 2)))), some (.inl (l : Int))], [], G) = some (0, F) ∧ (∀ i j, i ≠ 71 → i ≠ 72 → F i j = E i j) ∧ (∀ j, j < 6 → F 71 j = C (r + 2) j) := by
    intro m
    induction m with
    | zero =>
      intro l G hl g1 g2
      rw [xl_X7_begin_30]
      simp only [Bool.cond_decide]
      rw [if_pos (by omega)]
      exact second 9 0 G (by omega) (fun i j q1 q2 => g1 i j q1) (fun j hj => g2 j (by omega))
    | succ m ih =>
      intro l G hl g1 g2
      have e5 : (G 70 5).toNat = 71 := by rw [g1 _ _ (by omega), kk _ _ (by omega), hm.1]; rfl
      have er : (G r 5).toNat = r + 2 := by rw [g1 _ _ (by omega), kk _ _ (by omega), h4 1 (by decide)]; rfl
      have x6 : xix (l : Int) 6 = true := xixn (by omega)
      rw [xl_X7_begin_30, x6, e5, er, Int.toNat_natCast, w32_s (by omega)]
      simp only [Bool.cond_decide, cond_true, xna, Bool.and_true]
      rw [if_neg (by omega)]
      refine ih (l + 1) _ (by omega) (fun i j q => by rw [xst_nn (by omega), g1 i j q]) (fun j hj => ?_)
      by_cases hjl : j = l
      · rw [hjl, xst_at, g1 _ _ (by omega), kk _ _ (by omega)]
      · rw [xst_nn (by omega), g2 j (by omega)]
  obtain ⟨F, f1, f2, f3⟩ := first 6 0 E (by omega) (fun _ _ _ => rfl) (fun j hj => absurd hj (by omega))
  have out : ∀ i j, i ≠ 70 → i ≠ 71 → i ≠ 72 → F i j = C i j := fun i j q1 q2 q3 => by rw [f2 i j q2 q3, kk i j (by omega)]
  have o70 : ∀ j, F 70 j = E 70 j := fun j => f2 70 j (by omega) (by omega)
  exact ⟨F, f1, ⟨⟨by rw [o70, k0], by rw [o70, k1], by rw [o70, k2], by rw [o70, k3], by rw [o70, k4]⟩, ⟨by rw [o70, kk _ _ (by omega), hm.1], by rw [o70, kk _ _ (by omega), hm.2]⟩, fun j hj => (f3 j (by omega)).trans ((hcs2.2.2 j _).1 (h87 j hj)), fun _ _ => rfl, h3, fun k hk => by rw [out _ _ (by omega) (by omega) (by omega), h4 k hk], cLd_same h3 hL fun i j q1 q2 => out i j (by omega) (by omega) (by omega), by rw [out _ _ (by omega) (by omega) (by omega), h6]⟩, out, f3⟩
theorem cv_startC (hd : 1 ≤ d) (h2 : 2 ≤ D) (h9 : D ≤ 9) (h5 : nL ≤ 5) (h : cTr T r c f nL D C) :
    ∃ F, xM d 70 [tR] C = some (if eCal D nL ≤ 20000 then eCal D nL else -2, F) ∧ cTr T r c (eLay D nL 0) nL D F ∧ ∀ i j, i ≠ 72 → F i j = C i j := by
  obtain ⟨d, rfl⟩ := Nat.exists_eq_add_of_le' hd
  rw [xm_X7_startCalendars]
  have key : ∀ (m l : Nat) (E : xC), l + m = nL → (∀ i j, i ≠ 72 → E i j = C i j) → (∀ j, j < l → E 72 j = 0) → ∃ F, xw_X7_startCalendars d (4, [some tR, some (.inl (eCal D l)), some (.inl (l : Int))], [], E) = some (if eCal D nL ≤ 20000 then eCal D nL else -2, F) ∧ (∀ i j, i ≠ 72 → F i j = C i j) ∧ (∀ j, j < nL → F 72 j = 0) := by
    intro m
    induction m with
    | zero =>
      intro l E hl g1 g2
      have hl : l = nL := hl
      subst hl
      have hr := h.2.2.2.2.1
      have e0 : (E 70 0).toNat = r := by rw [g1 _ _ (by omega), h.1.1]; rfl
      have e4 : (E r 4).toNat = r + 1 := by rw [g1 _ _ (by omega), h.2.2.2.2.2.1 0 (by decide)]; rfl
      have eL : E (r + 1) 1 = (l : Int) := by rw [g1 _ _ (by omega), h.2.2.2.2.2.2.2]
      refine ⟨E, ?_, g1, g2⟩
      rw [xl_X7_startCalendars_4, e0, e4, eL]
      simp only [Bool.cond_decide]
      rw [if_pos (Int.le_refl _)]
      split <;> rfl
    | succ m ih =>
      intro l E hl g1 g2
      have hr := h.2.2.2.2.1
      have e0 : (E 70 0).toNat = r := by rw [g1 _ _ (by omega), h.1.1]; rfl
      have e4 : (E r 4).toNat = r + 1 := by rw [g1 _ _ (by omega), h.2.2.2.2.2.1 0 (by decide)]; rfl
      have eL : E (r + 1) 1 = (nL : Int) := by rw [g1 _ _ (by omega), h.2.2.2.2.2.2.2]
      have eD : E 70 1 = D := by rw [g1 _ _ (by omega), h.1.2.1]
      have e6 : (E 70 6).toNat = 72 := by rw [g1 _ _ (by omega), h.2.1.2]; rfl
      have x9 : xix (l : Int) 9 = true := xixn (by omega)
      obtain ⟨c1, c2⟩ := eCal_le (k := l + 1) h2 h9 (by omega)
      have c1 : 1 ≤ eCal D l * D := c1
      have c2 : eCal D l * D ≤ 59049 := c2
      rw [xl_X7_startCalendars_4, e0, e4, eL, eD, x9, e6, Int.toNat_natCast, w32_s (by omega), w32_id (z := eCal D l * D) (by omega) (by omega)]
      simp only [Bool.cond_decide, cond_true, xna, Bool.and_true]
      rw [if_neg (by omega)]
      exact ih (l + 1) _ (by omega) (fun i j q => by rw [xst_nn (by omega), g1 i j q]) (fun j hj => by
        by_cases hjl : j = l
        · rw [hjl, xst_at]
        · rw [xst_nn (by omega), g2 j (by omega)])
  obtain ⟨F, f1, f2, f3⟩ := key nL 0 C (by omega) (fun _ _ _ => rfl) (fun j hj => absurd hj (by omega))
  have hr := h.2.2.2.2.1
  exact ⟨F, f1, cTr_same h (fun i j q => f2 i j (by omega)) (fun l hl => by rw [f3 l hl, eLay_0]), f2⟩
/-- the class's calendars, one by one, asked of an hour -/
theorem cv_siftB (hd : 7 ≤ d) (hc : eLok T c nL) (hT6 : T ≤ 6) (h2 : 2 ≤ D) (h9 : D ≤ 9) (hK : kOk T K) (hL : cLand T r c nL D C) (hF : cFx C ∧ C 65 4 = 67 ∧ C 65 5 = 68) (hm : C 70 5 = 71 ∧ C 70 6 = 72) (hk : cLk K C) (hB : ∀ j, j < 6 → 0 ≤ C (r + 2) j ∧ C (r + 2) j ≤ 999) {h : Nat} (hh60 : h ≤ 60) (hbd : ∀ n j, j < T → 0 ≤ eSee c D nL h j n ∧ eSee c D nL h j n ≤ 999) : ∃ F, xM d 11 [fR, .inr (.inr (.inl (r, 2))), .inl k, .inl (h : Int)] C = some (eFit c D nL K k, F) ∧ (eCal D nL ≤ 20000 → eNum (fun n => eFits c (eLay D nL (n : Int)) D nL K k) (eCal D nL).toNat ≠ 0 → leftP T c D nL K k h (eCal D nL).toNat F) ∧ (cFx F ∧ F 65 4 = 67 ∧ F 65 5 = 68) ∧ (∀ j, F 0 j = C 0 j) ∧ ∀ i j, r ≤ i → i ≤ r + 10 → F i j = C i j := by
  obtain ⟨d, rfl⟩ := Nat.exists_eq_add_of_le' (show 1 ≤ d by omega)
  have h5 := hc.1
  have hr := hL.1
  obtain ⟨hF, hf4, hf5⟩ := hF
  obtain ⟨G1, p1, p2, -⟩ := ct_fill_rest (d := d) (C := C) (v := 0) (by omega)
  obtain ⟨F1, pL1, pL2, pL3⟩ := ct_fill_left (d := d) (C := G1) (v := 0) (by omega)
  have k1 : ∀ i j, i ≠ 68 → i ≠ 69 → F1 i j = C i j := fun i j w1 w2 => by rw [pL2 i j w1, p2 i j w2]
  have hF1 : cFx F1 := cFx_same hF fun i j q => k1 i j (by omega) (by omega)
  have hL1 : cLand T r c nL D F1 := by
    obtain ⟨a1, a2, a3, a4, a5, a6⟩ := hL
    exact ⟨a1, fun k hk => by rw [k1 _ _ (by omega) (by omega), a2 k hk], cLd_same a1 a3 fun i j q1 q2 => k1 i j (by omega) (by omega), by rw [k1 _ _ (by omega) (by omega), a4], by rw [k1 _ _ (by omega) (by omega), a5], a6⟩
  obtain ⟨F2, q1, q2, q3, q4⟩ := cv_begin (d := d) (by omega) hT6 hL1 ⟨by rw [k1 _ _ (by omega) (by omega), hm.1], by rw [k1 _ _ (by omega) (by omega), hm.2]⟩
  obtain ⟨F3, s1, s2, s3⟩ := cv_startC (d := d) (by omega) h2 h9 h5 q2
  have hF3 : cFx F3 := cFx_same hF1 fun i j q => by rw [s3 _ _ (by omega), q3 _ _ (by omega) (by omega) (by omega)]
  have k3 : ∀ i j, i ≠ 68 → i ≠ 69 → i ≠ 70 → i ≠ 71 → i ≠ 72 → F3 i j = C i j := fun i j w1 w2 w3 w4 w5 => by rw [s3 _ _ w5, q3 _ _ w3 w4 w5, k1 _ _ w1 w2]
  have hk3 : cLk K F3 := cLk_same hk fun i j a b => k3 i j (by omega) (by omega) (by omega) (by omega) (by omega)
  obtain ⟨b, F4, u1, u2, u3⟩ := cv_lastK (d := d) (k := k) (by omega) hK hk3
  have hF4 : cFx F4 := cFx_same hF3 fun i j q => u2 i j (by omega)
  have k4 : ∀ i j, i ≠ 66 → i ≠ 68 → i ≠ 69 → i ≠ 70 → i ≠ 71 → i ≠ 72 → F4 i j = C i j := fun i j w0 w1 w2 w3 w4 w5 => by rw [u2 _ _ w0, k3 _ _ w1 w2 w3 w4 w5]
  have k65 : (F3 65 4 = 67 ∧ F3 65 5 = 68) ∧ F4 65 4 = 67 ∧ F4 65 5 = 68 := ⟨⟨by rw [k3 _ _ (by decide) (by decide) (by decide) (by decide) (by decide), hf4], by rw [k3 _ _ (by decide) (by decide) (by decide) (by decide) (by decide), hf5]⟩, by rw [k4 _ _ (by decide) (by decide) (by decide) (by decide) (by decide) (by decide), hf4], by rw [k4 _ _ (by decide) (by decide) (by decide) (by decide) (by decide) (by decide), hf5]⟩
  have hB4 : ∀ j, j < 6 → 0 ≤ F4 71 j ∧ F4 71 j ≤ 999 := fun j hj => by
    rw [u2 _ _ (by decide), s3 _ _ (by decide), q4 j hj, k1 _ _ (by omega) (by omega)]
    exact hB j hj
  have hP4 : leftP T c D nL K k h 0 F4 := by
    have z : ∀ i v, i < 6 → v < 1000 → F4 68 (1000 * i + v) = 0 := fun i v hi hv => by rw [u2 _ _ (by decide), s3 _ _ (by decide), q3 _ _ (by decide) (by decide) (by decide), pL3 _ (by omega)]
    exact ⟨fun i v hi hv => z i v (by omega) hv, fun i v hi hv => by rw [z i v hi hv]; exact ⟨Int.le_refl _, Int.le_refl _⟩⟩
  obtain ⟨n1, n2⟩ := eCal_le (k := nL) h2 h9 h5
  have e6 : (C 65 6).toNat = 69 := by rw [hF.1.2.2.2.2]; rfl
  have e5 : (G1 65 5).toNat = 68 := by rw [p2 _ _ (by decide), hf5]; rfl
  have f2 : (F1 65 2).toNat = 70 := by rw [hF1.1.2.2.1]; rfl
  have f22 : (F2 65 2).toNat = 70 := by rw [q3 _ _ (by decide) (by decide) (by decide), hF1.1.2.2.1]; rfl
  have f30 : (F3 65 0).toNat = 59 := by rw [hF3.1.1]; rfl
  have f33 : (F3 65 3).toNat = 66 := by rw [hF3.1.2.2.2.1]; rfl
  have hne : ¬ ((h : Int) = -1) := by clear e6 e5 f2 f22 f30 f33; omega
  rw [xm_X2_sift, e6, p1]
  simp only [Bool.cond_decide, Option.bind_some]
  rw [if_neg hne, e5, pL1]
  simp only [Option.bind_some]
  rw [f2, q1]
  simp only [Option.bind_some]
  rw [f22, s1]
  simp only [Option.bind_some]
  unfold eFit
  clear e6 e5 f2 f22
  by_cases hbig : eCal D nL ≤ 20000
  · have nb : ¬ (20000 < eCal D nL) := by omega
    have n2' : eCal D nL ≠ -2 := by omega
    rw [if_pos hbig, if_pos n2', if_neg nb, f30, f33, u1]
    clear f30 f33
    simp only [Option.bind_some]
    obtain ⟨N, hN⟩ : ∃ N : Nat, eCal D nL = (N : Int) := ⟨(eCal D nL).toNat, by omega⟩
    rw [hN, Int.toNat_natCast]
    have hT4 : cTr T r c (eLay D nL ((0 : Nat) : Int)) nL D F4 := cTr_same s2 (fun i j q => u2 i j (by omega)) fun l hl => by rw [u2 _ _ (by omega), s2.2.2.2.1 l hl]; rfl
    rcases u3 with ⟨rfl, hbad⟩ | ⟨⟨b0, b60⟩, htb, hlast⟩
    · have hz := eNum_no (p := fun n => eFits c (eLay D nL (n : Int)) D nL K k) (fun n => kBad_no hK hbad) N
      refine ⟨F4, ?_, fun _ q => absurd hz q, ⟨hF4, k65.2⟩, fun j => k4 _ _ (by decide) (by decide) (by decide) (by decide) (by decide) (by decide), fun i j w1 w2 => k4 _ _ (by omega) (by omega) (by omega) (by omega) (by omega) (by omega)⟩
      have hN0 : ¬ ((N : Int) ≤ 0) := by omega
      rw [xl_X2_sift_68]
      simp only [Bool.cond_decide]
      rw [if_neg hN0, if_pos trivial, hz]
      rfl
    · obtain ⟨last, rfl⟩ : ∃ l : Nat, b = (l : Int) := ⟨b.toNat, by omega⟩
      obtain ⟨F5, g1, g2, g3, g4, g5⟩ := cv_siftH (d := d) (r2 := r) (r := r) (by omega) hc hT6 h2 h9 hK (kn := F4 66) htb (last := last) (by omega) hlast (N := N) (by omega) hh60 hbd N 0 F4 (by omega) rfl ⟨hF4, k65.2⟩ hT4 hB4 hP4
      refine ⟨F5, ?_, fun _ _ => g2, g3, fun j => by rw [g4, k4 _ _ (by decide) (by decide) (by decide) (by decide) (by decide) (by decide)], fun i j w1 w2 => by rw [g5 i j w1 w2, k4 _ _ (by omega) (by omega) (by omega) (by omega) (by omega) (by omega)]⟩
      have g1 : xw_X2_sift d (68, [some fR, some (.inr (.inr (.inl (r, 2)))), some (.inl k), some (.inl (h : Int)), some (.inl (N : Int)), some (.inl (last : Int)), some (.inl 0), some (.inl 0)], [], F4) = some (((eNum (fun n => eFits c (eLay D nL (n : Int)) D nL K k) N : Nat) : Int), F5) := g1
      rw [g1]
  · have nb : 20000 < eCal D nL := by omega
    rw [if_neg hbig, if_neg (show ¬ ((-2 : Int) ≠ -2) from fun q => q rfl), if_pos nb]
    exact ⟨_, rfl, fun h => absurd h hbig, ⟨hF3, k65.1⟩, fun j => k3 _ _ (by decide) (by decide) (by decide) (by decide) (by decide), fun i j w1 w2 => k3 _ _ (by omega) (by omega) (by omega) (by omega) (by omega)⟩
end cSift
section rFit
variable {T d : Nat} {C F : xC} {t : eT} {c : tC} {f : Nat → Int} {nL : Nat} {D : Int} {K : eK} {k : Int}
/-- the looks stand in the reference's rows -/
def rLk (K : eK) (C : xC) : Prop := (C 74 98 = (K.1 : Int) ∧ C 74 93 = 116 ∧ C 74 94 = 117 ∧ C 74 95 = 118 ∧ C 74 96 = 119 ∧ C 74 97 = 120) ∧ ∀ l, l < K.1 → C 116 l = K.2.1 l ∧ C 117 l = K.2.2.1 l ∧ C 118 l = K.2.2.2.1 l ∧ C 119 l = K.2.2.2.2.1 l ∧ C 120 l = K.2.2.2.2.2 l
theorem rLk_same (h : rLk K C) (hs : ∀ i j, (i = 74 ∧ 93 ≤ j ∧ j ≤ 98) ∨ (116 ≤ i ∧ i ≤ 120) → F i j = C i j) : rLk K F := by
  obtain ⟨⟨a1, a2, a3, a4, a5, a6⟩, h2⟩ := h
  exact ⟨⟨by rw [hs _ _ (by omega), a1], by rw [hs _ _ (by omega), a2], by rw [hs _ _ (by omega), a3], by rw [hs _ _ (by omega), a4], by rw [hs _ _ (by omega), a5], by rw [hs _ _ (by omega), a6]⟩, fun l hl => by rw [hs _ _ (by omega), hs 117 _ (by omega), hs 118 _ (by omega), hs 119 _ (by omega), hs 120 _ (by omega)]; exact h2 l hl⟩
theorem rv_counts (hd : 1 ≤ d) (hK : kOk T K) (h : rLk K C) {l : Nat} (hl : l < K.1) : xM d 261 [mR, .inl (l : Int), .inl k] C = some (if kCt K k l = true then 1 else 0, C) := by
  obtain ⟨d, rfl⟩ := Nat.exists_eq_add_of_le' hd
  obtain ⟨⟨a1, a2, a3, a4, a5, a6⟩, h2⟩ := h
  obtain ⟨g1, g2, g3, g4, g5⟩ := h2 l hl
  obtain ⟨k1, k2, k3⟩ := hK
  have e5 : (C 74 96).toNat = 119 := by rw [a5]; rfl
  have e6 : (C 74 97).toNat = 120 := by rw [a6]; rfl
  have x20 : xix (l : Int) 20 = true := xixn (by omega)
  rw [xm_X12_counts, x20, e5, e6, Int.toNat_natCast, g4, g5]
  simp only [Bool.cond_decide, cond_true]
  unfold kCt
  by_cases c1 : k < K.2.2.2.2.1 l
  · rw [if_pos c1, if_neg (by simp; omega)]
  · rw [if_neg c1]
    by_cases c2 : K.2.2.2.2.2 l < 0
    · rw [if_pos c2, if_pos (by simp; omega)]
    · rw [if_neg c2]
      by_cases c3 : K.2.2.2.2.2 l ≤ k
      · rw [if_pos c3, if_neg (by simp; omega)]
      · rw [if_neg c3, if_pos (by simp; omega)]
theorem rv_last (hd : 1 ≤ d) (hK : kOk T K) (h : rLk K C) : ∀ (m l : Nat) (last : Nat), l + m = K.1 → last ≤ 60 → (∀ x, x < l → kCt K k x = true → K.2.1 x ≤ (last : Int)) →
    ∃ b : Nat, xw_X12_lastHour d (4, [some mR, some (.inl k), some (.inl (last : Int)), some (.inl (l : Int))], [], C) = some ((b : Int), C) ∧ b ≤ 60 ∧ ∀ x, x < K.1 → kCt K k x = true → K.2.1 x ≤ (b : Int) := by
  intro m
  induction m with
  | zero =>
    intro l last hl h60 hx
    have hl : l = K.1 := hl
    subst hl
    refine ⟨last, ?_, h60, hx⟩
    rw [xl_X12_lastHour_4, h.1.1]
    simp only [Bool.cond_decide]
    rw [if_pos (Int.le_refl _)]
  | succ m ih =>
    intro l last hl h60 hx
    obtain ⟨k1, k2, k3⟩ := id hK
    obtain ⟨⟨p1, p2⟩, -, -, -⟩ := k3 l (by omega)
    obtain ⟨⟨a1, a2, a3, a4, a5, a6⟩, h2⟩ := id h
    obtain ⟨g1, -⟩ := h2 l (by omega)
    have e2 : (C 74 93).toNat = 116 := by rw [a2]; rfl
    have x20 : xix (l : Int) 20 = true := xixn (by omega)
    rw [xl_X12_lastHour_4, a1, rv_counts hd hK h (show l < K.1 by omega), x20, w32_s (i := l) (by omega)]
    simp only [Bool.cond_decide, cond_true, Option.bind_some]
    rw [if_neg (show ¬ ((K.1 : Int) ≤ (l : Int)) by omega)]
    by_cases hc : kCt K k l = true
    · rw [if_pos hc, if_neg (show ¬ ((1 : Int) = 0) by decide), e2, Int.toNat_natCast, g1]
      by_cases hq : K.2.1 l ≤ (last : Int)
      · rw [if_pos hq]
        refine ih (l + 1) last (by omega) h60 fun y hy hcy => ?_
        by_cases hyl : y = l
        · rw [hyl]; exact hq
        · exact hx y (by omega) hcy
      · rw [if_neg hq]
        obtain ⟨H, hH⟩ : ∃ H : Nat, K.2.1 l = (H : Int) := ⟨(K.2.1 l).toNat, by omega⟩
        rw [hH]
        refine ih (l + 1) H (by omega) (by omega) fun y hy hcy => ?_
        by_cases hyl : y = l
        · rw [hyl]; omega
        · have := hx y (by omega) hcy
          omega
    · rw [if_neg hc, if_pos (show (0 : Int) = 0 from rfl)]
      refine ih (l + 1) last (by omega) h60 fun y hy hcy => ?_
      by_cases hyl : y = l
      · rw [hyl] at hcy; exact absurd hcy hc
      · exact hx y (by omega) hcy
theorem rv_lastHour (hd : 2 ≤ d) (hK : kOk T K) (h : rLk K C) : ∃ b : Nat, xM d 262 [mR, .inl k] C = some ((b : Int), C) ∧ b ≤ 60 ∧ ∀ x, x < K.1 → kCt K k x = true → K.2.1 x ≤ (b : Int) := by
  obtain ⟨d, rfl⟩ := Nat.exists_eq_add_of_le' (show 1 ≤ d by omega)
  rw [xm_X12_lastHour]
  exact rv_last (d := d) (by omega) hK h K.1 0 0 (by omega) (by omega) fun x hx => absurd hx (by omega)
/-- the looks of an hour hold -/
def kHour (c : tC) (f : Nat → Int) (D : Int) (nL : Nat) (K : eK) (k : Int) (h m : Nat) : Prop := ∀ l, m ≤ l → l < K.1 → kCt K k l = true → K.2.1 l = (h : Int) → kHo c f D nL K l = true
theorem rSM_keep {i j : Nat} (h : xSm rSM C F) (q : i ≠ 86 ∧ i ≠ 101 ∧ ¬ (i = 74 ∧ (j = 64 ∨ j = 65 ∨ j = 68))) : F i j = C i j := h i j (by simp only [rSM, decide_eq_false_iff_not]; omega)
theorem rLk_SM (h : rLk K C) (hs : xSm rSM C F) : rLk K F := rLk_same h fun i j q => rSM_keep hs (by omega)
/-- hour by hour, look by look -/
theorem rv_fitsL (hd : 6 ≤ d) (hc : eLok T c nL) (h2 : 2 ≤ D) (h9 : D ≤ 9) (hK : kOk T K) {a : Int} {last : Nat} (hl60 : last ≤ 60) : ∀ (m h : Nat) (C : xC) (o5 : Option xV), h + m = last + 1 → rLk K C → rG T c f nL D (eRun c f D nL (h - 1) (e0 c)) C →
    ∃ (b : Int) (F : xC), xw_X12_fits d (18, [some mR, some (.inl a), some (.inl k), some (.inl (last : Int)), some (.inl (h : Int)), o5], [], C) = some (b, F) ∧ xSm rSM C F ∧ ((b = 1 ∧ ∀ h', h ≤ h' → h' ≤ last → kHour c f D nL K k h' 0) ∨ (b = 0 ∧ ∃ l, l < K.1 ∧ kCt K k l = true ∧ kHo c f D nL K l = false)) := by
  intro m
  induction m with
  | zero =>
    intro h C o5 hh hR hE
    refine ⟨1, C, ?_, xSm_refl, Or.inl ⟨rfl, fun h' q1 q2 => absurd q1 (by omega)⟩⟩
    rw [xl_X12_fits_18]
    simp only [Bool.cond_decide]
    rw [if_pos (by omega)]
  | succ m ih =>
    intro h C o5 hh hR hE
    have looks : ∀ (n l : Nat) (G : xC), l + n = K.1 → rLk K G → rG T c f nL D (eRun c f D nL h (e0 c)) G → xSm rSM C G →
        ∃ (b : Int) (F : xC), xw_X12_fits d (37, [some mR, some (.inl a), some (.inl k), some (.inl (last : Int)), some (.inl (h : Int)), some (.inl (l : Int))], [], G) = some (b, F) ∧ xSm rSM C F ∧ ((b = 1 ∧ kHour c f D nL K k h l ∧ ∀ h', h + 1 ≤ h' → h' ≤ last → kHour c f D nL K k h' 0) ∨ (b = 0 ∧ ∃ l, l < K.1 ∧ kCt K k l = true ∧ kHo c f D nL K l = false)) := by
      intro n
      induction n with
      | zero =>
        intro l G hl hRG hG hs
        have hl : l = K.1 := hl
        subst hl
        rw [xl_X12_fits_37, hRG.1.1, w32_s (i := h) (by omega)]
        simp only [Bool.cond_decide]
        rw [if_pos (Int.le_refl _)]
        obtain ⟨b, F, g1, g2, g3⟩ := ih (h + 1) G (some (.inl (K.1 : Int))) (by omega) hRG (by rw [Nat.add_sub_cancel]; exact hG)
        refine ⟨b, F, g1, xSm_trans hs g2, ?_⟩
        rcases g3 with ⟨g3, g4⟩ | g3
        · exact Or.inl ⟨g3, fun l q1 q2 => absurd q2 (by omega), g4⟩
        · exact Or.inr g3
      | succ n ihl =>
        intro l G hl hRG hG hs
        obtain ⟨k1, k2, k3⟩ := id hK
        obtain ⟨⟨p1, p2⟩, ⟨p3, p4⟩, p5, -⟩ := k3 l (by omega)
        obtain ⟨⟨a1, a2, a3, a4, a5, a6⟩, h2'⟩ := id hRG
        obtain ⟨g1, g2, g3, g4, g5⟩ := h2' l (by omega)
        have e2 : (G 74 93).toNat = 116 := by rw [a2]; rfl
        have e3 : (G 74 94).toNat = 117 := by rw [a3]; rfl
        have e4 : (G 74 95).toNat = 118 := by rw [a4]; rfl
        have e62 : (G 74 62).toNat = 101 := by rw [hG.1.2.1.1]; rfl
        have x20 : xix (l : Int) 20 = true := xixn (by omega)
        have next : (kCt K k l = true → K.2.1 l = (h : Int) → kHo c f D nL K l = true) → ∃ (b : Int) (F : xC), xw_X12_fits d (37, [some mR, some (.inl a), some (.inl k), some (.inl (last : Int)), some (.inl (h : Int)), some (.inl ((l + 1 : Nat) : Int))], [], G) = some (b, F) ∧ xSm rSM C F ∧ ((b = 1 ∧ kHour c f D nL K k h l ∧ ∀ h', h + 1 ≤ h' → h' ≤ last → kHour c f D nL K k h' 0) ∨ (b = 0 ∧ ∃ l, l < K.1 ∧ kCt K k l = true ∧ kHo c f D nL K l = false)) := by
          intro hthis
          obtain ⟨b, F, f1, f2, f3⟩ := ihl (l + 1) G (by omega) hRG hG hs
          refine ⟨b, F, f1, f2, ?_⟩
          rcases f3 with ⟨f3, f4, f5⟩ | f3
          · refine Or.inl ⟨f3, fun y y1 y2 y3 y4 => ?_, f5⟩
            by_cases hyl : y = l
            · rw [hyl] at y3 y4 ⊢
              exact hthis y3 y4
            · exact f4 y (by omega) y2 y3 y4
          · exact Or.inr f3
        rw [xl_X12_fits_37, a1, rv_counts (by omega) hK hRG (show l < K.1 by omega), x20, w32_s (i := l) (by omega)]
        simp only [Bool.cond_decide, cond_true, Option.bind_some]
        rw [if_neg (show ¬ ((K.1 : Int) ≤ (l : Int)) by omega)]
        by_cases hcl : kCt K k l = true
        · rw [if_pos hcl, if_neg (show ¬ ((1 : Int) = 0) by decide), e2, Int.toNat_natCast, g1]
          by_cases hh2 : K.2.1 l = (h : Int)
          · obtain ⟨i, hi⟩ : ∃ i : Nat, K.2.2.1 l = (i : Int) := ⟨(K.2.2.1 l).toNat, by omega⟩
            have x6 : xix (i : Int) 6 = true := xixn (by omega)
            have ht : G 101 i = (eRun c f D nL h (e0 c)).1 i := hG.1.2.2.2.2.1 i (by omega)
            rw [if_neg (show ¬ (K.2.1 l ≠ (h : Int)) from fun q => q hh2), e3, e4, e62, g2, g3, hi, x6, Int.toNat_natCast, ht]
            simp only [cond_true]
            have hho : kHo c f D nL K l = decide ((eRun c f D nL h (e0 c)).1 i = K.2.2.2.1 l) := by
              unfold kHo
              rw [hh2, hi, Int.toNat_natCast, Int.toNat_natCast]
            by_cases hq : (eRun c f D nL h (e0 c)).1 i = K.2.2.2.1 l
            · rw [if_pos hq]
              exact next fun _ _ => by rw [hho]; exact decide_eq_true hq
            · rw [if_neg hq]
              exact ⟨0, G, rfl, hs, Or.inr ⟨rfl, l, by omega, hcl, by rw [hho]; exact decide_eq_false hq⟩⟩
          · rw [if_pos (show K.2.1 l ≠ (h : Int) from hh2)]
            exact next fun _ q => absurd q hh2
        · rw [if_neg hcl, if_pos (show (0 : Int) = 0 from rfl)]
          exact next fun q => absurd q hcl
    have fin : ∀ G, rLk K G → rG T c f nL D (eRun c f D nL h (e0 c)) G → xSm rSM C G → ∃ (b : Int) (F : xC), xw_X12_fits d (37, [some mR, some (.inl a), some (.inl k), some (.inl (last : Int)), some (.inl (h : Int)), some (.inl 0)], [], G) = some (b, F) ∧ xSm rSM C F ∧ ((b = 1 ∧ ∀ h', h ≤ h' → h' ≤ last → kHour c f D nL K k h' 0) ∨ (b = 0 ∧ ∃ l, l < K.1 ∧ kCt K k l = true ∧ kHo c f D nL K l = false)) := by
      intro G hRG hG hs
      obtain ⟨b, F, f1, f2, f3⟩ := looks K.1 0 G (by omega) hRG hG hs
      refine ⟨b, F, f1, f2, ?_⟩
      rcases f3 with ⟨f3, f4, f5⟩ | f3
      · refine Or.inl ⟨f3, fun h' q1 q2 => ?_⟩
        by_cases hq : h' = h
        · rw [hq]; exact f4
        · exact f5 h' (by omega) q2
      · exact Or.inr f3
    rw [xl_X12_fits_18]
    simp only [Bool.cond_decide]
    rw [if_neg (show ¬ ((last : Int) < (h : Int)) by omega)]
    by_cases h0 : h = 0
    · rw [if_pos (show (h : Int) ≤ 0 by omega)]
      subst h0
      exact fin C hR hE xSm_refl
    · rw [if_neg (show ¬ ((h : Int) ≤ 0) by omega)]
      obtain ⟨F1, p1, p2, p3⟩ := rv_hour (d := d) hd hc h2 h9 (eRun_ok (f := f) hc h2 (h - 1)) hE
      rw [p1]
      simp only [Option.bind_some]
      refine fin F1 (rLk_SM hR p3) ?_ p3
      obtain ⟨h', rfl⟩ := Nat.exists_eq_add_of_le' (show 1 ≤ h by omega)
      exact p2
/-- the land as it stands in the reference's rows -/
def rLand (T : Nat) (c : tC) (nL : Nat) (D : Int) (C : xC) : Prop := ((C 74 15 = 81 ∧ C 74 16 = 82 ∧ C 74 17 = 83 ∧ C 74 18 = 84 ∧ C 74 20 = 86) ∧ C 74 62 = 101 ∧ C 74 63 = 102 ∧ C 74 36 = 95 ∧ C 74 40 = 99 ∧ C 74 41 = 100 ∧ C 74 35 = 94 ∧ C 74 37 = 96) ∧ rLd c C ∧ C 74 50 = (nL : Int) ∧ C 74 54 = D ∧ ∀ j, j < T → c.2 87 j = some (eN c 87 j)
theorem rLand_same (h : rLand T c nL D C) (hs : ∀ i j, (i = 74 ∧ j ≤ 63) ∨ i = 81 ∨ i = 82 ∨ i = 83 ∨ i = 84 ∨ i = 94 ∨ i = 95 ∨ i = 99 ∨ i = 100 → F i j = C i j) : rLand T c nL D F := by
  obtain ⟨⟨⟨a1, a2, a3, a4, a5⟩, b1, b2, b3, b4, b5, b6, b7⟩, h1, h2, h3, h4⟩ := h
  refine ⟨⟨⟨?_, ?_, ?_, ?_, ?_⟩, ?_, ?_, ?_, ?_, ?_, ?_, ?_⟩, rLd_same h1 fun i j q => hs i j (by omega), ?_, ?_, h4⟩
  · rw [hs _ _ (by omega), a1]
  · rw [hs _ _ (by omega), a2]
  · rw [hs _ _ (by omega), a3]
  · rw [hs _ _ (by omega), a4]
  · rw [hs _ _ (by omega), a5]
  · rw [hs _ _ (by omega), b1]
  · rw [hs _ _ (by omega), b2]
  · rw [hs _ _ (by omega), b3]
  · rw [hs _ _ (by omega), b4]
  · rw [hs _ _ (by omega), b5]
  · rw [hs _ _ (by omega), b6]
  · rw [hs _ _ (by omega), b7]
  · rw [hs _ _ (by omega), h2]
  · rw [hs _ _ (by omega), h3]
/-- the cells that a calendar of the reference's changes -/
def rSK (i j : Nat) : Bool := decide (i = 86 ∨ i = 101 ∨ i = 102 ∨ (i = 74 ∧ 64 ≤ j ∧ j ≤ 68))
theorem rv_loadTold (hd : 1 ≤ d) (hT6 : T ≤ 6) (h : rLand T c nL D C) : ∃ F, xM d 202 [mR] C = some (0, F) ∧ xSm rSK C F ∧ F 74 64 = 0 ∧ F 74 65 = 0 ∧ F 74 68 = 0 ∧ F 74 66 = D ∧ F 74 67 = -1 ∧ ∀ j, j < T → F 101 j = eN c 87 j := by
  obtain ⟨d, rfl⟩ := Nat.exists_eq_add_of_le' hd
  obtain ⟨⟨-, b1, b2, b3, b4, b5, b6, b7⟩, hL, h2, h3, h87⟩ := h
  obtain ⟨es, z1, z2, z3, z4, z5⟩ := hL
  rw [xm_X12_loadTold]
  have second : ∀ (m l : Nat) (G : xC), l + m = 5 → xSm rSK C G → (∀ j, j < T → G 101 j = eN c 87 j) → ∃ F, xw_X12_loadTold d (28, [some mR, some (.inl (l : Int))], [], G) = some (0, F) ∧ xSm rSK C F ∧ F 74 64 = 0 ∧ F 74 65 = 0 ∧ F 74 68 = 0 ∧ F 74 66 = D ∧ F 74 67 = -1 ∧ ∀ j, j < T → F 101 j = eN c 87 j := by
    intro m
    induction m with
    | zero =>
      intro l G hl g1 g2
      have e54 : xst (xst (xst G 74 64 0) 74 65 0) 74 68 0 74 54 = D := by rw [xst_nn (by omega), xst_nn (by omega), xst_nn (by omega), g1 _ _ rfl, h3]
      have e54' : G 74 54 = D := by rw [g1 _ _ rfl, h3]
      rw [xl_X12_loadTold_28, e54']
      simp only [Bool.cond_decide]
      rw [if_pos (by omega)]
      refine ⟨_, rfl, xSm_st (xSm_st (xSm_st (xSm_st (xSm_st g1 rfl) rfl) rfl) rfl) rfl, ?_, ?_, ?_, ?_, xst_at, fun j hj => ?_⟩
      · rw [xst_nn (by omega), xst_nn (by omega), xst_nn (by omega), xst_nn (by omega), xst_at]
      · rw [xst_nn (by omega), xst_nn (by omega), xst_nn (by omega), xst_at]
      · rw [xst_nn (by omega), xst_nn (by omega), xst_at]
      · rw [xst_nn (by omega), xst_at]
      · rw [xst_nn (by omega), xst_nn (by omega), xst_nn (by omega), xst_nn (by omega), xst_nn (by omega), g2 j hj]
    | succ m ih =>
      intro l G hl g1 g2
      have e63 : (G 74 63).toNat = 102 := by rw [g1 _ _ rfl, b2]; rfl
      have x5 : xix (l : Int) 5 = true := xixn (by omega)
      rw [xl_X12_loadTold_28, x5, e63, Int.toNat_natCast, w32_s (by omega)]
      simp only [Bool.cond_decide, cond_true, xna, Bool.and_true]
      rw [if_neg (by omega)]
      exact ih (l + 1) _ (by omega) (xSm_st g1 rfl) (fun j hj => by rw [xst_nn (by omega), g2 j hj])
  have first : ∀ (m l : Nat) (G : xC), l + m = 6 → xSm rSK C G → (∀ j, j < l → j < T → G 101 j = eN c 87 j) → ∃ F, xw_X12_loadTold d (2, [some mR, some (.inl (l : Int))], [], G) = some (0, F) ∧ xSm rSK C F ∧ F 74 64 = 0 ∧ F 74 65 = 0 ∧ F 74 68 = 0 ∧ F 74 66 = D ∧ F 74 67 = -1 ∧ ∀ j, j < T → F 101 j = eN c 87 j := by
    intro m
    induction m with
    | zero =>
      intro l G hl g1 g2
      rw [xl_X12_loadTold_2]
      simp only [Bool.cond_decide]
      rw [if_pos (by omega)]
      exact second 5 0 G (by omega) g1 (fun j hj => g2 j (by omega) hj)
    | succ m ih =>
      intro l G hl g1 g2
      have e62 : (G 74 62).toNat = 101 := by rw [g1 _ _ rfl, b1]; rfl
      have e35 : (G 74 35).toNat = 94 := by rw [g1 _ _ rfl, b6]; rfl
      have x6 : xix (l : Int) 6 = true := xixn (by omega)
      rw [xl_X12_loadTold_2, x6, e62, e35, Int.toNat_natCast, w32_s (by omega)]
      simp only [Bool.cond_decide, cond_true, xna, Bool.and_true]
      rw [if_neg (by omega)]
      refine ih (l + 1) _ (by omega) (xSm_st g1 rfl) (fun j hj hjT => ?_)
      by_cases hjl : j = l
      · rw [hjl] at hjT
        rw [hjl, xst_at, g1 _ _ rfl]
        exact (z5 l _).1 (by omega) (h87 l hjT)
      · rw [xst_nn (by omega), g2 j (by omega) hjT]
  exact first 6 0 C (by omega) xSm_refl (fun j hj => absurd hj (by omega))
/-- does a calendar fit -/
theorem rv_fits (hd : 8 ≤ d) (hc : eLok T c nL) (hT6 : T ≤ 6) (h2 : 2 ≤ D) (h9 : D ≤ 9) (hK : kOk T K) (hL : rLand T c nL D C) (hk : rLk K C) {n : Nat} (hn : n ≤ 100000) :
    ∃ F, xM d 263 [mR, .inl (n : Int), .inl k] C = some (if eFits c (eLay D nL (n : Int)) D nL K k = true then 1 else 0, F) ∧ xSm rSK C F ∧ ∀ l, l < nL → F 102 l = eLay D nL (n : Int) l := by
  obtain ⟨d, rfl⟩ := Nat.exists_eq_add_of_le' (show 1 ≤ d by omega)
  have h5 := hc.1
  obtain ⟨last, q1, q2, q3⟩ := rv_lastHour (d := d) (k := k) (by omega) hK hk
  obtain ⟨F1, p1, p2, p3, p4, p5, p6, p7, p8⟩ := rv_loadTold (d := d) (by omega) hT6 hL
  have w1 : w32 ((nL : Int) - 1) = (nL : Int) - 1 := w32_id (by omega) (by omega)
  obtain ⟨⟨⟨a1, a2, a3, a4, a5⟩, b1, b2, b3, b4, b5, b6, b7⟩, hLd, hnL, hDD, h87⟩ := id hL
  obtain ⟨d, rfl⟩ := Nat.exists_eq_add_of_le' (show 1 ≤ d by omega)
  obtain ⟨F2, s1, s2, s3⟩ := rv_lay (d := d) (a := (n : Int)) h2 h9 nL (n : Int) F1 h5 (Int.natCast_nonneg n) (by omega) (by rw [p2 _ _ rfl, b2]) (by rw [p2 _ _ rfl, hDD])
  have s1 : xM (d + 1) 251 [mR, .inl (n : Int)] F1 = some (0, F2) := by
    rw [xm_X12_layCalendar, p2 _ _ rfl, hnL, w1]
    exact s1
  have k2 : ∀ i j, i ≠ 86 → i ≠ 101 → i ≠ 102 → ¬ (i = 74 ∧ 64 ≤ j ∧ j ≤ 68) → F2 i j = C i j := fun i j u1 u2 u3 u4 => by rw [s3 i j (by omega), p2 i j (by simp only [rSK, decide_eq_false_iff_not]; omega)]
  have hG : rG T c (eLay D nL (n : Int)) nL D (e0 c) F2 := by
    refine ⟨⟨⟨?_, ?_, ?_, ?_, ?_⟩, ⟨?_, ?_, ?_, ?_⟩, ?_, ?_, fun j hj => ?_, ?_, ?_, ?_⟩, rLd_same hLd fun i j q => k2 i j (by omega) (by omega) (by omega) (by omega), ?_, ?_, s2⟩
    · rw [k2 _ _ (by omega) (by omega) (by omega) (by omega), a1]
    · rw [k2 _ _ (by omega) (by omega) (by omega) (by omega), a2]
    · rw [k2 _ _ (by omega) (by omega) (by omega) (by omega), a3]
    · rw [k2 _ _ (by omega) (by omega) (by omega) (by omega), a4]
    · rw [k2 _ _ (by omega) (by omega) (by omega) (by omega), a5]
    · rw [k2 _ _ (by omega) (by omega) (by omega) (by omega), b1]
    · rw [k2 _ _ (by omega) (by omega) (by omega) (by omega), b2]
    · rw [s3 _ _ (by omega), p7]
    · rw [s3 _ _ (by omega), p5]
    · rw [s3 _ _ (by omega), p3]; rfl
    · rw [s3 _ _ (by omega), p4]; rfl
    · rw [s3 _ _ (by omega), p8 j hj]; rfl
    · rw [k2 _ _ (by omega) (by omega) (by omega) (by omega), b3]
    · rw [k2 _ _ (by omega) (by omega) (by omega) (by omega), b4]
    · rw [k2 _ _ (by omega) (by omega) (by omega) (by omega), b5]
    · rw [k2 _ _ (by omega) (by omega) (by omega) (by omega), hnL]
    · rw [s3 _ _ (by omega), p6]
  have hk2 : rLk K F2 := rLk_same hk fun i j q => k2 i j (by omega) (by omega) (by omega) (by omega)
  obtain ⟨b, F, u1, u2, u3⟩ := rv_fitsL (d := d + 1) (a := (n : Int)) (k := k) (by omega) hc h2 h9 hK q2 (last + 1) 0 F2 none (by omega) hk2 hG
  refine ⟨F, ?_, fun i j hS => ?_, fun l hl => by rw [rSM_keep u2 (by omega), s2 l hl]⟩
  · rw [xm_X12_fits, q1]
    simp only [Option.bind_some]
    rw [p1]
    simp only [Option.bind_some]
    rw [s1]
    simp only [Option.bind_some]
    have u1 : xw_X12_fits (d + 1) (18, [some mR, some (.inl (n : Int)), some (.inl k), some (.inl (last : Int)), some (.inl 0), none], [], F2) = some (b, F) := u1
    rw [u1]
    rcases u3 with ⟨rfl, u3⟩ | ⟨rfl, l, l1, l2, l3⟩
    · rw [if_pos (eFits_iff.mpr fun l l1 l2 => ?_)]
      obtain ⟨k1, k2, k3⟩ := hK
      obtain ⟨⟨v1, v2⟩, -⟩ := k3 l l1
      have := q3 l l1 l2
      obtain ⟨H, hH⟩ : ∃ H : Nat, K.2.1 l = (H : Int) := ⟨(K.2.1 l).toNat, by omega⟩
      exact u3 H (Nat.zero_le _) (by omega) l (Nat.zero_le _) l1 l2 hH
    · rw [if_neg fun h => ?_]
      have := eFits_iff.mp h l l1 l2
      rw [l3] at this
      cases this
  · simp only [rSK, decide_eq_false_iff_not] at hS
    rw [rSM_keep u2 (by omega), k2 i j (by omega) (by omega) (by omega) (by omega)]
end rFit
