/-! The class in a line: its token, units, codes, names. -/
section cLine0
variable {oo : xC} {g : Nat → Int} {N d c r cl : Nat} {C F : xC} {z : tZ} {days : Int} {nm : Nat → List Int} {fl : Nat → Bool}
theorem cR_bind {A B : Type} {P : A → xC → Prop} {Q : B → xC → Prop} {o : Option (Int × xC)} {q : tX A} {k : Int × xC → Option (Int × xC)} {h : A → tX B} (H : cR oo P o q) (he : ∀ F, k (0, F) = some (0, F)) (hk : ∀ a F, P a F → cR oo Q (k (1, F)) (h a)) : cR oo Q (o.bind k) (q.bind h) := by
  cases q with
  | error x =>
    obtain ⟨F, k1, k2⟩ := H
    exact ⟨F, by rw [k1]; exact he F, k2⟩
  | ok a =>
    obtain ⟨F, k1, k2⟩ := H
    show cR oo Q (o.bind k) (h a)
    rw [k1]
    exact hk a F k2
theorem cR_E {A B : Type} {P : A → xC → Prop} {Q : B → xC → Prop} {o : Option (Int × xC)} {x : Int × Int} (h : cR oo P o (.error x)) : cR oo Q o (.error x) := h
theorem cR_mono {A : Type} {P Q : A → xC → Prop} {o : Option (Int × xC)} {q : tX A} (h : cR oo P o q) (hPQ : ∀ a F, P a F → Q a F) : cR oo Q o q := by
  cases q with
  | error x => exact h
  | ok a =>
    obtain ⟨F, k1, k2⟩ := h
    exact ⟨F, k1, hPQ a F k2⟩
theorem cR_fr {A : Type} {P : A → xC → Prop} {o : Option (Int × xC)} {q : tX A} (h : cR oo P o q) : cR oo P (o.bind fun q => xfr 1 q.2 (cond (decide (q.1 = 0) || decide (q.1 = 1)) (some (1, q.1)) none)) q := by
  cases q with
  | error x =>
    obtain ⟨F, k1, k2⟩ := h
    exact ⟨F, by rw [k1]; rfl, k2⟩
  | ok a =>
    obtain ⟨F, k1, k2⟩ := h
    exact ⟨F, by rw [k1]; rfl, k2⟩
theorem tX_assoc {A B D : Type} (q : tX A) (f : A → tX B) (h : B → tX D) : (q.bind f).bind h = q.bind fun x => (f x).bind h := by cases q <;> rfl
/-- what may change in a line -/
def cSL (r i j : Nat) : Bool := decide ((i = 24 ∧ 3 ≤ j ∧ j ≤ 7) ∨ (i = r ∧ j < 4) ∨ i = 25 ∨ (r + 1 ≤ i ∧ i ≤ r + 7) ∨ i = r + 10 ∨ ((i = r + 8 ∨ i = r + 9) ∧ j ≠ 15 ∧ j ≠ 16))
/-- .. by a formula -/
def cSF (r f i j : Nat) : Bool := decide ((i = 24 ∧ (j = 3 ∨ j = 4 ∨ j = 5 ∨ j = 7)) ∨ (i = r ∧ (j = 2 ∨ j = 3)) ∨ i = r + 10 ∨ ((i = r + 8 ∨ i = r + 9) ∧ j = f))
/-- .. of numbers that are told -/
def cSW (r i j : Nat) : Bool := decide ((r + 2 ≤ i ∧ i ≤ r + 9) ∨ (i = r ∧ j = 1) ∨ (i = 24 ∧ j = 6))
theorem cSF_L {f i j : Nat} (h1 : f ≠ 15) (h2 : f ≠ 16) (h : cSL r i j = false) : cSF r f i j = false := by
  simp only [cSL, cSF, decide_eq_false_iff_not] at h ⊢
  omega
theorem cS3_L {i j : Nat} (h : cSL r i j = false) : cS3 i j = false := by
  simp only [cSL, cS3, decide_eq_false_iff_not] at h ⊢
  omega
theorem cS2_L {i j : Nat} (h : cSL r i j = false) : cS2 i j = false := cS2_3 (cS3_L h)
/-- the class in a line -/
def cZ0 (oo : xC) (g : Nat → Int) (N c r : Nat) (days : Int) (nm : Nat → List Int) (z : tZ) (cl : Nat) (C : xC) : Prop :=
  pSt oo g N c r C ∧ pAt g N c z.1 C ∧ (C r 2 = z.2.1 ∧ 0 ≤ z.2.1 ∧ z.2.1 ≤ 150) ∧ (C r 3 = (cl : Int) ∧ 3 * (cl : Int) ≤ 6 * z.2.1 + tkP g N z.1) ∧ (C r 0 = days ∧ 0 ≤ days ∧ days ≤ 9) ∧ ∀ t, t < 5 → cNm r t (nm t) C ∧ (nm t).length ≤ 6
/-- the flags of goal and gain; no fault's place -/
def cFg (r : Nat) (fl : Nat → Bool) (C : xC) : Prop := C 24 9 = -1 ∧ ∀ f, f = 1 ∨ f = 2 → (fl f = true ∧ C (r + 8) (14 + f) < C (r + 9) (14 + f)) ∨ (fl f = false ∧ C (r + 8) (14 + f) = 0 ∧ C (r + 9) (14 + f) = 0)
theorem cFg_L (hr : r = 2 ∨ r = 13) (h : cFg r fl C) (hs : xSm (cSL r) C F) : cFg r fl F := by
  obtain ⟨h1, h2⟩ := h
  refine ⟨(hs _ _ (by simp only [cSL, decide_eq_false_iff_not]; omega)).trans h1, fun f hf => ?_⟩
  rw [hs (r + 8) (14 + f) (by simp only [cSL, decide_eq_false_iff_not]; omega), hs (r + 9) (14 + f) (by simp only [cSL, decide_eq_false_iff_not]; omega)]
  exact h2 f hf
theorem cZ0_r (h : cZ0 oo g N c r days nm z cl C) : r = 2 ∨ r = 13 := h.1.1.2.2.2
theorem cZ0_mv {z' : tZ} (h : cZ0 oo g N c r days nm z cl C) (hs : xSm cS3 C F) (ha : pAt g N c z'.1 F) (hu : z'.2.1 = z.2.1) (hp : tkP g N z.1 ≤ tkP g N z'.1) : cZ0 oo g N c r days nm z' cl F := by
  obtain ⟨h1, h2, ⟨h3, h3b⟩, ⟨h4, h4b⟩, ⟨h5, h5b⟩, h6⟩ := h
  have hr := h1.1.2.2.2
  have k : ∀ i j, i ≠ 24 → F i j = C i j := fun i j hi => hs i j (by simp only [cS3, decide_eq_false_iff_not]; omega)
  refine ⟨pSt_same h1 hs ⟨rfl, rfl, rfl⟩ (fun k _ => by simp only [cS3, decide_eq_false_iff_not]; omega) ⟨rfl, rfl, rfl, rfl⟩ (fun j => ⟨rfl, rfl, rfl⟩) (fun i j q1 q2 => by simp only [cS3, decide_eq_false_iff_not]; omega), ha, ⟨by rw [k r 2 (by omega), h3, hu], by rw [hu]; exact h3b⟩, ⟨by rw [k r 3 (by omega), h4], by rw [hu]; omega⟩, ⟨by rw [k r 0 (by omega), h5], h5b⟩, fun t ht => ⟨⟨?_, fun j x hx => ?_⟩, (h6 t ht).2⟩⟩
  · rw [k (r + 1) t (by omega)]; exact (h6 t ht).1.1
  · rw [k 25 _ (by omega)]; exact (h6 t ht).1.2 j x hx
/-- numbers that are told are written -/
theorem cZ0_w (h : cZ0 oo g N c r days nm z cl C) (hs : xSm (cSW r) C F) : cZ0 oo g N c r days nm z cl F := by
  obtain ⟨h1, h2, ⟨h3, h3b⟩, ⟨h4, h4b⟩, ⟨h5, h5b⟩, h6⟩ := h
  have hr := h1.1.2.2.2
  have k : ∀ i j, (i < r ∨ (i = r ∧ j ≠ 1) ∨ i = r + 1 ∨ r + 10 ≤ i) → ¬ (i = 24 ∧ j = 6) → F i j = C i j := fun i j hi h6 => hs i j (by simp only [cSW, decide_eq_false_iff_not]; omega)
  obtain ⟨p1, p2, p3, p4, p5⟩ := h2
  refine ⟨pSt_same h1 hs ⟨?_, ?_, ?_⟩ (fun k _ => ?_) ⟨?_, ?_, ?_, ?_⟩ (fun j => ⟨?_, ?_, ?_⟩) (fun i j q1 q2 => ?_), ⟨?_, ?_, fun q => ?_, p4, ?_⟩, ⟨by rw [k r 2 (by omega) (by omega), h3], h3b⟩, ⟨by rw [k r 3 (by omega) (by omega), h4], h4b⟩, ⟨by rw [k r 0 (by omega) (by omega), h5], h5b⟩, fun t ht => ⟨⟨?_, fun j x hx => ?_⟩, (h6 t ht).2⟩⟩
  · simp only [cSW, decide_eq_false_iff_not]; omega
  · simp only [cSW, decide_eq_false_iff_not]; omega
  · simp only [cSW, decide_eq_false_iff_not]; omega
  · simp only [cSW, decide_eq_false_iff_not]; omega
  · simp only [cSW, decide_eq_false_iff_not]; omega
  · simp only [cSW, decide_eq_false_iff_not]; omega
  · simp only [cSW, decide_eq_false_iff_not]; omega
  · simp only [cSW, decide_eq_false_iff_not]; omega
  · simp only [cSW, decide_eq_false_iff_not]; omega
  · simp only [cSW, decide_eq_false_iff_not]; omega
  · simp only [cSW, decide_eq_false_iff_not]; omega
  · simp only [cSW, decide_eq_false_iff_not]; omega
  · rw [k 24 3 (by omega) (by omega)]; exact p1
  · rw [k 24 4 (by omega) (by omega)]; exact p2
  · rw [k 24 5 (by omega) (by omega)]; exact p3 q
  · rw [k 24 8 (by omega) (by omega)]; exact p5
  · rw [k (r + 1) t (by omega) (by omega)]; exact (h6 t ht).1.1
  · rw [k 25 _ (by omega) (by omega)]; exact (h6 t ht).1.2 j x hx
theorem cZ0_pt {i j : Nat} {x : Int} (h : cZ0 oo g N c r days nm z cl C) (hi : (r + 2 ≤ i ∧ i ≤ r + 9) ∨ (i = r ∧ j = 1) ∨ (i = 24 ∧ j = 6)) : cZ0 oo g N c r days nm z cl (xst C i j x) :=
  cZ0_w h (xSm_st xSm_refl (by simp only [cSW, decide_eq_true_eq]; exact hi))
theorem cZ0_cnt {t : Nat} (h : cZ0 oo g N c r days nm z cl C) (ht : t < 5) : C (C (C 24 2).toNat 4).toNat t = ((nm t).length : Int) := by
  have e2 : (C 24 2).toNat = r := by rw [h.1.1.2.2.1]; rfl
  have e4 : (C r 4).toNat = r + 1 := by rw [h.1.2.1 0 (by decide)]; rfl
  rw [e2, e4]
  exact (h.2.2.2.2.2 t ht).1.1
theorem cZ0_row {k : Nat} (h : cZ0 oo g N c r days nm z cl C) (hk : k < 10) : (C (C 24 2).toNat (4 + k)).toNat = r + 1 + k := by
  have e2 : (C 24 2).toNat = r := by rw [h.1.1.2.2.1]; rfl
  rw [e2, h.1.2.1 k hk, Int.toNat_natCast]
theorem cz0_acc (hd : 2 ≤ d) (h : cZ0 oo g N c r days nm z cl C) {a : Int} (h24 : a ≠ 24) :
    cR oo (fun y F => cZ0 oo g N c r days nm y cl F ∧ xSm cS2 C F ∧ y.2 = z.2) (xM d 48 [pR, .inl a] C) (zAcc (tkK g N) (tkP g N) a z) := by
  have k := cp_accept hd h.1 h.2.1 h24
  unfold zAcc at k ⊢
  by_cases hk : tkK g N z.1 = a
  · rw [if_pos hk] at k ⊢
    obtain ⟨F, k1, k2, k3⟩ := k
    exact ⟨F, k1, cZ0_mv h (xSm_mono k3 fun _ _ => cS2_3) k2 rfl (tkP_mono z.1), k3, rfl⟩
  · rw [if_neg hk] at k ⊢
    exact cR_E k
theorem cz0_num (hd : 2 ≤ d) (h : cZ0 oo g N c r days nm z cl C) {lo hi : Int} :
    cR oo (fun y F => cZ0 oo g N c r days nm y cl F ∧ xSm cS3 C F ∧ F 24 6 = y.2.2.1 ∧ (lo ≤ y.2.2.1 ∧ y.2.2.1 ≤ hi) ∧ y.2.2.2 = z.2.2.2) (xM d 47 [pR, .inl lo, .inl hi] C) (zNum (tkK g N) (tkP g N) (tkV g N) lo hi z) := by
  have k := cp_num hd h.1 h.2.1 (lo := lo) (hi := hi)
  unfold zNum at k ⊢
  by_cases hk : tkK g N z.1 = 23
  · rw [if_pos hk] at k ⊢
    by_cases hv : lo ≤ tkV g N z.1 ∧ tkV g N z.1 ≤ hi
    · rw [if_pos hv] at k ⊢
      obtain ⟨F, k1, k2, k3, k4⟩ := k
      exact ⟨F, k1, cZ0_mv h k3 k2 rfl (tkP_mono z.1), k3, k4, hv, rfl⟩
    · rw [if_neg hv] at k ⊢
      exact cR_E k
  · rw [if_neg hk] at k ⊢
    exact cR_E k
theorem pAt_6 {i : Nat} {x : Int} (h : pAt g N c i C) : pAt g N c i (xst C 24 6 x) := by
  obtain ⟨p1, p2, p3, p4, p5⟩ := h
  refine ⟨?_, ?_, fun q => ?_, p4, ?_⟩
  all_goals rw [xst_nn (by omega)]
  · exact p1
  · exact p2
  · exact p3 q
  · exact p5
theorem cz0_old (hd : 2 ≤ d) (h : cZ0 oo g N c r days nm z cl C) {s : Nat} (hs : s < 5) (hnd : (nm s).Nodup) :
    cR oo (fun y F => cZ0 oo g N c r days nm y cl F ∧ xSm cS3 C F ∧ y.2.2.2 = z.2.2.2 ∧ F 24 6 = y.2.2.1) (xM d 45 [pR, .inl (s : Int)] C) (zOld (tkK g N) (tkP g N) (tkV g N) (nm s) z) := by
  obtain ⟨d, rfl⟩ := Nat.exists_eq_add_of_le' (show 1 ≤ d by omega)
  rw [xm_X5_readKnownName]
  simp only [Bool.cond_decide]
  rw [h.2.1.2.1]
  unfold zOld
  by_cases hk : tkK g N z.1 = 22
  · rw [if_pos hk, if_pos hk]
    obtain ⟨x, x1, x2⟩ := cp_findi (d := d) (by omega) h.1 hs (h.2.2.2.2.2 s hs).1 (h.2.2.2.2.2 s hs).2
    have e5 : C 24 5 = tkV g N z.1 := h.2.1.2.2.1 (by omega)
    rw [e5] at x2
    rw [x1]
    simp only [Option.bind_some]
    have hS : xSm cS3 C (xst C 24 6 x) := xSm_st xSm_refl rfl
    have h2 : cZ0 oo g N c r days nm z cl (xst C 24 6 x) := cZ0_mv h hS (pAt_6 h.2.1) rfl (Int.le_refl _)
    rcases x2 with ⟨x3, x4, x5, x6⟩ | ⟨x3, x4⟩
    · rw [if_pos x6, if_pos x5]
      obtain ⟨F, k1, k2, k3⟩ := cp_step (d := d) (by omega) h2.1 h2.2.1 (by omega)
      rw [k1]
      exact ⟨F, rfl, cZ0_mv h2 (xSm_mono k3 fun _ _ => cS2_3) k2 rfl (tkP_mono z.1), xSm_trans hS (xSm_mono k3 fun _ _ => cS2_3), rfl, by rw [k3 _ _ rfl, xst_at]; exact rIdx hnd x3 x4⟩
    · rw [if_neg (fun q => q x3), if_neg x4]
      exact cR_err (by omega) h2.1 h2.2.1 (by decide)
  · rw [if_neg hk, if_neg hk]
    exact cR_err (by omega) h.1 h.2.1 (by decide)
/-- a name behind those that are told -/
theorem cZ0_nw {s : Nat} {x : Int} (h : cZ0 oo g N c r days nm z cl C) (hs : s < 5) (hl : (nm s).length < 6) : cZ0 oo g N c r days nm z cl (xst C 25 (6 * s + (nm s).length) x) := by
  obtain ⟨h1, h2, ⟨h3, h3b⟩, ⟨h4, h4b⟩, ⟨h5, h5b⟩, h6⟩ := h
  have hr := h1.1.2.2.2
  obtain ⟨p1, p2, p3, p4, p5⟩ := h2
  refine ⟨pSt_same (S := fun i _ => decide (i = 25)) h1 (xSm_st xSm_refl rfl) ⟨rfl, rfl, rfl⟩ (fun k _ => by simp only [decide_eq_false_iff_not]; omega) ⟨rfl, rfl, rfl, rfl⟩ (fun j => ⟨rfl, rfl, rfl⟩) (fun i j q1 q2 => by simp only [decide_eq_false_iff_not]; omega), ⟨?_, ?_, fun q => ?_, p4, ?_⟩, ⟨by rw [xst_nn (by omega), h3], h3b⟩, ⟨by rw [xst_nn (by omega), h4], h4b⟩, ⟨by rw [xst_nn (by omega), h5], h5b⟩, fun t ht => ⟨⟨?_, fun j y hy => ?_⟩, (h6 t ht).2⟩⟩
  · rw [xst_nn (by omega)]; exact p1
  · rw [xst_nn (by omega)]; exact p2
  · rw [xst_nn (by omega)]; exact p3 q
  · rw [xst_nn (by omega)]; exact p5
  · rw [xst_nn (by omega)]; exact (h6 t ht).1.1
  · have hj : j < (nm t).length := by
      rcases Nat.lt_or_ge j (nm t).length with q | q
      · exact q
      · rw [List.getElem?_eq_none q] at hy; cases hy
    have h6t := (h6 t ht).2
    rw [xst_nn (by
      intro q
      have q2 := q.2
      by_cases hts : t = s
      · subst hts; omega
      · omega)]
    exact (h6 t ht).1.2 j y hy
/-- .. is counted -/
theorem cZ0_ct {s : Nat} {x : Int} (h : cZ0 oo g N c r days nm z cl C) (hs : s < 5) (hl : (nm s).length < 6) (hx : C 25 (6 * s + (nm s).length) = x) : cZ0 oo g N c r days (tAdd nm s x) z cl (xst C (r + 1) s (((nm s).length : Int) + 1)) := by
  obtain ⟨h1, h2, ⟨h3, h3b⟩, ⟨h4, h4b⟩, ⟨h5, h5b⟩, h6⟩ := h
  have hr := h1.1.2.2.2
  obtain ⟨p1, p2, p3, p4, p5⟩ := h2
  refine ⟨pSt_same (S := fun i _ => decide (i = r + 1)) h1 (xSm_st xSm_refl (decide_eq_true rfl)) ⟨?_, ?_, ?_⟩ (fun k _ => ?_) ⟨?_, ?_, ?_, ?_⟩ (fun j => ⟨?_, ?_, ?_⟩) (fun i j q1 q2 => ?_), ⟨?_, ?_, fun q => ?_, p4, ?_⟩, ⟨by rw [xst_nn (by omega), h3], h3b⟩, ⟨by rw [xst_nn (by omega), h4], h4b⟩, ⟨by rw [xst_nn (by omega), h5], h5b⟩, fun t ht => ?_⟩
  · simp only [decide_eq_false_iff_not]; omega
  · simp only [decide_eq_false_iff_not]; omega
  · simp only [decide_eq_false_iff_not]; omega
  · simp only [decide_eq_false_iff_not]; omega
  · simp only [decide_eq_false_iff_not]; omega
  · simp only [decide_eq_false_iff_not]; omega
  · simp only [decide_eq_false_iff_not]; omega
  · simp only [decide_eq_false_iff_not]; omega
  · simp only [decide_eq_false_iff_not]; omega
  · simp only [decide_eq_false_iff_not]; omega
  · simp only [decide_eq_false_iff_not]; omega
  · simp only [decide_eq_false_iff_not]; omega
  · rw [xst_nn (by omega)]; exact p1
  · rw [xst_nn (by omega)]; exact p2
  · rw [xst_nn (by omega)]; exact p3 q
  · rw [xst_nn (by omega)]; exact p5
  · by_cases hts : t = s
    · subst hts
      have e : tAdd nm t x t = nm t ++ [x] := if_pos rfl
      rw [e]
      refine ⟨⟨?_, fun j y hy => ?_⟩, ?_⟩
      · rw [xst_at, List.length_append]; rfl
      · rw [xst_nn (by omega)]
        rcases Nat.lt_or_ge j (nm t).length with q | q
        · rw [List.getElem?_append_left q] at hy
          exact (h6 t ht).1.2 j y hy
        · rw [List.getElem?_append_right q] at hy
          have hj : j - (nm t).length = 0 := by
            rcases Nat.eq_zero_or_pos (j - (nm t).length) with w | w
            · exact w
            · rw [List.getElem?_eq_none (by simp only [List.length_singleton]; omega)] at hy; cases hy
          rw [hj] at hy
          have hy : x = y := Option.some.inj hy
          rw [show j = (nm t).length by omega, ← hy]
          exact hx
      · rw [List.length_append]; simp; omega
    · have e : tAdd nm s x t = nm t := if_neg hts
      rw [e]
      refine ⟨⟨?_, fun j y hy => ?_⟩, (h6 t ht).2⟩
      · rw [xst_nn (by omega)]; exact (h6 t ht).1.1
      · rw [xst_nn (by omega)]; exact (h6 t ht).1.2 j y hy
end cLine0
