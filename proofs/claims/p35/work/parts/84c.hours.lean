/-! What an hour does, without a machine; the class lives hours so. -/
section cHour
variable {T d r : Nat} {C F : xC} {t : eT} {c : tC} {f : Nat → Int} {nL : Nat} {D : Int}
/-- the cells that an hour of the mind's changes -/
def cSM (i j : Nat) : Bool := decide (i = 38 ∨ i = 40 ∨ (i = 37 ∧ (j = 2 ∨ j = 3)))
theorem cLd_same (hr : r = 2 ∨ r = 13) (h : cLd r c C) (hs : ∀ i j, r ≤ i → i ≤ r + 10 → F i j = C i j) : cLd r c F := by
  obtain ⟨cs, h1, h2, h3⟩ := h
  exact ⟨cs, cRw_same h1 fun j => hs _ _ (by omega) (by omega), cC_same h2 fun i j q => hs _ _ (by omega) (by omega), h3⟩
/-- the mind's scene in a land -/
def cE (T r : Nat) (c : tC) (f : Nat → Int) (nL : Nat) (D : Int) (t : eT) (C : xC) : Prop := cScn T r t C ∧ cLd r c C ∧ C (r + 1) 1 = (nL : Int) ∧ C 37 1 = D ∧ ∀ l, l < nL → C 39 l = f l
theorem cE_40 (h : cE T r c f nL D t C) (hs : ∀ i j, i ≠ 40 → F i j = C i j) : cE T r c f nL D t F := by
  obtain ⟨h1, h2, h3, h4, h5⟩ := h
  have hr := h1.2.2.2.2.2.2.2.2.1
  exact ⟨cScn_40 h1 hs, cLd_same hr h2 fun i j q1 q2 => hs i j (by omega), by rw [hs _ _ (by omega), h3], by rw [hs _ _ (by omega), h4], fun l hl => by rw [hs _ _ (by omega), h5 l hl]⟩
theorem cLd_fo (h : cLd r c C) {w : Nat} (hw : w < 65) {es : List tE} (he : c.1 w = some es) (hok : fOk T es) : cFo T r (cf w) es C := by
  obtain ⟨cs, h1, h2, h3⟩ := h
  obtain ⟨b, b1, b2, b3⟩ := h2.1 w es hw he
  have hne : 0 < es.length := by
    cases es with
    | nil => exact absurd hok.2 (by simp [rpOk])
    | cons x y => simp
  refine ⟨b, b1, b2, ?_, fun i x hx => ⟨h1 (b + i) (ce x) (b3 i x hx), hok.1 x (List.mem_of_getElem? hx)⟩, hok.2⟩
  have hl := b3 (es.length - 1) _ (List.getElem?_eq_getElem (show es.length - 1 < es.length by omega))
  have := (List.getElem?_eq_some_iff.mp hl).1
  omega
/-- the sets of a law -/
theorem cv_sets (hd : 2 ≤ d) {a : Nat} (ha : a < 11) {m : Nat} (hm : m ≤ 4) (hok : ∀ n, n < m → eSok T c a n) : ∀ (k n : Nat) (t : eT) (C : xC) (o4 o5 o6 : Option xV), n + k = m → cE T r c f nL D t C →
    ∃ F, xw_X7_perform d (12, [some sR, some (.inl (a : Int)), some (.inl (m : Int)), some (.inl (n : Int)), o4, o5, o6], [], C) = some (0, F) ∧ cE T r c f nL D (eSets c a n k t) F ∧ xSm cSM C F ∧ ∀ j, T ≤ j → F 38 j = C 38 j := by
  intro k
  induction k with
  | zero =>
    intro n t C o4 o5 o6 hk hE
    refine ⟨C, ?_, hE, xSm_refl, fun _ _ => rfl⟩
    rw [xl_X7_perform_12]
    simp only [Bool.cond_decide]
    rw [if_pos (by omega)]
  | succ k ih =>
    intro n t C o4 o5 o6 hk hE
    obtain ⟨⟨es, e1, e2⟩, q, ⟨qT, q1⟩, q2, top, q3, q4, q5⟩ := hok n (by omega)
    have hfo := cLd_fo hE.2.1 (w := 5 * a + 1 + n) (by omega) e1 e2
    rw [cf_set ha (by omega)] at hfo
    obtain ⟨F1, v1, v2⟩ := cv_value (d := d) (by omega) hE.1 (f := 21 + (4 * a + n)) (by omega) hfo
    have hE1 := cE_40 hE v2
    have i1 : w32 (w32 ((a : Int) * 4) + (n : Int)) = ((4 * a + n : Nat) : Int) := by rw [w32_id (z := (a : Int) * 4) (by omega) (by omega), w32_id (by omega) (by omega)]; omega
    have i2 : w32 (21 + ((4 * a + n : Nat) : Int)) = ((21 + (4 * a + n) : Nat) : Int) := by rw [w32_id (by omega) (by omega)]; omega
    have x44 : xix ((4 * a + n : Nat) : Int) 44 = true := xixn (by omega)
    have hrow := hE.1.2.2.2.2.2.2.2.2.2
    have hrow1 := hE1.1.2.2.2.2.2.2.2.2.2
    have e37 : (C 37 0).toNat = r := by rw [hE.1.1]; rfl
    have e10 : (C r 10).toNat = r + 7 := by rw [hrow 6 (by decide)]; rfl
    have f37 : (F1 37 0).toNat = r := by rw [hE1.1.1]; rfl
    have f6 : (F1 r 6).toNat = r + 3 := by rw [hrow1 2 (by decide)]; rfl
    have f38 : (F1 37 5).toNat = 38 := by rw [hE1.1.2.1]; rfl
    obtain ⟨cs, hcs1, hcs2, hcs3⟩ := hE.2.1
    have k93 : C (r + 7) (4 * a + n) = (q : Int) := (hcs2.2.2 (4 * a + n) (q : Int)).2.2.2 q2
    obtain ⟨cs', hcs1', hcs2', hcs3'⟩ := hE1.2.1
    have k88 : F1 (r + 3) q = top := (hcs2'.2.2 q top).2.1 q3
    have x6 : xix (q : Int) 6 = true := xixn q1
    have hval : max 0 (min (eV t es) top) = (if eV t es < 0 then 0 else if top < eV t es then top else eV t es) := by
      split
      · omega
      · split <;> omega
    have hset : eSet c a n t = ePut top q (eV t es) t := by
      unfold eSet
      rw [eN_of q2, Int.toNat_natCast, eN_of q3, eF_of e1]
    rw [xl_X7_perform_12, i1, x44, i2, v1]
    simp only [Bool.cond_decide, cond_true, Option.bind_some]
    rw [if_neg (show ¬ ((m : Int) ≤ (n : Int)) by omega), e37, e10, Int.toNat_natCast, k93, x6, f37, f6, f38, Int.toNat_natCast, k88, hval, w32_s (by omega)]
    simp only [xna, Bool.and_true, cond_true]
    have hr := hE.1.2.2.2.2.2.2.2.2.1
    have hE2 : cE T r c f nL D (eSet c a n t) (xst F1 38 q (if eV t es < 0 then 0 else if top < eV t es then top else eV t es)) := by
      obtain ⟨⟨s1, s2, s3, s4, s5, s6, s7, s8, s9, s10⟩, l1, l2, l3, l4⟩ := hE1
      rw [hset]
      refine ⟨⟨by rw [xst_nn (by omega), s1], by rw [xst_nn (by omega), s2], by rw [xst_nn (by omega), s3], by rw [xst_nn (by omega), s4], by rw [xst_nn (by omega), s5], by rw [xst_nn (by omega), s6]; rfl, by rw [xst_nn (by omega), s7]; rfl, fun j hj => ?_, s9, fun k hk => by rw [xst_nn (by omega), s10 k hk]⟩, cLd_same hr l1 fun i j q1 q2 => xst_nn (by omega), by rw [xst_nn (by omega), l2], by rw [xst_nn (by omega), l3], fun l hl => by rw [xst_nn (by omega), l4 l hl]⟩
      show _ = if j = q then _ else t.1 j
      by_cases hjq : j = q
      · rw [if_pos hjq, hjq, xst_at]
      · rw [if_neg hjq, xst_nn (by omega), s8 j hj]
    obtain ⟨G, g1, g2, g3, g4⟩ := ih (n + 1) (eSet c a n t) _ (some (.inl ((4 * a + n : Nat) : Int))) (some (.inl (q : Int))) (some (.inl (eV t es))) (by omega) hE2
    exact ⟨G, g1, g2, xSm_trans (fun i j hS => by
      simp only [cSM, decide_eq_false_iff_not] at hS
      rw [xst_nn (by omega), v2 i j (by omega)]) g3, fun j hj => by rw [g4 j hj, xst_nn (by omega), v2 _ _ (by omega)]⟩
theorem cv_perform (hd : 3 ≤ d) {a : Nat} (ha : a < 11) {m : Nat} (hm : m ≤ 4) (h92 : c.2 92 a = some (m : Int)) (hok : ∀ n, n < m → eSok T c a n) (hE : cE T r c f nL D t C) :
    ∃ F, xM d 62 [sR, .inl (a : Int)] C = some (0, F) ∧ cE T r c f nL D (eSets c a 0 (eN c 92 a).toNat t) F ∧ xSm cSM C F ∧ ∀ j, T ≤ j → F 38 j = C 38 j := by
  obtain ⟨d, rfl⟩ := Nat.exists_eq_add_of_le' (show 1 ≤ d by omega)
  have hrow := hE.1.2.2.2.2.2.2.2.2.2
  have e37 : (C 37 0).toNat = r := by rw [hE.1.1]; rfl
  have e9 : (C r 9).toNat = r + 6 := by rw [hrow 5 (by decide)]; rfl
  have x11 : xix (a : Int) 11 = true := xixn ha
  obtain ⟨cs, hcs1, hcs2, hcs3⟩ := hE.2.1
  have k92 : C (r + 6) a = (m : Int) := (hcs2.2.2 a (m : Int)).2.2.1 h92
  rw [xm_X7_perform, x11, e37, e9, Int.toNat_natCast, k92, eN_of h92, Int.toNat_natCast]
  simp only [cond_true]
  exact cv_sets (d := d) (by omega) ha hm hok m 0 t C none none none (by omega) hE
/-- does a law act -/
theorem cv_acting (hd : 2 ≤ d) {l : Nat} (hl : l < nL) (hc : eLok T c nL) (hE : cE T r c f nL D t C) :
    ∃ F, xM d 60 [sR, .inl (l : Int)] C = some (if f l = t.2.1 then 0 else if eV t (eF c (5 * l)) = 0 then 0 else 1, F) ∧ cE T r c f nL D t F ∧ xSm cSM C F ∧ ∀ j, T ≤ j → F 38 j = C 38 j := by
  obtain ⟨d, rfl⟩ := Nat.exists_eq_add_of_le' (show 1 ≤ d by omega)
  obtain ⟨d, rfl⟩ := Nat.exists_eq_add_of_le' (show 1 ≤ d by omega)
  obtain ⟨h5, -, hlaw⟩ := hc
  obtain ⟨⟨es, e1, e2⟩, -⟩ := hlaw l hl
  have e39 : (C 37 6).toNat = 39 := by rw [hE.1.2.2.1]; rfl
  have h4 : C 37 4 = 0 := hE.1.2.2.2.2.1
  have h2 : C 37 2 = t.2.1 := hE.1.2.2.2.2.2.1
  have x9 : xix (l : Int) 9 = true := xixn (by omega)
  have hrest : xM (d + 1) 59 [sR, .inl (l : Int)] C = some (if f l = t.2.1 then 1 else 0, C) := by
    rw [xm_X7_resting, x9, e39, Int.toNat_natCast, hE.2.2.2.2 l hl, h4, h2]
    simp only [Bool.cond_decide, cond_true]
    rw [if_neg (fun q => q rfl)]
    by_cases q : f l = t.2.1
    · rw [if_neg (fun w => w q), if_pos q]
    · rw [if_pos q, if_neg q]
  rw [xm_X7_acting, hrest]
  simp only [Option.bind_some, Bool.cond_decide]
  by_cases q : f l = t.2.1
  · rw [if_pos q, if_pos (show (1 : Int) ≠ 0 by decide), if_pos q]
    exact ⟨C, rfl, hE, xSm_refl, fun _ _ => rfl⟩
  · rw [if_neg q, if_neg (show ¬ ((0 : Int) ≠ 0) from fun w => w rfl), if_neg q]
    have hfo := cLd_fo hE.2.1 (w := 5 * l) (by omega) e1 e2
    rw [cf_act (by omega)] at hfo
    obtain ⟨F1, v1, v2⟩ := cv_value (d := d + 1) (by omega) hE.1 (f := l) (by omega) hfo
    have w0 : w32 (0 + (l : Int)) = (l : Int) := by rw [w32_id (by omega) (by omega)]; omega
    rw [w0, v1, eF_of e1]
    simp only [Option.bind_some]
    refine ⟨F1, ?_, cE_40 hE v2, fun i j hS => v2 i j (by simp only [cSM, decide_eq_false_iff_not] at hS; omega), fun j _ => v2 _ _ (by omega)⟩
    by_cases z : eV t es = 0
    · rw [if_pos z, if_pos z]
    · rw [if_neg z, if_neg z]
theorem cv_laws (hd : 3 ≤ d) (hc : eLok T c nL) : ∀ (k l : Nat) (t : eT) (C : xC), l + k = nL → cE T r c f nL D t C →
    ∃ F, xw_X7_takeTurns d (12, [some sR, some (.inl (nL : Int)), some (.inl (l : Int))], [], C) = some (0, F) ∧ cE T r c f nL D (eLaws c f l k t) F ∧ xSm cSM C F ∧ ∀ j, T ≤ j → F 38 j = C 38 j := by
  intro k
  induction k with
  | zero =>
    intro l t C hk hE
    refine ⟨C, ?_, hE, xSm_refl, fun _ _ => rfl⟩
    rw [xl_X7_takeTurns_12]
    simp only [Bool.cond_decide]
    rw [if_pos (by omega)]
  | succ k ih =>
    intro l t C hk hE
    have h5 := hc.1
    obtain ⟨F1, k1, k2, k3, k4⟩ := cv_acting (d := d) (by omega) (show l < nL by omega) hc hE
    rw [xl_X7_takeTurns_12, k1, w32_s (by omega)]
    simp only [Bool.cond_decide, Option.bind_some]
    rw [if_neg (show ¬ ((nL : Int) ≤ (l : Int)) by omega)]
    have hls : eLaws c f l (k + 1) t = eLaws c f (l + 1) k (eLaw c f l t) := rfl
    rw [hls]
    by_cases q : f l = t.2.1
    · have e : eLaw c f l t = t := by unfold eLaw; rw [if_pos q]
      rw [if_pos q, if_pos rfl, e]
      obtain ⟨G, g1, g2, g3, g4⟩ := ih (l + 1) t F1 (by omega) k2
      exact ⟨G, g1, g2, xSm_trans k3 g3, fun j hj => (g4 j hj).trans (k4 j hj)⟩
    · by_cases z : eV t (eF c (5 * l)) = 0
      · have e : eLaw c f l t = t := by unfold eLaw; rw [if_neg q, if_pos z]
        rw [if_neg q, if_pos z, if_pos rfl, e]
        obtain ⟨G, g1, g2, g3, g4⟩ := ih (l + 1) t F1 (by omega) k2
        exact ⟨G, g1, g2, xSm_trans k3 g3, fun j hj => (g4 j hj).trans (k4 j hj)⟩
      · have e : eLaw c f l t = eSets c l 0 (eN c 92 l).toNat t := by unfold eLaw; rw [if_neg q, if_neg z]
        rw [if_neg q, if_neg z, if_neg (show ¬ ((1 : Int) = 0) by decide), e]
        obtain ⟨-, m, m1, m2, m3⟩ := hc.2.2 l (by omega)
        obtain ⟨F2, p1, p2, p3, p4⟩ := cv_perform (d := d) (by omega) (a := l) (by omega) m1 m2 m3 k2
        rw [p1]
        simp only [Option.bind_some]
        obtain ⟨G, g1, g2, g3, g4⟩ := ih (l + 1) _ F2 (by omega) p2
        exact ⟨G, g1, g2, xSm_trans k3 (xSm_trans p3 g3), fun j hj => (g4 j hj).trans ((p4 j hj).trans (k4 j hj))⟩
theorem cv_tick (hd : 1 ≤ d) (hc : eLok T c nL) (hD : 2 ≤ D) (hD9 : D ≤ 9) (ht : eTok D t) (hE : cE T r c f nL D t C) :
    ∃ F, xM d 66 [sR] C = some (0, F) ∧ cE T r c f nL D (eTick D (eN c 0 0) t) F ∧ xSm cSM C F ∧ ∀ j, T ≤ j → F 38 j = C 38 j := by
  obtain ⟨d, rfl⟩ := Nat.exists_eq_add_of_le' hd
  obtain ⟨t1, t2, t3, t4⟩ := ht
  obtain ⟨H, q1, q2, q3⟩ := hc.2.1
  obtain ⟨⟨s1, s2, s3, s4, s5, s6, s7, s8, s9, s10⟩, l1, l2, l3, l4⟩ := hE
  have e37 : (C 37 0).toNat = r := by rw [s1]; rfl
  obtain ⟨cs, hcs1, hcs2, hcs3⟩ := id l1
  have kH : C r 1 = H := hcs2.2.1 H q1
  have w1 : w32 (t.2.2 + 1) = t.2.2 + 1 := w32_id (by omega) (by omega)
  have w2 : w32 (t.2.1 + 1) = t.2.1 + 1 := w32_id (by omega) (by omega)
  have kr : xst C 37 3 (t.2.2 + 1) r 1 = H := by rw [xst_nn (by omega), kH]
  have same : ∀ (G : xC) (t' : eT), t'.1 = t.1 → G 37 2 = t'.2.1 → G 37 3 = t'.2.2 → xSm cSM C G → (∀ i j, i ≠ 37 → G i j = C i j) → cE T r c f nL D t' G := by
    intro G t' g1 g2 g3 g4 g5
    have k : ∀ j, j ≠ 2 → j ≠ 3 → G 37 j = C 37 j := fun j a b => g4 37 j (by simp only [cSM, decide_eq_false_iff_not]; omega)
    exact ⟨⟨by rw [k 0 (by decide) (by decide), s1], by rw [k 5 (by decide) (by decide), s2], by rw [k 6 (by decide) (by decide), s3], by rw [k 7 (by decide) (by decide), s4], by rw [k 4 (by decide) (by decide), s5], g2, g3, fun j hj => by rw [g5 _ _ (by omega), s8 j hj, g1], s9, fun k hk => by rw [g5 _ _ (by omega), s10 k hk]⟩, cLd_same s9 l1 fun i j a b => g5 i j (by omega), by rw [g5 _ _ (by omega), l2], by rw [k 1 (by decide) (by decide), l3], fun l hl => by rw [g5 _ _ (by omega), l4 l hl]⟩
  rw [xm_X7_tick, s7, w1, e37, kr, s5, l3, s6, w2, eN_of q1]
  simp only [Bool.cond_decide]
  unfold eTick
  by_cases hh : t.2.2 + 1 < H
  · rw [if_neg (by omega), if_pos hh]
    refine ⟨_, rfl, same _ _ rfl ?_ xst_at (xSm_st xSm_refl rfl) fun i j hi => xst_nn (by omega), xSm_st xSm_refl rfl, fun j _ => xst_nn (by omega)⟩
    rw [xst_nn (by omega), s6]
  · rw [if_pos (by omega), if_neg hh, if_pos trivial]
    by_cases hd2 : t.2.1 + 1 < D
    · rw [if_neg (by omega), if_pos hd2]
      refine ⟨_, rfl, same _ _ rfl xst_at ?_ (xSm_st (xSm_st (xSm_st xSm_refl rfl) rfl) rfl) fun i j hi => (by rw [xst_nn (by omega), xst_nn (by omega), xst_nn (by omega)]), xSm_st (xSm_st (xSm_st xSm_refl rfl) rfl) rfl, fun j _ => by rw [xst_nn (by omega), xst_nn (by omega), xst_nn (by omega)]⟩
      rw [xst_nn (by omega), xst_at]
    · rw [if_pos (by omega), if_neg hd2]
      refine ⟨_, rfl, same _ _ rfl xst_at ?_ (xSm_st (xSm_st (xSm_st xSm_refl rfl) rfl) rfl) fun i j hi => (by rw [xst_nn (by omega), xst_nn (by omega), xst_nn (by omega)]), xSm_st (xSm_st (xSm_st xSm_refl rfl) rfl) rfl, fun j _ => by rw [xst_nn (by omega), xst_nn (by omega), xst_nn (by omega)]⟩
      rw [xst_nn (by omega), xst_at]
/-- an hour of the mind's -/
theorem cv_hour (hd : 5 ≤ d) (hc : eLok T c nL) (hD : 2 ≤ D) (hD9 : D ≤ 9) (ht : eTok D t) (hE : cE T r c f nL D t C) :
    ∃ F, xM d 67 [sR, .inl 1] C = some (0, F) ∧ cE T r c f nL D (eHour c f D nL t) F ∧ xSm cSM C F ∧ ∀ j, T ≤ j → F 38 j = C 38 j := by
  obtain ⟨d, rfl⟩ := Nat.exists_eq_add_of_le' (show 1 ≤ d by omega)
  obtain ⟨d, rfl⟩ := Nat.exists_eq_add_of_le' (show 1 ≤ d by omega)
  have hrow := hE.1.2.2.2.2.2.2.2.2.2
  have e37 : (C 37 0).toNat = r := by rw [hE.1.1]; rfl
  have e4 : (C r 4).toNat = r + 1 := by rw [hrow 0 (by decide)]; rfl
  obtain ⟨F1, k1, k2, k3, k4⟩ := cv_laws (d := d) (by omega) hc nL 0 t C (by omega) hE
  have kt : xM (d + 1) 64 [sR] C = some (0, F1) := by
    rw [xm_X7_takeTurns, e37, e4, hE.2.2.1]
    exact k1
  have ht1 : eTok D (eLaws c f 0 nL t) := by
    unfold eTok
    rw [eLaws_2]
    exact ht
  obtain ⟨F2, p1, p2, p3, p4⟩ := cv_tick (d := d + 1) (by omega) hc hD hD9 ht1 k2
  have w1 : w32 (0 + 1) = 1 := rfl
  refine ⟨F2, ?_, p2, xSm_trans k3 p3, fun j hj => (p4 j hj).trans (k4 j hj)⟩
  rw [xm_X7_pass, xl_X7_pass_2]
  simp only [Bool.cond_decide]
  rw [if_neg (by decide), kt]
  simp only [Option.bind_some]
  rw [p1]
  simp only [Option.bind_some]
  rw [w1, xl_X7_pass_2]
  simp only [Bool.cond_decide]
  rw [if_pos (by decide)]
end cHour
