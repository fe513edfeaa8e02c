/-! Calendars, looks, what fits, without a machine; both lay calendars so. -/
section cCal
variable {T d r : Nat} {C F : xC} {t : eT} {c : tC} {f : Nat → Int} {nL : Nat} {D : Int}
abbrev tR : xV := .inr (.inr (.inl (70, 59)))
/-- the next calendar, of the first laws -/
theorem cv_next (h2 : 2 ≤ D) (h9 : D ≤ 9) : ∀ (k : Nat) (n : Int) (C : xC), k ≤ 5 → 0 ≤ n → C 70 6 = 72 → C 70 1 = D → (∀ l, l < k → C 72 l = eLay D k n l) →
    ∃ F, xw_X7_nextCalendar d (12, [some tR, some (.inl ((k : Int) - 1))], [], C) = some (0, F) ∧ (∀ l, l < k → F 72 l = eLay D k (n + 1) l) ∧ ∀ i j, (i ≠ 72 ∨ k ≤ j) → F i j = C i j := by
  intro k
  induction k with
  | zero =>
    intro n C hk hn h6 h1 hl
    refine ⟨C, ?_, fun l hl => absurd hl (by omega), fun _ _ _ => rfl⟩
    rw [xl_X7_nextCalendar_12]
    simp only [Bool.cond_decide]
    rw [if_pos (by omega)]
  | succ k ih =>
    intro n C hk hn h6 h1 hl
    obtain ⟨v1, v2, v3, v4, v5⟩ := eDiv h2 h9 hn
    have e6 : (C 70 6).toNat = 72 := by rw [h6]; rfl
    have ek : ((k + 1 : Nat) : Int) - 1 = (k : Int) := by omega
    have x9 : xix (k : Int) 9 = true := xixn (by omega)
    have hck : C 72 k = n % D := by rw [hl k (by omega)]; exact if_pos rfl
    have wv : w32 (n % D + 1) = n % D + 1 := w32_id (by omega) (by omega)
    have g1 : xst C 72 k (n % D + 1) 70 1 = D := by rw [xst_nn (by omega), h1]
    have g6 : (xst C 72 k (n % D + 1) 70 6).toNat = 72 := by rw [xst_nn (by omega), h6]; rfl
    have low : ∀ l, l < k → C 72 l = eLay D k (n / D) l := fun l hlk => by rw [hl l (by omega)]; exact if_neg (by omega)
    rw [ek, xl_X7_nextCalendar_12, x9, e6, Int.toNat_natCast, hck, wv, g1, g6, xst_at]
    simp only [Bool.cond_decide, cond_true, xna, Bool.and_true]
    rw [if_neg (show ¬ ((k : Int) < 0) by omega)]
    by_cases hq : D ≤ n % D + 1
    · rw [if_pos hq]
      obtain ⟨u1, u2⟩ := v2 hq
      have wk : w32 ((k : Int) + (-1)) = (k : Int) - 1 := by rw [w32_id (by omega) (by omega)]; omega
      rw [wk]
      obtain ⟨F, f1, f2, f3⟩ := ih (n / D) (xst (xst C 72 k (n % D + 1)) 72 k 0) (by omega) v5 (by rw [xst_nn (by omega), xst_nn (by omega), h6]) (by rw [xst_nn (by omega), xst_nn (by omega), h1]) (fun l hlk => by rw [xst_nn (by omega), xst_nn (by omega), low l hlk])
      refine ⟨F, f1, fun l hl2 => ?_, fun i j hij => ?_⟩
      · show F 72 l = if l = k then (n + 1) % D else eLay D k ((n + 1) / D) l
        by_cases hlk : l = k
        · rw [if_pos hlk, hlk, u1, f3 72 k (by omega), xst_at]
        · rw [if_neg hlk, u2, f2 l (by omega)]
      · rw [f3 i j (by omega), xst_nn (by omega), xst_nn (by omega)]
    · rw [if_neg hq]
      obtain ⟨u1, u2⟩ := v1 (by omega)
      refine ⟨_, rfl, fun l hl2 => ?_, fun i j hij => xst_nn (by omega)⟩
      show xst C 72 k (n % D + 1) 72 l = if l = k then (n + 1) % D else eLay D k ((n + 1) / D) l
      by_cases hlk : l = k
      · rw [if_pos hlk, hlk, xst_at, u1]
      · rw [if_neg hlk, xst_nn (by omega), u2, low l (by omega)]
/-- the trial's scene -/
def cTr (T r : Nat) (c : tC) (f : Nat → Int) (nL : Nat) (D : Int) (C : xC) : Prop := (C 70 0 = (r : Int) ∧ C 70 1 = D ∧ C 70 2 = 0 ∧ C 70 3 = 0 ∧ C 70 4 = 0) ∧ (C 70 5 = 71 ∧ C 70 6 = 72) ∧ (∀ j, j < T → C 71 j = eN c 87 j) ∧ (∀ l, l < nL → C 72 l = f l) ∧ (r = 2 ∨ r = 13) ∧ (∀ k, k < 10 → C r (4 + k) = ((r + 1 + k : Nat) : Int)) ∧ cLd r c C ∧ C (r + 1) 1 = (nL : Int)
theorem cTr_same {f' : Nat → Int} (h : cTr T r c f nL D C) (hs : ∀ i j, i = 70 ∨ i = 71 ∨ (r ≤ i ∧ i ≤ r + 10) → F i j = C i j) (hf : ∀ l, l < nL → F 72 l = f' l) : cTr T r c f' nL D F := by
  obtain ⟨⟨a1, a2, a3, a4, a5⟩, ⟨b1, b2⟩, h1, h2, h3, h4, h5, h6⟩ := h
  exact ⟨⟨by rw [hs _ _ (by omega), a1], by rw [hs _ _ (by omega), a2], by rw [hs _ _ (by omega), a3], by rw [hs _ _ (by omega), a4], by rw [hs _ _ (by omega), a5]⟩, ⟨by rw [hs _ _ (by omega), b1], by rw [hs _ _ (by omega), b2]⟩, fun j hj => by rw [hs _ _ (by omega), h1 j hj], hf, h3, fun k hk => by rw [hs _ _ (by omega), h4 k hk], cLd_same h3 h5 fun i j q1 q2 => hs i j (by omega), by rw [hs _ _ (by omega), h6]⟩
theorem cv_nextC (hd : 1 ≤ d) (h2 : 2 ≤ D) (h9 : D ≤ 9) (h5 : nL ≤ 5) {n : Int} (hn : 0 ≤ n) (h : cTr T r c (eLay D nL n) nL D C) :
    ∃ F, xM d 71 [tR] C = some (0, F) ∧ cTr T r c (eLay D nL (n + 1)) nL D F ∧ ∀ i j, i ≠ 72 → F i j = C i j := by
  obtain ⟨d, rfl⟩ := Nat.exists_eq_add_of_le' hd
  obtain ⟨⟨a1, a2, a3, a4, a5⟩, ⟨b1, b2⟩, h1, hf, h3, h4, hL, h6⟩ := id h
  have e70 : (C 70 0).toNat = r := by rw [a1]; rfl
  have e4 : (C r 4).toNat = r + 1 := by rw [h4 0 (by decide)]; rfl
  have w1 : w32 ((nL : Int) - 1) = (nL : Int) - 1 := w32_id (by omega) (by omega)
  obtain ⟨F, k1, k2, k3⟩ := cv_next (d := d) h2 h9 nL n C h5 hn b2 a2 hf
  refine ⟨F, ?_, cTr_same h (fun i j q => k3 i j (by omega)) k2, fun i j hi => k3 i j (Or.inl hi)⟩
  rw [xm_X7_nextCalendar, e70, e4, h6, w1]
  exact k1
/-- a bit that is 0 -/
theorem cBit {X : Int} (h : X = 0) {k : Int → Option (Int × xC)} : (cond (decide (X = 0) || decide (X = 1)) (some X) none).bind k = k 0 := by subst h; rfl
theorem xcp_in {C : xC} {i j n j' : Nat} (h : j' < n) : xcp C i 0 j 0 n j j' = C i j' := by
  unfold xcp
  rw [if_pos ⟨rfl, Nat.zero_le _, by omega⟩]
  congr 1
  omega
theorem xcp_out {C : xC} {i j n i' j' : Nat} (h : i' ≠ j ∨ n ≤ j') : xcp C i 0 j 0 n i' j' = C i' j' := by
  unfold xcp
  rw [if_neg (by omega)]
/-- the mind is as the trial is -/
theorem cv_copy (hd : 1 ≤ d) (hT : T ≤ 6) (h5 : nL ≤ 5) (h : cTr T r c f nL D C) (hm : C 37 5 = 38 ∧ C 37 6 = 39 ∧ C 37 7 = 40) :
    ∃ F, xM d 56 [sR, tR] C = some (0, F) ∧ cE T r c f nL D (e0 c) F ∧ (∀ i j, i ≠ 37 → i ≠ 38 → i ≠ 39 → F i j = C i j) ∧ ∀ j, j < 6 → F 38 j = C 71 j := by
  obtain ⟨d, rfl⟩ := Nat.exists_eq_add_of_le' hd
  obtain ⟨⟨a1, a2, a3, a4, a5⟩, ⟨b1, b2⟩, h1, hf, h3, h4, hL, h6⟩ := h
  obtain ⟨m1, m2, m3⟩ := hm
  rw [xm_X7_copy, cBit (by simp [xst_get, a5])]
  generalize hE : (xst (xst (xst (xst (xst C 37 0 (Int.ofNat ((C 70 0).toNat))) 37 1 ((xst C 37 0 (Int.ofNat ((C 70 0).toNat))) 70 1)) 37 2 ((xst (xst C 37 0 (Int.ofNat ((C 70 0).toNat))) 37 1 ((xst C 37 0 (Int.ofNat ((C 70 0).toNat))) 70 1)) 70 2)) 37 3 ((xst (xst (xst C 37 0 (Int.ofNat ((C 70 0).toNat))) 37 1 ((xst C 37 0 (Int.ofNat ((C 70 0).toNat))) 70 1)) 37 2 ((xst (xst C 37 0 (Int.ofNat ((C 70 0).toNat))) 37 1 ((xst C 37 0 (Int.ofNat ((C 70 0).toNat))) 70 1)) 70 2)) 70 3)) 37 4 0) = E
  have k0 : E 37 0 = (r : Int) := by rw [← hE]; simp [xst_get, a1]
  have k1 : E 37 1 = D := by rw [← hE]; simp [xst_get, a2]
  have k2 : E 37 2 = 0 := by rw [← hE]; simp [xst_get, a3]
  have k3 : E 37 3 = 0 := by rw [← hE]; simp [xst_get, a4]
  have k4 : E 37 4 = 0 := by rw [← hE]; simp [xst_get]
  have kk : ∀ i j, ¬ (i = 37 ∧ j < 5) → E i j = C i j := fun i j q => by
    rw [← hE, xst_nn (by omega), xst_nn (by omega), xst_nn (by omega), xst_nn (by omega), xst_nn (by omega)]
  have e75 : (E 70 5).toNat = 71 := by rw [kk _ _ (by omega), b1]; rfl
  have e35 : (C 37 5).toNat = 38 := by rw [m1]; rfl
  have e76 : (xcp E 71 0 38 0 6 70 6).toNat = 72 := by rw [xcp_out (by omega), kk _ _ (by omega), b2]; rfl
  have e36 : (xcp E 71 0 38 0 6 37 6).toNat = 39 := by rw [xcp_out (by omega), kk _ _ (by omega), m2]; rfl
  rw [e75, e35, e76, e36]
  have out : ∀ i j, ¬ (i = 37 ∧ j < 5) → i ≠ 38 → i ≠ 39 → xcp (xcp E 71 0 38 0 6) 72 0 39 0 9 i j = C i j := fun i j q1 q2 q3 => by rw [xcp_out (Or.inl q3), xcp_out (Or.inl q2), kk i j q1]
  have o37 : ∀ j, xcp (xcp E 71 0 38 0 6) 72 0 39 0 9 37 j = E 37 j := fun j => by rw [xcp_out (by omega), xcp_out (by omega)]
  refine ⟨_, rfl, ⟨⟨by rw [o37, k0], by rw [out _ _ (by omega) (by omega) (by omega), m1], by rw [out _ _ (by omega) (by omega) (by omega), m2], by rw [out _ _ (by omega) (by omega) (by omega), m3], by rw [o37, k4], by rw [o37, k2]; rfl, by rw [o37, k3]; rfl, fun j hj => ?_, h3, fun k hk => by rw [out _ _ (by omega) (by omega) (by omega), h4 k hk]⟩, cLd_same h3 hL fun i j q1 q2 => out i j (by omega) (by omega) (by omega), by rw [out _ _ (by omega) (by omega) (by omega), h6], by rw [o37, k1], fun l hl => ?_⟩, fun i j q1 q2 q3 => out i j (by omega) q2 q3, fun j hj => by rw [xcp_out (by omega), xcp_in (by omega), kk _ _ (by omega)]⟩
  · rw [xcp_out (by omega), xcp_in (by omega), kk _ _ (by omega), h1 j hj]
    rfl
  · rw [xcp_in (by omega), xcp_out (by omega), kk _ _ (by omega), hf l hl]
theorem eRun_ok (hc : eLok T c nL) (hD : 2 ≤ D) : ∀ n, eTok D (eRun c f D nL n (e0 c)) := by
  intro n
  induction n with
  | zero => exact ⟨Int.le_refl _, by show (0 : Int) < D; omega, Int.le_refl _, (show (0 : Int) ≤ 6 by decide)⟩
  | succ n ih => exact eHour_ok hc (by omega) ih
end cCal
section rCal
variable {T d : Nat} {C F : xC} {t : eT} {c : tC} {f : Nat → Int} {nL : Nat} {D : Int}
theorem rv_lay (h2 : 2 ≤ D) (h9 : D ≤ 9) {a : Int} : ∀ (k : Nat) (n : Int) (C : xC), k ≤ 5 → 0 ≤ n → n ≤ 100000 → C 74 63 = 102 → C 74 54 = D →
    ∃ F, xw_X12_layCalendar d (9, [some mR, some (.inl a), some (.inl n), some (.inl ((k : Int) - 1))], [], C) = some (0, F) ∧ (∀ l, l < k → F 102 l = eLay D k n l) ∧ ∀ i j, (i ≠ 102 ∨ k ≤ j) → F i j = C i j := by
  intro k
  induction k with
  | zero =>
    intro n C hk hn hn2 h6 h1
    refine ⟨C, ?_, fun l hl => absurd hl (by omega), fun _ _ _ => rfl⟩
    rw [xl_X12_layCalendar_9]
    simp only [Bool.cond_decide]
    rw [if_pos (by omega)]
  | succ k ih =>
    intro n C hk hn hn2 h6 h1
    obtain ⟨-, -, v3, v4, v5⟩ := eDiv h2 h9 hn
    have hle : n / D ≤ n := Int.ediv_le_self D hn
    have e6 : (C 74 63).toNat = 102 := by rw [h6]; rfl
    have ek : ((k + 1 : Nat) : Int) - 1 = (k : Int) := by omega
    have x5 : xix (k : Int) 5 = true := xixn (by omega)
    have wk : w32 ((k : Int) + (-1)) = (k : Int) - 1 := by rw [w32_id (by omega) (by omega)]; omega
    have g1 : xst C 102 k (n % D) 74 54 = D := by rw [xst_nn (by omega), h1]
    rw [ek, xl_X12_layCalendar_9, h1, e6, x5, Int.toNat_natCast, x32_rem hn hn2 (by omega) (by omega), g1, x32_div hn hn2 (by omega) (by omega), wk]
    simp only [Bool.cond_decide, cond_true, xna, Bool.and_true]
    rw [if_neg (show ¬ ((k : Int) < 0) by omega), if_neg (show ¬ (D = 0) by omega), if_neg (show ¬ (D = 0) by omega)]
    obtain ⟨F, f1, f2, f3⟩ := ih (n / D) (xst C 102 k (n % D)) (by omega) v5 (by omega) (by rw [xst_nn (by omega), h6]) (by rw [xst_nn (by omega), h1])
    refine ⟨F, f1, fun l hl2 => ?_, fun i j hij => ?_⟩
    · show F 102 l = if l = k then n % D else eLay D k (n / D) l
      by_cases hlk : l = k
      · rw [if_pos hlk, hlk, f3 102 k (by omega), xst_at]
      · rw [if_neg hlk, f2 l (by omega)]
    · rw [f3 i j (by omega), xst_nn (by omega)]
/-- how many calendars there are, as the reference counts them -/
theorem rv_cal (h2 : 2 ≤ D) (h9 : D ≤ 9) (h5 : nL ≤ 5) (hD : C 74 54 = D) (hL : C 74 50 = (nL : Int)) : ∀ (m k : Nat), k + m = nL →
    xw_X12_calendars d (4, [some mR, some (.inl (eCal D k)), some (.inl (k : Int))], [], C) = some (if eCal D nL ≤ 20000 then eCal D nL else -1, C) := by
  intro m
  induction m with
  | zero =>
    intro k hk
    have hk : k = nL := hk
    subst hk
    rw [xl_X12_calendars_4, hL]
    simp only [Bool.cond_decide]
    rw [if_pos (Int.le_refl _)]
    split <;> rfl
  | succ m ih =>
    intro k hk
    obtain ⟨c1, c2⟩ := eCal_le (k := k + 1) h2 h9 (by omega)
    have c1 : 1 ≤ eCal D k * D := c1
    have c2 : eCal D k * D ≤ 59049 := c2
    rw [xl_X12_calendars_4, hL, hD, w32_s (by omega), w32_id (z := eCal D k * D) (by omega) (by omega)]
    simp only [Bool.cond_decide]
    rw [if_neg (by omega)]
    exact ih (k + 1) (by omega)
theorem rv_calendars (hd : 1 ≤ d) (h2 : 2 ≤ D) (h9 : D ≤ 9) (h5 : nL ≤ 5) (hD : C 74 54 = D) (hL : C 74 50 = (nL : Int)) : xM d 250 [mR] C = some (if eCal D nL ≤ 20000 then eCal D nL else -1, C) := by
  obtain ⟨d, rfl⟩ := Nat.exists_eq_add_of_le' hd
  rw [xm_X12_calendars]
  exact rv_cal (d := d) h2 h9 h5 hD hL nL 0 (by omega)
end rCal
