/-! What is asked next: the class, the reference. -/
section cAsk
variable {T d r : Nat} {C F : xC} {c : tC} {nL : Nat} {D : Int} {K : eK} {k h w : Int}
/-- the most that a thing's answer leaves -/
theorem cv_most {hn N j : Nat} (h5 : C 65 5 = 68) (hP : leftP T c D nL K k hn N C) (hN : N = (eCal D nL).toNat) (hj : j < T) (hT6 : T ≤ 6) : xM (d + 1) 16 [fR, .inl (j : Int)] C = some (eFul c D nL K k hn j, C) := by
  rw [xm_X2_leftAtMost]
  have key : ∀ m v : Nat, v + m = 1000 → xw_X2_leftAtMost d (4, [some fR, some (.inl (j : Int)), some (.inl (eTop (fun v => (eTal c D nL K k hn j (v : Int) N : Int)) v)), some (.inl (v : Int))], [], C) = some (eTop (fun v => (eTal c D nL K k hn j (v : Int) N : Int)) 1000, C) := by
    intro m
    induction m with
    | zero =>
      intro v hv
      have hv : v = 1000 := hv
      subst hv
      rw [xl_X2_leftAtMost_4]
      simp only [Bool.cond_decide]
      rw [if_pos (by decide)]
    | succ m ih =>
      intro v hv
      have x60 : xix ((1000 * j + v : Nat) : Int) 6000 = true := xixn (by omega)
      have hq : C 68 (1000 * j + v) = (eTal c D nL K k hn j (v : Int) N : Int) := hP.1 j v hj (by omega)
      have hlt : ¬ ((1000 : Int) ≤ (v : Int)) := by omega
      have ws : w32 ((v : Int) + 1) = ((v + 1 : Nat) : Int) := by clear hq; exact w32_s (by omega)
      have w1 : w32 (w32 ((j : Int) * 1000) + (v : Int)) = ((1000 * j + v : Nat) : Int) := by
        clear hq ws
        rw [w32_id (z := (j : Int) * 1000) (by omega) (by omega), w32_id (by omega) (by omega)]
        omega
      have e5 : (C 65 5).toNat = 68 := by rw [h5]; rfl
      rw [xl_X2_leftAtMost_4, e5, w1, x60, Int.toNat_natCast, hq, ws]
      simp only [Bool.cond_decide, cond_true]
      rw [if_neg hlt]
      exact ih (v + 1) (by clear hq ws w1 e5; omega)
  subst hN
  exact key 1000 0 rfl
/-- the thing that leaves the fewest at most -/
theorem cv_telling {hn N : Nat} (hd : 1 ≤ d) (h5 : C 65 5 = 68) (hP : leftP T c D nL K k hn N C) (hN : N = (eCal D nL).toNat) (hT0 : 0 < T) (hT6 : T ≤ 6) : xM (d + 1) 15 [fR, .inl (T : Int)] C = some ((eBst (eFul c D nL K k hn) (T - 1) : Int), C) := by
  obtain ⟨d, rfl⟩ := Nat.exists_eq_add_of_le' hd
  rw [xm_X2_tellingMost]
  have key : ∀ m n : Nat, n + 1 + m = T → xw_X2_tellingMost (d + 1) (4, [some fR, some (.inl (T : Int)), some (.inl (eBst (eFul c D nL K k hn) n : Int)), some (.inl ((n + 1 : Nat) : Int))], [], C) = some ((eBst (eFul c D nL K k hn) (T - 1) : Int), C) := by
    intro m
    induction m with
    | zero =>
      intro n hn1
      have e : T - 1 = n := by omega
      have hge : (T : Int) ≤ ((n + 1 : Nat) : Int) := by omega
      rw [xl_X2_tellingMost_4]
      simp only [Bool.cond_decide]
      rw [if_pos hge, e]
    | succ m ih =>
      intro n hn1
      have hb := eBst_le (g := eFul c D nL K k hn) n
      have hlt : ¬ ((T : Int) ≤ ((n + 1 : Nat) : Int)) := by omega
      have m1 := cv_most (d := d) h5 hP hN (j := n + 1) (by omega) hT6
      have m2 := cv_most (d := d) h5 hP hN (j := eBst (eFul c D nL K k hn) n) (by omega) hT6
      have ws : w32 (((n + 1 : Nat) : Int) + 1) = ((n + 1 + 1 : Nat) : Int) := w32_s (by omega)
      have nx := ih (n + 1) (by omega)
      rw [xl_X2_tellingMost_4, m1, ws]
      simp only [Option.bind_some]
      rw [m2]
      simp only [Option.bind_some, Bool.cond_decide]
      rw [if_neg hlt]
      by_cases hl : eFul c D nL K k hn (n + 1) < eFul c D nL K k hn (eBst (eFul c D nL K k hn) n)
      · have e1 : eBst (eFul c D nL K k hn) (n + 1) = n + 1 := if_pos hl
        rw [e1] at nx
        rw [if_neg (Int.not_le.mpr hl)]
        exact nx
      · have e1 : eBst (eFul c D nL K k hn) (n + 1) = eBst (eFul c D nL K k hn) n := if_neg hl
        rw [e1] at nx
        rw [if_pos (Int.not_lt.mp hl)]
        exact nx
  exact key (T - 1) 0 (by omega)
/-- the class's question -/
theorem cv_ask (hd : 8 ≤ d) (hc : eLok T c nL) (hT6 : T ≤ 6) (h2 : 2 ≤ D) (h9 : D ≤ 9) (hK : kOk T K) (hL : cLand T r c nL D C) (hx : C 0 17 = 65 ∧ C 0 3 = (r : Int)) (hF : cFx C ∧ C 65 4 = 67 ∧ C 65 5 = 68) (hm : C 70 5 = 71 ∧ C 70 6 = 72) (hk : cLk K C) (hTT : C (r + 1) 0 = (T : Int)) (hB : ∀ j, j < 6 → 0 ≤ C (r + 2) j ∧ C (r + 2) j ≤ 999) : ∃ F, xM d 145 [.inr (.inr (.inl (0, 0))), .inl h, .inl w, .inl k] C = some (eAsk c D nL T K k h w, F) := by
  obtain ⟨d, rfl⟩ := Nat.exists_eq_add_of_le' (show 1 ≤ d by omega)
  have hr := hL.1
  have e17 : (C 0 17).toNat = 65 := by rw [hx.1]; rfl
  have e3 : (C 0 3).toNat = r := by rw [hx.2]; exact Int.toNat_natCast _
  have e4 : (C r 4).toNat = r + 1 := by rw [hL.2.1 0 (by decide)]; exact Int.toNat_natCast _
  unfold eAsk
  rw [xm_X11_ask, e17, e3, e4, hTT]
  clear e17 e3 e4
  simp only [Bool.cond_decide]
  by_cases h1 : h < 0
  · rw [if_pos h1, if_neg (show ¬ (0 ≤ h ∧ h ≤ 60 ∧ 0 ≤ w ∧ w ≤ 1 ∧ 0 < T) from fun q => absurd q.1 (Int.not_le.mpr h1))]; exact ⟨_, rfl⟩
  rw [if_neg h1]
  by_cases h2' : 60 < h
  · rw [if_pos h2', if_neg (show ¬ (0 ≤ h ∧ h ≤ 60 ∧ 0 ≤ w ∧ w ≤ 1 ∧ 0 < T) from fun q => absurd q.2.1 (Int.not_le.mpr h2'))]; exact ⟨_, rfl⟩
  rw [if_neg h2']
  by_cases h3 : w < 0
  · rw [if_pos h3, if_neg (show ¬ (0 ≤ h ∧ h ≤ 60 ∧ 0 ≤ w ∧ w ≤ 1 ∧ 0 < T) from fun q => absurd q.2.2.1 (Int.not_le.mpr h3))]; exact ⟨_, rfl⟩
  rw [if_neg h3]
  by_cases h4 : 1 < w
  · rw [if_pos h4, if_neg (show ¬ (0 ≤ h ∧ h ≤ 60 ∧ 0 ≤ w ∧ w ≤ 1 ∧ 0 < T) from fun q => absurd q.2.2.2.1 (Int.not_le.mpr h4))]; exact ⟨_, rfl⟩
  rw [if_neg h4]
  by_cases hz : T = 0
  · rw [if_neg (show ¬ ((T : Int) ≠ 0) by omega), if_neg (show ¬ (0 ≤ h ∧ h ≤ 60 ∧ 0 ≤ w ∧ w ≤ 1 ∧ 0 < T) from fun q => absurd hz (Nat.ne_of_gt q.2.2.2.2))]; exact ⟨_, rfl⟩
  rw [if_pos (show (T : Int) ≠ 0 by omega), if_pos (show 0 ≤ h ∧ h ≤ 60 ∧ 0 ≤ w ∧ w ≤ 1 ∧ 0 < T by omega)]
  obtain ⟨hn, rfl⟩ : ∃ hn : Nat, h = (hn : Int) := ⟨h.toNat, by omega⟩
  rw [Int.toNat_natCast]
  have hbT : ∀ j, j < T → 0 ≤ eN c 87 j ∧ eN c 87 j ≤ 999 := fun j hj => by
    obtain ⟨cs, hcs1, hcs2, hcs3⟩ := id hL.2.2.1
    have e : C (r + 2) j = eN c 87 j := (hcs2.2.2 j _).1 (hL.2.2.2.2.2 j hj)
    rw [← e]
    exact hB j (by omega)
  obtain ⟨F, f1, f2, ⟨f3, f4, f5⟩, f6, f7⟩ := cv_siftB (d := d) (k := k) (h := hn) (by omega) hc hT6 h2 h9 hK hL hF hm hk hB (by omega) (eSee_bd hc hbT hn)
  rw [f1]
  simp only [Option.bind_some]
  unfold eFit
  by_cases hb : 20000 < eCal D nL
  · rw [if_pos hb, if_pos hb, if_neg (show ¬ ((-2 : Int) ≠ -2) from fun q => q rfl)]; exact ⟨_, rfl⟩
  rw [if_neg hb, if_neg hb, if_pos (show ((eNum (fun n => eFits c (eLay D nL (n : Int)) D nL K k) (eCal D nL).toNat : Nat) : Int) ≠ -2 by omega)]
  by_cases hz2 : eNum (fun n => eFits c (eLay D nL (n : Int)) D nL K k) (eCal D nL).toNat = 0
  · rw [if_neg (show ¬ (((eNum (fun n => eFits c (eLay D nL (n : Int)) D nL K k) (eCal D nL).toNat : Nat) : Int) ≠ 0) by omega), if_pos hz2]; exact ⟨_, rfl⟩
  rw [if_pos (show ((eNum (fun n => eFits c (eLay D nL (n : Int)) D nL K k) (eCal D nL).toNat : Nat) : Int) ≠ 0 by omega), if_neg hz2]
  have hP := f2 (by omega) hz2
  obtain ⟨e, rfl⟩ := Nat.exists_eq_add_of_le' (show 2 ≤ d by omega)
  have g0 := cv_telling (d := e + 1) (by omega) f5 hP rfl (by omega) hT6
  have hle := eBst_le (g := eFul c D nL K k hn) (T - 1)
  have g1 := cv_most (d := e + 1) f5 hP rfl (j := eBst (eFul c D nL K k hn) (T - 1)) (by omega) hT6
  have q17 : (F 0 17).toNat = 65 := by rw [f6, hx.1]; rfl
  have q3 : (F 0 3).toNat = r := by rw [f6, hx.2]; exact Int.toNat_natCast _
  have q4 : (F r 4).toNat = r + 1 := by rw [f7 _ _ (Nat.le_refl _) (by omega), hL.2.1 0 (by decide)]; exact Int.toNat_natCast _
  have qT : F (r + 1) 0 = (T : Int) := by rw [f7 _ _ (by omega) (by omega), hTT]
  rw [q17, q3, q4, qT, g0]
  simp only [Option.bind_some]
  by_cases hw : w = 0
  · rw [if_neg (show ¬ (w ≠ 0) from fun q => q hw), if_pos hw]; exact ⟨_, rfl⟩
  · rw [if_pos (show w ≠ 0 from hw), if_neg hw, q17, g1]
    exact ⟨_, rfl⟩
end cAsk
section rAsk
variable {T d : Nat} {C F : xC} {c : tC} {f : Nat → Int} {nL : Nat} {D : Int} {K : eK} {k h w : Int}
/-- what the reference's question keeps -/
def rAP (T : Nat) (c : tC) (nL : Nat) (D : Int) (K : eK) (C : xC) : Prop := rLand T c nL D C ∧ rLk K C ∧ C 74 49 = (T : Int) ∧ C 74 100 = 121
theorem rAP_same (h : rAP T c nL D K C) (hs : ∀ i j, i ≠ 86 → i ≠ 101 → i ≠ 102 → i ≠ 121 → ¬ (i = 74 ∧ 64 ≤ j ∧ j ≤ 68) → F i j = C i j) : rAP T c nL D K F := by
  obtain ⟨h1, h2, h3, h4⟩ := h
  exact ⟨rLand_same h1 fun i j q => hs i j (by omega) (by omega) (by omega) (by omega) (by omega), rLk_same h2 fun i j q => hs i j (by omega) (by omega) (by omega) (by omega) (by omega), by rw [hs _ _ (by decide) (by decide) (by decide) (by decide) (by decide), h3], by rw [hs _ _ (by decide) (by decide) (by decide) (by decide) (by decide), h4]⟩
theorem rSK_keep {i j : Nat} (h : xSm rSK C F) (q : i ≠ 86 ∧ i ≠ 101 ∧ i ≠ 102 ∧ ¬ (i = 74 ∧ 64 ≤ j ∧ j ≤ 68)) : F i j = C i j := h i j (by simp only [rSK, decide_eq_false_iff_not]; omega)
/-- a calendar is set up -/
theorem rv_setup (hd : 2 ≤ d) (hc : eLok T c nL) (hT6 : T ≤ 6) (h2 : 2 ≤ D) (h9 : D ≤ 9) (hL : rLand T c nL D C) {n : Nat} (hn : n ≤ 100000) :
    ∃ F1 F2, xM d 202 [mR] C = some (0, F1) ∧ xM d 251 [mR, .inl (n : Int)] F1 = some (0, F2) ∧ rG T c (eLay D nL (n : Int)) nL D (e0 c) F2 ∧ xSm rSK C F2 := by
  obtain ⟨d, rfl⟩ := Nat.exists_eq_add_of_le' (show 1 ≤ d by omega)
  have h5 := hc.1
  obtain ⟨F1, p1, p2, p3, p4, p5, p6, p7, p8⟩ := rv_loadTold (d := d + 1) (by omega) hT6 hL
  have w1 : w32 ((nL : Int) - 1) = (nL : Int) - 1 := w32_id (by omega) (by omega)
  obtain ⟨⟨⟨a1, a2, a3, a4, a5⟩, b1, b2, b3, b4, b5, b6, b7⟩, hLd, hnL, hDD, h87⟩ := id hL
  obtain ⟨F2, s1, s2, s3⟩ := rv_lay (d := d) (a := (n : Int)) h2 h9 nL (n : Int) F1 h5 (Int.natCast_nonneg n) (by omega) (by rw [p2 _ _ rfl, b2]) (by rw [p2 _ _ rfl, hDD])
  have s1 : xM (d + 1) 251 [mR, .inl (n : Int)] F1 = some (0, F2) := by
    rw [xm_X12_layCalendar, p2 _ _ rfl, hnL, w1]
    exact s1
  clear w1
  have k2 : ∀ i j, i ≠ 86 → i ≠ 101 → i ≠ 102 → ¬ (i = 74 ∧ 64 ≤ j ∧ j ≤ 68) → F2 i j = C i j := fun i j u1 u2 u3 u4 => by rw [s3 i j (by omega), p2 i j (by simp only [rSK, decide_eq_false_iff_not]; omega)]
  refine ⟨F1, F2, p1, s1, ⟨⟨⟨?_, ?_, ?_, ?_, ?_⟩, ⟨?_, ?_, ?_, ?_⟩, ?_, ?_, fun j hj => ?_, ?_, ?_, ?_⟩, rLd_same hLd fun i j q => k2 i j (by omega) (by omega) (by omega) (by omega), ?_, ?_, s2⟩, fun i j hS => ?_⟩
  · rw [k2 _ _ (by omega) (by omega) (by omega) (by omega), a1]
  · rw [k2 _ _ (by omega) (by omega) (by omega) (by omega), a2]
  · rw [k2 _ _ (by omega) (by omega) (by omega) (by omega), a3]
  · rw [k2 _ _ (by omega) (by omega) (by omega) (by omega), a4]
  · rw [k2 _ _ (by omega) (by omega) (by omega) (by omega), a5]
  · rw [k2 _ _ (by omega) (by omega) (by omega) (by omega), b1]
  · rw [k2 _ _ (by omega) (by omega) (by omega) (by omega), b2]
  · rw [s3 _ _ (by omega), p7]
  · rw [s3 _ _ (by omega), p5]
  · rw [s3 _ _ (by omega), p3]; rfl
  · rw [s3 _ _ (by omega), p4]; rfl
  · rw [s3 _ _ (by omega), p8 j hj]; rfl
  · rw [k2 _ _ (by omega) (by omega) (by omega) (by omega), b3]
  · rw [k2 _ _ (by omega) (by omega) (by omega) (by omega), b4]
  · rw [k2 _ _ (by omega) (by omega) (by omega) (by omega), b5]
  · rw [k2 _ _ (by omega) (by omega) (by omega) (by omega), hnL]
  · rw [s3 _ _ (by omega), p6]
  · simp only [rSK, decide_eq_false_iff_not] at hS
    exact k2 i j (by omega) (by omega) (by omega) (by omega)
/-- hours of a calendar -/
theorem rv_hours (hd : 6 ≤ d) (hc : eLok T c nL) (h2 : 2 ≤ D) (h9 : D ≤ 9) {hn : Nat} (hn60 : hn ≤ 60) (hE : rG T c f nL D (e0 c) C) :
    ∃ F, xM d 209 [mR, .inl (hn : Int)] C = some (0, F) ∧ rG T c f nL D (eRun c f D nL hn (e0 c)) F ∧ xSm rSM C F := by
  obtain ⟨d, rfl⟩ := Nat.exists_eq_add_of_le' (show 1 ≤ d by omega)
  obtain ⟨d, rfl⟩ := Nat.exists_eq_add_of_le' (show 1 ≤ d by omega)
  rw [xm_X12_goHours]
  have key : ∀ (m i : Nat) (E : xC), i + m = hn → rG T c f nL D (eRun c f D nL i (e0 c)) E → ∃ F, xw_X12_goHours (d + 1) (2, [some mR, some (.inl (hn : Int)), some (.inl (i : Int))], [], E) = some (0, F) ∧ rG T c f nL D (eRun c f D nL hn (e0 c)) F ∧ xSm rSM E F := by
    intro m
    induction m with
    | zero =>
      intro i E hi hE
      have hi : i = hn := hi
      subst hi
      refine ⟨E, ?_, hE, xSm_refl⟩
      rw [xl_X12_goHours_2]
      simp only [Bool.cond_decide]
      rw [if_pos (Int.le_refl _)]
    | succ m ih =>
      intro i E hi hE
      have hlt : ¬ ((hn : Int) ≤ (i : Int)) := by omega
      have ws : w32 ((i : Int) + 1) = ((i + 1 : Nat) : Int) := w32_s (by omega)
      obtain ⟨F1, k1, k2, k3⟩ := rv_laws (d := d) (by omega) hc nL 0 _ E (by omega) hE
      have kt : xM (d + 1) 206 [mR] E = some (0, F1) := by
        rw [xm_X12_doLaws]
        exact k1
      have ht1 : eTok D (eLaws c f 0 nL (eRun c f D nL i (e0 c))) := by
        unfold eTok
        rw [eLaws_2]
        exact eRun_ok (f := f) hc h2 i
      obtain ⟨F2, p1, p2, p3⟩ := rv_tick (d := d + 1) (by omega) hc h2 h9 ht1 k2
      obtain ⟨F, g1, g2, g3⟩ := ih (i + 1) F2 (by clear ws; omega) p2
      refine ⟨F, ?_, g2, xSm_trans k3 (xSm_trans p3 g3)⟩
      rw [xl_X12_goHours_2, kt, ws]
      simp only [Option.bind_some, Bool.cond_decide]
      rw [if_neg hlt, p1]
      simp only [Option.bind_some]
      exact g1
  exact key hn 0 C (by omega) hE
/-- the most of a thing's row -/
theorem rv_full {j : Nat} (h100 : C 74 100 = 121) (hj : j < 6) : xM (d + 1) 266 [mR, .inl (j : Int)] C = some (eTop (fun v => C 121 (1000 * j + v)) 1000, C) := by
  rw [xm_X12_fullest]
  have key : ∀ m v : Nat, v + m = 1000 → xw_X12_fullest d (4, [some mR, some (.inl (j : Int)), some (.inl (eTop (fun v => C 121 (1000 * j + v)) v)), some (.inl (v : Int))], [], C) = some (eTop (fun v => C 121 (1000 * j + v)) 1000, C) := by
    intro m
    induction m with
    | zero =>
      intro v hv
      have hv : v = 1000 := hv
      subst hv
      rw [xl_X12_fullest_4]
      simp only [Bool.cond_decide]
      rw [if_pos (by decide)]
    | succ m ih =>
      intro v hv
      have x60 : xix ((1000 * j + v : Nat) : Int) 6000 = true := xixn (by omega)
      have hlt : ¬ ((1000 : Int) ≤ (v : Int)) := by omega
      have ws : w32 ((v : Int) + 1) = ((v + 1 : Nat) : Int) := w32_s (by omega)
      have w1 : w32 (w32 (1000 * (j : Int)) + (v : Int)) = ((1000 * j + v : Nat) : Int) := by
        clear ws
        rw [w32_id (z := 1000 * (j : Int)) (by omega) (by omega), w32_id (by omega) (by omega)]
        omega
      have nx := ih (v + 1) (by clear ws w1; omega)
      have e5 : (C 74 100).toNat = 121 := by rw [h100]; rfl
      rw [xl_X12_fullest_4, e5, w1, x60, Int.toNat_natCast, ws]
      simp only [Bool.cond_decide, cond_true]
      rw [if_neg hlt]
      have et : eTop (fun v => C 121 (1000 * j + v)) (v + 1) = max (eTop (fun v => C 121 (1000 * j + v)) v) (C 121 (1000 * j + v)) := rfl
      rw [et] at nx
      clear et ws w1 e5
      generalize eTop (fun v => C 121 (1000 * j + v)) v = a at nx ⊢
      by_cases hq : C 121 (1000 * j + v) ≤ a
      · rw [Int.max_eq_left hq] at nx
        rw [if_pos hq]
        exact nx
      · rw [Int.max_eq_right (by omega)] at nx
        rw [if_neg hq]
        exact nx
  exact key 1000 0 rfl
/-- what the rows hold of the first calendars -/
def rTal (T : Nat) (c : tC) (D : Int) (nL : Nat) (K : eK) (k : Int) (hn n : Nat) (C : xC) : Prop := ∀ i v, i < T → v < 1000 → C 121 (1000 * i + v) = (eTal c D nL K k hn i (v : Int) n : Int)
/-- the things of one calendar are counted -/
theorem rv_counted {hn n N : Nat} (hN : N ≤ 20000) (hnN : n < N) (hT6 : T ≤ 6) (hyes : eFits c (eLay D nL (n : Int)) D nL K k = true) (hbd : ∀ j, j < T → 0 ≤ eSee c D nL hn j n ∧ eSee c D nL hn j n ≤ 999) {l4 : Int} : ∀ (m j : Nat) (E : xC), j + m = T → rAP T c nL D K E → E 74 62 = 101 → (∀ i, i < T → E 101 i = eSee c D nL hn i n) → (∀ i v, i < T → v < 1000 → E 121 (1000 * i + v) = (if i < j then (eTal c D nL K k hn i (v : Int) (n + 1) : Int) else (eTal c D nL K k hn i (v : Int) n : Int))) →
    ∃ F, xw_X12_ask d (112, [some mR, some (.inl h), some (.inl w), some (.inl k), some (.inl l4), some (.inl (n : Int)), some (.inl (j : Int))], [], E) = xw_X12_ask d (69, [some mR, some (.inl h), some (.inl w), some (.inl k), some (.inl l4), some (.inl ((n + 1 : Nat) : Int)), some (.inl (T : Int))], [], F) ∧ rAP T c nL D K F ∧ rTal T c D nL K k hn (n + 1) F := by
  intro m
  induction m with
  | zero =>
    intro j E hj hA h62 hs ht
    have hj : j = T := hj
    subst hj
    have ws : w32 ((n : Int) + 1) = ((n + 1 : Nat) : Int) := w32_s (by omega)
    refine ⟨E, ?_, hA, fun i v hi hv => ?_⟩
    · rw [xl_X12_ask_112, hA.2.2.1, ws]
      simp only [Bool.cond_decide]
      rw [if_pos (Int.le_refl _)]
    · rw [ht i v hi hv, if_pos hi]
  | succ m ih =>
    intro j E hj hA h62 hs ht
    obtain ⟨s1, s2⟩ := hbd j (by omega)
    have hlt : ¬ ((T : Int) ≤ (j : Int)) := by omega
    have x6 : xix (j : Int) 6 = true := xixn (by omega)
    obtain ⟨s, hsl⟩ : ∃ s : Nat, eSee c D nL hn j n = (s : Int) := ⟨(eSee c D nL hn j n).toNat, by omega⟩
    have s999 : s < 1000 := by omega
    have x60 : xix ((1000 * j + s : Nat) : Int) 6000 = true := xixn (by omega)
    have hv0 : E 121 (1000 * j + s) = (eTal c D nL K k hn j (s : Int) n : Int) := by
      rw [ht j s (by omega) s999, if_neg (Nat.lt_irrefl _)]
    have hle : eTal c D nL K k hn j (s : Int) n ≤ n := eTal_le
    have ws : w32 ((j : Int) + 1) = ((j + 1 : Nat) : Int) := by clear hv0; exact w32_s (by omega)
    have w2 : w32 ((eTal c D nL K k hn j (s : Int) n : Int) + 1) = (eTal c D nL K k hn j (s : Int) n : Int) + 1 := by clear hv0 ws; exact w32_id (by omega) (by omega)
    have w1 : w32 (w32 (1000 * (j : Int)) + (s : Int)) = ((1000 * j + s : Nat) : Int) := by
      clear hv0 ws w2
      rw [w32_id (z := 1000 * (j : Int)) (by omega) (by omega), w32_id (by omega) (by omega)]
      omega
    have e62 : (E 74 62).toNat = 101 := by rw [h62]; rfl
    have e100 : (E 74 100).toNat = 121 := by rw [hA.2.2.2]; rfl
    have e101 : E 101 j = (s : Int) := by rw [hs j (by omega), hsl]
    have stp : xw_X12_ask d (112, [some mR, some (.inl h), some (.inl w), some (.inl k), some (.inl l4), some (.inl (n : Int)), some (.inl (j : Int))], [], E) = xw_X12_ask d (112, [some mR, some (.inl h), some (.inl w), some (.inl k), some (.inl l4), some (.inl (n : Int)), some (.inl ((j + 1 : Nat) : Int))], [], xst E 121 (1000 * j + s) ((eTal c D nL K k hn j (s : Int) n : Int) + 1)) := by
      rw [xl_X12_ask_112, hA.2.2.1, x6, e62, e100, Int.toNat_natCast, e101, w1, x60, Int.toNat_natCast, hv0, w2, ws]
      simp only [Bool.cond_decide, cond_true, xna, Bool.and_true]
      rw [if_neg hlt]
    clear ws w2 w1 e62 e100
    obtain ⟨F, g1, g2, g3⟩ := ih (j + 1) (xst E 121 (1000 * j + s) ((eTal c D nL K k hn j (s : Int) n : Int) + 1)) (by omega) (rAP_same hA fun i i' q1 q2 q3 q4 q5 => xst_nn (by omega)) (by rw [xst_nn (by omega), h62]) (fun i hi => by rw [xst_nn (by omega), hs i hi]) (fun i v hi hv => by
      have ht := ht i v hi hv
      by_cases hij : i = j
      · subst hij
        have hstep : (eTal c D nL K k hn i (v : Int) (n + 1) : Int) = (eTal c D nL K k hn i (v : Int) n : Int) + (if eSee c D nL hn i n = (v : Int) then 1 else 0) := by
          show ((eTal c D nL K k hn i (v : Int) n + (if (eFits c (eLay D nL (n : Int)) D nL K k && decide (eSee c D nL hn i n = (v : Int))) = true then 1 else 0) : Nat) : Int) = _
          rw [hyes, Bool.true_and]
          by_cases hv2 : eSee c D nL hn i n = (v : Int)
          · rw [if_pos hv2, if_pos (decide_eq_true hv2), Int.natCast_add]; rfl
          · rw [if_neg hv2, if_neg (by rw [decide_eq_false hv2]; decide), Nat.add_zero, Int.add_zero]
        rw [if_pos (Nat.lt_succ_self i), hstep]
        by_cases hvs : v = s
        · subst hvs
          rw [xst_at, if_pos hsl]
        · rw [xst_nn (by omega), ht, if_neg (Nat.lt_irrefl _), if_neg (by rw [hsl]; omega), Int.add_zero]
      · rw [xst_nn (by omega), ht]
        by_cases hlj : i < j
        · rw [if_pos hlj, if_pos (by omega)]
        · rw [if_neg hlj, if_neg (by omega)])
    exact ⟨F, stp.trans g1, g2, g3⟩
/-- the thing that leaves the fewest at most, as the reference finds it -/
theorem rv_best {hn N : Nat} (hd : 1 ≤ d) (hT0 : 0 < T) (hT6 : T ≤ 6) {l4 : Int} (hA : rAP T c nL D K C) (hTl : rTal T c D nL K k hn N C) (hN : N = (eCal D nL).toNat) : ∀ m n : Nat, n + 1 + m = T →
    xw_X12_ask d (169, [some mR, some (.inl h), some (.inl w), some (.inl k), some (.inl l4), some (.inl (eBst (eFul c D nL K k hn) n : Int)), some (.inl ((n + 1 : Nat) : Int))], [], C) = some (if w = 0 then (eBst (eFul c D nL K k hn) (T - 1) : Int) else eFul c D nL K k hn (eBst (eFul c D nL K k hn) (T - 1)), C) := by
  obtain ⟨d, rfl⟩ := Nat.exists_eq_add_of_le' hd
  have tops : ∀ j, j < T → xM (d + 1) 266 [mR, .inl (j : Int)] C = some (eFul c D nL K k hn j, C) := fun j hj => by
    rw [rv_full (d := d) hA.2.2.2 (show j < 6 by omega)]
    have e : ∀ v, v ≤ 1000 → eTop (fun v => C 121 (1000 * j + v)) v = eTop (fun v => (eTal c D nL K k hn j (v : Int) N : Int)) v := by
      intro v
      induction v with
      | zero => exact fun _ => rfl
      | succ v ih =>
        intro hv
        show max (eTop (fun v => C 121 (1000 * j + v)) v) (C 121 (1000 * j + v)) = max (eTop (fun v => (eTal c D nL K k hn j (v : Int) N : Int)) v) ((eTal c D nL K k hn j (v : Int) N : Int))
        rw [ih (by omega), hTl j v hj (by omega)]
    rw [e 1000 (Nat.le_refl _), hN]
    rfl
  intro m
  induction m with
  | zero =>
    intro n hn1
    have e : T - 1 = n := by omega
    have hge : (T : Int) ≤ ((n + 1 : Nat) : Int) := by omega
    have hb := eBst_le (g := eFul c D nL K k hn) n
    have m2 := tops (eBst (eFul c D nL K k hn) n) (by omega)
    rw [xl_X12_ask_169, hA.2.2.1, e, m2]
    simp only [Bool.cond_decide, Option.bind_some]
    rw [if_pos hge]
    by_cases hw : w = 0
    · rw [if_neg (show ¬ (w ≠ 0) from fun q => q hw), if_pos hw]
    · rw [if_pos (show w ≠ 0 from hw), if_neg hw]
  | succ m ih =>
    intro n hn1
    have hb := eBst_le (g := eFul c D nL K k hn) n
    have hlt : ¬ ((T : Int) ≤ ((n + 1 : Nat) : Int)) := by omega
    have m1 := tops (n + 1) (by omega)
    have m2 := tops (eBst (eFul c D nL K k hn) n) (by omega)
    have ws : w32 (((n + 1 : Nat) : Int) + 1) = ((n + 1 + 1 : Nat) : Int) := w32_s (by omega)
    have nx := ih (n + 1) (by clear ws; omega)
    rw [xl_X12_ask_169, hA.2.2.1, m1, ws]
    simp only [Option.bind_some]
    rw [m2]
    simp only [Option.bind_some, Bool.cond_decide]
    rw [if_neg hlt]
    by_cases hl : eFul c D nL K k hn (n + 1) < eFul c D nL K k hn (eBst (eFul c D nL K k hn) n)
    · have e1 : eBst (eFul c D nL K k hn) (n + 1) = n + 1 := if_pos hl
      rw [e1] at nx
      rw [if_neg (Int.not_le.mpr hl)]
      exact nx
    · have e1 : eBst (eFul c D nL K k hn) (n + 1) = eBst (eFul c D nL K k hn) n := if_neg hl
      rw [e1] at nx
      rw [if_pos (Int.not_lt.mp hl)]
      exact nx
/-- the reference's question -/
theorem rv_question (hd : 9 ≤ d) (hc : eLok T c nL) (hT6 : T ≤ 6) (h2 : 2 ≤ D) (h9 : D ≤ 9) (hK : kOk T K) (hA : rAP T c nL D K C) (hB : ∀ j, j < T → 0 ≤ eN c 87 j ∧ eN c 87 j ≤ 999) : ∃ F, xM d 267 [mR, .inl h, .inl w, .inl k] C = some (eAsk c D nL T K k h w, F) := by
  obtain ⟨d, rfl⟩ := Nat.exists_eq_add_of_le' (show 1 ≤ d by omega)
  have h5 := hc.1
  obtain ⟨n1, n2⟩ := eCal_le (k := nL) h2 h9 h5
  have hcal : ∀ E : xC, E 74 54 = D → E 74 50 = (nL : Int) → xM d 250 [mR] E = some (if eCal D nL ≤ 20000 then eCal D nL else -1, E) := fun E e1 e2 => rv_calendars (d := d) (by omega) h2 h9 h5 e1 e2
  obtain ⟨e, rfl⟩ := Nat.exists_eq_add_of_le' (show 2 ≤ d by omega)
  have i1 : xM (e + 2) 196 [.inl h, .inl 0, .inl 60] C = some (if 0 ≤ h ∧ h ≤ 60 then 1 else 0, C) := lk_isIn h 0 60
  have i2 : xM (e + 2) 196 [.inl w, .inl 0, .inl 1] C = some (if 0 ≤ w ∧ w ≤ 1 then 1 else 0, C) := lk_isIn w 0 1
  unfold eAsk
  rw [xm_X12_ask, i1]
  simp only [Option.bind_some, Bool.cond_decide]
  by_cases h1 : 0 ≤ h ∧ h ≤ 60
  · rw [if_pos h1, if_neg (show ¬ ((1 : Int) = 0) by decide), i2]
    simp only [Option.bind_some]
    by_cases h3 : 0 ≤ w ∧ w ≤ 1
    · rw [if_pos h3, if_neg (show ¬ ((1 : Int) = 0) by decide), hA.2.2.1]
      by_cases hz : T = 0
      · rw [if_neg (show ¬ ((T : Int) ≠ 0) by omega), if_neg (show ¬ (0 ≤ h ∧ h ≤ 60 ∧ 0 ≤ w ∧ w ≤ 1 ∧ 0 < T) from fun q => absurd hz (Nat.ne_of_gt q.2.2.2.2))]; exact ⟨_, rfl⟩
      rw [if_pos (show (T : Int) ≠ 0 by omega), if_pos (show 0 ≤ h ∧ h ≤ 60 ∧ 0 ≤ w ∧ w ≤ 1 ∧ 0 < T by omega), hcal C hA.1.2.2.2.1 hA.1.2.2.1]
      simp only [Option.bind_some]
      by_cases hbig : eCal D nL ≤ 20000
      · have nb : ¬ (20000 < eCal D nL) := by omega
        have n0 : 0 ≤ eCal D nL := by omega
        rw [if_pos hbig, if_pos n0, if_neg nb]
        obtain ⟨N, hN⟩ : ∃ N : Nat, eCal D nL = (N : Int) := ⟨(eCal D nL).toNat, by omega⟩
        have hNt : N = (eCal D nL).toNat := by rw [hN, Int.toNat_natCast]
        have hN2 : N ≤ 20000 := by omega
        obtain ⟨hn, rfl⟩ : ∃ hn : Nat, h = (hn : Int) := ⟨h.toNat, by omega⟩
        rw [Int.toNat_natCast, ← hNt]
        have hn60 : hn ≤ 60 := by omega
        have hT0 : 0 < T := Nat.pos_of_ne_zero hz
        have key2 : ∀ (m n : Nat) (E : xC) (o6 : Option xV), n + m = N → rAP T c nL D K E → rTal T c D nL K k hn n E → ∃ F, xw_X12_ask (e + 2) (69, [some mR, some (.inl (hn : Int)), some (.inl w), some (.inl k), some (.inl ((eNum (fun n => eFits c (eLay D nL (n : Int)) D nL K k) n : Nat) : Int)), some (.inl (n : Int)), o6], [], E) = some (if eNum (fun n => eFits c (eLay D nL (n : Int)) D nL K k) N = 0 then -1 else if w = 0 then (eBst (eFul c D nL K k hn) (T - 1) : Int) else eFul c D nL K k hn (eBst (eFul c D nL K k hn) (T - 1)), F) := by
          intro m
          induction m with
          | zero =>
            intro n E o6 hnn hE hTl
            have hnn : n = N := hnn
            refine ⟨E, ?_⟩
            rw [xl_X12_ask_69, hcal E hE.1.2.2.2.1 hE.1.2.2.1, if_pos hbig, hN]
            simp only [Option.bind_some, Bool.cond_decide]
            rw [hnn, if_pos (Int.le_refl _)]
            rw [hnn] at hTl
            by_cases hz2 : eNum (fun n => eFits c (eLay D nL (n : Int)) D nL K k) N = 0
            · rw [hz2, if_neg (show ¬ (((0 : Nat) : Int) ≠ 0) from fun q => q rfl), if_pos rfl]
            · rw [if_pos (show ((eNum (fun n => eFits c (eLay D nL (n : Int)) D nL K k) N : Nat) : Int) ≠ 0 by omega), if_neg hz2]
              exact rv_best (d := e + 2) (h := (hn : Int)) (by omega) hT0 hT6 hE hTl hNt (T - 1) 0 (by omega)
          | succ m ih =>
            intro n E o6 hnn hE hTl
            have hnN : ¬ ((N : Int) ≤ (n : Int)) := by omega
            have hle := eNum_le (p := fun n => eFits c (eLay D nL (n : Int)) D nL K k) n
            have ws : w32 ((n : Int) + 1) = ((n + 1 : Nat) : Int) := w32_s (by omega)
            have ws2 : w32 (((eNum (fun n => eFits c (eLay D nL (n : Int)) D nL K k) n : Nat) : Int) + 1) = ((eNum (fun n => eFits c (eLay D nL (n : Int)) D nL K k) n + 1 : Nat) : Int) := by clear ws; exact w32_s (by omega)
            obtain ⟨F1, p1, p2, -⟩ := rv_fits (d := e + 2) (k := k) (by omega) hc hT6 h2 h9 hK hE.1 hE.2.1 (n := n) (by clear ws ws2; omega)
            have hA1 : rAP T c nL D K F1 := rAP_same hE fun i j q1 q2 q3 q4 q5 => rSK_keep p2 ⟨q1, q2, q3, q5⟩
            have hT1 : rTal T c D nL K k hn n F1 := fun i v hi hv => by rw [rSK_keep p2 ⟨by decide, by decide, by decide, fun q => absurd q.1 (by decide)⟩, hTl i v hi hv]
            rw [xl_X12_ask_69, hcal E hE.1.2.2.2.1 hE.1.2.2.1, if_pos hbig, hN]
            simp only [Option.bind_some, Bool.cond_decide]
            rw [if_neg hnN, p1]
            simp only [Option.bind_some]
            rw [ws, ws2]
            clear ws ws2
            by_cases hf : eFits c (eLay D nL (n : Int)) D nL K k = true
            · rw [if_pos hf, if_pos (show (1 : Int) ≠ 0 by decide)]
              obtain ⟨F2, F3, s1, s2, s3, s4⟩ := rv_setup (d := e + 2) (n := n) (by omega) hc hT6 h2 h9 hA1.1 (by omega)
              obtain ⟨F4, t1, t2, t3⟩ := rv_hours (d := e + 2) (by omega) hc h2 h9 hn60 s3
              rw [s1]
              simp only [Option.bind_some]
              rw [s2]
              simp only [Option.bind_some]
              rw [t1]
              simp only [Option.bind_some]
              have k4 : ∀ i j, i ≠ 86 → i ≠ 101 → i ≠ 102 → ¬ (i = 74 ∧ 64 ≤ j ∧ j ≤ 68) → F4 i j = F1 i j := fun i j q1 q2 q3 q4 => by rw [rSM_keep t3 ⟨q1, q2, fun q => q4 ⟨q.1, by omega, by omega⟩⟩, rSK_keep s4 ⟨q1, q2, q3, q4⟩]
              have hA4 : rAP T c nL D K F4 := rAP_same hA1 fun i j q1 q2 q3 _ q5 => k4 i j q1 q2 q3 q5
              have hnum : eNum (fun n => eFits c (eLay D nL (n : Int)) D nL K k) n + 1 = eNum (fun n => eFits c (eLay D nL (n : Int)) D nL K k) (n + 1) := by
                show _ = eNum (fun n => eFits c (eLay D nL (n : Int)) D nL K k) n + (if eFits c (eLay D nL (n : Int)) D nL K k = true then 1 else 0)
                rw [if_pos hf]
              rw [hnum]
              obtain ⟨F5, g1, g2, g3⟩ := rv_counted (d := e + 2) (h := (hn : Int)) (w := w) (l4 := ((eNum (fun n => eFits c (eLay D nL (n : Int)) D nL K k) (n + 1) : Nat) : Int)) hN2 (show n < N by omega) hT6 hf (fun j hj => eSee_bd hc hB hn n j hj) T 0 F4 (by omega) hA4 hA4.1.1.2.1 (fun i hi => t2.1.2.2.2.2.1 i hi) (fun i v hi hv => by
                rw [if_neg (Nat.not_lt_zero i), k4 _ _ (by decide) (by decide) (by decide) (fun q => absurd q.1 (by decide)), hT1 i v hi hv])
              obtain ⟨F, g⟩ := ih (n + 1) F5 (some (.inl (T : Int))) (by omega) g2 g3
              exact ⟨F, g1.trans g⟩
            · rw [if_neg hf, if_neg (show ¬ ((0 : Int) ≠ 0) from fun q => q rfl)]
              have hnum : eNum (fun n => eFits c (eLay D nL (n : Int)) D nL K k) n = eNum (fun n => eFits c (eLay D nL (n : Int)) D nL K k) (n + 1) := by
                show _ = eNum (fun n => eFits c (eLay D nL (n : Int)) D nL K k) n + (if eFits c (eLay D nL (n : Int)) D nL K k = true then 1 else 0)
                rw [if_neg hf, Nat.add_zero]
              rw [hnum]
              refine ih (n + 1) F1 o6 (by omega) hA1 fun i v hi hv => ?_
              rw [hT1 i v hi hv]
              show (eTal c D nL K k hn i (v : Int) n : Int) = ((eTal c D nL K k hn i (v : Int) n + (if (eFits c (eLay D nL (n : Int)) D nL K k && decide (eSee c D nL hn i n = (v : Int))) = true then 1 else 0) : Nat) : Int)
              rw [show eFits c (eLay D nL (n : Int)) D nL K k = false by simpa using hf, Bool.false_and, if_neg (by decide), Nat.add_zero]
        have key1 : ∀ (m l : Nat) (E : xC), l + m = 6000 → rAP T c nL D K E → (∀ j, j < l → E 121 j = 0) → ∃ F, xw_X12_ask (e + 2) (41, [some mR, some (.inl (hn : Int)), some (.inl w), some (.inl k), some (.inl (l : Int)), none, none], [], E) = some (if eNum (fun n => eFits c (eLay D nL (n : Int)) D nL K k) N = 0 then -1 else if w = 0 then (eBst (eFul c D nL K k hn) (T - 1) : Int) else eFul c D nL K k hn (eBst (eFul c D nL K k hn) (T - 1)), F) := by
          intro m
          induction m with
          | zero =>
            intro l E hl hE h0
            have hl : l = 6000 := hl
            rw [xl_X12_ask_41]
            simp only [Bool.cond_decide]
            rw [if_pos (show (6000 : Int) ≤ (l : Int) by omega)]
            exact key2 N 0 E none (by omega) hE fun i v hi hv => (h0 _ (by omega)).trans rfl
          | succ m ih =>
            intro l E hl hE h0
            have hlt : ¬ ((6000 : Int) ≤ (l : Int)) := by omega
            have x60 : xix (l : Int) 6000 = true := xixn (by omega)
            have ws : w32 ((l : Int) + 1) = ((l + 1 : Nat) : Int) := w32_s (by omega)
            have e100 : (E 74 100).toNat = 121 := by rw [hE.2.2.2]; rfl
            rw [xl_X12_ask_41, x60, e100, Int.toNat_natCast, ws]
            simp only [Bool.cond_decide, cond_true, xna, Bool.and_true]
            rw [if_neg hlt]
            clear ws e100
            refine ih (l + 1) _ (by omega) (rAP_same hE fun i i' q1 q2 q3 q4 q5 => xst_nn (by omega)) (fun j hj => ?_)
            by_cases hjl : j = l
            · rw [hjl, xst_at]
            · rw [xst_nn (by omega), h0 j (by omega)]
        exact key1 6000 0 C (by omega) hA fun j hj => absurd hj (Nat.not_lt_zero j)
      · have nb : 20000 < eCal D nL := by omega
        rw [if_neg hbig, if_neg (show ¬ ((0 : Int) ≤ -1) by decide), if_pos nb]
        exact ⟨_, rfl⟩
    · rw [if_neg h3, if_pos rfl, if_neg (show ¬ (0 ≤ h ∧ h ≤ 60 ∧ 0 ≤ w ∧ w ≤ 1 ∧ 0 < T) from fun q => h3 ⟨q.2.2.1, q.2.2.2.1⟩)]
      exact ⟨_, rfl⟩
  · rw [if_neg h1, if_pos rfl, if_neg (show ¬ (0 ≤ h ∧ h ≤ 60 ∧ 0 ≤ w ∧ w ≤ 1 ∧ 0 < T) from fun q => h1 ⟨q.1, q.2.1⟩)]
    exact ⟨_, rfl⟩
end rAsk
