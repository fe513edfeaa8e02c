/-! On which days a law rests: the class, the reference. -/
section cRests
variable {T d r : Nat} {C F : xC} {c : tC} {nL : Nat} {D : Int} {K : eK} {k law : Int}
theorem cv_has {s n : Nat} (hs : s < 5) (h4 : C r 4 = ((r + 1 : Nat) : Int)) (hn : C (r + 1) s = (n : Int)) : xM (d + 1) 19 [.inr (.inr (.inl (r, 2))), .inl (s : Int), .inl law] C = some (if 0 ≤ law ∧ law < n then 1 else 0, C) := by
  have e4 : (C r 4).toNat = r + 1 := by rw [h4]; exact Int.toNat_natCast _
  have x5 : xix (s : Int) 5 = true := xixn hs
  rw [xm_X3_has, x5, e4, Int.toNat_natCast, hn, cond_true, Bool.cond_decide, Bool.cond_decide]
  by_cases h1 : law < 0
  · rw [if_pos h1, if_neg (by omega)]
  rw [if_neg h1]
  by_cases h2 : (n : Int) ≤ law
  · rw [if_pos h2, if_neg (by omega)]
  · rw [if_neg h2, if_pos (by omega)]
/-- the class's rest days -/
theorem cv_rests (hd : 8 ≤ d) (hc : eLok T c nL) (hT6 : T ≤ 6) (h2 : 2 ≤ D) (h9 : D ≤ 9) (hK : kOk T K) (hL : cLand T r c nL D C) (hx : C 0 17 = 65 ∧ C 0 3 = (r : Int)) (hF : cFx C) (hm : C 70 5 = 71 ∧ C 70 6 = 72) (hk : cLk K C) : ∃ F, xM d 144 [.inr (.inr (.inl (0, 0))), .inl law, .inl k] C = some (eRst c D nL K k law, F) := by
  obtain ⟨d, rfl⟩ := Nat.exists_eq_add_of_le' (show 1 ≤ d by omega)
  have h5 := hc.1
  have e17 : (C 0 17).toNat = 65 := by rw [hx.1]; rfl
  have e3 : (C 0 3).toNat = r := by rw [hx.2]; exact Int.toNat_natCast _
  obtain ⟨F, f1, f2, f3, f4⟩ := cv_siftA (d := d) (k := k) (by omega) hc hT6 h2 h9 hK hL hF hm hk
  obtain ⟨d', rfl⟩ := Nat.exists_eq_add_of_le' (show 1 ≤ d by omega)
  have hh := cv_has (d := d') (law := law) (s := 1) (n := nL) (by decide) (hL.2.1 0 (by decide)) hL.2.2.2.1
  have hh : xM (d' + 1) 19 [.inr (.inr (.inl (r, 2))), .inl 1, .inl law] C = some (if 0 ≤ law ∧ law < nL then 1 else 0, C) := hh
  unfold eRst
  rw [xm_X11_rests, e3, hh, Option.bind_some]
  dsimp only
  by_cases hl : 0 ≤ law ∧ law < nL
  · rw [if_pos hl, if_pos hl, decide_eq_true (show (1 : Int) ≠ 0 by decide), cond_true, e17, e3, f1, Option.bind_some]
    dsimp only
    have q17 : (F 0 17).toNat = 65 := by rw [f4, hx.1]; rfl
    have q6 : (F 65 6).toNat = 69 := by rw [f3.1.2.2.2.2]; rfl
    have x5 : xix law 5 = true := xixz.mpr ⟨by omega, by omega⟩
    unfold eFit
    by_cases hb : 20000 < eCal D nL
    · rw [if_pos hb, if_pos hb, decide_eq_false (show ¬ ((-2 : Int) ≠ -2) from fun q => q rfl), cond_false]
      exact ⟨_, rfl⟩
    · rw [if_neg hb, if_neg hb, decide_eq_true (by omega), cond_true, x5, cond_true, q17, q6, f2 (by omega) law.toNat (by omega)]
      exact ⟨_, rfl⟩
  · rw [if_neg hl, if_neg hl, decide_eq_false (show ¬ ((0 : Int) ≠ 0) from fun q => q rfl), cond_false]
    exact ⟨_, rfl⟩
/-- the reference's -/
theorem rv_isLaw (h50 : C 74 50 = (nL : Int)) (h5 : nL ≤ 5) : xM (d + 2) 198 [mR, .inl law] C = some (if 0 ≤ law ∧ law < nL then 1 else 0, C) := by
  rw [xm_X12_isLaw, lk_isIn, h50, w32_id (by omega) (by omega), Option.bind_some]
  dsimp only
  by_cases h : 0 ≤ law ∧ law ≤ (nL : Int) - 1
  · rw [if_pos h, if_pos (by omega)]; rfl
  · rw [if_neg h, if_neg (by omega)]; rfl
theorem eOr_32 {p : Nat → Bool} {f : Nat → Int} : ∀ n, ∃ y : Int32, eOr p f n = y.toInt := by
  intro n
  induction n with
  | zero => exact ⟨0, rfl⟩
  | succ n ih =>
    by_cases h : p n = true
    · exact ⟨_, if_pos h⟩
    · obtain ⟨y, hy⟩ := ih
      exact ⟨y, (if_neg h).trans hy⟩
theorem eOr_or0 {p : Nat → Bool} {f : Nat → Int} {n : Nat} : x32 (· ||| ·) (eOr p f n) 0 = eOr p f n := by
  obtain ⟨y, hy⟩ := eOr_32 (p := p) (f := f) n
  have h := x32_op (· ||| ·) y 0
  have e0 : (0 : Int32).toInt = 0 := rfl
  rw [e0] at h
  rw [hy, ← h]
  simp
theorem rv_rests (hd : 9 ≤ d) (hc : eLok T c nL) (hT6 : T ≤ 6) (h2 : 2 ≤ D) (h9 : D ≤ 9) (hK : kOk T K) (hL : rLand T c nL D C) (hk : rLk K C) : ∃ F, xM d 265 [mR, .inl law, .inl k] C = some (eRst c D nL K k law, F) := by
  obtain ⟨d, rfl⟩ := Nat.exists_eq_add_of_le' (show 1 ≤ d by omega)
  have h5 := hc.1
  obtain ⟨n1, n2⟩ := eCal_le (k := nL) h2 h9 h5
  have hcal : ∀ E : xC, E 74 54 = D → E 74 50 = (nL : Int) → xM d 250 [mR] E = some (if eCal D nL ≤ 20000 then eCal D nL else -1, E) := fun E e1 e2 => rv_calendars (d := d) (by omega) h2 h9 h5 e1 e2
  obtain ⟨e, rfl⟩ := Nat.exists_eq_add_of_le' (show 2 ≤ d by omega)
  unfold eRst
  rw [xm_X12_rests, rv_isLaw (d := e) hL.2.2.1 h5, Option.bind_some]
  dsimp only
  by_cases hl : 0 ≤ law ∧ law < nL
  · rw [if_pos hl, if_pos hl, decide_eq_true (show (1 : Int) ≠ 0 by decide), cond_true, hcal C hL.2.2.2.1 hL.2.2.1, Option.bind_some]
    dsimp only
    by_cases hbig : eCal D nL ≤ 20000
    · rw [if_pos hbig, decide_eq_true (show 0 ≤ eCal D nL by omega), cond_true, if_neg (show ¬ (20000 < eCal D nL) by omega)]
      obtain ⟨N, hN⟩ : ∃ N : Nat, eCal D nL = (N : Int) := ⟨(eCal D nL).toNat, by omega⟩
      rw [hN, Int.toNat_natCast]
      obtain ⟨lw, rfl⟩ : ∃ lw : Nat, law = (lw : Int) := ⟨law.toNat, by omega⟩
      rw [Int.toNat_natCast]
      have x5 : xix (lw : Int) 5 = true := xixn (by omega)
      have key : ∀ (m n : Nat) (E : xC), n + m = N → rLand T c nL D E → rLk K E → ∃ F, xw_X12_rests (e + 2) (25, [some mR, some (.inl (lw : Int)), some (.inl k), some (.inl (eOr (fun n => eFits c (eLay D nL (n : Int)) D nL K k) (fun n => eLay D nL (n : Int) lw) n)), some (.inl (n : Int))], [], E) = some (eOr (fun n => eFits c (eLay D nL (n : Int)) D nL K k) (fun n => eLay D nL (n : Int) lw) N, F) := by
        intro m
        induction m with
        | zero =>
          intro n E hn hE hkE
          have hn : n = N := hn
          subst hn
          refine ⟨E, ?_⟩
          rw [xl_X12_rests_25, hcal E hE.2.2.2.1 hE.2.2.1, if_pos hbig, hN]
          simp only [Option.bind_some, Bool.cond_decide]
          rw [if_pos (Int.le_refl _)]
        | succ m ih =>
          intro n E hn hE hkE
          obtain ⟨F1, p1, p2, p3⟩ := rv_fits (d := e + 2) (k := k) (by omega) hc hT6 h2 h9 hK hE hkE (n := n) (by omega)
          have keep : ∀ i j, i ≠ 86 → i ≠ 101 → i ≠ 102 → ¬ (i = 74 ∧ 64 ≤ j ∧ j ≤ 68) → F1 i j = E i j := fun i j u1 u2 u3 u4 => p2 i j (by simp only [rSK, decide_eq_false_iff_not]; omega)
          have hE1 : rLand T c nL D F1 := rLand_same hE fun i j q => keep i j (by omega) (by omega) (by omega) (by omega)
          have hk1 : rLk K F1 := rLk_same hkE fun i j q => keep i j (by omega) (by omega) (by omega) (by omega)
          have h63 : (F1 74 63).toNat = 102 := by rw [hE1.1.2.2.1]; rfl
          rw [xl_X12_rests_25, hcal E hE.2.2.2.1 hE.2.2.1, if_pos hbig, hN]
          simp only [Option.bind_some, Bool.cond_decide]
          rw [if_neg (show ¬ ((N : Int) ≤ (n : Int)) by omega), p1]
          simp only [Option.bind_some]
          rw [w32_s (i := n) (by omega)]
          by_cases hf : eFits c (eLay D nL (n : Int)) D nL K k = true
          · rw [if_pos hf, if_neg (show ¬ ((1 : Int) = 0) by decide), x5, cond_true, h63, Int.toNat_natCast, p3 lw (by omega)]
            have e1 : x32 (· ||| ·) (eOr (fun n => eFits c (eLay D nL (n : Int)) D nL K k) (fun n => eLay D nL (n : Int) lw) n) (x32 (fun x y => x <<< (y &&& 31)) 1 (eLay D nL (n : Int) lw)) = eOr (fun n => eFits c (eLay D nL (n : Int)) D nL K k) (fun n => eLay D nL (n : Int) lw) (n + 1) := (if_pos hf).symm
            rw [e1]
            exact ih (n + 1) F1 (by omega) hE1 hk1
          · rw [if_neg hf, if_pos (show (0 : Int) = 0 from rfl), eOr_or0]
            have e1 : eOr (fun n => eFits c (eLay D nL (n : Int)) D nL K k) (fun n => eLay D nL (n : Int) lw) n = eOr (fun n => eFits c (eLay D nL (n : Int)) D nL K k) (fun n => eLay D nL (n : Int) lw) (n + 1) := (if_neg hf).symm
            rw [e1]
            exact ih (n + 1) F1 (by omega) hE1 hk1
      exact key N 0 C (by omega) hL hk
    · rw [if_neg hbig, decide_eq_false (show ¬ ((0 : Int) ≤ -1) by decide), cond_false, if_pos (show 20000 < eCal D nL by omega)]
      exact ⟨C, rfl⟩
  · rw [if_neg hl, if_neg hl, decide_eq_false (show ¬ ((0 : Int) ≠ 0) from fun q => q rfl), cond_false]
    exact ⟨C, rfl⟩
end cRests
