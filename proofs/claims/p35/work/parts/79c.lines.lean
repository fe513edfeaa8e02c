/-! The reference's lines. -/
section rBody
variable {g : Nat → Int} {N d i : Nat} {D D0 E : xC} {r : tX tZ} {z : tZ} {s : tS}
/-- what may change in a line, its counts too -/
def rSB (i j : Nat) : Bool := decide (rSE i j = true ∨ (i = 74 ∧ (42 ≤ j ∧ j ≤ 48 ∨ 56 ≤ j ∧ j ≤ 59)))
theorem rSB_E {i j : Nat} (h : rSB i j = false) : rSE i j = false := by
  simp only [rSB, decide_eq_false_iff_not] at h
  cases hh : rSE i j with
  | true => exact absurd (Or.inl hh) h
  | false => rfl
/-- the reference between two lines -/
def rSt (g : Nat → Int) (N : Nat) (s : tS) (D : xC) : Prop := rLS g N s.2.2.2.1 D ∧ rLp g N (s.1, s.2.1, 0, s.2.2.2.2.2) D ∧ rNms s.2.2.2.1 D ∧ D 74 3 = -1 ∧ D 74 47 = s.2.2.1 ∧ (0 ≤ s.2.2.1 ∧ s.2.2.1 ≤ 9) ∧ (s.2.2.2.2.1 0 = false → D 74 56 = 0) ∧ D 74 57 = (if s.2.2.2.2.1 0 = true then 1 else 0) ∧ D 74 58 = (if s.2.2.2.2.1 1 = true then 1 else 0) ∧ D 74 59 = (if s.2.2.2.2.1 2 = true then 1 else 0)
/-- what comes of a line ahead of its end -/
def rOB (g : Nat → Int) (N : Nat) (fl : Nat → Bool) (r : tX tB) (D : xC) : Prop := match r with
  | .error x => D 74 2 = x.1 ∧ D 74 3 = x.2 ∧ 0 < x.1
  | .ok q => rLS g N q.2.2.1 D ∧ rLp g N q.1 D ∧ rNms q.2.2.1 D ∧ D 74 3 = -1 ∧ D 74 47 = q.2.1 ∧ (0 ≤ q.2.1 ∧ q.2.1 ≤ 9) ∧ D 74 58 = (if tTell fl q.2.2.2 1 = true then 1 else 0) ∧ D 74 59 = (if tTell fl q.2.2.2 2 = true then 1 else 0)
theorem rl_week (hd : 5 ≤ d) (h : rSt g N s D) (hk : tkK g N s.1 = 0) :
    ∃ F, xM d 184 [mR] D = some (0, F) ∧ rOB g N s.2.2.2.2.1 (sWeek (tkK g N) (tkP g N) (tkV g N) s) F := by
  obtain ⟨d, rfl⟩ := Nat.exists_eq_add_of_le' (show 1 ≤ d by omega)
  obtain ⟨h0, h1, h2, h3, h4, h5, h6, h7, h8, h9⟩ := h
  have hS : rLS g N s.2.2.2.1 (xst D 74 56 1) := ⟨rTx_same (S := rSB) h0.1 (xSm_st xSm_refl rfl) rfl rfl (fun j => by simp [rSB, rSE, rS5, rS4, rS1]), rPt_same (S := rSB) h0.2.1 (xSm_st xSm_refl rfl) rfl, fun t ht => ⟨by rw [xst_nn (by omega)]; exact (h0.2.2 t ht).1, (h0.2.2 t ht).2⟩⟩
  have hO : rO g N s.2.2.2.1 (xst D 74 56 1) (.ok (s.1, s.2.1, 0, s.2.2.2.2.2)) (xst D 74 56 1) := by
    refine ⟨?_, rNms_same h2 (fun j => by rw [xst_nn (by omega)]), xSm_refl⟩
    obtain ⟨b1, b2, b3, b4, b5, b7⟩ := h1
    refine ⟨?_, by rw [xst_nn (by omega), b2], by rw [xst_nn (by omega), b3], b4, rE_same b5 (Nat.le_refl _) (fun i j q => by rw [xst_nn (by omega)]), b7⟩
    obtain ⟨a1, a2, a3, a4, a5⟩ := b1
    refine ⟨?_, ?_, fun q => ?_, fun q => ?_, fun q => ?_⟩
    all_goals rw [xst_nn (by omega)]
    · exact a1
    · exact a2
    · exact a3 q
    · exact a4 q
    · exact a5 q
  obtain ⟨x1, F1, k1, k2, k3, k4⟩ := rl_told (d := d) (j := 0) (c := 2003133803) (lo := 2) (hi := 9) (by omega) hS hO rfl (f := fun z => zNum (tkK g N) (tkP g N) (tkV g N) 2 9 z) (fun z _ => rfl)
  have hr1 : ((Except.ok (s.1, s.2.1, 0, s.2.2.2.2.2) : tX tZ).bind fun z => zAcc (tkK g N) (tkP g N) ((0 : Nat) : Int) z) = .ok (s.1 + 1, s.2.1, 0, s.2.2.2.2.2) := by
    show zAcc (tkK g N) (tkP g N) ((0 : Nat) : Int) (s.1, s.2.1, 0, s.2.2.2.2.2) = _
    unfold zAcc
    rw [if_pos (show tkK g N s.1 = ((0 : Nat) : Int) from hk)]
  rw [hr1] at k2 k3
  have k2 : rO g N s.2.2.2.1 (xst D 74 56 1) (zNum (tkK g N) (tkP g N) (tkV g N) 2 9 (s.1 + 1, s.2.1, 0, s.2.2.2.2.2)) F1 := k2
  have k3 : ∀ z, zNum (tkK g N) (tkP g N) (tkV g N) 2 9 (s.1 + 1, s.2.1, 0, s.2.2.2.2.2) = .ok z → z.2.2.1 = x1 := k3
  have hmain : ∀ (rr : tX tZ) (F1 : xC), rO g N s.2.2.2.1 (xst D 74 56 1) rr F1 → ∃ (x : Int) (F : xC), xM d 164 [mR, .inr (.inl 448546566771), .inl 1, .inl 6] (xst F1 74 47 x1) = some (x, F) ∧ ((∀ y, (rr.bind fun z => (zAcc (tkK g N) (tkP g N) 1 z).bind fun z => zNum (tkK g N) (tkP g N) (tkV g N) 1 6 z) = .error y → F 74 2 = y.1 ∧ F 74 3 = y.2 ∧ 0 < y.1) ∧ (∀ z, (rr.bind fun z => (zAcc (tkK g N) (tkP g N) 1 z).bind fun z => zNum (tkK g N) (tkP g N) (tkV g N) 1 6 z) = .ok z → rLS g N s.2.2.2.1 F ∧ rLp g N z F ∧ rNms s.2.2.2.1 F ∧ F 74 3 = -1 ∧ F 74 47 = x1 ∧ F 74 58 = D 74 58 ∧ F 74 59 = D 74 59 ∧ z.2.2.1 = x)) := by
    intro rr F1 hF1
    have hS2 : rLS g N s.2.2.2.1 (xst F1 74 47 x1) := by
      have hSF := rLS_E hS (rO_E hF1)
      exact ⟨rTx_same (S := rSB) hSF.1 (xSm_st xSm_refl rfl) rfl rfl (fun j => by simp [rSB, rSE, rS5, rS4, rS1]), rPt_same (S := rSB) hSF.2.1 (xSm_st xSm_refl rfl) rfl, fun t ht => ⟨by rw [xst_nn (by omega)]; exact (hSF.2.2 t ht).1, (hSF.2.2 t ht).2⟩⟩
    have hO2 : rO g N s.2.2.2.1 (xst F1 74 47 x1) rr (xst F1 74 47 x1) := by
      cases rr with
      | error y =>
        obtain ⟨a1, a2, a3, a4⟩ := hF1
        exact ⟨by rw [xst_nn (by omega), a1], by rw [xst_nn (by omega), a2], a3, xSm_refl⟩
      | ok z =>
        obtain ⟨⟨b1, b2, b3, b4, b5, b7⟩, c2, c3⟩ := hF1
        refine ⟨⟨?_, by rw [xst_nn (by omega), b2], by rw [xst_nn (by omega), b3], b4, rE_same b5 (Nat.le_refl _) (fun i j q => by rw [xst_nn (by omega)]), b7⟩, rNms_same c2 (fun j => by rw [xst_nn (by omega)]), xSm_refl⟩
        obtain ⟨a1, a2, a3, a4, a5⟩ := b1
        refine ⟨?_, ?_, fun q => ?_, fun q => ?_, fun q => ?_⟩
        all_goals rw [xst_nn (by omega)]
        · exact a1
        · exact a2
        · exact a3 q
        · exact a4 q
        · exact a5 q
    have h3F : ∀ z, rr = .ok z → (xst F1 74 47 x1) 74 3 = -1 := by
      intro z hz
      subst hz
      rw [xst_nn (by omega), hF1.2.2 _ _ rfl, xst_nn (by omega), h3]
    have h58 : (xst F1 74 47 x1) 74 58 = D 74 58 ∧ (xst F1 74 47 x1) 74 59 = D 74 59 := by
      have hE := rO_E hF1
      rw [xst_nn (by omega), xst_nn (by omega), hE _ _ rfl, hE _ _ rfl, xst_nn (by omega), xst_nn (by omega)]
      exact ⟨rfl, rfl⟩
    have h47 : (xst F1 74 47 x1) 74 47 = x1 := by rw [xst_at]
    generalize (xst F1 74 47 x1) = E1 at *
    obtain ⟨x, F, j1, j2, j3, j4⟩ := rl_told (d := d) (j := 1) (c := 448546566771) (lo := 1) (hi := 6) (by omega) hS2 hO2 rfl (f := fun z => zNum (tkK g N) (tkP g N) (tkV g N) 1 6 z) (fun z _ => rfl)
    have hassoc : ((rr.bind fun z => zAcc (tkK g N) (tkP g N) ((1 : Nat) : Int) z).bind fun z => zNum (tkK g N) (tkP g N) (tkV g N) 1 6 z) = (rr.bind fun z => (zAcc (tkK g N) (tkP g N) 1 z).bind fun z => zNum (tkK g N) (tkP g N) (tkV g N) 1 6 z) := by
      cases rr with
      | error y => rfl
      | ok z => rfl
    rw [hassoc] at j2 j3
    refine ⟨x, F, j1, fun y hy => ?_, fun z hz => ?_⟩
    · rw [hy] at j2
      exact ⟨j2.1, j2.2.1, j2.2.2.1⟩
    · rw [hz] at j2
      obtain ⟨c1, c2, c3⟩ := j2
      have hok : ∃ z, rr = .ok z := by
        cases rr with
        | error y => cases hz
        | ok z => exact ⟨z, rfl⟩
      obtain ⟨z0, hz0⟩ := hok
      exact ⟨rLS_E hS2 (rSE_0 c3), c1, c2, (c3 _ _ rfl).trans (h3F z0 hz0), (c3 _ _ rfl).trans h47, (c3 _ _ rfl).trans h58.1, (c3 _ _ rfl).trans h58.2, j3 z hz⟩
  obtain ⟨x, F, m1, m2, m3⟩ := hmain _ F1 k2
  refine ⟨xst F 74 48 x, ?_, ?_⟩
  · rw [xm_X12_readWeek, k1]
    simp only [Option.bind_some]
    rw [m1]
    rfl
  · unfold sWeek
    cases hz1 : zNum (tkK g N) (tkP g N) (tkV g N) 2 9 (s.1 + 1, s.2.1, 0, s.2.2.2.2.2) with
    | error y =>
      rw [hz1] at m2
      obtain ⟨a1, a2, a3⟩ := m2 y rfl
      exact ⟨by rw [xst_nn (by omega), a1], by rw [xst_nn (by omega), a2], a3⟩
    | ok z1 =>
      have hx1 := k3 z1 hz1
      have hb1 : 2 ≤ z1.2.2.1 ∧ z1.2.2.1 ≤ 9 := by
        unfold zNum at hz1
        split at hz1
        · split at hz1
          · rename_i q; cases hz1; exact q
          · cases hz1
        · cases hz1
      rw [hz1] at m2 m3
      show rOB g N s.2.2.2.2.1 (((zAcc (tkK g N) (tkP g N) 1 z1).bind fun z => zNum (tkK g N) (tkP g N) (tkV g N) 1 6 z).bind fun b => .ok (zPut 0 0 b, z1.2.2.1, s.2.2.2.1, 0)) (xst F 74 48 x)
      cases hz2 : ((zAcc (tkK g N) (tkP g N) 1 z1).bind fun z => zNum (tkK g N) (tkP g N) (tkV g N) 1 6 z) with
      | error y =>
        obtain ⟨a1, a2, a3⟩ := m2 y hz2
        exact ⟨by rw [xst_nn (by omega), a1], by rw [xst_nn (by omega), a2], a3⟩
      | ok z2 =>
        obtain ⟨a1, ⟨b1, b2, b3, b4, b5, b7⟩, a3, a4, a5, a6, a7, a8⟩ := m3 z2 hz2
        refine ⟨⟨rTx_same (S := rSB) a1.1 (xSm_st xSm_refl rfl) rfl rfl (fun j => by simp [rSB, rSE, rS5, rS4, rS1]), rPt_same (S := rSB) a1.2.1 (xSm_st xSm_refl rfl) rfl, fun t ht => ⟨by rw [xst_nn (by omega)]; exact (a1.2.2 t ht).1, (a1.2.2 t ht).2⟩⟩, ⟨?_, by rw [xst_nn (by omega), b2], by rw [xst_nn (by omega)]; exact b3, b4, (by show rE z2.1 (cM z2.2.2.2 0 0 z2.2.2.1) (xst F 74 48 x); rw [a8]; exact rE_48 b5), b7⟩, rNms_same a3 (fun j => by rw [xst_nn (by omega)]), by rw [xst_nn (by omega), a4], by rw [xst_nn (by omega), a5, hx1], by show 0 ≤ z1.2.2.1 ∧ z1.2.2.1 ≤ 9; omega, ?_, ?_⟩
        · obtain ⟨c1, c2, c3, c4, c5⟩ := b1
          refine ⟨?_, ?_, fun q => ?_, fun q => ?_, fun q => ?_⟩
          all_goals rw [xst_nn (by omega)]
          · exact c1
          · exact c2
          · exact c3 q
          · exact c4 q
          · exact c5 q
        · rw [xst_nn (by omega), a6, h8]; rfl
        · rw [xst_nn (by omega), a7, h9]; rfl
end rBody
