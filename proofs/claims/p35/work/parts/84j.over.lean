/-! The reference's land, from its text. -/
section rLandW
variable {d N : Nat} {C : xC} {g : Nat → Int} {s : tS}
theorem rv_land (hd : 20 ≤ d) (h0 : C 74 0 = 75) (h1 : C 74 1 = (N : Int)) (hN : N ≤ 1700) (hg : ∀ j, j < N → rdB (C 75 j) (g j)) (hP : rPt C) (hs : sAll (tkK g N) (tkP g N) (tkV g N) 1701 tS0 = .ok s) :
    ∃ F, xM d 194 [mR] C = some (((s.2.2.2.1 0).length : Int), F) ∧ rLand (s.2.2.2.1 0).length s.2.2.2.2.2 (s.2.2.2.1 1).length s.2.2.1 F ∧ F 74 49 = ((s.2.2.2.1 0).length : Int) := by
  obtain ⟨d, rfl⟩ := Nat.exists_eq_add_of_le' (show 1 ≤ d by omega)
  obtain ⟨F0, k1, k2, k3, k4, k5⟩ := r_reads (d := d) (by omega) h0 h1 hN hg hP
  obtain ⟨⟨q1, q2, q3⟩, ⟨p1, p2, p3, p4, p5, p6⟩, m1, m2, m3, m4, m5, m6, m7, m8⟩ := k5 s hs
  obtain ⟨es, ⟨e1, e2⟩, e3, e4, e5, e6⟩ := p5
  obtain ⟨o1, o2, o3⟩ := rd_legal hs
  have f58 : F0 74 58 = 0 ∨ F0 74 58 = 1 := by
    rw [m7]
    split
    · exact Or.inr rfl
    · exact Or.inl rfl
  have f59 : F0 74 59 = 0 ∨ F0 74 59 = 1 := by
    rw [m8]
    split
    · exact Or.inr rfl
    · exact Or.inl rfl
  have c58 : (decide (F0 74 58 = 0) || decide (F0 74 58 = 1)) = true := by rcases f58 with h | h <;> rw [h] <;> rfl
  have c59 : (decide (F0 74 59 = 0) || decide (F0 74 59 = 1)) = true := by rcases f59 with h | h <;> rw [h] <;> rfl
  have c2 : decide (F0 74 2 ≤ 0) = true := decide_eq_true (by rw [p2]; exact Int.le_refl _)
  rw [xm_X12_land, k1, Option.bind_some]
  dsimp only
  rw [c2, cond_true, c58, cond_true, Option.bind_some, c59, cond_true, Option.bind_some]
  generalize hE : xst (xst (xst (xst (xst (xst (xst (xst (xst (xst F0 74 49 (F0 74 42)) 74 50 (F0 74 43)) 74 51 (F0 74 44)) 74 52 (F0 74 45)) 74 53 (F0 74 46)) 74 54 (F0 74 47)) 74 55 (F0 74 48)) 74 60 (F0 74 58)) 74 61 (F0 74 59)) 74 25 (F0 74 24) = E
  have kE : ∀ i j, ¬ (i = 74 ∧ (j = 25 ∨ (49 ≤ j ∧ j ≤ 55) ∨ j = 60 ∨ j = 61)) → E i j = F0 i j := fun i j q => by
    rw [← hE, xst_nn (by omega), xst_nn (by omega), xst_nn (by omega), xst_nn (by omega), xst_nn (by omega), xst_nn (by omega), xst_nn (by omega), xst_nn (by omega), xst_nn (by omega), xst_nn (by omega)]
  have k60 : E 74 60 = F0 74 58 := by rw [← hE, xst_nn (by omega), xst_nn (by omega), xst_at]
  have k55 : E 74 55 = F0 74 48 := by rw [← hE, xst_nn (by omega), xst_nn (by omega), xst_nn (by omega), xst_at]
  have k54 : E 74 54 = F0 74 47 := by rw [← hE, xst_nn (by omega), xst_nn (by omega), xst_nn (by omega), xst_nn (by omega), xst_at]
  have k50 : E 74 50 = F0 74 43 := by rw [← hE, xst_nn (by omega), xst_nn (by omega), xst_nn (by omega), xst_nn (by omega), xst_nn (by omega), xst_nn (by omega), xst_nn (by omega), xst_nn (by omega), xst_at]
  have k49 : E 74 49 = F0 74 42 := by rw [← hE, xst_nn (by omega), xst_nn (by omega), xst_nn (by omega), xst_nn (by omega), xst_nn (by omega), xst_nn (by omega), xst_nn (by omega), xst_nn (by omega), xst_nn (by omega), xst_at]
  obtain ⟨a1, a2, a3, a4, a5, a6, a7, a8, a9, b1, b2, b3, b4, b5⟩ := q2
  have z : ∀ x y : Nat, (x, y) ∈ rPzL → ¬ (x = 25 ∨ (49 ≤ x ∧ x ≤ 55) ∨ x = 60 ∨ x = 61) → E 74 x = (y : Int) := fun x y hx hn => (kE 74 x (fun q => hn q.2)).trans (b5 (x, y) hx)
  have hpx : rPx E := ⟨⟨(kE _ _ (by omega)).trans a2, (kE _ _ (by omega)).trans a3, (kE _ _ (by omega)).trans a4, (kE _ _ (by omega)).trans a5, z 15 81 (by decide) (by omega), z 16 82 (by decide) (by omega), z 17 83 (by decide) (by omega), z 18 84 (by decide) (by omega), z 20 86 (by decide) (by omega)⟩,
    ⟨(kE _ _ (by omega)).trans a7, (kE _ _ (by omega)).trans a8, (kE _ _ (by omega)).trans a9, (kE _ _ (by omega)).trans b1, (kE _ _ (by omega)).trans b2, (kE _ _ (by omega)).trans b3, (kE _ _ (by omega)).trans b4⟩,
    ⟨z 35 94 (by decide) (by omega), z 36 95 (by decide) (by omega), z 37 96 (by decide) (by omega), z 38 97 (by decide) (by omega), z 39 98 (by decide) (by omega), z 40 99 (by decide) (by omega), z 41 100 (by decide) (by omega)⟩, z 62 101 (by decide) (by omega), z 63 102 (by decide) (by omega), z 69 103 (by decide) (by omega), z 101 122 (by decide) (by omega)⟩
  have hnw : rNw s.2.2.2.2.2 es.length E := by
    refine ⟨es, fun j x hx => ?_, rfl, fun w l hw => ?_, fun x hx => (kE _ _ (by omega)).trans (e5 x hx), fun i j x hi hx => (kE i j (by omega)).trans (e6 i j x hi hx)⟩
    · rw [kE _ _ (by omega), kE _ _ (by omega)]
      exact e2 j x hx
    · obtain ⟨b, y1, y2, y3⟩ := e4 w l hw
      exact ⟨b, (kE _ _ (by omega)).trans y1, (kE _ _ (by omega)).trans y2, y3⟩
  have h43 : E 74 43 = F0 74 43 := kE _ _ (by omega)
  have h47 : E 74 47 = F0 74 47 := kE _ _ (by omega)
  have h48 : E 74 48 = F0 74 48 := kE _ _ (by omega)
  have e3 : es.length ≤ s.1 := e3
  have p6 : s.1 ≤ N := p6
  have t0 : F0 74 42 = ((s.2.2.2.1 0).length : Int) := (q3 0 (by decide)).1
  have t1 : F0 74 43 = ((s.2.2.2.1 1).length : Int) := (q3 1 (by decide)).1
  obtain ⟨F, r1, r2, r3, r4⟩ := rv_over (d := d) (C := E) (c := s.2.2.2.2.2) (T := (s.2.2.2.1 0).length) (nL := (s.2.2.2.1 1).length) (D := s.2.2.1) (by omega) hpx (by rw [k60]; exact f58) (n := es.length) (by omega) ((kE _ _ (by omega)).trans e1) hnw (by rw [k50, h43]) (by rw [k54, h47]) (by rw [k55, h48]) (by rw [h43, t1]) (by rw [h47, m3]) o2.1 (fun j hj => by
    obtain ⟨⟨x, hx⟩, -⟩ := o2.2 j hj
    rw [eN_of hx]
    exact hx)
  refine ⟨F, ?_, r2, by rw [r3, k49, t0]⟩
  rw [r1, k49, t0]
end rLandW
