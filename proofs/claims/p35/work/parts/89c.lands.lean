/-! Lands, looks: what ghost facts say, of the third machine's cells. -/
noncomputable section
/-- an array of ints with so many places, that is read by its kind -/
def xlnB (i n : Nat) : Bool := match zget ySr i with
  | some t => Nat.beq (yiw ySr (kD i)) i && (match zget xtt t with
    | some (_, .inr (kd, len, _)) => Nat.blt kd 3 && Nat.ble n len
    | _ => false)
  | none => false
/-- an int field, likewise -/
def xfdB (i k : Nat) : Bool := match zget ySr i with
  | some t => Nat.beq (yiw ySr (kD i)) i && (match zget xtt t with
    | some (_, .inl (_, rs)) => (match rs[k]? with
      | some (.inl _) => true
      | _ => false)
    | _ => false)
  | none => false
/-- what isn't written: an array, a field -/
def xfaB (u : Nat) (ms : List (Nat × Nat)) : Bool := match zget ySr (yiw ySr u) with
  | some t => (match zget xtt t with
    | some (_, .inr _) => !(ymo (some ms) t 0)
    | _ => false)
  | none => false
def xfzB (u k : Nat) (ms : List (Nat × Nat)) : Bool := match zget ySr (yiw ySr u) with
  | some t => (match zget xtt t with
    | some (_, .inl _) => !(ymo (some ms) t k)
    | _ => false)
  | none => false
end
section xLands
variable {b sz : Nat} {ca : Nat → ClassId} {ws ws1 : va_W} {v : List Int} {C C1 : xC} {ms : List (Nat × Nat)}
theorem yKo_cx {u t i k len kd : Nat} {q : Nat × Nat} {ar : yAr} (hW : yWd sz ySr yTt ca ws1) (hC : xCt sz C1 ws1) (hx : Nat.beq (yiw ySr u) i = true) (hi : zget ySr i = some t) (ht : zget xtt t = some (q, .inr (kd, len, ar))) (hkd : kd < 3) (hk : k < len) : yKo ySr ws1 u k = C1 i k := by
  have hx := Nat.eq_of_beq_eq_true hx
  obtain ⟨cl, kd', g1, g2, g3⟩ := xCell hW hi
  rw [ht] at g2
  have g2 := Option.some.inj g2
  subst g2
  rcases g3 with ⟨-, f, e1, -⟩ | ⟨k3, -⟩
  · have hy : yct cl.2 k = some (.int (f k)) := by
      rw [e1]
      exact if_pos hk
    have hz : C1 i k = (f k).toInt := hC i k cl _ g1 hy
    unfold yKo
    rw [hx, g1]
    dsimp only
    rw [hy, hz]
  · omega
theorem kC_ln {i n : Nat} (hW : yWd sz ySr yTt ca ws1) (hC : xCt sz C1 ws1) (h : xlnB i n = true) : ∀ j, j < n → kC (yKo ySr ws1) i j = C1 i j := by
  intro j hj
  unfold xlnB at h
  split at h
  · rename_i t ht
    rw [Bool.and_eq_true] at h
    obtain ⟨h1, h2⟩ := h
    split at h2
    · rename_i q kd len ar hq
      rw [Bool.and_eq_true, Nat.blt_eq] at h2
      have := Nat.le_of_ble_eq_true h2.2
      exact yKo_cx hW hC h1 ht hq h2.1 (by omega)
    · cases h2
  · cases h
theorem kC_fd {i k : Nat} (hW : yWd sz ySr yTt ca ws1) (hC : xCt sz C1 ws1) (h : xfdB i k = true) : kC (yKo ySr ws1) i k = C1 i k := by
  unfold xfdB at h
  split at h
  · rename_i t ht
    rw [Bool.and_eq_true] at h
    obtain ⟨h1, h2⟩ := h
    split at h2
    · rename_i q ci rs hq
      split at h2
      · rename_i q1 hk
        obtain ⟨cl, kd, g1, g2, g3⟩ := xCell hW ht
        rw [hq] at g2
        have g2 := Option.some.inj g2
        subst g2
        obtain ⟨vs, e1, e2, e3, e4⟩ := g3
        have hkl : k < vs.length := by rw [e2]; exact (List.getElem?_eq_some_iff.mp hk).1
        have hv := List.getElem?_eq_getElem hkl
        obtain ⟨x, w1, -⟩ := e4 k _ _ hk hv
        have hy : yct cl.2 k = some (.int x) := by rw [e1, ← w1]; exact hv
        have hx : C1 i k = x.toInt := hC i k cl _ g1 hy
        have h1 := Nat.eq_of_beq_eq_true h1
        show yKo ySr ws1 (kD i) k = C1 i k
        unfold yKo
        rw [h1, g1]
        dsimp only
        rw [hy, hx]
      · cases h2
    · cases h2
  · cases h
theorem yKo_fa {u : Nat} (hW : yWd sz ySr yTt ca ws) (hW1 : yWd sz ySr yTt ca ws1) (hF : yFr ySr (some ms) ws ws1) (h : xfaB u ms = true) (k : Nat) : yKo ySr ws1 u k = yKo ySr ws u k := by
  unfold xfaB at h
  split at h
  · rename_i t ht
    split at h
    · rename_i q kd hq
      rw [Bool.not_eq_true'] at h
      obtain ⟨cl, kd0, g1, g2, g3⟩ := xCell hW ht
      obtain ⟨cl1, kd1, f1, f2, f3⟩ := xCell hW1 ht
      rw [hq] at f2
      have f2 := Option.some.inj f2
      subst f2
      unfold yKo
      rw [g1, f1]
      dsimp only
      rw [zget_eq] at ht
      rw [hF _ t k cl cl1 g1 f1 ht (by
        have e : yfk cl1.2 k = 0 := by
          obtain ⟨kk, len, ar⟩ := kd
          rcases f3 with ⟨-, f, e1, -⟩ | ⟨-, f, e1⟩ <;> rw [e1] <;> rfl
        rw [e]
        exact h)]
    · cases h
  · cases h
theorem yKo_fz {u k : Nat} (hW : yWd sz ySr yTt ca ws) (hW1 : yWd sz ySr yTt ca ws1) (hF : yFr ySr (some ms) ws ws1) (h : xfzB u k ms = true) : yKo ySr ws1 u k = yKo ySr ws u k := by
  unfold xfzB at h
  split at h
  · rename_i t ht
    split at h
    · rename_i q kd hq
      rw [Bool.not_eq_true'] at h
      obtain ⟨cl, kd0, g1, g2, g3⟩ := xCell hW ht
      obtain ⟨cl1, kd1, f1, f2, f3⟩ := xCell hW1 ht
      rw [hq] at f2
      have f2 := Option.some.inj f2
      subst f2
      unfold yKo
      rw [g1, f1]
      dsimp only
      rw [zget_eq] at ht
      rw [hF _ t k cl cl1 g1 f1 ht (by
        have e : yfk cl1.2 k = k := by
          obtain ⟨ci, rs⟩ := kd
          obtain ⟨vs, e1, -⟩ := f3
          rw [e1]
          rfl
        rw [e]
        exact h)]
    · cases h
  · cases h
theorem cSm_symm (h : cSm C C1) : cSm C1 C := fun r hr => by
  obtain ⟨⟨a1, a2⟩, b1, b2, b3, b4, b5, b6, b7, b8⟩ := h r hr
  exact ⟨⟨a1.symm, a2.symm⟩, fun j q => (b1 j q).symm, fun j q => (b2 j q).symm, fun j q => (b3 j q).symm, fun j q => (b4 j q).symm, fun j q => (b5 j q).symm, fun j q => (b6 j q).symm, fun j q => (b7 j q).symm, fun j q => (b8 j q).symm⟩
theorem rSm_symm (h : rSm C C1) : rSm C1 C := by
  obtain ⟨b1, b2, b3, b4, b5, b6, b7, b8, a1, a2, a3⟩ := h
  exact ⟨fun j q => (b1 j q).symm, fun j q => (b2 j q).symm, fun j q => (b3 j q).symm, fun j q => (b4 j q).symm, fun j q => (b5 j q).symm, fun j q => (b6 j q).symm, fun j q => (b7 j q).symm, fun j q => (b8 j q).symm, a1.symm, a2.symm, a3.symm⟩
theorem cSm_ct (hW : yWd sz ySr yTt ca ws1) (hC : xCt sz C1 ws1) : cSm (kC (yKo ySr ws1)) C1 := by
  intro r hr
  rcases hr with rfl | rfl
  · exact ⟨⟨kC_fd hW hC (by decide +kernel), kC_fd hW hC (by decide +kernel)⟩, kC_ln hW hC (by decide +kernel), kC_ln hW hC (by decide +kernel), kC_ln hW hC (by decide +kernel), kC_ln hW hC (by decide +kernel), kC_ln hW hC (by decide +kernel), kC_ln hW hC (by decide +kernel), kC_ln hW hC (by decide +kernel), kC_ln hW hC (by decide +kernel)⟩
  · exact ⟨⟨kC_fd hW hC (by decide +kernel), kC_fd hW hC (by decide +kernel)⟩, kC_ln hW hC (by decide +kernel), kC_ln hW hC (by decide +kernel), kC_ln hW hC (by decide +kernel), kC_ln hW hC (by decide +kernel), kC_ln hW hC (by decide +kernel), kC_ln hW hC (by decide +kernel), kC_ln hW hC (by decide +kernel), kC_ln hW hC (by decide +kernel)⟩
theorem rSm_ct (hW : yWd sz ySr yTt ca ws1) (hC : xCt sz C1 ws1) : rSm (kC (yKo ySr ws1)) C1 :=
  ⟨kC_ln hW hC (by decide +kernel), kC_ln hW hC (by decide +kernel), kC_ln hW hC (by decide +kernel), kC_ln hW hC (by decide +kernel), kC_ln hW hC (by decide +kernel), kC_ln hW hC (by decide +kernel), kC_ln hW hC (by decide +kernel), kC_ln hW hC (by decide +kernel), kC_fd hW hC (by decide +kernel), kC_fd hW hC (by decide +kernel), kC_fd hW hC (by decide +kernel)⟩
theorem cSm_fr (hW : yWd sz ySr yTt ca ws) (hW1 : yWd sz ySr yTt ca ws1) (hF : yFr ySr (some ms) ws ws1) (h : (kLs.all fun q => xfaB q.1 ms) = true) (h2 : (kFl.all fun q => xfzB q.1 q.2 ms) = true) : cSm (kC (yKo ySr ws)) (kC (yKo ySr ws1)) :=
  cSm_of (fun q hq j _ => (yKo_fa hW hW1 hF (List.all_eq_true.mp h q hq) j).symm) fun q hq => (yKo_fz hW hW1 hF (List.all_eq_true.mp h2 q hq)).symm
theorem rSm_fr (hW : yWd sz ySr yTt ca ws) (hW1 : yWd sz ySr yTt ca ws1) (hF : yFr ySr (some ms) ws ws1) (h : (kRs.all fun q => xfaB q.1 ms) = true) (h2 : (kRf.all fun q => xfzB q.1 q.2 ms) = true) : rSm (kC (yKo ySr ws)) (kC (yKo ySr ws1)) :=
  rSm_of (fun q hq j _ => (yKo_fa hW hW1 hF (List.all_eq_true.mp h q hq) j).symm) fun q hq => (yKo_fz hW hW1 hF (List.all_eq_true.mp h2 q hq)).symm
theorem gLA_im {n : Int} (hW : yWd sz ySr yTt ca ws) (h : gLAND (kC (yKo ySr ws)) n) : gLAND (xIm sz ws) n :=
  gLAND_keep (cSm_ct hW (xIm_ct hW)) (rSm_ct hW (xIm_ct hW)) (kC_fd hW (xIm_ct hW) (by decide +kernel)) h
theorem gLA_of {n : Int} (hW : yWd sz ySr yTt ca ws1) (hC : xCt sz C1 ws1) (h : gLAND C1 n) : gLAND (kC (yKo ySr ws1)) n :=
  gLAND_keep (cSm_symm (cSm_ct hW hC)) (rSm_symm (rSm_ct hW hC)) (kC_fd hW hC (by decide +kernel)).symm h
theorem gFI_im {n k : Int} (hW : yWd sz ySr yTt ca ws) (h : gFIT (kC (yKo ySr ws)) n k) : gFIT (xIm sz ws) n k :=
  gFIT_keep (rSm_ct hW (xIm_ct hW)) (kC_fd hW (xIm_ct hW) (by decide +kernel)) ⟨kC_ln hW (xIm_ct hW) (by decide +kernel), kC_ln hW (xIm_ct hW) (by decide +kernel), kC_ln hW (xIm_ct hW) (by decide +kernel), kC_ln hW (xIm_ct hW) (by decide +kernel), kC_ln hW (xIm_ct hW) (by decide +kernel)⟩ h
theorem gFI_of {n k : Int} (hW : yWd sz ySr yTt ca ws) (h : gFIT (xIm sz ws) n k) : gFIT (kC (yKo ySr ws)) n k :=
  gFIT_keep (rSm_symm (rSm_ct hW (xIm_ct hW))) (kC_fd hW (xIm_ct hW) (by decide +kernel)).symm ⟨fun j q => (kC_ln hW (xIm_ct hW) (by decide +kernel) j q).symm, fun j q => (kC_ln hW (xIm_ct hW) (by decide +kernel) j q).symm, fun j q => (kC_ln hW (xIm_ct hW) (by decide +kernel) j q).symm, fun j q => (kC_ln hW (xIm_ct hW) (by decide +kernel) j q).symm, fun j q => (kC_ln hW (xIm_ct hW) (by decide +kernel) j q).symm⟩ h
theorem gLK_ct {n : Int} (hW : yWd sz ySr yTt ca ws1) (hC : xCt sz C1 ws1) (hn : n ≤ 20) : gLKS (kC (yKo ySr ws1)) n ↔ gLKS C1 n := by
  have k : ∀ i : Nat, i = 60 ∨ i = 61 ∨ i = 62 ∨ i = 63 ∨ i = 116 ∨ i = 117 ∨ i = 118 ∨ i = 119 → ∀ j : Nat, (j : Int) < n → kC (yKo ySr ws1) i j = C1 i j := by
    intro i hi j hj
    have hj : j < 20 := by omega
    rcases hi with rfl | rfl | rfl | rfl | rfl | rfl | rfl | rfl <;> exact kC_ln hW hC (n := 20) (by decide +kernel) j hj
  have k49 : kC (yKo ySr ws1) 74 49 = C1 74 49 := kC_fd hW hC (by decide +kernel)
  exact ⟨fun h => gLKS_keep k k49 h, fun h => gLKS_keep (fun i hi j hj => (k i hi j hj).symm) k49.symm h⟩
theorem gDR_im {n hi : Int} (hW : yWd sz ySr yTt ca ws) (hh : hi ≤ 1700) (h : gDRF (kC (yKo ySr ws)) n hi) : gDRF (xIm sz ws) n hi :=
  gDRF_keep (cSm_ct hW (xIm_ct hW)) (fun j hj => kC_ln hW (xIm_ct hW) (i := 1) (n := 1700) (by decide +kernel) j (by omega)) h
theorem gDR_of {n hi : Int} (hW : yWd sz ySr yTt ca ws1) (hC : xCt sz C1 ws1) (hh : hi ≤ 1700) (h : gDRF C1 n hi) : gDRF (kC (yKo ySr ws1)) n hi :=
  gDRF_keep (cSm_symm (cSm_ct hW hC)) (fun j hj => (kC_ln hW hC (i := 1) (n := 1700) (by decide +kernel) j (by omega)).symm) h
theorem gCL_eq {r : Nat} {c : tC} (h : gCL r c C) (hs : ∀ i j, r ≤ i → i ≤ r + 10 → C1 i j = C i j) : gCL r c C1 := by
  obtain ⟨cs, h1, ⟨h2, h3, h4⟩, h5⟩ := h
  refine ⟨cs, fun j x hx => (hs _ _ (by omega) (by omega)).trans (h1 j x hx), ⟨fun w l hw hl => ?_, fun x hx => (hs _ _ (by omega) (by omega)).trans (h3 x hx), fun j x => ⟨fun hj hx => (hs _ _ (by omega) (by omega)).trans ((h4 j x).1 hj hx), fun hj hx => (hs _ _ (by omega) (by omega)).trans ((h4 j x).2.1 hj hx), fun hj hx => (hs _ _ (by omega) (by omega)).trans ((h4 j x).2.2.1 hj hx), fun hj hx => (hs _ _ (by omega) (by omega)).trans ((h4 j x).2.2.2 hj hx)⟩⟩, h5⟩
  obtain ⟨b, b1, b2, b3⟩ := h2 w l hw hl
  exact ⟨b, (hs _ _ (by omega) (by omega)).trans b1, (hs _ _ (by omega) (by omega)).trans b2, b3⟩
/-- the land of the one cell, where the other's is read anew -/
theorem gLA_other {r : Nat} (hW : yWd sz ySr yTt ca ws) (hW1 : yWd sz ySr yTt ca ws1) (hC : xCt sz C1 ws1) (hr : r = 2 ∨ r = 13) (f7 : ∀ i j, 15 - r ≤ i → i ≤ 25 - r → C1 i j = xIm sz ws i j) (hR : rSm (kC (yKo ySr ws)) (kC (yKo ySr ws1))) (h49 : kC (yKo ySr ws) 74 49 = kC (yKo ySr ws1) 74 49) (h : gLAND (kC (yKo ySr ws)) ((15 - r : Nat) : Int)) : gLAND (kC (yKo ySr ws1)) ((15 - r : Nat) : Int) := by
  obtain ⟨r', T, nL, c, D, h1, h2, h3, ⟨h4, h5, h6, h7⟩, h8, h9, h10, h11⟩ := h
  have e : r' = 15 - r := by omega
  have s0 := cSm_ct hW (xIm_ct hW)
  have s1 := cSm_symm (cSm_ct hW1 hC)
  have hs : ∀ i j, r' ≤ i → i ≤ r' + 10 → C1 i j = xIm sz ws i j := fun i j q1 q2 => f7 i j (by omega) (by omega)
  obtain ⟨⟨a0, -⟩, a2, -⟩ := s0 r' h2
  obtain ⟨⟨c0, -⟩, c2, -⟩ := s1 r' h2
  have q := hR.2.2.2.2.2.2.2.2
  exact ⟨r', T, nL, c, D, h1, h2, h3, ⟨gCL_keep h2 s1 (gCL_eq (gCL_keep h2 s0 h4) hs), (c2 1 (by decide)).symm.trans ((hs _ _ (by omega) (by omega)).trans ((a2 1 (by decide)).symm.trans h5)), (c2 0 (by decide)).symm.trans ((hs _ _ (by omega) (by omega)).trans ((a2 0 (by decide)).symm.trans h6)), c0.symm.trans ((hs _ _ (by omega) (by omega)).trans (a0.symm.trans h7))⟩, rLd_keep hR h8, h49.symm.trans h9, q.1.symm.trans h10, q.2.1.symm.trans h11⟩
/-- the class behind a text without a fault -/
theorem gCL_cls {oo C : xC} {g : Nat → Int} {N c r : Nat} {s : tS} (hN : N ≤ 1700) (h : cLS oo g N c r s C) : gCL r s.2.2.2.2.2 C ∧ C (r + 1) 1 = ((s.2.2.2.1 1).length : Int) ∧ C (r + 1) 0 = ((s.2.2.2.1 0).length : Int) ∧ C r 0 = s.2.2.1 := by
  obtain ⟨cs, ⟨⟨-, -, ⟨-, -, u2⟩, ⟨-, l2⟩, ⟨d1, -⟩, nm⟩, hrw, hcc, -⟩, -⟩ := h
  have u2 : s.2.1 ≤ 150 := u2
  have l2 : 3 * (cs.length : Int) ≤ 6 * s.2.1 + tkP g N s.1 := l2
  have hp : tkP g N s.1 = (rdP g N s.1 : Int) := rfl
  have hp2 := rdP_le (g := g) (N := N) s.1
  exact ⟨gCL_of ⟨cs, hrw, hcc, by omega⟩, (nm 1 (by decide)).1.1, (nm 0 (by decide)).1.1, d1⟩
/-- at the beginning -/
theorem gLA_0 (h1 : C 2 0 = 7) (h2 : C 2 1 = 4) (h3 : C 3 0 = 0) (h4 : C 3 1 = 0) (h5 : C 74 49 = 0) (h6 : C 74 50 = 0) (h7 : C 74 54 = 7) (h8 : C 74 55 = 4) : gLAND C 2 := by
  have no : ∀ {i j : Nat} {x : Int} {P : Prop}, i ≠ 0 → tC0.2 i j = some x → P := fun {i j x P} hi hx => by
    have hx : (if i = 0 ∧ j = 0 then some (4 : Int) else none) = some x := hx
    rw [if_neg (fun q => hi q.1)] at hx
    cases hx
  have yes : ∀ {x : Int}, tC0.2 0 0 = some x → x = 4 := fun {x} hx => by
    have hx : some (4 : Int) = some x := hx
    exact (Option.some.inj hx).symm
  refine ⟨2, 0, 0, tC0, 7, rfl, Or.inl rfl, ⟨⟨Nat.zero_le _, fun j hj => absurd hj (Nat.not_lt_zero _)⟩, ⟨Nat.zero_le _, ⟨4, rfl, by decide, by decide⟩, fun l hl => absurd hl (Nat.not_lt_zero _)⟩, by decide, by decide⟩, ⟨⟨[], fun j x hx => by simp at hx, ⟨fun w l _ hw => (by cases hw), fun x hx => ?_, fun j x => ⟨fun _ hx => no (by decide) hx, fun _ hx => no (by decide) hx, fun _ hx => no (by decide) hx, fun _ hx => no (by decide) hx⟩⟩, Nat.zero_le _⟩, h4, h3, h1⟩, ⟨[], fun j x hx => by simp at hx, Nat.zero_le _, fun w l _ hw => (by cases hw), fun x hx => ?_, fun j x => ⟨fun _ hx => no (by decide) hx, fun _ hx => no (by decide) hx, fun _ hx => no (by decide) hx, fun _ hx => no (by decide) hx⟩⟩, h5, h6, h7⟩
  · rw [yes hx]; exact h2
  · rw [yes hx]; exact h8
end xLands
