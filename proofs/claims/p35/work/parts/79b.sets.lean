/-! The reference's lines: names, sets. -/
section rSets
variable {g : Nat → Int} {N d i : Nat} {D D0 E : xC} {nm : Nat → List Int} {r : tX tZ} {z : tZ}
theorem rt_wd (hk : rAtI g N i D) (h : tkK g N i = 22) : rdWd (D 74 9) (tkV g N i) ∧ 0 ≤ tkV g N i ∧ tkV g N i < 282429536481 := by
  have h22 : rdK g N (rdP g N i) = 22 := h
  obtain ⟨o1, o2, -⟩ := rdK_ok (g := g) (N := N) (rdP g N i)
  obtain ⟨q1, q2, q3, q4⟩ := o2 (by omega)
  refine ⟨?_, q2, q3⟩
  show D 74 9 = rdC 8 (tkV g N i)
  rw [hk.2.2.1 (by omega)]
  exact q4.symm
theorem xst_E {a b : Int} {i j : Nat} (q : rSE i j = false) : (xst (xst D 74 2 a) 74 3 b) i j = D i j := by
  rw [xst_nn, xst_nn]
  · rintro ⟨rfl, rfl⟩; cases q
  · rintro ⟨rfl, rfl⟩; cases q
theorem rl_old (hd : 4 ≤ d) (h0 : rLS g N nm D0) (h : rO g N nm D0 r D) {s : Nat} (hs5 : s < 5) :
    ∃ (x : Int) (F : xC), xM d 167 [mR, .inl (bsx s : Int), .inl ((nm s).length : Int)] D = some (x, F) ∧ rO g N nm D0 (r.bind fun z => zOld (tkK g N) (tkP g N) (tkV g N) (nm s) z) F ∧ (∀ i j, rSE i j = false → F i j = D i j) ∧ (∀ j, F 92 j = D 92 j) ∧ (∀ z, (r.bind fun z => zOld (tkK g N) (tkP g N) (tkV g N) (nm s) z) = .ok z → z.2.2.1 = x) := by
  obtain ⟨d, rfl⟩ := Nat.exists_eq_add_of_le' (show 1 ≤ d by omega)
  rw [xm_X12_oldName]
  simp only [Bool.cond_decide]
  cases r with
  | error x =>
    rw [if_neg (by have := h.1; have := h.2.2.1; omega)]
    exact ⟨0, D, rfl, h, fun i j q => rfl, fun j => rfl, fun z hz => by cases hz⟩
  | ok z =>
    obtain ⟨h1, h2, h3⟩ := h
    have h20 := h1.2.1
    have hL := rLS_E h0 (rSE_0 h3)
    have hmx := (hL.2.2 s hs5).2
    have hb28 : bsx s + (nm s).length ≤ 28 := by
      unfold mxx at hmx; unfold bsx
      repeat' split at hmx
      all_goals repeat' split
      all_goals omega
    have hposx : ∀ a : Int, 0 < a → ¬ (if tkK g N z.1 = 25 then 1 else a) ≤ 0 := by intro a ha; split <;> omega
    have hposy : ∀ a : Int, 0 < a → (if tkK g N z.1 = 25 then 1 else a) ≠ 0 := by intro a ha; split <;> omega
    show ∃ x F, _ ∧ rO g N nm D0 (zOld (tkK g N) (tkP g N) (tkV g N) (nm s) z) F ∧ _ ∧ _ ∧ (∀ z', zOld (tkK g N) (tkP g N) (tkV g N) (nm s) z = .ok z' → z'.2.2.1 = x)
    rw [if_pos (by omega), rt_isName (by omega) h1.1]
    simp only [Option.bind_some]
    unfold zOld
    by_cases hk : tkK g N z.1 = 22
    · obtain ⟨w1, w2, w3⟩ := rt_wd h1.1 hk
      obtain ⟨x, r1, r2⟩ := rt_find (d := d) (by omega) hL.2.1.1 (h2 s hs5) hb28 w1 w2 w3
      rw [if_pos hk, if_pos (by decide), if_pos hk, r1]
      simp only [Option.bind_some]
      rcases r2 with ⟨a1, -, a3, a2⟩ | ⟨a1, a2⟩
      · rw [if_pos a1, if_pos (by omega), if_pos a2, r1]
        simp only [Option.bind_some]
        rw [if_neg (fun q => q h20)]
        have hix := rIdx (h2 s hs5).2.2 a1 a3
        obtain ⟨F, k1, k2, k3⟩ := rl_next (d := d) (x := ((nm s).idxOf (tkV g N z.1) : Int)) (by omega) h0 h1 h2 h3 (by omega) (by omega)
        exact ⟨x, F, by rw [k1]; rfl, k2, fun i j q => k3 _ _ (rS0_1 (rS1_4 (rS5_4 (rSE_5 q)))), fun j => k3 _ _ rfl, fun z' hz => by cases hz; exact hix.symm⟩
      · rw [if_neg (show ¬ (0 ≤ x) by omega), if_neg a2, rt_wrong (by omega) h1.1 h20]
        simp only [Option.bind_some]
        rw [if_neg (by rw [xst_nn (by omega), xst_at]; exact hposx 5 (by decide)), if_pos (by rw [xst_nn (by omega), xst_at]; exact hposy 5 (by decide))]
        exact ⟨_, _, rfl, rO_err (rSE_0 h3) (by decide), fun i j q => xst_E q, fun j => by rw [xst_nn (by omega), xst_nn (by omega)], fun z' hz => by cases hz⟩
    · rw [if_neg hk, if_neg (by decide), if_neg hk, rt_wrong (by omega) h1.1 h20]
      simp only [Option.bind_some]
      rw [if_neg (by rw [xst_nn (by omega), xst_at]; exact hposx 2 (by decide)), if_pos (by rw [xst_nn (by omega), xst_at]; exact hposy 2 (by decide))]
      exact ⟨_, _, rfl, rO_err (rSE_0 h3) (by decide), fun i j q => xst_E q, fun j => by rw [xst_nn (by omega), xst_nn (by omega)], fun z' hz => by cases hz⟩
theorem xbind_ok {A B C : Type} (x : tX A) (f : A → B) (k : B → tX C) : ((x.bind fun a => .ok (f a)).bind k) = x.bind fun a => k (f a) := by cases x <;> rfl
theorem bsx_ne {s t j m : Nat} (hs : s < 5) (ht : t < 5) (hj : j < mxx t) (hm : m < mxx s) (h : s ≠ t) : bsx t + j ≠ bsx s + m := by
  unfold mxx at hj hm
  unfold bsx
  repeat' split at hj
  all_goals repeat' split at hm
  all_goals repeat' split
  all_goals omega
/-- a new name, behind a line's first word -/
theorem rl_new (hd : 4 ≤ d) (h0 : rLS g N nm D) (h1 : rLp g N z D) (h2 : rNms nm D) (h25 : tkK g N z.1 ≠ 25) (h24 : tkK g N z.1 ≠ 24) {s : Nat} (hs5 : s < 5) (hlen : (nm s).length < mxx s) :
    ∃ F, xM d 166 [mR, .inl (bsx s : Int), .inl ((nm s).length : Int)] D = some (0, F) ∧ rO g N nm F (zNew (tkK g N) (tkP g N) (tkV g N) (nm s) z) F ∧ (∀ x, zNew (tkK g N) (tkP g N) (tkV g N) (nm s) z = .ok x → (rdWd (F 76 (bsx s + (nm s).length)) x.2.2.1 ∧ 0 ≤ x.2.2.1 ∧ x.2.2.1 < 282429536481 ∧ x.2.2.1 ∉ nm s) ∧ F 74 3 = D 74 3) ∧ (∀ i j, rSE i j = false → i ≠ 76 → F i j = D i j) ∧ rLS g N nm F := by
  obtain ⟨d, rfl⟩ := Nat.exists_eq_add_of_le' (show 1 ≤ d by omega)
  obtain ⟨D1, k1, k2, k3⟩ := rl_next (d := d) (x := z.2.2.1) (by omega) h0 h1 h2 xSm_refl h25 h24
  obtain ⟨j1, j2, j3⟩ := k2
  have j20 := j1.2.1
  have hL := rLS_E h0 (rSE_0 j3)
  have hb28 : bsx s + (nm s).length < 28 := by
    unfold mxx at hlen; unfold bsx
    repeat' split at hlen
    all_goals repeat' split
    all_goals omega
  have j1k : rAtI g N (z.1 + 1) D1 := j1.1
  have hposx : ∀ a : Int, 0 < a → ¬ (if tkK g N (z.1 + 1) = 25 then 1 else a) ≤ 0 := by intro a ha; split <;> omega
  rw [xm_X12_newName, k1]
  simp only [Option.bind_some, Bool.cond_decide]
  rw [rt_isName (by omega) j1k]
  simp only [Option.bind_some]
  unfold zNew
  have hfr : ∀ i j, rSE i j = false → D1 i j = D i j := fun i j q => k3 _ _ (rS0_1 (rS1_4 (rS5_4 (rSE_5 q))))
  by_cases hk : tkK g N (z.1 + 1) = 22
  · obtain ⟨w1, w2, w3⟩ := rt_wd j1k hk
    obtain ⟨x, r1, r2⟩ := rt_find (d := d) (by omega) hL.2.1.1 (j2 s hs5) (by omega) w1 w2 w3
    rw [if_pos hk, if_pos (by decide), if_pos hk, r1]
    simp only [Option.bind_some]
    rcases r2 with ⟨a1, -, -, a2⟩ | ⟨a1, a2⟩
    · rw [if_neg (show ¬ (x < 0) by omega), if_pos a2, rt_wrong (by omega) j1k j20]
      simp only [Option.bind_some]
      rw [if_neg (by rw [xst_nn (by omega), xst_at]; exact hposx 3 (by decide))]
      exact ⟨_, rfl, rO_self (rO_err (rSE_0 j3) (by decide)), (fun x hx => by cases hx), fun i j q _ => (xst_E q).trans (hfr i j q), rLS_E hL (xSm_st (xSm_st xSm_refl rfl) rfl)⟩
    · have eix : xix ((bsx s + (nm s).length : Nat) : Int) 28 = true := xixz.mpr ⟨by omega, by omega⟩
      have e10 : (D1 74 10).toNat = 76 := by rw [hL.2.1.1]; rfl
      have ew : w32 ((bsx s : Int) + ((nm s).length : Int)) = ((bsx s + (nm s).length : Nat) : Int) := by rw [w32_id (by omega) (by omega)]; omega
      rw [if_pos (show x < 0 by omega), if_neg a2, if_pos (show D1 74 2 ≤ 0 by omega), ew, eix, e10, Int.toNat_natCast]
      simp only [cond_true]
      have hn2 : rNms nm (xst D1 76 (bsx s + (nm s).length) (D1 74 9)) := by
        intro t ht
        refine ⟨fun j y hy => ?_, (j2 t ht).2⟩
        have hj : j < (nm t).length := by
          rcases Nat.lt_or_ge j (nm t).length with q | q
          · exact q
          · rw [List.getElem?_eq_none q] at hy; cases hy
        rw [xst_nn]
        · exact (j2 t ht).1 j y hy
        · rintro ⟨-, q⟩
          by_cases hst : s = t
          · subst hst
            exact absurd q (Nat.ne_of_lt (Nat.add_lt_add_left hj _))
          · exact bsx_ne hs5 ht (Nat.lt_of_lt_of_le hj (hL.2.2 t ht).2) hlen hst q
      have hp2 : rLp g N (z.1 + 1, z.2.1, z.2.2.1, z.2.2.2) (xst D1 76 (bsx s + (nm s).length) (D1 74 9)) := by
        obtain ⟨b1, b2, b3, b4, b5, b7⟩ := j1
        refine ⟨?_, by rw [xst_nn (by omega), b2], by rw [xst_nn (by omega), b3], b4, rE_same b5 (Nat.le_refl _) (fun i j q => by rw [xst_nn (by omega)]), b7⟩
        obtain ⟨a1, a2, a3, a4, a5⟩ := b1
        refine ⟨?_, ?_, fun q => ?_, fun q => ?_, fun q => ?_⟩
        all_goals rw [xst_nn (by omega)]
        · exact a1
        · exact a2
        · exact a3 q
        · exact a4 q
        · exact a5 q
      have hL2 : rLS g N nm (xst D1 76 (bsx s + (nm s).length) (D1 74 9)) :=
        ⟨rTx_same (S := fun i _ => decide (i = 76)) hL.1 (xSm_st xSm_refl rfl) rfl rfl (fun j => rfl), rPt_same (S := fun i _ => decide (i = 76)) hL.2.1 (xSm_st xSm_refl rfl) rfl, fun t ht => ⟨by rw [xst_nn (by omega)]; exact (hL.2.2 t ht).1, (hL.2.2 t ht).2⟩⟩
      obtain ⟨F, q1, q2, q3⟩ := rl_next (d := d) (x := tkV g N (z.1 + 1)) (by omega) hL2 hp2 hn2 xSm_refl (by show tkK g N (z.1 + 1) ≠ 25; omega) (by show tkK g N (z.1 + 1) ≠ 24; omega)
      refine ⟨F, by rw [q1]; rfl, rO_self q2, fun x hx => ?_, fun i j q h76 => ?_, rLS_E hL2 (rSE_0 (rS5_0 q3))⟩
      · cases hx
        refine ⟨⟨?_, w2, w3, a2⟩, ?_⟩
        · rw [q3 _ _ rfl, xst_at]
          exact w1
        · rw [q3 _ _ rfl, xst_nn (by omega), k3 _ _ rfl]
      · rw [q3 _ _ (rS0_1 (rS1_4 (rS5_4 (rSE_5 q)))), xst_nn (fun hh => h76 hh.1), hfr i j q]
  · rw [if_neg hk, if_neg (by decide), if_neg hk, rt_wrong (by omega) j1k j20]
    simp only [Option.bind_some]
    rw [if_neg (by rw [xst_nn (by omega), xst_at]; exact hposx 2 (by decide))]
    exact ⟨_, rfl, rO_self (rO_err (rSE_0 j3) (by decide)), (fun x hx => by cases hx), fun i j q _ => (xst_E q).trans (hfr i j q), rLS_E hL (xSm_st (xSm_st xSm_refl rfl) rfl)⟩
theorem rO_2 (h : rO g N nm D0 r D) : (D 74 2 ≤ 0 ∧ ∃ z, r = .ok z) ∨ (¬ D 74 2 ≤ 0 ∧ D 74 2 ≠ 0 ∧ ∃ x, r = .error x) := by
  cases r with
  | error x =>
    have := h.1
    have := h.2.2.1
    exact Or.inr ⟨by omega, by omega, x, rfl⟩
  | ok z =>
    have := h.1.2.1
    exact Or.inl ⟨by omega, z, rfl⟩
theorem rl_ar {a c : Nat} (ha : a < 11) (hc4 : c ≤ 3) : w32 (w32 (4 * (a : Int)) + (c : Int)) = ((4 * a + c : Nat) : Int) ∧ w32 (w32 (w32 (5 * (a : Int)) + 1) + (c : Int)) = ((5 * a + 1 + c : Nat) : Int) ∧ xix ((4 * a + c : Nat) : Int) 44 = true ∧ (0 ≤ ((5 * a + 1 + c : Nat) : Int) ∧ ((5 * a + 1 + c : Nat) : Int) < 70) ∧ w32 ((c : Int) + 1) = ((c + 1 : Nat) : Int) := by
  refine ⟨?_, ?_, xixz.mpr ⟨by omega, by omega⟩, by omega, ?_⟩
  · rw [w32_id (z := 4 * (a : Int)) (by omega) (by omega), w32_id (by omega) (by omega)]; omega
  · rw [w32_id (z := 5 * (a : Int)) (by omega) (by omega), w32_id (z := 5 * (a : Int) + 1) (by omega) (by omega), w32_id (by omega) (by omega)]; omega
  · rw [w32_id (by omega) (by omega)]; omega
theorem zSet_cnt {k pl v : Nat → Int} {th : List Int} {a c : Nat} {x : Int} {z : tZ} : zSet k pl v th a c (zCnt 92 a x z) = zSet k pl v th a c z := by
  have e : ∀ (m : tC) (i : Nat) (y : Int) (w : Nat) (l : List tE), cM (cL (cM (cM m 92 a x) 93 i y) w l) 92 a ((c + 1 : Nat) : Int) = cM (cL (cM m 93 i y) w l) 92 a ((c + 1 : Nat) : Int) := by
    intro m i y w l
    refine Prod.ext rfl (funext fun i' => funext fun j' => ?_)
    show (if i' = 92 ∧ j' = a then some ((c + 1 : Nat) : Int) else if i' = 93 ∧ j' = i then some y else if i' = 92 ∧ j' = a then some x else m.2 i' j') = (if i' = 92 ∧ j' = a then some ((c + 1 : Nat) : Int) else if i' = 93 ∧ j' = i then some y else m.2 i' j')
    by_cases h : i' = 92 ∧ j' = a
    · rw [if_pos h, if_pos h]
    · rw [if_neg h, if_neg h, if_neg h]
  obtain ⟨i, u, n, m⟩ := z
  show zSet k pl v th a c (i, u, n, cM m 92 a x) = zSet k pl v th a c (i, u, n, m)
  unfold zSet zOld
  dsimp only
  by_cases h1 : k i = 22
  · simp only [if_pos h1]
    by_cases h2 : v i ∈ th
    · simp only [if_pos h2]
      show (((zAcc k pl 16 (i + 1, u, ((th.idxOf (v i) : Nat) : Int), cM m 92 a x)).bind fun z => zFrm k pl v th (5 * a + 1 + c) (zPut 93 (4 * a + c) z)).bind fun z => (.ok (zCnt 92 a ((c + 1 : Nat) : Int) z) : tX tZ)) = (((zAcc k pl 16 (i + 1, u, ((th.idxOf (v i) : Nat) : Int), m)).bind fun z => zFrm k pl v th (5 * a + 1 + c) (zPut 93 (4 * a + c) z)).bind fun z => .ok (zCnt 92 a ((c + 1 : Nat) : Int) z))
      unfold zAcc
      dsimp only
      by_cases h3 : k (i + 1) = 16
      · simp only [if_pos h3]
        show ((zFrm k pl v th (5 * a + 1 + c) (i + 1 + 1, u, ((th.idxOf (v i) : Nat) : Int), cM (cM m 92 a x) 93 (4 * a + c) ((th.idxOf (v i) : Nat) : Int))).bind fun z => (.ok (zCnt 92 a ((c + 1 : Nat) : Int) z) : tX tZ)) = ((zFrm k pl v th (5 * a + 1 + c) (i + 1 + 1, u, ((th.idxOf (v i) : Nat) : Int), cM m 93 (4 * a + c) ((th.idxOf (v i) : Nat) : Int))).bind fun z => .ok (zCnt 92 a ((c + 1 : Nat) : Int) z))
        unfold zFrm
        dsimp only
        cases sFrm k pl v th (i + 1 + 1) u with
        | error q => rfl
        | ok q =>
          show (Except.ok (q.1, q.2, ((th.idxOf (v i) : Nat) : Int), cM (cL (cM (cM m 92 a x) 93 (4 * a + c) ((th.idxOf (v i) : Nat) : Int)) (5 * a + 1 + c) (pFrm k pl v th (i + 1 + 1) u)) 92 a ((c + 1 : Nat) : Int)) : tX tZ) = .ok (q.1, q.2, ((th.idxOf (v i) : Nat) : Int), cM (cL (cM m 93 (4 * a + c) ((th.idxOf (v i) : Nat) : Int)) (5 * a + 1 + c) (pFrm k pl v th (i + 1 + 1) u)) 92 a ((c + 1 : Nat) : Int))
          rw [e]
      · simp only [if_neg h3]
    · simp only [if_neg h2]
  · simp only [if_neg h1]
theorem rl_set (hd : 6 ≤ d) (h0 : rLS g N nm D0) (h : rO g N nm D0 r D) {a c : Nat} (ha : a < 11) (hc : ∀ z, r = .ok z → D 92 a = (c : Int)) (hc4 : c ≤ 3) :
    ∃ F, xM d 187 [mR, .inl (a : Int)] D = some (0, F) ∧ rO g N nm D0 (r.bind fun z => zSet (tkK g N) (tkP g N) (tkV g N) (nm 0) a c z) F ∧ (∀ z, (r.bind fun z => zSet (tkK g N) (tkP g N) (tkV g N) (nm 0) a c z) = .ok z → F 92 a = ((c + 1 : Nat) : Int)) ∧ (∀ i j, rSE i j = false → F i j = D i j) := by
  obtain ⟨d, rfl⟩ := Nat.exists_eq_add_of_le' (show 1 ≤ d by omega)
  have hL := rLS_E h0 (rO_E h)
  have eix : xix (a : Int) 11 = true := xixz.mpr ⟨by omega, by omega⟩
  obtain ⟨e4, e5, eix2, ew, e1⟩ := rl_ar ha hc4
  obtain ⟨x1, F1, k1, k2, k3, k4, k5⟩ := rl_old (d := d) (s := 0) (by omega) h0 h (by decide)
  obtain ⟨F2, j1, j2, j3, j4⟩ := rl_want (d := d) (j := 16) (c := 27696025463252339) (by omega) h0 k2 rfl
  have hL2 := rLS_E h0 (rO_E j2)
  have e42 : D 74 42 = ((nm 0).length : Int) := (hL.2.2 0 (by decide)).1
  rw [xm_X12_readSet, eix, e42]
  simp only [cond_true, Bool.cond_decide]
  rw [show (.inl (0 : Int) : xV) = .inl (bsx 0 : Int) from rfl, k1]
  simp only [Option.bind_some]
  rw [j1]
  simp only [Option.bind_some]
  have hset : (r.bind fun z => zSet (tkK g N) (tkP g N) (tkV g N) (nm 0) a c z) = ((((r.bind fun z => zOld (tkK g N) (tkP g N) (tkV g N) (nm 0) z).bind fun z => zAcc (tkK g N) (tkP g N) ((16 : Nat) : Int) z).bind fun z => zFrm (tkK g N) (tkP g N) (tkV g N) (nm 0) (5 * a + 1 + c) (zPut 93 (4 * a + c) z)).bind fun z => .ok (zCnt 92 a ((c + 1 : Nat) : Int) z)) := by
    cases r with
    | error x => rfl
    | ok z => rfl
  rw [hset]
  rcases rO_2 j2 with ⟨p1, z2, p2⟩ | ⟨p1, -, x2, p2⟩
  · have hcc : D 92 a = (c : Int) := by
      cases r with
      | error x => cases p2
      | ok z => exact hc z rfl
    have h33 : (D 74 33).toNat = 92 := by rw [hL.2.1.2.2.2.2.2.2.2.2.2.2.2.1]; rfl
    have h34 : (F2 74 34).toNat = 93 := by rw [hL2.2.1.2.2.2.2.2.2.2.2.2.2.2.2.1]; rfl
    rw [if_pos p1, h33, Int.toNat_natCast, hcc, e4, eix2, e5, h34, Int.toNat_natCast]
    obtain ⟨F3, l1, l2, l3, l4⟩ := rl_formula (d := d) (w := 5 * a + 1 + c) (by omega) h0 (rO_sc (i := 93) (j := 4 * a + c) (x := x1) j2 (by decide)) (by omega)
    have hL3 := rLS_E h0 (rO_E l2)
    have h33b : (F3 74 33).toNat = 92 := by rw [hL3.2.1.2.2.2.2.2.2.2.2.2.2.2.1]; rfl
    have e92 : F3 92 a = (c : Int) := by rw [l4, xst_nn (by omega), j4, k4, hcc]
    simp only [xna, Bool.and_self, cond_true]
    rw [l1]
    simp only [Option.bind_some]
    rw [h33b, e92, e1]
    have hx1 : z2.2.2.1 = x1 := by
      cases hq : (r.bind fun z => zOld (tkK g N) (tkP g N) (tkV g N) (nm 0) z) with
      | error y => rw [hq] at p2; cases p2
      | ok z0 =>
        rw [hq] at p2
        have p2 : zAcc (tkK g N) (tkP g N) ((16 : Nat) : Int) z0 = .ok z2 := p2
        unfold zAcc at p2
        split at p2
        · cases p2; exact k5 z0 hq
        · cases p2
    have hconv : ((((r.bind fun z => zOld (tkK g N) (tkP g N) (tkV g N) (nm 0) z).bind fun z => zAcc (tkK g N) (tkP g N) ((16 : Nat) : Int) z).bind fun z => (.ok (zCnt 93 (4 * a + c) x1 z) : tX tZ)).bind fun z => zFrm (tkK g N) (tkP g N) (tkV g N) (nm 0) (5 * a + 1 + c) z) = (((r.bind fun z => zOld (tkK g N) (tkP g N) (tkV g N) (nm 0) z).bind fun z => zAcc (tkK g N) (tkP g N) ((16 : Nat) : Int) z).bind fun z => zFrm (tkK g N) (tkP g N) (tkV g N) (nm 0) (5 * a + 1 + c) (zPut 93 (4 * a + c) z)) := by
      rw [p2]
      show zFrm (tkK g N) (tkP g N) (tkV g N) (nm 0) (5 * a + 1 + c) (zCnt 93 (4 * a + c) x1 z2) = zFrm (tkK g N) (tkP g N) (tkV g N) (nm 0) (5 * a + 1 + c) (zPut 93 (4 * a + c) z2)
      unfold zPut
      rw [hx1]
    rw [hconv] at l2
    refine ⟨_, rfl, rO_sc l2 (by decide), fun z hz => ?_, fun i j q => ?_⟩
    · rw [xst_at]
    · rw [xst_nn, l3 i j q, xst_nn, j3 i j q, k3 i j q]
      · rintro ⟨rfl, -⟩; simp [rSE, rS5] at q
      · rintro ⟨rfl, -⟩; simp [rSE, rS5] at q
  · rw [if_neg p1]
    rw [p2] at j2 ⊢
    exact ⟨F2, rfl, j2, (fun z hz => by cases hz), fun i j q => (j3 i j q).trans (k3 i j q)⟩
theorem rl_loop (hd : 6 ≤ d) (h0 : rLS g N nm D0) {a : Nat} (ha : a < 11) : ∀ (n : Nat) (r : tX tZ) (D : xC), n ≤ 3 → rO g N nm D0 r D → (∀ z, r = .ok z → D 92 a = ((4 - n : Nat) : Int)) →
    ∃ F, xw_X12_readSets d (26, [some mR, some (.inl (a : Int))], [], D) = some (0, F) ∧ rO g N nm D0 (r.bind fun z => if tkK g N z.1 = 8 then zSets (tkK g N) (tkP g N) (tkV g N) (nm 0) a n (if n = 0 then z else (z.1 + 1, z.2)) else .ok z) F ∧ (∀ i j, rSE i j = false → F i j = D i j) := by
  have eix : xix (a : Int) 11 = true := xixz.mpr ⟨by omega, by omega⟩
  have hfault : ∀ (x : Int × Int) (D : xC), rO g N nm D0 (.error x) D → xw_X12_readSets d (26, [some mR, some (.inl (a : Int))], [], D) = some (0, D) := by
    intro x D h
    rw [xl_X12_readSets_26]
    simp only [Bool.cond_decide]
    rw [if_pos (by have := h.1; have := h.2.2.1; omega)]
  intro n
  induction n with
  | zero =>
    intro r D hn h hc
    cases r with
    | error x => exact ⟨D, hfault x D h, h, fun i j q => rfl⟩
    | ok z =>
      obtain ⟨h1, h2, h3⟩ := h
      have h20 := h1.2.1
      have hL := rLS_E h0 (rSE_0 h3)
      have h33 : (D 74 33).toNat = 92 := by rw [hL.2.1.2.2.2.2.2.2.2.2.2.2.2.1]; rfl
      have hw := rt_isWord (d := d) (by omega) h1.1 (j := 8) (c := 6385252) rfl
      show ∃ F, _ ∧ rO g N nm D0 (if tkK g N z.1 = 8 then zSets (tkK g N) (tkP g N) (tkV g N) (nm 0) a 0 z else .ok z) F ∧ _
      rw [xl_X12_readSets_26]
      simp only [Bool.cond_decide]
      rw [if_neg (fun q => q h20), hw]
      simp only [Option.bind_some]
      by_cases hk : tkK g N z.1 = ((8 : Nat) : Int)
      · have hk8 : tkK g N z.1 = 8 := hk
        rw [if_pos hk, if_neg (by decide), eix, h33, Int.toNat_natCast, hc z rfl, if_pos hk8, rt_wrong (by omega) h1.1 h20]
        simp only [cond_true, Option.bind_some]
        have hpos : (if tkK g N z.1 = 25 then (1 : Int) else 2) ≠ 0 := by split <;> omega
        rw [if_neg (by decide), if_pos (by rw [xst_nn (by omega), xst_at]; exact hpos)]
        have hE : rO g N nm D0 (tErr (tkK g N) (tkP g N) z.1 2) (xst (xst D 74 2 (if tkK g N z.1 = 25 then 1 else 2)) 74 3 (tkP g N z.1)) := rO_err (rSE_0 h3) (by decide)
        obtain ⟨F, k1, k2, k3, k4⟩ := rl_set (c := 0) hd h0 hE ha (fun z hz => by cases hz) (by decide)
        rw [k1]
        exact ⟨F, hfault _ F k2, k2, fun i j q => (k4 i j q).trans (xst_E q)⟩
      · rw [if_neg hk, if_pos (by decide), if_neg (show ¬ tkK g N z.1 = 8 from hk)]
        exact ⟨D, rfl, ⟨h1, h2, h3⟩, fun i j q => rfl⟩
  | succ n ih =>
    intro r D hn h hc
    cases r with
    | error x => exact ⟨D, hfault x D h, h, fun i j q => rfl⟩
    | ok z =>
      obtain ⟨h1, h2, h3⟩ := h
      have h20 := h1.2.1
      have hL := rLS_E h0 (rSE_0 h3)
      have h33 : (D 74 33).toNat = 92 := by rw [hL.2.1.2.2.2.2.2.2.2.2.2.2.2.1]; rfl
      have hw := rt_isWord (d := d) (by omega) h1.1 (j := 8) (c := 6385252) rfl
      show ∃ F, _ ∧ rO g N nm D0 (if tkK g N z.1 = 8 then zSets (tkK g N) (tkP g N) (tkV g N) (nm 0) a (n + 1) (if n + 1 = 0 then z else (z.1 + 1, z.2)) else .ok z) F ∧ _
      rw [xl_X12_readSets_26]
      simp only [Bool.cond_decide]
      rw [if_neg (fun q => q h20), hw]
      simp only [Option.bind_some]
      by_cases hk : tkK g N z.1 = ((8 : Nat) : Int)
      · have hk8 : tkK g N z.1 = 8 := hk
        have hcz := hc z rfl
        rw [if_pos hk, if_neg (by decide), eix, h33, Int.toNat_natCast, hcz, if_pos hk8, if_neg (show ¬ (n + 1 = 0) by omega)]
        simp only [cond_true]
        rw [if_pos (by omega), if_neg (fun q => q h20)]
        obtain ⟨F1, k1, k2, k3⟩ := rl_next (d := d) (x := z.2.2.1) (by omega) h0 h1 h2 h3 (by omega) (by omega)
        rw [k1]
        simp only [Option.bind_some]
        obtain ⟨F2, j1, j2, j3, j4⟩ := rl_set (c := 4 - (n + 1)) hd h0 k2 ha (fun z' hz => by rw [k3 _ _ rfl, hcz]) (by omega)
        rw [j1]
        simp only [Option.bind_some]
        obtain ⟨F, l1, l2, l3⟩ := ih _ F2 (by omega) j2 (fun z' hz => by rw [j3 z' hz, show 4 - (n + 1) + 1 = 4 - n by omega])
        refine ⟨F, l1, ?_, fun i j q => by rw [l3 i j q, j4 i j q, k3 _ _ (rS0_1 (rS1_4 (rS5_4 (rSE_5 q))))]⟩
        exact l2
      · rw [if_neg hk, if_pos (by decide), if_neg (show ¬ tkK g N z.1 = 8 from hk)]
        exact ⟨D, rfl, ⟨h1, h2, h3⟩, fun i j q => rfl⟩
/-- the condition, then the sets -/
theorem rl_sets (hd : 7 ≤ d) (h0 : rLS g N nm D0) (h : rO g N nm D0 r D) {a : Nat} (ha : a < 11) :
    ∃ F, xM d 186 [mR, .inl (a : Int)] D = some (0, F) ∧ rO g N nm D0 (((r.bind fun z => zFrm (tkK g N) (tkP g N) (tkV g N) (nm 0) (5 * a) z).bind fun z => zAcc (tkK g N) (tkP g N) 7 z).bind fun z => zSets (tkK g N) (tkP g N) (tkV g N) (nm 0) a 4 z) F ∧ (∀ i j, rSE i j = false → F i j = D i j) := by
  obtain ⟨d, rfl⟩ := Nat.exists_eq_add_of_le' (show 1 ≤ d by omega)
  have eix : xix (a : Int) 11 = true := xixz.mpr ⟨by omega, by omega⟩
  obtain ⟨F1, k1, k2, k3, k4⟩ := rl_formula (d := d) (w := 5 * a) (by omega) h0 h (by omega)
  obtain ⟨F2, j1, j2, j3, j4⟩ := rl_want (d := d) (j := 7) (c := 1952998766) (by omega) h0 k2 rfl
  have hL2 := rLS_E h0 (rO_E j2)
  have h33 : (F2 74 33).toNat = 92 := by rw [hL2.2.1.2.2.2.2.2.2.2.2.2.2.2.1]; rfl
  obtain ⟨F3, l1, l2, l3, l4⟩ := rl_set (d := d) (a := a) (c := 0) (by omega) h0 (rO_sc (i := 92) (j := a) (x := 0) j2 (by decide)) ha (fun z hz => by rw [xst_at]; rfl) (by decide)
  obtain ⟨F, m1, m2, m3⟩ := rl_loop (d := d) (by omega) h0 ha 3 _ F3 (by decide) l2 (fun z hz => by rw [l3 z hz])
  refine ⟨F, ?_, ?_, fun i j q => ?_⟩
  · have k1 : xM d 179 [mR, .inl (5 * (a : Int))] D = some (0, F1) := by rw [show 5 * (a : Int) = ((5 * a : Nat) : Int) by omega]; exact k1
    rw [xm_X12_readSets, w32_id (by omega) (by omega), k1]
    simp only [Option.bind_some]
    rw [j1]
    simp only [Option.bind_some]
    rw [eix, h33, Int.toNat_natCast]
    simp only [xna, Bool.and_self, cond_true]
    rw [l1]
    exact m1
  · simp only [zSet_cnt, xbind_ok] at m2
    generalize ((r.bind fun z => zFrm (tkK g N) (tkP g N) (tkV g N) (nm 0) (5 * a) z).bind fun z => zAcc (tkK g N) (tkP g N) ((7 : Nat) : Int) z) = q at m2
    cases q with
    | error x => exact m2
    | ok z => exact m2
  · rw [m3 i j q, l4 i j q, xst_nn, j3 i j q, k3 i j q]
    rintro ⟨rfl, -⟩; simp [rSE, rS5] at q
end rSets
