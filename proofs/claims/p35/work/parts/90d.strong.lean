/-! What fits, the reference's land: contracts by hand. -/
section xHandF
variable {b sz : Nat} {ca : Nat → ClassId} {ws ws1 : va_W} {v : List Int} {C1 : xC} {ms : List (Nat × Nat)}
theorem mem_sub {α : Type} {l l' : List α} (h : l = l'.take l.length) : ∀ q ∈ l, q ∈ l' := fun q hq => List.mem_of_mem_take (h ▸ hq)
theorem vt2 {vt : List Int} (h : vt.length = 2) : ∃ a c, vt = [a, c] := by
  match vt, h with
  | [a, c], _ => exact ⟨a, c, rfl⟩
theorem vt9 {vt : List Int} (h : vt.length = 9) : ∃ a0 a1 a2 a3 a4 a5 a6 a7 a8, vt = [a0, a1, a2, a3, a4, a5, a6, a7, a8] := by
  match vt, h with
  | [a0, a1, a2, a3, a4, a5, a6, a7, a8], _ => exact ⟨a0, a1, a2, a3, a4, a5, a6, a7, a8, rfl⟩
theorem rs2b {a0 : yA} {a : Int} {u : List Int} {n k : Nat} {vs : List Value} (he : a0 = .inr (.inr (.inl (([], .ofNat n), k)))) (h : ySR b sz ySr (a :: u) [a0, .inl ([(0, .ofNat 1)], .ofNat 0)] vs) : xSR b sz ySr [.inr (.inr (.inl (n, k))), .inl a] vs := by
  subst he
  obtain ⟨w0, s0, rfl, hw0, hS0⟩ := ySR_cons h
  obtain ⟨w1, s1, rfl, hw1, hS1⟩ := ySR_cons hS0
  have := ySR_nil hS1
  subst this
  exact ⟨yV_ref (n := n) hw0 (yev_cn _ (n : Int)), yV_int hw1 ((yev1 rfl).trans (congrArg some (Int.add_zero _))), trivial⟩
theorem x32_in (x : Int32) : -2147483648 ≤ x.toInt ∧ x.toInt ≤ 2147483647 := by
  have a1 := x.le_toInt
  have a2 := x.toInt_lt
  constructor
  · simpa using a1
  · omega
theorem cThs_87 {T : Nat} {c : tC} (h : cThs T c) : ∀ j, j < T → c.2 87 j = some (eN c 87 j) := fun j hj => by
  obtain ⟨⟨x, hx⟩, -⟩ := h.2 j hj
  rw [eN_of hx]
  exact hx
theorem yev2 {x y : Int} (h0 : v[0]? = some x) (h1 : v[1]? = some y) : yev v (([(0, .ofNat 8589934592), (1, .ofNat 1)], .ofNat 0) : yE) = some (8589934592 * x + y) := by
  simp only [yev, yevT, h0, h1]
  simp
/-- an array's cell, of the kinds that the second machine knows -/
theorem xIm_ar (hW : yWd sz ySr yTt ca ws) {i t n : Nat} {p : Nat × Nat} {ar : yAr} (hi : ySr[i]? = some t) (hk : zget yTt t = some (p, .inr (2, n, ar))) : ∃ (c : Nat × va_E) (f : Nat → Int32), ws[i]? = some c ∧ (∀ j, yct c.2 j = if j < n then some (.int (f j)) else none) ∧ (∀ j, j < n → yArOk ar j (f j).toInt) ∧ ∀ j, xIm sz ws i j = if j < n then (f j).toInt else 0 := by
  have hl : i < ws.length := by rw [hW.1]; exact (List.getElem?_eq_some_iff.mp hi).1
  obtain ⟨-, t', kd, h2, h3, h4⟩ := hW.2 i ws[i] (List.getElem?_eq_getElem hl)
  rw [hi] at h2
  have h2 := Option.some.inj h2
  subst h2
  rw [hk] at h3
  have h3 := Option.some.inj h3
  subst h3
  rcases h4 with ⟨-, f, e, hf⟩ | ⟨h, -⟩
  · have hy : ∀ j, yct (ws[i]).2 j = if j < n then some (.int (f j)) else none := fun j => by rw [e]; rfl
    refine ⟨ws[i], f, List.getElem?_eq_getElem hl, hy, hf, fun j => ?_⟩
    unfold xIm
    rw [List.getElem?_eq_getElem hl]
    simp only [hy j]
    by_cases hj : j < n
    · simp only [if_pos hj]
    · simp only [if_neg hj]
  · exact absurd h (by decide)
theorem xIm_rg (hW : yWd sz ySr yTt ca ws) {i t n : Nat} {p : Nat × Nat} {lo hi : Int} {qs : List (Nat × Nat × Int × Int)} (hi' : ySr[i]? = some t) (hk : zget yTt t = some (p, .inr (2, n, lo, hi, qs, 0))) {j : Nat} (hj : j < n) : lo ≤ xIm sz ws i j ∧ xIm sz ws i j ≤ hi := by
  obtain ⟨c, f, -, -, h3, h4⟩ := xIm_ar hW hi' hk
  rw [h4 j, if_pos hj]
  exact (h3 j hj).1
theorem first_c (hW : yWd sz ySr yTt ca ws) {r j : Nat} (hr : r = 2 ∨ r = 13) (hj : j < 6) : 0 ≤ xIm sz ws (r + 2) j ∧ xIm sz ws (r + 2) j ≤ 999 := by
  rcases hr with rfl | rfl
  · exact xIm_rg hW (t := 4) (p := (4, 15)) (qs := []) (by decide +kernel) (by rfl) hj
  · exact xIm_rg hW (t := 4) (p := (4, 15)) (qs := []) (by decide +kernel) (by rfl) hj
theorem first_r (hW : yWd sz ySr yTt ca ws) {e : yE} {n lo hi : Int} {en el eh : yE} (h : yPk ySr v ws ((e, 83), en, el, eh)) (h0 : yev v e = some 94) (h1 : yev v en = some n) (h2 : yev v el = some lo) (h3 : yev v eh = some hi) {j : Nat} (hj6 : j < 6) (hj : (j : Int) < n) : lo ≤ xIm sz ws 94 j ∧ xIm sz ws 94 j ≤ hi := by
  obtain ⟨c, f, g1, g2, -, g4⟩ := xIm_ar hW (i := 94) (t := 83) (n := 6) (p := (94, 94)) (ar := (.negSucc 2147483647, .ofNat 2147483647, [], 0)) (by decide +kernel) (by rfl)
  obtain ⟨i, n', lo', hi', a1, a2, a3, a4, a5, -⟩ := h
  rw [h0] at a1
  rw [h1] at a2
  rw [h2] at a3
  rw [h3] at a4
  obtain rfl := Option.some.inj a2
  obtain rfl := Option.some.inj a3
  obtain rfl := Option.some.inj a4
  rw [g4 j, if_pos hj6]
  exact a5 94 c (Option.some.inj a1).symm (show ySr[94]? = some 83 by decide +kernel) g1 j (f j) hj (by rw [g2 j, if_pos hj6])
theorem rsA {a0 : yA} {h w k : Int} {u : List Int} {n k1 : Nat} {vs : List Value} (he : a0 = .inr (.inr (.inl (([], .ofNat n), k1)))) (hy : ySR b sz ySr (h :: w :: k :: u) [a0, .inl ([(0, .ofNat 1)], .ofNat 0), .inl ([(1, .ofNat 1)], .ofNat 0), .inl ([(2, .ofNat 1)], .ofNat 0)] vs) : xSR b sz ySr [.inr (.inr (.inl (n, k1))), .inl h, .inl w, .inl k] vs := by
  subst he
  obtain ⟨w0, s0, rfl, hw0, hS0⟩ := ySR_cons hy
  obtain ⟨w1, s1, rfl, hw1, hS1⟩ := ySR_cons hS0
  obtain ⟨w2, s2, rfl, hw2, hS2⟩ := ySR_cons hS1
  obtain ⟨w3, s3, rfl, hw3, hS3⟩ := ySR_cons hS2
  have := ySR_nil hS3
  subst this
  exact ⟨yV_ref (n := n) hw0 (yev_cn _ (n : Int)), yV_int hw1 ((yev1 rfl).trans (congrArg some (Int.add_zero _))), yV_int hw2 ((yev1 rfl).trans (congrArg some (Int.add_zero _))), yV_int hw3 ((yev1 rfl).trans (congrArg some (Int.add_zero _))), trivial⟩
set_option maxRecDepth 100000 in
theorem yXs_X11_ask : yX 145 yc_165 := by
  intro l hT B hall
  refine yCt_strong (ct := yc_87) (R := 24) (d := 20) (rk := 1) (by decide) (by decide) rfl (yX_pl hT rfl yv_87 hall) rfl rfl rfl rfl (fun vt h => h) (fun q hq => hq) (fun q hq => absurd hq List.not_mem_nil) ?_
  intro b sz vt ws ca hRS hW hM hP _
  obtain ⟨hlen, hB, -, -⟩ := hRS
  obtain ⟨h, w, k, c0, a, rfl⟩ := vt5 hlen
  have b1 := bdz hB (mem_at 3 rfl) (rfl : [h, w, k, c0, a][3]? = some c0)
  have b1 : 0 ≤ c0 ∧ c0 ≤ 20 := b1
  obtain ⟨c, rfl⟩ : ∃ c : Nat, c0 = (c : Int) := ⟨c0.toNat, by omega⟩
  have hLA : gLAND (xIm sz ws) a := gLA_im hW (yPk_to (hP _ (mem_at 0 rfl)) ((yev1 rfl).trans (congrArg some (Int.add_zero _))) (yev_cn _ 0) (yev_cn _ 0))
  have hLK : gLKS (xIm sz ws) (c : Int) := (gLK_ct hW (xIm_ct hW) (by omega)).mp (yPk_to (hP _ (mem_at 1 rfl)) ((yev1 rfl).trans (congrArg some (Int.add_zero _))) (yev_cn _ 0) (yev_cn _ 0))
  have hU : gUP (yKo ySr ws 53) (yKo ySr ws 109) (-1) 0 := yPk_to (hP _ (mem_at 2 rfl)) (yev_cn _ (-1)) (yev_cn _ 0) (yev_cn _ 0)
  rw [lk_B hW, lk_B2 hW] at hU
  obtain ⟨r, T, nL, q, D, ha, hr, hok, ⟨g1, g2, g3, g4⟩, g5, g6, g7, g8⟩ := hLA
  subst ha
  have hok := gOK_cut hok
  obtain ⟨hth, hc, h2, h9⟩ := id hok
  have hrow : ∀ k, k < 10 → xIm sz ws r (4 + k) = ((r + 1 + k : Nat) : Int) := by
    intro k hk
    have hk10 : k = 0 ∨ k = 1 ∨ k = 2 ∨ k = 3 ∨ k = 4 ∨ k = 5 ∨ k = 6 ∨ k = 7 ∨ k = 8 ∨ k = 9 := by omega
    rcases hk10 with rfl | rfl | rfl | rfl | rfl | rfl | rfl | rfl | rfl | rfl
    · exact (yMk_ref (i := r) (j := 4) (n := r + 1) (hM _ (mem_at 3 rfl)) (yevN (k := 0) rfl) (yev_cn _ 4) (yevN (k := 1) rfl)).trans (congrArg Int.ofNat (by omega))
    · exact (yMk_ref (i := r) (j := 5) (n := r + 2) (hM _ (mem_at 4 rfl)) (yevN (k := 0) rfl) (yev_cn _ 5) (yevN (k := 2) rfl)).trans (congrArg Int.ofNat (by omega))
    · exact (yMk_ref (i := r) (j := 6) (n := r + 3) (hM _ (mem_at 5 rfl)) (yevN (k := 0) rfl) (yev_cn _ 6) (yevN (k := 3) rfl)).trans (congrArg Int.ofNat (by omega))
    · exact (yMk_ref (i := r) (j := 7) (n := r + 4) (hM _ (mem_at 6 rfl)) (yevN (k := 0) rfl) (yev_cn _ 7) (yevN (k := 4) rfl)).trans (congrArg Int.ofNat (by omega))
    · exact (yMk_ref (i := r) (j := 8) (n := r + 5) (hM _ (mem_at 7 rfl)) (yevN (k := 0) rfl) (yev_cn _ 8) (yevN (k := 5) rfl)).trans (congrArg Int.ofNat (by omega))
    · exact (yMk_ref (i := r) (j := 9) (n := r + 6) (hM _ (mem_at 8 rfl)) (yevN (k := 0) rfl) (yev_cn _ 9) (yevN (k := 6) rfl)).trans (congrArg Int.ofNat (by omega))
    · exact (yMk_ref (i := r) (j := 10) (n := r + 7) (hM _ (mem_at 9 rfl)) (yevN (k := 0) rfl) (yev_cn _ 10) (yevN (k := 7) rfl)).trans (congrArg Int.ofNat (by omega))
    · exact (yMk_ref (i := r) (j := 11) (n := r + 8) (hM _ (mem_at 10 rfl)) (yevN (k := 0) rfl) (yev_cn _ 11) (yevN (k := 8) rfl)).trans (congrArg Int.ofNat (by omega))
    · exact (yMk_ref (i := r) (j := 12) (n := r + 9) (hM _ (mem_at 11 rfl)) (yevN (k := 0) rfl) (yev_cn _ 12) (yevN (k := 9) rfl)).trans (congrArg Int.ofNat (by omega))
    · exact (yMk_ref (i := r) (j := 13) (n := r + 10) (hM _ (mem_at 12 rfl)) (yevN (k := 0) rfl) (yev_cn _ 13) (yevN (k := 10) rfl)).trans (congrArg Int.ofNat (by omega))
  have h0 : xIm sz ws 59 0 = (c : Int) := yMk_int (hM _ (mem_at 0 rfl)) (yev_cn _ 59) (yev_cn _ 0) ((yev1 rfl).trans (congrArg some (Int.add_zero _)))
  have h98 : xIm sz ws 74 98 = (c : Int) := yMk_int (hM _ (mem_at 23 rfl)) (yev_cn _ 74) (yev_cn _ 98) ((yev1 rfl).trans (congrArg some (Int.add_zero _)))
  have ht : xIm sz ws 0 3 = (r : Int) := (yMk_ref (i := 0) (j := 3) (n := r) (hM _ (mem_at 1 rfl)) (yev_cn _ 0) (yev_cn _ 3) (yevN (k := 0) rfl))
  have hL : cLand T r (tcut q) nL D (xIm sz ws) := ⟨hr, hrow, gCL_to g1, g2, g4, cThs_87 hth⟩
  have hK : kOk T (c, xIm sz ws 60, xIm sz ws 61, xIm sz ws 62, xIm sz ws 63, xIm sz ws 64) := by
    refine ⟨by show c ≤ 20; omega, hth.1, fun l hl => ?_⟩
    have hl : l < c := hl
    obtain ⟨-, k1, k2, k3⟩ := hLK l (by omega)
    rw [g6] at k2
    exact ⟨k1, k2, k3, (hU l (by omega)).1⟩
  obtain ⟨F, f1⟩ := cv_ask (d := 21) (k := k) (h := h) (w := w) (by decide) hc hth.1 h2 h9 hK hL ⟨xIm_rf (c := 65) hW (by decide +kernel), ht⟩ ⟨⟨⟨xIm_rf (c := 59) hW (by decide +kernel), xIm_rf (c := 37) hW (by decide +kernel), xIm_rf (c := 70) hW (by decide +kernel), xIm_rf (c := 66) hW (by decide +kernel), xIm_rf (c := 69) hW (by decide +kernel)⟩, xIm_rf (c := 38) hW (by decide +kernel), xIm_rf (c := 39) hW (by decide +kernel), xIm_rf (c := 40) hW (by decide +kernel)⟩, xIm_rf (c := 67) hW (by decide +kernel), xIm_rf (c := 68) hW (by decide +kernel)⟩ ⟨xIm_rf (c := 71) hW (by decide +kernel), xIm_rf (c := 72) hW (by decide +kernel)⟩ ⟨⟨h0, xIm_rf (c := 60) hW (by decide +kernel), xIm_rf (c := 61) hW (by decide +kernel), xIm_rf (c := 62) hW (by decide +kernel), xIm_rf (c := 63) hW (by decide +kernel), xIm_rf (c := 64) hW (by decide +kernel)⟩, fun l _ => ⟨rfl, rfl, rfl, rfl, rfl⟩⟩ g3 (fun j hj => first_c hW hr hj)
  refine ⟨_, _, F, fun vs hv => rsA rfl hv, f1, fun ws1 rv q' u hW1 hF hC hret _ _ _ _ _ => ?_⟩
  obtain ⟨x, rfl, hx⟩ := hret
  have hg : gANS (fASK k h w) (xIm sz ws) x.toInt := by
    refine ⟨T, nL, tcut q, D, (c, xIm sz ws 60, xIm sz ws 61, xIm sz ws 62, xIm sz ws 63, xIm sz ws 64), hx, hok, rLd_cut g5, g6, g7, g8, hK, h98, fun l hl => ?_⟩
    have hl : l < c := hl
    obtain ⟨⟨k1, k2, k3, k4⟩, -⟩ := hLK l (by omega)
    exact ⟨k1.symm, k2.symm, k3.symm, k4.symm, ((hU l (by omega)).2.2 (by omega)).symm⟩
  have hw32 : -2147483648 ≤ w ∧ w ≤ 2147483647 := bdz hB (mem_at 1 rfl) (rfl : [h, w, k, (c : Int), (r : Int)][1]? = some w)
  have hp : yPk ySr ([h, w, k, (c : Int), (r : Int)] ++ [x.toInt]) ws ((([], .ofNat 0), 982), ([(5, .ofNat 1)], .ofNat 0), ([(2, .ofNat 1)], .ofNat 0), ([(0, .ofNat 8589934592), (1, .ofNat 1)], .ofNat 0)) := yPk_of hT.2.2.1 (by decide) ((yev1 rfl).trans (congrArg some (Int.add_zero _))) ((yev1 rfl).trans (congrArg some (Int.add_zero _))) (yev2 rfl rfl) (show gASK (kC (yKo ySr ws)) x.toInt k (8589934592 * h + w) from ⟨h, w, hw32, rfl, gAN_of hW hg⟩)
  refine ⟨_, mem_at 0 rfl, [x.toInt], ⟨rfl, fun q hq => ?_, fun q hq => absurd hq List.not_mem_nil, fun q hq => absurd hq List.not_mem_nil⟩, ⟨.int x, rfl, x, rfl, ((yev1 rfl).trans (congrArg some (Int.add_zero _)))⟩, fun q hq => absurd hq List.not_mem_nil, fun q hq => ?_⟩
  · have hq := List.mem_singleton.mp hq
    subst hq
    exact yRB_one rfl (x32_in x).1 (x32_in x).2
  · have hq := List.mem_singleton.mp hq
    subst hq
    exact ykeP_ok hT.2.2.1 hT.2.2.2 hW hW1 hF (by decide +kernel) hp
set_option maxRecDepth 100000 in
theorem yXs_X12_ask : yX 267 yc_166 := by
  intro l hT B hall
  refine yCt_strong (ct := yc_161) (R := 24) (d := 20) (rk := 1) (by decide) (by decide) rfl (yX_pl hT rfl yv_161 hall) rfl rfl rfl rfl (fun vt h => h) (fun q hq => hq) (mem_sub rfl) ?_
  intro b sz vt ws ca hRS hW hM hP _
  obtain ⟨hlen, hB, -, -⟩ := hRS
  obtain ⟨h, w, k, t0, n, rfl⟩ : ∃ h w k t0 n, vt = [h, w, k, t0, n] := by
    match vt, hlen with
    | [h, w, k, t0, n], _ => exact ⟨h, w, k, t0, n, rfl⟩
  have hFI0 : gASK (kC (yKo ySr ws)) n k (8589934592 * h + w) := yPk_to (hP _ (mem_at 3 rfl)) ((yev1 rfl).trans (congrArg some (Int.add_zero _))) ((yev1 rfl).trans (congrArg some (Int.add_zero _))) (yev2 rfl rfl)
  have hw32 : -2147483648 ≤ w ∧ w ≤ 2147483647 := bdz hB (mem_at 1 rfl) (rfl : [h, w, k, t0, n][1]? = some w)
  obtain ⟨h', w', hw', he', hFI⟩ := hFI0
  have eh : h' = h := by omega
  have ew : w' = w := by omega
  rw [eh, ew] at hFI
  have hFI := gAN_im hW hFI
  obtain ⟨T, nL, c, D, K, hn, ⟨hth, hc, h2, h9⟩, g5, g6, g7, g8, hK, h98, hrows⟩ := hFI
  have hL : rLand T c nL D (xIm sz ws) := ⟨⟨⟨xIm_rf (c := 81) hW (by decide +kernel), xIm_rf (c := 82) hW (by decide +kernel), xIm_rf (c := 83) hW (by decide +kernel), xIm_rf (c := 84) hW (by decide +kernel), xIm_rf (c := 86) hW (by decide +kernel)⟩, xIm_rf (c := 101) hW (by decide +kernel), xIm_rf (c := 102) hW (by decide +kernel), xIm_rf (c := 95) hW (by decide +kernel), xIm_rf (c := 99) hW (by decide +kernel), xIm_rf (c := 100) hW (by decide +kernel), xIm_rf (c := 94) hW (by decide +kernel), xIm_rf (c := 96) hW (by decide +kernel)⟩, g5, g7, g8, cThs_87 hth⟩
  have h49 : xIm sz ws 74 49 = t0 := yMk_int (hM _ (mem_at 0 rfl)) (yev_cn _ 74) (yev_cn _ 49) ((yev1 rfl).trans (congrArg some (Int.add_zero _)))
  have hBr : ∀ j, j < T → 0 ≤ eN c 87 j ∧ eN c 87 j ≤ 999 := fun j hj => by
    have hT6 := hth.1
    obtain ⟨es, z1, z2, z3, z4, z5⟩ := id g5
    have ej : xIm sz ws 94 j = eN c 87 j := (z5 j _).1 (by clear z1 z2 z3 z4 z5; omega) (cThs_87 hth j hj)
    rw [← ej]
    exact first_r hW (hP _ (mem_at 0 rfl)) (yev_cn _ 94) ((yev1 rfl).trans (congrArg some (Int.add_zero _))) (yev_cn _ 0) (yev_cn _ 999) (by clear z1 z2 z3 z4 z5; omega) (by rw [← h49, g6]; clear z1 z2 z3 z4 z5 ej; omega)
  obtain ⟨F, f1⟩ := rv_question (d := 21) (k := k) (h := h) (w := w) (by decide) hc hth.1 h2 h9 hK ⟨hL, ⟨⟨h98, xIm_rf (c := 116) hW (by decide +kernel), xIm_rf (c := 117) hW (by decide +kernel), xIm_rf (c := 118) hW (by decide +kernel), xIm_rf (c := 119) hW (by decide +kernel), xIm_rf (c := 120) hW (by decide +kernel)⟩, hrows⟩, g6, xIm_rf (c := 121) hW (by decide +kernel)⟩ hBr
  refine ⟨_, _, F, fun vs hv => rsA rfl hv, f1, fun ws1 rv q' u hW1 hF hC hret _ _ _ _ _ => ?_⟩
  obtain ⟨x, rfl, hx⟩ := hret
  refine ⟨_, mem_at 0 rfl, [], ⟨rfl, fun q hq => absurd hq List.not_mem_nil, fun q hq => absurd hq List.not_mem_nil, fun q hq => absurd hq List.not_mem_nil⟩, ⟨.int x, rfl, x, rfl, ?_⟩, fun q hq => absurd hq List.not_mem_nil, fun q hq => absurd hq List.not_mem_nil⟩
  have hn : n = _ := hn
  rw [hx]
  refine Eq.trans ?_ (congrArg some hn)
  exact ((yev1 rfl).trans (congrArg some (Int.add_zero _)))
set_option maxRecDepth 100000 in
set_option maxHeartbeats 1000000 in
theorem yXs_X12_land : yX 194 yc_199 := by
  intro l hT B hall
  refine yCt_strong (ct := yc_120) (R := 140) (d := 130) (rk := 1) (by decide) (by decide) rfl (yX_pl hT rfl yv_120 hall) rfl rfl rfl rfl (fun vt h => h) (fun q hq => hq) (mem_sub rfl) ?_
  intro b sz vt ws ca hRS hW hM hP _
  obtain ⟨hlen, hB, -, -⟩ := hRS
  obtain ⟨t0, ac, un, x0, lk, xf, xq, xw, a, rfl⟩ := vt9 hlen
  have b3 := bdz hB (mem_at 3 rfl) (rfl : [t0, ac, un, x0, lk, xf, xq, xw, a][3]? = some x0)
  have b3 : 0 ≤ x0 ∧ x0 ≤ 1700 := b3
  obtain ⟨N, rfl⟩ : ∃ N : Nat, x0 = (N : Int) := ⟨x0.toNat, by omega⟩
  have hT1 : gTXT (yKo ySr ws 1) (yKo ySr ws 64) (N : Int) := yPk_to (hP _ (mem_at 2 rfl)) (yevN (k := 0) rfl) (yev_cn _ 0) (yev_cn _ 0)
  rw [rt_B hW, rt_B2 hW] at hT1
  have hDK : gDRF (kC (yKo ySr ws)) a (N : Int) := yPk_to (hP _ (mem_at 6 rfl)) ((yev1 rfl).trans (congrArg some (Int.add_zero _))) (yev_cn _ 0) (yevN (k := 0) rfl)
  obtain ⟨r, N', s, ha, hr, hN', hN17, hs, d1, d2, d3, d4⟩ := gDR_im hW (by omega) hDK
  have e : N = N' := by omega
  subst e
  have hN1 : xIm sz ws 74 1 = (N : Int) := yMk_int (hM _ (mem_at 3 rfl)) (yev_cn _ 74) (yev_cn _ 1) (yevN (k := 0) rfl)
  have hPt : rPt (xIm sz ws) := ⟨xIm_rf (c := 76) hW (by decide +kernel), xIm_rf (c := 77) hW (by decide +kernel), xIm_rf (c := 78) hW (by decide +kernel), xIm_rf (c := 79) hW (by decide +kernel), xIm_rf (c := 80) hW (by decide +kernel), xIm_rf (c := 85) hW (by decide +kernel), xIm_rf (c := 87) hW (by decide +kernel), xIm_rf (c := 88) hW (by decide +kernel), xIm_rf (c := 89) hW (by decide +kernel), xIm_rf (c := 90) hW (by decide +kernel), xIm_rf (c := 91) hW (by decide +kernel), xIm_rf (c := 92) hW (by decide +kernel), xIm_rf (c := 93) hW (by decide +kernel), rPz_im hW⟩
  obtain ⟨F, f1, f2, f3⟩ := rv_land (d := 131) (N := N) (C := xIm sz ws) (g := xIm sz ws 1) (by decide) (xIm_rf (c := 75) hW (by decide +kernel)) hN1 hN17 (fun j hj => hT1 j (by omega)) hPt hs
  obtain ⟨o1, o2, o3⟩ := rd_legal hs
  refine ⟨[mR], _, F, fun vs h => ?_, f1, fun ws1 rv q u hW1 hF hC hret hq hR hrv hqM hqP => ?_⟩
  · obtain ⟨w0, s0, rfl, hw0, hS0⟩ := ySR_cons h
    have := ySR_nil hS0
    subst this
    exact ⟨yV_ref (n := 74) hw0 (yev_cn _ 74), trivial⟩
  · obtain ⟨x, rfl, hx⟩ := hret
    have hLA : gLAND (kC (yKo ySr ws1)) a := by
      have sc := cSm_fr hW hW1 hF (by decide +kernel) (by decide +kernel)
      have sd := cSm_symm (cSm_ct hW (xIm_ct hW))
      have sr := rSm_symm (rSm_ct hW1 hC)
      obtain ⟨⟨a0, -⟩, a2, -⟩ := sd r hr
      obtain ⟨⟨c0, -⟩, c2, -⟩ := sc r hr
      obtain ⟨-, l1, l2, l3, -⟩ := f2
      have q := sr.2.2.2.2.2.2.2.2
      exact ⟨r, _, _, _, _, ha, hr, ⟨o2, o3, o1⟩, ⟨gCL_keep hr sc (gCL_keep hr sd d1), (c2 1 (by decide)).symm.trans ((a2 1 (by decide)).symm.trans d2), (c2 0 (by decide)).symm.trans ((a2 0 (by decide)).symm.trans d3), c0.symm.trans (a0.symm.trans d4)⟩, rLd_keep sr l1, (kC_fd hW1 hC (by decide +kernel)).trans f3, q.1.symm.trans l2, q.2.1.symm.trans l3⟩
    rcases List.mem_cons.mp hq with rfl | hq
    · obtain ⟨w, hw1, y, hy1, hy2⟩ := hrv
      have hw1 := Option.some.inj hw1
      subst hw1
      obtain rfl : x = y := by cases hy1; rfl
      have e0 : yev ([t0, ac, un, (N : Int), lk, xf, xq, xw, a] ++ u) (([], .negSucc 0) : yE) = some (-1) := yev_cn _ (-1)
      have := Option.some.inj (e0.symm.trans hy2)
      omega
    have hq := List.mem_singleton.mp hq
    subst hq
    refine ⟨_, mem_at 0 rfl, u, hR, hrv, hqM, fun x' hx' => ?_⟩
    rcases List.mem_cons.mp hx' with rfl | hx'
    · exact hqP _ (mem_at 0 rfl)
    rcases List.mem_cons.mp hx' with rfl | hx'
    · exact hqP _ (mem_at 1 rfl)
    rcases List.mem_cons.mp hx' with rfl | hx'
    · exact hqP _ (mem_at 2 rfl)
    have hx' := List.mem_singleton.mp hx'
    subst hx'
    exact yPk_of hT.2.2.1 (by decide) ((yev1 rfl).trans (congrArg some (Int.add_zero _))) (yev_cn _ 0) (yev_cn _ 0) (show gLAND (kC (yKo ySr ws1)) a from hLA)
end xHandF
