/-! The readers, feed: contracts that say what the text tells. -/
/-- a contract by hand: it holds as soon as all hold of what is less deep -/
def yX (j : Nat) (ct : yCt) : Prop := ∀ (l : Launch), yTOk ySr yTt → ∀ (B : Nat), (∀ j cs c, zget yTb j = some cs → c ∈ cs → yCtT l ySr yTt zMi (B : Int) j c) → yCtT l ySr yTt zMi ((B : Int) + 1) j ct
section xHand
variable {b sz : Nat} {ca : Nat → ClassId} {ws ws1 : va_W} {v : List Int} {C1 : xC} {g : Nat → Int} {N : Nat} {tt : List yKd}
theorem yX_pl {l : Launch} {j nL B : Nat} {cd : zCode} {ct : yCt} {hs : List yHd} (hT : yTOk ySr yTt) (hm : zget zMt j = some (nL, cd)) (h : (yrkB ct && (yver0 yTt zMt yTb nL cd ct hs && yverA yTt zMt yTb cd ct hs hs)) = true) (hall : ∀ j cs c, zget yTb j = some cs → c ∈ cs → yCtT l ySr yTt zMi (B : Int) j c) : yCtT l ySr yTt zMi ((B : Int) + 1) j ct := by
  rw [Bool.and_eq_true, Bool.and_eq_true] at h
  exact yver_ok hT zClsOK_all zMiOK_all zCdOK_all zGen_all hall hm (yrkB_ok h.1) h.2.1 h.2.2
theorem mem_at {α : Type} {l : List α} {x : α} (k : Nat) (h : l[k]? = some x) : x ∈ l := List.mem_of_getElem? h
theorem yev1 {i : Nat} {x k : Int} (h : v[i]? = some x) : yev v (([(i, 1)], k) : yE) = some (x + k) := by simp [yev, yevT, h]
theorem yevN {i n k : Nat} (h : v[i]? = some (n : Int)) : yev v (([(i, 1)], Int.ofNat k) : yE) = some ((n + k : Nat) : Int) := by
  rw [yev1 h]
  rfl
theorem ySr_2 {i : Nat} (h : ySr[i]? = some 2) : i = 2 ∨ i = 13 := by
  have h0 : ∀ i : Nat, i < 126 → ySr[i]? = some 2 → i = 2 ∨ i = 13 := by decide +kernel
  have hl : ySr.length = 126 := by decide +kernel
  exact h0 i (by rw [← hl]; exact (List.getElem?_eq_some_iff.mp h).1) h
theorem yV_ref {e : yE} {t n : Nat} {w : Value} (h : yV b sz ySr v (.inr (.inr (.inl (e, t)))) w) (he : yev v e = some (n : Int)) : xRv b sz ySr (.inr (.inr (.inl (n, t)))) w := by
  obtain ⟨i, rfl, h2, h3⟩ := h
  rw [he] at h2
  have e1 : n = i := by have := Option.some.inj h2; omega
  subst e1
  exact ⟨rfl, h3⟩
theorem yV_int {e : yE} {z : Int} {w : Value} (h : yV b sz ySr v (.inl e) w) (he : yev v e = some z) : xRv b sz ySr (.inl z) w := by
  obtain ⟨x, rfl, h2⟩ := h
  rw [he] at h2
  exact ⟨x, rfl, (Option.some.inj h2).symm⟩
theorem yMk_ct {e ix a : yE} {t i j : Nat} {z : Int} (hC : xCt sz C1 ws1) (h : yMk b sz ySr v ws1 ((e, t, ix), .inl a)) (he : yev v e = some (i : Int)) (hix : yev v ix = some (j : Int)) (ha : yev v a = some z) : C1 i j = z := by
  obtain ⟨i', j', c, w, h1, h2, h3, h4, h5, h6⟩ := h
  rw [he] at h1
  rw [hix] at h3
  have e1 : i = i' := by have := Option.some.inj h1; omega
  have e2 : j = j' := by have := Option.some.inj h3; omega
  subst e1
  subst e2
  obtain ⟨x, rfl, hx⟩ := h6
  rw [ha] at hx
  have := hC i j c _ h4 h5
  rw [show C1 i j = x.toInt from this]
  exact (Option.some.inj hx).symm
theorem yPk_to {e en el eh : yE} {t : Nat} {zn zl zh : Int} (h : yPk ySr v ws ((e, t), en, el, eh)) (h1 : yev v en = some zn) (h2 : yev v el = some zl) (h3 : yev v eh = some zh) : yGh t zn zl zh (yKo ySr ws) := by
  obtain ⟨i, n, lo, hi, a1, a2, a3, a4, -, a6⟩ := h
  rw [h1] at a2
  rw [h2] at a3
  rw [h3] at a4
  rw [Option.some.inj a2, Option.some.inj a3, Option.some.inj a4]
  exact a6
theorem yPk_of {en el eh : yE} {t : Nat} {zn zl zh : Int} (h9 : yT9 ySr) (ht : 900 ≤ t) (h1 : yev v en = some zn) (h2 : yev v el = some zl) (h3 : yev v eh = some zh) (g : yGh t zn zl zh (yKo ySr ws)) : yPk ySr v ws ((([], .ofNat 0), t), en, el, eh) :=
  ⟨0, zn, zl, zh, yev_cn v 0, h1, h2, h3, fun i' c _ hsr _ => absurd (h9.1 i' _ hsr).1 (show ¬ t < 900 by omega), g⟩
/-- a place of an array -/
theorem yMk_ofA {e ix a : yE} {t i k len kd : Nat} {q : Nat × Nat} {ar : yAr} (hW : yWd sz ySr yTt ca ws1) (hC : xCt sz C1 ws1) (hi : zget ySr i = some t) (ht : zget xtt t = some (q, .inr (kd, len, ar))) (hkd : kd < 3) (hk : k < len) (he : yev v e = some (i : Int)) (hix : yev v ix = some (k : Int)) (ha : yev v a = some (C1 i k)) : yMk b sz ySr v ws1 ((e, t, ix), .inl a) := by
  obtain ⟨cl, kd', g1, g2, g3⟩ := xCell hW hi
  rw [ht] at g2
  have g2 := Option.some.inj g2
  subst g2
  rw [zget_eq] at hi
  rcases g3 with ⟨-, f, e1, -⟩ | ⟨k3, -⟩
  · have hy : yct cl.2 k = some (.int (f k)) := by
      rw [e1]
      exact if_pos hk
    have hx : C1 i k = (f k).toInt := hC i k cl _ g1 hy
    exact ⟨i, k, cl, _, he, hi, hix, g1, hy, f k, rfl, by rw [ha, hx]⟩
  · omega
/-- the first count of a land -/
theorem xCnt_le {i : Nat} (hW : yWd sz ySr yTt ca ws1) (hC : xCt sz C1 ws1) (hi : ySr[i]? = some 3) : 0 ≤ C1 i 0 ∧ C1 i 0 ≤ 6 := by
  have hl : i < ws1.length := by rw [hW.1]; exact (List.getElem?_eq_some_iff.mp hi).1
  obtain ⟨h1, t', kd, h2, h3, h4⟩ := hW.2 i ws1[i] (List.getElem?_eq_getElem hl)
  rw [hi] at h2
  have h2 := Option.some.inj h2
  subst h2
  have hz : zget yTt 3 = some ((3, 14), .inr (2, 5, .ofNat 0, .ofNat 6, [(0, 0, .ofNat 0, .ofNat 6), (0, 1, .ofNat 0, .ofNat 5), (0, 2, .ofNat 0, .ofNat 6), (0, 3, .ofNat 0, .ofNat 4), (0, 4, .ofNat 0, .ofNat 4)], 0)) := rfl
  rw [hz] at h3
  have h3 := Option.some.inj h3
  subst h3
  rcases h4 with ⟨-, f, e1, e2⟩ | ⟨k3, -⟩
  · have hy : yct ws1[i].2 0 = some (.int (f 0)) := by
      rw [e1]
      show (if 0 < 5 then some (Value.int (f 0)) else none) = some (Value.int (f 0))
      rw [if_pos (by decide)]
    have hx : C1 i 0 = (f 0).toInt := hC i 0 _ _ (List.getElem?_eq_getElem hl) hy
    have := (e2 0 (by decide)).2.1 (0, 0, .ofNat 0, .ofNat 6) (by simp) rfl
    rw [hx]
    exact this
  · omega
/-- a place of the only array of a kind -/
theorem yKo_ct {t i k len kd : Nat} {q : Nat × Nat} {ar : yAr} (hW : yWd sz ySr yTt ca ws1) (hC : xCt sz C1 ws1) (hx : Nat.beq (yiw ySr t) i = true) (hi : zget ySr i = some t) (ht : zget xtt t = some (q, .inr (kd, len, ar))) (hkd : kd < 3) (hk : k < len) : yKo ySr ws1 t k = C1 i k := by
  have hx := Nat.eq_of_beq_eq_true hx
  obtain ⟨cl, kd', g1, g2, g3⟩ := xCell hW hi
  rw [ht] at g2
  have g2 := Option.some.inj g2
  subst g2
  rcases g3 with ⟨-, f, e1, -⟩ | ⟨k3, -⟩
  · have hy : yct cl.2 k = some (.int (f k)) := by
      rw [e1]
      exact if_pos hk
    have hz : C1 i k = (f k).toInt := hC i k cl _ g1 hy
    unfold yKo
    rw [hx, g1]
    dsimp only
    rw [hy, hz]
  · omega
theorem rdOut_n (h : (rdOut g N).1 ≠ 0) : (rdOut g N).2.2 = -1 := by
  unfold rdOut at h ⊢
  cases hs : sAll (tkK g N) (tkP g N) (tkV g N) 1701 tS0 with
  | error x => rfl
  | ok s =>
    rw [hs] at h
    exact absurd rfl h
theorem yRB_one {i : Nat} {lo hi x : Int} (h : v[i]? = some x) (h1 : lo ≤ x) (h2 : x ≤ hi) : ∃ z, v[((i, lo, hi) : Nat × Int × Int).1]? = some z ∧ ((i, lo, hi) : Nat × Int × Int).2.1 ≤ z ∧ z ≤ ((i, lo, hi) : Nat × Int × Int).2.2 := ⟨x, h, h1, h2⟩
theorem rt_B (hW : yWd sz ySr yTt ca ws) : yKo ySr ws 1 = xIm sz ws 1 := yKo_im hW (by decide +kernel) (by decide +kernel)
theorem rt_B2 (hW : yWd sz ySr yTt ca ws) : yKo ySr ws 64 = xIm sz ws 75 := yKo_im hW (by decide +kernel) (by decide +kernel)
theorem rPz_im (hW : yWd sz ySr yTt ca ws) : rPz (xIm sz ws) := by
  intro q hq
  simp only [rPzL, List.mem_cons, List.not_mem_nil, or_false] at hq
  rcases hq with rfl | rfl | rfl | rfl | rfl | rfl | rfl | rfl | rfl | rfl | rfl | rfl | rfl | rfl | rfl | rfl
  · exact xIm_rf (c := 81) hW (by decide +kernel)
  · exact xIm_rf (c := 82) hW (by decide +kernel)
  · exact xIm_rf (c := 83) hW (by decide +kernel)
  · exact xIm_rf (c := 84) hW (by decide +kernel)
  · exact xIm_rf (c := 86) hW (by decide +kernel)
  · exact xIm_rf (c := 94) hW (by decide +kernel)
  · exact xIm_rf (c := 95) hW (by decide +kernel)
  · exact xIm_rf (c := 96) hW (by decide +kernel)
  · exact xIm_rf (c := 97) hW (by decide +kernel)
  · exact xIm_rf (c := 98) hW (by decide +kernel)
  · exact xIm_rf (c := 99) hW (by decide +kernel)
  · exact xIm_rf (c := 100) hW (by decide +kernel)
  · exact xIm_rf (c := 101) hW (by decide +kernel)
  · exact xIm_rf (c := 102) hW (by decide +kernel)
  · exact xIm_rf (c := 103) hW (by decide +kernel)
  · exact xIm_rf (c := 122) hW (by decide +kernel)
-- the class's reader
set_option maxRecDepth 100000 in
theorem yXs_X5_reads : yX 29 yc_24 := by
  intro l hT B hall
  refine yCt_strong (ct := yc_23) (R := 130) (d := 126) (rk := 1) (by decide) (by decide) rfl (yX_pl hT rfl yv_23 hall) rfl rfl rfl rfl (fun vt h => h) (fun q hq => absurd hq List.not_mem_nil) (fun q hq => absurd hq List.not_mem_nil) ?_
  intro b sz vt ws ca hRS hW hM hP hvs
  obtain ⟨vs0, hvs0⟩ := hvs
  obtain ⟨hlen, hB, -, -⟩ := hRS
  have hlen : vt.length = 3 := hlen
  obtain ⟨x0, x1, x2, rfl⟩ : ∃ x0 x1 x2, vt = [x0, x1, x2] := by
    match vt, hlen with
    | [x0, x1, x2], _ => exact ⟨x0, x1, x2, rfl⟩
  obtain ⟨z, hz1, hz2, hz3⟩ := hB (0, .ofNat 0, .ofNat 1700) (mem_at 0 rfl)
  have hz1 := Option.some.inj hz1
  subst hz1
  have hz2 : 0 ≤ x0 := hz2
  have hz3 : x0 ≤ 1700 := hz3
  obtain ⟨w0, s0, rfl, hw0, hS0⟩ := ySR_cons hvs0
  obtain ⟨w1, s1, rfl, hw1, hS1⟩ := ySR_cons hS0
  obtain ⟨w2, s2, rfl, hw2, hS2⟩ := ySR_cons hS1
  obtain ⟨r, -, hr2, hr3⟩ := hw2
  have hr := ySr_2 hr3
  have e1 : x1 = (r : Int) := by
    have h0 : yev [x0, x1, x2] (([(1, .ofNat 1)], .ofNat 0) : yE) = some (x1 + 0) := yev1 rfl
    rw [h0] at hr2
    have := Option.some.inj hr2
    omega
  subst e1
  obtain ⟨N, rfl⟩ : ∃ N : Nat, x0 = (N : Int) := ⟨x0.toNat, by omega⟩
  have hrow : ∀ k, k < 10 → xIm sz ws r (4 + k) = ((r + 1 + k : Nat) : Int) := by
    intro k hk
    have hk10 : k = 0 ∨ k = 1 ∨ k = 2 ∨ k = 3 ∨ k = 4 ∨ k = 5 ∨ k = 6 ∨ k = 7 ∨ k = 8 ∨ k = 9 := by omega
    rcases hk10 with rfl | rfl | rfl | rfl | rfl | rfl | rfl | rfl | rfl | rfl
    · exact (yMk_ref (i := r) (j := 4) (n := r + 1) (hM _ (mem_at 0 rfl)) (yevN (k := 0) rfl) (yev_cn _ 4) (yevN (k := 1) rfl)).trans (congrArg Int.ofNat (by omega))
    · exact (yMk_ref (i := r) (j := 5) (n := r + 2) (hM _ (mem_at 1 rfl)) (yevN (k := 0) rfl) (yev_cn _ 5) (yevN (k := 2) rfl)).trans (congrArg Int.ofNat (by omega))
    · exact (yMk_ref (i := r) (j := 6) (n := r + 3) (hM _ (mem_at 2 rfl)) (yevN (k := 0) rfl) (yev_cn _ 6) (yevN (k := 3) rfl)).trans (congrArg Int.ofNat (by omega))
    · exact (yMk_ref (i := r) (j := 7) (n := r + 4) (hM _ (mem_at 3 rfl)) (yevN (k := 0) rfl) (yev_cn _ 7) (yevN (k := 4) rfl)).trans (congrArg Int.ofNat (by omega))
    · exact (yMk_ref (i := r) (j := 8) (n := r + 5) (hM _ (mem_at 4 rfl)) (yevN (k := 0) rfl) (yev_cn _ 8) (yevN (k := 5) rfl)).trans (congrArg Int.ofNat (by omega))
    · exact (yMk_ref (i := r) (j := 9) (n := r + 6) (hM _ (mem_at 5 rfl)) (yevN (k := 0) rfl) (yev_cn _ 9) (yevN (k := 6) rfl)).trans (congrArg Int.ofNat (by omega))
    · exact (yMk_ref (i := r) (j := 10) (n := r + 7) (hM _ (mem_at 6 rfl)) (yevN (k := 0) rfl) (yev_cn _ 10) (yevN (k := 7) rfl)).trans (congrArg Int.ofNat (by omega))
    · exact (yMk_ref (i := r) (j := 11) (n := r + 8) (hM _ (mem_at 7 rfl)) (yevN (k := 0) rfl) (yev_cn _ 11) (yevN (k := 8) rfl)).trans (congrArg Int.ofNat (by omega))
    · exact (yMk_ref (i := r) (j := 12) (n := r + 9) (hM _ (mem_at 8 rfl)) (yevN (k := 0) rfl) (yev_cn _ 12) (yevN (k := 9) rfl)).trans (congrArg Int.ofNat (by omega))
    · exact (yMk_ref (i := r) (j := 13) (n := r + 10) (hM _ (mem_at 9 rfl)) (yevN (k := 0) rfl) (yev_cn _ 13) (yevN (k := 10) rfl)).trans (congrArg Int.ofNat (by omega))
  have h16 : ∀ u : List Int, yev ([(N : Int), (r : Int), x2] ++ u) (([(1, Int.negSucc 0)], Int.ofNat 16) : yE) = some ((16 - r : Nat) : Int) := fun u => by
    have g1 : ([(N : Int), (r : Int), x2] ++ u)[1]? = some (r : Int) := rfl
    simp only [yev, yevT, g1]
    congr 1
    rcases hr with rfl | rfl <;> rfl
  have hr16 : ySr[16 - r]? = some 3 := by
    rcases hr with rfl | rfl
    · decide +kernel
    · decide +kernel
  have hoth : xIm sz ws (16 - r) 0 = x2 := yMk_int (hM _ (mem_at 10 rfl)) (h16 []) (yev_cn _ 0) ((yev1 rfl).trans (congrArg some (Int.add_zero _)))
  have h15 : ∀ u : List Int, yev ([(N : Int), (r : Int), x2] ++ u) (([(1, Int.negSucc 0)], Int.ofNat 15) : yE) = some ((15 - r : Nat) : Int) := fun u => by
    have g1 : ([(N : Int), (r : Int), x2] ++ u)[1]? = some (r : Int) := rfl
    simp only [yev, yevT, g1]
    congr 1
    rcases hr with rfl | rfl <;> rfl
  have hLA : gLAND (kC (yKo ySr ws)) ((15 - r : Nat) : Int) := yPk_to (hP _ (mem_at 0 rfl)) (h15 []) (yev_cn _ 0) (yev_cn _ 0)
  obtain ⟨F, f1, f2, f3, f4, f7, f8⟩ := c_reads (d := 127) (N := N) (C := xIm sz ws) (g := xIm sz ws 1) (r := r) (by decide) (by omega) (xIm_rf (c := 1) hW (by decide +kernel)) ⟨xIm_rf (c := 27) hW (by decide +kernel), xIm_rf (c := 28) hW (by decide +kernel), xIm_rf (c := 29) hW (by decide +kernel)⟩ (fun j _ => rfl) ⟨xIm_rf (c := 26) hW (by decide +kernel), xIm_rf (c := 25) hW (by decide +kernel)⟩ hr hrow
  refine ⟨[pR, .inl (N : Int), .inr (.inr (.inl (r, 2)))], _, F, fun vs h => ?_, f1, fun ws1 rv q u hW1 hF hC hret _ _ _ _ _ => ?_⟩
  · obtain ⟨w0, s0, rfl, hw0, hS0⟩ := ySR_cons h
    obtain ⟨w1, s1, rfl, hw1, hS1⟩ := ySR_cons hS0
    obtain ⟨w2, s2, rfl, hw2, hS2⟩ := ySR_cons hS1
    have := ySR_nil hS2
    subst this
    exact ⟨yV_ref (n := 24) hw0 (yev_cn _ 24), yV_int hw1 ((yev1 rfl).trans (congrArg some (Int.add_zero _))), yV_ref (n := r) hw2 (yevN (k := 0) rfl), trivial⟩
  · have eK : yKo ySr ws1 1 = xIm sz ws 1 := (yKo_fr hW hW1 hF (i := 1) (by decide +kernel) (by decide +kernel) (by decide +kernel)).trans (rt_B hW)
    have gLA : gLAND (kC (yKo ySr ws1)) ((15 - r : Nat) : Int) := gLA_other hW hW1 hC hr f7 (rSm_fr hW hW1 hF (by decide +kernel) (by decide +kernel)) (yKo_fz (u := 63) (k := 49) hW hW1 hF (by decide +kernel)).symm hLA
    by_cases h0 : (rdOut (xIm sz ws 1) N).1 = 0
    · rw [if_pos h0] at hret
      obtain ⟨x, rfl, hx⟩ := hret
      obtain ⟨f5, f6⟩ := f4 h0
      obtain ⟨s, hs, oo, c, hcl⟩ := f8 h0
      have hr3b : ySr[r + 1]? = some 3 := by
        rcases hr with rfl | rfl
        · decide +kernel
        · decide +kernel
      have hle := xCnt_le hW1 hC hr3b
      refine ⟨_, mem_at 1 rfl, [F (r + 1) 0], ⟨rfl, fun q hq => ?_, fun q hq => absurd hq List.not_mem_nil, fun q hq => absurd hq List.not_mem_nil⟩, ⟨.int x, rfl, x, rfl, ?_⟩, fun q hq => ?_, fun q hq => ?_⟩
      · have hq := List.mem_singleton.mp hq
        subst hq
        exact yRB_one rfl hle.1 hle.2
      · rw [hx]; exact yev_cn _ 1
      · rcases List.mem_cons.mp hq with rfl | hq
        · exact yMk_of (i := 24) (k := 8) hW1 hC (by decide +kernel) (yev_cn _ 24) (yev_cn _ 8) (by rw [f2, h0]; exact yev_cn _ 0)
        rcases List.mem_cons.mp hq with rfl | hq
        · exact yMk_of (i := 24) (k := 9) hW1 hC (by decide +kernel) (yev_cn _ 24) (yev_cn _ 9) (by rw [f3, f6]; exact yev_cn _ (-1))
        rcases List.mem_cons.mp hq with rfl | hq
        · exact yMk_ofA (i := r + 1) (k := 0) hW1 hC (by rw [zget_eq]; exact hr3b) rfl (by decide) (by decide) (yevN (k := 1) rfl) (yev_cn _ 0) ((yev1 rfl).trans (congrArg some (Int.add_zero _)))
        have hq := List.mem_singleton.mp hq
        subst hq
        exact yMk_ofA (i := 16 - r) (k := 0) hW1 hC (by rw [zget_eq]; exact hr16) rfl (by decide) (by decide) (h16 _) (yev_cn _ 0) (by rw [f7 (16 - r) 0 (by omega) (by omega), hoth]; exact (yev1 rfl).trans (congrArg some (Int.add_zero _)))
      · rcases List.mem_cons.mp hq with rfl | hq
        · exact yPk_of hT.2.2.1 (by decide) (yev_cn _ 0) (yev_cn _ (-1)) (yevN (k := 0) rfl) (show gOUT (yKo ySr ws1 1) 0 (-1) ((N + 0 : Nat) : Int) by rw [eK]; exact ⟨N, rfl, by omega, h0, f6⟩)
        rcases List.mem_cons.mp hq with rfl | hq
        · exact yPk_of hT.2.2.1 (by decide) ((yev1 rfl).trans (congrArg some (Int.add_zero _))) (yev_cn _ 0) (yevN (k := 0) rfl) (show gOU3 (yKo ySr ws1 1) (F (r + 1) 0) ((N + 0 : Nat) : Int) by rw [eK]; exact ⟨N, rfl, by omega, f5.symm⟩)
        rcases List.mem_cons.mp hq with rfl | hq
        · exact yPk_of hT.2.2.1 (by decide) (h15 _) (yev_cn _ 0) (yev_cn _ 0) (show gLAND (kC (yKo ySr ws1)) ((15 - r : Nat) : Int) from gLA)
        have hq := List.mem_singleton.mp hq
        subst hq
        have hC1 : ∀ j, j < N → F 1 j = xIm sz ws 1 j := fun j hj => by
          have k1 := kC_ln hW1 hC (i := 1) (n := 1700) (by decide +kernel) j (by omega)
          have k2 : yKo ySr ws1 1 j = xIm sz ws 1 j := by rw [eK]
          exact k1.symm.trans k2
        obtain ⟨t1, t2, t3⟩ := tk_cg hC1
        obtain ⟨g1, g2, g3, g4⟩ := gCL_cls (by omega) hcl
        exact yPk_of hT.2.2.1 (by decide) (yevN (k := 0) rfl) (yev_cn _ 0) (yevN (k := 0) rfl) (show gDRF (kC (yKo ySr ws1)) ((r + 0 : Nat) : Int) ((N + 0 : Nat) : Int) from gDR_of hW1 hC (by omega) ⟨r, N, s, rfl, hr, rfl, by omega, by rw [t1, t2, t3]; exact hs, g1, g2, g3, g4⟩)
    · rw [if_neg h0] at hret
      obtain ⟨x, rfl, hx⟩ := hret
      have b1 := xIn_le (i := 24) (t := 13) (k := 8) hW1 hC (by decide +kernel)
      have b2 := xIn_le (i := 24) (t := 13) (k := 9) hW1 hC (by decide +kernel)
      refine ⟨_, mem_at 0 rfl, [F 24 8, F 24 9], ⟨rfl, fun q hq => ?_, fun q hq => absurd hq List.not_mem_nil, fun q hq => absurd hq List.not_mem_nil⟩, ⟨.int x, rfl, x, rfl, ?_⟩, fun q hq => ?_, fun q hq => ?_⟩
      · rcases List.mem_cons.mp hq with rfl | hq
        · exact yRB_one rfl b1.1 b1.2
        have hq := List.mem_singleton.mp hq
        subst hq
        exact yRB_one rfl b2.1 b2.2
      · rw [hx]; exact yev_cn _ 0
      · rcases List.mem_cons.mp hq with rfl | hq
        · exact yMk_of (i := 24) (k := 8) hW1 hC (by decide +kernel) (yev_cn _ 24) (yev_cn _ 8) ((yev1 rfl).trans (congrArg some (Int.add_zero _)))
        rcases List.mem_cons.mp hq with rfl | hq
        · exact yMk_of (i := 24) (k := 9) hW1 hC (by decide +kernel) (yev_cn _ 24) (yev_cn _ 9) ((yev1 rfl).trans (congrArg some (Int.add_zero _)))
        have hq := List.mem_singleton.mp hq
        subst hq
        exact yMk_ofA (i := 16 - r) (k := 0) hW1 hC (by rw [zget_eq]; exact hr16) rfl (by decide) (by decide) (h16 _) (yev_cn _ 0) (by rw [f7 (16 - r) 0 (by omega) (by omega), hoth]; exact (yev1 rfl).trans (congrArg some (Int.add_zero _)))
      · rcases List.mem_cons.mp hq with rfl | hq
        · exact yPk_of hT.2.2.1 (by decide) ((yev1 rfl).trans (congrArg some (Int.add_zero _))) ((yev1 rfl).trans (congrArg some (Int.add_zero _))) (yevN (k := 0) rfl) (show gOUT (yKo ySr ws1 1) (F 24 8) (F 24 9) ((N + 0 : Nat) : Int) by rw [eK]; exact ⟨N, rfl, by omega, f2.symm, f3.symm⟩)
        rcases List.mem_cons.mp hq with rfl | hq
        · exact yPk_of hT.2.2.1 (by decide) (yev_cn _ (-1)) (yev_cn _ 0) (yevN (k := 0) rfl) (show gOU3 (yKo ySr ws1 1) (-1) ((N + 0 : Nat) : Int) by rw [eK]; exact ⟨N, rfl, by omega, rdOut_n h0⟩)
        have hq := List.mem_singleton.mp hq
        subst hq
        exact yPk_of hT.2.2.1 (by decide) (h15 _) (yev_cn _ 0) (yev_cn _ 0) (show gLAND (kC (yKo ySr ws1)) ((15 - r : Nat) : Int) from gLA)
-- the reference's reader
set_option maxRecDepth 100000 in
theorem yXs_X12_readAll : yX 193 yc_117 := by
  intro l hT B hall
  refine yCt_strong (ct := yc_116) (R := 130) (d := 126) (rk := 0) (by decide) (by decide) rfl (yX_pl hT rfl yv_116 hall) rfl rfl rfl rfl (fun vt h => h) (fun q hq => hq) (fun q hq => absurd hq List.not_mem_nil) ?_
  intro b sz vt ws ca hRS hW hM hP _
  obtain ⟨hlen, hB, -, -⟩ := hRS
  have hlen : vt.length = 4 := hlen
  obtain ⟨x0, xf, xq, xw, rfl⟩ : ∃ x0 xf xq xw, vt = [x0, xf, xq, xw] := by
    match vt, hlen with
    | [x0, xf, xq, xw], _ => exact ⟨x0, xf, xq, xw, rfl⟩
  obtain ⟨z, hz1, hz2, hz3⟩ := hB (0, .ofNat 0, .ofNat 1700) (mem_at 0 rfl)
  have hz1 := Option.some.inj hz1
  subst hz1
  have hz2 : 0 ≤ x0 := hz2
  have hz3 : x0 ≤ 1700 := hz3
  obtain ⟨N, rfl⟩ : ∃ N : Nat, x0 = (N : Int) := ⟨x0.toNat, by omega⟩
  have hT1 : gTXT (yKo ySr ws 1) (yKo ySr ws 64) (N : Int) := yPk_to (hP _ (mem_at 0 rfl)) (yevN (k := 0) rfl) (yev_cn _ 0) (yev_cn _ 0)
  have hO : gOUT (yKo ySr ws 1) xf xq (N : Int) := yPk_to (hP _ (mem_at 1 rfl)) ((yev1 rfl).trans (congrArg some (Int.add_zero _))) ((yev1 rfl).trans (congrArg some (Int.add_zero _))) (yevN (k := 0) rfl)
  have hO3 : gOU3 (yKo ySr ws 1) xw (N : Int) := yPk_to (hP _ (mem_at 2 rfl)) ((yev1 rfl).trans (congrArg some (Int.add_zero _))) (yev_cn _ 0) (yevN (k := 0) rfl)
  rw [rt_B hW] at hT1 hO hO3
  rw [rt_B2 hW] at hT1
  obtain ⟨n, hn1, hn2, hO1, hO2⟩ := hO
  have hn1 : N = n := by omega
  subst hn1
  obtain ⟨n, hn1, -, hO3⟩ := hO3
  have hn1 : N = n := by omega
  subst hn1
  have hN1 : xIm sz ws 74 1 = (N : Int) := yMk_int (hM _ (mem_at 0 rfl)) (yev_cn _ 74) (yev_cn _ 1) (yevN (k := 0) rfl)
  have hPt : rPt (xIm sz ws) := ⟨xIm_rf (c := 76) hW (by decide +kernel), xIm_rf (c := 77) hW (by decide +kernel), xIm_rf (c := 78) hW (by decide +kernel), xIm_rf (c := 79) hW (by decide +kernel), xIm_rf (c := 80) hW (by decide +kernel), xIm_rf (c := 85) hW (by decide +kernel), xIm_rf (c := 87) hW (by decide +kernel), xIm_rf (c := 88) hW (by decide +kernel), xIm_rf (c := 89) hW (by decide +kernel), xIm_rf (c := 90) hW (by decide +kernel), xIm_rf (c := 91) hW (by decide +kernel), xIm_rf (c := 92) hW (by decide +kernel), xIm_rf (c := 93) hW (by decide +kernel), rPz_im hW⟩
  obtain ⟨F, f1, f2, f3, f4, -⟩ := r_reads (d := 127) (N := N) (D := xIm sz ws) (g := xIm sz ws 1) (by decide) (xIm_rf (c := 75) hW (by decide +kernel)) hN1 hn2 (fun j hj => hT1 j (by omega)) hPt
  refine ⟨[mR], _, F, fun vs h => ?_, f1, fun ws1 rv q u hW1 hF hC hret hq hR hrv hqM hqP => ?_⟩
  · obtain ⟨w0, s0, rfl, hw0, hS0⟩ := ySR_cons h
    have := ySR_nil hS0
    subst this
    exact ⟨yV_ref (n := 74) hw0 (yev_cn _ 74), trivial⟩
  · have hq := List.mem_singleton.mp hq
    subst hq
    obtain ⟨r1, r2, r3, r4⟩ := hR
    obtain ⟨z4, g4, b41, b42⟩ := r2 (4, .ofNat 0, .ofNat 10) (mem_at 0 rfl)
    obtain ⟨z6, g6, b61, b62⟩ := r2 (6, .ofNat 0, .ofNat 6) (mem_at 2 rfl)
    have g4 : ([(N : Int), xf, xq, xw] ++ u)[4]? = some z4 := g4
    have g6 : ([(N : Int), xf, xq, xw] ++ u)[6]? = some z6 := g6
    have b41 : 0 ≤ z4 := b41
    have b42 : z4 ≤ 10 := b42
    have b61 : 0 ≤ z6 := b61
    have b62 : z6 ≤ 6 := b62
    have e4 : F 74 2 = z4 := yMk_ct hC (hqM _ (mem_at 0 rfl)) (yev_cn _ 74) (yev_cn _ 2) ((yev1 g4).trans (congrArg some (Int.add_zero _)))
    have e6 : F 74 42 = z6 := yMk_ct hC (hqM _ (mem_at 2 rfl)) (yev_cn _ 74) (yev_cn _ 42) ((yev1 g6).trans (congrArg some (Int.add_zero _)))
    have gf : ([(N : Int), xf, xq, xw] ++ u)[1]? = some xf := rfl
    have gq : ([(N : Int), xf, xq, xw] ++ u)[2]? = some xq := rfl
    have gw : ([(N : Int), xf, xq, xw] ++ u)[3]? = some xw := rfl
    have hm3 : yMk b sz ySr ([(N : Int), xf, xq, xw] ++ u) ws1 ((([], .ofNat 74), 63, ([], .ofNat 3)), .inl ([(2, .ofNat 1)], .ofNat 0)) := yMk_of (i := 74) (k := 3) hW1 hC (by decide +kernel) (yev_cn _ 74) (yev_cn _ 3) (by rw [f3, hO2]; exact (yev1 gq).trans (congrArg some (Int.add_zero _)))
    generalize hV : [(N : Int), xf, xq, xw] ++ u = V at *
    by_cases h0 : (rdOut (xIm sz ws 1) N).1 = 0
    · have f5 := f4 h0
      refine ⟨_, mem_at 1 rfl, u, ⟨by rw [hV]; exact r1, by rw [hV]; exact r2, ?_, by rw [hV]; exact r4⟩, by rw [hV]; exact hrv, ?_, by rw [hV]; exact hqP⟩
      · rw [hV]
        intro f hf
        rcases List.mem_cons.mp hf with rfl | hf
        · exact r3 _ (mem_at 0 rfl)
        rcases List.mem_cons.mp hf with rfl | hf
        · exact r3 _ (mem_at 1 rfl)
        rcases List.mem_cons.mp hf with rfl | hf
        · exact ⟨-xf + z4, by simp [yev, yevT, gf, g4], by omega⟩
        rcases List.mem_cons.mp hf with rfl | hf
        · exact ⟨xf + -z4, by simp [yev, yevT, gf, g4], by omega⟩
        rcases List.mem_cons.mp hf with rfl | hf
        · exact ⟨xf, by simp [yev, yevT, gf], by omega⟩
        rcases List.mem_cons.mp hf with rfl | hf
        · exact ⟨-xf, by simp [yev, yevT, gf], by omega⟩
        rcases List.mem_cons.mp hf with rfl | hf
        · exact ⟨z4, by simp [yev, yevT, g4], by omega⟩
        rcases List.mem_cons.mp hf with rfl | hf
        · exact ⟨-xw + z6, by simp [yev, yevT, gw, g6], by omega⟩
        have hf := List.mem_singleton.mp hf
        subst hf
        exact ⟨xw + -z6, by simp [yev, yevT, gw, g6], by omega⟩
      · rw [hV]
        intro x hx
        rcases List.mem_append.mp (show x ∈ (yc_116.2.2.2.head!).2.2.2.2.2.1 ++ [((([], .ofNat 74), 63, ([], .ofNat 3)), .inl ([(2, .ofNat 1)], .ofNat 0))] from hx) with hx | hx
        · exact hqM x hx
        · rw [List.mem_singleton.mp hx]; exact hm3
    · refine ⟨_, mem_at 0 rfl, u, ⟨by rw [hV]; exact r1, by rw [hV]; exact r2, ?_, by rw [hV]; exact r4⟩, by rw [hV]; exact hrv, ?_, by rw [hV]; exact hqP⟩
      · rw [hV]
        have h3 := rdOut_n h0
        intro f hf
        rcases List.mem_cons.mp hf with rfl | hf
        · exact r3 _ (mem_at 0 rfl)
        rcases List.mem_cons.mp hf with rfl | hf
        · exact r3 _ (mem_at 1 rfl)
        rcases List.mem_cons.mp hf with rfl | hf
        · exact ⟨-xf + z4, by simp [yev, yevT, gf, g4], by omega⟩
        rcases List.mem_cons.mp hf with rfl | hf
        · exact ⟨xf + -z4, by simp [yev, yevT, gf, g4], by omega⟩
        rcases List.mem_cons.mp hf with rfl | hf
        · exact ⟨-xf + 1, by simp [yev, yevT, gf], by omega⟩
        rcases List.mem_cons.mp hf with rfl | hf
        · exact ⟨xw + 1, by simp [yev, yevT, gw], by omega⟩
        have hf := List.mem_singleton.mp hf
        subst hf
        exact ⟨-z4 + 1, by simp [yev, yevT, g4], by omega⟩
      · rw [hV]
        intro x hx
        rcases List.mem_append.mp (show x ∈ (yc_116.2.2.2.head!).2.2.2.2.2.1 ++ [((([], .ofNat 74), 63, ([], .ofNat 3)), .inl ([(2, .ofNat 1)], .ofNat 0))] from hx) with hx | hx
        · exact hqM x hx
        · rw [List.mem_singleton.mp hx]; exact hm3
end xHand
