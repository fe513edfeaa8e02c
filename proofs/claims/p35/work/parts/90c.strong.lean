/-! Looks: contracts that say which of them are untold. -/
section xHandL
variable {b sz : Nat} {ca : Nat → ClassId} {ws ws1 : va_W} {v : List Int} {C1 : xC} {ms : List (Nat × Nat)}
theorem vt3 {vt : List Int} (h : vt.length = 3) : ∃ a c t, vt = [a, c, t] := by
  match vt, h with
  | [a, c, t], _ => exact ⟨a, c, t, rfl⟩
theorem vt4 {vt : List Int} (h : vt.length = 4) : ∃ a1 a2 a3 c, vt = [a1, a2, a3, c] := by
  match vt, h with
  | [a1, a2, a3, c], _ => exact ⟨a1, a2, a3, c, rfl⟩
theorem vt5 {vt : List Int} (h : vt.length = 5) : ∃ a1 a2 a3 c n, vt = [a1, a2, a3, c, n] := by
  match vt, h with
  | [a1, a2, a3, c, n], _ => exact ⟨a1, a2, a3, c, n, rfl⟩
theorem vt6c {vt : List Int} (h : vt.length = 6) : ∃ a1 a2 a3 c n t, vt = [a1, a2, a3, c, n, t] := by
  match vt, h with
  | [a1, a2, a3, c, n, t], _ => exact ⟨a1, a2, a3, c, n, t, rfl⟩
theorem bdz {vt : List Int} {i : Nat} {lo hi z : Int} {B : yBd} (h : yRB vt B) (hm : (i, lo, hi) ∈ B) (hz : vt[i]? = some z) : lo ≤ z ∧ z ≤ hi := by
  obtain ⟨z', h1, h2, h3⟩ := h _ hm
  have h1 : vt[i]? = some z' := h1
  rw [hz] at h1
  have h1 := Option.some.inj h1
  subst h1
  exact ⟨h2, h3⟩
theorem rfz {vt : List Int} {F : List yE} {f : yE} {z : Int} (h : yRF vt F) (hm : f ∈ F) (hz : yev vt f = some z) : z ≤ 0 := by
  obtain ⟨z', h1, h2⟩ := h _ hm
  rw [hz] at h1
  have h1 := Option.some.inj h1
  omega
theorem lk_B (hW : yWd sz ySr yTt ca ws) : yKo ySr ws 53 = xIm sz ws 64 := yKo_im hW (by decide +kernel) (by decide +kernel)
theorem lk_B2 (hW : yWd sz ySr yTt ca ws) : yKo ySr ws 109 = xIm sz ws 120 := yKo_im hW (by decide +kernel) (by decide +kernel)
theorem rs2 {a0 : yA} {a c t : Int} {n k : Nat} {vs : List Value} (he : a0 = .inr (.inr (.inl (([], .ofNat n), k)))) (h : ySR b sz ySr [a, c, t] [a0, .inl ([(0, .ofNat 1)], .ofNat 0)] vs) : xSR b sz ySr [.inr (.inr (.inl (n, k))), .inl a] vs := by
  subst he
  obtain ⟨w0, s0, rfl, hw0, hS0⟩ := ySR_cons h
  obtain ⟨w1, s1, rfl, hw1, hS1⟩ := ySR_cons hS0
  have := ySR_nil hS1
  subst this
  exact ⟨yV_ref (n := n) hw0 (yev_cn _ (n : Int)), yV_int hw1 ((yev1 rfl).trans (congrArg some (Int.add_zero _))), trivial⟩
theorem rs4 {a0 : yA} {a1 a2 a3 : Int} {u : List Int} {n k : Nat} {vs : List Value} (he : a0 = .inr (.inr (.inl (([], .ofNat n), k)))) (h : ySR b sz ySr (a1 :: a2 :: a3 :: u) [a0, .inl ([(0, .ofNat 1)], .ofNat 0), .inl ([(1, .ofNat 1)], .ofNat 0), .inl ([(2, .ofNat 1)], .ofNat 0)] vs) : xSR b sz ySr [.inr (.inr (.inl (n, k))), .inl a1, .inl a2, .inl a3] vs := by
  subst he
  obtain ⟨w0, s0, rfl, hw0, hS0⟩ := ySR_cons h
  obtain ⟨w1, s1, rfl, hw1, hS1⟩ := ySR_cons hS0
  obtain ⟨w2, s2, rfl, hw2, hS2⟩ := ySR_cons hS1
  obtain ⟨w3, s3, rfl, hw3, hS3⟩ := ySR_cons hS2
  have := ySR_nil hS3
  subst this
  exact ⟨yV_ref (n := n) hw0 (yev_cn _ (n : Int)), yV_int hw1 ((yev1 rfl).trans (congrArg some (Int.add_zero _))), yV_int hw2 ((yev1 rfl).trans (congrArg some (Int.add_zero _))), yV_int hw3 ((yev1 rfl).trans (congrArg some (Int.add_zero _))), trivial⟩
set_option maxRecDepth 100000 in
theorem yXs_X4_takeBack : yX 24 yc_169 := by
  intro l hT B hall
  refine yCt_strong (ct := yc_168) (R := 12) (d := 7) (rk := 1) (by decide) (by decide) rfl (yX_pl hT rfl yv_168 hall) rfl rfl rfl rfl (fun vt h => h) (fun q hq => hq) (fun q hq => absurd hq List.not_mem_nil) ?_
  intro b sz vt ws ca hRS hW hM hP _
  obtain ⟨hlen, hB, hFx, -⟩ := hRS
  obtain ⟨a, c, t, rfl⟩ := vt3 hlen
  have b1 := bdz hB (mem_at 1 rfl) (rfl : [a, c, t][1]? = some c)
  have b2 := bdz hB (mem_at 2 rfl) (rfl : [a, c, t][2]? = some t)
  have b1 : 0 ≤ c ∧ c ≤ 20 := b1
  have b2 : 0 ≤ t ∧ t ≤ 100000 := b2
  have h0 : xIm sz ws 59 0 = c := yMk_int (hM _ (mem_at 0 rfl)) (yev_cn _ 59) (yev_cn _ 0) ((yev1 rfl).trans (congrArg some (Int.add_zero _)))
  have h1 : xIm sz ws 59 1 = t := yMk_int (hM _ (mem_at 1 rfl)) (yev_cn _ 59) (yev_cn _ 1) ((yev1 rfl).trans (congrArg some (Int.add_zero _)))
  have hU : gUP (yKo ySr ws 53) (yKo ySr ws 109) (-1) 0 := yPk_to (hP _ (mem_at 0 rfl)) (yev_cn _ (-1)) (yev_cn _ 0) (yev_cn _ 0)
  rw [lk_B hW, lk_B2 hW] at hU
  have hr : xIm sz ws 59 6 = 64 := xIm_rf (c := 64) hW (by decide +kernel)
  by_cases hp : 0 ≤ a ∧ a < c ∧ xIm sz ws 64 a.toNat = -1
  · obtain ⟨p1, p2, p3⟩ := hp
    refine ⟨_, _, _, fun vs h => rs2 rfl h, lk_take1 (d := 7) (C := xIm sz ws) (a1 := a) hr (by rw [h0]; omega) p1 (by rw [h0]; omega) p3, fun ws1 rv q u hW1 hF hC hret _ _ _ _ _ => ?_⟩
    obtain ⟨x, rfl, hx⟩ := hret
    have eA : ∀ j, j < 20 → yKo ySr ws1 53 j = (xst (xIm sz ws) 64 a.toNat (xIm sz ws 59 1)) 64 j := fun j hj => yKo_ct (i := 64) hW1 hC (by decide +kernel) rfl rfl (by decide) hj
    have eB : yKo ySr ws1 109 = yKo ySr ws 109 := yKo_fr hW hW1 hF (i := 120) (by decide +kernel) (by decide +kernel) (by decide +kernel)
    have hG : gUP (yKo ySr ws1 53) (yKo ySr ws1 109) a t := by
      intro j hj
      rw [eA j hj, eB, lk_B2 hW]
      obtain ⟨g1, -, g3⟩ := hU j hj
      by_cases e : j = a.toNat
      · rw [e, xst_at, h1]
        exact ⟨by omega, fun _ => rfl, fun q => by omega⟩
      · rw [xst_nn (by omega)]
        exact ⟨g1, fun q => by omega, fun _ => g3 (by omega)⟩
    have hN : gUN2 (yKo ySr ws1 109) 1 a c := by
      rw [eB, lk_B2 hW]
      have g3 := (hU a.toNat (by omega)).2.2 (by omega)
      exact Or.inl ⟨rfl, p1, p2, by omega, by omega⟩
    refine ⟨_, mem_at 1 rfl, [], ⟨rfl, fun q hq => absurd hq List.not_mem_nil, fun q hq => absurd hq List.not_mem_nil, fun q hq => absurd hq List.not_mem_nil⟩, ⟨.int x, rfl, x, rfl, by rw [hx]; exact yev_cn _ 1⟩, fun q hq => absurd hq List.not_mem_nil, fun q hq => ?_⟩
    rcases List.mem_cons.mp hq with rfl | hq
    · exact yPk_of hT.2.2.1 (by decide) ((yev1 rfl).trans (congrArg some (Int.add_zero _))) ((yev1 rfl).trans (congrArg some (Int.add_zero _))) (yev_cn _ 0) (show gUP (yKo ySr ws1 53) (yKo ySr ws1 109) a t from hG)
    have hq := List.mem_singleton.mp hq
    subst hq
    exact yPk_of hT.2.2.1 (by decide) (yev_cn _ 1) ((yev1 rfl).trans (congrArg some (Int.add_zero _))) ((yev1 rfl).trans (congrArg some (Int.add_zero _))) (show gUN2 (yKo ySr ws1 109) 1 a c from hN)
  · refine ⟨_, _, _, fun vs h => rs2 rfl h, lk_take0 (d := 7) (C := xIm sz ws) (a1 := a) hr (by rw [h0]; omega) (by rw [h0]; exact hp), fun ws1 rv q u hW1 hF hC hret _ _ _ _ _ => ?_⟩
    obtain ⟨x, rfl, hx⟩ := hret
    have eA : ∀ j, j < 20 → yKo ySr ws1 53 j = (xIm sz ws) 64 j := fun j hj => yKo_ct (i := 64) hW1 hC (by decide +kernel) rfl rfl (by decide) hj
    have eB : yKo ySr ws1 109 = yKo ySr ws 109 := yKo_fr hW hW1 hF (i := 120) (by decide +kernel) (by decide +kernel) (by decide +kernel)
    have hG : gUP (yKo ySr ws1 53) (yKo ySr ws1 109) (-1) 0 := by
      intro j hj
      rw [eA j hj, eB, lk_B2 hW]
      exact hU j hj
    have hN : gUN2 (yKo ySr ws1 109) 0 a c := by
      rw [eB, lk_B2 hW]
      refine Or.inr ⟨rfl, fun q => hp ⟨q.1, q.2.1, ?_⟩⟩
      obtain ⟨q1, q2, q3, q4⟩ := q
      obtain ⟨g1, -, g3⟩ := hU a.toNat (by omega)
      have g3 := g3 (by omega)
      omega
    refine ⟨_, mem_at 0 rfl, [], ⟨rfl, fun q hq => absurd hq List.not_mem_nil, fun q hq => absurd hq List.not_mem_nil, fun q hq => absurd hq List.not_mem_nil⟩, ⟨.int x, rfl, x, rfl, by rw [hx]; exact yev_cn _ 0⟩, fun q hq => absurd hq List.not_mem_nil, fun q hq => ?_⟩
    rcases List.mem_cons.mp hq with rfl | hq
    · exact yPk_of hT.2.2.1 (by decide) (yev_cn _ (-1)) (yev_cn _ 0) (yev_cn _ 0) (show gUP (yKo ySr ws1 53) (yKo ySr ws1 109) (-1) 0 from hG)
    have hq := List.mem_singleton.mp hq
    subst hq
    exact yPk_of hT.2.2.1 (by decide) (yev_cn _ 0) ((yev1 rfl).trans (congrArg some (Int.add_zero _))) ((yev1 rfl).trans (congrArg some (Int.add_zero _))) (show gUN2 (yKo ySr ws1 109) 0 a c from hN)
set_option maxRecDepth 100000 in
theorem yXs_X12_untell : yX 259 yc_171 := by
  intro l hT B hall
  refine yCt_strong (ct := yc_152) (R := 16) (d := 9) (rk := 1) (by decide) (by decide) rfl (yX_pl hT rfl yv_152 hall) rfl rfl rfl rfl (fun vt h => h) (fun q hq => hq) (fun q hq => absurd hq List.not_mem_nil) ?_
  intro b sz vt ws ca hRS hW hM hP _
  obtain ⟨hlen, hB, hFx, -⟩ := hRS
  obtain ⟨a, c, t, rfl⟩ := vt3 hlen
  have b1 := bdz hB (mem_at 1 rfl) (rfl : [a, c, t][1]? = some c)
  have b2 := bdz hB (mem_at 2 rfl) (rfl : [a, c, t][2]? = some t)
  have b1 : 0 ≤ c ∧ c ≤ 20 := b1
  have b2 : 0 ≤ t ∧ t ≤ 100000 := b2
  have h0 : xIm sz ws 74 98 = c := yMk_int (hM _ (mem_at 0 rfl)) (yev_cn _ 74) (yev_cn _ 98) ((yev1 rfl).trans (congrArg some (Int.add_zero _)))
  have h1 : xIm sz ws 74 99 = t := yMk_int (hM _ (mem_at 1 rfl)) (yev_cn _ 74) (yev_cn _ 99) ((yev1 rfl).trans (congrArg some (Int.add_zero _)))
  have hU : gUP (yKo ySr ws 53) (yKo ySr ws 109) a t := yPk_to (hP _ (mem_at 0 rfl)) ((yev1 rfl).trans (congrArg some (Int.add_zero _))) ((yev1 rfl).trans (congrArg some (Int.add_zero _))) (yev_cn _ 0)
  have hN : gUN2 (yKo ySr ws 109) 1 a c := yPk_to (hP _ (mem_at 1 rfl)) (yev_cn _ 1) ((yev1 rfl).trans (congrArg some (Int.add_zero _))) ((yev1 rfl).trans (congrArg some (Int.add_zero _)))
  rw [lk_B2 hW] at hU hN
  obtain ⟨p1, p2, p4, p3⟩ : 0 ≤ a ∧ a < c ∧ a < 20 ∧ xIm sz ws 120 a.toNat < 0 := by
    rcases hN with hN | hN
    · exact hN.2
    · exact absurd hN.1 (by decide)
  have hr : xIm sz ws 74 97 = 120 := xIm_rf (c := 120) hW (by decide +kernel)
  refine ⟨_, _, _, fun vs h => rs2 rfl h, lm_untell1 (d := 8) (C := xIm sz ws) (a1 := a) hr (by rw [h0]; omega) p1 (by rw [h0]; omega) p3, fun ws1 rv q u hW1 hF hC hret _ _ _ _ _ => ?_⟩
  obtain ⟨x, rfl, hx⟩ := hret
  have eB : ∀ j, j < 20 → yKo ySr ws1 109 j = (xst (xIm sz ws) 120 a.toNat (xIm sz ws 74 99)) 120 j := fun j hj => yKo_ct (i := 120) hW1 hC (by decide +kernel) rfl rfl (by decide) hj
  have eA : yKo ySr ws1 53 = yKo ySr ws 53 := yKo_fr hW hW1 hF (i := 64) (by decide +kernel) (by decide +kernel) (by decide +kernel)
  have hG : gUP (yKo ySr ws1 53) (yKo ySr ws1 109) (-1) 0 := by
    intro j hj
    rw [eB j hj, eA]
    obtain ⟨g1, g2, g3⟩ := hU j hj
    refine ⟨g1, fun q => by omega, fun _ => ?_⟩
    by_cases e : j = a.toNat
    · rw [g2 (by omega), e, xst_at, h1]
    · rw [xst_nn (by omega)]
      exact g3 (by omega)
  refine ⟨_, mem_at 0 rfl, [], ⟨rfl, fun q hq => absurd hq List.not_mem_nil, fun q hq => absurd hq List.not_mem_nil, fun q hq => absurd hq List.not_mem_nil⟩, ⟨.int x, rfl, x, rfl, by rw [hx]; exact yev_cn _ 1⟩, fun q hq => absurd hq List.not_mem_nil, fun q hq => ?_⟩
  have hq := List.mem_singleton.mp hq
  subst hq
  exact yPk_of hT.2.2.1 (by decide) (yev_cn _ (-1)) (yev_cn _ 0) (yev_cn _ 0) (show gUP (yKo ySr ws1 53) (yKo ySr ws1 109) (-1) 0 from hG)
set_option maxRecDepth 100000 in
theorem yXs_X12_untell2 : yX 259 yc_170 := by
  intro l hT B hall
  refine yCt_strong (ct := yc_152) (R := 16) (d := 9) (rk := 1) (by decide) (by decide) rfl (yX_pl hT rfl yv_152 hall) rfl rfl rfl rfl (fun vt h => h) (fun q hq => hq) (fun q hq => absurd hq List.not_mem_nil) ?_
  intro b sz vt ws ca hRS hW hM hP _
  obtain ⟨hlen, hB, hFx, -⟩ := hRS
  obtain ⟨a, c, t, rfl⟩ := vt3 hlen
  have b1 := bdz hB (mem_at 1 rfl) (rfl : [a, c, t][1]? = some c)
  have b2 := bdz hB (mem_at 2 rfl) (rfl : [a, c, t][2]? = some t)
  have b1 : 0 ≤ c ∧ c ≤ 20 := b1
  have b2 : 0 ≤ t ∧ t ≤ 100000 := b2
  have h0 : xIm sz ws 74 98 = c := yMk_int (hM _ (mem_at 0 rfl)) (yev_cn _ 74) (yev_cn _ 98) ((yev1 rfl).trans (congrArg some (Int.add_zero _)))
  have h1 : xIm sz ws 74 99 = t := yMk_int (hM _ (mem_at 1 rfl)) (yev_cn _ 74) (yev_cn _ 99) ((yev1 rfl).trans (congrArg some (Int.add_zero _)))
  have hU : gUP (yKo ySr ws 53) (yKo ySr ws 109) (-1) 0 := yPk_to (hP _ (mem_at 0 rfl)) (yev_cn _ (-1)) (yev_cn _ 0) (yev_cn _ 0)
  have hN : gUN2 (yKo ySr ws 109) 0 a c := yPk_to (hP _ (mem_at 1 rfl)) (yev_cn _ 0) ((yev1 rfl).trans (congrArg some (Int.add_zero _))) ((yev1 rfl).trans (congrArg some (Int.add_zero _)))
  rw [lk_B2 hW] at hU hN
  have hn : ¬ (0 ≤ a ∧ a < c ∧ xIm sz ws 120 a.toNat < 0) := by
    rcases hN with hN | hN
    · exact absurd hN.1 (by decide)
    · exact fun q => hN.2 ⟨q.1, q.2.1, by omega, q.2.2⟩
  have hr : xIm sz ws 74 97 = 120 := xIm_rf (c := 120) hW (by decide +kernel)
  refine ⟨_, _, _, fun vs h => rs2 rfl h, lm_untell0 (d := 8) (C := xIm sz ws) (a1 := a) hr (by rw [h0]; omega) (by rw [h0]; omega) (by rw [h0]; exact hn), fun ws1 rv q u hW1 hF hC hret _ _ _ _ _ => ?_⟩
  obtain ⟨x, rfl, hx⟩ := hret
  have eB : ∀ j, j < 20 → yKo ySr ws1 109 j = (xIm sz ws) 120 j := fun j hj => yKo_ct (i := 120) hW1 hC (by decide +kernel) rfl rfl (by decide) hj
  have eA : yKo ySr ws1 53 = yKo ySr ws 53 := yKo_fr hW hW1 hF (i := 64) (by decide +kernel) (by decide +kernel) (by decide +kernel)
  have hG : gUP (yKo ySr ws1 53) (yKo ySr ws1 109) (-1) 0 := by
    intro j hj
    rw [eB j hj, eA]
    exact hU j hj
  refine ⟨_, mem_at 0 rfl, [], ⟨rfl, fun q hq => absurd hq List.not_mem_nil, fun q hq => absurd hq List.not_mem_nil, fun q hq => absurd hq List.not_mem_nil⟩, ⟨.int x, rfl, x, rfl, by rw [hx]; exact yev_cn _ 0⟩, fun q hq => absurd hq List.not_mem_nil, fun q hq => ?_⟩
  have hq := List.mem_singleton.mp hq
  subst hq
  exact yPk_of hT.2.2.1 (by decide) (yev_cn _ (-1)) (yev_cn _ 0) (yev_cn _ 0) (show gUP (yKo ySr ws1 53) (yKo ySr ws1 109) (-1) 0 from hG)
set_option maxRecDepth 100000 in
theorem yXs_X4_tell : yX 23 yc_173 := by
  intro l hT B hall
  refine yCt_strong (ct := yc_172) (R := 12) (d := 7) (rk := 1) (by decide) (by decide) rfl (yX_pl hT rfl yv_172 hall) rfl rfl rfl rfl (fun vt h => h) (fun q hq => hq) (fun q hq => absurd hq List.not_mem_nil) ?_
  intro b sz vt ws ca hRS hW hM hP _
  obtain ⟨hlen, hB, hFx, -⟩ := hRS
  obtain ⟨a1, a2, a3, c0, t, rfl⟩ := vt5 hlen
  have b1 := bdz hB (mem_at 3 rfl) (rfl : [a1, a2, a3, c0, t][3]? = some c0)
  have b1 : 0 ≤ c0 ∧ c0 ≤ 20 := b1
  obtain ⟨c, rfl⟩ : ∃ c : Nat, c0 = (c : Int) := ⟨c0.toNat, by omega⟩
  have h0 : xIm sz ws 59 0 = (c : Int) := yMk_int (hM _ (mem_at 0 rfl)) (yev_cn _ 59) (yev_cn _ 0) ((yev1 rfl).trans (congrArg some (Int.add_zero _)))
  have h1t : xIm sz ws 59 1 = t := yMk_int (hM _ (mem_at 1 rfl)) (yev_cn _ 59) (yev_cn _ 1) ((yev1 rfl).trans (congrArg some (Int.add_zero _)))
  have hLK : gLKS (xIm sz ws) (c : Int) := (gLK_ct hW (xIm_ct hW) (by omega)).mp (yPk_to (hP _ (mem_at 1 rfl)) ((yev1 rfl).trans (congrArg some (Int.add_zero _))) (yev_cn _ 0) (yev_cn _ 0))
  have hU : gUP (yKo ySr ws 53) (yKo ySr ws 109) (-1) 0 := yPk_to (hP _ (mem_at 0 rfl)) (yev_cn _ (-1)) (yev_cn _ 0) (yev_cn _ 0)
  rw [lk_B hW, lk_B2 hW] at hU
  by_cases hc : c < 20
  · obtain ⟨F, f1, f2, f3, f4, ⟨f5, f6, f7, f8⟩, f9⟩ := lt_tell1 (d := 7) (C := xIm sz ws) (a1 := a1) (a2 := a2) (a3 := a3) ⟨h0, xIm_rf (c := 60) hW (by decide +kernel), xIm_rf (c := 61) hW (by decide +kernel), xIm_rf (c := 62) hW (by decide +kernel), xIm_rf (c := 63) hW (by decide +kernel), xIm_rf (c := 64) hW (by decide +kernel)⟩ hc
    refine ⟨_, _, F, fun vs h => rs4 rfl h, f1, fun ws1 rv q u hW1 hF hC hret _ _ _ _ _ => ?_⟩
    obtain ⟨x, rfl, hx⟩ := hret
    have eA : ∀ j, j < 20 → yKo ySr ws1 53 j = F 64 j := fun j hj => yKo_ct (i := 64) hW1 hC (by decide +kernel) rfl rfl (by decide) hj
    have eB : yKo ySr ws1 109 = yKo ySr ws 109 := yKo_fr hW hW1 hF (i := 120) (by decide +kernel) (by decide +kernel) (by decide +kernel)
    have hG : gUP (yKo ySr ws1 53) (yKo ySr ws1 109) (c : Int) (-1) := by
      intro j hj
      rw [eA j hj, eB, lk_B2 hW]
      obtain ⟨g1, -, g3⟩ := hU j hj
      by_cases e : j = c
      · rw [e, f3]
        exact ⟨by decide, fun _ => rfl, fun q => absurd rfl q⟩
      · rw [f4 j e]
        exact ⟨g1, fun q => absurd (by omega) e, fun _ => g3 (by omega)⟩
    refine ⟨_, mem_at 1 rfl, [], ⟨rfl, fun q hq => absurd hq List.not_mem_nil, fun f hf => ?_, fun q hq => absurd hq List.not_mem_nil⟩, ⟨.int x, rfl, x, rfl, ?_⟩, fun q hq => ?_, fun q hq => ?_⟩
    · have hf := List.mem_singleton.mp hf
      subst hf
      exact ⟨_, yev1 rfl, by show (c : Int) + Int.negSucc 18 ≤ 0; omega⟩
    · rw [hx]; exact ((yev1 rfl).trans (congrArg some (Int.add_zero _)))
    · rcases List.mem_cons.mp hq with rfl | hq
      · exact yMk_of (i := 59) (k := 0) hW1 hC (by decide +kernel) (yev_cn _ 59) (yev_cn _ 0) (by rw [f2]; exact yev1 rfl)
      rcases List.mem_cons.mp hq with rfl | hq
      · exact yMk_ofA (i := 60) (k := c) hW1 hC (by decide +kernel) rfl (by decide) (by omega) (yev_cn _ 60) ((yev1 rfl).trans (congrArg some (Int.add_zero _))) (by rw [f5]; exact ((yev1 rfl).trans (congrArg some (Int.add_zero _))))
      rcases List.mem_cons.mp hq with rfl | hq
      · exact yMk_ofA (i := 61) (k := c) hW1 hC (by decide +kernel) rfl (by decide) (by omega) (yev_cn _ 61) ((yev1 rfl).trans (congrArg some (Int.add_zero _))) (by rw [f6]; exact ((yev1 rfl).trans (congrArg some (Int.add_zero _))))
      rcases List.mem_cons.mp hq with rfl | hq
      · exact yMk_ofA (i := 62) (k := c) hW1 hC (by decide +kernel) rfl (by decide) (by omega) (yev_cn _ 62) ((yev1 rfl).trans (congrArg some (Int.add_zero _))) (by rw [f7]; exact ((yev1 rfl).trans (congrArg some (Int.add_zero _))))
      have hq := List.mem_singleton.mp hq
      subst hq
      exact yMk_ofA (i := 63) (k := c) hW1 hC (by decide +kernel) rfl (by decide) (by omega) (yev_cn _ 63) ((yev1 rfl).trans (congrArg some (Int.add_zero _))) (by rw [f8, h1t]; exact ((yev1 rfl).trans (congrArg some (Int.add_zero _))))
    · rcases List.mem_cons.mp hq with rfl | hq
      · exact yPk_of hT.2.2.1 (by decide) ((yev1 rfl).trans (congrArg some (Int.add_zero _))) (yev_cn _ (-1)) (yev_cn _ 0) (show gUP (yKo ySr ws1 53) (yKo ySr ws1 109) (c : Int) (-1) from hG)
      have hq := List.mem_singleton.mp hq
      subst hq
      exact yPk_of hT.2.2.1 (by decide) ((yev1 rfl).trans (congrArg some (Int.add_zero _))) (yev_cn _ 0) (yev_cn _ 0) (show gLKS (kC (yKo ySr ws1)) (c : Int) from (gLK_ct hW1 hC (by omega)).mpr (gLKS_keep (fun i hi j hj => (f9 i j (by omega) (by omega)).symm) (f9 _ _ (by omega) (by omega)).symm hLK))
  · refine ⟨_, _, _, fun vs h => rs4 rfl h, lt_tell0 (d := 7) (C := xIm sz ws) (a1 := a1) (a2 := a2) (a3 := a3) (by rw [h0]; omega), fun ws1 rv q u hW1 hF hC hret _ _ _ _ _ => ?_⟩
    obtain ⟨x, rfl, hx⟩ := hret
    have eA : ∀ j, j < 20 → yKo ySr ws1 53 j = (xIm sz ws) 64 j := fun j hj => yKo_ct (i := 64) hW1 hC (by decide +kernel) rfl rfl (by decide) hj
    have eB : yKo ySr ws1 109 = yKo ySr ws 109 := yKo_fr hW hW1 hF (i := 120) (by decide +kernel) (by decide +kernel) (by decide +kernel)
    have hG : gUP (yKo ySr ws1 53) (yKo ySr ws1 109) (-1) 0 := by
      intro j hj
      rw [eA j hj, eB, lk_B2 hW]
      exact hU j hj
    refine ⟨_, mem_at 0 rfl, [], ⟨rfl, fun q hq => absurd hq List.not_mem_nil, fun f hf => ?_, fun q hq => absurd hq List.not_mem_nil⟩, ⟨.int x, rfl, x, rfl, by rw [hx]; exact yev_cn _ (-1)⟩, fun q hq => ?_, fun q hq => ?_⟩
    · have hf := List.mem_singleton.mp hf
      subst hf
      exact ⟨-(c : Int) + 20, by simp [yev, yevT], by omega⟩
    · have hq := List.mem_singleton.mp hq
      subst hq
      exact yMk_of (i := 59) (k := 0) hW1 hC (by decide +kernel) (yev_cn _ 59) (yev_cn _ 0) (by rw [h0]; exact ((yev1 rfl).trans (congrArg some (Int.add_zero _))))
    · rcases List.mem_cons.mp hq with rfl | hq
      · exact yPk_of hT.2.2.1 (by decide) (yev_cn _ (-1)) (yev_cn _ 0) (yev_cn _ 0) (show gUP (yKo ySr ws1 53) (yKo ySr ws1 109) (-1) 0 from hG)
      have hq := List.mem_singleton.mp hq
      subst hq
      exact yPk_of hT.2.2.1 (by decide) ((yev1 rfl).trans (congrArg some (Int.add_zero _))) (yev_cn _ 0) (yev_cn _ 0) (show gLKS (kC (yKo ySr ws1)) (c : Int) from (gLK_ct hW1 hC (by omega)).mpr hLK)
set_option maxRecDepth 100000 in
theorem yXs_X12_look : yX 258 yc_178 := by
  intro l hT B hall
  refine yCt_strong (ct := yc_151) (R := 16) (d := 9) (rk := 1) (by decide) (by decide) rfl (yX_pl hT rfl yv_151 hall) rfl rfl rfl rfl (fun vt h => ⟨h.1, h.2.1, fun q hq => absurd hq List.not_mem_nil, h.2.2.2⟩) (fun q hq => (show q ∈ yc_151.1.2.2.2.2.2.1 ++ yc_178.1.2.2.2.2.2.1.drop 3 from List.mem_append_left _ hq)) (fun q hq => absurd hq List.not_mem_nil) ?_
  intro b sz vt ws ca hRS hW hM hP _
  obtain ⟨hlen, hB, hFx, -⟩ := hRS
  obtain ⟨a1, a2, a3, c0, n, t, rfl⟩ := vt6c hlen
  have b1 := bdz hB (mem_at 3 rfl) (rfl : [a1, a2, a3, c0, n, t][3]? = some c0)
  have b2 := bdz hB (mem_at 4 rfl) (rfl : [a1, a2, a3, c0, n, t][4]? = some n)
  have b1 : 0 ≤ c0 ∧ c0 ≤ 20 := b1
  have b2 : 0 ≤ n ∧ n ≤ 6 := b2
  obtain ⟨c, rfl⟩ : ∃ c : Nat, c0 = (c : Int) := ⟨c0.toNat, by omega⟩
  have w0 := rfz (z := (c : Int) + -19) hFx (mem_at 0 rfl) (by simp [yev, yevT])
  have w1 := rfz (z := -a1) hFx (mem_at 1 rfl) (by simp [yev, yevT])
  have w2 := rfz (z := a1 + -60) hFx (mem_at 2 rfl) (by simp [yev, yevT])
  have w3 := rfz (z := -a2) hFx (mem_at 3 rfl) (by simp [yev, yevT])
  have w4 := rfz (z := a2 + -n + 1) hFx (mem_at 4 rfl) (by simp [yev, yevT])
  have w5 := rfz (z := -a3) hFx (mem_at 5 rfl) (by simp [yev, yevT])
  have w6 := rfz (z := a3 + -999) hFx (mem_at 6 rfl) (by simp [yev, yevT])
  have h0 : xIm sz ws 74 98 = (c : Int) := yMk_int (hM _ (mem_at 0 rfl)) (yev_cn _ 74) (yev_cn _ 98) ((yev1 rfl).trans (congrArg some (Int.add_zero _)))
  have h1 : xIm sz ws 74 49 = n := yMk_int (hM _ (mem_at 1 rfl)) (yev_cn _ 74) (yev_cn _ 49) ((yev1 rfl).trans (congrArg some (Int.add_zero _)))
  have h2t : xIm sz ws 74 99 = t := yMk_int (hM _ (mem_at 2 rfl)) (yev_cn _ 74) (yev_cn _ 99) ((yev1 rfl).trans (congrArg some (Int.add_zero _)))
  have g0 : xIm sz ws 60 c = a1 := yMk_int (hM _ (mem_at 3 rfl)) (yev_cn _ 60) ((yev1 rfl).trans (congrArg some (Int.add_zero _))) ((yev1 rfl).trans (congrArg some (Int.add_zero _)))
  have g1 : xIm sz ws 61 c = a2 := yMk_int (hM _ (mem_at 4 rfl)) (yev_cn _ 61) ((yev1 rfl).trans (congrArg some (Int.add_zero _))) ((yev1 rfl).trans (congrArg some (Int.add_zero _)))
  have g2 : xIm sz ws 62 c = a3 := yMk_int (hM _ (mem_at 5 rfl)) (yev_cn _ 62) ((yev1 rfl).trans (congrArg some (Int.add_zero _))) ((yev1 rfl).trans (congrArg some (Int.add_zero _)))
  have g3 : xIm sz ws 63 c = t := yMk_int (hM _ (mem_at 6 rfl)) (yev_cn _ 63) ((yev1 rfl).trans (congrArg some (Int.add_zero _))) ((yev1 rfl).trans (congrArg some (Int.add_zero _)))
  have hLK : gLKS (xIm sz ws) (c : Int) := (gLK_ct hW (xIm_ct hW) (by omega)).mp (yPk_to (hP _ (mem_at 1 rfl)) ((yev1 rfl).trans (congrArg some (Int.add_zero _))) (yev_cn _ 0) (yev_cn _ 0))
  have hU : gUP (yKo ySr ws 53) (yKo ySr ws 109) (c : Int) (-1) := yPk_to (hP _ (mem_at 0 rfl)) ((yev1 rfl).trans (congrArg some (Int.add_zero _))) (yev_cn _ (-1)) (yev_cn _ 0)
  rw [lk_B2 hW] at hU
  obtain ⟨F, f1, f2, f3, f4, ⟨f5, f6, f7, f8⟩, f9⟩ := lm_look1 (d := 7) (C := xIm sz ws) (a1 := a1) (a2 := a2) (a3 := a3) ⟨h0, xIm_rf (c := 116) hW (by decide +kernel), xIm_rf (c := 117) hW (by decide +kernel), xIm_rf (c := 118) hW (by decide +kernel), xIm_rf (c := 119) hW (by decide +kernel), xIm_rf (c := 120) hW (by decide +kernel)⟩ (by omega) h1 b2.1 b2.2 (by omega) (by omega) (by omega) (by omega) (by omega) (by omega)
  refine ⟨_, _, F, fun vs h => rs4 rfl h, f1, fun ws1 rv q u hW1 hF hC hret _ _ _ _ _ => ?_⟩
  obtain ⟨x, rfl, hx⟩ := hret
  have eB : ∀ j, j < 20 → yKo ySr ws1 109 j = F 120 j := fun j hj => yKo_ct (i := 120) hW1 hC (by decide +kernel) rfl rfl (by decide) hj
  have eA : yKo ySr ws1 53 = yKo ySr ws 53 := yKo_fr hW hW1 hF (i := 64) (by decide +kernel) (by decide +kernel) (by decide +kernel)
  have hG : gUP (yKo ySr ws1 53) (yKo ySr ws1 109) (-1) 0 := by
    intro j hj
    rw [eB j hj, eA]
    obtain ⟨g1, g2, g3⟩ := hU j hj
    refine ⟨g1, fun q => by omega, fun _ => ?_⟩
    by_cases e : j = c
    · rw [g2 (by omega), e, f3]
    · rw [f4 j e]
      exact g3 (by omega)
  refine ⟨_, mem_at 0 rfl, [], ⟨rfl, fun q hq => absurd hq List.not_mem_nil, fun q hq => absurd hq List.not_mem_nil, fun q hq => absurd hq List.not_mem_nil⟩, ⟨.int x, rfl, x, rfl, ?_⟩, fun q hq => ?_, fun q hq => ?_⟩
  · rw [hx]; exact ((yev1 rfl).trans (congrArg some (Int.add_zero _)))
  · have hq := List.mem_singleton.mp hq
    subst hq
    exact yMk_of (i := 74) (k := 98) hW1 hC (by decide +kernel) (yev_cn _ 74) (yev_cn _ 98) (by rw [f2]; exact yev1 rfl)
  · rcases List.mem_cons.mp hq with rfl | hq
    · exact yPk_of hT.2.2.1 (by decide) (yev_cn _ (-1)) (yev_cn _ 0) (yev_cn _ 0) (show gUP (yKo ySr ws1 53) (yKo ySr ws1 109) (-1) 0 from hG)
    have hq := List.mem_singleton.mp hq
    subst hq
    have hLF : gLKS F (c : Int) := gLKS_keep (fun i hi j hj => (f9 i j (by omega) (by omega)).symm) (f9 _ _ (by omega) (by omega)).symm hLK
    refine yPk_of hT.2.2.1 (by decide) (yev1 rfl) (yev_cn _ 0) (yev_cn _ 0) (show gLKS (kC (yKo ySr ws1)) ((c : Int) + 1) from (gLK_ct hW1 hC (by omega)).mpr fun l hl => ?_)
    by_cases e : l = c
    · rw [e]
      have e0 := f9 60 c (by omega) (by omega)
      have e1 := f9 61 c (by omega) (by omega)
      have e2 := f9 62 c (by omega) (by omega)
      have e3 := f9 63 c (by omega) (by omega)
      have e4 := f9 74 49 (by omega) (by omega)
      rw [e0, e1, e2, e3, e4, f5, f6, f7, f8, g0, g1, g2, g3, h1, h2t]
      exact ⟨⟨rfl, rfl, rfl, rfl⟩, ⟨by omega, by omega⟩, ⟨by omega, by omega⟩, by omega⟩
    · exact hLF l (by omega)
end xHandL
