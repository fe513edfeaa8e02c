/-! Feed: contracts that say what the bytes are. -/
section xHandF
variable {b sz : Nat} {ca : Nat → ClassId} {ws ws1 : va_W} {v : List Int} {C1 : xC}
theorem vt6 {vt : List Int} (h : vt.length = 6) : ∃ a1 a2 a3 a4 a5 x, vt = [a1, a2, a3, a4, a5, x] := by
  match vt, h with
  | [a1, a2, a3, a4, a5, x], _ => exact ⟨a1, a2, a3, a4, a5, x, rfl⟩
theorem rs6 {a0 : yA} {a1 a2 a3 a4 a5 x : Int} {n t : Nat} {vs : List Value} (he : a0 = .inr (.inr (.inl (([], .ofNat n), t)))) (h : ySR b sz ySr [a1, a2, a3, a4, a5, x] [a0, .inl ([(0, .ofNat 1)], .ofNat 0), .inl ([(1, .ofNat 1)], .ofNat 0), .inl ([(2, .ofNat 1)], .ofNat 0), .inl ([(3, .ofNat 1)], .ofNat 0), .inl ([(4, .ofNat 1)], .ofNat 0)] vs) : xSR b sz ySr [.inr (.inr (.inl (n, t))), .inl a1, .inl a2, .inl a3, .inl a4, .inl a5] vs := by
  subst he
  obtain ⟨w0, s0, rfl, hw0, hS0⟩ := ySR_cons h
  obtain ⟨w1, s1, rfl, hw1, hS1⟩ := ySR_cons hS0
  obtain ⟨w2, s2, rfl, hw2, hS2⟩ := ySR_cons hS1
  obtain ⟨w3, s3, rfl, hw3, hS3⟩ := ySR_cons hS2
  obtain ⟨w4, s4, rfl, hw4, hS4⟩ := ySR_cons hS3
  obtain ⟨w5, s5, rfl, hw5, hS5⟩ := ySR_cons hS4
  have := ySR_nil hS5
  subst this
  exact ⟨yV_ref (n := n) hw0 (yev_cn _ (n : Int)), yV_int hw1 ((yev1 rfl).trans (congrArg some (Int.add_zero _))), yV_int hw2 ((yev1 rfl).trans (congrArg some (Int.add_zero _))), yV_int hw3 ((yev1 rfl).trans (congrArg some (Int.add_zero _))), yV_int hw4 ((yev1 rfl).trans (congrArg some (Int.add_zero _))), yV_int hw5 ((yev1 rfl).trans (congrArg some (Int.add_zero _))), trivial⟩
theorem bd6 {a : Int} {vt : List Int} {i : Nat} {B : yBd} (h : yRB vt B) (hm : (i, Int.negSucc 2147483647, Int.ofNat 2147483647) ∈ B) (ha : vt[i]? = some a) : fIn a := by
  obtain ⟨z, h1, h2, h3⟩ := h _ hm
  have h1 : vt[i]? = some z := h1
  rw [ha] at h1
  have h1 := Option.some.inj h1
  subst h1
  exact ⟨h2, h3⟩
theorem wr4 {a : Nat → Int} {v : Int} {n : Nat} (h : ∀ k, k < 4 → a (n + k) = fBy v k) : gWRD a v (n : Int) ((n + 4 : Nat) : Int) := ⟨by omega, by omega, fun k hk => by rw [Int.toNat_natCast]; exact h k hk⟩
set_option maxRecDepth 100000 in
theorem yXs_X11_feed : yX 108 yc_201 := by
  intro l hT B hall
  refine yCt_strong (ct := yc_0) (R := 20) (d := 15) (rk := 1) (by decide) (by decide) rfl (yX_pl hT rfl yv_0 hall) rfl rfl rfl rfl (fun vt h => h) (fun q hq => hq) (fun q hq => absurd hq List.not_mem_nil) ?_
  intro b sz vt ws ca hRS hW hM hP _
  obtain ⟨hlen, hB, hFx, -⟩ := hRS
  obtain ⟨a1, a2, a3, a4, a5, x5, rfl⟩ := vt6 hlen
  have i1 := bd6 (i := 0) hB (mem_at 0 rfl) rfl
  have i2 := bd6 (i := 1) hB (mem_at 1 rfl) rfl
  have i3 := bd6 (i := 2) hB (mem_at 2 rfl) rfl
  have i4 := bd6 (i := 3) hB (mem_at 3 rfl) rfl
  have i5 := bd6 (i := 4) hB (mem_at 4 rfl) rfl
  obtain ⟨z, hz1, hz2, hz3⟩ := hB (5, .ofNat 0, .ofNat 1700) (mem_at 5 rfl)
  have hz1 := Option.some.inj hz1
  subst hz1
  have hz2 : 0 ≤ x5 := hz2
  have hz3 : x5 ≤ 1700 := hz3
  obtain ⟨N, rfl⟩ : ∃ N : Nat, x5 = (N : Int) := ⟨x5.toNat, by omega⟩
  have hT1 : gTXT (yKo ySr ws 1) (yKo ySr ws 64) (N : Int) := yPk_to (hP _ (mem_at 0 rfl)) (yevN (k := 0) rfl) (yev_cn _ 0) (yev_cn _ 0)
  have h01 : xIm sz ws 0 1 = (N : Int) := yMk_int (hM _ (mem_at 0 rfl)) (yev_cn _ 0) (yev_cn _ 1) (yevN (k := 0) rfl)
  by_cases hfull : N + 20 ≤ 1700
  · obtain ⟨F, f1, f2, f3, f4⟩ := fx_feed (d := 16) (n := N) (C := xIm sz ws) (by decide) (xIm_rf (c := 1) hW (by decide +kernel)) h01 hfull i1 i2 i3 i4 i5
    refine ⟨_, _, F, fun vs h => rs6 rfl h, f1, fun ws1 rv q u hW1 hF hC hret _ _ _ _ _ => ?_⟩
    obtain ⟨x, rfl, hx⟩ := hret
    have eA : ∀ j, j < 1700 → yKo ySr ws1 1 j = F 1 j := fun j hj => yKo_ct (i := 1) hW1 hC (by decide +kernel) rfl rfl (by decide) hj
    have eB : yKo ySr ws1 64 = yKo ySr ws 64 := yKo_fr hW hW1 hF (i := 75) (by decide +kernel) (by decide +kernel) (by decide +kernel)
    refine ⟨_, mem_at 1 rfl, [], ⟨rfl, fun q hq => absurd hq List.not_mem_nil, fun f hf => ?_, fun q hq => absurd hq List.not_mem_nil⟩, ⟨.int x, rfl, x, rfl, ?_⟩, fun q hq => ?_, fun q hq => ?_⟩
    · have hf := List.mem_singleton.mp hf
      subst hf
      exact ⟨_, yev1 rfl, by show (N : Int) + Int.negSucc 1679 ≤ 0; omega⟩
    · rw [hx]; exact yevN (k := 20) rfl
    · have hq := List.mem_singleton.mp hq
      subst hq
      exact yMk_of (i := 0) (k := 1) hW1 hC (by decide +kernel) (yev_cn _ 0) (yev_cn _ 1) (by rw [f4]; exact yevN (k := 20) rfl)
    · rcases List.mem_cons.mp hq with rfl | hq
      · refine yPk_of hT.2.2.1 (by decide) (yevN (k := 0) rfl) (yev_cn _ 0) (yev_cn _ 0) (show gTXT (yKo ySr ws1 1) (yKo ySr ws1 64) ((N + 0 : Nat) : Int) from fun j hj => ?_)
        have hj : j < N := by omega
        rw [eA j (by omega), eB, f3 j hj, ← rt_B hW]
        exact hT1 j (by omega)
      rcases List.mem_cons.mp hq with rfl | hq
      · exact yPk_of hT.2.2.1 (by decide) ((yev1 rfl).trans (congrArg some (Int.add_zero _))) (yevN (k := 0) rfl) (yevN (k := 4) rfl) (show gWRD (yKo ySr ws1 1) a1 ((N + 0 : Nat) : Int) ((N + 4 : Nat) : Int) from wr4 fun k hk => by rw [eA _ (by omega)]; exact (f2 k hk).1)
      rcases List.mem_cons.mp hq with rfl | hq
      · exact yPk_of hT.2.2.1 (by decide) ((yev1 rfl).trans (congrArg some (Int.add_zero _))) (yevN (k := 4) rfl) (yevN (k := 8) rfl) (show gWRD (yKo ySr ws1 1) a2 ((N + 4 : Nat) : Int) ((N + 8 : Nat) : Int) from wr4 fun k hk => by rw [eA _ (by omega)]; exact (f2 k hk).2.1)
      rcases List.mem_cons.mp hq with rfl | hq
      · exact yPk_of hT.2.2.1 (by decide) ((yev1 rfl).trans (congrArg some (Int.add_zero _))) (yevN (k := 8) rfl) (yevN (k := 12) rfl) (show gWRD (yKo ySr ws1 1) a3 ((N + 8 : Nat) : Int) ((N + 12 : Nat) : Int) from wr4 fun k hk => by rw [eA _ (by omega)]; exact (f2 k hk).2.2.1)
      rcases List.mem_cons.mp hq with rfl | hq
      · exact yPk_of hT.2.2.1 (by decide) ((yev1 rfl).trans (congrArg some (Int.add_zero _))) (yevN (k := 12) rfl) (yevN (k := 16) rfl) (show gWRD (yKo ySr ws1 1) a4 ((N + 12 : Nat) : Int) ((N + 16 : Nat) : Int) from wr4 fun k hk => by rw [eA _ (by omega)]; exact (f2 k hk).2.2.2.1)
      have hq := List.mem_singleton.mp hq
      subst hq
      exact yPk_of hT.2.2.1 (by decide) ((yev1 rfl).trans (congrArg some (Int.add_zero _))) (yevN (k := 16) rfl) (yevN (k := 20) rfl) (show gWRD (yKo ySr ws1 1) a5 ((N + 16 : Nat) : Int) ((N + 20 : Nat) : Int) from wr4 fun k hk => by rw [eA _ (by omega)]; exact (f2 k hk).2.2.2.2)
  · have f1 := fx_full (d := 16) (n := N) (C := xIm sz ws) (a1 := a1) (a2 := a2) (a3 := a3) (a4 := a4) (a5 := a5) (by decide) h01 (by omega) (by omega)
    refine ⟨_, _, xIm sz ws, fun vs h => rs6 rfl h, f1, fun ws1 rv q u hW1 hF hC hret _ _ _ _ _ => ?_⟩
    obtain ⟨x, rfl, hx⟩ := hret
    have eA : ∀ j, j < 1700 → yKo ySr ws1 1 j = xIm sz ws 1 j := fun j hj => yKo_ct (i := 1) hW1 hC (by decide +kernel) rfl rfl (by decide) hj
    have eB : yKo ySr ws1 64 = yKo ySr ws 64 := yKo_fr hW hW1 hF (i := 75) (by decide +kernel) (by decide +kernel) (by decide +kernel)
    refine ⟨_, mem_at 0 rfl, [], ⟨rfl, fun q hq => absurd hq List.not_mem_nil, fun f hf => ?_, fun q hq => absurd hq List.not_mem_nil⟩, ⟨.int x, rfl, x, rfl, ?_⟩, fun q hq => ?_, fun q hq => ?_⟩
    · have hf := List.mem_singleton.mp hf
      subst hf
      exact ⟨-(N : Int) + 1681, by simp [yev, yevT], by omega⟩
    · rw [hx]; exact yev_cn _ (-1)
    · have hq := List.mem_singleton.mp hq
      subst hq
      exact yMk_of (i := 0) (k := 1) hW1 hC (by decide +kernel) (yev_cn _ 0) (yev_cn _ 1) (by rw [h01]; exact yevN (k := 0) rfl)
    · have hq := List.mem_singleton.mp hq
      subst hq
      refine yPk_of hT.2.2.1 (by decide) (yevN (k := 0) rfl) (yev_cn _ 0) (yev_cn _ 0) (show gTXT (yKo ySr ws1 1) (yKo ySr ws1 64) ((N + 0 : Nat) : Int) from fun j hj => ?_)
      rw [eA j (by omega), eB, ← rt_B hW]
      exact hT1 j (by omega)
set_option maxRecDepth 100000 in
theorem yXs_X12_feed : yX 150 yc_202 := by
  intro l hT B hall
  refine yCt_strong (ct := yc_93) (R := 20) (d := 15) (rk := 1) (by decide) (by decide) rfl (yX_pl hT rfl yv_93 hall) rfl rfl rfl rfl (fun vt h => ⟨h.1, h.2.1, fun q hq => absurd hq List.not_mem_nil, h.2.2.2⟩) (fun q hq => hq) (fun q hq => absurd hq List.not_mem_nil) ?_
  intro b sz vt ws ca hRS hW hM hP _
  obtain ⟨hlen, hB, hFx, -⟩ := hRS
  obtain ⟨a1, a2, a3, a4, a5, x5, rfl⟩ := vt6 hlen
  have i1 := bd6 (i := 0) hB (mem_at 0 rfl) rfl
  have i2 := bd6 (i := 1) hB (mem_at 1 rfl) rfl
  have i3 := bd6 (i := 2) hB (mem_at 2 rfl) rfl
  have i4 := bd6 (i := 3) hB (mem_at 3 rfl) rfl
  have i5 := bd6 (i := 4) hB (mem_at 4 rfl) rfl
  obtain ⟨z, hz1, hz2, hz3⟩ := hB (5, .ofNat 0, .ofNat 1700) (mem_at 5 rfl)
  have hz1 := Option.some.inj hz1
  subst hz1
  have hz2 : 0 ≤ x5 := hz2
  have hz3 : x5 ≤ 1700 := hz3
  obtain ⟨N, rfl⟩ : ∃ N : Nat, x5 = (N : Int) := ⟨x5.toNat, by omega⟩
  have hT1 : gTXT (yKo ySr ws 1) (yKo ySr ws 64) (N : Int) := yPk_to (hP _ (mem_at 0 rfl)) (yevN (k := 0) rfl) (yev_cn _ 0) (yev_cn _ 0)
  have hfull : N + 20 ≤ 1700 := by
    obtain ⟨z, h1, h2⟩ := hFx _ (mem_at 0 rfl)
    have h0 : yev [a1, a2, a3, a4, a5, (N : Int)] (([(5, 1)], Int.negSucc 1679) : yE) = some ((N : Int) + Int.negSucc 1679) := yev1 rfl
    have h1 : yev [a1, a2, a3, a4, a5, (N : Int)] (([(5, 1)], Int.negSucc 1679) : yE) = some z := h1
    rw [h0] at h1
    have h1 := Option.some.inj h1
    omega
  have h01 : xIm sz ws 74 1 = (N : Int) := yMk_int (hM _ (mem_at 0 rfl)) (yev_cn _ 74) (yev_cn _ 1) (yevN (k := 0) rfl)
  have w1 : gWRD (yKo ySr ws 1) a1 ((N + 0 : Nat) : Int) ((N + 4 : Nat) : Int) := yPk_to (hP _ (mem_at 1 rfl)) ((yev1 rfl).trans (congrArg some (Int.add_zero _))) (yevN (k := 0) rfl) (yevN (k := 4) rfl)
  have w2 : gWRD (yKo ySr ws 1) a2 ((N + 4 : Nat) : Int) ((N + 8 : Nat) : Int) := yPk_to (hP _ (mem_at 2 rfl)) ((yev1 rfl).trans (congrArg some (Int.add_zero _))) (yevN (k := 4) rfl) (yevN (k := 8) rfl)
  have w3 : gWRD (yKo ySr ws 1) a3 ((N + 8 : Nat) : Int) ((N + 12 : Nat) : Int) := yPk_to (hP _ (mem_at 3 rfl)) ((yev1 rfl).trans (congrArg some (Int.add_zero _))) (yevN (k := 8) rfl) (yevN (k := 12) rfl)
  have w4 : gWRD (yKo ySr ws 1) a4 ((N + 12 : Nat) : Int) ((N + 16 : Nat) : Int) := yPk_to (hP _ (mem_at 4 rfl)) ((yev1 rfl).trans (congrArg some (Int.add_zero _))) (yevN (k := 12) rfl) (yevN (k := 16) rfl)
  have w5 : gWRD (yKo ySr ws 1) a5 ((N + 16 : Nat) : Int) ((N + 20 : Nat) : Int) := yPk_to (hP _ (mem_at 5 rfl)) ((yev1 rfl).trans (congrArg some (Int.add_zero _))) (yevN (k := 16) rfl) (yevN (k := 20) rfl)
  obtain ⟨F, f1, f2, f3, f4⟩ := fm_feed (d := 16) (n := N) (C := xIm sz ws) (by decide) (xIm_rf (c := 75) hW (by decide +kernel)) h01 hfull i1 i2 i3 i4 i5
  refine ⟨_, _, F, fun vs h => rs6 rfl h, f1, fun ws1 rv q u hW1 hF hC hret _ _ _ _ _ => ?_⟩
  obtain ⟨x, rfl, hx⟩ := hret
  have eA : ∀ j, j < 1700 → yKo ySr ws1 64 j = F 75 j := fun j hj => yKo_ct (i := 75) hW1 hC (by decide +kernel) rfl rfl (by decide) hj
  have eB : yKo ySr ws1 1 = yKo ySr ws 1 := yKo_fr hW hW1 hF (i := 1) (by decide +kernel) (by decide +kernel) (by decide +kernel)
  refine ⟨_, mem_at 0 rfl, [], ⟨rfl, fun q hq => absurd hq List.not_mem_nil, fun q hq => absurd hq List.not_mem_nil, fun q hq => absurd hq List.not_mem_nil⟩, ⟨.int x, rfl, x, rfl, ?_⟩, fun q hq => ?_, fun q hq => ?_⟩
  · rw [hx]; exact yevN (k := 20) rfl
  · have hq := List.mem_singleton.mp hq
    subst hq
    exact yMk_of (i := 74) (k := 1) hW1 hC (by decide +kernel) (yev_cn _ 74) (yev_cn _ 1) (by rw [f4]; exact yevN (k := 20) rfl)
  · have hq := List.mem_singleton.mp hq
    subst hq
    refine yPk_of hT.2.2.1 (by decide) (yevN (k := 20) rfl) (yev_cn _ 0) (yev_cn _ 0) (show gTXT (yKo ySr ws1 1) (yKo ySr ws1 64) ((N + 20 : Nat) : Int) from fun j hj => ?_)
    have hj : j < N + 20 := by omega
    have wd : ∀ (a : Int) (m k : Nat), gWRD (yKo ySr ws 1) a ((N + m : Nat) : Int) ((N + (m + 4) : Nat) : Int) → k < 4 → F 75 (N + m + k) = fBu a k → rdB (F 75 (N + m + k)) (yKo ySr ws 1 (N + m + k)) := by
      intro a m k hw hk hf
      have h3 := hw.2.2 k hk
      rw [Int.toNat_natCast] at h3
      rw [h3, hf]
      exact rdB_by a k
    rw [eA j (by omega), eB]
    by_cases c0 : j < N
    · rw [f3 j c0, ← rt_B2 hW]
      exact hT1 j (by omega)
    by_cases c1 : j < N + 4
    · obtain ⟨k, rfl⟩ : ∃ k, j = N + 0 + k := ⟨j - (N + 0), by omega⟩
      exact wd a1 0 k w1 (by omega) (f2 k (by omega)).1
    by_cases c2 : j < N + 8
    · obtain ⟨k, rfl⟩ : ∃ k, j = N + 4 + k := ⟨j - (N + 4), by omega⟩
      exact wd a2 4 k w2 (by omega) (f2 k (by omega)).2.1
    by_cases c3 : j < N + 12
    · obtain ⟨k, rfl⟩ : ∃ k, j = N + 8 + k := ⟨j - (N + 8), by omega⟩
      exact wd a3 8 k w3 (by omega) (f2 k (by omega)).2.2.1
    by_cases c4 : j < N + 16
    · obtain ⟨k, rfl⟩ : ∃ k, j = N + 12 + k := ⟨j - (N + 12), by omega⟩
      exact wd a4 12 k w4 (by omega) (f2 k (by omega)).2.2.2.1
    by_cases c5 : j < N + 20
    · obtain ⟨k, rfl⟩ : ∃ k, j = N + 16 + k := ⟨j - (N + 16), by omega⟩
      exact wd a5 16 k w5 (by omega) (f2 k (by omega)).2.2.2.2
    omega
end xHandF
