/-! From the law's entry to its end, for every script: if the methods by hand hold. -/
set_option maxRecDepth 100000 in
theorem yq_parts : ∃ (Lc : List (Option zAV)) (Hc : zHp) (sl : Nat), zlaw1 = some (true, (18, Lc, [], Hc, 126, sl)) ∧ ychkL Lc = true ∧ ychkH Hc ySr yTt ySr 0 = true ∧ ychkM2 Hc ySr yLst.2.2.2.2.1 = true ∧ ySr.length = 126 ∧ sl ≤ 7302250 ∧ yKinds yTt = true ∧ ychkZ Hc 64 = true ∧ ychkZ Hc 120 = true := by
  have h := yq_start
  unfold ychkAll at h
  generalize zlaw1 = o at h
  match o, h with
  | some (true, (pc, L, S, H, n, sl)), h =>
    simp only [Bool.and_eq_true] at h
    obtain ⟨h1, h2, h3, h4, h5, h6, h7, h8, h9, h10, h11⟩ := h
    have h1 := Nat.eq_of_beq_eq_true h1
    have h6 := Nat.eq_of_beq_eq_true h6
    subst h1; subst h6
    split at h3
    · exact ⟨L, H, sl, rfl, h2, h4, h5, Nat.eq_of_beq_eq_true h7, Nat.le_of_ble_eq_true h8, h9, h10, h11⟩
    · cases h3
set_option maxRecDepth 100000 in
theorem ychkL_ok {b sz : Nat} {xs : Nat → Int32} {Lc : List (Option zAV)} {ls : Array Slot} {v : List Int} (h : ychkL Lc = true) (hL : zLR b sz xs ls 4 Lc) (hs0 : ySr[0]? = some 0) (hs1 : ySr[74]? = some 63) : yLR b sz ySr v ls 4 yLL := by
  unfold ychkL at h
  split at h
  · rename_i a x m i
    simp only [Bool.and_eq_true] at h
    obtain ⟨h1, h2, h3, h4⟩ := h
    obtain ⟨-, lv, hlv, hall⟩ := hL
    refine ⟨rfl, lv, hlv, fun n y hn => ?_⟩
    match n, hn with
    | 0, hn =>
      cases hn
      obtain ⟨w, w1, w2⟩ := hall 0 a rfl
      exact ⟨w, zG_scr w1 h1, w2⟩
    | 1, hn =>
      cases hn
      obtain ⟨w, w1, w2⟩ := hall 1 x rfl
      split at h2
      · rename_i k hk
        have h2 := Nat.eq_of_beq_eq_true h2
        subst h2
        exact ⟨w, ⟨0, zG_rf w1 hk, yev_cn v _, hs0⟩, w2⟩
      · cases h2
    | 2, hn =>
      cases hn
      obtain ⟨w, w1, w2⟩ := hall 2 m rfl
      split at h3
      · rename_i k hk
        have h3 := Nat.eq_of_beq_eq_true h3
        subst h3
        exact ⟨w, ⟨74, zG_rf w1 hk, yev_cn v _, hs1⟩, w2⟩
      · cases h3
    | 3, hn =>
      cases hn
      obtain ⟨w, w1, w2⟩ := hall 3 i rfl
      split at h4
      · rename_i k hk
        have h4 := Nat.eq_of_beq_eq_true h4
        have hk0 : k = 0 := by rw [← z_i32 k, h4]; rfl
        subst hk0
        exact ⟨w, ⟨0, zG_con w1 hk, yev_cn v _⟩, w2⟩
      · cases h4
    | n + 4, hn => simp [zget_eq, yLL] at hn
  · cases h
theorem y_T9 : yT9 ySr := by
  refine ⟨fun i t h => ?_, fun i t ht h => ?_⟩
  · have h0 : ∀ t ∈ ySr, t < 900 := by decide +kernel
    refine ⟨h0 t (List.mem_of_getElem? h), fun h2 h3 => ?_⟩
    have h1 : ∀ i : Nat, i < 24 → 2 ≤ i → ySr[i]? = some (yrk (i + 200)) := by decide +kernel
    have := h1 i (by omega) h2
    rw [h] at this
    exact (Option.some.inj this).symm
  · have h0 : ∀ t ∈ yOne, ∀ i : Nat, i < 126 → ySr[i]? = some t → ySr.idxOf t = i := by decide +kernel
    have hl : ySr.length = 126 := by decide +kernel
    exact h0 t ht i (by rw [← hl]; exact (List.getElem?_eq_some_iff.mp h).1) h
noncomputable def yArB (tt : List yKd) (r : Nat × Int × Int × Int × Int) : Bool := match zget tt (yrk r.1) with
  | some (_, .inr _) => !(yobj r.1)
  | some (_, .inl _) => yobj r.1 && (decide (0 ≤ r.2.1) && (decide (r.2.2.1 = 0) && (decide (r.2.2.2.1 = 0) && decide (r.2.2.2.2 = r.2.1 + 1))))
  | none => false
theorem yrdL_mem {t : Nat} {r : Nat × Int × Int × Int × Int} : ∀ {l : List (Nat × List (Nat × Int × Int × Int × Int))}, r ∈ yrdL t l → ∃ q ∈ l, r ∈ q.2 := by
  intro l
  induction l with
  | nil => intro h; cases h
  | cons q l ih =>
    intro h
    have h : r ∈ (match Nat.beq q.1 t with
      | true => q.2
      | false => yrdL t l) := h
    split at h
    · exact ⟨q, List.mem_cons_self, h⟩
    · obtain ⟨q1, g1, g2⟩ := ih h
      exact ⟨q1, List.mem_cons_of_mem _ g1, g2⟩
theorem y_ArK : yArK yTt := by
  intro t r hr
  have h0 : (yrdT.all fun q => q.2.all fun r => yArB yTt r) = true := by decide +kernel
  have h1 : ∃ q ∈ yrdT, r ∈ q.2 := by
    unfold yrdI at hr
    split at hr
    · exact yrdL_mem hr
    · cases hr
  obtain ⟨q, q1, q2⟩ := h1
  have h2 := List.all_eq_true.mp (List.all_eq_true.mp h0 q q1) r q2
  unfold yArB at h2
  split at h2
  · rename_i k1 k2 hk
    left
    exact ⟨by simpa using h2, (k1, k2), hk⟩
  · rename_i k1 k2 hk
    simp only [Bool.and_eq_true, decide_eq_true_eq] at h2
    right
    exact ⟨h2.1, h2.2.1, h2.2.2.1, h2.2.2.2.1, h2.2.2.2.2, (k1, k2), hk⟩
  · cases h2
set_option maxHeartbeats 4000000 in
theorem y_whole (hAll : yAllP 0 yTb) {p : Program} {e : Env} {s : State} {m : MethodId} {below : List Frame} {meth : Method} {c : Code} (l : Launch) {b L : Nat} {xs : Nat → Int32} (hL : L ≤ 3072) (C0 : lw_At p s m meth c b L xs) : W p l e room_1 s m #[Value.ref b] below meth c s.heap [] 0 0 (lw_Z below #[Value.ref b] s) (entryFrame m ([Value.ref b] : List Value).toArray 4) := by
  obtain ⟨hx, hb, hr, hml, hown, hts, hX, hbl, hlocks, hgv⟩ := C0
  have htW : ∀ w ∈ zW, w.before #[Value.ref b] s = true := fun w hw => hts w (zW_tbl hw)
  have HD : ∀ k : Nat, ∃ ci : ClassId × (Nat → Nat), ∀ q, vwCl[k]? = some q → u_Kn s q.1 q.2.1 q.2.2 ci.1 ci.2 := by
    intro k
    cases h : vwCl[k]? with
    | none => exact ⟨(0, fun _ => 0), fun q hq => by cases hq⟩
    | some q =>
      obtain ⟨C, T, N⟩ := q
      obtain ⟨c1, -, -, c4, -⟩ := zClsOK_all k C T N h
      obtain ⟨cC, iS, hK⟩ := u_known (C := C) (T := T) (N := N) (n := N) htW c1 (htW _ c4)
      exact ⟨(cC, iS), fun q hq => by cases hq; exact hK⟩
  obtain ⟨f, hf⟩ : ∃ f : Nat → ClassId × (Nat → Nat), ∀ (k : Nat) (q : vw_C), vwCl[k]? = some q → u_Kn s q.1 q.2.1 q.2.2 (f k).1 (f k).2 := ⟨fun k => Classical.choose (HD k), fun k => Classical.choose_spec (HD k)⟩
  have HA : ∀ kd : Nat, ∃ cA : ClassId, kd < 4 → ArrOfT s cA (zty kd) ∧ va_RA s cA (zty kd) := by
    intro kd
    by_cases h4 : kd < 4
    · have hw : Cond.arrayClass (zty kd) ∈ zW := by
        obtain ⟨z0, z1, z2, z3⟩ := zar_ok
        rcases (show kd = 0 ∨ kd = 1 ∨ kd = 2 ∨ kd = 3 by omega) with rfl | rfl | rfl | rfl
        · exact zisw_mem z0
        · exact zisw_mem z1
        · exact zisw_mem z2
        · exact zisw_mem z3
      obtain ⟨cA, kA, comp, hfind, hk, hkind⟩ := Cond.arrayClass_spec (htW _ hw)
      refine ⟨cA, fun _ => ⟨fun n z => ⟨fun k h => (by cases h), kA, hk, comp, hkind⟩, ?_⟩⟩
      rcases (show kd = 0 ∨ kd = 1 ∨ kd = 2 ∨ kd = 3 by omega) with rfl | rfl | rfl | rfl <;> exact hfind
    · exact ⟨0, fun h => absurd h h4⟩
  obtain ⟨ca, hca⟩ : ∃ ca : Nat → ClassId, ∀ kd, kd < 4 → ArrOfT s (ca kd) (zty kd) ∧ va_RA s (ca kd) (zty kd) := ⟨fun k => Classical.choose (HA k), fun k => Classical.choose_spec (HA k)⟩
  obtain ⟨D, hD⟩ : ∃ D : va_G, D = (fun k => (f k).1, fun k => (f k).2) := ⟨_, rfl⟩
  have hK : va_K D vwCl (zTys ca) s := by
    subst hD
    refine ⟨fun k q h => hf k q h, fun k q h => ?_⟩
    match k, h with
    | 0, h => cases h; exact hca 0 (by decide)
    | 1, h => cases h; exact hca 1 (by decide)
    | 2, h => cases h; exact hca 2 (by decide)
    | 3, h => cases h; exact hca 3 (by decide)
    | k + 4, h => simp [zTys] at h
  have hN : yWat s.heap.size s := yWat_start (fun q hq => va_Nw.of rfl (hts _ (znest_in q hq))) hts hgv
  obtain ⟨P, hP⟩ : ∃ P : zPar, P = (some L, [], none) := ⟨_, rfl⟩
  have hyp : zHyp P xs := by
    subst hP
    exact ⟨fun j lo hi hg => (by simp [zget_eq] at hg), fun z hz => (by cases hz)⟩
  have hPL : zlen P = L := by subst hP; rfl
  have hF : zFr P p room_1 s m #[Value.ref b] meth c code 4 "RestDaysLaw" "" b s.heap.size 0 xs D ca 11 :=
    ⟨hx, hb, hml, hown, htW, hK, by rw [hPL]; exact hX, hN.1, hbl, rfl, hyp, by decide, by decide, fun h => absurd h (by decide)⟩
  have IH := zrun_sound (l := l) (P := P) (df := zDef) zClsOK_all zMiOK_all zCdOK_all zGen_all 11
  have stp := zstep_ok (l := l) (e := e) (below := below) (Q := lw_Z below #[Value.ref b] s) (sb := 0) hF zClsOK_all zMiOK_all zCdOK_all.1 zGen_all IH zcdL_all
  have hdep : ∀ cf r, zstepU 18 (zstep zP0 zDef zC_L_law (zrun zP0 zDef zMt 11)) cf = some r → zstepU 18 (zstep P zDef zC_L_law (zrun P zDef zMt 11)) cf = some r := by
    intro cf r h
    unfold zstepU at h ⊢
    by_cases hc : Nat.beq cf.1 18 = true
    · rw [if_pos hc] at h ⊢
      exact h
    · rw [if_neg hc] at h ⊢
      exact zstep_dep (zrun_dep 11) h
  obtain ⟨Lc, Hc, sl, hl1, q2, q3, q4, q5, q6, q7, q8, q9⟩ := yq_parts
  have S1 := ziter_ok (p := p) (l := l) (e := e) (R := room_1) (s := s) (m := m) (args := #[Value.ref b]) (below := below) (meth := meth) (c := c) (Q := lw_Z below #[Value.ref b] s) (b := b) (sz := s.heap.size) (xs := xs) (D := D) (ca := ca) (nL := 4) (nb := 0) (sb := 0) (f := zstepU 18 (zstep P zDef zC_L_law (zrun P zDef zMt 11))) (fun cf r h => by
    unfold zstepU at h
    split at h
    · cases h; exact zSt_rf _
    · exact stp cf r h) 5 zlaw0 _ (ziter_dep hdep 5 _ _ hl1)
  dsimp only at S1
  have hJ : zJ p l e room_1 s m #[Value.ref b] below meth c (lw_Z below #[Value.ref b] s) b s.heap.size xs D ca 4 0 0 (18, Lc, [], Hc, 126, sl) := by
    intro Hh ls st locs hH hLL hS
    dsimp only at hH hLL hS ⊢
    have e0 := zSR_nil hS
    subst e0
    obtain ⟨ws, hWd, hPp, hDd, hV⟩ := hH
    obtain ⟨hW, hKo⟩ := yWd_start (tt := yTt) hWd q5.symm q3
    have hT : yTOk ySr yTt := ⟨hKo, yKinds_ok q7, y_T9, y_ArK⟩
    have hM := yM_start2 (v := [(L : Int)]) (sr := ySr) hWd q4
    have hR0 : yRS [(L : Int)] yLst := by
      refine ⟨rfl, ?_, ?_, ?_⟩
      · intro q hq
        have hq : q ∈ [((0 : Nat), (Int.ofNat 0), (Int.ofNat 3072))] := hq
        rw [List.mem_singleton] at hq
        subst hq
        exact ⟨(L : Int), rfl, by show (0 : Int) ≤ L; omega, by show (L : Int) ≤ 3072; omega⟩
      · intro q hq
        have hq : q ∈ ([] : List yE) := hq
        cases hq
      · intro q hq
        have hq : q ∈ ([] : List yE) := hq
        cases hq
    have hP0 : ∀ q ∈ yLst.2.2.2.2.2, yPk ySr [(L : Int)] ws q := by
      intro q hq
      have hq : q ∈ ([((([], .ofNat 0), 975), ([], .negSucc 0), ([], .ofNat 0), ([], .ofNat 0)), ((([], .ofNat 0), 977), ([], .ofNat 2), ([], .ofNat 0), ([], .ofNat 0))] : yP) := hq
      rcases List.mem_cons.mp hq with rfl | hq
      · refine yPk_of hT.2.2.1 (by decide) (yev_cn _ (-1)) (yev_cn _ 0) (yev_cn _ 0) (show gUP (yKo ySr ws 53) (yKo ySr ws 109) (-1) 0 from fun j hj => ?_)
        have e1 : yKo ySr ws 53 j = 0 := ychkZ_ok hWd q8 (by decide +kernel) hj
        have e2 : yKo ySr ws 109 j = 0 := ychkZ_ok hWd q9 (by decide +kernel) hj
        rw [e1, e2]
        exact ⟨by decide, fun _ => rfl, fun _ => rfl⟩
      rw [List.mem_singleton.mp hq]
      refine yPk_of hT.2.2.1 (by decide) (yev_cn _ 2) (yev_cn _ 0) (yev_cn _ 0) (show gLAND (kC (yKo ySr ws)) 2 from gLA_of hW (xIm_ct hW) (gLA_0 ?_ ?_ ?_ ?_ ?_ ?_ ?_ ?_))
      · exact yMk_int (hM _ (mem_at 42 rfl)) (yev_cn _ 2) (yev_cn _ 0) (yev_cn _ 7)
      · exact yMk_int (hM _ (mem_at 43 rfl)) (yev_cn _ 2) (yev_cn _ 1) (yev_cn _ 4)
      · exact yMk_int (hM _ (mem_at 41 rfl)) (yev_cn _ 3) (yev_cn _ 0) (yev_cn _ 0)
      · exact yMk_int (hM _ (mem_at 44 rfl)) (yev_cn _ 3) (yev_cn _ 1) (yev_cn _ 0)
      · exact yMk_int (hM _ (mem_at 6 rfl)) (yev_cn _ 74) (yev_cn _ 49) (yev_cn _ 0)
      · exact yMk_int (hM _ (mem_at 7 rfl)) (yev_cn _ 74) (yev_cn _ 50) (yev_cn _ 0)
      · exact yMk_int (hM _ (mem_at 45 rfl)) (yev_cn _ 74) (yev_cn _ 54) (yev_cn _ 7)
      · exact yMk_int (hM _ (mem_at 46 rfl)) (yev_cn _ 74) (yev_cn _ 55) (yev_cn _ 4)
    have hH0 : yHp b s.heap.size ySr yTt D ca s none ws [(L : Int)] yLst.2.2.2.2 Hh locs := ⟨ws, hW, hPp, hDd, hV, hM, hP0, yFr_rf⟩
    have hL0 := ychkL_ok (v := [(L : Int)]) q2 hLL rfl rfl
    obtain ⟨w, mu, k1, k2, k3, k4, k5, k6, -⟩ := ylawH_ok hT.2.2.1 (vp := [(L : Int)]) (u := []) (xs := xs) (ei := yLe) (h0 := yLw) (ms := none) (ws0 := ws) yvS rfl rfl rfl hR0 hH0 hL0
    have hAt := yHold (l := l) hAll hT 1000
    have IH2 := ycall_ok (l := l) (sr := ySr) (tt := yTt) (mi := zMi) (mt := zMt) (ctb := yTb) (big := none) (Bm := 1000) hT zClsOK_all zMiOK_all zCdOK_all zGen_all hAt 8
    have hver2 : ∀ r : Int, 0 ≤ r → r < 64 → ∃ (lo hi : Int) (i : Instr) (a b0 w0 : Nat), lo ≤ r ∧ r ≤ hi ∧ zfetch zC_L_law yLw.1 = some (i, a, b0, w0) ∧ ysel i (yTt, none, yLb, some (yLn, yLsc)) (ycall yTt none zMt yTb 8) a b0 yLw.1 yLw.2.1.1 [] (yLs lo hi) (yrun (yTt, none, yLb, some (yLn, yLsc)) zC_L_law (ycall yTt none zMt yTb 8) (fun pc => Nat.beq pc yLw.1) (ylawF zC_L_law 1 yLw yLps (some yLw.2.2)) 600) = true := by
      intro r hr0 hr1
      obtain ⟨lo, hi, g1, g2, g3⟩ := yvL_all r hr0 hr1
      unfold yLk at g3
      split at g3
      · rename_i i a b0 w0 hfe
        exact ⟨lo, hi, i, a, b0, w0, g1, g2, hfe, g3⟩
      · cases g3
    refine ylaw_claim2 (p := p) (l := l) (e := e) (R := room_1) (s := s) (m := m) (args := #[Value.ref b]) (below := below) (meth := meth) (c := c) (Q := lw_Z below #[Value.ref b] s) (b := b) (sz := s.heap.size) (D := D) (ca := ca) (ws0 := ws) (K0 := 126 - 0) (S0 := sl - 0) (cc := code) (own := "RestDaysLaw") (nm := "") (ret := some .boolean) (mi := zMi) (Bm := 1000) (call := ycall yTt none zMt yTb 8) (n := L) (xs := xs) (cd := zC_L_law) (bud := yLb) (sl := yLn) (h0 := yLw) (vp := [(L : Int)]) (ei := yLe) (a0 := yLa0) (a1 := yLa1) (a2 := yLa2) (a3 := yLa3) (a4 := yLa4) (SJ := yLsc) (tpJ := yLs) hT zClsOK_all zMiOK_all (fun j as st bud kk hj => ycall_none (zCdOK_all.1 _ hj)) zGen_all IH2 ?_ rfl ?_ ?_ zcdL_all rfl rfl ?_ hver2 mu.toNat w mu k5 k6 rfl k4 Hh ls [] locs k1 k2 k3 trivial
    · intro w1 q1 r1 hsc
      refine ⟨hx, hb, hml, hown, htW, hK, hX, hN, hbl, Nat.le_refl _, fun h => absurd h (by decide), rfl, rfl, ⟨1000, yev_cn _ _, by decide, by decide, by decide, by decide⟩, by decide, by show sl - 0 ≤ 7302250; omega, ?_, Or.inr (by omega)⟩
      intro sl0 hsl0
      cases hsl0
      exact ⟨yev_mono (yev_mono (v := [(L : Int)]) (by simp [yev, yevT, yLn])), hsc⟩
    · intro lo hi
      refine ⟨rfl, fun v q r hv h1 h2 h3 h4 => ?_⟩
      obtain ⟨g1, g2, g3, g4⟩ := hv
      have g1 : v.length = 16 := g1
      refine ⟨by rw [List.length_append, g1]; rfl, fun q0 hq0 => ?_, fun f hf => ?_, fun f hf => ?_⟩
      · rcases List.mem_cons.mp hq0 with rfl | hq0
        · exact ⟨q, by rw [List.getElem?_append_right (by show v.length ≤ 16; omega), g1]; rfl, h1, h2⟩
        rcases List.mem_cons.mp hq0 with rfl | hq0
        · exact ⟨r, by rw [List.getElem?_append_right (by show v.length ≤ 17; omega), g1]; rfl, h3, h4⟩
        exact yRB_mono g2 q0 hq0
      · exact yRF_mono g3 f hf
      · exact yRZ_mono g4 f hf
    · intro v z hv hz
      obtain ⟨x, g1, g2, -⟩ := hv.2.1 (1, .ofNat 0, .ofNat 3072) (mem_at 1 rfl)
      have g3 : yev v yLe = some (x + 0) := yev1 g1
      rw [g3] at hz
      have hz := Option.some.inj hz
      have g2 : 0 ≤ x := g2
      omega
    · intro pc a b0 w0 H ls locs v MP hfe hHp
      have hgood := zcdL_all _ _ _ _ _ hfe
      simp only [zgood, Bool.and_eq_true] at hgood
      refine va_forget (fun q hq => hHp.choose_spec.2.2.2.1.2.2 q hq) (W.widen (k := 600000) (n := 7302250) (by omega) (by omega) ?_)
      exact lw_ret hx hb hr hlocks (zdec_ok hgood.1)
  have hend := zSt_go S1 (Nat.zero_le _) (Nat.zero_le _) (show 126 - 0 ≤ 600000 by omega) (show sl - 0 ≤ 7302250 by omega) hJ
  have hent := zLR_entry (b := b) (sz := s.heap.size) (xs := xs) (as := [.inl (.retAddr 0)]) (vs := [.ref b]) (nL := 4) ⟨rfl, trivial⟩ (by decide)
  have h0 : ∀ (i : Nat) (cl : zAC), hget zH0 i = some cl → i < 0 := by
    intro i cl h
    exfalso
    unfold hget zH0 at h
    simp only [zget_eq, List.getElem?_replicate] at h
    split at h
    · cases h
    · rename_i r hr
      split at hr
      · cases hr
        rw [List.getElem?_replicate] at h
        split at h
        · rename_i h2
          split at h2 <;> simp at h2
        · cases h
      · cases hr
  have hV : va_S (zA s.heap.size) s.heap s.heap [] := va_S.rf
  have hworld : zHeap b s.heap.size xs D ca s zH0 0 s.heap [] := ⟨[], ⟨rfl, h0, fun i q h => (by simp at h)⟩, fun k q h => (by simp at h), ⟨fun i j p q h => (by simp at h), fun k q h => (by simp at h)⟩, hV⟩
  have fin := hend s.heap _ [] [] hworld hent trivial
  rw [lg_entry_eq]
  exact fin
