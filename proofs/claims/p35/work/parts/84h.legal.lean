/-! What a text tells without a fault, is as it may be. -/
section lgBase
theorem tX_bind {A B : Type} {x : tX A} {f : A → tX B} {b : B} (h : x.bind f = .ok b) : ∃ a, x = .ok a ∧ f a = .ok b := by
  cases x with
  | error e => have h : (Except.error e : tX B) = .ok b := h; cases h
  | ok a => exact ⟨a, rfl, h⟩
theorem tX_if {A : Type} {p : Prop} [Decidable p] {k pl : Nat → Int} {i : Nat} {e : Int} {x : tX A} {b : A} (h : (if p then x else tErr k pl i e) = .ok b) : p ∧ x = .ok b := by
  by_cases hp : p
  · rw [if_pos hp] at h; exact ⟨hp, h⟩
  · rw [if_neg hp] at h; exact absurd h tErr_ne
theorem eOk_mono {T U : Nat} {x : tE} (h : eOk T x) (hU : T ≤ U) : eOk U x := by
  unfold eOk at *
  omega
theorem fOk_mono {T U : Nat} {es : List tE} (h : fOk T es) (hU : T ≤ U) : fOk U es := ⟨fun x hx => eOk_mono (h.1 x hx) hU, h.2⟩
theorem tSg_ok {c : Int} (h : tJ c ≠ 0) {T : Nat} : eOk T (3, tSg c) := by
  refine Or.inr (Or.inr (Or.inr ⟨rfl, ?_⟩))
  show tSg c = 124 ∨ tSg c = 38 ∨ tSg c = 37 ∨ tSg c = 42 ∨ tSg c = 43 ∨ tSg c = 45 ∨ tSg c = 47 ∨ tSg c = 60 ∨ tSg c = 61 ∨ tSg c = 62
  unfold tJ at h
  unfold tSg
  repeat' split at h
  all_goals (repeat' split) <;> omega
theorem tL_ne (lv : Nat) : tL lv ≠ 0 := by
  unfold tL
  repeat' split
  all_goals decide
end lgBase
section lgFrm
variable {k pl v : Nat → Int} {th : List Int}
theorem pJoin_ok {T : Nat} (f : tF → tX tF) (p : tF → List tE) (lv : Nat) (hf : ∀ s s', f s = .ok s' → (∀ x ∈ p s, eOk T x) ∧ s'.2.2 ≤ 30) :
    ∀ (n : Nat) (s s' : tF), fJoin k f lv n s = .ok s' → s.2.2 ≤ 30 → (∀ x ∈ pJoin k f p lv n s, eOk T x) ∧ s'.2.2 ≤ 30 := by
  intro n
  induction n with
  | zero =>
    intro s s' hs h30
    cases hs
    exact ⟨fun x hx => absurd hx (by simp [pJoin]), h30⟩
  | succ n ih =>
    intro s s' hs h30
    simp only [fJoin] at hs
    simp only [pJoin]
    by_cases hj : tJ (k s.1) = tL lv
    · rw [if_pos hj] at hs ⊢
      obtain ⟨s1, hq_, hs_⟩ := tX_bind hs
      clear hs
      have hq := hq_
      have hs := hs_
      clear hq_ hs_
      obtain ⟨g1, g2⟩ := hf _ _ hq
      obtain ⟨i1, i2⟩ := ih s1 s' hs g2
      rw [hq]
      refine ⟨fun x hx => ?_, i2⟩
      rcases List.mem_append.mp hx with hx | hx
      · exact g1 x hx
      · rcases List.mem_cons.mp hx with rfl | hx
        · exact tSg_ok (by rw [hj]; exact tL_ne lv)
        · exact i1 x hx
    · rw [if_neg hj] at hs ⊢
      cases hs
      exact ⟨fun x hx => absurd hx (by simp), h30⟩
theorem pLv_ok (hth : th.length ≤ 6) (hv : ∀ i, k i = 23 → 0 ≤ v i ∧ v i ≤ 9999) : ∀ (n lv dp : Nat) (s s' : tF), fLv k pl v th n lv dp s = .ok s' → (∀ x ∈ pLv k pl v th n lv dp s, eOk th.length x) ∧ s'.2.2 ≤ 30 := by
  intro n
  induction n with
  | zero => intro lv dp s s' h; cases h
  | succ n ih =>
    intro lv dp s s' hs
    simp only [fLv] at hs
    simp only [pLv]
    by_cases h5 : lv = 5
    · rw [if_pos h5] at hs ⊢
      unfold fUnit at hs
      unfold pUnit
      by_cases hfull : 150 ≤ s.2.1 ∨ 30 ≤ s.2.2
      · rw [if_pos hfull] at hs; exact absurd hs tErr_ne
      rw [if_neg hfull] at hs
      have one : ∀ e : tE, eOk th.length e → s' = (s.1 + 1, s.2.1 + 1, s.2.2 + 1) → (∀ x ∈ [e], eOk th.length x) ∧ s'.2.2 ≤ 30 := by
        intro e he hs'
        subst hs'
        refine ⟨fun x hx => ?_, by show s.2.2 + 1 ≤ 30; omega⟩
        rw [List.mem_singleton.mp hx]
        exact he
      by_cases k3 : k s.1 = 23 ∨ k s.1 = 20 ∨ k s.1 = 21
      · rw [if_pos k3] at hs
        cases hs
        by_cases k23 : k s.1 = 23
        · rw [if_pos k23]; exact one _ (Or.inl ⟨rfl, (hv _ k23).1, (hv _ k23).2⟩) rfl
        rw [if_neg k23]
        by_cases k20 : k s.1 = 20
        · rw [if_pos k20]; exact one _ (Or.inr (Or.inl ⟨rfl, by decide, by decide, Or.inr (by decide)⟩)) rfl
        rw [if_neg k20, if_pos (by omega)]
        exact one _ (Or.inr (Or.inl ⟨rfl, by decide, by decide, Or.inr (by decide)⟩)) rfl
      rw [if_neg k3] at hs
      rw [if_neg (fun q => k3 (Or.inl q)), if_neg (fun q => k3 (Or.inr (Or.inl q))), if_neg (fun q => k3 (Or.inr (Or.inr q)))]
      by_cases k22 : k s.1 = 22
      · rw [if_pos k22] at hs ⊢
        obtain ⟨hm_, hs_⟩ := tX_if hs
        clear hs
        have hm := hm_
        have hs := hs_
        clear hm_ hs_
        cases hs
        have hi := List.idxOf_lt_length_iff.mpr hm
        exact one _ (Or.inr (Or.inl ⟨rfl, by show (0 : Int) ≤ (th.idxOf (v s.1) : Int); omega, by show ((th.idxOf (v s.1) : Nat) : Int) ≤ 7; omega, Or.inl (by show ((th.idxOf (v s.1) : Nat) : Int) < (th.length : Int); omega)⟩)) rfl
      rw [if_neg k22] at hs ⊢
      obtain ⟨k40, hs_⟩ := tX_if hs
      clear hs
      have hs := hs_
      clear hs_
      by_cases h6 : 6 < dp
      · rw [if_pos h6] at hs; exact absurd hs tErr_ne
      rw [if_neg h6] at hs
      obtain ⟨s1, hq_, hs_⟩ := tX_bind hs
      clear hs
      have hq := hq_
      have hs := hs_
      clear hq_ hs_
      obtain ⟨k41, hs_⟩ := tX_if hs
      clear hs
      have hs := hs_
      clear hs_
      cases hs
      obtain ⟨g1, g2⟩ := ih 0 (dp + 1) _ _ hq
      exact ⟨g1, g2⟩
    rw [if_neg h5] at hs ⊢
    by_cases hnt : lv = 2 ∧ k s.1 = 19
    · rw [if_pos hnt] at hs ⊢
      by_cases h6 : 6 < dp
      · rw [if_pos h6] at hs; exact absurd hs tErr_ne
      rw [if_neg h6] at hs
      obtain ⟨g1, g2⟩ := ih 2 (dp + 1) _ _ hs
      refine ⟨fun x hx => ?_, g2⟩
      rcases List.mem_append.mp hx with hx | hx
      · exact g1 x hx
      · rw [List.mem_singleton.mp hx]
        exact Or.inr (Or.inr (Or.inl rfl))
    rw [if_neg hnt] at hs ⊢
    obtain ⟨s1, hq_, hs_⟩ := tX_bind hs
    clear hs
    have hq := hq_
    have hs := hs_
    clear hq_ hs_
    obtain ⟨g1, g2⟩ := ih (lv + 1) dp _ _ hq
    rw [hq]
    obtain ⟨j1, j2⟩ := pJoin_ok (T := th.length) (k := k) (fLv k pl v th n (lv + 1) dp) (pLv k pl v th n (lv + 1) dp) lv (fun a b hab => ih (lv + 1) dp a b hab) _ s1 s' hs g2
    refine ⟨fun x hx => ?_, j2⟩
    rcases List.mem_append.mp hx with hx | hx
    · exact g1 x hx
    · exact j1 x hx
/-- a formula that is read without a fault -/
theorem sFrm_ok (hth : th.length ≤ 6) (hv : ∀ i, k i = 23 → 0 ≤ v i ∧ v i ≤ 9999) {i : Nat} {u : Int} {q : Nat × Int} (h : sFrm k pl v th i u = .ok q) : fOk th.length (pFrm k pl v th i u) := by
  unfold sFrm at h
  obtain ⟨s, hq, -⟩ := tX_bind h
  obtain ⟨g1, g2⟩ := pLv_ok hth hv 50 0 0 _ _ hq
  obtain ⟨r1, r2⟩ := rpLv (m := 31) hth 50 0 0 _ _ hq
  have r1 : rpGood 31 _ (s.2.2 - 0) := r1
  exact ⟨g1, r1 0 (by omega)⟩
end lgFrm
section lgLine
variable {k pl v : Nat → Int} {th : List Int} {T nL a : Nat} {c c' c'' : tC} {z z' : tZ}
/-- what a set's telling leaves as it is -/
def cDif (a : Nat) (c c' : tC) : Prop := (∀ w, ¬ (5 * a ≤ w ∧ w ≤ 5 * a + 4) → c'.1 w = c.1 w) ∧ ∀ i j, ¬ (i = 92 ∧ j = a) → ¬ (i = 93 ∧ 4 * a ≤ j ∧ j < 4 * a + 4) → c'.2 i j = c.2 i j
theorem cDif_refl : cDif a c c := ⟨fun _ _ => rfl, fun _ _ _ _ => rfl⟩
theorem cDif_trans (h1 : cDif a c c') (h2 : cDif a c' c'') : cDif a c c'' := ⟨fun w hw => (h2.1 w hw).trans (h1.1 w hw), fun i j p q => (h2.2 i j p q).trans (h1.2 i j p q)⟩
theorem eLok_same (h : eLok T c nL) (h00 : c'.2 0 0 = c.2 0 0) (hF : ∀ w, w < 5 * nL → c'.1 w = c.1 w) (h92 : ∀ l, l < nL → c'.2 92 l = c.2 92 l) (h93 : ∀ j, j < 4 * nL → c'.2 93 j = c.2 93 j) (h88 : ∀ j, j < T → c'.2 88 j = c.2 88 j) : eLok T c' nL := by
  obtain ⟨h1, ⟨H, h2, h3⟩, h4⟩ := h
  refine ⟨h1, ⟨H, h00.trans h2, h3⟩, fun l hl => ?_⟩
  obtain ⟨⟨es, e1, e2⟩, m, m1, m2, m3⟩ := h4 l hl
  refine ⟨⟨es, (hF _ (by omega)).trans e1, e2⟩, m, m1, (h92 l hl).trans m2, fun n hn => ?_⟩
  obtain ⟨⟨fs, f1, f2⟩, q, q1, q2, top, t1, t2⟩ := m3 n hn
  exact ⟨⟨fs, (hF _ (by omega)).trans f1, f2⟩, q, q1, (h93 _ (by omega)).trans q2, top, (h88 _ q1.1).trans t1, t2⟩
theorem eLok_dif (h : eLok T c nL) (ha : nL ≤ a) (hd : cDif a c c') : eLok T c' nL := eLok_same h (hd.2 0 0 (by omega) (by omega)) (fun w hw => hd.1 w (by omega)) (fun l hl => hd.2 92 l (by omega) (by omega)) (fun j hj => hd.2 93 j (by omega) (by omega)) (fun j _ => hd.2 88 j (by omega) (by omega))
theorem eSok_mono {U : Nat} {n : Nat} (h : eSok T c a n) (hU : T ≤ U) : eSok U c a n := by
  obtain ⟨⟨es, e1, e2⟩, q, q1, q2⟩ := h
  exact ⟨⟨es, e1, fOk_mono e2 hU⟩, q, ⟨by omega, q1.2⟩, q2⟩
theorem eLok_mono {U : Nat} (h : eLok T c nL) (hU : T ≤ U) : eLok U c nL := by
  obtain ⟨h1, h2, h4⟩ := h
  refine ⟨h1, h2, fun l hl => ?_⟩
  obtain ⟨⟨es, e1, e2⟩, m, m1, m2, m3⟩ := h4 l hl
  exact ⟨⟨es, e1, fOk_mono e2 hU⟩, m, m1, m2, fun n hn => eSok_mono (m3 n hn) hU⟩
theorem cThs_same (h : cThs T c) (hs : ∀ j, c'.2 87 j = c.2 87 j ∧ c'.2 88 j = c.2 88 j) : cThs T c' := ⟨h.1, fun j hj => by
  obtain ⟨⟨x, hx⟩, top, t1, t2⟩ := h.2 j hj
  exact ⟨⟨x, (hs j).1.trans hx⟩, top, (hs j).2.trans t1, t2⟩⟩
theorem cThs_dif (h : cThs T c) (hd : cDif a c c') : cThs T c' := cThs_same h fun j => ⟨hd.2 87 j (by omega) (by omega), hd.2 88 j (by omega) (by omega)⟩
theorem zAcc_c {due : Int} (h : zAcc k pl due z = .ok z') : z'.2.2.2 = z.2.2.2 ∧ z'.2.2.1 = z.2.2.1 := by
  unfold zAcc at h
  obtain ⟨-, h_⟩ := tX_if h
  clear h
  have h := h_
  clear h_
  cases h
  exact ⟨rfl, rfl⟩
theorem zNum_c {lo hi : Int} (h : zNum k pl v lo hi z = .ok z') : z'.2.2.2 = z.2.2.2 ∧ lo ≤ z'.2.2.1 ∧ z'.2.2.1 ≤ hi := by
  unfold zNum at h
  obtain ⟨-, h_⟩ := tX_if h
  clear h
  have h := h_
  clear h_
  obtain ⟨h1_, h_⟩ := tX_if h
  clear h
  have h1 := h1_
  have h := h_
  clear h1_ h_
  cases h
  exact ⟨rfl, h1⟩
theorem zNew_c {nm : List Int} (h : zNew k pl v nm z = .ok z') : z'.2.2.2 = z.2.2.2 := by
  unfold zNew at h
  obtain ⟨-, h_⟩ := tX_if h
  clear h
  have h := h_
  clear h_
  by_cases hm : v (z.1 + 1) ∈ nm
  · rw [if_pos hm] at h; exact absurd h tErr_ne
  · rw [if_neg hm] at h
    cases h
    rfl
theorem zOld_c {nm : List Int} (h : zOld k pl v nm z = .ok z') : z'.2.2.2 = z.2.2.2 ∧ ∃ i : Nat, i < nm.length ∧ z'.2.2.1 = (i : Int) := by
  unfold zOld at h
  obtain ⟨-, h_⟩ := tX_if h
  clear h
  have h := h_
  clear h_
  obtain ⟨hm_, h_⟩ := tX_if h
  clear h
  have hm := hm_
  have h := h_
  clear hm_ h_
  cases h
  exact ⟨rfl, _, List.idxOf_lt_length_iff.mpr hm, rfl⟩
theorem zFrm_c (hth : th.length ≤ 6) (hv : ∀ i, k i = 23 → 0 ≤ v i ∧ v i ≤ 9999) {w : Nat} (h : zFrm k pl v th w z = .ok z') : ∃ es, z'.2.2.2 = cL z.2.2.2 w es ∧ fOk th.length es := by
  unfold zFrm at h
  obtain ⟨q, hq_, h_⟩ := tX_bind h
  clear h
  have hq := hq_
  have h := h_
  clear hq_ h_
  cases h
  exact ⟨_, rfl, sFrm_ok hth hv hq⟩
theorem cL_1 {w u : Nat} {es : List tE} : (cL c w es).1 u = if u = w then some es else c.1 u := rfl
theorem cM_2 {i j i' j' : Nat} {x : Int} : (cM c i j x).2 i' j' = if i' = i ∧ j' = j then some x else c.2 i' j' := rfl
/-- one set -/
theorem zSet_c (hth : cThs th.length z.2.2.2) (hv : ∀ i, k i = 23 → 0 ≤ v i ∧ v i ≤ 9999) {n : Nat} (hn : n < 4) (h : zSet k pl v th a n z = .ok z') : cDif a z.2.2.2 z'.2.2.2 ∧ eSok th.length z'.2.2.2 a n ∧ z'.2.2.2.2 92 a = some ((n + 1 : Nat) : Int) ∧ z'.2.2.2.1 (5 * a) = z.2.2.2.1 (5 * a) ∧ ∀ i, i < n → eSok th.length z.2.2.2 a i → eSok th.length z'.2.2.2 a i := by
  unfold zSet at h
  obtain ⟨z3, h_, h3_⟩ := tX_bind h
  clear h
  have h := h_
  have h3 := h3_
  clear h_ h3_
  obtain ⟨z2, h_, h2_⟩ := tX_bind h
  clear h
  have h := h_
  have h2 := h2_
  clear h_ h2_
  obtain ⟨z1, h_, h1_⟩ := tX_bind h
  clear h
  have h := h_
  have h1 := h1_
  clear h_ h1_
  cases h3
  obtain ⟨o1, q, q1, q2⟩ := zOld_c h
  obtain ⟨a1, a2⟩ := zAcc_c h1
  obtain ⟨es, f1, f2⟩ := zFrm_c hth.1 hv h2
  have e2 : z2.2.2.2 = z.2.2.2 := a1.trans o1
  have en : z2.2.2.1 = (q : Int) := a2.trans q2
  have f1 : z3.2.2.2 = cL (cM z2.2.2.2 93 (4 * a + n) z2.2.2.1) (5 * a + 1 + n) es := f1
  rw [e2, en] at f1
  have hc : (zCnt 92 a ((n + 1 : Nat) : Int) z3).2.2.2 = cM (cL (cM z.2.2.2 93 (4 * a + n) (q : Int)) (5 * a + 1 + n) es) 92 a ((n + 1 : Nat) : Int) := by
    show cM z3.2.2.2 92 a _ = _
    rw [f1]
  rw [hc]
  have c1 : ∀ u, (cM (cL (cM z.2.2.2 93 (4 * a + n) (q : Int)) (5 * a + 1 + n) es) 92 a ((n + 1 : Nat) : Int)).1 u = if u = 5 * a + 1 + n then some es else z.2.2.2.1 u := fun u => rfl
  have c2 : ∀ i j, (cM (cL (cM z.2.2.2 93 (4 * a + n) (q : Int)) (5 * a + 1 + n) es) 92 a ((n + 1 : Nat) : Int)).2 i j = if i = 92 ∧ j = a then some ((n + 1 : Nat) : Int) else if i = 93 ∧ j = 4 * a + n then some (q : Int) else z.2.2.2.2 i j := fun i j => rfl
  obtain ⟨-, top, t1, t2⟩ := hth.2 q q1
  refine ⟨⟨fun w hw => ?_, fun i j h1 h2 => ?_⟩, ⟨⟨es, ?_, f2⟩, q, ⟨q1, by have := hth.1; omega⟩, ?_, top, ?_, t2⟩, ?_, ?_, fun i hi hs => ?_⟩
  · rw [c1, if_neg (by omega)]
  · rw [c2, if_neg h1, if_neg (by omega)]
  · rw [c1, if_pos rfl]
  · rw [c2, if_neg (by omega), if_pos ⟨rfl, rfl⟩]
  · rw [c2, if_neg (by omega), if_neg (by omega)]; exact t1
  · rw [c2, if_pos ⟨rfl, rfl⟩]
  · rw [c1, if_neg (by omega)]
  · obtain ⟨⟨fs, g1, g2⟩, y, y1, y2, top2, u1, u2⟩ := hs
    refine ⟨⟨fs, ?_, g2⟩, y, y1, ?_, top2, ?_, u2⟩
    · rw [c1, if_neg (by omega)]; exact g1
    · rw [c2, if_neg (by omega), if_neg (by omega)]; exact y2
    · rw [c2, if_neg (by omega), if_neg (by omega)]; exact u1
theorem zSets_c (hv : ∀ i, k i = 23 → 0 ≤ v i ∧ v i ≤ 9999) : ∀ (n : Nat) (z z' : tZ), n ≤ 4 → cThs th.length z.2.2.2 → (∀ i, i < 4 - n → eSok th.length z.2.2.2 a i) → zSets k pl v th a n z = .ok z' → cDif a z.2.2.2 z'.2.2.2 ∧ z'.2.2.2.1 (5 * a) = z.2.2.2.1 (5 * a) ∧ ∃ m : Nat, m ≤ 4 ∧ z'.2.2.2.2 92 a = some (m : Int) ∧ ∀ i, i < m → eSok th.length z'.2.2.2 a i := by
  intro n
  induction n with
  | zero => intro z z' hn hth hs h; exact absurd h tErr_ne
  | succ n ih =>
    intro z z' hn hth hs h
    simp only [zSets] at h
    obtain ⟨z1, h1_, h_⟩ := tX_bind h
    clear h
    have h1 := h1_
    have h := h_
    clear h1_ h_
    obtain ⟨d1, d2, d3, d4, d5⟩ := zSet_c hth hv (n := 4 - (n + 1)) (by omega) h1
    have all : ∀ i, i < 4 - n → eSok th.length z1.2.2.2 a i := fun i hi => by
      by_cases hq : i = 4 - (n + 1)
      · rw [hq]; exact d2
      · exact d5 i (by omega) (hs i (by omega))
    by_cases h8 : k z1.1 = 8
    · rw [if_pos h8] at h
      have hz : (if n = 0 then z1 else (z1.1 + 1, z1.2)).2.2.2 = z1.2.2.2 := by split <;> rfl
      obtain ⟨g1, g2, g3⟩ := ih (if n = 0 then z1 else (z1.1 + 1, z1.2)) z' (by omega) (by rw [hz]; exact cThs_dif hth d1) (by rw [hz]; exact all) h
      rw [hz] at g1 g2
      exact ⟨cDif_trans d1 g1, g2.trans d4, g3⟩
    · rw [if_neg h8] at h
      cases h
      exact ⟨d1, d4, 4 - (n + 1) + 1, by omega, d3, fun i hi => all i (by omega)⟩
theorem zActor_c (hv : ∀ i, k i = 23 → 0 ≤ v i ∧ v i ≤ 9999) (hth : cThs th.length z.2.2.2) (h : zActor k pl v th a z = .ok z') : cDif a z.2.2.2 z'.2.2.2 ∧ (∃ es, z'.2.2.2.1 (5 * a) = some es ∧ fOk th.length es) ∧ ∃ m : Nat, m ≤ 4 ∧ z'.2.2.2.2 92 a = some (m : Int) ∧ ∀ i, i < m → eSok th.length z'.2.2.2 a i := by
  unfold zActor at h
  obtain ⟨z3, h_, h3_⟩ := tX_bind h
  clear h
  have h := h_
  have h3 := h3_
  clear h_ h3_
  obtain ⟨z2, h_, h2_⟩ := tX_bind h
  clear h
  have h := h_
  have h2 := h2_
  clear h_ h2_
  obtain ⟨z1, h_, h1_⟩ := tX_bind h
  clear h
  have h := h_
  have h1 := h1_
  clear h_ h1_
  obtain ⟨a1, -⟩ := zAcc_c h
  obtain ⟨es, f1, f2⟩ := zFrm_c hth.1 hv h1
  obtain ⟨b1, -⟩ := zAcc_c h2
  rw [a1] at f1
  have e3 : z3.2.2.2 = cL z.2.2.2 (5 * a) es := b1.trans f1
  have d0 : cDif a z.2.2.2 z3.2.2.2 := by
    rw [e3]
    exact ⟨fun w hw => by rw [cL_1, if_neg (by omega)], fun i j _ _ => rfl⟩
  obtain ⟨g1, g2, g3⟩ := zSets_c hv 4 z3 z' (Nat.le_refl _) (cThs_dif hth d0) (fun i hi => absurd hi (by omega)) h3
  refine ⟨cDif_trans d0 g1, ⟨es, ?_, f2⟩, g3⟩
  rw [g2, e3, cL_1, if_pos rfl]
theorem zFeast_c {days : Int} (h : zFeast k pl v days z = .ok z') : z'.2.2.2 = z.2.2.2 := by
  unfold zFeast at h
  obtain ⟨z1, h_, h1_⟩ := tX_bind h
  clear h
  have h := h_
  have h1 := h1_
  clear h_ h1_
  exact (zNum_c h1).1.trans (zAcc_c h).1
/-- between two lines all is as it may be -/
def sOk (s : tS) : Prop := (2 ≤ s.2.2.1 ∧ s.2.2.1 ≤ 9) ∧ cThs (s.2.2.2.1 0).length s.2.2.2.2.2 ∧ eLok (s.2.2.2.1 0).length s.2.2.2.2.2 (s.2.2.2.1 1).length
/-- ahead of a line's end -/
def bOk (q : tB) : Prop := (2 ≤ q.2.1 ∧ q.2.1 ≤ 9) ∧ cThs (q.2.2.1 0).length q.1.2.2.2 ∧ eLok (q.2.2.1 0).length q.1.2.2.2 (q.2.2.1 1).length
theorem tAdd_0 {nm : Nat → List Int} {s : Nat} {x : Int} {t : Nat} : tAdd nm s x t = if t = s then nm s ++ [x] else nm t := rfl
theorem eLok_frm (h : eLok T c nL) {w : Nat} {es : List tE} (hw : 25 ≤ w) : eLok T (cL c w es) nL := by
  have h5 := h.1
  exact eLok_same h rfl (fun u hu => by rw [cL_1, if_neg (by omega)]) (fun _ _ => rfl) (fun _ _ => rfl) (fun _ _ => rfl)
theorem sBody_ok (hv : ∀ i, k i = 23 → 0 ≤ v i ∧ v i ≤ 9999) {s : tS} {q : tB} (h : sOk s) (hq : sBody k pl v s = .ok q) : bOk q := by
  obtain ⟨hD, hT, hL⟩ := h
  have h5 := hL.1
  have h6 := hT.1
  unfold sBody at hq
  by_cases c0 : k s.1 = 0 ∧ s.2.2.2.2.1 0 = false
  · rw [if_pos c0] at hq
    unfold sWeek at hq
    obtain ⟨z1, h1_, hq_⟩ := tX_bind hq
    clear hq
    have h1 := h1_
    have hq := hq_
    clear h1_ hq_
    obtain ⟨z2, h2_, hq_⟩ := tX_bind hq
    clear hq
    have h2 := h2_
    have hq := hq_
    clear h2_ hq_
    obtain ⟨z3, h3_, h2_⟩ := tX_bind h2
    clear h2
    have h3 := h3_
    have h2 := h2_
    clear h3_ h2_
    cases hq
    obtain ⟨a1, a2, a3⟩ := zNum_c h1
    obtain ⟨b1, -⟩ := zAcc_c h3
    obtain ⟨d1, d2, d3⟩ := zNum_c h2
    have e : z2.2.2.2 = s.2.2.2.2.2 := d1.trans (b1.trans a1)
    have ec : (zPut 0 0 z2).2.2.2 = cM s.2.2.2.2.2 0 0 z2.2.2.1 := by
      show cM z2.2.2.2 0 0 z2.2.2.1 = _
      rw [e]
    refine ⟨⟨a2, a3⟩, ?_, ?_⟩
    · show cThs (s.2.2.2.1 0).length (zPut 0 0 z2).2.2.2
      rw [ec]
      exact cThs_same hT fun j => ⟨by rw [cM_2, if_neg (by omega)], by rw [cM_2, if_neg (by omega)]⟩
    · show eLok (s.2.2.2.1 0).length (zPut 0 0 z2).2.2.2 (s.2.2.2.1 1).length
      rw [ec]
      have hx : eLok (s.2.2.2.1 0).length (cM s.2.2.2.2.2 0 0 z2.2.2.1) (s.2.2.2.1 1).length := by
        obtain ⟨l1, -, l3⟩ := hL
        refine ⟨l1, ⟨z2.2.2.1, by rw [cM_2, if_pos ⟨rfl, rfl⟩], d2, d3⟩, fun l hl => ?_⟩
        obtain ⟨e1, m, m1, m2, m3⟩ := l3 l hl
        refine ⟨e1, m, m1, by rw [cM_2, if_neg (by omega)]; exact m2, fun n hn => ?_⟩
        obtain ⟨f1, y, y1, y2, top, t1, t2⟩ := m3 n hn
        exact ⟨f1, y, y1, by rw [cM_2, if_neg (by omega)]; exact y2, top, by rw [cM_2, if_neg (by omega)]; exact t1, t2⟩
      exact hx
  rw [if_neg c0] at hq
  by_cases c2 : k s.1 = 2 ∧ (s.2.2.2.1 0).length < 6
  · rw [if_pos c2] at hq
    unfold sThing at hq
    obtain ⟨z1, h1_, hq_⟩ := tX_bind hq
    clear hq
    have h1 := h1_
    have hq := hq_
    clear h1_ hq_
    obtain ⟨z6, h6'_, hq_⟩ := tX_bind hq
    clear hq
    have h6' := h6'_
    have hq := hq_
    clear h6'_ hq_
    obtain ⟨z5, h5'_, h6'_⟩ := tX_bind h6'
    clear h6'
    have h5' := h5'_
    have h6' := h6'_
    clear h5'_ h6'_
    obtain ⟨z4, h4_, h5'_⟩ := tX_bind h5'
    clear h5'
    have h4 := h4_
    have h5' := h5'_
    clear h4_ h5'_
    obtain ⟨z3, h3_, h4_⟩ := tX_bind h4
    clear h4
    have h3 := h3_
    have h4 := h4_
    clear h3_ h4_
    obtain ⟨z2, h2_, h3_⟩ := tX_bind h3
    clear h3
    have h2 := h2_
    have h3 := h3_
    clear h2_ h3_
    cases h3
    cases h6'
    cases hq
    have a1 := zNew_c h1
    obtain ⟨b1, b2, b3⟩ := zNum_c h2
    obtain ⟨g1, g2⟩ := zAcc_c h4
    obtain ⟨d1, d2, d3⟩ := zNum_c h5'
    have g2 : z4.2.2.1 = z2.2.2.1 := g2
    have e : z5.2.2.2 = cM s.2.2.2.2.2 87 (s.2.2.2.1 0).length z2.2.2.1 := by
      rw [d1, g1]
      show cM z2.2.2.2 87 _ _ = _
      rw [b1, a1]
    have ec : (zPut 88 (s.2.2.2.1 0).length z5).2.2.2 = cM (cM s.2.2.2.2.2 87 (s.2.2.2.1 0).length z2.2.2.1) 88 (s.2.2.2.1 0).length z5.2.2.1 := by
      show cM z5.2.2.2 88 _ _ = _
      rw [e]
    have el : (tAdd s.2.2.2.1 0 z1.2.2.1 0).length = (s.2.2.2.1 0).length + 1 := by rw [tAdd_0, if_pos rfl, List.length_append]; rfl
    have el1 : tAdd s.2.2.2.1 0 z1.2.2.1 1 = s.2.2.2.1 1 := by rw [tAdd_0, if_neg (by omega)]
    refine ⟨hD, ?_, ?_⟩
    · show cThs (tAdd s.2.2.2.1 0 z1.2.2.1 0).length (zPut 88 (s.2.2.2.1 0).length z5).2.2.2
      rw [el, ec]
      refine ⟨by omega, fun j hj => ?_⟩
      by_cases hjT : j = (s.2.2.2.1 0).length
      · refine ⟨⟨z2.2.2.1, ?_⟩, z5.2.2.1, ?_, by omega, d3⟩
        · rw [cM_2, if_neg (by omega), cM_2, if_pos ⟨rfl, hjT⟩]
        · rw [cM_2, if_pos ⟨rfl, hjT⟩]
      · obtain ⟨⟨x, hx⟩, top, t1, t2⟩ := hT.2 j (by omega)
        refine ⟨⟨x, ?_⟩, top, ?_, t2⟩
        · rw [cM_2, if_neg (by omega), cM_2, if_neg (by omega)]; exact hx
        · rw [cM_2, if_neg (by omega), cM_2, if_neg (by omega)]; exact t1
    · show eLok (tAdd s.2.2.2.1 0 z1.2.2.1 0).length (zPut 88 (s.2.2.2.1 0).length z5).2.2.2 (tAdd s.2.2.2.1 0 z1.2.2.1 1).length
      rw [el, ec, el1]
      refine eLok_mono (T := (s.2.2.2.1 0).length) (eLok_same hL ?_ (fun _ _ => rfl) (fun l _ => ?_) (fun j _ => ?_) (fun j hj => ?_)) (Nat.le_succ _)
      · rw [cM_2, if_neg (by omega), cM_2, if_neg (by omega)]
      · rw [cM_2, if_neg (by omega), cM_2, if_neg (by omega)]
      · rw [cM_2, if_neg (by omega), cM_2, if_neg (by omega)]
      · rw [cM_2, if_neg (by omega), cM_2, if_neg (by omega)]
  rw [if_neg c2] at hq
  by_cases c4 : k s.1 = 4 ∧ (s.2.2.2.1 1).length < 5
  · rw [if_pos c4] at hq
    unfold sLaw at hq
    obtain ⟨z1, h1_, hq_⟩ := tX_bind hq
    clear hq
    have h1 := h1_
    have hq := hq_
    clear h1_ hq_
    obtain ⟨z3, h3_, hq_⟩ := tX_bind hq
    clear hq
    have h3 := h3_
    have hq := hq_
    clear h3_ hq_
    obtain ⟨z2, h2_, h3_⟩ := tX_bind h3
    clear h3
    have h2 := h2_
    have h3 := h3_
    clear h2_ h3_
    cases hq
    have e1 : z1.2.2.2 = s.2.2.2.2.2 := zNew_c h1
    have e2 : z2.2.2.2 = s.2.2.2.2.2 := (zFeast_c h2).trans e1
    obtain ⟨d1, d2, m, m1, m2, m3⟩ := zActor_c hv (by rw [e2]; exact hT) h3
    rw [e2] at d1
    have el0 : tAdd s.2.2.2.1 1 z1.2.2.1 0 = s.2.2.2.1 0 := by rw [tAdd_0, if_neg (by omega)]
    have el1 : (tAdd s.2.2.2.1 1 z1.2.2.1 1).length = (s.2.2.2.1 1).length + 1 := by rw [tAdd_0, if_pos rfl, List.length_append]; rfl
    refine ⟨hD, ?_, ?_⟩
    · show cThs (tAdd s.2.2.2.1 1 z1.2.2.1 0).length z3.2.2.2
      rw [el0]
      exact cThs_dif hT d1
    · show eLok (tAdd s.2.2.2.1 1 z1.2.2.1 0).length z3.2.2.2 (tAdd s.2.2.2.1 1 z1.2.2.1 1).length
      rw [el0, el1]
      obtain ⟨l1, l2, l3⟩ := eLok_dif hL (Nat.le_refl _) d1
      refine ⟨by omega, l2, fun l hl => ?_⟩
      by_cases hq : l = (s.2.2.2.1 1).length
      · rw [hq]
        exact ⟨d2, m, m1, m2, m3⟩
      · exact l3 l (by omega)
  rw [if_neg c4] at hq
  by_cases c9 : k s.1 = 9 ∧ (s.2.2.2.1 2).length < 6
  · rw [if_pos c9] at hq
    unfold sDeed at hq
    obtain ⟨z1, h1_, hq_⟩ := tX_bind hq
    clear hq
    have h1 := h1_
    have hq := hq_
    clear h1_ hq_
    obtain ⟨z3, h3_, hq_⟩ := tX_bind hq
    clear hq
    have h3 := h3_
    have hq := hq_
    clear h3_ hq_
    cases hq
    have e1 : z1.2.2.2 = s.2.2.2.2.2 := zNew_c h1
    obtain ⟨d1, -⟩ := zActor_c hv (by rw [e1]; exact hT) h3
    rw [e1] at d1
    have el0 : tAdd s.2.2.2.1 2 z1.2.2.1 0 = s.2.2.2.1 0 := by rw [tAdd_0, if_neg (by omega)]
    have el1 : tAdd s.2.2.2.1 2 z1.2.2.1 1 = s.2.2.2.1 1 := by rw [tAdd_0, if_neg (by omega)]
    refine ⟨hD, ?_, ?_⟩
    · show cThs (tAdd s.2.2.2.1 2 z1.2.2.1 0).length z3.2.2.2
      rw [el0]
      exact cThs_dif hT d1
    · show eLok (tAdd s.2.2.2.1 2 z1.2.2.1 0).length z3.2.2.2 (tAdd s.2.2.2.1 2 z1.2.2.1 1).length
      rw [el0, el1]
      exact eLok_dif hL (by omega) d1
  rw [if_neg c9] at hq
  by_cases c10 : k s.1 = 10 ∧ (s.2.2.2.1 3).length < 4
  · rw [if_pos c10] at hq
    unfold sBan at hq
    obtain ⟨z1, h1_, hq_⟩ := tX_bind hq
    clear hq
    have h1 := h1_
    have hq := hq_
    clear h1_ hq_
    obtain ⟨z4, h4_, hq_⟩ := tX_bind hq
    clear hq
    have h4 := h4_
    have hq := hq_
    clear h4_ hq_
    obtain ⟨z3, h3_, h4_⟩ := tX_bind h4
    clear h4
    have h3 := h3_
    have h4 := h4_
    clear h3_ h4_
    obtain ⟨z2, h2_, h3_⟩ := tX_bind h3
    clear h3
    have h2 := h2_
    have h3 := h3_
    clear h2_ h3_
    cases hq
    have e1 : z1.2.2.2 = s.2.2.2.2.2 := zNew_c h1
    have e3 : z3.2.2.2 = s.2.2.2.2.2 := (zAcc_c h3).1.trans ((zFeast_c h2).trans e1)
    obtain ⟨es, f1, f2⟩ := zFrm_c h6 hv h4
    rw [e3] at f1
    have el0 : tAdd s.2.2.2.1 3 z1.2.2.1 0 = s.2.2.2.1 0 := by rw [tAdd_0, if_neg (by omega)]
    have el1 : tAdd s.2.2.2.1 3 z1.2.2.1 1 = s.2.2.2.1 1 := by rw [tAdd_0, if_neg (by omega)]
    refine ⟨hD, ?_, ?_⟩
    · show cThs (tAdd s.2.2.2.1 3 z1.2.2.1 0).length z4.2.2.2
      rw [el0, f1]
      exact cThs_same hT fun j => ⟨rfl, rfl⟩
    · show eLok (tAdd s.2.2.2.1 3 z1.2.2.1 0).length z4.2.2.2 (tAdd s.2.2.2.1 3 z1.2.2.1 1).length
      rw [el0, el1, f1]
      exact eLok_frm hL (by omega)
  rw [if_neg c10] at hq
  have aim : ∀ fl : Nat, sAim k pl v fl s = .ok q → bOk q := by
    intro fl hq
    unfold sAim at hq
    obtain ⟨z1, h1_, hq_⟩ := tX_bind hq
    clear hq
    have h1 := h1_
    have hq := hq_
    clear h1_ hq_
    cases hq
    obtain ⟨es, f1, f2⟩ := zFrm_c h6 hv h1
    have f1 : z1.2.2.2 = cL s.2.2.2.2.2 (58 + fl) es := f1
    refine ⟨hD, ?_, ?_⟩
    · show cThs (s.2.2.2.1 0).length z1.2.2.2
      rw [f1]
      exact cThs_same hT fun j => ⟨rfl, rfl⟩
    · show eLok (s.2.2.2.1 0).length z1.2.2.2 (s.2.2.2.1 1).length
      rw [f1]
      exact eLok_frm hL (by omega)
  by_cases c11 : k s.1 = 11 ∧ s.2.2.2.2.1 1 = false
  · rw [if_pos c11] at hq
    exact aim 1 hq
  rw [if_neg c11] at hq
  by_cases c12 : k s.1 = 12 ∧ s.2.2.2.2.1 2 = false
  · rw [if_pos c12] at hq
    exact aim 2 hq
  rw [if_neg c12] at hq
  obtain ⟨c13, hq_⟩ := tX_if hq
  clear hq
  have hq := hq_
  clear hq_
  unfold sGuild at hq
  obtain ⟨z1, h1_, hq_⟩ := tX_bind hq
  clear hq
  have h1 := h1_
  have hq := hq_
  clear h1_ hq_
  obtain ⟨z5, h5'_, hq_⟩ := tX_bind hq
  clear hq
  have h5' := h5'_
  have hq := hq_
  clear h5'_ hq_
  obtain ⟨z4, h4_, h5'_⟩ := tX_bind h5'
  clear h5'
  have h4 := h4_
  have h5' := h5'_
  clear h4_ h5'_
  obtain ⟨z3, h3_, h4_⟩ := tX_bind h4
  clear h4
  have h3 := h3_
  have h4 := h4_
  clear h3_ h4_
  obtain ⟨z2, h2_, h3_⟩ := tX_bind h3
  clear h3
  have h2 := h2_
  have h3 := h3_
  clear h2_ h3_
  cases hq
  have e1 : z1.2.2.2 = s.2.2.2.2.2 := zNew_c h1
  have e4 : z4.2.2.2 = s.2.2.2.2.2 := (zAcc_c h4).1.trans ((zOld_c h3).1.trans ((zAcc_c h2).1.trans e1))
  obtain ⟨es, f1, f2⟩ := zFrm_c h6 hv h5'
  rw [e4] at f1
  have el0 : tAdd s.2.2.2.1 4 z1.2.2.1 0 = s.2.2.2.1 0 := by rw [tAdd_0, if_neg (by omega)]
  have el1 : tAdd s.2.2.2.1 4 z1.2.2.1 1 = s.2.2.2.1 1 := by rw [tAdd_0, if_neg (by omega)]
  refine ⟨hD, ?_, ?_⟩
  · show cThs (tAdd s.2.2.2.1 4 z1.2.2.1 0).length z5.2.2.2
    rw [el0, f1]
    exact cThs_same hT fun j => ⟨rfl, rfl⟩
  · show eLok (tAdd s.2.2.2.1 4 z1.2.2.1 0).length z5.2.2.2 (tAdd s.2.2.2.1 4 z1.2.2.1 1).length
    rw [el0, el1, f1]
    exact eLok_frm hL (by omega)
theorem sLine_ok (hv : ∀ i, k i = 23 → 0 ≤ v i ∧ v i ≤ 9999) {s s' : tS} (h : sOk s) (hq : sLine k pl v s = .ok s') : sOk s' := by
  unfold sLine at hq
  obtain ⟨q, h1_, hq_⟩ := tX_bind hq
  clear hq
  have h1 := h1_
  have hq := hq_
  clear h1_ hq_
  obtain ⟨z, h2_, hq_⟩ := tX_bind hq
  clear hq
  have h2 := h2_
  have hq := hq_
  clear h2_ hq_
  cases hq
  obtain ⟨a1, a2, a3⟩ := sBody_ok hv h h1
  have e := (zAcc_c h2).1
  refine ⟨a1, ?_, ?_⟩
  · show cThs (q.2.2.1 0).length z.2.2.2
    rw [e]
    exact a2
  · show eLok (q.2.2.1 0).length z.2.2.2 (q.2.2.1 1).length
    rw [e]
    exact a3
theorem sAll_ok (hv : ∀ i, k i = 23 → 0 ≤ v i ∧ v i ≤ 9999) : ∀ (n : Nat) (s s' : tS), sOk s → sAll k pl v n s = .ok s' → sOk s' := by
  intro n
  induction n with
  | zero => intro s s' h hq; cases hq; exact h
  | succ n ih =>
    intro s s' h hq
    simp only [sAll] at hq
    by_cases h24 : k s.1 = 24
    · rw [if_pos h24] at hq; cases hq; exact h
    · rw [if_neg h24] at hq
      obtain ⟨s1, h1_, hq_⟩ := tX_bind hq
      clear hq
      have h1 := h1_
      have hq := hq_
      clear h1_ hq_
      exact ih s1 s' (sLine_ok hv h h1) hq
theorem sOk_0 : sOk tS0 := ⟨⟨(show (2 : Int) ≤ 7 by decide), (show (7 : Int) ≤ 9 by decide)⟩, ⟨Nat.zero_le _, fun j hj => absurd hj (Nat.not_lt_zero _)⟩, ⟨Nat.zero_le _, ⟨4, rfl, by decide, by decide⟩, fun l hl => absurd hl (Nat.not_lt_zero _)⟩⟩
end lgLine
/-- a text that is read without a fault tells a land as it may be -/
theorem rd_legal {g : Nat → Int} {N : Nat} {s : tS} (h : sAll (tkK g N) (tkP g N) (tkV g N) 1701 tS0 = .ok s) : sOk s := sAll_ok (fun i hi => (rdK_ok (g := g) (N := N) (rdP g N i)).2.2 hi) 1701 tS0 s sOk_0 h
