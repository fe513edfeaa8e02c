/-! The reference's lines: their steps. -/
section rLines
variable {g : Nat → Int} {N d : Nat} {D D0 E : xC} {nm : Nat → List Int} {r : tX tZ} {z : tZ}
def rS5 (i j : Nat) : Bool := decide (rS4 i j = true ∨ (87 ≤ i ∧ i ≤ 93))
def rSE (i j : Nat) : Bool := decide (rS5 i j = true ∨ (i = 74 ∧ (j = 2 ∨ j = 3)))
theorem rS5_4 {i j : Nat} (h : rS5 i j = false) : rS4 i j = false := by
  simp only [rS5, decide_eq_false_iff_not] at h
  cases hh : rS4 i j with
  | true => exact absurd (Or.inl hh) h
  | false => rfl
theorem rSE_5 {i j : Nat} (h : rSE i j = false) : rS5 i j = false := by
  simp only [rSE, decide_eq_false_iff_not] at h
  cases hh : rS5 i j with
  | true => exact absurd (Or.inl hh) h
  | false => rfl
theorem rSE_4f {i j : Nat} (h : rSE i j = false) : rS4f i j = false := by
  have h1 := rS5_4 (rSE_5 h)
  simp only [rSE, decide_eq_false_iff_not] at h
  simp only [rS4f, decide_eq_false_iff_not]
  rintro (q | q)
  · rw [h1] at q; cases q
  · exact h (Or.inr q)
theorem rS5_0 (h : xSm rS0 D E) : xSm rS5 D E := xSm_mono h fun _ _ q => rS0_1 (rS1_4 (rS5_4 q))
theorem rSE_0 (h : xSm rS5 D E) : xSm rSE D E := xSm_mono h fun _ _ q => rSE_5 q
/-- where the names of a sort begin, how many there may be -/
def bsx (s : Nat) : Nat := if s = 0 then 0 else if s = 1 then 6 else if s = 2 then 11 else if s = 3 then 17 else 21
def mxx (s : Nat) : Nat := if s = 0 then 6 else if s = 1 then 5 else if s = 2 then 6 else 4
def rNms (nm : Nat → List Int) (D : xC) : Prop := ∀ s, s < 5 → rNm (bsx s) (nm s) D
/-- what stands at a line's beginning -/
def rLS (g : Nat → Int) (N : Nat) (nm : Nat → List Int) (D : xC) : Prop := rTx g N D ∧ rPt D ∧ (∀ s, s < 5 → D 74 (42 + s) = ((nm s).length : Int) ∧ (nm s).length ≤ mxx s)
theorem rLS_E (h : rLS g N nm D) (hs : xSm rSE D E) : rLS g N nm E :=
  ⟨rTx_same h.1 hs rfl rfl (fun j => by simp [rSE, rS5, rS4, rS1]), rPt_same h.2.1 hs rfl, fun s hs5 => ⟨(hs _ _ (by simp [rSE, rS5, rS4, rS1]; omega)).trans (h.2.2 s hs5).1, (h.2.2 s hs5).2⟩⟩
/-- what is told stands in the rows -/
def rC (c : tC) (es : List tE) (D : xC) : Prop := (∀ w l, c.1 w = some l → ∃ b : Nat, D 79 w = (b : Int) ∧ D 80 w = (l.length : Int) ∧ ∀ i x, l[i]? = some x → es[b + i]? = some x) ∧ (∀ x, c.2 0 0 = some x → D 74 48 = x) ∧ ∀ i j x, (i = 87 ∨ i = 88 ∨ i = 92 ∨ i = 93) → c.2 i j = some x → D i j = x
def rE (n : Nat) (c : tC) (D : xC) : Prop := ∃ es : List tE, rRw es D ∧ es.length ≤ n ∧ rC c es D
theorem rE_same {n m : Nat} {c : tC} (h : rE n c D) (hn : n ≤ m) (hs : ∀ i j, (i = 77 ∨ i = 78 ∨ i = 79 ∨ i = 80 ∨ i = 87 ∨ i = 88 ∨ i = 92 ∨ i = 93 ∨ (i = 74 ∧ (j = 23 ∨ j = 48))) → E i j = D i j) : rE m c E := by
  obtain ⟨es, h1, h2, h3, h4, h5⟩ := h
  refine ⟨es, rRw_same h1 (hs _ _ (by omega)) (fun j => hs _ _ (by omega)) (fun j => hs _ _ (by omega)), by omega, fun w l hw => ?_, fun x hx => (hs _ _ (by omega)).trans (h4 x hx), fun i j x hi hx => (hs _ _ (by omega)).trans (h5 i j x hi hx)⟩
  obtain ⟨b, b1, b2, b3⟩ := h3 w l hw
  exact ⟨b, (hs _ _ (by omega)).trans b1, (hs _ _ (by omega)).trans b2, b3⟩
theorem rE_st {n : Nat} {c : tC} {i j : Nat} {x : Int} (h : rE n c D) (hi : i = 87 ∨ i = 88 ∨ i = 92 ∨ i = 93) : rE n (cM c i j x) (xst D i j x) := by
  obtain ⟨es, h1, h2, h3, h4, h5⟩ := h
  refine ⟨es, rRw_same h1 (by rw [xst_nn (by omega)]) (fun j => by rw [xst_nn (by omega)]) (fun j => by rw [xst_nn (by omega)]), h2, fun w l hw => ?_, fun y hy => ?_, fun i' j' y hi' hy => ?_⟩
  · obtain ⟨b, b1, b2, b3⟩ := h3 w l hw
    exact ⟨b, by rw [xst_nn (by omega), b1], by rw [xst_nn (by omega), b2], b3⟩
  · have hy : (if 0 = i ∧ 0 = j then some x else c.2 0 0) = some y := hy
    rw [if_neg (by omega)] at hy
    rw [xst_nn (by omega)]
    exact h4 y hy
  · have hy : (if i' = i ∧ j' = j then some x else c.2 i' j') = some y := hy
    rw [xst_get]
    by_cases e : i' = i ∧ j' = j
    · rw [if_pos e] at hy ⊢
      exact Option.some.inj hy
    · rw [if_neg e] at hy ⊢
      exact h5 i' j' y hi' hy
theorem rE_48 {n : Nat} {c : tC} {x : Int} (h : rE n c D) : rE n (cM c 0 0 x) (xst D 74 48 x) := by
  obtain ⟨es, h1, h2, h3, h4, h5⟩ := h
  refine ⟨es, rRw_same h1 (by rw [xst_nn (by omega)]) (fun j => by rw [xst_nn (by omega)]) (fun j => by rw [xst_nn (by omega)]), h2, fun w l hw => ?_, fun y hy => ?_, fun i' j' y hi' hy => ?_⟩
  · obtain ⟨b, b1, b2, b3⟩ := h3 w l hw
    exact ⟨b, by rw [xst_nn (by omega), b1], by rw [xst_nn (by omega), b2], b3⟩
  · have hy : (some x : Option Int) = some y := hy
    rw [xst_at]
    exact Option.some.inj hy
  · have hy : (if i' = 0 ∧ j' = 0 then some x else c.2 i' j') = some y := hy
    rw [if_neg (by omega)] at hy
    rw [xst_nn (by omega)]
    exact h5 i' j' y hi' hy
/-- a formula more -/
theorem rE_frm {m w : Nat} {c : tC} {es p : List tE} (h1 : rRw (es ++ p) E) (h2 : (es ++ p).length ≤ m) (h3 : rC c es D) (h79 : E 79 w = (es.length : Int)) (h80 : E 80 w = (p.length : Int)) (hw : ∀ j, j ≠ w → E 79 j = D 79 j ∧ E 80 j = D 80 j) (hs : ∀ i j, (i = 87 ∨ i = 88 ∨ i = 92 ∨ i = 93 ∨ (i = 74 ∧ j = 48)) → E i j = D i j) : rE m (cL c w p) E := by
  obtain ⟨h3, h4, h5⟩ := h3
  refine ⟨es ++ p, h1, h2, fun f l hf => ?_, fun x hx => (hs _ _ (by omega)).trans (h4 x hx), fun i j x hi hx => (hs _ _ (by omega)).trans (h5 i j x hi hx)⟩
  have hf : (if f = w then some p else c.1 f) = some l := hf
  by_cases e : f = w
  · rw [if_pos e] at hf
    have hf := Option.some.inj hf
    subst hf
    subst e
    refine ⟨es.length, h79, h80, fun i x hx => ?_⟩
    rw [List.getElem?_append_right (by omega), Nat.add_sub_cancel_left]
    exact hx
  · rw [if_neg e] at hf
    obtain ⟨b, b1, b2, b3⟩ := h3 f l hf
    refine ⟨b, (hw f e).1.trans b1, (hw f e).2.trans b2, fun i x hx => ?_⟩
    have hb := b3 i x hx
    rw [List.getElem?_append_left (List.getElem?_eq_some_iff.mp hb).1]
    exact hb
def rLp (g : Nat → Int) (N : Nat) (z : tZ) (D : xC) : Prop := rAtI g N z.1 D ∧ D 74 2 = 0 ∧ D 74 24 = z.2.1 ∧ (0 ≤ z.2.1 ∧ z.2.1 ≤ 150) ∧ rE z.1 z.2.2.2 D ∧ z.1 ≤ N
/-- so far, or the fault -/
def rO (g : Nat → Int) (N : Nat) (nm : Nat → List Int) (D0 : xC) (r : tX tZ) (D : xC) : Prop := match r with
  | .error x => D 74 2 = x.1 ∧ D 74 3 = x.2 ∧ 0 < x.1 ∧ xSm rSE D0 D
  | .ok z => rLp g N z D ∧ rNms nm D ∧ xSm rS5 D0 D
theorem rO_E (h : rO g N nm D0 r D) : xSm rSE D0 D := by
  cases r with
  | error x => exact h.2.2.2
  | ok z => exact rSE_0 h.2.2
theorem rO_self (h : rO g N nm D0 r D) : rO g N nm D r D := by
  cases r with
  | error x => exact ⟨h.1, h.2.1, h.2.2.1, xSm_refl⟩
  | ok z => exact ⟨h.1, h.2.1, xSm_refl⟩
theorem rNms_same (h : rNms nm D) (hs : ∀ j, E 76 j = D 76 j) : rNms nm E := fun s h5 => rNm_same (h s h5) hs
/-- a row's place is written (one of which nothing is told) -/
theorem rO_st {i j : Nat} {x : Int} (h : rO g N nm D0 r D) (hi : 89 ≤ i ∧ i ≤ 91) : rO g N nm D0 r (xst D i j x) := by
  cases r with
  | error y =>
    obtain ⟨h1, h2, h3, h4⟩ := h
    exact ⟨by rw [xst_nn (by omega), h1], by rw [xst_nn (by omega), h2], h3, xSm_st h4 (by simp [rSE, rS5]; omega)⟩
  | ok z =>
    obtain ⟨⟨h1, h2, h3, h4, h5, h7⟩, h8, h9⟩ := h
    refine ⟨⟨?_, by rw [xst_nn (by omega), h2], by rw [xst_nn (by omega), h3], h4, rE_same h5 (Nat.le_refl _) (fun i j q => by rw [xst_nn (by omega)]), h7⟩, rNms_same h8 (fun j' => by rw [xst_nn (by omega)]), xSm_st h9 (by simp [rS5]; omega)⟩
    obtain ⟨a1, a2, a3, a4, a5⟩ := h1
    refine ⟨?_, ?_, fun q => ?_, fun q => ?_, fun q => ?_⟩
    all_goals rw [xst_nn (by omega)]
    · exact a1
    · exact a2
    · exact a3 q
    · exact a4 q
    · exact a5 q
theorem rO_sc {i j : Nat} {x : Int} (h : rO g N nm D0 r D) (hi : i = 87 ∨ i = 88 ∨ i = 92 ∨ i = 93) : rO g N nm D0 (r.bind fun z => .ok (zCnt i j x z)) (xst D i j x) := by
  cases r with
  | error y =>
    obtain ⟨h1, h2, h3, h4⟩ := h
    exact ⟨by rw [xst_nn (by omega), h1], by rw [xst_nn (by omega), h2], h3, xSm_st h4 (by simp [rSE, rS5]; omega)⟩
  | ok z =>
    obtain ⟨⟨h1, h2, h3, h4, h5, h7⟩, h8, h9⟩ := h
    refine ⟨⟨?_, by rw [xst_nn (by omega), h2], by rw [xst_nn (by omega)]; exact h3, h4, rE_st h5 hi, h7⟩, rNms_same h8 (fun j' => by rw [xst_nn (by omega)]), xSm_st h9 (by simp [rS5]; omega)⟩
    obtain ⟨a1, a2, a3, a4, a5⟩ := h1
    refine ⟨?_, ?_, fun q => ?_, fun q => ?_, fun q => ?_⟩
    all_goals rw [xst_nn (by omega)]
    · exact a1
    · exact a2
    · exact a3 q
    · exact a4 q
    · exact a5 q
theorem zPut_cnt {r : tX tZ} {i j : Nat} {x : Int} (h : ∀ z, r = .ok z → z.2.2.1 = x) : (r.bind fun z => (.ok (zCnt i j x z) : tX tZ)) = r.bind fun z => .ok (zPut i j z) := by
  cases r with
  | error y => rfl
  | ok z =>
    show (Except.ok (zCnt i j x z) : tX tZ) = .ok (zCnt i j z.2.2.1 z)
    rw [h z rfl]
theorem rO_pt {i j : Nat} {x : Int} (h : rO g N nm D0 r D) (hx : ∀ z, r = .ok z → z.2.2.1 = x) (hi : i = 87 ∨ i = 88 ∨ i = 92 ∨ i = 93) : rO g N nm D0 (r.bind fun z => .ok (zPut i j z)) (xst D i j x) := by
  rw [← zPut_cnt hx]
  exact rO_sc h hi
theorem rO_err {i : Nat} {a : Int} (hs : xSm rSE D0 D) (ha : 0 < a) : rO g N nm D0 (tErr (tkK g N) (tkP g N) i a) (xst (xst D 74 2 (if tkK g N i = 25 then 1 else a)) 74 3 (tkP g N i)) := by
  obtain ⟨x, x1, x2, x3, x4⟩ := tErr_pos (k := tkK g N) (pl := tkP g N) (i := i) (c := a) ha (A := tZ)
  rw [x1]
  exact ⟨by rw [xst_nn (by omega), xst_at, x2], by rw [xst_at, x3], x4, xSm_st (xSm_st hs rfl) rfl⟩
/-- the next token, in a line -/
theorem rl_next (hd : 2 ≤ d) (h0 : rLS g N nm D0) (h : rLp g N z D) (hn : rNms nm D) (hs : xSm rS5 D0 D) (h25 : tkK g N z.1 ≠ 25) (h24 : tkK g N z.1 ≠ 24) {x : Int} :
    ∃ F, xM d 157 [mR] D = some (0, F) ∧ rO g N nm D0 (.ok (z.1 + 1, z.2.1, x, z.2.2.2)) F ∧ xSm rS0 D F := by
  obtain ⟨h1, h2, h3, h4, h5, h7⟩ := h
  have hT := (rLS_E h0 (rSE_0 hs)).1
  have hlt := tk_lt h24
  obtain ⟨F, k1, k2, k3⟩ := rt_next hd hT h1 h25
  exact ⟨F, k1, ⟨⟨k2, (k3 _ _ rfl).trans h2, (k3 _ _ rfl).trans h3, h4, rE_same h5 (Nat.le_succ _) (fun i j q => k3 _ _ (by simp only [rS0, decide_eq_false_iff_not]; omega)), hlt.2.2⟩, rNms_same hn (fun j => k3 _ _ rfl), xSm_trans hs (rS5_0 k3)⟩, k3⟩
theorem rl_want (hd : 3 ≤ d) (h0 : rLS g N nm D0) (h : rO g N nm D0 r D) {j : Nat} {c : Int} (hc : rdW[j]? = some c) :
    ∃ F, xM d 162 [mR, .inr (.inl c)] D = some (0, F) ∧ rO g N nm D0 (r.bind fun z => zAcc (tkK g N) (tkP g N) j z) F ∧ (∀ i j, rSE i j = false → F i j = D i j) ∧ (∀ j, F 92 j = D 92 j) := by
  obtain ⟨d, rfl⟩ := Nat.exists_eq_add_of_le' (show 1 ≤ d by omega)
  have hE := rO_E h
  rw [xm_X12_want]
  simp only [Bool.cond_decide]
  cases r with
  | error x =>
    rw [if_neg (by have := h.1; have := h.2.2.1; omega)]
    exact ⟨D, rfl, h, fun i j q => rfl, fun j => rfl⟩
  | ok z =>
    obtain ⟨h1, h2, h3⟩ := h
    have hj : (j : Int) ≠ 24 ∧ (j : Int) ≠ 25 := by
      have hj : j < 22 := by
        rcases Nat.lt_or_ge j rdW.length with h | h
        · exact h
        · rw [List.getElem?_eq_none h] at hc; cases hc
      omega
    rw [if_pos (by have := h1.2.1; omega), rt_isWord (by omega) h1.1 hc]
    simp only [Option.bind_some]
    show ∃ F, _ ∧ rO g N nm D0 (zAcc (tkK g N) (tkP g N) j z) F ∧ _
    unfold zAcc
    by_cases hk : tkK g N z.1 = (j : Int)
    · rw [if_pos hk, if_pos (by decide), if_pos hk]
      obtain ⟨F, k1, k2, k3⟩ := rl_next (d := d) (x := z.2.2.1) (by omega) h0 h1 h2 h3 (by omega) (by omega)
      exact ⟨F, by rw [k1]; rfl, k2, fun i j q => k3 _ _ (rS0_1 (rS1_4 (rS5_4 (rSE_5 q)))), fun j => k3 _ _ rfl⟩
    · rw [if_neg hk, if_neg (by decide), if_neg hk, rt_wrong (by omega) h1.1 h1.2.1]
      refine ⟨_, rfl, rO_err (rSE_0 h3) (by decide), fun i j q => ?_, fun j => ?_⟩
      · dsimp only
        rw [xst_nn, xst_nn]
        · rintro ⟨rfl, rfl⟩; cases q
        · rintro ⟨rfl, rfl⟩; cases q
      · dsimp only
        rw [xst_nn (by omega), xst_nn (by omega)]
theorem rl_num (hd : 3 ≤ d) (h0 : rLS g N nm D0) (h : rO g N nm D0 r D) {lo hi : Int} {f : tZ → tX tZ} (hf : ∀ z, r = .ok z → f z = zNum (tkK g N) (tkP g N) (tkV g N) lo hi z) :
    ∃ (x : Int) (F : xC), xM d 163 [mR, .inl lo, .inl hi] D = some (x, F) ∧ rO g N nm D0 (r.bind f) F ∧ (∀ z, r.bind f = .ok z → z.2.2.1 = x) ∧ (∀ i j, rSE i j = false → F i j = D i j) := by
  obtain ⟨d, rfl⟩ := Nat.exists_eq_add_of_le' (show 1 ≤ d by omega)
  rw [xm_X12_toldNumber]
  simp only [Bool.cond_decide]
  cases r with
  | error x =>
    rw [if_neg (by have := h.1; have := h.2.2.1; omega)]
    exact ⟨0, D, rfl, h, (fun z hz => by cases hz), fun i j q => rfl⟩
  | ok z =>
    obtain ⟨h1, h2, h3⟩ := h
    obtain ⟨so1, so2, so3⟩ := rt_sort h1.1
    have h20 := h1.2.1
    show ∃ x F, _ ∧ rO g N nm D0 (f z) F ∧ (∀ z', f z = .ok z' → _) ∧ _
    rw [hf z rfl, if_pos (by omega)]
    have hposx : ∀ a : Int, 0 < a → (if tkK g N z.1 = 25 then 1 else a) ≠ 0 := by intro a ha; split <;> omega
    have hframe : ∀ (a b : Int) (i j : Nat), rSE i j = false → (xst (xst D 74 2 a) 74 3 b) i j = D i j := by
      intro a b i j q
      rw [xst_nn, xst_nn]
      · rintro ⟨rfl, rfl⟩; cases q
      · rintro ⟨rfl, rfl⟩; cases q
    have herr : ∀ (a b : Int), 0 < a → ∀ G : Int × xC → Option (Int × xC), ∃ x F, ((xM d 158 [mR, .inl a] D).bind fun q => if q.2 74 2 ≠ 0 then some (q.2 74 8, q.2) else G q) = some (x, F) ∧ rO g N nm D0 (tErr (tkK g N) (tkP g N) z.1 a) F ∧ (∀ z', (tErr (tkK g N) (tkP g N) z.1 a : tX tZ) = .ok z' → z'.2.2.1 = x) ∧ (∀ i j, rSE i j = false → F i j = D i j) := by
      intro a b ha G
      rw [rt_wrong (by omega) h1.1 h20]
      simp only [Option.bind_some]
      rw [if_pos (by rw [xst_nn (by omega), xst_at]; exact hposx a ha)]
      exact ⟨_, _, rfl, rO_err (rSE_0 h3) ha, (fun z' hz => by cases hz), hframe _ _⟩
    unfold zNum
    by_cases hk : tkK g N z.1 = 23
    · have h8 : D 74 8 = tkV g N z.1 := h1.1.2.2.2.1 hk
      rw [if_pos (so2.mpr hk), if_pos hk, h8]
      by_cases hlo : tkV g N z.1 < lo
      · rw [if_pos hlo, if_neg (show ¬ (lo ≤ tkV g N z.1 ∧ tkV g N z.1 ≤ hi) by omega)]
        exact herr 4 0 (by decide) _
      · rw [if_neg hlo]
        by_cases hhi : tkV g N z.1 ≤ hi
        · rw [if_pos hhi, if_neg (fun q => q h20), if_pos (show lo ≤ tkV g N z.1 ∧ tkV g N z.1 ≤ hi by omega)]
          obtain ⟨F, k1, k2, k3⟩ := rl_next (d := d) (x := tkV g N z.1) (by omega) h0 h1 h2 h3 (by omega) (by omega)
          exact ⟨_, F, by rw [k1]; rfl, k2, (fun z' hz => by cases hz; rfl), fun i j q => k3 _ _ (rS0_1 (rS1_4 (rS5_4 (rSE_5 q))))⟩
        · rw [if_neg hhi, if_neg (show ¬ (lo ≤ tkV g N z.1 ∧ tkV g N z.1 ≤ hi) by omega)]
          exact herr 4 0 (by decide) _
    · rw [if_neg (fun q => hk (so2.mp q)), if_neg hk]
      exact herr 2 0 (by decide) _
theorem rl_told (hd : 4 ≤ d) (h0 : rLS g N nm D0) (h : rO g N nm D0 r D) {j : Nat} {c : Int} (hc : rdW[j]? = some c) {lo hi : Int} {f : tZ → tX tZ} (hf : ∀ z, (r.bind fun z => zAcc (tkK g N) (tkP g N) j z) = .ok z → f z = zNum (tkK g N) (tkP g N) (tkV g N) lo hi z) :
    ∃ (x : Int) (F : xC), xM d 164 [mR, .inr (.inl c), .inl lo, .inl hi] D = some (x, F) ∧ rO g N nm D0 ((r.bind fun z => zAcc (tkK g N) (tkP g N) j z).bind f) F ∧ (∀ z, (r.bind fun z => zAcc (tkK g N) (tkP g N) j z).bind f = .ok z → z.2.2.1 = x) ∧ (∀ i j, rSE i j = false → F i j = D i j) := by
  obtain ⟨d, rfl⟩ := Nat.exists_eq_add_of_le' (show 1 ≤ d by omega)
  obtain ⟨F1, k1, k2, k3, -⟩ := rl_want (d := d) (by omega) h0 h hc
  obtain ⟨x, F, j1, j2, j3, j4⟩ := rl_num (d := d) (by omega) h0 k2 hf
  refine ⟨x, F, ?_, j2, j3, fun i j q => (j4 i j q).trans (k3 i j q)⟩
  rw [xm_X12_told, k1]
  simp only [Option.bind_some]
  rw [j1]
  rfl
theorem rl_formula (hd : 5 ≤ d) (h0 : rLS g N nm D0) (h : rO g N nm D0 r D) {w : Nat} (hw : w < 70) :
    ∃ F, xM d 179 [mR, .inl (w : Int)] D = some (0, F) ∧ rO g N nm D0 (r.bind fun z => zFrm (tkK g N) (tkP g N) (tkV g N) (nm 0) w z) F ∧ (∀ i j, rSE i j = false → F i j = D i j) ∧ (∀ j, F 92 j = D 92 j) := by
  obtain ⟨d, rfl⟩ := Nat.exists_eq_add_of_le' (show 1 ≤ d by omega)
  have hE := rO_E h
  cases r with
  | error x =>
    rw [xm_X12_formula]
    simp only [Bool.cond_decide]
    rw [if_neg (by have := h.1; have := h.2.2.1; omega)]
    exact ⟨D, rfl, h, fun i j q => rfl, fun j => rfl⟩
  | ok z =>
    obtain ⟨h1, h2, h3⟩ := h
    have hL := rLS_E h0 (rSE_0 h3)
    obtain ⟨c1, c2⟩ := hL.2.2 0 (by decide)
    obtain ⟨es, he1, he2, he3⟩ := h1.2.2.2.2.1
    have hf := rf_formula (d := d) (th := nm 0) (w := (w : Int)) (by omega) (h2 0 (by decide)).2.2 hL.1 hL.2.1 ⟨c1, h2 0 (by decide), c2⟩ (by omega) h1.1 h1.2.1 h1.2.2.1 h1.2.2.2.1 ⟨he1, he2⟩ h1.2.2.2.2.2
    rw [Int.toNat_natCast] at hf
    show ∃ F, _ ∧ rO g N nm D0 (zFrm (tkK g N) (tkP g N) (tkV g N) (nm 0) w z) F ∧ _
    unfold zFrm
    cases hs : sFrm (tkK g N) (tkP g N) (tkV g N) (nm 0) z.1 z.2.1 with
    | error x =>
      rw [hs] at hf
      obtain ⟨F, k1, k2, k3, k4, k5⟩ := hf
      exact ⟨F, k1, ⟨k2, k3, k4, xSm_trans hE (xSm_mono k5 fun _ _ => rSE_4f)⟩, fun i j q => k5 _ _ (rSE_4f q), fun j => k5 _ _ (by simp [rS4f, rS4, rS1])⟩
    | ok q =>
      rw [hs] at hf
      obtain ⟨F, k1, k2, k3, k4, k5, ⟨k6, k6b⟩, k7, k8, k9, k10, k11⟩ := hf
      exact ⟨F, k1, ⟨⟨k2, k3, k4, k5, rE_frm k6 k6b he3 k9 k10 k11 (fun i j q => k8 _ _ (by simp only [rS4, rS1, decide_eq_false_iff_not, decide_eq_true_eq]; omega)), k7⟩, rNms_same h2 (fun j => k8 _ _ (by simp [rS4, rS1])), xSm_trans h3 (xSm_mono k8 fun _ _ => rS5_4)⟩, fun i j q => k8 _ _ (rS5_4 (rSE_5 q)), fun j => k8 _ _ (by simp [rS4, rS1])⟩
end rLines
