/-! The reference's stack of signs. -/
section rStack
variable {g : Nat → Int} {N d i : Nat} {D : xC} {th : List Int}
/-- how tightly a sign on the stack binds -/
def tgt (x : Int) : Int := if x = 124 then 1 else if x = 38 then 2 else if x = 21 then 3 else if x = 60 ∨ x = 61 ∨ x = 62 then 4 else if x = 43 ∨ x = 45 then 5 else 6
theorem rt_tight (hd : 1 ≤ d) {x : Int} : xM d 169 [.inl x] D = some (tgt x, D) := by
  obtain ⟨d, rfl⟩ := Nat.exists_eq_add_of_le' hd
  rw [xm_X12_tight]
  simp only [Bool.cond_decide, tgt]
  repeat' split
  all_goals first | rfl | omega
/-- the signs, the topmost first -/
def stk : List Int → xC → Prop
  | [], _ => True
  | x :: t, D => D 85 t.length = x ∧ stk t D
def dpt : List Int → Nat
  | [] => 0
  | x :: t => (if x = 20 ∨ x = 21 then 1 else 0) + dpt t
def bnr : List Int → Nat
  | [] => 0
  | x :: t => (if x = 20 ∨ x = 21 then 0 else 1) + bnr t
theorem len_st (st : List Int) : st.length = dpt st + bnr st := by
  induction st with
  | nil => rfl
  | cons x t ih =>
    simp only [List.length_cons, dpt, bnr, ih]
    split <;> omega
theorem dpt_app (a b : List Int) : dpt (a ++ b) = dpt a + dpt b := by
  induction a with
  | nil => simp [dpt]
  | cons x t ih => simp only [List.cons_append, dpt, ih]; omega
theorem bnr_app (a b : List Int) : bnr (a ++ b) = bnr a + bnr b := by
  induction a with
  | nil => simp [bnr]
  | cons x t ih => simp only [List.cons_append, bnr, ih]; omega
theorem stk_app {a b : List Int} (h : stk (a ++ b) D) : stk b D := by
  induction a with
  | nil => exact h
  | cons x t ih => exact ih h.2
theorem stk_same {st : List Int} {E : xC} {n : Nat} (h : stk st D) (hs : ∀ j, j < n → E 85 j = D 85 j) (hn : st.length ≤ n) : stk st E := by
  induction st with
  | nil => trivial
  | cons x t ih =>
    simp only [List.length_cons] at hn
    exact ⟨(hs _ (by omega)).trans h.1, ih h.2 (by omega)⟩
/-- a relation waits within this bracket, ahead of any also, or, not -/
def hrl : List Int → Bool
  | [] => false
  | x :: t => if x = 20 then false else if 4 < tgt x then hrl t else decide (tgt x = 4)
theorem rt_relation (hd : 2 ≤ d) {st : List Int} (h19 : D 74 19 = 85) (h22 : D 74 22 = (st.length : Int)) (hst : stk st D) (hl : st.length ≤ 160) : xM d 171 [mR] D = some (if hrl st = true then 1 else 0, D) := by
  obtain ⟨d, rfl⟩ := Nat.exists_eq_add_of_le' (show 1 ≤ d by omega)
  rw [xm_X12_hasRelation, h22, w32_id (by omega) (by omega)]
  clear h22
  induction st with
  | nil =>
    rw [show ((([] : List Int).length : Int) - 1) = -1 from rfl, xl_X12_hasRelation_7]
    rfl
  | cons x t ih =>
    simp only [List.length_cons] at hl
    have e : (((x :: t).length : Int) - 1) = (t.length : Int) := by simp only [List.length_cons]; omega
    have eix : xix (t.length : Int) 160 = true := xixz.mpr ⟨by omega, by omega⟩
    have e19 : (D 74 19).toNat = 85 := by rw [h19]; rfl
    have ew : w32 ((t.length : Int) + (-1)) = (t.length : Int) - 1 := by rw [w32_id (by omega) (by omega)]; omega
    rw [e, xl_X12_hasRelation_7]
    simp only [Bool.cond_decide]
    rw [if_neg (show ¬ ((t.length : Int) < 0) by omega), eix, e19, Int.toNat_natCast, hst.1, ew]
    simp only [cond_true]
    by_cases h20 : x = 20
    · rw [if_pos h20, if_neg (show ¬ ((t.length : Int) < 0) by omega), if_pos h20, hrl, if_pos h20]; rfl
    · rw [if_neg h20, rt_tight (by omega)]
      simp only [Option.bind_some]
      by_cases h4 : tgt x ≤ 4
      · rw [if_pos h4, if_neg (show ¬ ((t.length : Int) < 0) by omega), e19, hst.1, if_neg h20, rt_tight (by omega)]
        simp only [Option.bind_some]
        have e1 : hrl (x :: t) = decide (tgt x = 4) := by rw [hrl, if_neg h20, if_neg (by omega)]
        rw [e1]
        by_cases h : tgt x = 4
        · rw [if_neg (fun q => q h), h]; rfl
        · rw [if_pos h, decide_eq_false h]; rfl
      · have e1 : hrl (x :: t) = hrl t := by rw [hrl, if_neg h20, if_pos (by omega)]
        rw [if_neg h4, ih hst.2 (by omega), e1]
def mnt : List Int → Int
  | [] => 1
  | x :: _ => if x = 20 ∨ tgt x < 4 then 1 else 0
theorem rt_mayNot (hd : 2 ≤ d) {st : List Int} (h19 : D 74 19 = 85) (h22 : D 74 22 = (st.length : Int)) (hst : stk st D) (hl : st.length ≤ 160) : xM d 172 [mR] D = some (mnt st, D) := by
  obtain ⟨d, rfl⟩ := Nat.exists_eq_add_of_le' (show 1 ≤ d by omega)
  rw [xm_X12_mayNot, h22]
  cases st with
  | nil => rfl
  | cons x t =>
    simp only [List.length_cons] at hl
    have e : w32 (((x :: t).length : Int) - 1) = (t.length : Int) := by
      rw [w32_id (by simp only [List.length_cons]; omega) (by simp only [List.length_cons]; omega)]
      simp only [List.length_cons]; omega
    have eix : xix (t.length : Int) 160 = true := xixz.mpr ⟨by omega, by omega⟩
    have e19 : (D 74 19).toNat = 85 := by rw [h19]; rfl
    simp only [Bool.cond_decide]
    rw [if_neg (by simp only [List.length_cons]; omega), e, eix, e19, Int.toNat_natCast, hst.1]
    simp only [cond_true]
    by_cases h20 : x = 20
    · rw [if_pos h20, mnt, if_pos (Or.inl h20)]
    · rw [if_neg h20, rt_tight (by omega)]
      simp only [Option.bind_some]
      by_cases h4 : 4 ≤ tgt x
      · rw [if_pos h4, mnt, if_neg (by omega)]
      · rw [if_neg h4, mnt, if_pos (by omega)]
def brk (D : xC) (m : Nat) : Prop := ∃ j, j < m ∧ D 85 j = 20
theorem rt_brk1 (h19 : D 74 19 = 85) {n : Nat} (h22 : D 74 22 = (n : Int)) (hl : n ≤ 160) : ∀ (q m : Nat) (f : Int), m + q = n → ((f = 1 ∧ brk D m) ∨ (f = 0 ∧ ¬ brk D m)) →
    ∃ r : Int, xw_X12_hasBracket d (4, [some mR, some (.inl f), some (.inl (m : Int))], [], D) = some (r, D) ∧ ((r = 1 ∧ brk D n) ∨ (r = 0 ∧ ¬ brk D n)) := by
  have e19 : (D 74 19).toNat = 85 := by rw [h19]; rfl
  intro q
  induction q with
  | zero =>
    intro m f hm hf
    have hm : m = n := by omega
    subst hm
    refine ⟨f, ?_, hf⟩
    rw [xl_X12_hasBracket_4]
    simp only [Bool.cond_decide]
    rw [if_pos (by omega)]
    rcases hf with ⟨hf, -⟩ | ⟨hf, -⟩ <;> rw [hf] <;> rfl
  | succ q ih =>
    intro m f hm hf
    have ew2 : w32 ((m : Int) + 1) = ((m + 1 : Nat) : Int) := by rw [w32_id (by omega) (by omega)]; omega
    have eix : xix (m : Int) 160 = true := xixz.mpr ⟨by omega, by omega⟩
    rw [xl_X12_hasBracket_4]
    simp only [Bool.cond_decide]
    rw [if_neg (by omega), ew2, eix, e19, Int.toNat_natCast]
    simp only [cond_true]
    rcases hf with ⟨hf, hq⟩ | ⟨hf, hq⟩
    · rw [if_pos (by omega)]
      obtain ⟨j, j1, j2⟩ := hq
      exact ih (m + 1) 1 (by omega) (Or.inl ⟨rfl, j, by omega, j2⟩)
    · rw [if_neg (by omega)]
      by_cases h20 : D 85 m = 20
      · rw [if_neg (fun h => h h20)]
        exact ih (m + 1) 1 (by omega) (Or.inl ⟨rfl, m, by omega, h20⟩)
      · rw [if_pos h20]
        refine ih (m + 1) 0 (by omega) (Or.inr ⟨rfl, ?_⟩)
        rintro ⟨j, j1, j2⟩
        by_cases hj : j = m
        · rw [hj] at j2; exact h20 j2
        · exact hq ⟨j, by omega, j2⟩
theorem brk_mem {st : List Int} (hst : stk st D) : brk D st.length ↔ 20 ∈ st := by
  induction st with
  | nil =>
    constructor
    · rintro ⟨j, j1, -⟩
      simp only [List.length_nil] at j1
      omega
    · intro h; cases h
  | cons x t ih =>
    have ih := ih hst.2
    rw [List.mem_cons, ← ih]
    constructor
    · rintro ⟨j, j1, j2⟩
      simp only [List.length_cons] at j1
      by_cases hj : j = t.length
      · rw [hj, hst.1] at j2; exact Or.inl j2.symm
      · exact Or.inr ⟨j, by omega, j2⟩
    · rintro (h | ⟨j, j1, j2⟩)
      · exact ⟨t.length, by simp only [List.length_cons]; omega, by rw [hst.1, h]⟩
      · exact ⟨j, by simp only [List.length_cons]; omega, j2⟩
theorem rt_bracket (hd : 1 ≤ d) {st : List Int} (h19 : D 74 19 = 85) (h22 : D 74 22 = (st.length : Int)) (hst : stk st D) (hl : st.length ≤ 160) : xM d 178 [mR] D = some (if 20 ∈ st then 1 else 0, D) := by
  obtain ⟨d, rfl⟩ := Nat.exists_eq_add_of_le' hd
  obtain ⟨r, r1, r2⟩ := rt_brk1 (d := d) h19 h22 hl st.length 0 0 (by omega) (Or.inr ⟨rfl, fun h => by
    obtain ⟨j, j1, -⟩ := h
    omega⟩)
  rw [xm_X12_hasBracket]
  refine r1.trans ?_
  rw [brk_mem hst] at r2
  rcases r2 with ⟨r2, r3⟩ | ⟨r2, r3⟩
  · rw [r2, if_pos r3]
  · rw [r2, if_neg r3]
/-- where its rows lie -/
def rPzL : List (Nat × Nat) := [(15, 81), (16, 82), (17, 83), (18, 84), (20, 86), (35, 94), (36, 95), (37, 96), (38, 97), (39, 98), (40, 99), (41, 100), (62, 101), (63, 102), (69, 103), (101, 122)]
/-- .. its other arrays -/
def rPz (D : xC) : Prop := ∀ q ∈ rPzL, D 74 q.1 = (q.2 : Int)
def rPt (D : xC) : Prop := D 74 10 = 76 ∧ D 74 11 = 77 ∧ D 74 12 = 78 ∧ D 74 13 = 79 ∧ D 74 14 = 80 ∧ D 74 19 = 85 ∧ D 74 28 = 87 ∧ D 74 29 = 88 ∧ D 74 30 = 89 ∧ D 74 31 = 90 ∧ D 74 32 = 91 ∧ D 74 33 = 92 ∧ D 74 34 = 93 ∧ rPz D
theorem rPt_same {S : Nat → Nat → Bool} {E : xC} (h : rPt D) (hs : xSm S D E) (hS : [10, 11, 12, 13, 14, 19, 28, 29, 30, 31, 32, 33, 34, 15, 16, 17, 18, 20, 35, 36, 37, 38, 39, 40, 41, 62, 63, 69, 101].all (fun j => !(S 74 j)) = true) : rPt E := by
  have q : ∀ j, j ∈ [10, 11, 12, 13, 14, 19, 28, 29, 30, 31, 32, 33, 34, 15, 16, 17, 18, 20, 35, 36, 37, 38, 39, 40, 41, 62, 63, 69, 101] → E 74 j = D 74 j := fun j hj => hs _ _ (by
    have := List.all_eq_true.mp hS j hj
    simpa using this)
  obtain ⟨a1, a2, a3, a4, a5, a6, a7, a8, a9, b1, b2, b3, b4, b5⟩ := h
  have q5 : ∀ x ∈ rPzL, x.1 ∈ [10, 11, 12, 13, 14, 19, 28, 29, 30, 31, 32, 33, 34, 15, 16, 17, 18, 20, 35, 36, 37, 38, 39, 40, 41, 62, 63, 69, 101] := by decide
  exact ⟨(q 10 (by decide)).trans a1, (q 11 (by decide)).trans a2, (q 12 (by decide)).trans a3, (q 13 (by decide)).trans a4, (q 14 (by decide)).trans a5, (q 19 (by decide)).trans a6, (q 28 (by decide)).trans a7, (q 29 (by decide)).trans a8, (q 30 (by decide)).trans a9, (q 31 (by decide)).trans b1, (q 32 (by decide)).trans b2, (q 33 (by decide)).trans b3, (q 34 (by decide)).trans b4, fun x hx => (q x.1 (q5 x hx)).trans (b5 x hx)⟩
theorem rPz_st {j : Nat} {x : Int} (hj : ∀ q ∈ rPzL, q.1 ≠ j) (h : rPz D) : rPz (xst D 74 j x) := fun q hq => by
  have := hj q hq
  rw [xst_nn (by omega)]
  exact h q hq
theorem rPz_in {j : Nat} (h : 42 ≤ j ∧ j ≤ 61) : ∀ q ∈ rPzL, q.1 ≠ j := fun q hq => by
  have h0 : ∀ q ∈ rPzL, ¬ (42 ≤ q.1 ∧ q.1 ≤ 61) := by decide
  have := h0 q hq
  omega
theorem rt_add (hd : 1 ≤ d) {a b : Int} {ns : Nat} (hP : rPt D) (h23 : D 74 23 = (ns : Int)) (hn : ns < 2400) : xM d 168 [mR, .inl a, .inl b] D = some (0, xst (xst (xst D 77 ns a) 78 ns b) 74 23 ((ns + 1 : Nat) : Int)) := by
  obtain ⟨d, rfl⟩ := Nat.exists_eq_add_of_le' hd
  have eix : xix (ns : Int) 2400 = true := xixz.mpr ⟨by omega, by omega⟩
  have e11 : (D 74 11).toNat = 77 := by rw [hP.2.1]; rfl
  have e12 : (D 74 12).toNat = 78 := by rw [hP.2.2.1]; rfl
  rw [xm_X12_add, h23, eix, e11, Int.toNat_natCast]
  rw [show (xst D 77 ns a) 74 23 = (ns : Int) by rw [xst_nn (by omega), h23], show (xst D 77 ns a) 74 12 = D 74 12 by rw [xst_nn (by omega)], e12, eix, Int.toNat_natCast, show (xst (xst D 77 ns a) 78 ns b) 74 23 = (ns : Int) by rw [xst_nn (by omega), xst_nn (by omega), h23], w32_id (by omega) (by omega)]
  rfl
/-- the steps that stand in the rows -/
def rRw (es : List tE) (D : xC) : Prop := D 74 23 = (es.length : Int) ∧ ∀ (j : Nat) (x : tE), es[j]? = some x → D 77 j = x.1 ∧ D 78 j = x.2
theorem rRw_same {es : List tE} {E : xC} (h : rRw es D) (h23 : E 74 23 = D 74 23) (h77 : ∀ j, E 77 j = D 77 j) (h78 : ∀ j, E 78 j = D 78 j) : rRw es E :=
  ⟨h23.trans h.1, fun j x hx => ⟨(h77 j).trans (h.2 j x hx).1, (h78 j).trans (h.2 j x hx).2⟩⟩
theorem rRw_add {es : List tE} {E : xC} {a b : Int} (h : rRw es D) (hE : E 74 23 = ((es.length + 1 : Nat) : Int)) (h77 : ∀ j, j ≠ es.length → E 77 j = D 77 j) (h78 : ∀ j, j ≠ es.length → E 78 j = D 78 j) (ha : E 77 es.length = a) (hb : E 78 es.length = b) : rRw (es ++ [(a, b)]) E := by
  refine ⟨by rw [hE, List.length_append]; rfl, fun j x hx => ?_⟩
  by_cases hj : j < es.length
  · rw [List.getElem?_append_left hj] at hx
    rw [h77 j (by omega), h78 j (by omega)]
    exact h.2 j x hx
  · rw [List.getElem?_append_right (by omega)] at hx
    have hj2 : j - es.length = 0 := by
      rcases Nat.lt_or_ge (j - es.length) 1 with q | q
      · omega
      · rw [List.getElem?_eq_none (by simpa using q)] at hx; cases hx
    rw [hj2] at hx
    cases hx
    have e : j = es.length := by omega
    rw [e]
    exact ⟨ha, hb⟩
/-- what a sign on the stack gives when it is closed -/
def dmp (x : Int) : tE := if x = 21 then (2, 0) else (3, x)
def rS2 (i j : Nat) : Bool := decide (i = 77 ∨ i = 78 ∨ (i = 74 ∧ (j = 22 ∨ j = 23 ∨ j = 27)))
theorem rt_close (hd : 2 ≤ d) {t : Int} {st : List Int} : ∀ (ops : List Int) (es : List tE) (D : xC), rPt D → D 74 22 = ((ops ++ st).length : Int) → stk (ops ++ st) D → D 74 27 = (dpt (ops ++ st) : Int) → rRw es D → es.length + (ops ++ st).length ≤ 2400 → (ops ++ st).length ≤ 160 → (∀ x, x ∈ ops → x ≠ 20 ∧ t ≤ tgt x) → (∀ x q, st = x :: q → x = 20 ∨ tgt x < t) →
    ∃ E, xM d 170 [mR, .inl t] D = some (0, E) ∧ E 74 22 = (st.length : Int) ∧ stk st E ∧ E 74 27 = (dpt st : Int) ∧ rRw (es ++ ops.map dmp) E ∧ xSm rS2 D E := by
  obtain ⟨d, rfl⟩ := Nat.exists_eq_add_of_le' (show 1 ≤ d by omega)
  intro ops
  have hstart : ∀ D, xM (d + 1) 170 [mR, .inl t] D = xw_X12_close d (0, [some mR, some (.inl t)], [], D) := fun D => (xm_X12_close d t D).trans (xl_X12_close_0 d t D).symm
  simp only [hstart]
  induction ops with
  | nil =>
    intro es D hP h22 hst h27 h23 hns hl _ htop
    refine ⟨D, ?_, h22, hst, h27, by rw [List.map_nil, List.append_nil]; exact h23, xSm_refl⟩
    simp only [List.nil_append] at h22 hst hl
    rw [xl_X12_close_0]
    simp only [Bool.cond_decide]
    cases st with
    | nil => rw [h22, if_pos (by decide)]
    | cons x q =>
      simp only [List.length_cons] at hl
      have e : w32 (((x :: q).length : Int) - 1) = (q.length : Int) := by
        rw [w32_id (by simp only [List.length_cons]; omega) (by simp only [List.length_cons]; omega)]
        simp only [List.length_cons]; omega
      have eix : xix (q.length : Int) 160 = true := xixz.mpr ⟨by omega, by omega⟩
      have e19 : (D 74 19).toNat = 85 := by rw [hP.2.2.2.2.2.1]; rfl
      rw [h22, if_neg (by simp only [List.length_cons]; omega), e, eix, e19, Int.toNat_natCast, hst.1]
      simp only [cond_true]
      rcases htop x q rfl with h | h
      · rw [if_pos h]
      · by_cases h20 : x = 20
        · rw [if_pos h20]
        · rw [if_neg h20, rt_tight (by omega)]
          simp only [Option.bind_some]
          rw [if_pos h]
  | cons x q ih =>
    intro es D hP h22 hst h27 h23 hns hl hops htop
    obtain ⟨hx20, hxt⟩ := hops x (List.mem_cons_self ..)
    simp only [List.cons_append, List.length_cons] at hl hns h22
    have hst : stk (x :: (q ++ st)) D := hst
    have e : w32 (((((q ++ st).length + 1 : Nat)) : Int) - 1) = ((q ++ st).length : Int) := by
      rw [w32_id (by omega) (by omega)]; omega
    have eix : xix ((q ++ st).length : Int) 160 = true := xixz.mpr ⟨by omega, by omega⟩
    have e19 : (D 74 19).toNat = 85 := by rw [hP.2.2.2.2.2.1]; rfl
    rw [xl_X12_close_0]
    simp only [Bool.cond_decide]
    rw [h22, if_neg (by omega), e, eix, e19, Int.toNat_natCast, hst.1]
    simp only [cond_true]
    rw [if_neg hx20, rt_tight (by omega)]
    simp only [Option.bind_some]
    rw [if_neg (by omega), h22, e, eix, e19, Int.toNat_natCast]
    simp only [cond_true]
    have hv : (xst D 74 22 ((q ++ st).length : Int)) 85 (q ++ st).length = x := by rw [xst_nn (by omega), hst.1]
    rw [hv]
    have hP1 : rPt (xst D 74 22 ((q ++ st).length : Int)) := rPt_same (S := rS2) hP (xSm_st xSm_refl rfl) rfl
    have h231 : (xst D 74 22 ((q ++ st).length : Int)) 74 23 = (es.length : Int) := by rw [xst_nn (by omega), h23.1]
    have hfin : ∀ (a b : Int) (E0 : xC), E0 = xst (xst (xst (xst D 74 22 ((q ++ st).length : Int)) 77 es.length a) 78 es.length b) 74 23 ((es.length + 1 : Nat) : Int) → E0 74 22 = ((q ++ st).length : Int) ∧ stk (q ++ st) E0 ∧ E0 74 27 = D 74 27 ∧ rRw (es ++ [(a, b)]) E0 ∧ xSm rS2 D E0 := by
      intro a b E0 hE
      have hsm : xSm rS2 D E0 := by
        rw [hE]
        exact xSm_st (xSm_st (xSm_st (xSm_st xSm_refl rfl) rfl) rfl) rfl
      refine ⟨?_, stk_same (n := (q ++ st).length) hst.2 (fun j hj => hsm _ _ rfl) (Nat.le_refl _), ?_, ?_, hsm⟩
      · rw [hE, xst_nn (by omega), xst_nn (by omega), xst_nn (by omega), xst_at]
      · rw [hE, xst_nn (by omega), xst_nn (by omega), xst_nn (by omega), xst_nn (by omega)]
      · exact rRw_add h23 (by rw [hE, xst_at]) (fun j hj => by rw [hE, xst_nn (by omega), xst_nn (by omega), xst_nn (by omega), xst_nn (by omega)]) (fun j hj => by rw [hE, xst_nn (by omega), xst_nn (by omega), xst_nn (by omega), xst_nn (by omega)]) (by rw [hE, xst_nn (by omega), xst_nn (by omega), xst_at]) (by rw [hE, xst_nn (by omega), xst_at])
    by_cases h21 : x = 21
    · rw [if_neg (fun h => h h21), rt_add (by omega) hP1 h231 (by omega)]
      simp only [Option.bind_some]
      obtain ⟨a1, a2, a3, a4, a5⟩ := hfin 2 0 _ rfl
      generalize (xst (xst (xst (xst D 74 22 ((q ++ st).length : Int)) 77 es.length 2) 78 es.length 0) 74 23 ((es.length + 1 : Nat) : Int)) = E0 at *
      have hd27 : D 74 27 = ((dpt (q ++ st) + 1 : Nat) : Int) := by
        rw [h27]
        show ((dpt (x :: (q ++ st)) : Nat) : Int) = _
        simp only [dpt, h21]
        rw [if_pos (Or.inr trivial)]; omega
      have hlen := len_st (q ++ st)
      have e27 : w32 (E0 74 27 - 1) = (dpt (q ++ st) : Int) := by rw [a3, hd27, w32_id (by omega) (by omega)]; omega
      rw [e27]
      obtain ⟨E, k1, k2, k3, k4, k5, k6⟩ := ih (es ++ [(2, 0)]) (xst E0 74 27 (dpt (q ++ st) : Int)) (rPt_same hP (xSm_st a5 rfl) rfl) (by rw [xst_nn (by omega), a1]) (stk_same (n := (q ++ st).length) a2 (fun j hj => by rw [xst_nn (by omega)]) (Nat.le_refl _)) (by rw [xst_at]) (rRw_same a4 (by rw [xst_nn (by omega)]) (fun j => by rw [xst_nn (by omega)]) (fun j => by rw [xst_nn (by omega)])) (by rw [List.length_append, List.length_singleton]; omega) (by omega) (fun y hy => hops y (List.mem_cons_of_mem _ hy)) htop
      exact ⟨E, k1, k2, k3, k4, by rw [List.map_cons, show dmp x = (2, 0) from if_pos h21, List.append_cons]; exact k5, xSm_trans (xSm_st a5 rfl) k6⟩
    · rw [if_pos h21, rt_add (by omega) hP1 h231 (by omega)]
      simp only [Option.bind_some]
      obtain ⟨a1, a2, a3, a4, a5⟩ := hfin 3 x _ rfl
      generalize (xst (xst (xst (xst D 74 22 ((q ++ st).length : Int)) 77 es.length 3) 78 es.length x) 74 23 ((es.length + 1 : Nat) : Int)) = E0 at *
      obtain ⟨E, k1, k2, k3, k4, k5, k6⟩ := ih (es ++ [(3, x)]) E0 (rPt_same hP a5 rfl) a1 a2 (by
        rw [a3, h27]
        show ((dpt (x :: (q ++ st)) : Nat) : Int) = _
        simp only [dpt]
        rw [if_neg (by omega)]; omega) a4 (by rw [List.length_append, List.length_singleton]; omega) (by omega) (fun y hy => hops y (List.mem_cons_of_mem _ hy)) htop
      exact ⟨E, k1, k2, k3, k4, by rw [List.map_cons, show dmp x = (3, x) from if_neg h21, List.append_cons]; exact k5, xSm_trans a5 k6⟩
end rStack
