/-! The reference reads a formula as it is told, level by level. -/
section rLevel
variable {es cw : List tE} {g : Nat → Int} {N d e i : Nat} {D E : xC} {th : List Int} {w : Int} {s : tF} {st ops : List Int}
def tmin (lv : Nat) : Int := if lv = 0 then 1 else if lv = 1 then 2 else if lv = 2 then 3 else if lv = 3 then 5 else if lv = 4 then 6 else 7
def fPre (lv : Nat) (st : List Int) : Prop := ∀ x q, st = x :: q → x = 20 ∨ tgt x < tL lv
def fNot (lv : Nat) (st : List Int) (c : Int) : Prop := 3 ≤ lv → c = 19 → ∃ x q, st = x :: q ∧ ¬ (x = 20 ∨ tgt x < 4)
def fStop (lv : Nat) (c : Int) (ops : List Int) : Prop := tJ c < tL lv ∨ (lv ≤ 2 ∧ tJ c = 4 ∧ hrl ops = true)
theorem tJ_val (c : Int) : tJ c = 0 ∨ tJ c = 1 ∨ tJ c = 2 ∨ tJ c = 4 ∨ tJ c = 5 ∨ tJ c = 6 := by
  unfold tJ
  repeat' split
  all_goals omega
theorem hrl_app {a b : List Int} (h : hrl a = true) : hrl (a ++ b) = true := by
  induction a with
  | nil => cases h
  | cons x t ih =>
    simp only [hrl, List.cons_append] at h ⊢
    by_cases h20 : x = 20
    · rw [if_pos h20] at h; cases h
    · rw [if_neg h20] at h ⊢
      by_cases h4 : 4 < tgt x
      · rw [if_pos h4] at h ⊢; exact ih h
      · rw [if_neg h4] at h ⊢; exact h
theorem hrl_skip {a b : List Int} (h : ∀ x, x ∈ a → x ≠ 20 ∧ 4 < tgt x) : hrl (a ++ b) = hrl b := by
  induction a with
  | nil => rfl
  | cons x t ih =>
    have hx := h x (List.mem_cons_self ..)
    simp only [List.cons_append, hrl]
    rw [if_neg hx.1, if_pos hx.2]
    exact ih fun y hy => h y (List.mem_cons_of_mem _ hy)
theorem hrl_low (h : fPre 2 st) : hrl st = false := by
  cases st with
  | nil => rfl
  | cons x t =>
    simp only [hrl]
    have e2 : tL 2 = 4 := rfl
    rcases h x t rfl with h | h
    · rw [if_pos h]
    · by_cases h20 : x = 20
      · rw [if_pos h20]
      · rw [if_neg h20, if_neg (by omega), decide_eq_false (by omega)]
/-- what comes of a level -/
def rRes (e : Nat) (w : Int) (g : Nat → Int) (N lv : Nat) (s : tF) (st : List Int) (es cw : List tE) (D : xC) (r : tX tF) : Prop := match r with
  | .error x => ∃ F, rBB e w D = some (0, F) ∧ F 74 2 = x.1 ∧ F 74 3 = x.2 ∧ 0 < x.1 ∧ xSm rSf D F
  | .ok s' => ∃ ops es' E, rBB e w D = wF (e + 1) w 1 none E ∧ (rFd g N s' (ops ++ st) es' E ∧ es' ++ ops.map dmp = es ++ cw) ∧ xSm rS1 D E ∧ (∀ x, x ∈ ops → x ≠ 20 ∧ tmin lv ≤ tgt x) ∧ (bnr (ops ++ st) : Int) + 1 ≤ s'.2.2 ∧ dpt (ops ++ st) ≤ 7 ∧ fStop lv (tkK g N s'.1) ops ∧ s.2.2 + 1 ≤ s'.2.2
theorem tErr_pos {k pl : Nat → Int} {i : Nat} {c : Int} (hc : 0 < c) {A : Type} : ∃ x : Int × Int, (tErr k pl i c : tX A) = .error x ∧ x.1 = (if k i = 25 then 1 else c) ∧ x.2 = pl i ∧ 0 < x.1 := by
  refine ⟨_, rfl, rfl, rfl, ?_⟩
  show 0 < (if k i = 25 then (1 : Int) else c)
  split <;> omega
theorem rRes_of {lv : Nat} {s0 : tF} {D0 : xC} {r : tX tF} (hb : rBB e w D0 = rBB e w D) (hs : xSm rS1 D0 D) (hf : s0.2.2 ≤ s.2.2) (h : rRes e w g N lv s st es cw D r) : rRes e w g N lv s0 st es cw D0 r := by
  cases r with
  | error x =>
    obtain ⟨F, k1, k2, k3, k4, k5⟩ := h
    exact ⟨F, hb.trans k1, k2, k3, k4, xSm_trans (xSm_1f hs) k5⟩
  | ok s' =>
    obtain ⟨ops, es', E, k1, k2, k3, k4, k5, k6, k7, k8⟩ := h
    exact ⟨ops, es', E, hb.trans k1, k2, xSm_trans hs k3, k4, k5, k6, k7, by omega⟩
/-- the joints of a level -/
theorem rf_join (he : 3 ≤ e) {lv dp : Nat} {f : tF → tX tF} {p : tF → List tE} {D0 : xC} (hlv : lv ≤ 4) (hs0 : rFs g N th w D0) (hdp : dpt st = dp) (hpre : fPre lv st)
    (hf : ∀ (st : List Int) (es : List tE) (s : tF) (D : xC), rFs g N th w D → rFd g N s st es D → dpt st = dp → (bnr st : Int) ≤ s.2.2 → fPre (lv + 1) st → fNot (lv + 1) st (tkK g N s.1) → rRes e w g N (lv + 1) s st es (p s) D (f s)) :
    ∀ (j : Nat) (cw : List tE) (s1 : tF) (ops : List Int) (es1 : List tE) (E : xC), rBB e w D0 = wF (e + 1) w 1 none E → (rFd g N s1 (ops ++ st) es1 E ∧ es1 ++ ops.map dmp = es ++ cw) → xSm rS1 D0 E → (∀ x, x ∈ ops → x ≠ 20 ∧ tmin lv ≤ tgt x) → (bnr (ops ++ st) : Int) + 1 ≤ s1.2.2 → dpt (ops ++ st) ≤ 7 → fStop (lv + 1) (tkK g N s1.1) ops → s.2.2 + 1 ≤ s1.2.2 →
    ((lv = 2 ∧ ((j = 1 ∧ ∀ x, x ∈ ops → 4 < tgt x) ∨ (j = 0 ∧ hrl ops = true))) ∨ (lv ≠ 2 ∧ 31 ≤ (j : Int) + s1.2.2)) → rRes e w g N lv s st es (cw ++ pJoin (tkK g N) f p lv j s1) D0 (fJoin (tkK g N) f lv j s1) := by
  intro j
  induction j with
  | zero =>
    intro cw s1 ops es1 E h1 h2 h3 h4 h5 h6 h7 h8 hJ
    obtain ⟨h2, hcw⟩ := h2
    refine ⟨ops, es1, E, h1, ⟨h2, by rw [hcw]; show es ++ cw = es ++ (cw ++ []); rw [List.append_nil]⟩, h3, h4, h5, h6, ?_, h8⟩
    have hb30 := h2.2.2.2.2.1.2.2.2
    rcases hJ with ⟨hl, hJ⟩ | ⟨hl, hJ⟩
    · subst hl
      rcases hJ with ⟨hJ, -⟩ | ⟨-, hJ⟩
      · omega
      · have e3 : tL 3 = 5 := rfl
        have e2 : tL 2 = 4 := rfl
        have hv := tJ_val (tkK g N s1.1)
        rcases h7 with h7 | h7
        · have h7 : tJ (tkK g N s1.1) < tL 3 := h7
          by_cases h : tJ (tkK g N s1.1) = 4
          · exact Or.inr ⟨by omega, h, hJ⟩
          · exact Or.inl (by omega)
        · omega
    · omega
  | succ j ih =>
    intro cw s1 ops es1 E h1 h2 h3 h4 h5 h6 h7 h8 hJ
    obtain ⟨h2, hcw⟩ := h2
    have hb30 := h2.2.2.2.2.1.2.2.2
    have hv := tJ_val (tkK g N s1.1)
    have hcase : lv = 0 ∨ lv = 1 ∨ lv = 2 ∨ lv = 3 ∨ lv = 4 := by omega
    simp only [fJoin, pJoin]
    by_cases hj : tJ (tkK g N s1.1) = tL lv
    · rw [if_pos hj, if_pos hj]
      have hne : tJ (tkK g N s1.1) ≠ 0 := by
        rw [hj]
        rcases hcase with rfl | rfl | rfl | rfl | rfl <;> decide
      have hge : ∀ x, x ∈ ops → x ≠ 20 ∧ tJ (tkK g N s1.1) ≤ tgt x := by
        intro x hx
        obtain ⟨a1, a2⟩ := h4 x hx
        refine ⟨a1, ?_⟩
        rw [hj]
        rcases hJ with ⟨hl, hJ⟩ | ⟨hl, -⟩
        · subst hl
          rcases hJ with ⟨-, hJ⟩ | ⟨hJ, -⟩
          · have := hJ x hx
            have e2 : tL 2 = 4 := rfl
            omega
          · omega
        · rcases hcase with rfl | rfl | rfl | rfl | rfl
          · exact a2
          · exact a2
          · exact absurd rfl hl
          · exact a2
          · exact a2
      have hrel : ¬ (tJ (tkK g N s1.1) = 4 ∧ hrl (ops ++ st) = true) := by
        rintro ⟨q1, q2⟩
        rw [q1] at hj
        have hl : lv = 2 := by rcases hcase with rfl | rfl | rfl | rfl | rfl <;> first | rfl | (exact absurd hj (by decide))
        subst hl
        rcases hJ with ⟨-, hJ⟩ | ⟨hl, -⟩
        · rcases hJ with ⟨-, hJ⟩ | ⟨hJ, -⟩
          · rw [hrl_skip (fun x hx => ⟨(h4 x hx).1, hJ x hx⟩), hrl_low hpre] at q2
            cases q2
          · omega
        · exact absurd rfl hl
      obtain ⟨t1, t2, t3, t4⟩ := tgt_sgc hne
      obtain ⟨F, k1, k2, k3⟩ := rf_joint (e := e) (by omega) (rFs_1 hs0 h3) h2 h5 h6 hne hge (fun x q hq => by rw [hj]; exact hpre x q hq) hrel
      have hdF : dpt (sgc (tkK g N s1.1) :: st) = dp := by
        simp only [dpt]
        rw [if_neg (by omega)]; omega
      have hbF : bnr (sgc (tkK g N s1.1) :: st) = 1 + bnr st := by
        simp only [bnr]
        rw [if_neg (by omega)]
      have hba := bnr_app ops st
      have hsF := rFs_1 hs0 (xSm_trans h3 k3)
      have hmono : tL lv < tL (lv + 1) := by rcases hcase with rfl | rfl | rfl | rfl | rfl <;> decide
      have hr := hf (sgc (tkK g N s1.1) :: st) (es1 ++ ops.map dmp) (s1.1 + 1, s1.2) F hsF k2 hdF (by
        rw [hbF]
        show ((1 + bnr st : Nat) : Int) ≤ s1.2.2
        omega) (fun x q hq => by
          cases hq
          exact Or.inr (by rw [t1, hj]; exact hmono)) (fun hl _ => ⟨_, _, rfl, by
          rintro (q | q)
          · exact t3 q
          · rw [t1, hj] at q
            rcases hcase with rfl | rfl | rfl | rfl | rfl
            · omega
            · omega
            · exact absurd q (by decide)
            · exact absurd q (by decide)
            · exact absurd q (by decide)⟩)
      cases hfs : f (s1.1 + 1, s1.2) with
      | error x =>
        rw [hfs] at hr
        obtain ⟨F2, a1, a2, a3, a4, a5⟩ := hr
        exact ⟨F2, h1.trans (k1.trans a1), a2, a3, a4, xSm_trans (xSm_1f (xSm_trans h3 k3)) a5⟩
      | ok s2 =>
        rw [hfs] at hr
        obtain ⟨ops2, es2, E2, a1, ⟨a2, acw⟩, a3, a4, a5, a6, a7, a8⟩ := hr
        have happ : ops2 ++ sgc (tkK g N s1.1) :: st = (ops2 ++ [sgc (tkK g N s1.1)]) ++ st := by simp
        rw [happ] at a2 a5 a6
        have a8 : s1.2.2 + 1 ≤ s2.2.2 := a8
        have hsg : dmp (sgc (tkK g N s1.1)) = (3, tSg (tkK g N s1.1)) := if_neg t4
        have hcw2 : es2 ++ (ops2 ++ [sgc (tkK g N s1.1)]).map dmp = es ++ (cw ++ (p (s1.1 + 1, s1.2) ++ [(3, tSg (tkK g N s1.1))])) := by
          rw [List.map_append, ← List.append_assoc, acw, hcw, List.map_cons, List.map_nil, hsg]
          simp only [List.append_assoc]
        show rRes e w g N lv s st es (cw ++ (p (s1.1 + 1, s1.2) ++ (3, tSg (tkK g N s1.1)) :: pJoin (tkK g N) f p lv j s2)) D0 (fJoin (tkK g N) f lv j s2)
        rw [show cw ++ (p (s1.1 + 1, s1.2) ++ (3, tSg (tkK g N s1.1)) :: pJoin (tkK g N) f p lv j s2) = (cw ++ (p (s1.1 + 1, s1.2) ++ [(3, tSg (tkK g N s1.1))])) ++ pJoin (tkK g N) f p lv j s2 by simp only [List.append_assoc, List.cons_append, List.nil_append]]
        refine ih _ s2 (ops2 ++ [sgc (tkK g N s1.1)]) es2 E2 (h1.trans (k1.trans a1)) ⟨a2, hcw2⟩ (xSm_trans h3 (xSm_trans k3 a3)) ?_ a5 a6 ?_ (by omega) ?_
        · intro x hx
          rcases List.mem_append.mp hx with hx | hx
          · refine ⟨(a4 x hx).1, ?_⟩
            have := (a4 x hx).2
            have hm : tmin lv ≤ tmin (lv + 1) := by rcases hcase with rfl | rfl | rfl | rfl | rfl <;> decide
            omega
          · rw [List.mem_singleton] at hx
            rw [hx]
            refine ⟨t3, ?_⟩
            rw [t1, hj]
            rcases hcase with rfl | rfl | rfl | rfl | rfl <;> decide
        · rcases a7 with a7 | ⟨b1, b2, b3⟩
          · exact Or.inl a7
          · exact Or.inr ⟨b1, b2, hrl_app b3⟩
        · rcases hJ with ⟨hl, hJ⟩ | ⟨hl, hJ⟩
          · refine Or.inl ⟨hl, Or.inr ?_⟩
            subst hl
            rcases hJ with ⟨hJ, -⟩ | ⟨hJ, -⟩
            · refine ⟨by omega, ?_⟩
              rw [hrl_skip (fun x hx => ⟨(a4 x hx).1, by
                have := (a4 x hx).2
                have e3 : tmin (2 + 1) = 5 := rfl
                omega⟩)]
              simp only [hrl]
              have e2 : tL 2 = 4 := rfl
              rw [if_neg t3, if_neg (by omega), decide_eq_true (by omega)]
            · omega
          · exact Or.inr ⟨hl, by omega⟩
    · rw [if_neg hj, if_neg hj]
      refine ⟨ops, es1, E, h1, ⟨h2, by rw [hcw, List.append_nil]⟩, h3, h4, h5, h6, ?_, h8⟩
      rcases h7 with h7 | ⟨b1, b2, b3⟩
      · refine Or.inl ?_
        generalize tJ (tkK g N s1.1) = t at *
        rcases hcase with rfl | rfl | rfl | rfl | rfl
        · have e0 : tL 0 = 1 := rfl
          have e1 : tL (0 + 1) = 2 := rfl
          omega
        · have e0 : tL 1 = 2 := rfl
          have e1 : tL (1 + 1) = 4 := rfl
          omega
        · have e0 : tL 2 = 4 := rfl
          have e1 : tL (2 + 1) = 5 := rfl
          omega
        · have e0 : tL 3 = 5 := rfl
          have e1 : tL (3 + 1) = 6 := rfl
          omega
        · have e0 : tL 4 = 6 := rfl
          have e1 : tL (4 + 1) = 7 := rfl
          omega
      · exact Or.inr ⟨by omega, b2, b3⟩
end rLevel
