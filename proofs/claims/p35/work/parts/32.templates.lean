/-! What matches a template says what it says; a contract used. -/
section yTmpl
variable {b sz : Nat} {sr : List Nat} {tt : List yKd} {D : va_G} {ca : Nat → ClassId} {ws ws1 : va_W} {v u : List Int} {st : yS} {sg : List yE}
/-- what the template's names are -/
def yvt (v : List Int) (sg : List yE) : List Int := sg.map fun e => (yev v e).getD 0
def ySgOk (v : List Int) (sg : List yE) : Prop := ∀ e ∈ sg, ∃ z, yev v e = some z
theorem yvt_at (h : ySgOk v sg) {i : Nat} {e : yE} (hi : zget sg i = some e) : ∃ z, yev v e = some z ∧ (yvt v sg)[i]? = some z := by
  rw [zget_eq] at hi
  obtain ⟨z, hz⟩ := h e (List.mem_of_getElem? hi)
  exact ⟨z, hz, by simp [yvt, hi, hz]⟩
theorem ysuT_ok (h : ySgOk v sg) {l : yT} : ∀ {r : yE}, ysuT sg l = some r → ∃ z, yev v r = some z ∧ yevT (yvt v sg) l = some z := by
  induction l with
  | nil => intro r hr; cases hr; exact ⟨0, yev_cn v 0, rfl⟩
  | cons p t ih =>
    intro r hr
    obtain ⟨i, c⟩ := p
    have hr : (match zget sg i with
      | some e => match ysuT sg t with
        | some r => some (yad (ysc c e) r)
        | none => none
      | none => none) = some r := hr
    split at hr
    · rename_i e he
      split at hr
      · rename_i r1 hr1
        cases hr
        obtain ⟨z1, g1, g2⟩ := yvt_at h he
        obtain ⟨z2, g3, g4⟩ := ih hr1
        exact ⟨c * z1 + z2, yad_ok (ysc_ok g1) g3, yevT_cons.mpr ⟨z1, z2, g2, g4, rfl⟩⟩
      · cases hr
    · cases hr
theorem ysuE_ok (h : ySgOk v sg) {e r : yE} (hr : ysuE sg e = some r) : ∃ z, yev v r = some z ∧ yev (yvt v sg) e = some z := by
  unfold ysuE at hr
  split at hr
  · rename_i r1 hr1
    cases hr
    obtain ⟨z, g1, g2⟩ := ysuT_ok h hr1
    exact ⟨z + e.2, yoff_ok g1, yev_iff.mpr ⟨z, g2, rfl⟩⟩
  · cases hr
theorem yids_ok {n : Nat} (hn : v.length = n) : ∀ {sg : List yE}, yids n sg = true → ySgOk v sg := by
  have hT : ∀ {l : yT}, yidsT n l = true → ∃ z, yevT v l = some z := by
    intro l
    induction l with
    | nil => intro _; exact ⟨0, rfl⟩
    | cons p t ih =>
      intro h
      have h : (Nat.blt p.1 n && yidsT n t) = true := h
      rw [Bool.and_eq_true, Nat.blt_eq] at h
      obtain ⟨r, hr⟩ := ih h.2
      exact ⟨p.2 * v[p.1] + r, yevT_cons.mpr ⟨_, r, List.getElem?_eq_getElem (by omega), hr, rfl⟩⟩
  intro sg
  induction sg with
  | nil => intro _ e he; cases he
  | cons a t ih =>
    intro h e he
    have h : (yidsT n a.1 && yids n t) = true := h
    rw [Bool.and_eq_true] at h
    rcases List.mem_cons.mp he with rfl | he
    · obtain ⟨z, hz⟩ := hT h.1
      exact ⟨z + e.2, yev_iff.mpr ⟨z, hz, rfl⟩⟩
    · exact ih h.2 e he
theorem yequ_ok {a c : yE} {x y : Int} (hR : yRS v st) (h : yequ st a c = true) (hx : yev v a = some x) (hy : yev v c = some y) : x = y := by
  unfold yequ at h
  rw [Bool.or_eq_true, Bool.and_eq_true] at h
  rcases h with h | h
  · rw [yeq_ok h, hy] at hx; exact (Option.some.inj hx).symm
  · have := ylS_ok h.1 hR (ysu_ok hx hy)
    have := ylS_ok h.2 hR (ysu_ok hy hx)
    omega
theorem ychE_ok {e f : yE} {y : Int} (hs : ySgOk v sg) (hR : yRS v st) (h : ychE st sg e f = true) (hy : yev v f = some y) : yev (yvt v sg) e = some y := by
  unfold ychE at h
  split at h
  · rename_i e1 he
    obtain ⟨z, g1, g2⟩ := ysuE_ok hs he
    rw [g2, yequ_ok hR h g1 hy]
  · cases h
theorem ychA_ok {a x : yA} {w : Value} (hs : ySgOk v sg) (hR : yRS v st) (h : ychA st sg a x = true) (hx : yV b sz sr v x w) : yV b sz sr (yvt v sg) a w := by
  unfold ychA at h
  split at h
  · split at h
    · obtain ⟨y, rfl, hy⟩ := hx
      exact ⟨y, rfl, ychE_ok hs hR h hy⟩
    · cases h
  · split at h
    · obtain ⟨y, rfl, hy⟩ := hx
      exact ⟨y, rfl, ychE_ok hs hR h hy⟩
    · cases h
  · split at h
    · rw [Bool.and_eq_true] at h
      obtain ⟨i, rfl, hi, hsr⟩ := hx
      exact ⟨i, rfl, ychE_ok hs hR h.2 hi, by rw [Nat.eq_of_beq_eq_true h.1]; exact hsr⟩
    · cases h
  · cases h
  · split at h
    · exact hx
    · cases h
theorem ychL_ok (hs : ySgOk v sg) (hR : yRS v st) : ∀ {l xs : List yA} {vs : List Value}, ychL st sg l xs = true → ySR b sz sr v xs vs → ySR b sz sr (yvt v sg) l vs := by
  intro l
  induction l with
  | nil =>
    intro xs vs h hx
    cases xs with
    | nil => rw [ySR_nil hx]; trivial
    | cons a t => cases h
  | cons a l ih =>
    intro xs vs h hx
    cases xs with
    | nil => cases h
    | cons x xs =>
      have h : (ychA st sg a x && ychL st sg l xs) = true := h
      rw [Bool.and_eq_true] at h
      obtain ⟨w, t, rfl, h1, h2⟩ := ySR_cons hx
      exact ⟨ychA_ok hs hR h.1 h1, ih h.2 h2⟩
theorem ychO_ok (hs : ySgOk v sg) (hR : yRS v st) {ls : Array Slot} {nL : Nat} : ∀ {l xs : List (Option yA)}, ychO st sg l xs = true → l.length = xs.length ∧ ∀ (i : Nat) (a : yA), zget l i = some (some a) → ∃ x, zget xs i = some (some x) ∧ ychA st sg a x = true := by
  intro l
  induction l with
  | nil =>
    intro xs h
    cases xs with
    | nil => exact ⟨rfl, fun i a hi => by simp [zget_eq] at hi⟩
    | cons a t => cases h
  | cons a0 l ih =>
    intro xs h
    cases xs with
    | nil => cases h
    | cons x xs =>
      cases a0 with
      | none =>
        have h : (true && ychO st sg l xs) = true := h
        rw [Bool.and_eq_true] at h
        obtain ⟨h1, h2⟩ := ih h.2
        refine ⟨by simp [h1], fun i a hi => ?_⟩
        cases i with
        | zero => cases hi
        | succ i => exact h2 i a hi
      | some a1 =>
        cases x with
        | none =>
          have h : (false && ychO st sg l xs) = true := h
          cases h
        | some x1 =>
          have h : (ychA st sg a1 x1 && ychO st sg l xs) = true := h
          rw [Bool.and_eq_true] at h
          obtain ⟨h1, h2⟩ := ih h.2
          refine ⟨by simp [h1], fun i a hi => ?_⟩
          cases i with
          | zero =>
            have hi : some (some a1) = some (some a) := hi
            cases hi
            exact ⟨x1, rfl, h.1⟩
          | succ i => exact h2 i a hi
theorem yLR_tpl {ls : Array Slot} {nL : Nat} {l xs : List (Option yA)} (hs : ySgOk v sg) (hR : yRS v st) (h : ychO st sg l xs = true) (hL : yLR b sz sr v ls nL xs) : yLR b sz sr (yvt v sg) ls nL l := by
  obtain ⟨h1, h2⟩ := ychO_ok (ls := ls) (nL := nL) hs hR h
  obtain ⟨e1, lv, e2, e3⟩ := hL
  refine ⟨by rw [h1, e1], lv, e2, fun i a hi => ?_⟩
  obtain ⟨x, g1, g2⟩ := h2 i a hi
  obtain ⟨w, g3, g4⟩ := e3 i x g1
  exact ⟨w, ychA_ok hs hR g2 g3, g4⟩
theorem ychB_ok (hs : ySgOk v sg) (hR : yRS v st) : ∀ {l : yBd}, ychB st sg l = true → yRB (yvt v sg) l := by
  intro l
  induction l with
  | nil => intro _ q hq; cases hq
  | cons q0 t ih =>
    intro h q hq
    have h : ((match zget sg q0.1 with
      | some e => ylS st (yoff e (-q0.2.2)) && ylS st (yoff (ysu ([], 0) e) q0.2.1)
      | none => false) && ychB st sg t) = true := h
    rw [Bool.and_eq_true] at h
    rcases List.mem_cons.mp hq with rfl | hq
    · have h1 := h.1
      split at h1
      · rename_i e he
        rw [Bool.and_eq_true] at h1
        obtain ⟨z, g1, g2⟩ := yvt_at hs he
        have := ylS_ok h1.1 hR (yoff_ok g1)
        have := ylS_ok h1.2 hR (yoff_ok (y_neg g1))
        exact ⟨z, g2, by omega, by omega⟩
      · cases h1
    · exact ih h.2 q hq
theorem ychF_ok (hs : ySgOk v sg) (hR : yRS v st) : ∀ {l : List yE}, ychF st sg l = true → yRF (yvt v sg) l := by
  intro l
  induction l with
  | nil => intro _ q hq; cases hq
  | cons q0 t ih =>
    intro h q hq
    have h : ((match ysuE sg q0 with
      | some e => ylS st e
      | none => false) && ychF st sg t) = true := h
    rw [Bool.and_eq_true] at h
    rcases List.mem_cons.mp hq with rfl | hq
    · have h1 := h.1
      split at h1
      · rename_i e he
        obtain ⟨z, g1, g2⟩ := ysuE_ok hs he
        exact ⟨z, g2, ylS_ok h1 hR g1⟩
      · cases h1
    · exact ih h.2 q hq
theorem ychM_ok (hs : ySgOk v sg) (hR : yRS v st) (hM : ∀ q ∈ st.2.2.2.2.1, yMk b sz sr v ws q) : ∀ {l : yM}, ychM st sg l = true → ∀ q ∈ l, yMk b sz sr (yvt v sg) ws q := by
  intro l
  induction l with
  | nil => intro _ q hq; cases hq
  | cons q0 t ih =>
    intro h q hq
    have h : ((match ysuE sg q0.1.1 with
      | some e => match ysuE sg q0.1.2.2 with
        | some ix => match ylk e q0.1.2.1 ix st.2.2.2.2.1 with
          | some x => ychA st sg q0.2 x
          | none => false
        | none => false
      | none => false) && ychM st sg t) = true := h
    rw [Bool.and_eq_true] at h
    rcases List.mem_cons.mp hq with rfl | hq
    · have h1 := h.1
      split at h1
      · rename_i e he
        split at h1
        · rename_i ix hix
          split at h1
          · rename_i x hx
            obtain ⟨z, g1, g2⟩ := ysuE_ok hs he
            obtain ⟨y, g3, g4⟩ := ysuE_ok hs hix
            obtain ⟨i, j, cl, w, k1, k2, k3, k4, k5, k6⟩ := ylk_ok hx hM
            rw [g1] at k1
            rw [g3] at k3
            cases k1
            cases k3
            exact ⟨i, j, cl, w, g2, k2, g4, k4, k5, ychA_ok hs hR h1 k6⟩
          · cases h1
        · cases h1
      · cases h1
    · exact ih h.2 q hq
theorem yfnP_ok {e n lo hi : yE} {t : Nat} : ∀ {l : yP}, yfnP st e t n lo hi l = true → ∃ q ∈ l, q.1.2 = t ∧ q.1.1 = e ∧ ylS st (ysu n q.2.1) = true ∧ ylS st (ysu lo q.2.2.1) = true ∧ ylS st (ysu q.2.2.2 hi) = true := by
  intro l
  induction l with
  | nil => intro h; cases h
  | cons q0 t2 ih =>
    intro h
    have h : ((Nat.beq q0.1.2 t && (yeq q0.1.1 e && (ylS st (ysu n q0.2.1) && (ylS st (ysu lo q0.2.2.1) && ylS st (ysu q0.2.2.2 hi))))) || yfnP st e t n lo hi t2) = true := h
    rw [Bool.or_eq_true] at h
    rcases h with h | h
    · simp only [Bool.and_eq_true] at h
      exact ⟨q0, List.mem_cons_self, Nat.eq_of_beq_eq_true h.1, yeq_ok h.2.1, h.2.2⟩
    · obtain ⟨q, g1, g2⟩ := ih h
      exact ⟨q, List.mem_cons_of_mem _ g1, g2⟩
theorem yfnG_ok {n lo hi : yE} {t : Nat} : ∀ {l : yP}, yfnG st t n lo hi l = true → ∃ q ∈ l, q.1.2 = t ∧ yequ st q.2.1 n = true ∧ yequ st q.2.2.1 lo = true ∧ yequ st q.2.2.2 hi = true := by
  intro l
  induction l with
  | nil => intro h; cases h
  | cons q0 t2 ih =>
    intro h
    have h : ((Nat.beq q0.1.2 t && (yequ st q0.2.1 n && (yequ st q0.2.2.1 lo && yequ st q0.2.2.2 hi))) || yfnG st t n lo hi t2) = true := h
    rw [Bool.or_eq_true] at h
    rcases h with h | h
    · simp only [Bool.and_eq_true] at h
      exact ⟨q0, List.mem_cons_self, Nat.eq_of_beq_eq_true h.1, h.2.1, h.2.2.1, h.2.2.2⟩
    · obtain ⟨q, g1, g2⟩ := ih h
      exact ⟨q, List.mem_cons_of_mem _ g1, g2⟩
theorem ysuG_ok {n lo hi : yE} : ∀ {l : yP}, ysuG st n lo hi l = true → ∃ q ∈ l, q.1.2 = 920 ∧ yequ st q.2.1 n = true ∧ ylS st (ysu q.2.2.1 lo) = true ∧ ylS st (ysu hi q.2.2.2) = true := by
  intro l
  induction l with
  | nil => intro h; cases h
  | cons q0 t2 ih =>
    intro h
    have h : ((Nat.beq q0.1.2 920 && (yequ st q0.2.1 n && (ylS st (ysu q0.2.2.1 lo) && ylS st (ysu hi q0.2.2.2)))) || ysuG st n lo hi t2) = true := h
    rw [Bool.or_eq_true] at h
    rcases h with h | h
    · simp only [Bool.and_eq_true] at h
      exact ⟨q0, List.mem_cons_self, Nat.eq_of_beq_eq_true h.1, h.2.1, h.2.2.1, h.2.2.2⟩
    · obtain ⟨q, g1, g2⟩ := ih h
      exact ⟨q, List.mem_cons_of_mem _ g1, g2⟩
theorem yatG_ok {n a m : yE} : ∀ {l : yP}, yatG st n a m l = true → ∃ q ∈ l, q.1.2 = 920 ∧ yequ st (yoff q.2.1 1) n = true ∧ ylS st (ysu ([], 0) q.2.1) = true ∧ ylS st (ysu q.2.2.1 a) = true ∧ ylS st (yoff (ysu a q.2.2.2) 1) = true ∧ ylS st (ysu q.2.2.2 m) = true := by
  intro l
  induction l with
  | nil => intro h; cases h
  | cons q0 t2 ih =>
    intro h
    have h : ((Nat.beq q0.1.2 920 && (yequ st (yoff q0.2.1 1) n && (ylS st (ysu ([], 0) q0.2.1) && (ylS st (ysu q0.2.2.1 a) && (ylS st (yoff (ysu a q0.2.2.2) 1) && ylS st (ysu q0.2.2.2 m)))))) || yatG st n a m t2) = true := h
    rw [Bool.or_eq_true] at h
    rcases h with h | h
    · simp only [Bool.and_eq_true] at h
      exact ⟨q0, List.mem_cons_self, Nat.eq_of_beq_eq_true h.1, h.2.1, h.2.2.1, h.2.2.2.1, h.2.2.2.2.1, h.2.2.2.2.2⟩
    · obtain ⟨q, g1, g2⟩ := ih h
      exact ⟨q, List.mem_cons_of_mem _ g1, g2⟩
theorem yupG_ok {n lo hi : yE} : ∀ {M : yM}, yupG st n lo hi M = true → ∃ p ∈ M, ∃ a, p.2 = .inl a ∧ p.1.2.1 = 99 ∧ yequ st hi (yoff p.1.2.2 1) = true ∧ yatG st n a p.1.2.2 st.2.2.2.2.2 = true ∧ (ylS st (ysu p.1.2.2 lo) = true ∨ ysuG st n lo p.1.2.2 st.2.2.2.2.2 = true) := by
  intro M
  induction M with
  | nil => intro h; cases h
  | cons p0 t2 ih =>
    intro h
    have h : ((match p0.2 with
      | .inl a => Nat.beq p0.1.2.1 99 && (yequ st hi (yoff p0.1.2.2 1) && (yatG st n a p0.1.2.2 st.2.2.2.2.2 && (ylS st (ysu p0.1.2.2 lo) || ysuG st n lo p0.1.2.2 st.2.2.2.2.2)))
      | _ => false) || yupG st n lo hi t2) = true := h
    rw [Bool.or_eq_true] at h
    rcases h with h | h
    · split at h
      · rename_i a ha
        simp only [Bool.and_eq_true, Bool.or_eq_true] at h
        exact ⟨p0, List.mem_cons_self, a, ha, Nat.eq_of_beq_eq_true h.1, h.2.1, h.2.2.1, h.2.2.2⟩
      · cases h
    · obtain ⟨q, g1, g2⟩ := ih h
      exact ⟨q, List.mem_cons_of_mem _ g1, g2⟩
theorem yDpG_ok {n lo hi : yE} {zn zl zh : Int} (hT : yT9 sr) (hR : yRS v st) (hM : ∀ q ∈ st.2.2.2.2.1, yMk b sz sr v ws q) (hQ : ∀ q ∈ st.2.2.2.2.2, yPk sr v ws q) (h3 : yDpG st n lo hi = true) (hn : yev v n = some zn) (hl : yev v lo = some zl) (hh : yev v hi = some zh) : gDEP (yKo sr ws 99) zn.toNat zl zh := by
  show gDEP (yKo sr ws 99) zn.toNat zl zh
  unfold yDpG at h3
  simp only [Bool.or_eq_true, Bool.and_eq_true] at h3
  have sub : ∀ hi zh, yev v hi = some zh → ysuG st n lo hi st.2.2.2.2.2 = true → gDEP (yKo sr ws 99) zn.toNat zl zh := by
    intro hi zh hh c
    obtain ⟨q, g1, g2, g3, g4, g5⟩ := ysuG_ok c
    obtain ⟨i, n2, l2, h2, k1, k2, k3, k4, -, k6⟩ := hQ q g1
    rw [g2, yequ_ok hR g3 k2 hn] at k6
    have := ylS_ok g4 hR (ysu_ok k3 hl)
    have := ylS_ok g5 hR (ysu_ok hh k4)
    have k6 : gDEP (yKo sr ws 99) zn.toNat l2 h2 := k6
    exact fun k e1 e2 => k6 k (by omega) (by omega)
  rcases h3 with c | ⟨c1, c2⟩ | c | c
  · have := ylS_ok c hR (ysu_ok hh hl)
    exact gDEP_none (by omega)
  · have e := yequ_ok hR c1 hn (yev_cn v 0)
    have := ylS_ok c2 hR (y_neg hl)
    intro k k1 k2
    rw [show zn.toNat = 0 by omega]
    show 0 ≤ k
    omega
  · exact sub hi zh hh c
  · obtain ⟨p, p1, a, p2, p3, p4, p5, p6⟩ := yupG_ok c
    obtain ⟨i, j, cl, w, m1, m2, m3, m4, m5, m6⟩ := hM p p1
    rw [p2] at m6
    obtain ⟨x, rfl, hx⟩ := m6
    have ehi := yequ_ok hR p4 hh (yoff_ok m3)
    have hidx := yiw_one hT (t := 99) (by decide) (show sr[i]? = some 99 by rw [← p3]; exact m2)
    have hK : yKo sr ws 99 j = x.toInt := by
      unfold yKo
      rw [hidx, m4]
      dsimp only
      rw [m5]
    obtain ⟨q, q1, q2, q3, q4, q5, q6, q7⟩ := yatG_ok p5
    obtain ⟨i2, n2, l2, h2, k1, k2, k3, k4, -, k6⟩ := hQ q q1
    rw [q2] at k6
    have k6 : gDEP (yKo sr ws 99) n2.toNat l2 h2 := k6
    have en := yequ_ok hR q3 (yoff_ok k2) hn
    have b0 := ylS_ok q4 hR (y_neg k2)
    have b1 := ylS_ok q5 hR (ysu_ok k3 hx)
    have b2 := ylS_ok q6 hR (yoff_ok (ysu_ok hx k4))
    have b3 := ylS_ok q7 hR (ysu_ok k4 m3)
    have up := gDp_up (f := yKo sr ws 99) (g := yKo sr ws 99) (m := j) (fun _ _ => rfl) k6 (by omega) (by omega) (by omega) hK
    rw [show n2.toNat + 1 = zn.toNat by omega] at up
    intro k e1 e2
    by_cases hk : k = (j : Int)
    · rw [hk]; exact up
    · rcases p6 with p6 | p6
      · have := ylS_ok p6 hR (ysu_ok m3 hl)
        omega
      · exact sub _ _ m3 p6 k e1 (by omega)
theorem yanyG {t : Nat} {F : (yE × Nat) × yE × yE × yE → Bool} (hQ : ∀ q ∈ st.2.2.2.2.2, yPk sr v ws q) (h : yany (fun q => Nat.beq q.1.2 t && F q) st.2.2.2.2.2 = true) : ∃ (q : (yE × Nat) × yE × yE × yE) (n lo hi : Int), F q = true ∧ yev v q.2.1 = some n ∧ yev v q.2.2.1 = some lo ∧ yev v q.2.2.2 = some hi ∧ yGh t n lo hi (yKo sr ws) := by
  obtain ⟨q, q1, q2⟩ := yany_ok h
  rw [Bool.and_eq_true] at q2
  obtain ⟨n, lo, hi, k2, k3, k4, g⟩ := ygh_at (hQ q q1) q2.1
  exact ⟨q, n, lo, hi, q2.2, k2, k3, k4, g⟩
/-- what stands at a place that is known, the place as it is asked for -/
theorem yfKe_at {t : Nat} {ix a : yE} {h0 : Int} (h9 : yT9 sr) (ht : t ∈ yOne) (h : yfKe t ix st.2.2.2.2.1 = some a) (hM : ∀ q ∈ st.2.2.2.2.1, yMk b sz sr v ws q) (hix : yev v ix = some h0) : 0 ≤ h0 ∧ yev v a = some (yKo sr ws t h0.toNat) := by
  obtain ⟨j, z, g1, g2, g3⟩ := yfKe_ok h9 ht h hM
  rw [hix] at g1
  have g1 := Option.some.inj g1
  refine ⟨by omega, ?_⟩
  rw [show h0.toNat = j by omega, g3]
  exact g2
theorem yOpG_ok {n lo hi : yE} {zn zl zh : Int} (h9 : yT9 sr) (hR : yRS v st) (hM : ∀ q ∈ st.2.2.2.2.1, yMk b sz sr v ws q) (hQ : ∀ q ∈ st.2.2.2.2.2, yPk sr v ws q) (h : yOpG st n lo hi = true) (hn : yev v n = some zn) (hl : yev v lo = some zl) (hh : yev v hi = some zh) : gOPEN (yKo sr ws 74) zn zl zh := by
  unfold yOpG at h
  rw [Bool.or_eq_true] at h
  rcases h with h | h
  · simp only [Bool.and_eq_true] at h
    have e1 := yequ_ok hR h.1 hn (yev_cn v 0)
    have e2 := yequ_ok hR h.2.1 hl (yev_cn v 0)
    have e3 := yequ_ok hR h.2.2 hh (yev_cn v 0)
    subst e1; subst e2; subst e3
    exact gOPEN_none
  · obtain ⟨q, n0, b0, h0, h, k2, k3, k4, g⟩ := yanyG hQ h
    have g : gOPEN (yKo sr ws 74) n0 b0 h0 := g
    rw [Bool.and_eq_true] at h
    obtain ⟨h1, h⟩ := h
    have e1 := yequ_ok hR h1 hh (yoff_ok k4)
    split at h
    · rename_i x hx
      obtain ⟨p0, p1⟩ := yfKe_at h9 (by decide) hx hM k4
      obtain ⟨u1, u2, u3⟩ := gOPEN_up g
      simp only [Bool.or_eq_true, Bool.and_eq_true] at h
      rcases h with ⟨c1, c2, c3⟩ | ⟨c1, c2, c3⟩ | ⟨c1, c2, c3⟩
      · have d1 := yequ_ok hR c1 p1 (yev_cn v 20)
        have d2 := yequ_ok hR c2 hn k2
        have d3 := yequ_ok hR c3 hl (yoff_ok k3)
        rw [e1, d2, d3]
        exact u1 d1
      · have d1 := yequ_ok hR c1 p1 (yev_cn v 21)
        have d2 := yequ_ok hR c2 hn k2
        have d3 := yequ_ok hR c3 hl k3
        rw [e1, d2, d3]
        exact u2 d1
      · have d2 := yequ_ok hR c2 hn (yoff_ok k2)
        have d3 := yequ_ok hR c3 hl k3
        rw [e1, d2, d3]
        rcases c1 with c1 | c1
        · have := ylS_ok c1 hR (yoff_ok p1)
          exact u3 (by omega) (by omega)
        · have := ylS_ok c1 hR (yoff_ok (y_neg p1))
          exact u3 (by omega) (by omega)
    · cases h
theorem yCuG_ok {n lo hi : yE} {zn zl zh : Int} (h9 : yT9 sr) (hR : yRS v st) (hM : ∀ q ∈ st.2.2.2.2.1, yMk b sz sr v ws q) (hQ : ∀ q ∈ st.2.2.2.2.2, yPk sr v ws q) (h : yCuG st n lo hi = true) (hn : yev v n = some zn) (hl : yev v lo = some zl) (hh : yev v hi = some zh) : gCU (yKo sr ws 66) (yKo sr ws 67) zn zl zh := by
  unfold yCuG at h
  rw [Bool.or_eq_true] at h
  rcases h with h | h
  · simp only [Bool.and_eq_true] at h
    have e1 := yequ_ok hR h.1 hn (yev_cn v 0)
    have e2 := yequ_ok hR h.2.1 hl hh
    have e3 := ylS_ok h.2.2 hR (y_neg hl)
    subst e1; subst e2
    exact gCU_begin (by omega)
  · obtain ⟨q, n0, l0, h0, h, k2, k3, k4, g⟩ := yanyG hQ h
    have g : gCU (yKo sr ws 66) (yKo sr ws 67) n0 l0 h0 := g
    simp only [Bool.and_eq_true] at h
    obtain ⟨h1, h2, h⟩ := h
    have e1 := yequ_ok hR h1 hh (yoff_ok k4)
    have e2 := yequ_ok hR h2 hl k3
    split at h
    · rename_i s hs
      split at h
      · rename_i x hx
        obtain ⟨p0, p1⟩ := yfKe_at h9 (by decide) hs hM k4
        obtain ⟨-, p2⟩ := yfKe_at h9 (by decide) hx hM k4
        rw [e1, e2]
        refine gCU_grow g ?_
        unfold gNx
        simp only [Bool.or_eq_true, Bool.and_eq_true] at h
        rcases h with ⟨c1, c2, c3⟩ | ⟨c1, c2, c3, c4, c5⟩ | ⟨c1, c2, c3⟩ | ⟨c1, c2, c3⟩
        · have d1 := yequ_ok hR c1 p1 (yev_cn v 0)
          have d2 := ylS_ok c2 hR (yoff_ok k2)
          have d3 := yequ_ok hR c3 hn (yoff_ok k2)
          rw [if_pos d1, if_pos (by omega), d3]
        · have d1 := yequ_ok hR c1 p1 (yev_cn v 1)
          have d2 := ylS_ok c2 hR (yoff_ok k2)
          have d3 := ylS_ok c3 hR (y_neg p2)
          have d4 := ylS_ok c4 hR (yoff_ok p2)
          have d5 := yequ_ok hR c5 hn (yoff_ok k2)
          rw [if_neg (by omega), if_pos d1, if_pos ⟨by omega, by omega, by omega⟩, d5]
        · have d1 := yequ_ok hR c1 p1 (yev_cn v 2)
          have d2 := ylS_ok c2 hR (yoff_ok (y_neg k2))
          have d3 := yequ_ok hR c3 hn k2
          rw [if_neg (by omega), if_neg (by omega), if_pos d1, if_pos (by omega), d3]
        · have d1 := ylS_ok c1 hR (yoff_ok (y_neg p1))
          have d2 := ylS_ok c2 hR (yoff_ok (y_neg k2))
          have d3 := yequ_ok hR c3 hn (yoff_ok k2)
          rw [if_neg (by omega), if_neg (by omega), if_neg (by omega), if_pos (by omega), d3]
          rfl
      · cases h
    · cases h
theorem yGcm_ok {eb ea ec : yE} {zb za zc : Int} (h9 : yT9 sr) (hR : yRS v st) (hM : ∀ q ∈ st.2.2.2.2.1, yMk b sz sr v ws q) (h : yGcm st eb ea ec = true) (hb : yev v eb = some zb) (ha : yev v ea = some za) (hc : yev v ec = some zc) : ∀ f : Nat, gUsN (yKo sr ws) f → za ≤ (f : Int) → (f : Int) < zc → (f : Int) < zb := by
  unfold yGcm at h
  rw [Bool.or_eq_true] at h
  rcases h with h | h
  · have := ylS_ok h hR (ysu_ok hc hb)
    intro f _ _ q
    omega
  · obtain ⟨p, p1, p2⟩ := yany_ok h
    rw [Bool.and_eq_true] at p2
    obtain ⟨p2, p3⟩ := p2
    obtain ⟨⟨cx, tx, ix⟩, vx⟩ := p
    have e : tx = 81 := Nat.eq_of_beq_eq_true p2
    subst e
    split at p3
    · rename_i s hs
      have hs : vx = .inl s := hs
      subst hs
      simp only [Bool.and_eq_true] at p3
      obtain ⟨c1, c2, c3, c4, c5⟩ := p3
      obtain ⟨j, z, g1, g2, g3⟩ := yMk_K h9 (by decide) (hM _ p1)
      have d1 := yequ_ok hR c1 ha (ysc_ok (c := 5) g1)
      have d2 := ylS_ok c2 hR (yoff_ok (ysu_ok hc (ysc_ok (c := 5) g1)))
      have d3 := ylS_ok c3 hR (ysu_ok (yoff_ok (yad_ok (ysc_ok (c := 5) g1) g2)) hb)
      have d4 := ylS_ok c4 hR (ysu_ok (yoff_ok (ysc_ok (c := 5) g1)) hb)
      have d5 := ylS_ok c5 hR (yoff_ok g1)
      exact gG_ent (w := (j : Int)) (by omega) (by omega) (by omega) (by omega) (by rw [Int.toNat_natCast, g3]; omega) (by omega)
    · cases p3
theorem ykz_ok {f : Nat} (h9 : yT9 sr) (hR : yRS v st) (hM : ∀ q ∈ st.2.2.2.2.1, yMk b sz sr v ws q) (h : ykz st f = true) : yKo sr ws 63 f ≤ 0 := by
  obtain ⟨a, a1, a2⟩ := yfKb_ok h9 h hM
  exact ylS_ok a1 hR a2
theorem ykeq_ok {f g : Nat} (h9 : yT9 sr) (hR : yRS v st) (hM : ∀ q ∈ st.2.2.2.2.1, yMk b sz sr v ws q) (h : ykeq st f g = true) : yKo sr ws 63 f = yKo sr ws 63 g := by
  obtain ⟨a, a1, a2⟩ := yfKb_ok h9 h hM
  obtain ⟨c, c1, c2⟩ := yfKb_ok h9 a1 hM
  exact yequ_ok hR c1 a2 c2
theorem yGG_ok {eb ea ec : yE} {zb za zc : Int} (h9 : yT9 sr) (hR : yRS v st) (hM : ∀ q ∈ st.2.2.2.2.1, yMk b sz sr v ws q) (hQ : ∀ q ∈ st.2.2.2.2.2, yPk sr v ws q) (h : yGG st eb ea ec = true) (hb : yev v eb = some zb) (ha : yev v ea = some za) (hc : yev v ec = some zc) : gG (yKo sr ws) zb za zc := by
  unfold yGG at h
  rw [Bool.or_eq_true, Bool.or_eq_true] at h
  rcases h with h | h | h
  · obtain ⟨a, a1, a2⟩ := yfKb_ok h9 h hM
    have := ylS_ok a1 hR (yoff_ok (y_neg a2))
    exact gG_fault (by omega)
  · rw [Bool.and_eq_true, Bool.or_eq_true] at h
    obtain ⟨h1, h⟩ := h
    have h1 := ylS_ok h1 hR (ysu_ok hb ha)
    rcases h with h | h
    · simp only [Bool.and_eq_true] at h
      exact gG_none (by omega) (ykz_ok h9 hR hM h.1) (ykz_ok h9 hR hM h.2.1) (ykz_ok h9 hR hM h.2.2.1) (ykz_ok h9 hR hM h.2.2.2.1) (ykz_ok h9 hR hM h.2.2.2.2.1) (ykz_ok h9 hR hM h.2.2.2.2.2)
    · obtain ⟨q, n0, l0, h0, h, k2, k3, k4, g⟩ := yanyG hQ h
      have g : gG (yKo sr ws) n0 l0 h0 := g
      exact gG_all g (yGcm_ok h9 hR hM h k2 k3 k4) (by omega)
  · obtain ⟨q, n0, l0, h0, h, k2, k3, k4, g⟩ := yanyG hQ h
    have g : gG (yKo sr ws) n0 l0 h0 := g
    simp only [Bool.and_eq_true] at h
    obtain ⟨h1, h2, h3, h4, h⟩ := h
    have e1 := yequ_ok hR h1 ha k3
    have e2 := yequ_ok hR h2 hc k4
    have e3 := yequ_ok hR h3 hb (yoff_ok k2)
    have e4 := ylS_ok h4 hR (y_neg k2)
    split at h
    · rename_i lo hlo
      split at h
      · rename_i m hm
        obtain ⟨-, p1⟩ := yfKe_at h9 (by decide) hlo hM k2
        obtain ⟨-, p2⟩ := yfKe_at h9 (by decide) hm hM k2
        obtain ⟨r, n1, l1, i1, h, r2, r3, r4, gc⟩ := yanyG hQ h
        have gc : gCU (yKo sr ws 66) (yKo sr ws 67) n1 l1 i1 := gc
        simp only [Bool.and_eq_true] at h
        obtain ⟨c1, c2, c3, c4⟩ := h
        have d1 := yequ_ok hR c1 r3 p1
        have d2 := yequ_ok hR c2 p2 (ysu_ok r4 p1)
        have d3 := ylS_ok c3 hR (yoff_ok r4)
        obtain ⟨s, s1, s2⟩ := yfKb_ok h9 c4 hM
        have d4 := ylS_ok s1 hR (ysu_ok r4 s2)
        rw [e1, e2, e3]
        exact gG_next g (by omega) gc d1.symm (by omega) (by omega) (by omega)
      · cases h
    · cases h
theorem ysmk_ok {t : Nat} {F : yE → Bool} (hQ : ∀ q ∈ st.2.2.2.2.2, yPk sr v ws q) (h : ysmk st t F = true) : ∃ (e : yE) (n lo hi : Int), F e = true ∧ yev v e = some n ∧ yGh t n lo hi (yKo sr ws) := by
  obtain ⟨q, n, lo, hi, h, k2, -, -, g⟩ := yanyG (F := fun q => F q.2.1) hQ h
  exact ⟨_, n, lo, hi, h, k2, g⟩
theorem yAgG_ok (h9 : yT9 sr) (hR : yRS v st) (hM : ∀ q ∈ st.2.2.2.2.1, yMk b sz sr v ws q) (hQ : ∀ q ∈ st.2.2.2.2.2, yPk sr v ws q) (h : yAgG st = true) : gAG (yKo sr ws) := by
  unfold yAgG at h
  rw [Bool.or_eq_true] at h
  rcases h with h | h
  · simp only [Bool.and_eq_true] at h
    exact gAG_none (ykz_ok h9 hR hM h.1) (ykz_ok h9 hR hM h.2.1) (ykz_ok h9 hR hM h.2.2.1) (ykz_ok h9 hR hM h.2.2.2.1) (ykz_ok h9 hR hM h.2.2.2.2.1) (ykz_ok h9 hR hM h.2.2.2.2.2)
  · simp only [Bool.and_eq_true] at h
    obtain ⟨h0, hG, a1, a2, a3, a4, a5, a6, b1, b2, b3, b4, b5⟩ := h
    obtain ⟨q, n0, l0, i0, h, k2, k3, k4, g⟩ := yanyG hQ hG
    have g : gG (yKo sr ws) n0 l0 i0 := g
    obtain ⟨s1, c1, c2⟩ := yfKb_ok h9 b1 hM
    obtain ⟨s2, d1, d2⟩ := yfKb_ok h9 b2 hM
    obtain ⟨x1, n1, l1, i1, f1, g1, m1⟩ := ysmk_ok hQ c1
    obtain ⟨x2, n2, l2, i2, f2, g2, m2⟩ := ysmk_ok hQ d1
    obtain ⟨x3, n3, l3, i3, f3, g3, m3⟩ := ysmk_ok hQ b3
    obtain ⟨x4, n4, l4, i4, f4, g4, m4⟩ := ysmk_ok hQ b4
    obtain ⟨x5, n5, l5, i5, f5, g5, m5⟩ := ysmk_ok hQ b5
    have f1 := ylS_ok f1 hR (ysu_ok c2 g1)
    have f2 := ylS_ok f2 hR (ysu_ok d2 g2)
    have f3 := ylS_ok f3 hR (yoff_ok (y_neg g3))
    have f4 := ylS_ok f4 hR (yoff_ok (y_neg g4))
    have f5 := ylS_ok f5 hR (yoff_ok (y_neg g5))
    exact gAG_land g (yGcm_ok h9 hR hM h k2 k3 k4) (ykz_ok h9 hR hM h0) m1 m2 m3 m4 m5 (by omega) (by omega) (by omega) (by omega) (by omega) (ykeq_ok h9 hR hM a1) (ykeq_ok h9 hR hM a2) (ykeq_ok h9 hR hM a3) (ykeq_ok h9 hR hM a4) (ykeq_ok h9 hR hM a5) (ykeq_ok h9 hR hM a6)
theorem yUwG_ok {w : yE} {zw : Int} (h9 : yT9 sr) (hR : yRS v st) (hM : ∀ q ∈ st.2.2.2.2.1, yMk b sz sr v ws q) (h : yUwG st w = true) (hw : yev v w = some zw) : gUWA (yKo sr ws) zw := by
  unfold yUwG at h
  simp only [Bool.or_eq_true, Bool.and_eq_true] at h
  obtain ⟨h0, h⟩ := h
  have h0 := ylS_ok h0 hR (y_neg hw)
  refine ⟨by omega, ?_⟩
  rcases h with ⟨h1, h2⟩ | ⟨h1, h2, h3⟩
  · have h1 := ylS_ok h1 hR (yoff_ok hw)
    obtain ⟨x, x1, x2⟩ := yfKb_ok h9 h2 hM
    have := ylS_ok x1 hR (yoff_ok (ysu_ok hw x2))
    left
    omega
  · have h1 := ylS_ok h1 hR (yoff_ok (y_neg hw))
    have h2 := ylS_ok h2 hR (yoff_ok hw)
    obtain ⟨x, x1, x2⟩ := yfKb_ok h9 h3 hM
    have := ylS_ok x1 hR (yoff_ok (ysu_ok hw x2))
    right
    omega
theorem yUsG_ok {w : yE} {zw : Int} (h9 : yT9 sr) (hR : yRS v st) (hM : ∀ q ∈ st.2.2.2.2.1, yMk b sz sr v ws q) (hQ : ∀ q ∈ st.2.2.2.2.2, yPk sr v ws q) (h : yUsG st w = true) (hw : yev v w = some zw) : gUWA (yKo sr ws) zw := by
  unfold yUsG at h
  rw [Bool.or_eq_true] at h
  rcases h with h | h
  · obtain ⟨q, n0, l0, i0, h, k2, k3, k4, g⟩ := yanyG hQ h
    have g : gUWA (yKo sr ws) n0 := g
    rw [← yequ_ok hR h k2 hw]
    exact g
  · exact yUwG_ok h9 hR hM h hw
theorem yLwG_ok {f : yE} {zf : Int} (h9 : yT9 sr) (hR : yRS v st) (hM : ∀ q ∈ st.2.2.2.2.1, yMk b sz sr v ws q) (hQ : ∀ q ∈ st.2.2.2.2.2, yPk sr v ws q) (h : yLwG st f = true) (hf : yev v f = some zf) : gLW (yKo sr ws) zf := by
  unfold yLwG at h
  rw [Bool.and_eq_true] at h
  obtain ⟨hA, h⟩ := h
  have hA : gAG (yKo sr ws) := by
    obtain ⟨q, q1, q2⟩ := yany_ok hA
    obtain ⟨n, lo, hi, -, -, -, g⟩ := ygh_at (hQ q q1) q2
    exact g
  simp only [Bool.or_eq_true, Bool.and_eq_true] at h
  rcases h with ⟨c1, c2⟩ | ⟨c1, c2⟩ | ⟨c1, c2, c3⟩ | ⟨c1, c2, c3⟩ | ⟨c1, c2⟩ | c
  · have e := yequ_ok hR c1 hf (yev_cn v 59)
    obtain ⟨x, x1, x2⟩ := yfKb_ok h9 c2 hM
    have := ylS_ok x1 hR (yoff_ok (y_neg x2))
    exact gAG_use hA (by omega) (Or.inr (Or.inr (Or.inr (Or.inl ⟨by omega, by omega⟩))))
  · have e := yequ_ok hR c1 hf (yev_cn v 60)
    obtain ⟨x, x1, x2⟩ := yfKb_ok h9 c2 hM
    have := ylS_ok x1 hR (yoff_ok (y_neg x2))
    exact gAG_use hA (by omega) (Or.inr (Or.inr (Or.inr (Or.inr ⟨by omega, by omega⟩))))
  · have d1 := ylS_ok c1 hR (yoff_ok (y_neg hf))
    have d2 := ylS_ok c2 hR (yoff_ok hf)
    obtain ⟨x, x1, x2⟩ := yfKb_ok h9 c3 hM
    have := ylS_ok x1 hR (yoff_ok (ysu_ok hf x2))
    exact gAG_use hA (by omega) (Or.inr (Or.inl ⟨by omega, by omega, by omega⟩))
  · have d1 := ylS_ok c1 hR (yoff_ok (y_neg hf))
    have d2 := ylS_ok c2 hR (yoff_ok hf)
    obtain ⟨x, x1, x2⟩ := yfKb_ok h9 c3 hM
    have := ylS_ok x1 hR (yoff_ok (ysu_ok hf x2))
    exact gAG_use hA (by omega) (Or.inr (Or.inr (Or.inl ⟨by omega, by omega, by omega⟩)))
  · obtain ⟨w, r, g1, g2, g3⟩ := ysp_ok (m := 5) (by omega) hf
    have e := yequ_ok hR c1 hf (ysc_ok (c := 5) g1)
    obtain ⟨u1, u2⟩ := gUsA_ent (yUsG_ok h9 hR hM hQ c2 g1) (Or.inl e)
    exact gAG_use hA u1 u2
  · obtain ⟨q, n0, l0, i0, h, k2, k3, k4, g⟩ := yanyG hQ c
    have g : gUWA (yKo sr ws) n0 := g
    split at h
    · rename_i s hs
      simp only [Bool.and_eq_true] at h
      obtain ⟨-, p2⟩ := yfKe_at h9 (by decide) hs hM k2
      have d1 := ylS_ok h.1 hR (yoff_ok (ysu_ok (ysc_ok (c := 5) k2) hf))
      have d2 := ylS_ok h.2.1 hR (yoff_ok (ysu_ok hf (ysc_ok (c := 5) k2)))
      have d3 := ylS_ok h.2.2 hR (ysu_ok (ysu_ok hf (ysc_ok (c := 5) k2)) p2)
      obtain ⟨u1, u2⟩ := gUsA_ent (f := zf) g (Or.inr ⟨by omega, by omega, by omega⟩)
      exact gAG_use hA u1 u2
    · cases h
theorem yRwG_ok {n lo hi : yE} {zn zl zh : Int} (h9 : yT9 sr) (hR : yRS v st) (hM : ∀ q ∈ st.2.2.2.2.1, yMk b sz sr v ws q) (hQ : ∀ q ∈ st.2.2.2.2.2, yPk sr v ws q) (h : yRwG st n lo hi = true) (hn : yev v n = some zn) (hl : yev v lo = some zl) (hh : yev v hi = some zh) : gRW (yKo sr ws) zn zl zh := by
  unfold yRwG at h
  rw [Bool.and_eq_true, Bool.and_eq_true] at h
  obtain ⟨h1, h2, h3⟩ := h
  have e1 := yequ_ok hR h1 hn (yev_cn v 0)
  obtain ⟨q, n0, l0, i0, h, k2, k3, k4, g⟩ := yanyG hQ h2
  have g : gLW (yKo sr ws) n0 := g
  have e2 := yequ_ok hR h k2 hh
  split at h3
  · rename_i x hx
    obtain ⟨-, p1⟩ := yfKe_at h9 (by decide) hx hM hh
    have e3 := yequ_ok hR h3 hl p1
    rw [e1, e3, ← e2]
    exact gRW_begin g
  · cases h3
theorem ySmG_ok {t x y : Nat} {n : yE} {zn : Int} (h9 : yT9 sr) (hx : x ∈ yOne) (hy : y ∈ yOne) (hR : yRS v st) (hM : ∀ q ∈ st.2.2.2.2.1, yMk b sz sr v ws q) (hQ : ∀ q ∈ st.2.2.2.2.2, yPk sr v ws q) (ht : ∀ n lo hi : Int, yGh t n lo hi (yKo sr ws) → gSame (yKo sr ws x) (yKo sr ws y) n) (h : ySmG st t x y n = true) (hn : yev v n = some zn) : gSame (yKo sr ws x) (yKo sr ws y) zn := by
  unfold ySmG at h
  rw [Bool.or_eq_true] at h
  rcases h with h | h
  · have := ylS_ok h hR hn
    intro j hj
    omega
  · obtain ⟨q, n0, l0, i0, h, k2, k3, k4, g⟩ := yanyG hQ h
    have g := ht _ _ _ g
    rw [Bool.or_eq_true, Bool.and_eq_true] at h
    rcases h with h | ⟨h1, h⟩
    · have := ylS_ok h hR (ysu_ok hn k2)
      exact fun j hj => g j (by omega)
    · have h1 := ylS_ok h1 hR (yoff_ok (ysu_ok hn k2))
      split at h
      · rename_i a ha
        split at h
        · rename_i c hc
          obtain ⟨p0, p1⟩ := yfKe_at h9 hx ha hM k2
          obtain ⟨-, p2⟩ := yfKe_at h9 hy hc hM k2
          have e := yequ_ok hR h p1 p2
          intro j hj
          by_cases hj0 : (j : Int) < n0
          · exact g j hj0
          · rw [show j = n0.toNat by omega]
            exact e
        · cases h
      · cases h
theorem yTxG_ok {n : yE} {zn : Int} (hR : yRS v st) (hQ : ∀ q ∈ st.2.2.2.2.2, yPk sr v ws q) (h : yTxG st n = true) (hn : yev v n = some zn) : gTXT (yKo sr ws 1) (yKo sr ws 64) zn := by
  unfold yTxG at h
  rw [Bool.or_eq_true] at h
  rcases h with h | h
  · have := ylS_ok h hR hn
    intro j hj
    omega
  · obtain ⟨q, n0, l0, i0, h, k2, k3, k4, g⟩ := yanyG hQ h
    have g : gTXT (yKo sr ws 1) (yKo sr ws 64) n0 := g
    have := ylS_ok h hR (ysu_ok hn k2)
    exact fun j hj => g j (by omega)
theorem ychR_ok {t : Nat} {n lo hi : yE} {zn zl zh : Int} (h9 : yT9 sr) (hR : yRS v st) (hM : ∀ q ∈ st.2.2.2.2.1, yMk b sz sr v ws q) (hQ : ∀ q ∈ st.2.2.2.2.2, yPk sr v ws q) (h : ychR st t n lo hi = true) (hn : yev v n = some zn) (hl : yev v lo = some zl) (hh : yev v hi = some zh) : yGh t zn zl zh (yKo sr ws) := by
  unfold ychR at h
  simp only [Bool.or_eq_true, Bool.and_eq_true] at h
  rcases h with ⟨e, h⟩ | ⟨e, h⟩ | ⟨e, h⟩ | ⟨e, h⟩ | ⟨e, h⟩ | ⟨e, h⟩ | ⟨e, h⟩ | ⟨e, h⟩ | ⟨e, h⟩ | ⟨e, h⟩ | ⟨e, h⟩ | ⟨e, h⟩ | ⟨e, h⟩ | ⟨e, h⟩ | ⟨e, h⟩
  all_goals (have e := Nat.eq_of_beq_eq_true e; subst e)
  · exact yDpG_ok h9 hR hM hQ h hn hl hh
  · exact yOpG_ok h9 hR hM hQ h hn hl hh
  · exact yCuG_ok h9 hR hM hQ h hn hl hh
  · exact yAgG_ok h9 hR hM hQ h
  · exact yUwG_ok h9 hR hM h hn
  · exact yLwG_ok h9 hR hM hQ h hn
  · exact yRwG_ok h9 hR hM hQ h hn hl hh
  · exact yGG_ok h9 hR hM hQ h hn hl hh
  · exact ySmG_ok (t := 961) h9 (by decide) (by decide) hR hM hQ (fun _ _ _ q => q) h hn
  · exact ySmG_ok (t := 962) h9 (by decide) (by decide) hR hM hQ (fun _ _ _ q => q) h hn
  · exact ySmG_ok (t := 963) h9 (by decide) (by decide) hR hM hQ (fun _ _ _ q => q) h hn
  · exact ySmG_ok (t := 964) h9 (by decide) (by decide) hR hM hQ (fun _ _ _ q => q) h hn
  · exact ySmG_ok (t := 965) h9 (by decide) (by decide) hR hM hQ (fun _ _ _ q => q) h hn
  · exact yTxG_ok hR hQ h hn
  · have := ylS_ok h hR hn
    exact fun l hl => absurd hl (by omega)
theorem ychG_ok {t : Nat} {n lo hi : yE} {zn zl zh : Int} (hT : yT9 sr) (hR : yRS v st) (hM : ∀ q ∈ st.2.2.2.2.1, yMk b sz sr v ws q) (hQ : ∀ q ∈ st.2.2.2.2.2, yPk sr v ws q) (h : ychG st t n lo hi = true) (hn : yev v n = some zn) (hl : yev v lo = some zl) (hh : yev v hi = some zh) : 900 ≤ t ∧ yGh t zn zl zh (yKo sr ws) := by
  unfold ychG at h
  rw [Bool.and_eq_true, Bool.or_eq_true] at h
  refine ⟨Nat.le_of_ble_eq_true h.1, ?_⟩
  rcases h.2 with h2 | h3
  · obtain ⟨q, g1, g2, g3, g4, g5⟩ := yfnG_ok h2
    obtain ⟨i, n2, l2, h2, k1, k2, k3, k4, -, k6⟩ := hQ q g1
    rw [g2, yequ_ok hR g3 k2 hn, yequ_ok hR g4 k3 hl, yequ_ok hR g5 k4 hh] at k6
    exact k6
  · exact ychR_ok hT hR hM hQ h3 hn hl hh
theorem ychP_ok (hT : yT9 sr) (hs : ySgOk v sg) (hR : yRS v st) (hM : ∀ q ∈ st.2.2.2.2.1, yMk b sz sr v ws q) (hQ : ∀ q ∈ st.2.2.2.2.2, yPk sr v ws q) : ∀ {l : yP}, ychP st sg l = true → ∀ q ∈ l, yPk sr (yvt v sg) ws q := by
  intro l
  induction l with
  | nil => intro _ q hq; cases hq
  | cons q0 t ih =>
    intro h q hq
    have h : ((match ysuE sg q0.1.1 with
      | some e => match ysuE sg q0.2.1 with
        | some n => match ysuE sg q0.2.2.1 with
          | some lo => match ysuE sg q0.2.2.2 with
            | some hi => (Nat.ble q0.1.2 899 && (ylS st n || yfnP st e q0.1.2 n lo hi st.2.2.2.2.2)) || ychG st q0.1.2 n lo hi
            | none => false
          | none => false
        | none => false
      | none => false) && ychP st sg t) = true := h
    rw [Bool.and_eq_true] at h
    rcases List.mem_cons.mp hq with rfl | hq
    · have h1 := h.1
      split at h1
      · rename_i e he
        split at h1
        · rename_i n hn
          split at h1
          · rename_i lo hlo
            split at h1
            · rename_i hi hhi
              obtain ⟨z1, a1, a2⟩ := ysuE_ok hs he
              obtain ⟨z2, b1, b2⟩ := ysuE_ok hs hn
              obtain ⟨z3, c1, c2⟩ := ysuE_ok hs hlo
              obtain ⟨z4, d1, d2⟩ := ysuE_ok hs hhi
              rw [Bool.or_eq_true] at h1
              rcases h1 with h1 | h1
              · rw [Bool.and_eq_true] at h1
                refine ⟨z1, z2, z3, z4, a2, b2, c2, d2, fun i cl hi1 hsr hcl j x hj hx => ?_, yGh_low (Nat.le_of_ble_eq_true h1.1)⟩
                have h1 := h1.2
                rw [Bool.or_eq_true] at h1
                rcases h1 with h1 | h1
                · have := ylS_ok h1 hR b1
                  omega
                · obtain ⟨q2, g1, g2, g3, g4, g5, g6⟩ := yfnP_ok h1
                  obtain ⟨i2, n2, lo2, hi2, k1, k2, k3, k4, k5, -⟩ := hQ q2 g1
                  rw [g3, a1] at k1
                  cases k1
                  have := ylS_ok g4 hR (ysu_ok b1 k2)
                  have := ylS_ok g5 hR (ysu_ok c1 k3)
                  have := ylS_ok g6 hR (ysu_ok k4 d1)
                  have := k5 i cl hi1 (by rw [g2]; exact hsr) hcl j x (by omega) hx
                  omega
              · obtain ⟨w1, w2⟩ := ychG_ok hT hR hM hQ h1 b1 c1 d1
                exact ⟨z1, z2, z3, z4, a2, b2, c2, d2, fun i cl _ hsr _ => absurd (hT.1 i _ hsr).1 (by omega), w2⟩
            · cases h1
          · cases h1
        · cases h1
      · cases h1
    · exact ih h.2 q hq
/-- what is known says what the template does -/
theorem ychS_ok {tp : yS} (h9 : yT9 sr) (hR : yRS v st) (h : ychS st sg tp = true) : ySgOk v sg ∧ sg.length = tp.1 ∧ yRS (yvt v sg) tp ∧ ∀ {ws : va_W}, (∀ q ∈ st.2.2.2.2.1, yMk b sz sr v ws q) → (∀ q ∈ st.2.2.2.2.2, yPk sr v ws q) → (∀ q ∈ tp.2.2.2.2.1, yMk b sz sr (yvt v sg) ws q) ∧ ∀ q ∈ tp.2.2.2.2.2, yPk sr (yvt v sg) ws q := by
  unfold ychS at h
  simp only [Bool.and_eq_true] at h
  obtain ⟨h1, h2, h3, h4, h5, h6, h7⟩ := h
  have hs := yids_ok hR.1 h2
  have hl := Nat.eq_of_beq_eq_true h1
  refine ⟨hs, hl, ⟨by simp [yvt, hl], ychB_ok hs hR h3, ychF_ok hs hR h4, ?_⟩, fun hM hQ => ⟨ychM_ok hs hR hM h6, ychP_ok h9 hs hR hM hQ h7⟩⟩
  split at h5
  · rename_i hz
    rw [hz]
    intro q hq
    cases hq
  · cases h5
theorem yisRg_ok {p : Nat} (h : yisRg p sg = true) {vp : List Int} (hp : vp.length = p) (hv : v = vp ++ u) : ∃ w, yvt v sg = vp ++ w := by
  have key : ∀ (n i : Nat) (sg : List yE), Nat.rec (motive := fun _ => Nat → List yE → Bool) (fun _ _ => true) (fun _ ih i sg => match sg with
      | e :: t => yeq e ([(i, 1)], 0) && ih (i + 1) t
      | [] => false) n i sg = true → ∃ t, sg = (List.range' i n).map (fun i => (([(i, 1)], 0) : yE)) ++ t := by
    intro n
    induction n with
    | zero => intro i sg _; exact ⟨sg, by simp⟩
    | succ n ih =>
      intro i sg h
      cases sg with
      | nil => cases h
      | cons e t =>
        have h : (yeq e ([(i, 1)], 0) && Nat.rec (motive := fun _ => Nat → List yE → Bool) (fun _ _ => true) (fun _ ih i sg => match sg with
          | e :: t => yeq e ([(i, 1)], 0) && ih (i + 1) t
          | [] => false) n (i + 1) t) = true := h
        rw [Bool.and_eq_true] at h
        obtain ⟨t2, ht⟩ := ih (i + 1) t h.2
        exact ⟨t2, by rw [yeq_ok h.1, ht, List.range'_succ]; simp⟩
  obtain ⟨t, ht⟩ := key p 0 sg h
  refine ⟨yvt v t, ?_⟩
  rw [ht]
  unfold yvt
  rw [List.map_append]
  congr 1
  apply List.ext_getElem
  · simp [hp]
  · intro i h1 h2
    have hi : i < vp.length := h2
    have : v[i]? = some vp[i] := by rw [hv, List.getElem?_append_left hi]; exact List.getElem?_eq_getElem hi
    simp [yev, yevT, this]
theorem yfinS_ok : ∀ {l : ySg} {kk : List yE → Bool}, yfinS l kk = true → ∃ sg, kk sg = true := by
  intro l
  induction l with
  | nil => intro kk h; exact ⟨[], h⟩
  | cons a t ih =>
    intro kk h
    cases a with
    | none => obtain ⟨s2, h2⟩ := ih (kk := fun t => kk (([], 0) :: t)) h; exact ⟨_, h2⟩
    | some e =>
      have h : yfE e (fun e => yfinS t fun t => kk (e :: t)) = true := h
      rw [yfE_eq] at h
      obtain ⟨s2, h2⟩ := ih h
      exact ⟨_, h2⟩
-- a contract used
theorem ynew_ok : ∀ {d nx : Nat} {kk : List yE → Bool}, ynew nx d kk = true → kk ((List.range' nx d).map fun i => (([(i, 1)], 0) : yE)) = true := by
  intro d
  induction d with
  | zero => intro nx kk h; exact h
  | succ d ih =>
    intro nx kk h
    have h : zst nx (fun i => ynew (i + 1) d fun t => kk (([(i, 1)], 0) :: t)) = true := h
    rw [zst_eq] at h
    have h2 := ih h
    rw [List.range'_succ, List.map_cons]
    exact h2
theorem yapB_ok {p nx : Nat} {vq : List Int} (hv : ∀ i z, p ≤ i → vq[i]? = some z → u[nx + (i - p)]? = some z) : ∀ {l : yBd} {B : yBd} {kk : yBd → Bool}, yapB p nx l B kk = true → yRB vq l → yRB u B → ∃ B1, yRB u B1 ∧ kk B1 = true := by
  intro l
  induction l with
  | nil => intro B kk h _ hB; exact ⟨B, hB, h⟩
  | cons q t ih =>
    intro B kk h hl hB
    have h : (match Nat.ble p q.1 with
      | true => zst (nx + (q.1 - p)) fun i => yapB p nx t ((i, q.2.1, q.2.2) :: B) kk
      | false => yapB p nx t B kk) = true := h
    have hl2 : yRB vq t := fun q hq => hl q (List.mem_cons_of_mem _ hq)
    split at h
    · rename_i hp
      rw [zst_eq] at h
      obtain ⟨z, g1, g2, g3⟩ := hl q List.mem_cons_self
      exact ih h hl2 (yRB_cons hB (hv _ z (Nat.le_of_ble_eq_true hp) g1) g2 g3)
    · exact ih h hl2 hB
theorem yapR_ok {p : Nat} (hs : ySgOk v sg) : ∀ {l : yBd} {st : yS} {kk : yS → Bool}, yapR sg p l st kk = true → yRB (yvt v sg) l → yRS v st → ∃ st1, kk st1 = true ∧ yRS v st1 ∧ st1.2.2.2.2 = st.2.2.2.2 := by
  intro l
  induction l with
  | nil => intro st kk h _ hR; exact ⟨st, h, hR, rfl⟩
  | cons q t ih =>
    intro st kk h hl hR
    have h : (match Nat.ble p q.1 with
      | true => yapR sg p t st kk
      | false => match zget sg q.1 with
        | some e => yasS (yoff e (-q.2.2)) st fun st => yasS (yoff (ysu ([], 0) e) q.2.1) st fun st => yapR sg p t st kk
        | none => false) = true := h
    have hl2 : yRB (yvt v sg) t := fun q hq => hl q (List.mem_cons_of_mem _ hq)
    split at h
    · exact ih h hl2 hR
    · split at h
      · rename_i e he
        obtain ⟨z, g1, g2⟩ := yvt_at hs he
        obtain ⟨z2, k1, k2, k3⟩ := hl q List.mem_cons_self
        rw [g2] at k1
        cases k1
        obtain ⟨s1, a1, a2, a3, -⟩ := yasS_ok h hR (yoff_ok g1) (by omega)
        obtain ⟨s2, b1, b2, b3, -⟩ := yasS_ok a1 a2 (yoff_ok (y_neg g1)) (by omega)
        obtain ⟨s3, c1, c2, c3⟩ := ih b1 hl2 b2
        exact ⟨s3, c1, c2, c3.trans (b3.trans a3)⟩
      · cases h
theorem yapF_ok (hs : ySgOk v sg) : ∀ {l : List yE} {st : yS} {kk : yS → Bool}, yapF sg l st kk = true → yRF (yvt v sg) l → yRS v st → ∃ st1, kk st1 = true ∧ yRS v st1 ∧ st1.2.2.2.2 = st.2.2.2.2 := by
  intro l
  induction l with
  | nil => intro st kk h _ hR; exact ⟨st, h, hR, rfl⟩
  | cons f t ih =>
    intro st kk h hl hR
    have h : (match ysuE sg f with
      | some e => yasS e st fun st => yapF sg t st kk
      | none => false) = true := h
    have hl2 : yRF (yvt v sg) t := fun q hq => hl q (List.mem_cons_of_mem _ hq)
    split at h
    · rename_i e he
      obtain ⟨z, g1, g2⟩ := ysuE_ok hs he
      obtain ⟨z2, k1, k2⟩ := hl f List.mem_cons_self
      rw [g2] at k1
      cases k1
      obtain ⟨s1, a1, a2, a3, -⟩ := yasS_ok h hR g1 k2
      obtain ⟨s3, c1, c2, c3⟩ := ih a1 hl2 a2
      exact ⟨s3, c1, c2, c3.trans a3⟩
    · cases h
theorem yfS_ok (hs : ySgOk v sg) {e : yE} {kk : yE → Bool} {z : Int} (h : yfS sg e kk = true) (hz : yev (yvt v sg) e = some z) : ∃ r, kk r = true ∧ yev v r = some z := by
  unfold yfS at h
  split at h
  · rename_i r hr
    rw [yfE_eq] at h
    obtain ⟨z2, g1, g2⟩ := ysuE_ok hs hr
    rw [hz] at g2
    cases g2
    exact ⟨r, h, g1⟩
  · cases h
theorem yfA_ok (hs : ySgOk v sg) {a : yA} {kk : yA → Bool} {w : Value} (h : yfA sg a kk = true) (hw : yV b sz sr (yvt v sg) a w) : ∃ x, kk x = true ∧ yV b sz sr v x w := by
  unfold yfA at h
  split at h
  · obtain ⟨y, rfl, hy⟩ := hw
    obtain ⟨r, h1, h2⟩ := yfS_ok hs h hy
    exact ⟨_, h1, y, rfl, h2⟩
  · obtain ⟨y, rfl, hy⟩ := hw
    obtain ⟨r, h1, h2⟩ := yfS_ok hs h hy
    exact ⟨_, h1, y, rfl, h2⟩
  · obtain ⟨i, rfl, hi, hsr⟩ := hw
    obtain ⟨r, h1, h2⟩ := yfS_ok hs h hi
    exact ⟨_, h1, i, rfl, h2, hsr⟩
  · cases h
  · exact ⟨_, h, hw⟩
theorem yapM_ok (hs : ySgOk v sg) : ∀ {l M : yM} {kk : yM → Bool}, yapM sg l M kk = true → (∀ q ∈ l, yMk b sz sr (yvt v sg) ws q) → (∀ q ∈ M, yMk b sz sr v ws q) → ∃ M1, kk M1 = true ∧ ∀ q ∈ M1, yMk b sz sr v ws q := by
  intro l
  induction l with
  | nil => intro M kk h _ hM; exact ⟨M, h, hM⟩
  | cons q0 t ih =>
    intro M kk h hl hM
    have h : yfS sg q0.1.1 (fun e => yfS sg q0.1.2.2 fun ix => yfA sg q0.2 fun a => yapM sg t (((e, q0.1.2.1, ix), a) :: M) kk) = true := h
    obtain ⟨i, j, cl, w, k1, k2, k3, k4, k5, k6⟩ := hl q0 List.mem_cons_self
    obtain ⟨e, h, e1⟩ := yfS_ok hs h k1
    obtain ⟨ix, h, e2⟩ := yfS_ok hs h k3
    obtain ⟨a, h, e3⟩ := yfA_ok hs h k6
    refine ih h (fun q hq => hl q (List.mem_cons_of_mem _ hq)) fun q hq => ?_
    rcases List.mem_cons.mp hq with rfl | hq
    · exact ⟨i, j, cl, w, e1, k2, e2, k4, k5, e3⟩
    · exact hM q hq
theorem yapP_ok (hs : ySgOk v sg) : ∀ {l M : yP} {kk : yP → Bool}, yapP sg l M kk = true → (∀ q ∈ l, yPk sr (yvt v sg) ws q) → (∀ q ∈ M, yPk sr v ws q) → ∃ M1, kk M1 = true ∧ ∀ q ∈ M1, yPk sr v ws q := by
  intro l
  induction l with
  | nil => intro M kk h _ hM; exact ⟨M, h, hM⟩
  | cons q0 t ih =>
    intro M kk h hl hM
    have h : yfS sg q0.1.1 (fun e => yfS sg q0.2.1 fun n => yfS sg q0.2.2.1 fun lo => yfS sg q0.2.2.2 fun hi => yapP sg t (((e, q0.1.2), n, lo, hi) :: M) kk) = true := h
    obtain ⟨i, n, lo, hi, k1, k2, k3, k4, k5⟩ := hl q0 List.mem_cons_self
    obtain ⟨e, h, e1⟩ := yfS_ok hs h k1
    obtain ⟨n', h, e2⟩ := yfS_ok hs h k2
    obtain ⟨lo', h, e3⟩ := yfS_ok hs h k3
    obtain ⟨hi', h, e4⟩ := yfS_ok hs h k4
    refine ih h (fun q hq => hl q (List.mem_cons_of_mem _ hq)) fun q hq => ?_
    rcases List.mem_cons.mp hq with rfl | hq
    · exact ⟨i, n, lo, hi, e1, e2, e3, e4, k5⟩
    · exact hM q hq
theorem yfk_ty {i t : Nat} {q : Nat × va_E} {kd : yKd} (hW : yWd sz sr tt ca ws) (hq : ws[i]? = some q) (hsr : sr[i]? = some t) (ht : zget tt t = some kd) : ∀ j, yfk q.2 j = (match kd.2 with
    | .inl _ => j
    | .inr _ => 0) := by
  intro j
  obtain ⟨-, t1, kd1, a1, a2, a3⟩ := hW.2 i q hq
  rw [hsr] at a1
  cases a1
  rw [ht] at a2
  cases a2
  obtain ⟨q0, kd | kd⟩ := kd
  · obtain ⟨vs, e1, -⟩ := a3
    rw [e1]; rfl
  · obtain ⟨k1, k2, k3⟩ := kd
    rcases a3 with ⟨-, f, e1, -⟩ | ⟨-, f, e1⟩ <;> (rw [e1]; rfl)
theorem ykeM_ok {ms : List (Nat × Nat)} {q : (yE × Nat × yE) × yA} (hW : yWd sz sr tt ca ws) (hW1 : yWd sz sr tt ca ws1) (hF : yFr sr (some ms) ws ws1) (h : ykeM tt ms q = true) (hq : yMk b sz sr v ws q) : yMk b sz sr v ws1 q := by
  obtain ⟨i, j, cl, w, k1, k2, k3, k4, k5, k6⟩ := hq
  have hl : i < ws1.length := by rw [hW1.1]; exact (List.getElem?_eq_some_iff.mp k2).1
  have hw1 := List.getElem?_eq_getElem hl
  refine ⟨i, j, _, w, k1, k2, k3, hw1, ?_, k6⟩
  rw [hF i _ j cl _ k4 hw1 k2 ?_]
  · exact k5
  · unfold ykeM at h
    split at h
    · rename_i q1 q2 ht
      rw [yfk_ty hW1 hw1 k2 ht]
      split at h
      · rename_i c hc
        rw [hc] at k3
        have e0 := yev_cn v c
        rw [ycn] at e0
        rw [e0] at k3
        have : c = (j : Int) := Option.some.inj k3
        simp only [Bool.not_eq_true'] at h
        show ymo (some ms) q.1.2.1 j = false
        rw [this] at h
        exact h
      · cases h
    · rename_i q1 q2 ht
      rw [yfk_ty hW1 hw1 k2 ht]
      simp only [Bool.not_eq_true'] at h
      exact h
    · cases h
theorem ygms_ok {ms : List (Nat × Nat)} : ∀ {l : List (Nat × Int × Int × Int × Int)}, ygms ms l = true → ∀ r ∈ l, ymo (some ms) (yrk r.1) (ygix r) = false := by
  intro l
  induction l with
  | nil => intro _ r hr; cases hr
  | cons r0 l ih =>
    intro h r hr
    have h : (!(ymo (some ms) (yrk r0.1) (ygix r0)) && ygms ms l) = true := h
    rw [Bool.and_eq_true, Bool.not_eq_true'] at h
    rcases List.mem_cons.mp hr with rfl | hr
    · exact h.1
    · exact ih h.2 r hr
theorem ykeP_ok {ms : List (Nat × Nat)} {q : (yE × Nat) × yE × yE × yE} (hT : yT9 sr) (hA : yArK tt) (hW : yWd sz sr tt ca ws) (hW1 : yWd sz sr tt ca ws1) (hF : yFr sr (some ms) ws ws1) (h : ykeP tt ms q = true) (hq : yPk sr v ws q) : yPk sr v ws1 q := by
  obtain ⟨i, n, lo, hi, k1, k2, k3, k4, k5, k6⟩ := hq
  unfold ykeP at h
  split at h
  · rename_i q1 q2 ht
    simp only [Bool.and_eq_true, Bool.not_eq_true'] at h
    refine ⟨i, n, lo, hi, k1, k2, k3, k4, fun i' c e1 hsr hc j x hj hx => ?_, yGh_low (Nat.le_of_ble_eq_true h.1)⟩
    have hl : i' < ws.length := by rw [hW.1]; exact (List.getElem?_eq_some_iff.mp hsr).1
    have hw := List.getElem?_eq_getElem hl
    refine k5 i' _ e1 hsr hw j x hj ?_
    rw [← hF i' _ j _ c hw hc hsr ?_]
    · exact hx
    · rw [yfk_ty hW1 hc hsr ht]
      exact h.2
  · cases h
  · rw [Bool.and_eq_true] at h
    have h9 := Nat.le_of_ble_eq_true h.1
    refine ⟨i, n, lo, hi, k1, k2, k3, k4, fun i' c _ hsr _ => absurd (hT.1 i' _ hsr).1 (by omega), yGh_keep k6 fun r hr j r1 r2 => ?_⟩
    have hm := ygms_ok h.2 r hr
    unfold yKo
    cases hs0 : sr[yiw sr r.1]? with
    | none =>
      have e1 : ws[yiw sr r.1]? = none := by rw [List.getElem?_eq_none_iff] at hs0 ⊢; rw [hW.1]; exact hs0
      have e2 : ws1[yiw sr r.1]? = none := by rw [List.getElem?_eq_none_iff] at hs0 ⊢; rw [hW1.1]; exact hs0
      rw [e1, e2]
    | some t0 =>
      obtain ⟨hlt, hge⟩ := List.getElem?_eq_some_iff.mp hs0
      have ht0 : yrk r.1 = t0 := yiw_kd hT hs0 rfl
      subst ht0
      have hw := List.getElem?_eq_getElem (l := ws) (i := yiw sr r.1) (by rw [hW.1]; exact hlt)
      have hw1 := List.getElem?_eq_getElem (l := ws1) (i := yiw sr r.1) (by rw [hW1.1]; exact hlt)
      rw [hw, hw1]
      dsimp only
      rw [hF _ (yrk r.1) j _ _ hw hw1 hs0 (by
        rcases hA q.1.2 r hr with ⟨e0, kd, hkd⟩ | ⟨e0, e1, e2, e3, e4, kd, hkd⟩
        · rw [yfk_ty hW1 hw1 hs0 hkd]
          unfold ygix at hm
          rw [e0] at hm
          exact hm
        · rw [yfk_ty hW1 hw1 hs0 hkd]
          rw [e2, e3, e4] at r2
          unfold ygix at hm
          rw [e0] at hm
          show ymo (some ms) (yrk r.1) j = false
          rw [show j = r.2.1.toNat by omega]
          exact hm)]
end yTmpl
