/-! Contracts: what it is that one holds; calls by them; that what has been looked through holds. -/
section yCon
variable {b sz : Nat} {sr : List Nat} {tt : List yKd} {D : va_G} {ca : Nat → ClassId} {ws ws1 : va_W} {v u : List Int} {st : yS} {sg : List yE} {l : Launch} {mi : List zMInfo}
/-- what a contract leaves: one of its ends -/
def yQt (b sz : Nat) (sr : List Nat) (tt : List yKd) (D : va_G) (ca : Nat → ClassId) (ms : Option (List (Nat × Nat))) (ws : va_W) (v : List Int) (qs : List yPost) : Array Value → State → Outcome → State → Prop := fun _ st o t =>
  (∃ (rv : Option Value) (q : yPost) (u : List Int) (ws1 : va_W), o = .returned rv ∧ q ∈ qs ∧ yRS (v ++ u) q.2 ∧ yRet b sz sr (v ++ u) q.1 rv ∧ yWd sz sr tt ca ws1 ∧ va_P D vwCl ws1 t.heap ∧ va_D (zA sz) ws1 ∧ (∀ x ∈ q.2.2.2.2.2.1, yMk b sz sr (v ++ u) ws1 x) ∧ (∀ x ∈ q.2.2.2.2.2.2, yPk sr (v ++ u) ws1 x) ∧ yFr sr ms ws ws1) ∧ st.heap.size ≤ t.heap.size ∧ ∀ q : Nat, q < sz → t.heap[q]? = st.heap[q]?
/-- a contract of method j holds, where its calls go no deeper than below Bm -/
def yCtT (l : Launch) (sr : List Nat) (tt : List yKd) (mi : List zMInfo) (Bm : Int) (j : Nat) (ct : yCt) : Prop :=
  ∀ (y : MethodName) (cc : ByteArray) (maxL : Nat) (ret : Option FieldType) (kind na : Nat), zget mi j = some (y, cc, maxL, ret, kind, na) →
    ∀ vt : List Int, yRS vt ct.1.2 → ∃ r : Nat, yev vt ct.2.1 = some (r : Int) ∧ 1 ≤ r ∧ ((r : Int) < Bm → ∀ (b sz n : Nat) (xs : Nat → Int32) (D : va_G) (ca : Nat → ClassId) (ws : va_W), b < sz →
      Met l y (zws y cc maxL ret) { frames := r, cells := 0, slots := 0, locals := 60 * r } (yPc b sz sr tt D ca n xs ws vt ct.1.1 ct.1.2) (yQt b sz sr tt D ca (some ct.2.2.1) ws vt ct.2.2.2) 0 0 (zA sz))
theorem yapp_ok {p : Nat} {ms : List (Nat × Nat)} {q : yPost} {kk : Option yA → yS → Bool} {rv : Option Value} {uq : List Int} (h9 : yT9 sr) (hA : yArK tt) (hR : yRS v st) (hs : ySgOk v sg) (hp : sg.length = p) (hW : yWd sz sr tt ca ws) (hW1 : yWd sz sr tt ca ws1) (hF : yFr sr (some ms) ws ws1) (hM : ∀ x ∈ st.2.2.2.2.1, yMk b sz sr v ws x) (hQ : ∀ x ∈ st.2.2.2.2.2, yPk sr v ws x)
    (h : yapp tt st sg p ms q kk = true) (g1 : yRS (yvt v sg ++ uq) q.2) (g2 : yRet b sz sr (yvt v sg ++ uq) q.1 rv) (g3 : ∀ x ∈ q.2.2.2.2.2.1, yMk b sz sr (yvt v sg ++ uq) ws1 x) (g4 : ∀ x ∈ q.2.2.2.2.2.2, yPk sr (yvt v sg ++ uq) ws1 x) :
    ∃ (r : Option yA) (st1 : yS), kk r st1 = true ∧ yRS (v ++ uq) st1 ∧ yRet b sz sr (v ++ uq) r rv ∧ (∀ x ∈ st1.2.2.2.2.1, yMk b sz sr (v ++ uq) ws1 x) ∧ ∀ x ∈ st1.2.2.2.2.2, yPk sr (v ++ uq) ws1 x := by
  obtain ⟨nx, B, F, Z, M, Q⟩ := st
  obtain ⟨rt, nq, Bq, Fq, Zq, Mq, Qq⟩ := q
  unfold yapp at h
  dsimp only at h
  rw [Bool.and_eq_true] at h
  obtain ⟨hpn, h⟩ := h
  have hpn := Nat.le_of_ble_eq_true hpn
  obtain ⟨g11, g12, g13, g14⟩ := g1
  have g11 : (yvt v sg ++ uq).length = nq := g11
  have hvl : (yvt v sg).length = p := by simp [yvt, hp]
  have hul : uq.length = nq - p := by rw [List.length_append, hvl] at g11; omega
  have hnx : v.length = nx := hR.1
  have h := yfil_ok (yfil_ok (ynew_ok h))
  -- what stands for the names, the new ones too
  have hs1 : ySgOk (v ++ uq) (sg ++ (List.range' nx (nq - p)).map fun i => (([(i, 1)], 0) : yE)) := by
    intro e he
    rcases List.mem_append.mp he with he | he
    · obtain ⟨z, hz⟩ := hs e he
      exact ⟨z, yev_mono hz⟩
    · obtain ⟨i, hi, rfl⟩ := List.mem_map.mp he
      rw [List.mem_range'_1] at hi
      have hlt : i < (v ++ uq).length := by rw [List.length_append]; omega
      exact ⟨_, yev_var (List.getElem?_eq_getElem hlt)⟩
  have hvt : yvt (v ++ uq) (sg ++ (List.range' nx (nq - p)).map fun i => (([(i, 1)], 0) : yE)) = yvt v sg ++ uq := by
    unfold yvt
    rw [List.map_append]
    congr 1
    · apply List.map_congr_left
      intro e he
      obtain ⟨z, hz⟩ := hs e he
      rw [hz, yev_mono hz]
    · apply List.ext_getElem
      · simp [hul]
      · intro i h1 h2
        have e1 : (v ++ uq)[nx + i]? = some uq[i] := by
          rw [List.getElem?_append_right (by omega)]
          rw [show nx + i - v.length = i by omega]
          exact List.getElem?_eq_getElem h2
        simp [yev, yevT, e1]
  have kB : ∀ i z, p ≤ i → (yvt v sg ++ uq)[i]? = some z → (v ++ uq)[nx + (i - p)]? = some z := by
    intro i z hi hz
    rw [List.getElem?_append_right (by omega)] at hz ⊢
    rw [show nx + (i - p) - v.length = i - (yvt v sg).length by omega]
    exact hz
  rw [← hvt] at g12 g13 g3 g4 g2
  obtain ⟨B1, b1, h⟩ := yapB_ok (u := v ++ uq) (vq := yvt v sg ++ uq) kB h (by rw [hvt] at g12; exact g12) (yRB_mono hR.2.1)
  obtain ⟨M1, h, m1⟩ := yapM_ok (ws := ws1) hs1 h g3 fun x hx => by
    obtain ⟨x1, x2⟩ := List.mem_filter.mp hx
    exact yMk_mono (ykeM_ok hW hW1 hF x2 (hM x x1))
  obtain ⟨Q1, h, q1⟩ := yapP_ok (ws := ws1) hs1 h g4 fun x hx => by
    obtain ⟨x1, x2⟩ := List.mem_filter.mp hx
    exact yPk_mono (ykeP_ok h9 hA hW hW1 hF x2 (hQ x x1))
  rw [zst_eq] at h
  have hR1 : yRS (v ++ uq) (nx + (nq - p), B1, F, Z, M1, Q1) := ⟨by simp [hnx, hul], b1, yRF_mono hR.2.2.1, yRZ_mono hR.2.2.2⟩
  obtain ⟨s1, h, r1, e1⟩ := yapR_ok hs1 h g12 hR1
  obtain ⟨s2, h, r2, e2⟩ := yapF_ok hs1 h g13 r1
  have e3 : s2.2.2.2.2 = (M1, Q1) := e2.trans e1
  have fM : ∀ x ∈ s2.2.2.2.2.1, yMk b sz sr (v ++ uq) ws1 x := by rw [e3]; exact m1
  have fQ : ∀ x ∈ s2.2.2.2.2.2, yPk sr (v ++ uq) ws1 x := by rw [e3]; exact q1
  split at h
  · exact ⟨none, s2, h, r2, g2, fM, fQ⟩
  · rename_i a
    obtain ⟨w, rfl, hw⟩ := g2
    obtain ⟨x, h, hx⟩ := yfA_ok hs1 h hw
    exact ⟨some x, s2, h, r2, ⟨w, rfl, hx⟩, fM, fQ⟩
theorem yappS_mem {p : Nat} {ms : List (Nat × Nat)} {kk : Option yA → yS → Bool} : ∀ {qs : List yPost}, yappS tt st sg p ms qs kk = true → ∀ q ∈ qs, yapp tt st sg p ms q kk = true := by
  intro qs
  induction qs with
  | nil => intro _ q hq; cases hq
  | cons q0 t ih =>
    intro h q hq
    have h : (yapp tt st sg p ms q0 kk && yappS tt st sg p ms t kk) = true := h
    rw [Bool.and_eq_true] at h
    rcases List.mem_cons.mp hq with rfl | hq
    · exact h.1
    · exact ih h.2 q hq
theorem ymo_mem {l1 : List (Nat × Nat)} {t f : Nat} : ymo (some l1) t f = true ↔ (t, f) ∈ l1 := by
  induction l1 with
  | nil =>
    constructor
    · intro h; cases h
    · intro h; cases h
  | cons q r ih =>
    show ((Nat.beq q.1 t && Nat.beq q.2 f) || ymo (some r) t f) = true ↔ _
    rw [Bool.or_eq_true, Bool.and_eq_true, ih, List.mem_cons]
    constructor
    · rintro (⟨h1, h2⟩ | h)
      · left; exact Prod.ext (Nat.eq_of_beq_eq_true h1).symm (Nat.eq_of_beq_eq_true h2).symm
      · exact Or.inr h
    · rintro (h | h)
      · left; cases h; exact ⟨Nat.beq_refl _, Nat.beq_refl _⟩
      · exact Or.inr h
theorem ysubm_ok {big : Option (List (Nat × Nat))} : ∀ {ms : List (Nat × Nat)}, ysubm ms big = true → ∀ t f, ymo (some ms) t f = true → ymo big t f = true := by
  intro ms
  induction ms with
  | nil => intro _ t f h; cases h
  | cons q r ih =>
    intro h t f hm
    have h : (ymo big q.1 q.2 && ysubm r big) = true := h
    rw [Bool.and_eq_true] at h
    rcases List.mem_cons.mp (ymo_mem.mp hm) with e | e
    · cases e; exact h.1
    · exact ih h.2 t f (ymo_mem.mpr e)
theorem yFr_sub {ms : List (Nat × Nat)} {big : Option (List (Nat × Nat))} (h : ysubm ms big = true) (hF : yFr sr (some ms) ws ws1) : yFr sr big ws ws1 := by
  intro i t j q0 q g1 g2 g3 g4
  refine hF i t j q0 q g1 g2 g3 ?_
  cases hm : ymo (some ms) t (yfk q.2 j) with
  | false => rfl
  | true => rw [ysubm_ok h _ _ hm] at g4; cases g4
theorem ycts_ok {big : Option (List (Nat × Nat))} {j : Nat} {Bm : Int} {as : List yA} {bud : yE} {kk : Option yA → yS → Bool} (h9 : yT9 sr) (hA : yArK tt) : ∀ {cs : List yCt}, (∀ c ∈ cs, yCtT l sr tt mi Bm j c) → ycts tt big cs as st bud kk = true →
    ∀ (y : MethodName) (cc : ByteArray) (maxL : Nat) (ret : Option FieldType) (kind na : Nat), zget mi j = some (y, cc, maxL, ret, kind, na) →
      ∀ (v : List Int) (B0 : Int), yev v bud = some B0 → B0 ≤ Bm → yRS v st → ∀ (b sz n : Nat) (xs : Nat → Int32) (D : va_G) (ca : Nat → ClassId) (ws : va_W), b < sz →
        ∃ f : Nat, (f : Int) + 1 ≤ B0 ∧ Met l y (zws y cc maxL ret) { frames := f, cells := 0, slots := 0, locals := 60 * f } (yPc b sz sr tt D ca n xs ws v as st) (yQc b sz sr tt D ca big ws v kk) 0 0 (zA sz) := by
  intro cs
  induction cs with
  | nil => intro _ h; cases h
  | cons c0 t ih =>
    intro hT h y cc maxL ret kind na hj v B0 hb hBm hR b sz n xs D ca ws hbz
    have hT2 : ∀ c ∈ t, yCtT l sr tt mi Bm j c := fun c hc => hT c (List.mem_cons_of_mem _ hc)
    obtain ⟨⟨at_, tp⟩, rk, ms, qs⟩ := c0
    have h : (yfinS (yasP st.2.2.2.2.2 tp.2.2.2.2.2 (yasM st.2.2.2.2.1 tp.2.2.2.2.1 (yasL at_ as (ynone tp.1)))) fun sg => match ychL st sg at_ as && ychS st sg tp with
      | true => ysubm ms big && ((match ysuE sg rk with
        | some r => ylS st (yoff (ysu r bud) 1)
        | none => false) && yappS tt st sg tp.1 ms qs kk)
      | false => ycts tt big t as st bud kk) = true := h
    obtain ⟨sg, h⟩ := yfinS_ok h
    split at h
    · rename_i hc
      rw [Bool.and_eq_true] at hc
      simp only [Bool.and_eq_true] at h
      obtain ⟨h1, h2, h3⟩ := h
      obtain ⟨hs, hl, hRt, hMQ⟩ := ychS_ok (b := b) (sz := sz) (sr := sr) h9 hR hc.2
      obtain ⟨r, e1, e2, hMet⟩ := hT _ List.mem_cons_self y cc maxL ret kind na hj _ hRt
      split at h2
      · rename_i r1 hr1
        obtain ⟨z, k1, k2⟩ := ysuE_ok hs hr1
        have e1 : yev (yvt v sg) rk = some (r : Int) := e1
        rw [e1] at k2
        cases k2
        have := ylS_ok h2 hR (yoff_ok (ysu_ok k1 hb))
        refine ⟨r, by omega, MetFree.mono (hMet (by omega) b sz n xs D ca ws hbz) ?_ (fun _ _ _ _ _ w => w) ?_⟩
        · rintro a U ⟨vs, p1, p2, p3, ⟨p4, p5, p6, p7, p8⟩, p9⟩
          obtain ⟨m1, m2⟩ := hMQ p7 p8
          exact ⟨vs, p1, ychL_ok hs hR hc.1 p2, hRt, ⟨p4, p5, p6, m1, m2⟩, p9⟩
        · rintro a s o s1 ⟨vs, p1, p2, p3, ⟨p4, p5, p6, p7, p8⟩, p9⟩ ⟨⟨⟨rv, q, uq, ws1, q1, q2, q3, q4, q5, q6, q7, q8, q9, q10⟩, q11, q12⟩, q13⟩
          obtain ⟨r0, st1, w1, w2, w3, w4, w5⟩ := yapp_ok h9 hA hR hs hl p4 q5 q10 p7 p8 (yappS_mem h3 q q2) q3 q4 q8 q9
          exact ⟨⟨⟨rv, r0, st1, uq, ws1, q1, w1, w2, w3, q5, q6, q7, w4, w5, yFr_sub h1 q10⟩, q11, q12⟩, q13⟩
      · cases h2
    · exact ih hT2 h y cc maxL ret kind na hj v B0 hb hBm hR b sz n xs D ca ws hbz
end yCon
