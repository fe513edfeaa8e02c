/-! Contracts that say more: a contract of the second machine, and what the third says of the method. -/
noncomputable section
/-- what lies in the cells -/
def xIm (sz : Nat) (ws : va_W) : xC := fun i j => match ws[i]? with
  | some c => (match yct c.2 j with
    | some (.int x) => x.toInt
    | some (.long x) => x.toInt
    | some (.ref a) => (a : Int) - (sz : Int)
    | _ => 0)
  | none => 0
/-- is a field a ref to that cell -/
def xrfB (i k c : Nat) : Bool := match zget ySr i with
  | some t => (match zget xtt t with
    | some (_, .inl (_, rs)) => (match rs[k]? with
      | some (.inr (.inr t1)) => Nat.beq ySr.length 126 && (List.range 126).all fun n => match zget ySr n with
        | some t2 => !(Nat.beq t2 t1) || Nat.beq n c
        | none => true
      | _ => false)
    | _ => false)
  | none => false
/-- is it an int -/
def xinB (i t k : Nat) : Bool := (match zget ySr i with
  | some t1 => Nat.beq t1 t
  | none => false) && (match zget xtt t with
  | some (_, .inl (_, rs)) => (match rs[k]? with
    | some (.inl _) => true
    | _ => false)
  | _ => false)
/-- is it an array of ints -/
def xarB (i t : Nat) : Bool := (match zget ySr i with
  | some t1 => Nat.beq t1 t
  | none => false) && (match zget xtt t with
  | some (_, .inr (kd, _, _)) => Nat.blt kd 3
  | _ => false)
end
section xStrong
variable {b sz : Nat} {ca : Nat → ClassId} {ws ws1 : va_W} {D : va_G} {H : Heap} {l : Launch} {tt : List yKd} {sr : List Nat} {v : List Int} {C1 : xC}
theorem xwk_all : xwkT yTt xtt = true := by decide +kernel
theorem xIm_at {i j : Nat} {c : Nat × va_E} {w : Value} (hc : ws[i]? = some c) (hw : yct c.2 j = some w) : xIm sz ws i j = (match (some w : Option Value) with
    | some (.int x) => x.toInt
    | some (.long x) => x.toInt
    | some (.ref a) => (a : Int) - (sz : Int)
    | _ => 0) := by
  unfold xIm
  rw [hc]
  dsimp only
  rw [hw]
theorem xIm_ct (hW : yWd sz sr tt ca ws) : xCt sz (xIm sz ws) ws := by
  intro i j c w hc hw
  rw [xIm_at hc hw]
  cases w with
  | int x => rfl
  | long x => rfl
  | ref a =>
    obtain ⟨h1, t, kd, h2, h3, h4⟩ := hW.2 i c hc
    have key : ∃ k : Nat, a = sz + k := by
      obtain ⟨q, ⟨ci, rs⟩ | ⟨kd, len, ar⟩⟩ := kd
      · obtain ⟨vs, e1, e2, e3, e4⟩ := h4
        rw [e1] at hw
        have hw : vs[j]? = some (.ref a) := hw
        have hj : j < rs.length := by rw [← e2]; exact (List.getElem?_eq_some_iff.mp hw).1
        have h5 := e4 j rs[j] _ (List.getElem?_eq_getElem hj) hw
        generalize rs[j] = ru at h5
        rcases ru with q | u | t'
        · obtain ⟨x, e, -⟩ := h5
          cases e
        · obtain ⟨x, e⟩ := h5
          cases e
        · obtain ⟨k, e, -⟩ := h5
          cases e
          exact ⟨k, rfl⟩
      · rcases h4 with ⟨-, f, e1, -⟩ | ⟨-, f, e1⟩
        · rw [e1] at hw
          have hw : (if j < len then some (Value.int (f j)) else none) = some (.ref a) := hw
          split at hw <;> cases hw
        · rw [e1] at hw
          have hw : (if j < len then some (Value.long (f j)) else none) = some (.ref a) := hw
          split at hw <;> cases hw
    obtain ⟨k, rfl⟩ := key
    exact ⟨k, rfl, by show ((sz + k : Nat) : Int) - (sz : Int) = (k : Int); omega⟩
  | _ => trivial
/-- a heap tells what lies in the cells -/
theorem yct_one (hW : yWd sz ySr xtt ca ws) (hW1 : yWd sz ySr xtt ca ws1) (hP : va_P D vwCl ws H) (hP1 : va_P D vwCl ws1 H) {i : Nat} {c c1 : Nat × va_E} (h : ws[i]? = some c) (h1 : ws1[i]? = some c1) (j : Nat) : yct c.2 j = yct c1.2 j := by
  obtain ⟨a1, t, kd, a2, a3, a4⟩ := hW.2 i c h
  obtain ⟨b1, t', kd', b2, b3, b4⟩ := hW1.2 i c1 h1
  rw [a2] at b2
  have b2 := Option.some.inj b2
  subst b2
  rw [a3] at b3
  have b3 := Option.some.inj b3
  subst b3
  have p := hP i c h
  have p1 := hP1 i c1 h1
  unfold va_at at p p1
  rw [a1] at p
  rw [b1] at p1
  obtain ⟨q, ⟨ci, rs⟩ | ⟨k, len, ar⟩⟩ := kd
  · obtain ⟨vs, e1, e2, ⟨r, e3, e3b⟩, -⟩ := a4
    obtain ⟨vs1, f1, f2, ⟨r1, f3, f3b⟩, -⟩ := b4
    rw [e1] at p ⊢
    rw [f1] at p1 ⊢
    obtain ⟨r2, p2, p3⟩ := p
    obtain ⟨r3, q2, q3⟩ := p1
    have p2 : vwCl[ci]? = some r2 := p2
    have q2 : vwCl[ci]? = some r3 := q2
    rw [e3] at p2 q2
    have p2 := Option.some.inj p2
    have q2 := Option.some.inj q2
    subst p2
    subst q2
    obtain ⟨cell, m1, -, -, m2⟩ := p3
    obtain ⟨cell1, n1, -, -, n2⟩ := q3
    rw [m1] at n1
    have n1 := Option.some.inj n1
    subst n1
    show vs[j]? = vs1[j]?
    by_cases hj : j < r.2.2
    · have g1 : cell.slots[D.2 ci j]? = some (vp_V vs j) := m2 j hj
      have g2 : cell.slots[D.2 ci j]? = some (vp_V vs1 j) := n2 j hj
      rw [g1] at g2
      have g2 : vs.getD j .null = vs1.getD j .null := Option.some.inj g2
      have h1 : j < vs.length := by omega
      have h2 : j < vs1.length := by omega
      rw [List.getD_eq_getElem?_getD, List.getD_eq_getElem?_getD, List.getElem?_eq_getElem h1, List.getElem?_eq_getElem h2] at g2
      rw [List.getElem?_eq_getElem h1, List.getElem?_eq_getElem h2]
      exact congrArg some g2
    · rw [List.getElem?_eq_none (by omega), List.getElem?_eq_none (by omega)]
  · rcases a4 with ⟨k3, f, e1, -⟩ | ⟨k3, f, e1⟩
    · rcases b4 with ⟨k4, f1, e2, -⟩ | ⟨k4, f1, e2⟩
      · rw [e1] at p ⊢
        rw [e2] at p1 ⊢
        have p : H[sz + i]? = some (vp_cell (ca k) (len, .inl f)) := p
        have p1 : H[sz + i]? = some (vp_cell (ca k) (len, .inl f1)) := p1
        have hs := congrArg (fun c : Cell => c.slots[j]?) (Option.some.inj (p.symm.trans p1))
        have hs : (Array.ofFn (n := len) fun j => Value.int (f j.val))[j]? = (Array.ofFn (n := len) fun j => Value.int (f1 j.val))[j]? := hs
        show (if j < len then some (Value.int (f j)) else none) = (if j < len then some (Value.int (f1 j)) else none)
        by_cases hj : j < len
        · rw [if_pos hj, if_pos hj]
          simpa [Array.getElem?_ofFn, hj] using hs
        · rw [if_neg hj, if_neg hj]
      · omega
    · rcases b4 with ⟨k4, f1, e2, -⟩ | ⟨k4, f1, e2⟩
      · omega
      · rw [e1] at p ⊢
        rw [e2] at p1 ⊢
        have p : H[sz + i]? = some (vp_cell (ca 3) (len, .inr (.inl f))) := p
        have p1 : H[sz + i]? = some (vp_cell (ca 3) (len, .inr (.inl f1))) := p1
        have hs := congrArg (fun c : Cell => c.slots[j]?) (Option.some.inj (p.symm.trans p1))
        have hs : (Array.ofFn (n := len) fun j => Value.long (f j.val))[j]? = (Array.ofFn (n := len) fun j => Value.long (f1 j.val))[j]? := hs
        show (if j < len then some (Value.long (f j)) else none) = (if j < len then some (Value.long (f1 j)) else none)
        by_cases hj : j < len
        · rw [if_pos hj, if_pos hj]
          simpa [Array.getElem?_ofFn, hj] using hs
        · rw [if_neg hj, if_neg hj]
theorem xM_met {d R j rk n : Nat} {as : List xV} {C : xC} {z : Int} {xs : Nat → Int32} {y : MethodName} {cc : ByteArray} {maxL : Nat} {ret : Option FieldType} {kind na : Nat} (hR : d + 4 ≤ R) (h : xM (d + 1) j as C = some (z, C1)) (hj : zget zMi j = some (y, cc, maxL, ret, kind, na)) (hrk : zget xRk j = some rk) (hb : b < sz) :
    Met l y (zws y cc maxL ret) { frames := R, cells := 0, slots := 0, locals := 60 * R } (xPc b sz ySr xtt D ca n xs as C) (xQc sz ySr xtt D ca rk z C1) 0 0 (zA sz) := by
  have ih : xCallOk l ySr xtt zMi xRk (xM d) R := by
    intro j as C z C1 h y cc maxL ret kind na rk hj hrk b sz n xs D ca hb
    obtain ⟨f, h1, h2⟩ := xM_ok l d j as C z C1 h y cc maxL ret kind na rk hj hrk b sz n xs D ca hb
    exact ⟨f, by omega, h2⟩
  cases hm : zget zMt j with
  | none => simp only [xM, hm] at h; cases h
  | some q =>
    obtain ⟨nL, cd⟩ := q
    simp only [xM, hm, hrk] at h
    obtain ⟨e1, -⟩ := zCdOK_all.2 j y cc maxL ret kind na hj nL cd hm
    subst e1
    cases hl : decide ((xentry as).length ≤ nL) with
    | false => rw [hl] at h; cases h
    | true =>
      rw [hl] at h
      obtain ⟨N, hN⟩ := xgoL_some.mp (show xgoL cd (xM d) (xstop j) rk (xstart nL as C) = some (z, C1) from h)
      obtain ⟨cf1, i, a, b1, w, k1, k2, k3, k4⟩ := xgo_rch hN
      exact xmeth (P := xPr) zClsOK_all zMiOK_all zCdOK_all (xM_none d) rfl xlen31 (by omega) ih hj hm hb (of_decide_eq_true hl) ⟨N, cf1, i, a, b1, w, k1, k2, k3, k4⟩
theorem yCt_strong {Bm : Int} {j : Nat} {ct ct' : yCt} {R d rk : Nat} (hdR : d + 4 ≤ R) (hR1 : 1 ≤ R) (hrk : zget xRk j = some rk) (hbase : yCtT l ySr yTt zMi Bm j ct) (hargs : ct'.1.1 = ct.1.1) (hr : ct.2.1 = ([], .ofNat R)) (hr' : ct'.2.1 = ([], .ofNat R)) (hms : ct'.2.2.1 = ct.2.2.1)
    (hst : ∀ vt, yRS vt ct'.1.2 → yRS vt ct.1.2) (hM : ∀ q ∈ ct.1.2.2.2.2.2.1, q ∈ ct'.1.2.2.2.2.2.1) (hP : ∀ q ∈ ct.1.2.2.2.2.2.2, q ∈ ct'.1.2.2.2.2.2.2)
    (H : ∀ (b sz : Nat) (vt : List Int) (ws : va_W) (ca : Nat → ClassId), yRS vt ct'.1.2 → yWd sz ySr yTt ca ws → (∀ q ∈ ct'.1.2.2.2.2.2.1, yMk b sz ySr vt ws q) → (∀ q ∈ ct'.1.2.2.2.2.2.2, yPk ySr vt ws q) → (∃ vs, ySR b sz ySr vt ct'.1.1 vs) →
      ∃ (as : List xV) (z : Int) (C1 : xC), (∀ vs, ySR b sz ySr vt ct'.1.1 vs → xSR b sz ySr as vs) ∧ xM (d + 1) j as (xIm sz ws) = some (z, C1) ∧
        ∀ (ws1 : va_W) (rv : Option Value) (q : yPost) (u : List Int), yWd sz ySr yTt ca ws1 → yFr ySr (some ct.2.2.1) ws ws1 → xCt sz C1 ws1 → xRet rk z rv → q ∈ ct.2.2.2 → yRS (vt ++ u) q.2 → yRet b sz ySr (vt ++ u) q.1 rv → (∀ x ∈ q.2.2.2.2.2.1, yMk b sz ySr (vt ++ u) ws1 x) → (∀ x ∈ q.2.2.2.2.2.2, yPk ySr (vt ++ u) ws1 x) →
          ∃ q' ∈ ct'.2.2.2, ∃ u', yRS (vt ++ u') q'.2 ∧ yRet b sz ySr (vt ++ u') q'.1 rv ∧ (∀ x ∈ q'.2.2.2.2.2.1, yMk b sz ySr (vt ++ u') ws1 x) ∧ ∀ x ∈ q'.2.2.2.2.2.2, yPk ySr (vt ++ u') ws1 x) : yCtT l ySr yTt zMi Bm j ct' := by
  intro y cc maxL ret kind na hj vt hRS
  obtain ⟨r, hr1, hr2, hmet⟩ := hbase y cc maxL ret kind na hj vt (hst vt hRS)
  have er : r = R := by
    rw [hr] at hr1
    have h0 : yev vt (([], .ofNat R) : yE) = some (R : Int) := yev_cn vt (R : Int)
    rw [h0] at hr1
    have := Option.some.inj hr1
    omega
  subst er
  refine ⟨r, by rw [hr']; exact yev_cn vt (r : Int), hR1, fun hB b sz n xs D ca ws hbz => ?_⟩
  have M1 := hmet hB b sz n xs D ca ws hbz
  intro p e ha hc hk s m args below hf happ hPre hK
  obtain ⟨vs, e1, e2, e3, ⟨e4, e5, e6, e7, e8⟩, e9, e10, e11, e12⟩ := hPre
  obtain ⟨as, z, C1, g1, g2, g3⟩ := H b sz vt ws ca hRS e4 e7 e8 ⟨vs, e2⟩
  have M2 := xM_met (l := l) (n := n) (xs := xs) (D := D) (ca := ca) hdR g2 hj hrk hbz
  have hW0 := yWd_weak xwk_all e4
  obtain ⟨k, o, w1, r1, e', ⟨⟨⟨rv, q, u, ws1, q1, q2, q3, q4, q5, q6, q7, q8, q9, q10⟩, z1, z2⟩, ⟨⟨rv2, x1, x2⟩, ⟨ws2, x3, x4, x5, x6⟩, -⟩⟩, fr⟩ := Met_both M1 M2 p e ha hc hk s m args below hf happ ⟨⟨vs, e1, by rw [← hargs]; exact e2, hst vt e3, ⟨e4, e5, e6, fun q hq => e7 q (hM q hq), fun q hq => e8 q (hP q hq)⟩, e9, e10, e11, e12⟩, ⟨vs, e1, g1 vs e2, ⟨ws, hW0, e5, e6, xIm_ct e4⟩, e9, e10, e11, e12⟩⟩ hK
  rw [q1] at x1
  have x1 : rv = rv2 := by cases x1; rfl
  subst x1
  have hC1 : xCt sz C1 ws1 := by
    intro i j c w hc hw
    have hi : i < ws2.length := by rw [x3.1, ← q5.1]; exact (List.getElem?_eq_some_iff.mp hc).1
    have hc2 := List.getElem?_eq_getElem hi
    refine x6 i j _ w hc2 ?_
    rw [← hw]
    exact yct_one x3 (yWd_weak xwk_all q5) x4 q6 hc2 hc j
  obtain ⟨q', h1, u', h2, h3, h4, h5⟩ := g3 ws1 rv q u q5 q10 hC1 x2 q2 q3 q4 q8 q9
  exact ⟨k, o, w1, r1, e', ⟨⟨rv, q', u', ws1, q1, h1, h2, h3, q5, q6, q7, h4, h5, by rw [hms]; exact q10⟩, z1, z2⟩, fr⟩
-- what single cells hold
theorem xCell (hW : yWd sz ySr yTt ca ws) {i t : Nat} (hi : zget ySr i = some t) : ∃ (c : Nat × va_E) (kd : yKd), ws[i]? = some c ∧ zget xtt t = some kd ∧ yTy sz ySr ca kd c.2 := by
  have hW0 := yWd_weak xwk_all hW
  rw [zget_eq] at hi
  have hl : i < ws.length := by rw [hW.1]; exact (List.getElem?_eq_some_iff.mp hi).1
  obtain ⟨h1, t', kd, h2, h3, h4⟩ := hW0.2 i ws[i] (List.getElem?_eq_getElem hl)
  rw [hi] at h2
  have h2 := Option.some.inj h2
  subst h2
  exact ⟨ws[i], kd, List.getElem?_eq_getElem hl, h3, h4⟩
theorem xIm_rf (hW : yWd sz ySr yTt ca ws) {i k c : Nat} (h : xrfB i k c = true) : xIm sz ws i k = (c : Int) := by
  unfold xrfB at h
  split at h
  · rename_i t ht
    obtain ⟨cl, kd, g1, g2, g3⟩ := xCell hW ht
    rw [g2] at h
    split at h
    · rename_i q ci rs he
      have he := Option.some.inj he
      subst he
      obtain ⟨vs, e1, e2, e3, e4⟩ := g3
      split at h
      · rename_i t1 hk
        rw [Bool.and_eq_true] at h
        have hkl : k < vs.length := by rw [e2]; exact (List.getElem?_eq_some_iff.mp hk).1
        have hv := List.getElem?_eq_getElem hkl
        obtain ⟨n, w1, w2⟩ := e4 k _ _ hk hv
        have hn : n < 126 := by
          have := (List.getElem?_eq_some_iff.mp w2).1
          rwa [Nat.eq_of_beq_eq_true h.1] at this
        have h2 := List.all_eq_true.mp h.2 n (List.mem_range.mpr hn)
        rw [zget_eq, w2] at h2
        simp only [Bool.or_eq_true, Bool.not_eq_true'] at h2
        have hc : n = c := by
          rcases h2 with h2 | h2
          · rw [show Nat.beq t1 t1 = true from Nat.beq_refl t1] at h2; cases h2
          · exact Nat.eq_of_beq_eq_true h2
        subst hc
        have hy : yct cl.2 k = some (.ref (sz + n)) := by rw [e1, ← w1]; exact hv
        rw [xIm_at g1 hy]
        show ((sz + n : Nat) : Int) - (sz : Int) = (n : Int)
        omega
      · cases h
    · cases h
  · cases h
theorem yMk_int {e ix a : yE} {t i j : Nat} {z : Int} (h : yMk b sz sr v ws ((e, t, ix), .inl a)) (he : yev v e = some (i : Int)) (hix : yev v ix = some (j : Int)) (ha : yev v a = some z) : xIm sz ws i j = z := by
  obtain ⟨i', j', c, w, h1, h2, h3, h4, h5, h6⟩ := h
  rw [he] at h1
  rw [hix] at h3
  have e1 : i = i' := by have := Option.some.inj h1; omega
  have e2 : j = j' := by have := Option.some.inj h3; omega
  subst e1
  subst e2
  obtain ⟨x, rfl, hx⟩ := h6
  rw [ha] at hx
  rw [xIm_at h4 h5]
  exact (Option.some.inj hx).symm
theorem yMk_ref {e ix a : yE} {t t1 i j n : Nat} (h : yMk b sz sr v ws ((e, t, ix), .inr (.inr (.inl (a, t1))))) (he : yev v e = some (i : Int)) (hix : yev v ix = some (j : Int)) (ha : yev v a = some (n : Int)) : xIm sz ws i j = (n : Int) := by
  obtain ⟨i', j', c, w, h1, h2, h3, h4, h5, h6⟩ := h
  rw [he] at h1
  rw [hix] at h3
  have e1 : i = i' := by have := Option.some.inj h1; omega
  have e2 : j = j' := by have := Option.some.inj h3; omega
  subst e1
  subst e2
  obtain ⟨x, rfl, hx, -⟩ := h6
  rw [ha] at hx
  have hx : n = x := by have := Option.some.inj hx; omega
  subst hx
  rw [xIm_at h4 h5]
  show ((sz + n : Nat) : Int) - (sz : Int) = (n : Int)
  omega
theorem yMk_of {e ix a : yE} {t i k : Nat} (hW : yWd sz ySr yTt ca ws1) (hC : xCt sz C1 ws1) (h : xinB i t k = true) (he : yev v e = some (i : Int)) (hix : yev v ix = some (k : Int)) (ha : yev v a = some (C1 i k)) : yMk b sz ySr v ws1 ((e, t, ix), .inl a) := by
  unfold xinB at h
  rw [Bool.and_eq_true] at h
  obtain ⟨h1, h2⟩ := h
  split at h1
  · rename_i t1 ht
    have h1 := Nat.eq_of_beq_eq_true h1
    subst h1
    obtain ⟨cl, kd, g1, g2, g3⟩ := xCell hW ht
    rw [g2] at h2
    split at h2
    · rename_i q ci rs hq
      have hq := Option.some.inj hq
      subst hq
      obtain ⟨vs, e1, e2, e3, e4⟩ := g3
      split at h2
      · rename_i q1 hk
        have hkl : k < vs.length := by rw [e2]; exact (List.getElem?_eq_some_iff.mp hk).1
        have hv := List.getElem?_eq_getElem hkl
        obtain ⟨x, w1, -⟩ := e4 k _ _ hk hv
        have hy : yct cl.2 k = some (.int x) := by rw [e1, ← w1]; exact hv
        have hx : C1 i k = x.toInt := hC i k cl _ g1 hy
        rw [zget_eq] at ht
        exact ⟨i, k, cl, _, he, ht, hix, g1, hy, x, rfl, by rw [ha, hx]⟩
      · cases h2
    · cases h2
  · cases h1
/-- an int that lies in a field is one -/
theorem xIn_le {t i k : Nat} (hW : yWd sz ySr yTt ca ws1) (hC : xCt sz C1 ws1) (h : xinB i t k = true) : -2147483648 ≤ C1 i k ∧ C1 i k ≤ 2147483647 := by
  unfold xinB at h
  rw [Bool.and_eq_true] at h
  obtain ⟨h1, h2⟩ := h
  split at h1
  · rename_i t1 ht
    have h1 := Nat.eq_of_beq_eq_true h1
    subst h1
    obtain ⟨cl, kd, g1, g2, g3⟩ := xCell hW ht
    rw [g2] at h2
    split at h2
    · rename_i q ci rs hq
      have hq := Option.some.inj hq
      subst hq
      obtain ⟨vs, e1, e2, e3, e4⟩ := g3
      split at h2
      · rename_i q1 hk
        have hkl : k < vs.length := by rw [e2]; exact (List.getElem?_eq_some_iff.mp hk).1
        have hv := List.getElem?_eq_getElem hkl
        obtain ⟨x, w1, -⟩ := e4 k _ _ hk hv
        have hy : yct cl.2 k = some (.int x) := by rw [e1, ← w1]; exact hv
        have hx : C1 i k = x.toInt := hC i k cl _ g1 hy
        have a1 := x.le_toInt
        have a2 := x.toInt_lt
        rw [hx]
        constructor
        · simpa using a1
        · omega
      · cases h2
    · cases h2
  · cases h1
theorem yKo_im {t i : Nat} (hW : yWd sz ySr yTt ca ws) (hi : Nat.beq (yiw ySr t) i = true) (h : xarB i t = true) : yKo ySr ws t = xIm sz ws i := by
  have hi := Nat.eq_of_beq_eq_true hi
  unfold xarB at h
  rw [Bool.and_eq_true] at h
  obtain ⟨h1, h2⟩ := h
  split at h1
  · rename_i t1 ht
    have h1 := Nat.eq_of_beq_eq_true h1
    subst h1
    obtain ⟨cl, kd, g1, g2, g3⟩ := xCell hW ht
    rw [g2] at h2
    funext j
    unfold yKo xIm
    rw [hi, g1]
    dsimp only
    split at h2
    · rename_i q kk len ar hq
      have hq := Option.some.inj hq
      subst hq
      rw [Nat.blt_eq] at h2
      rcases g3 with ⟨-, f, e1, -⟩ | ⟨k3, f, e1⟩
      · rw [e1]
        show (match (if j < len then some (Value.int (f j)) else none) with
          | some (.int x) => x.toInt
          | _ => 0) = (match (if j < len then some (Value.int (f j)) else none) with
          | some (.int x) => x.toInt
          | some (.long x) => x.toInt
          | some (.ref a) => (a : Int) - (sz : Int)
          | _ => 0)
        by_cases hj : j < len
        · rw [if_pos hj]
        · rw [if_neg hj]
      · omega
    · cases h2
  · cases h1
/-- an array that a method doesn't write -/
theorem yKo_fr {t i : Nat} {ms : List (Nat × Nat)} (hW : yWd sz ySr yTt ca ws) (hW1 : yWd sz ySr yTt ca ws1) (hF : yFr ySr (some ms) ws ws1) (hi : Nat.beq (yiw ySr t) i = true) (h : xarB i t = true) (hm : ymo (some ms) t 0 = false) : yKo ySr ws1 t = yKo ySr ws t := by
  have hi := Nat.eq_of_beq_eq_true hi
  unfold xarB at h
  rw [Bool.and_eq_true] at h
  obtain ⟨h1, h2⟩ := h
  split at h1
  · rename_i t1 ht
    have h1 := Nat.eq_of_beq_eq_true h1
    subst h1
    obtain ⟨cl, kd, g1, g2, g3⟩ := xCell hW ht
    obtain ⟨cl1, kd1, f1, f2, f3⟩ := xCell hW1 ht
    rw [g2] at f2
    have f2 := Option.some.inj f2
    subst f2
    rw [g2] at h2
    split at h2
    · rename_i q kk len ar hq
      have hq := Option.some.inj hq
      subst hq
      funext j
      unfold yKo
      rw [hi, g1, f1]
      dsimp only
      rw [zget_eq] at ht
      rw [hF i t1 j cl cl1 g1 f1 ht (by
        have e : yfk cl1.2 j = 0 := by
          rcases f3 with ⟨-, f, e1, -⟩ | ⟨-, f, e1⟩ <;> rw [e1] <;> rfl
        rw [e]
        exact hm)]
    · cases h2
  · cases h1
end xStrong
