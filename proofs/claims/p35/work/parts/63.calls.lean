/-! The third machine's calls; any instruction of it; its runs; a method. -/
section xCalls
def xRet : Nat → Int → Option Value → Prop
  | 0, _, rv => rv = none
  | 1, z, rv => ∃ x : Int32, rv = some (.int x) ∧ x.toInt = z
  | _, z, rv => ∃ x : Int64, rv = some (.long x) ∧ x.toInt = z
def xPc (b sz : Nat) (sr : List Nat) (tt : List yKd) (D : va_G) (ca : Nat → ClassId) (n : Nat) (xs : Nat → Int32) (as : List xV) (C : xC) : Array Value → State → Prop := fun a U =>
  ∃ vs, a = vs.toArray ∧ xSR b sz sr as vs ∧ (∃ ws, yWd sz sr tt ca ws ∧ va_P D vwCl ws U.heap ∧ va_D (zA sz) ws ∧ xCt sz C ws) ∧ sz ≤ U.heap.size ∧ va_K D vwCl (zTys ca) U ∧ va_X b n xs U U.heap ∧ yWat sz U
def xQc (sz : Nat) (sr : List Nat) (tt : List yKd) (D : va_G) (ca : Nat → ClassId) (rk : Nat) (z : Int) (C1 : xC) : Array Value → State → Outcome → State → Prop := fun _ st o t =>
  (∃ rv, o = .returned rv ∧ xRet rk z rv) ∧ (∃ ws, yWd sz sr tt ca ws ∧ va_P D vwCl ws t.heap ∧ va_D (zA sz) ws ∧ xCt sz C1 ws) ∧ st.heap.size ≤ t.heap.size ∧ ∀ q : Nat, q < sz → t.heap[q]? = st.heap[q]?
/-- calls that have an answer are as they were answered -/
def xCallOk (l : Launch) (sr : List Nat) (tt : List yKd) (mi : List zMInfo) (rks : List Nat) (call : xCl) (B0 : Nat) : Prop :=
  ∀ (j : Nat) (as : List xV) (C : xC) (z : Int) (C1 : xC), call j as C = some (z, C1) →
    ∀ (y : MethodName) (cc : ByteArray) (maxL : Nat) (ret : Option FieldType) (kind na rk : Nat), zget mi j = some (y, cc, maxL, ret, kind, na) → zget rks j = some rk →
      ∀ (b sz n : Nat) (xs : Nat → Int32) (D : va_G) (ca : Nat → ClassId), b < sz →
        ∃ f : Nat, f + 1 ≤ B0 ∧ Met l y (zws y cc maxL ret) { frames := f, cells := 0, slots := 0, locals := 60 * f } (xPc b sz sr tt D ca n xs as C) (xQc sz sr tt D ca rk z C1) 0 0 (zA sz)
variable {p : Program} {l : Launch} {e : Env} {R : Room} {s : State} {m : MethodId} {args : Array Value} {below : List Frame} {meth : Method} {c : Code} {Q : State → Prop}
variable {b sz nL K0 S0 : Nat} {sr : List Nat} {tt : List yKd} {D : va_G} {ca : Nat → ClassId} {ws : va_W} {cc : ByteArray}
variable {pc : Nat} {L : List (Option xV)} {S : List xV} {C C1 : xC} {E : Type} {k : xCf → Option E} {r : E} {H : Heap} {locs : List Loc} {ls : Array Slot} {stk : List Value}
theorem xPc_blind {n : Nat} {xs : Nat → Int32} {as : List xV} : FrameBlind (xPc b sz sr tt D ca n xs as C) := by
  intro a U g mk h
  obtain ⟨vs, h1, h2, h4, h6, h7, h8, h9⟩ := h
  exact ⟨vs, h1, h2, h4, h6, va_K.moved (u := U) (U := U.calling g mk a) (Vm.Alike.refl U.vm) h7, va_X.moved (u := U) (U := U.calling g mk a) (Vm.Alike.refl U.vm) h8, yWat_call h9⟩
theorem x_pre {n : Nat} {xs : Nat → Int32} {as : List xV} {vs : List Value} (hW : yWd sz sr tt ca ws) (hP : va_P D vwCl ws H) (hD : va_D (zA sz) ws) (hV : va_S (zA sz) s.heap H locs) (hC : xCt sz C ws) (hK : va_K D vwCl (zTys ca) s) (hX : va_X b n xs s s.heap) (hN : yWat sz s) (hbz : b < sz) (hs : sz ≤ s.heap.size) (hS : xSR b sz sr as vs) :
    ∀ U : State, U.heap = H → s.WarmedH U.vm → xPc b sz sr tt D ca n xs as C vs.toArray U := by
  intro U hU hWm
  refine ⟨vs, rfl, hS, ⟨ws, hW, by rw [hU]; exact hP, hD, hC⟩, by rw [hU]; exact Nat.le_trans hs hV.1, va_K.moved hWm.alike hK, ?_, yWat_pre hN hV hU hWm⟩
  rw [hU]
  exact va_X.moved hWm.alike (hX.kept (hV.2.1 b (by omega) (Nat.not_le.mpr hbz)))
theorem x_after {q k1 rk : Nat} {z : Int} {a : Array Value} {st0 rest : List Value} (hr : va_Run p l e R s m args below meth c H locs k1 q 0 0 (F0 m pc ls st0) rest (xQc sz sr tt D ca rk z C1 a) (zA sz)) (hV : va_S (zA sz) s.heap H locs) (hs : sz ≤ s.heap.size)
    (fin : ∀ (rv : Option Value) (H1 : Heap) (locs1 : List Loc), xRet rk z rv → xHp sz sr tt D ca s C1 H1 locs1 → W p l e R s m args below meth c H1 locs1 k1 q Q (F0 m (pc + 3) ls (rv.toList ++ rest))) : W p l e R s m args below meth c H locs k1 q Q (F0 m pc ls st0) := by
  intro T hT X
  obtain ⟨vv, st₀, t, T', L, h0, X', hL, e1, e2, ⟨⟨rv, ho, g1⟩, ⟨ws1, g4, g5, g6, g7⟩, hz, hk⟩, st⟩ := hr T hT X
  cases ho
  rw [h0] at hz hk
  obtain ⟨t2, a1, b1⟩ := fin vv T'.heap (locs ++ L) g1 ⟨ws1, g4, by rw [e1]; exact g5, g6, ⟨Nat.le_trans hV.1 (by rw [e1]; exact hz), fun q h1 h2 => by rw [e1, hk q (Nat.not_le.mp h2)]; exact hV.2.1 q h1 h2, fun q hq => by
    rcases List.mem_append.mp hq with h | h
    · exact hV.2.2 q h
    · exact hL q h⟩, g7⟩ T' rfl X'
  exact ⟨t2, st t2 a1, b1⟩
theorem xpop_some {as r1 : List xV} {k1 : Nat} {acc : List xV} {ac : List Value} (h : xpop k1 S acc = some (as, r1)) (hS : xSR b sz sr S stk) (ha : xSR b sz sr acc ac) : ∃ vs st1, stk = vs ++ st1 ∧ vs.length = k1 ∧ xSR b sz sr as (vs.reverse ++ ac) ∧ xSR b sz sr r1 st1 := by
  induction k1 generalizing S acc stk ac with
  | zero =>
    simp only [xpop] at h
    cases h
    exact ⟨[], stk, rfl, rfl, ha, hS⟩
  | succ k1 ih =>
    cases S with
    | nil => simp [xpop] at h
    | cons a S =>
      obtain ⟨w, st1, rfl, hw, hS1⟩ := xSR_cons hS
      obtain ⟨vs, st2, e1, e2, e3, e4⟩ := ih (acc := a :: acc) (ac := w :: ac) (by simpa [xpop] using h) hS1 ⟨hw, ha⟩
      exact ⟨w :: vs, st2, by rw [e1]; rfl, by simp [e2], by simpa using e3, e4⟩
/-- what follows a call: one place -/
theorem xaft_ok {rk : Nat} {r0 : List xV} {q : Int × xC} (h : xaft rk pc L r0 k q = some r) : ∃ cf, k cf = some r ∧ (xAt p l e R s m args below meth c Q b sz sr tt D ca nL K0 S0 cf → ∀ (rv : Option Value) (H : Heap) (ls : Array Slot) (rest : List Value) (locs : List Loc), xRet rk q.1 rv → xHp sz sr tt D ca s q.2 H locs → xLR b sz sr ls nL L → xSR b sz sr r0 rest → W p l e R s m args below meth c H locs K0 S0 Q (F0 m (pc + 3) ls (rv.toList ++ rest))) := by
  unfold xaft at h
  split at h
  · exact ⟨_, h, fun hc rv H ls rest locs h1 h2 h3 h4 => by
      have e1 : rv = none := h1
      subst e1
      exact hc H ls rest locs h2 h3 h4⟩
  · exact ⟨_, h, fun hc rv H ls rest locs h1 h2 h3 h4 => by
      obtain ⟨x, rfl, hx⟩ := h1
      exact hc H ls (.int x :: rest) locs h2 h3 ⟨⟨x, rfl, hx⟩, h4⟩⟩
  · rename_i n0 n1
    refine ⟨_, h, fun hc rv H ls rest locs h1 h2 h3 h4 => ?_⟩
    have h1 : ∃ x : Int64, rv = some (.long x) ∧ x.toInt = q.1 := by
      cases rk with
      | zero => exact absurd rfl n0
      | succ rk =>
        cases rk with
        | zero => exact absurd rfl n1
        | succ rk => exact h1
    obtain ⟨x, rfl, hx⟩ := h1
    exact hc H ls (.long x :: rest) locs h2 h3 ⟨⟨x, rfl, hx⟩, h4⟩
theorem xs_chr_ok {B0 : Nat} (h : xs_chr pc L S C k = some r)
    (d1 : decode cc pc = .ok (.ldc 72, 2)) (d2 : decode cc (pc + 2) = .ok (.iload_n 1, 1)) (d3 : decode cc (pc + 3) = .ok (.iload 4, 2)) (d4 : decode cc (pc + 5) = .ok (.iadd, 1)) (d5 : decode cc (pc + 6) = .ok (.invokevirtual 74, 3))
    (hx : p.tables.exec = Jvm.exec) (hb : c.code = cc) (hml : c.maxLocals = nL) (hts : ∀ w ∈ zW, w.before args s = true) (hown : s.vm.findClass "RestDays$Tokens" = some m.cls) (hN : yWat sz s) (b3 : 4 ≤ B0)
    (hfr : B0 ≤ R.frames) (hlo : 60 * B0 ≤ R.locals) (hK0 : K0 ≤ R.cells) (hS0 : S0 ≤ R.slots) : xGo p l e R s m args below meth c Q b sz sr tt D ca nL K0 S0 k r (pc, L, S, C) := by
  unfold xs_chr at h
  split at h
  · split at h
    · rename_i x hg1
      split at h
      · rename_i y hg4
        cases hq : (decide (0 ≤ x + y) && decide (x + y < 176)) with
        | false => rw [hq] at h; cases h
        | true =>
          rw [hq] at h
          rw [Bool.and_eq_true, decide_eq_true_eq, decide_eq_true_eq] at hq
          refine ⟨_, h, fun hc H ls stk locs hH hL hS => ?_⟩
          cases stk with
          | cons _ _ => exact hS.elim
          | nil =>
            obtain ⟨ws, hW, hP, hD, hV, hC⟩ := hH
            obtain ⟨hlen, lv, hlv, hall⟩ := id hL
            obtain ⟨w1, hw1, hm1⟩ := hall 1 _ hg1
            obtain ⟨x1, rfl, hx1⟩ := hw1
            obtain ⟨w4, hw4, hm4⟩ := hall 4 _ hg4
            obtain ⟨x4, rfl, hx4⟩ := hw4
            obtain ⟨-, a, v0, f, tx, hSt, hVk⟩ := hN
            have e1 : (x1 + x4).toInt = x1.toInt + x4.toInt := y_add x1 x4 (by omega) (by omega)
            have h0 : ¬ x1 + x4 < 0 := fun z => by
              have := Int32.lt_iff_toInt_lt.mp z
              rw [e1] at this
              have a0 : (0 : Int32).toInt = 0 := by decide
              omega
            have hlt : x1 + x4 < 176 := Int32.lt_iff_toInt_lt.mpr (by
              rw [e1]
              have a0 : (176 : Int32).toInt = 176 := by decide
              omega)
            have ec : (x1 + x4).toNatClampNeg = (x + y).toNat := by
              have : (x1 + x4).toNatClampNeg = (x1 + x4).toInt.toNat := rfl
              rw [this, e1, hx1, hx4]
            have hin : vp_in (x1 + x4) 176 := by
              rintro (z | z)
              · exact h0 z
              · omega
            refine va_ldcS hx hb hown hVk d1 ?_
            refine lv_iload_n hx hb d2 rfl (hlv.2.2 (1, _) hm1) ?_
            refine lv_iload hx hb d3 (hlv.2.2 (4, _) hm4) ?_
            refine lv_iadd hx hb d4 ?_
            obtain ⟨cell, c1, c2, c3, c4⟩ := hSt.2.2.1
            refine s_after (va_runV (As := [.int (x1 + x4)]) (C := "java/lang/String") ⟨hx, hb, hml, hown, hts⟩ (s_char (a := a) (v := v0) (f := f) (g := fun j => yWb.getD j 0) h0 hlt hin) ⟨z_callB hts ⟨zisw_mem (w := 858) (by decide +kernel), zisw_mem (w := 272) (by decide +kernel), ⟨by decide, by decide, (by decide +kernel : _ = some 1)⟩, by omega⟩ (zisw_mem (w := 855) (by decide +kernel)) (by omega : 3 + 1 ≤ R.frames) (by omega : 60 * (3 + 1) ≤ R.locals), s_arg (sz := sz) hts (w := 856) (by decide +kernel), s_arg (sz := sz) hts (w := 857) (by decide +kernel)⟩ ⟨(sP_pre hSt hV).1, ⟨cell, by rw [hV.2.1 a (Array.getElem?_eq_some_iff.mp c1).1 c4]; exact c1, c2, c3⟩, (sP_pre hSt hV).2⟩ rfl rfl hlv.1 rfl (lv_room (by decide)) d5 ⟨hK0, hS0⟩) hV ?_
            rintro rv locs1 rfl hV1
            exact hc H ls _ locs1 ⟨ws, hW, hP, hD, hV1, hC⟩ hL ⟨⟨_, rfl, by rw [ec]⟩, trivial⟩
      · cases h
    · cases h
  · cases h
theorem xs_callV_ok {P : xPar} {call : xCl} {mi : List zMInfo} {n : Nat} {xs : Nat → Int32} {j b0 index na maxL kind N B0 : Nat} {own : String} {T : u_T} {y : MethodName} {cd : ByteArray} {ret : Option FieldType} (h : xs_callV P call j b0 pc L S C k = some r) (hPt : P.1 = tt)
    (IH : xCallOk l sr tt mi P.2 call B0) (hmi : zget mi j = some (y, cd, maxL, ret, kind, na)) (hna : na = b0 / 32) (hcl : vwCl[b0 % 32]? = some (y.cls, T, N)) (hM : zMok y cd maxL ret na) (hins : Cond.instanceMethod y ∈ zW)
    (hdg : decode cc pc = .ok (.invokevirtual index, 3)) (hl : Cond.methodLink own index y ∈ zW) (hsel : Cond.selects y.cls y y ∈ zW)
    (hx : p.tables.exec = Jvm.exec) (hb : c.code = cc) (hml : c.maxLocals = nL) (hts : ∀ w ∈ zW, w.before args s = true) (hown : s.vm.findClass own = some m.cls) (hK : va_K D vwCl (zTys ca) s) (hX : va_X b n xs s s.heap) (hN : yWat sz s) (hbz : b < sz) (hs : sz ≤ s.heap.size)
    (hfr : B0 ≤ R.frames) (hlo : 60 * B0 ≤ R.locals) (hK0 : K0 ≤ R.cells) (hS0 : S0 ≤ R.slots) : xGo p l e R s m args below meth c Q b sz sr tt D ca nL K0 S0 k r (pc, L, S, C) := by
  subst hPt
  unfold xs_callV at h
  split at h
  · rename_i as i t r0 hpop
    split at h
    · rename_i q0 ci rs ht
      split at h
      · rename_i hc8
        rw [Bool.and_eq_true] at hc8
        have hci := Nat.eq_of_beq_eq_true hc8.1
        have h8 := Nat.le_of_ble_eq_true hc8.2
        subst hci
        split at h
        · rename_i rk hrk
          cases hq : call j (.inr (.inr (.inl (i, t))) :: as) C with
          | none => rw [hq] at h; cases h
          | some q =>
            obtain ⟨z, C1⟩ := q
            rw [hq] at h
            have h : xaft rk pc L r0 k (z, C1) = some r := h
            obtain ⟨cf, k1, k2⟩ := xaft_ok (p := p) (l := l) (e := e) (R := R) (s := s) (m := m) (args := args) (below := below) (meth := meth) (c := c) (Q := Q) (b := b) (sz := sz) (sr := sr) (tt := P.1) (D := D) (ca := ca) (nL := nL) (K0 := K0) (S0 := S0) h
            refine ⟨cf, k1, fun hcf H ls stk locs hH hL hS => ?_⟩
            obtain ⟨vs, st1, rfl, hvl, hvs, hS1⟩ := xpop_some hpop hS (show xSR b sz sr [] [] from trivial)
            obtain ⟨vo, st2, rfl, ho, hS2⟩ := xSR_cons hS1
            obtain ⟨ws, hW, hP, hD, hV, hC⟩ := hH
            obtain ⟨f, hf, hMet⟩ := IH j _ C z C1 hq y cd maxL ret kind na rk hmi hrk b sz n xs D ca hbz
            obtain ⟨rfl, hsr⟩ := ho
            obtain ⟨e0, hw, hty⟩ := y_cell hW hsr ht
            obtain ⟨vv, rfl, -⟩ := hty
            rw [List.append_nil] at hvs
            have hpre := x_pre (n := n) (xs := xs) (as := .inr (.inr (.inl (i, t))) :: as) (vs := .ref (sz + i) :: vs.reverse) hW hP hD hV hC hK hX hN hbz hs ⟨⟨rfl, hsr⟩, hvs⟩
            have hst : vs ++ Value.ref (sz + i) :: st2 = (vs.reverse).reverse ++ .ref (sz + i) :: st2 := by rw [List.reverse_reverse]
            have hlen : vs.reverse.length = na := by rw [List.length_reverse, hvl, hna]
            have hsum : (st2.map fun v => v.category).sum ≤ 8 := by rw [xSR_sum hS2]; exact h8
            have hlsz : ls.size = nL := hL.2.choose_spec.1.1
            exact x_after (va_runV (As := vs.reverse) ⟨hx, hb, hml, hown, hts⟩ hMet ⟨z_callB hts hM hl (by omega) (by omega), hts _ hins, hts _ hsel⟩ ⟨xPc_blind, va_recv hK hP hcl hw, hpre⟩ rfl hlen hlsz hst (lv_room hsum) hdg ⟨by omega, by omega⟩) hV hs
              fun rv H1 locs1 g1 g2 => k2 hcf rv H1 ls st2 locs1 g1 g2 hL hS2
        · cases h
      · cases h
    · cases h
  · cases h
theorem xs_callS_ok {P : xPar} {call : xCl} {mi : List zMInfo} {n : Nat} {xs : Nat → Int32} {j b0 index na maxL kind B0 : Nat} {own : String} {y : MethodName} {cd : ByteArray} {ret : Option FieldType} (h : xs_callS P call j b0 pc L S C k = some r) (hPt : P.1 = tt)
    (IH : xCallOk l sr tt mi P.2 call B0) (hmi : zget mi j = some (y, cd, maxL, ret, kind, na)) (hna : na = b0) (hM : zMok y cd maxL ret na) (hstat : Cond.static y ∈ zW)
    (hdg : decode cc pc = .ok (.invokestatic index, 3)) (hl : Cond.methodLink own index y ∈ zW)
    (hx : p.tables.exec = Jvm.exec) (hb : c.code = cc) (hml : c.maxLocals = nL) (hts : ∀ w ∈ zW, w.before args s = true) (hown : s.vm.findClass own = some m.cls) (hK : va_K D vwCl (zTys ca) s) (hX : va_X b n xs s s.heap) (hN : yWat sz s) (hbz : b < sz) (hs : sz ≤ s.heap.size)
    (hfr : B0 ≤ R.frames) (hlo : 60 * B0 ≤ R.locals) (hK0 : K0 ≤ R.cells) (hS0 : S0 ≤ R.slots) : xGo p l e R s m args below meth c Q b sz sr tt D ca nL K0 S0 k r (pc, L, S, C) := by
  subst hPt
  unfold xs_callS at h
  split at h
  · rename_i as r0 hpop
    split at h
    · rename_i h8
      have h8 := Nat.le_of_ble_eq_true h8
      split at h
      · rename_i rk hrk
        cases hq : call j as C with
        | none => rw [hq] at h; cases h
        | some q =>
          obtain ⟨z, C1⟩ := q
          rw [hq] at h
          have h : xaft rk pc L r0 k (z, C1) = some r := h
          obtain ⟨cf, k1, k2⟩ := xaft_ok (p := p) (l := l) (e := e) (R := R) (s := s) (m := m) (args := args) (below := below) (meth := meth) (c := c) (Q := Q) (b := b) (sz := sz) (sr := sr) (tt := P.1) (D := D) (ca := ca) (nL := nL) (K0 := K0) (S0 := S0) h
          refine ⟨cf, k1, fun hcf H ls stk locs hH hL hS => ?_⟩
          obtain ⟨vs, st2, rfl, hvl, hvs, hS2⟩ := xpop_some hpop hS (show xSR b sz sr [] [] from trivial)
          obtain ⟨ws, hW, hP, hD, hV, hC⟩ := hH
          obtain ⟨f, hf, hMet⟩ := IH j _ C z C1 hq y cd maxL ret kind na rk hmi hrk b sz n xs D ca hbz
          rw [List.append_nil] at hvs
          have hpre := x_pre (n := n) (xs := xs) (as := as) (vs := vs.reverse) hW hP hD hV hC hK hX hN hbz hs hvs
          have hst : vs ++ st2 = (vs.reverse).reverse ++ st2 := by rw [List.reverse_reverse]
          have hlen : vs.reverse.length = na := by rw [List.length_reverse, hvl, hna]
          have hsum : (st2.map fun v => v.category).sum ≤ 8 := by rw [xSR_sum hS2]; exact h8
          have hlsz : ls.size = nL := hL.2.choose_spec.1.1
          exact x_after (va_runS (As := vs.reverse) ⟨hx, hb, hml, hown, hts⟩ hMet ⟨z_callB hts hM hl (by omega) (by omega), hts _ hstat⟩ ⟨xPc_blind, hpre⟩ rfl hlen hlsz hst (lv_room hsum) hdg ⟨by omega, by omega⟩) hV hs
            fun rv H1 locs1 g1 g2 => k2 hcf rv H1 ls st2 locs1 g1 g2 hL hS2
      · cases h
    · cases h
  · cases h
end xCalls
