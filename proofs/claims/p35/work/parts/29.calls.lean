/-! Calls of the second machine; each of its instructions, and its runs. -/
section yCalls
def yRet (b sz : Nat) (sr : List Nat) (v : List Int) : Option yA → Option Value → Prop
  | none, rv => rv = none
  | some a, rv => ∃ w, rv = some w ∧ yV b sz sr v a w
def yPc (b sz : Nat) (sr : List Nat) (tt : List yKd) (D : va_G) (ca : Nat → ClassId) (n : Nat) (xs : Nat → Int32) (ws : va_W) (v : List Int) (as : List yA) (st : yS) : Array Value → State → Prop := fun a U =>
  ∃ vs, a = vs.toArray ∧ ySR b sz sr v as vs ∧ yRS v st ∧ (yWd sz sr tt ca ws ∧ va_P D vwCl ws U.heap ∧ va_D (zA sz) ws ∧ (∀ q ∈ st.2.2.2.2.1, yMk b sz sr v ws q) ∧ ∀ q ∈ st.2.2.2.2.2, yPk sr v ws q) ∧ sz ≤ U.heap.size ∧ va_K D vwCl (zTys ca) U ∧ va_X b n xs U U.heap ∧ yWat sz U
/-- what a call leaves: one of the ends that what follows has been asked of -/
def yQc (b sz : Nat) (sr : List Nat) (tt : List yKd) (D : va_G) (ca : Nat → ClassId) (ms : Option (List (Nat × Nat))) (ws : va_W) (v : List Int) (kk : Option yA → yS → Bool) : Array Value → State → Outcome → State → Prop := fun _ st o t =>
  (∃ (rv : Option Value) (r : Option yA) (st1 : yS) (u : List Int) (ws1 : va_W), o = .returned rv ∧ kk r st1 = true ∧ yRS (v ++ u) st1 ∧ yRet b sz sr (v ++ u) r rv ∧ yWd sz sr tt ca ws1 ∧ va_P D vwCl ws1 t.heap ∧ va_D (zA sz) ws1 ∧ (∀ q ∈ st1.2.2.2.2.1, yMk b sz sr (v ++ u) ws1 q) ∧ (∀ q ∈ st1.2.2.2.2.2, yPk sr (v ++ u) ws1 q) ∧ yFr sr ms ws ws1) ∧ st.heap.size ≤ t.heap.size ∧ ∀ q : Nat, q < sz → t.heap[q]? = st.heap[q]?
/-- calls that have been asked are as they were answered -/
def yCallOk (l : Launch) (sr : List Nat) (tt : List yKd) (mi : List zMInfo) (ms : Option (List (Nat × Nat))) (Bm : Int) (call : yCl) : Prop :=
  ∀ (j : Nat) (as : List yA) (st : yS) (bud : yE) (kk : Option yA → yS → Bool), call j as st bud kk = true →
    ∀ (y : MethodName) (cc : ByteArray) (maxL : Nat) (ret : Option FieldType) (kind na : Nat), zget mi j = some (y, cc, maxL, ret, kind, na) →
      ∀ (v : List Int) (B0 : Int), yev v bud = some B0 → B0 ≤ Bm → yRS v st → ∀ (b sz n : Nat) (xs : Nat → Int32) (D : va_G) (ca : Nat → ClassId) (ws : va_W), b < sz →
        ∃ f : Nat, (f : Int) + 1 ≤ B0 ∧ Met l y (zws y cc maxL ret) { frames := f, cells := 0, slots := 0, locals := 60 * f } (yPc b sz sr tt D ca n xs ws v as st) (yQc b sz sr tt D ca ms ws v kk) 0 0 (zA sz)
variable {p : Program} {l : Launch} {e : Env} {R : Room} {s : State} {m : MethodId} {args : Array Value} {below : List Frame} {meth : Method} {c : Code} {Q : State → Prop}
variable {b sz nL K0 S0 : Nat} {sr : List Nat} {tt : List yKd} {D : va_G} {ca : Nat → ClassId} {ms : Option (List (Nat × Nat))} {ws0 ws : va_W} {cc : ByteArray}
variable {v u : List Int} {pc : Nat} {L : List (Option yA)} {S : List yA} {st : yS} {k : yCfg → Bool} {MP : yM × yP} {H : Heap} {locs : List Loc} {ls : Array Slot} {stk : List Value}
theorem yPc_blind {n : Nat} {xs : Nat → Int32} {as : List yA} : FrameBlind (yPc b sz sr tt D ca n xs ws v as st) := by
  intro a U g mk h
  obtain ⟨vs, h1, h2, h3, h4, h6, h7, h8, h9⟩ := h
  exact ⟨vs, h1, h2, h3, h4, h6, va_K.moved (u := U) (U := U.calling g mk a) (Vm.Alike.refl U.vm) h7, va_X.moved (u := U) (U := U.calling g mk a) (Vm.Alike.refl U.vm) h8, yWat_call h9⟩
theorem y_pre {n : Nat} {xs : Nat → Int32} {as : List yA} {vs : List Value} (hW : yWd sz sr tt ca ws) (hP : va_P D vwCl ws H) (hD : va_D (zA sz) ws) (hV : va_S (zA sz) s.heap H locs) (hM : ∀ q ∈ st.2.2.2.2.1, yMk b sz sr v ws q) (hQ : ∀ q ∈ st.2.2.2.2.2, yPk sr v ws q) (hR : yRS v st) (hK : va_K D vwCl (zTys ca) s) (hX : va_X b n xs s s.heap) (hN : yWat sz s) (hbz : b < sz) (hs : sz ≤ s.heap.size) (hS : ySR b sz sr v as vs) :
    ∀ U : State, U.heap = H → s.WarmedH U.vm → yPc b sz sr tt D ca n xs ws v as st vs.toArray U := by
  intro U hU hWm
  refine ⟨vs, rfl, hS, hR, ⟨hW, by rw [hU]; exact hP, hD, hM, hQ⟩, by rw [hU]; exact Nat.le_trans hs hV.1, va_K.moved hWm.alike hK, ?_, yWat_pre hN hV hU hWm⟩
  rw [hU]
  exact va_X.moved hWm.alike (hX.kept (hV.2.1 b (by omega) (Nat.not_le.mpr hbz)))
theorem y_after {q k1 : Nat} {a : Array Value} {st0 rest : List Value} {kk : Option yA → yS → Bool} (hr : va_Run p l e R s m args below meth c H locs k1 q 0 0 (F0 m pc ls st0) rest (yQc b sz sr tt D ca ms ws v kk a) (zA sz)) (hV : va_S (zA sz) s.heap H locs) (hs : sz ≤ s.heap.size)
    (fin : ∀ (rv : Option Value) (r : Option yA) (st1 : yS) (u : List Int) (ws1 : va_W) (H1 : Heap) (locs1 : List Loc), kk r st1 = true → yRS (v ++ u) st1 → yRet b sz sr (v ++ u) r rv → yWd sz sr tt ca ws1 → va_P D vwCl ws1 H1 → va_D (zA sz) ws1 → va_S (zA sz) s.heap H1 locs1 → (∀ q ∈ st1.2.2.2.2.1, yMk b sz sr (v ++ u) ws1 q) → (∀ q ∈ st1.2.2.2.2.2, yPk sr (v ++ u) ws1 q) → yFr sr ms ws ws1 → W p l e R s m args below meth c H1 locs1 k1 q Q (F0 m (pc + 3) ls (rv.toList ++ rest))) : W p l e R s m args below meth c H locs k1 q Q (F0 m pc ls st0) := by
  intro T hT X
  obtain ⟨vv, st₀, t, T', L, h0, X', hL, e1, e2, ⟨⟨rv, r, st1, u, ws1, ho, g1, g2, g3, g4, g5, g6, g7, g8, g9⟩, hz, hk⟩, st⟩ := hr T hT X
  cases ho
  rw [h0] at hz hk
  obtain ⟨t2, a1, b1⟩ := fin vv r st1 u ws1 T'.heap (locs ++ L) g1 g2 g3 g4 (by rw [e1]; exact g5) g6 ⟨Nat.le_trans hV.1 (by rw [e1]; exact hz), fun q h1 h2 => by rw [e1, hk q (Nat.not_le.mp h2)]; exact hV.2.1 q h1 h2, fun q hq => by
    rcases List.mem_append.mp hq with h | h
    · exact hV.2.2 q h
    · exact hL q h⟩ g7 g8 g9 T' rfl X'
  exact ⟨t2, st t2 a1, b1⟩
theorem ypop_some {as r1 : List yA} {k1 : Nat} {acc : List yA} {ac : List Value} (h : ypop k1 S acc = some (as, r1)) (hS : ySR b sz sr v S stk) (ha : ySR b sz sr v acc ac) : ∃ vs st1, stk = vs ++ st1 ∧ vs.length = k1 ∧ ySR b sz sr v as (vs.reverse ++ ac) ∧ ySR b sz sr v r1 st1 := by
  induction k1 generalizing S acc stk ac with
  | zero =>
    simp only [ypop] at h
    cases h
    exact ⟨[], stk, rfl, rfl, ha, hS⟩
  | succ k1 ih =>
    cases S with
    | nil => simp [ypop] at h
    | cons a S =>
      obtain ⟨w, st1, rfl, hw, hS1⟩ := ySR_cons hS
      obtain ⟨vs, st2, e1, e2, e3, e4⟩ := ih (acc := a :: acc) (ac := w :: ac) (by simpa [ypop] using h) hS1 ⟨hw, ha⟩
      exact ⟨w :: vs, st2, by rw [e1]; rfl, by simp [e2], by simpa using e3, e4⟩
/-- what follows a call -/
def yaft (pc : Nat) (L : List (Option yA)) (r : List yA) (k : yCfg → Bool) : Option yA → yS → Bool := fun q st => match q with
  | some v => ygo (pc + 3) L (v :: r) st k
  | none => ygo (pc + 3) L r st k
theorem y_aft {r : List yA} {rest : List Value} {rv : Option Value} {r0 : Option yA} {st1 : yS} {ws1 : va_W} (hk : ∀ cf, k cf = true → yJ p l e R s m args below meth c Q b sz sr tt D ca ms ws0 nL K0 S0 v cf) (h : yaft pc L r k r0 st1 = true) (hR : yRS (v ++ u) st1) (hret : yRet b sz sr (v ++ u) r0 rv) (hW : yWd sz sr tt ca ws1) (hP : va_P D vwCl ws1 H) (hD : va_D (zA sz) ws1) (hV : va_S (zA sz) s.heap H locs) (hM : ∀ q ∈ st1.2.2.2.2.1, yMk b sz sr (v ++ u) ws1 q) (hQ : ∀ q ∈ st1.2.2.2.2.2, yPk sr (v ++ u) ws1 q) (hF : yFr sr ms ws0 ws1) (hL : yLR b sz sr v ls nL L) (hS : ySR b sz sr v r rest) : W p l e R s m args below meth c H locs K0 S0 Q (F0 m (pc + 3) ls (rv.toList ++ rest)) := by
  cases r0 with
  | none =>
    have e1 : rv = none := hret
    subst e1
    exact hk _ (ygo_k h) u H ls rest locs hR ⟨ws1, hW, hP, hD, hV, hM, hQ, hF⟩ (yLR_mono hL) (ySR_mono hS)
  | some a =>
    obtain ⟨w, rfl, hw⟩ := hret
    exact hk _ (ygo_k h) u H ls (w :: rest) locs hR ⟨ws1, hW, hP, hD, hV, hM, hQ, hF⟩ (yLR_mono hL) ⟨hw, ySR_mono hS⟩
theorem ys_chr {P : yPar} {B0 : Nat} (h : yx_chr P pc L S st k = true) (hk : ∀ cf, k cf = true → yJ p l e R s m args below meth c Q b sz sr tt D ca ms ws0 nL K0 S0 v cf)
    (d1 : decode cc pc = .ok (.ldc 72, 2)) (d2 : decode cc (pc + 2) = .ok (.iload_n 1, 1)) (d3 : decode cc (pc + 3) = .ok (.iload 4, 2)) (d4 : decode cc (pc + 5) = .ok (.iadd, 1)) (d5 : decode cc (pc + 6) = .ok (.invokevirtual 74, 3))
    (hx : p.tables.exec = Jvm.exec) (hb : c.code = cc) (hml : c.maxLocals = nL) (hts : ∀ w ∈ zW, w.before args s = true) (hown : s.vm.findClass "RestDays$Tokens" = some m.cls) (hN : yWat sz s)
    (hbud : yev v P.2.2.1 = some (B0 : Int)) (hfr : B0 ≤ R.frames) (hlo : 60 * B0 ≤ R.locals) (hK0 : K0 ≤ R.cells) (hS0 : S0 ≤ R.slots) : yJat p l e R s m args below meth c Q b sz sr tt D ca ms ws0 nL K0 S0 v (pc, L, S, st) := by
  unfold yx_chr at h
  split at h
  · split at h
    · rename_i x hg1
      split at h
      · rename_i y hg4
        simp only [Bool.and_eq_true] at h
        obtain ⟨h1, h2, h3, h4⟩ := h
        intro H ls stk locs hR hH hL hS
        cases stk with
        | cons _ _ => exact hS.elim
        | nil =>
          obtain ⟨ws, hW, hP, hD, hV, hM, hQ, hF⟩ := hH
          obtain ⟨hlen, lv, hlv, hall⟩ := id hL
          obtain ⟨w1, hw1, hm1⟩ := hall 1 _ hg1
          obtain ⟨x1, rfl, hx1⟩ := hw1
          obtain ⟨w4, hw4, hm4⟩ := hall 4 _ hg4
          obtain ⟨x4, rfl, hx4⟩ := hw4
          obtain ⟨-, a, v0, f, tx, hSt, hVk⟩ := hN
          have hsum := yad_ok hx1 hx4
          have b1 := ylS_ok h1 hR (y_neg hsum)
          have b2 := ylS_ok h2 hR (yoff_ok hsum)
          have b3 := ylS_ok h3 hR (yoff_ok (y_neg hbud))
          have e1 : (x1 + x4).toInt = x1.toInt + x4.toInt := y_add x1 x4 (by omega) (by omega)
          have h0 : ¬ x1 + x4 < 0 := fun z => by have := Int32.lt_iff_toInt_lt.mp z; rw [e1] at this; have a0 : (0 : Int32).toInt = 0 := by decide
                                                 omega
          have hlt : x1 + x4 < 176 := Int32.lt_iff_toInt_lt.mpr (by rw [e1]; have a0 : (176 : Int32).toInt = 176 := by decide
                                                                    omega)
          have hin : vp_in (x1 + x4) 176 := by
            rintro (z | z)
            · exact h0 z
            · have : (x1 + x4).toNatClampNeg = (x1 + x4).toInt.toNat := rfl
              omega
          refine va_ldcS hx hb hown hVk d1 ?_
          refine lv_iload_n hx hb d2 rfl (hlv.2.2 (1, _) hm1) ?_
          refine lv_iload hx hb d3 (hlv.2.2 (4, _) hm4) ?_
          refine lv_iadd hx hb d4 ?_
          obtain ⟨cell, c1, c2, c3, c4⟩ := hSt.2.2.1
          refine s_after (va_runV (As := [.int (x1 + x4)]) (C := "java/lang/String") ⟨hx, hb, hml, hown, hts⟩ (s_char (a := a) (v := v0) (f := f) (g := fun j => yWb.getD j 0) h0 hlt hin) ⟨z_callB hts ⟨zisw_mem (w := 858) (by decide +kernel), zisw_mem (w := 272) (by decide +kernel), ⟨by decide, by decide, (by decide +kernel : _ = some 1)⟩, by omega⟩ (zisw_mem (w := 855) (by decide +kernel)) (by omega : 3 + 1 ≤ R.frames) (by omega : 60 * (3 + 1) ≤ R.locals), s_arg (sz := sz) hts (w := 856) (by decide +kernel), s_arg (sz := sz) hts (w := 857) (by decide +kernel)⟩ ⟨(sP_pre hSt hV).1, ⟨cell, by rw [hV.2.1 a (Array.getElem?_eq_some_iff.mp c1).1 c4]; exact c1, c2, c3⟩, (sP_pre hSt hV).2⟩ rfl rfl hlv.1 rfl (lv_room (by decide)) d5 ⟨hK0, hS0⟩) hV ?_
          rintro rv locs1 rfl hV1
          exact yon hk (ytp_ok h4 hR) ⟨ws, hW, hP, hD, hV1, hM, hQ, hF⟩ hL trivial
      · cases h
    · cases h
  · cases h
theorem yFr_trans {ws1 : va_W} (hW : yWd sz sr tt ca ws) (hW1 : yWd sz sr tt ca ws1) (h1 : yFr sr ms ws0 ws) (h2 : yFr sr ms ws ws1) : yFr sr ms ws0 ws1 := by
  intro i t j q0 q g1 g2 g3 g4
  have hl : i < ws.length := by rw [hW.1]; exact (List.getElem?_eq_some_iff.mp g3).1
  have hw := List.getElem?_eq_getElem hl
  have e := h2 i t j _ q hw g2 g3 g4
  rw [e]
  refine h1 i t j q0 _ g1 hw g3 ?_
  have hfk : yfk ws[i].2 j = yfk q.2 j := by
    obtain ⟨-, t1, kd1, a1, a2, a3⟩ := hW.2 i _ hw
    obtain ⟨-, t2, kd2, b1, b2, b3⟩ := hW1.2 i _ g2
    rw [a1] at b1
    cases b1
    rw [a2] at b2
    cases b2
    obtain ⟨q0, kd | kd⟩ := kd1
    · obtain ⟨vs, e1, -⟩ := a3
      obtain ⟨vs2, e2, -⟩ := b3
      rw [e1, e2]; rfl
    · obtain ⟨k1, k2, k3⟩ := kd
      rcases a3 with ⟨-, f, e1, -⟩ | ⟨-, f, e1⟩ <;> rcases b3 with ⟨-, g, e2, -⟩ | ⟨-, g, e2⟩ <;> (rw [e1, e2]; rfl)
  rw [hfk]
  exact g4
theorem ys_callV {P : yPar} {call : yCl} {mi : List zMInfo} {n : Nat} {xs : Nat → Int32} {j b0 index na maxL kind N B0 : Nat} {own : String} {T : u_T} {y : MethodName} {cd : ByteArray} {ret : Option FieldType} (h : yx_callV P call j b0 pc L S st k = true) (hk : ∀ cf, k cf = true → yJ p l e R s m args below meth c Q b sz sr tt D ca ms ws0 nL K0 S0 v cf) (hPt : P.1 = tt)
    {Bm : Int} (IH : yCallOk l sr tt mi ms Bm call) (hmi : zget mi j = some (y, cd, maxL, ret, kind, na)) (hna : na = b0 / 32) (hcl : vwCl[b0 % 32]? = some (y.cls, T, N)) (hM : zMok y cd maxL ret na) (hins : Cond.instanceMethod y ∈ zW)
    (hkind : (decode cc pc = .ok (.invokevirtual index, 3) ∧ Cond.methodLink own index y ∈ zW ∧ Cond.selects y.cls y y ∈ zW) ∨ (decode cc pc = .ok (.invokespecial index, 3) ∧ y.name = "<init>" ∧ ret = none ∧ Cond.methodLink own index y ∈ zW))
    (hx : p.tables.exec = Jvm.exec) (hb : c.code = cc) (hml : c.maxLocals = nL) (hts : ∀ w ∈ zW, w.before args s = true) (hown : s.vm.findClass own = some m.cls) (hK : va_K D vwCl (zTys ca) s) (hX : va_X b n xs s s.heap) (hN : yWat sz s) (hbz : b < sz) (hs : sz ≤ s.heap.size)
    (hbud : yev v P.2.2.1 = some (B0 : Int)) (hBm : (B0 : Int) ≤ Bm) (hfr : B0 ≤ R.frames) (hlo : 60 * B0 ≤ R.locals) (hK0 : K0 ≤ R.cells) (hS0 : S0 ≤ R.slots) : yJat p l e R s m args below meth c Q b sz sr tt D ca ms ws0 nL K0 S0 v (pc, L, S, st) := by
  subst hPt
  unfold yx_callV at h
  split at h
  · rename_i as x t r hpop
    split at h
    · rename_i q0 ci rs ht
      simp only [Bool.and_eq_true] at h
      obtain ⟨hci, h8, h⟩ := h
      have hci := Nat.eq_of_beq_eq_true hci
      have h8 := Nat.le_of_ble_eq_true h8
      subst hci
      intro H ls stk locs hR hH hL hS
      obtain ⟨vs, st1, rfl, hvl, hvs, hS1⟩ := ypop_some hpop hS (show ySR b sz sr v [] [] from trivial)
      obtain ⟨vo, st2, rfl, ho, hS2⟩ := ySR_cons hS1
      obtain ⟨ws, hW, hP, hD, hV, hMM, hQ, hF⟩ := hH
      obtain ⟨f, hf, hMet⟩ := IH j _ st P.2.2.1 (yaft pc L r k) h y cd maxL ret kind na hmi v B0 hbud hBm hR b sz n xs D ca ws hbz
      obtain ⟨i, rfl, hi, hsr⟩ := ho
      obtain ⟨e0, hw, hty⟩ := y_cell hW hsr ht
      obtain ⟨vv, rfl, -⟩ := hty
      rw [List.append_nil] at hvs
      have hpre := y_pre (n := n) (xs := xs) (as := .inr (.inr (.inl (x, t))) :: as) (vs := .ref (sz + i) :: vs.reverse) hW hP hD hV hMM hQ hR hK hX hN hbz hs ⟨⟨i, rfl, hi, hsr⟩, hvs⟩
      have hst : vs ++ Value.ref (sz + i) :: st2 = (vs.reverse).reverse ++ .ref (sz + i) :: st2 := by rw [List.reverse_reverse]
      have hlen : vs.reverse.length = na := by rw [List.length_reverse, hvl, hna]
      have hsum : (st2.map fun v => v.category).sum ≤ 8 := by rw [ySR_sum hS2]; exact h8
      have hlsz : ls.size = nL := hL.2.choose_spec.1.1
      have fin : ∀ (rv : Option Value) (r1 : Option yA) (st1 : yS) (u : List Int) (ws1 : va_W) (H1 : Heap) (locs1 : List Loc), yaft pc L r k r1 st1 = true → yRS (v ++ u) st1 → yRet b sz sr (v ++ u) r1 rv → yWd sz sr P.1 ca ws1 → va_P D vwCl ws1 H1 → va_D (zA sz) ws1 → va_S (zA sz) s.heap H1 locs1 → (∀ q ∈ st1.2.2.2.2.1, yMk b sz sr (v ++ u) ws1 q) → (∀ q ∈ st1.2.2.2.2.2, yPk sr (v ++ u) ws1 q) → yFr sr ms ws ws1 → W p l e R s m args below meth c H1 locs1 K0 S0 Q (F0 m (pc + 3) ls (rv.toList ++ st2)) :=
        fun rv r1 st1 u ws1 H1 locs1 g1 g2 g3 g4 g5 g6 g7 g8 g9 g10 => y_aft hk g1 g2 g3 g4 g5 g6 g7 g8 g9 (yFr_trans hW g4 hF g10) hL hS2
      rcases hkind with ⟨hdg, hl, hsel⟩ | ⟨hdg, hy1, hr0, hl⟩
      · exact y_after (va_runV (As := vs.reverse) ⟨hx, hb, hml, hown, hts⟩ hMet ⟨z_callB hts hM hl (by omega) (by omega), hts _ hins, hts _ hsel⟩ ⟨yPc_blind, va_recv hK hP hcl hw, hpre⟩ rfl hlen hlsz hst (lv_room hsum) hdg ⟨by omega, by omega⟩) hV hs fin
      · subst hr0
        exact y_after (va_runI (As := vs.reverse) ⟨hx, hb, hml, hown, hts⟩ hMet ⟨z_callB hts hM hl (by omega) (by omega), hy1, hts _ hins⟩ ⟨yPc_blind, hpre⟩ rfl hlen hlsz hst (lv_room hsum) hdg ⟨by omega, by omega⟩) hV hs fin
    · cases h
  · cases h
theorem ys_callS {P : yPar} {call : yCl} {mi : List zMInfo} {n : Nat} {xs : Nat → Int32} {j b0 index na maxL kind B0 : Nat} {own : String} {y : MethodName} {cd : ByteArray} {ret : Option FieldType} (h : yx_callS P call j b0 pc L S st k = true) (hk : ∀ cf, k cf = true → yJ p l e R s m args below meth c Q b sz sr tt D ca ms ws0 nL K0 S0 v cf) (hPt : P.1 = tt)
    {Bm : Int} (IH : yCallOk l sr tt mi ms Bm call) (hmi : zget mi j = some (y, cd, maxL, ret, kind, na)) (hna : na = b0) (hM : zMok y cd maxL ret na) (hstat : Cond.static y ∈ zW)
    (hdg : decode cc pc = .ok (.invokestatic index, 3)) (hl : Cond.methodLink own index y ∈ zW)
    (hx : p.tables.exec = Jvm.exec) (hb : c.code = cc) (hml : c.maxLocals = nL) (hts : ∀ w ∈ zW, w.before args s = true) (hown : s.vm.findClass own = some m.cls) (hK : va_K D vwCl (zTys ca) s) (hX : va_X b n xs s s.heap) (hN : yWat sz s) (hbz : b < sz) (hs : sz ≤ s.heap.size)
    (hbud : yev v P.2.2.1 = some (B0 : Int)) (hBm : (B0 : Int) ≤ Bm) (hfr : B0 ≤ R.frames) (hlo : 60 * B0 ≤ R.locals) (hK0 : K0 ≤ R.cells) (hS0 : S0 ≤ R.slots) : yJat p l e R s m args below meth c Q b sz sr tt D ca ms ws0 nL K0 S0 v (pc, L, S, st) := by
  subst hPt
  unfold yx_callS at h
  split at h
  · rename_i as r hpop
    simp only [Bool.and_eq_true] at h
    obtain ⟨h8, h⟩ := h
    have h8 := Nat.le_of_ble_eq_true h8
    intro H ls stk locs hR hH hL hS
    obtain ⟨vs, st2, rfl, hvl, hvs, hS2⟩ := ypop_some hpop hS (show ySR b sz sr v [] [] from trivial)
    obtain ⟨ws, hW, hP, hD, hV, hMM, hQ, hF⟩ := hH
    obtain ⟨f, hf, hMet⟩ := IH j _ st P.2.2.1 (yaft pc L r k) h y cd maxL ret kind na hmi v B0 hbud hBm hR b sz n xs D ca ws hbz
    rw [List.append_nil] at hvs
    have hpre := y_pre (n := n) (xs := xs) (as := as) (vs := vs.reverse) hW hP hD hV hMM hQ hR hK hX hN hbz hs hvs
    have hst : vs ++ st2 = (vs.reverse).reverse ++ st2 := by rw [List.reverse_reverse]
    have hlen : vs.reverse.length = na := by rw [List.length_reverse, hvl, hna]
    have hsum : (st2.map fun v => v.category).sum ≤ 8 := by rw [ySR_sum hS2]; exact h8
    have hlsz : ls.size = nL := hL.2.choose_spec.1.1
    exact y_after (va_runS (As := vs.reverse) ⟨hx, hb, hml, hown, hts⟩ hMet ⟨z_callB hts hM hl (by omega) (by omega), hts _ hstat⟩ ⟨yPc_blind, hpre⟩ rfl hlen hlsz hst (lv_room hsum) hdg ⟨by omega, by omega⟩) hV hs
      fun rv r1 st1 u ws1 H1 locs1 g1 g2 g3 g4 g5 g6 g7 g8 g9 g10 => y_aft hk g1 g2 g3 g4 g5 g6 g7 g8 g9 (yFr_trans hW g4 hF g10) hL hS2
  · cases h
end yCalls
