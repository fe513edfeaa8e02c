/-! Calls: a method that the kernel's machine has run to its end has a contract of the real one. -/
noncomputable section
def zRet (b sz : Nat) (xs : Nat → Int32) : Option zAV → Option Value → Prop
  | none, rv => rv = none
  | some a, rv => ∃ v, rv = some v ∧ zG b sz xs a v
def zNest : List (String × Nat × MethodName × String) := [("RestDays", 56, ⟨"RestDays$Acts", "<init>", "()V"⟩, "RestDays"), ("RestDays", 74, ⟨"RestDays$Rounds", "<init>", "()V"⟩, "RestDays"), ("RestDays", 99, ⟨"RestDays$Looks", "<init>", "()V"⟩, "RestDays")]
def zNestAt (U : State) : Prop := ∀ q ∈ zNest, va_Nw (.methodLinkNest q.1 q.2.1 q.2.2.1 q.2.2.2) U
def zPc (b sz L0 : Nat) (xs : Nat → Int32) (D : va_G) (ca : Nat → ClassId) (as : List zAV) (hp : zHp) (n : Nat) : Array Value → State → Prop := fun v U =>
  ∃ vs, v = vs.toArray ∧ zSR b sz xs as vs ∧ (∃ ws, zWd b sz xs ca hp n ws ∧ va_P D vwCl ws U.heap ∧ va_D (zA sz) ws) ∧ U.heap.size = sz + n ∧ va_K D vwCl (zTys ca) U ∧ va_X b L0 xs U U.heap ∧ zNestAt U
def zQc (b sz : Nat) (xs : Nat → Int32) (D : va_G) (ca : Nat → ClassId) (r : Option zAV) (hp1 : zHp) (n1 : Nat) : Array Value → State → Outcome → State → Prop := fun _ st o t =>
  (∃ rv, o = .returned rv ∧ zRet b sz xs r rv) ∧ (∃ ws, zWd b sz xs ca hp1 n1 ws ∧ va_P D vwCl ws t.heap ∧ va_D (zA sz) ws) ∧ st.heap.size ≤ t.heap.size ∧ ∀ q : Nat, q < sz → t.heap[q]? = st.heap[q]?
abbrev zMInfo : Type := MethodName × ByteArray × Nat × Option FieldType × Nat × Nat
abbrev zws (y : MethodName) (cc : ByteArray) (maxL : Nat) (ret : Option FieldType) : List Cond := .code y cc maxL ret :: zW
/-- the script is as the split says -/
def zHyp (P : zPar) (xs : Nat → Int32) : Prop := (∀ (j : Nat) (lo hi : Int), zget P.2.1 j = some (lo, hi) → lo ≤ (xs j).toInt ∧ (xs j).toInt ≤ hi) ∧ ∀ z, P.2.2 = some z → xs 0 &&& 63 = Int32.ofNat z
def zSound (l : Launch) (P : zPar) (df : List (List (List zAV))) (mt : List (Nat × zCode)) (mi : List zMInfo) (d : Nat) : Prop :=
  ∀ (j : Nat) (as : List zAV) (hp : zHp) (n sl : Nat) (r : Option zAV) (hp1 : zHp) (n1 sl1 : Nat), zrun P df mt d j as hp n sl = some (r, hp1, n1, sl1) →
    ∀ (y : MethodName) (cc : ByteArray) (maxL : Nat) (ret : Option FieldType) (kind na : Nat), zget mi j = some (y, cc, maxL, ret, kind, na) →
      ∀ (b sz : Nat) (xs : Nat → Int32) (D : va_G) (ca : Nat → ClassId), b < sz → zHyp P xs →
        Met l y (zws y cc maxL ret) { frames := d, cells := n1 - n, slots := sl1 - sl, locals := 60 * d } (zPc b sz (zlen P) xs D ca as hp n) (zQc b sz xs D ca r hp1 n1) (n1 - n) (sl1 - sl) (zA sz)
section zCalls
variable {p : Program} {l : Launch} {e : Env} {R : Room} {s : State} {m : MethodId} {args : Array Value} {below : List Frame} {meth : Method} {c : Code} {Q : State → Prop}
variable {b sz L0 nL nb sb : Nat} {xs : Nat → Int32} {D : va_G} {ca : Nat → ClassId} {cc : ByteArray}
variable {pc : Nat} {L : List (Option zAV)} {S : List zAV} {H : zHp} {n sl : Nat} {r : Bool × zCfg} {hp hp1 : zHp} {i : Nat} {ws : va_W}
theorem zPc_blind {as : List zAV} : FrameBlind (zPc b sz L0 xs D ca as hp n) := by
  intro a U g mk h
  obtain ⟨vs, h1, h2, h3, h6, h7, h8, h9⟩ := h
  exact ⟨vs, h1, h2, h3, h6, va_K.moved (u := U) (U := U.calling g mk a) (Vm.Alike.refl U.vm) h7, va_X.moved (u := U) (U := U.calling g mk a) (Vm.Alike.refl U.vm) h8, fun q hq => va_Nw.same rfl rfl (h9 q hq)⟩
theorem z_size {Hh : Heap} {locs : List Loc} (hH : zHeap b sz xs D ca s hp n Hh locs) (hs : s.heap.size = sz + nb) (hz : Hh.size ≤ s.heap.size + (n - nb)) (hn : nb ≤ n) : Hh.size = sz + n := by
  obtain ⟨ws, hW, hP, hD, hV⟩ := hH
  obtain ⟨h1, -, h3⟩ := hW
  have hV1 := hV.1
  rcases Nat.eq_zero_or_pos n with h0 | h0
  · omega
  · have hi : n - 1 < ws.length := by omega
    have g := h3 (n - 1) ws[n - 1] (List.getElem?_eq_getElem hi)
    have g2 := (hP (n - 1) _ (List.getElem?_eq_getElem hi)).lt
    rw [g.1] at g2
    omega
theorem z_pre {as : List zAV} {vs : List Value} {Hh : Heap} {locs : List Loc} (hH : zHeap b sz xs D ca s hp n Hh locs) (hz : Hh.size = sz + n) (hK : va_K D vwCl (zTys ca) s) (hX : va_X b L0 xs s s.heap) (hN : zNestAt s) (hbz : b < sz) (hs : s.heap.size = sz + nb) (hS : zSR b sz xs as vs) :
    ∀ U : State, U.heap = Hh → s.WarmedH U.vm → zPc b sz L0 xs D ca as hp n vs.toArray U := by
  intro U hU hW
  obtain ⟨ws, hWd, hP, hD, hV⟩ := hH
  refine ⟨vs, rfl, hS, ⟨ws, hWd, by rw [hU]; exact hP, hD⟩, by rw [hU]; exact hz, va_K.moved hW.alike hK, ?_, fun q hq => va_Nw.warmM hW (hN q hq)⟩
  rw [hU]
  exact va_X.moved hW.alike (hX.kept (hV.2.1 b (by omega) (Nat.not_le.mpr hbz)))
theorem z_after {r0 : Option zAV} {n1 mc ms k q : Nat} {a : Array Value} {Hh : Heap} {locs : List Loc} {ls : Array Slot} {st0 rest : List Value} (hr : va_Run p l e R s m args below meth c Hh locs k q mc ms (F0 m pc ls st0) rest (zQc b sz xs D ca r0 hp1 n1 a) (zA sz)) (hV : va_S (zA sz) s.heap Hh locs) (hs : s.heap.size = sz + nb)
    (kk : ∀ (rv : Option Value) (H1 : Heap) (locs1 : List Loc), zRet b sz xs r0 rv → zHeap b sz xs D ca s hp1 n1 H1 locs1 → W p l e R s m args below meth c H1 locs1 (k + mc) (q + ms) Q (F0 m (pc + 3) ls (rv.toList ++ rest))) : W p l e R s m args below meth c Hh locs k q Q (F0 m pc ls st0) := by
  intro T hT X
  obtain ⟨v, st₀, t, T', L, h0, X', hL, e1, e2, ⟨⟨rv, hv, hp⟩, ⟨ws, hW, hP, hD⟩, hz, hk⟩, st⟩ := hr T hT X
  cases hv
  rw [h0] at hz hk
  obtain ⟨t2, a1, b1⟩ := kk v T'.heap (locs ++ L) hp ⟨ws, hW, by rw [e1]; exact hP, hD, Nat.le_trans hV.1 (by rw [e1]; exact hz), fun q h1 h2 => by rw [e1, hk q (Nat.not_le.mp h2)]; exact hV.2.1 q h1 h2, fun q hq => by
    rcases List.mem_append.mp hq with h | h
    · exact hV.2.2 q h
    · exact hL q h⟩ T' rfl X'
  exact ⟨t2, st t2 a1, b1⟩
theorem zpop_some {as r1 : List zAV} {k : Nat} {S acc : List zAV} {st ac : List Value} (h : zpop k S acc = some (as, r1)) (hS : zSR b sz xs S st) (ha : zSR b sz xs acc ac) : ∃ vs st1, st = vs ++ st1 ∧ vs.length = k ∧ zSR b sz xs as (vs.reverse ++ ac) ∧ zSR b sz xs r1 st1 := by
  induction k generalizing S acc st ac with
  | zero =>
    simp only [zpop] at h
    cases h
    exact ⟨[], st, rfl, rfl, ha, hS⟩
  | succ k ih =>
    cases S with
    | nil => simp [zpop] at h
    | cons a S =>
      obtain ⟨v, st1, rfl, hv, hS1⟩ := zSR_cons hS
      obtain ⟨vs, st2, e1, e2, e3, e4⟩ := ih (acc := a :: acc) (ac := v :: ac) (by simpa [zpop] using h) hS1 ⟨hv, ha⟩
      exact ⟨v :: vs, st2, by rw [e1]; rfl, by simp [e2], by simpa using e3, e4⟩
theorem zafter_some {r1 : List zAV} {q : zRes} (h : zafter pc L r1 n sl q = some r) : ∃ r0 H1 n1 s1, q = some (r0, H1, n1, s1) ∧ r.2 = (pc + 3, L, r0.toList ++ r1, H1, n1, s1) ∧ n ≤ n1 ∧ sl ≤ s1 := by
  unfold zafter at h
  try unfold zif at h
  split at h
  · split at h
    · rename_i hc
      rw [Bool.and_eq_true] at hc
      exact ⟨none, _, _, _, rfl, zgo_some h, Nat.le_of_ble_eq_true hc.1, Nat.le_of_ble_eq_true hc.2⟩
    · cases h
  · split at h
    · rename_i hc
      rw [Bool.and_eq_true] at hc
      exact ⟨some _, _, _, _, rfl, zgo_some h, Nat.le_of_ble_eq_true hc.1, Nat.le_of_ble_eq_true hc.2⟩
    · cases h
  · cases h
theorem zRet_SR {r0 : Option zAV} {rv : Option Value} {S : List zAV} {st : List Value} (h : zRet b sz xs r0 rv) (hS : zSR b sz xs S st) : zSR b sz xs (r0.toList ++ S) (rv.toList ++ st) := by
  cases r0 with
  | none =>
    have h : rv = none := h
    subst h
    exact hS
  | some a =>
    obtain ⟨v, rfl, hv⟩ := h
    exact ⟨hv, hS⟩
theorem z_goodIn {y : MethodName} {cd : ByteArray} {maxL : Nat} {ret : Option FieldType} (hc : Cond.code y cd maxL ret ∈ zW) : GoodIn zW (zws y cd maxL ret) := by
  intro w hw
  rcases List.mem_cons.mp hw with rfl | hw
  · exact ⟨hc, good_of_word (zW_good hc)⟩
  · exact ⟨hw, good_of_word (zW_good hw)⟩
/-- what the tables say of a method that is called -/
def zMok (y : MethodName) (cd : ByteArray) (maxL : Nat) (ret : Option FieldType) (na : Nat) : Prop :=
  Cond.code y cd maxL ret ∈ zW ∧ Cond.initialized y.cls ∈ zW ∧ (y.cls ≠ "java/lang/invoke/MethodHandle" ∧ y.cls ≠ "java/lang/invoke/VarHandle" ∧ (parseMethodDescriptor y.desc).map (fun d => d.parameters.length) = some na) ∧ maxL ≤ 41
theorem z_callB {d mc ms index na maxL : Nat} {own : String} {y : MethodName} {cd : ByteArray} {ret : Option FieldType} (hts : ∀ w ∈ zW, w.before args s = true) (hM : zMok y cd maxL ret na) (hl : Cond.methodLink own index y ∈ zW) (hfr : d + 1 ≤ R.frames) (hlo : 60 * (d + 1) ≤ R.locals) :
    CallB R s args own index y cd maxL ret (zws y cd maxL ret) { frames := d, cells := mc, slots := ms, locals := 60 * d } mc ms na := by
  obtain ⟨h1, h2, h3, h4⟩ := hM
  exact callB_of na hts (z_goodIn h1) rfl rfl rfl (hts _ h2) (hts _ hl) h3 ⟨hfr, by show 8 + (maxL + 11) + 60 * d ≤ R.locals; omega⟩
/-- one call's walk, of whichever kind: what comes back stands for the callee's run -/
theorem z_call {P : zPar} {df : List (List (List zAV))} {mt : List (Nat × zCode)} {mi : List zMInfo} {d j na maxL kind n1 s1 : Nat} {y : MethodName} {cd : ByteArray} {ret : Option FieldType} {as r1 : List zAV} {r0 : Option zAV}
    (IH : zSound l P df mt mi d) (hq : zrun P df mt d j as H n sl = some (r0, hp1, n1, s1)) (m1 : n ≤ n1) (m2 : sl ≤ s1) (hmi : zget mi j = some (y, cd, maxL, ret, kind, na)) (hbz : b < sz) (hyp : zHyp P xs) (hs : s.heap.size = sz + nb)
    (run : ∀ (Hh : Heap) (ls : Array Slot) (st : List Value) (locs : List Loc) (k q : Nat), ls.size = nL → zHeap b sz xs D ca s H n Hh locs → Hh.size = sz + n → zSR b sz xs S st → Met l y (zws y cd maxL ret) { frames := d, cells := n1 - n, slots := s1 - sl, locals := 60 * d } (zPc b sz (zlen P) xs D ca as H n) (zQc b sz xs D ca r0 hp1 n1) (n1 - n) (s1 - sl) (zA sz) → k + (n1 - n) ≤ R.cells ∧ q + (s1 - sl) ≤ R.slots →
      ∃ a rest, va_Run p l e R s m args below meth c Hh locs k q (n1 - n) (s1 - sl) (F0 m pc ls st) rest (zQc b sz xs D ca r0 hp1 n1 a) (zA sz) ∧ zSR b sz xs r1 rest) :
    zSt p l e R s m args below meth c Q b sz xs D ca nL nb sb (pc, L, S, H, n, sl) (pc + 3, L, r0.toList ++ r1, hp1, n1, s1) := by
  have hMet := IH j as H n sl r0 hp1 n1 s1 hq y cd maxL ret kind na hmi
  refine ⟨⟨m1, m2⟩, fun g1 g2 g3 g4 kk Hh ls st locs hH hL hS => ?_⟩
  dsimp only at g1 g2 g3 g4 kk hH hL hS ⊢
  refine z_sized fun hz => ?_
  have hsz := z_size hH hs hz g1
  obtain ⟨a, rest, hrun, hrest⟩ := run Hh ls st locs (n - nb) (sl - sb) hL.2.choose_spec.1.1 hH hsz hS (hMet b sz xs D ca hbz hyp) ⟨by omega, by omega⟩
  refine z_after hrun hH.choose_spec.2.2.2 hs fun rv H1 locs1 hret hH1 => ?_
  have key := kk H1 ls (rv.toList ++ rest) locs1 hH1 hL (zRet_SR hret hrest)
  dsimp only at key
  rw [show n1 - nb = n - nb + (n1 - n) by omega, show s1 - sb = sl - sb + (s1 - sl) by omega] at key
  exact key
theorem zs_callV {P : zPar} {df : List (List (List zAV))} {mt : List (Nat × zCode)} {mi : List zMInfo} {d j b0 index na maxL kind N : Nat} {own : String} {T : u_T} {y : MethodName} {cd : ByteArray} {ret : Option FieldType} (h : zx_callV (zrun P df mt d) j b0 pc L S H n sl = some r)
    (IH : zSound l P df mt mi d) (hmi : zget mi j = some (y, cd, maxL, ret, kind, na)) (hna : na = b0 / 32) (hcl : vwCl[b0 % 32]? = some (y.cls, T, N)) (hM : zMok y cd maxL ret na) (hins : Cond.instanceMethod y ∈ zW)
    (hkind : (decode cc pc = .ok (.invokevirtual index, 3) ∧ Cond.methodLink own index y ∈ zW ∧ Cond.selects y.cls y y ∈ zW) ∨ (decode cc pc = .ok (.invokespecial index, 3) ∧ y.name = "<init>" ∧ ret = none ∧ (Cond.methodLink own index y ∈ zW ∨ ∃ host, (own, index, y, host) ∈ zNest)))
    (hx : p.tables.exec = Jvm.exec) (hb : c.code = cc) (hml : c.maxLocals = nL) (hts : ∀ w ∈ zW, w.before args s = true) (hown : s.vm.findClass own = some m.cls) (hK : va_K D vwCl (zTys ca) s) (hX : va_X b (zlen P) xs s s.heap) (hN : zNestAt s) (hbz : b < sz) (hs : s.heap.size = sz + nb) (hyp : zHyp P xs)
    (hfr : d + 1 ≤ R.frames) (hlo : 60 * (d + 1) ≤ R.locals) :
    zSt p l e R s m args below meth c Q b sz xs D ca nL nb sb (pc, L, S, H, n, sl) r.2 := by
  unfold zx_callV at h
  try unfold zif at h
  split at h
  · rename_i as o r1 hpop
    split at h
    · rename_i i hi
      split at h
      · rename_i ci fs hg
        split at h
        · rename_i hcond
          rw [Bool.and_eq_true] at hcond
          have hci := Nat.eq_of_beq_eq_true hcond.1
          have h8 := Nat.le_of_ble_eq_true hcond.2
          subst hci
          obtain ⟨r0, H1, n1, s1, hq, hr, m1, m2⟩ := zafter_some h
          rw [hr]
          refine z_call IH hq m1 m2 hmi hbz hyp hs fun Hh ls st locs k q hlsz hH hsz hS hMet hf => ?_
          obtain ⟨vs, st1, rfl, hvl, hvs, hS1⟩ := zpop_some hpop hS (show zSR b sz xs [] [] from trivial)
          obtain ⟨vo, st2, rfl, ho, hS2⟩ := zSR_cons hS1
          have e1 := zG_rf ho hi
          subst e1
          rw [List.append_nil] at hvs
          have hpre := z_pre (nb := nb) (as := o :: as) (vs := .ref (sz + i) :: vs.reverse) hH hsz hK hX hN hbz hs ⟨ho, hvs⟩
          have hst : vs ++ Value.ref (sz + i) :: st2 = (vs.reverse).reverse ++ .ref (sz + i) :: st2 := by rw [List.reverse_reverse]
          have hlen : vs.reverse.length = na := by rw [List.length_reverse, hvl, hna]
          have hsum : (st2.map fun v => v.category).sum ≤ 8 := by rw [zSR_sum hS2]; exact h8
          rcases hkind with ⟨hdg, hl, hsel⟩ | ⟨hdg, hy1, hr0, hl⟩
          · obtain ⟨ws, hWd, hP, hD, hV⟩ := hH
            obtain ⟨e0, hw, hcr⟩ := z_cell hWd hg
            obtain ⟨vv, rfl, -⟩ := z_obj hcr
            exact ⟨_, st2, va_runV (As := vs.reverse) ⟨hx, hb, hml, hown, hts⟩ hMet ⟨z_callB hts hM hl hfr hlo, hts _ hins, hts _ hsel⟩ ⟨zPc_blind, va_recv hK hP hcl hw, hpre⟩ rfl hlen hlsz hst (lv_room hsum) hdg hf, hS2⟩
          · subst hr0
            rcases hl with hl | ⟨host, hl⟩
            · exact ⟨_, st2, va_runI (As := vs.reverse) ⟨hx, hb, hml, hown, hts⟩ hMet ⟨z_callB hts hM hl hfr hlo, hy1, hts _ hins⟩ ⟨zPc_blind, hpre⟩ rfl hlen hlsz hst (lv_room hsum) hdg hf, hS2⟩
            · obtain ⟨q1, q2, q3, q4⟩ := hM
              exact ⟨_, st2, va_runIN (As := vs.reverse) (host := host) ⟨hx, hb, hml, hown, hts⟩ hMet ⟨va_cnB na hts (z_goodIn q1) rfl rfl rfl (hN _ hl) (hts _ q2) q3 ⟨hfr, by show 8 + (maxL + 11) + 60 * d ≤ R.locals; omega⟩, hy1, hts _ hins⟩ ⟨zPc_blind, hpre⟩ rfl hlen hlsz hst (lv_room hsum) hdg hf, hS2⟩
        · cases h
      · cases h
    · cases h
  · cases h
theorem zs_callS {P : zPar} {df : List (List (List zAV))} {mt : List (Nat × zCode)} {mi : List zMInfo} {d j b0 index na maxL kind : Nat} {own : String} {y : MethodName} {cd : ByteArray} {ret : Option FieldType} (h : zx_callS (zrun P df mt d) j b0 pc L S H n sl = some r)
    (IH : zSound l P df mt mi d) (hmi : zget mi j = some (y, cd, maxL, ret, kind, na)) (hna : na = b0) (hM : zMok y cd maxL ret na) (hstat : Cond.static y ∈ zW)
    (hdg : decode cc pc = .ok (.invokestatic index, 3)) (hl : Cond.methodLink own index y ∈ zW)
    (hx : p.tables.exec = Jvm.exec) (hb : c.code = cc) (hml : c.maxLocals = nL) (hts : ∀ w ∈ zW, w.before args s = true) (hown : s.vm.findClass own = some m.cls) (hK : va_K D vwCl (zTys ca) s) (hX : va_X b (zlen P) xs s s.heap) (hN : zNestAt s) (hbz : b < sz) (hs : s.heap.size = sz + nb) (hyp : zHyp P xs)
    (hfr : d + 1 ≤ R.frames) (hlo : 60 * (d + 1) ≤ R.locals) :
    zSt p l e R s m args below meth c Q b sz xs D ca nL nb sb (pc, L, S, H, n, sl) r.2 := by
  unfold zx_callS at h
  try unfold zif at h
  split at h
  · rename_i as r1 hpop
    split at h
    · rename_i h8
      have h8 := Nat.le_of_ble_eq_true h8
      obtain ⟨r0, H1, n1, s1, hq, hr, m1, m2⟩ := zafter_some h
      rw [hr]
      refine z_call IH hq m1 m2 hmi hbz hyp hs fun Hh ls st locs k q hlsz hH hsz hS hMet hf => ?_
      obtain ⟨vs, st2, rfl, hvl, hvs, hS2⟩ := zpop_some hpop hS (show zSR b sz xs [] [] from trivial)
      rw [List.append_nil] at hvs
      have hpre := z_pre (nb := nb) (as := as) (vs := vs.reverse) hH hsz hK hX hN hbz hs hvs
      have hst : vs ++ st2 = (vs.reverse).reverse ++ st2 := by rw [List.reverse_reverse]
      have hlen : vs.reverse.length = na := by rw [List.length_reverse, hvl, hna]
      have hsum : (st2.map fun v => v.category).sum ≤ 8 := by rw [zSR_sum hS2]; exact h8
      exact ⟨_, st2, va_runS (As := vs.reverse) ⟨hx, hb, hml, hown, hts⟩ hMet ⟨z_callB hts hM hl hfr hlo, hts _ hstat⟩ ⟨zPc_blind, hpre⟩ rfl hlen hlsz hst (lv_room hsum) hdg hf, hS2⟩
    · cases h
  · cases h
theorem zs_obj {index : Nat} {own : String} (h : zx_obj pc L S H n sl = some r)
    (hx : p.tables.exec = Jvm.exec) (hb : c.code = cc) (hml : c.maxLocals = nL) (hts : ∀ w ∈ zW, w.before args s = true) (hown : s.vm.findClass own = some m.cls)
    (hl : Cond.methodLink own index objectInit ∈ zW) (hin : Cond.instanceMethod objectInit ∈ zW) (hcode : Cond.code objectInit ⟨#[0xb1]⟩ 1 none ∈ zW) (hfr : 1 ≤ R.frames) (hlo : 60 ≤ R.locals) (hdg : decode cc pc = .ok (.invokespecial index, 3)) :
    zSt p l e R s m args below meth c Q b sz xs D ca nL nb sb (pc, L, S, H, n, sl) r.2 := by
  unfold zx_obj at h
  try unfold zif at h
  split at h
  · rename_i o r0
    split at h
    · rename_i hcond
      rw [Bool.and_eq_true] at hcond
      obtain ⟨i, hi⟩ := Option.isSome_iff_exists.mp hcond.1
      have h8 := Nat.le_of_ble_eq_true hcond.2
      rw [zgo_some h]
      refine zSt_pure fun Hh ls st locs k q hH hL hS kk => ?_
      obtain ⟨vo, st1, rfl, ho, hS1⟩ := zSR_cons hS
      have e1 := zG_rf ho hi
      subst e1
      have hlsz : ls.size = nL := hL.2.choose_spec.1.1
      exact W.objInit hx hb hown (hts _ hl) (hts _ hin) (hts _ hcode) rfl (hlsz.trans hml.symm) rfl hdg hfr (by show 2 * 0 + _ + 12 ≤ _; rw [zSR_sum hS1]; omega) (kk ls _ hL hS1)
    · cases h
  · cases h
end zCalls
end
