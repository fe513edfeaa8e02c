/-! A method run to its end by the kernel's machine, at any depth. -/
section zRun
variable {p : Program} {l : Launch} {e : Env} {R : Room} {s : State} {m : MethodId} {args : Array Value} {below : List Frame} {meth : Method} {c : Code} {Q : State → Prop}
variable {b sz nL nb sb d : Nat} {xs : Nat → Int32} {D : va_G} {ca : Nat → ClassId} {cc : ByteArray} {own nm : String} {ret : Option FieldType}
variable {P : zPar} {df : List (List (List zAV))} {mt : List (Nat × zCode)} {mi : List zMInfo}
theorem zSt_trans {c1 c2 c3 : zCfg} (h1 : zSt p l e R s m args below meth c Q b sz xs D ca nL nb sb c1 c2) (h2 : zSt p l e R s m args below meth c Q b sz xs D ca nL nb sb c2 c3) : zSt p l e R s m args below meth c Q b sz xs D ca nL nb sb c1 c3 := by
  obtain ⟨⟨a1, a2⟩, a3⟩ := h1
  obtain ⟨⟨b1, b2⟩, b3⟩ := h2
  exact ⟨⟨Nat.le_trans a1 b1, Nat.le_trans a2 b2⟩, fun g1 g2 g3 g4 k => a3 g1 g2 (by omega) (by omega) (b3 (by omega) (by omega) g3 g4 k)⟩
theorem zSt_go {c1 c2 : zCfg} (h : zSt p l e R s m args below meth c Q b sz xs D ca nL nb sb c1 c2) (g1 : nb ≤ c1.2.2.2.2.1) (g2 : sb ≤ c1.2.2.2.2.2) (g3 : c2.2.2.2.2.1 - nb ≤ R.cells) (g4 : c2.2.2.2.2.2 - sb ≤ R.slots) (k : zJ p l e R s m args below meth c Q b sz xs D ca nL nb sb c2) : zJ p l e R s m args below meth c Q b sz xs D ca nL nb sb c1 := h.2 g1 g2 g3 g4 k
theorem ziter_ok {f : zCfg → zOut} (hf : ∀ cf r, f cf = some r → zSt p l e R s m args below meth c Q b sz xs D ca nL nb sb cf r.2) (k : Nat) : ∀ (cf : zCfg) (r : Bool × zCfg), ziter f k cf = some r → zSt p l e R s m args below meth c Q b sz xs D ca nL nb sb cf r.2 := by
  induction k with
  | zero => exact hf
  | succ k ih =>
    intro cf r h
    rw [ziter_succ] at h
    split at h
    · rename_i s1 h1
      exact zSt_trans (ih cf _ h1) (ih s1 r h)
    · exact ih cf r h
theorem zstep_ok {cd : zCode} (hF : zFr P p R s m args meth c cc nL own nm b sz nb xs D ca d) (hCl : zClsOK df) (hMi : zMiOK mi) (hCd : ∀ j, zget mi j = none → zget mt j = none) (hGen : ∀ w ∈ zGenW, w ∈ zW) (IH : zSound l P df mt mi d)
    (hg : ∀ (pc : Nat) (i : Instr) (a b0 w : Nat), zfetch cd pc = some (i, a, b0, w) → zgood mi own nm ret cc pc i a b0 w = true) : ∀ (cf : zCfg) (r : Bool × zCfg), zstep P df cd (zrun P df mt d) cf = some r → zSt p l e R s m args below meth c Q b sz xs D ca nL nb sb cf r.2 := by
  rintro ⟨pc, L, S, H, n, sl⟩ r h
  simp only [zstep] at h
  split at h
  · rename_i i a b0 w hfe
    exact zex_ok hF hCl hMi hCd hGen IH (hg _ _ _ _ _ hfe) h
  · cases h
theorem zentry_len {as : List zAV} {vs : List Value} (h : zSR b sz xs as vs) : (zentry as).length = (lg_sl vs).length := by
  induction as generalizing vs with
  | nil => rw [zSR_nil h]; rfl
  | cons a as ih =>
    obtain ⟨v, t, rfl, h1, h2⟩ := zSR_cons h
    have hc := zG_cat h1
    have e := ih h2
    have e2 : (lg_sl (v :: t)) = (if v.category = 2 then [Slot.val v, .second] else [.val v]) ++ lg_sl t := by simp [lg_sl]
    rw [e2, List.length_append, ← e, hc]
    simp only [zentry]
    by_cases q : zcat a = 2
    · rw [if_pos (show Nat.beq (zcat a) 2 = true by rw [q]; rfl), if_pos q]
      simp only [List.length_cons, List.length_nil]
      omega
    · rw [if_neg (fun z => q (Nat.eq_of_beq_eq_true z)), if_neg q]
      simp only [List.length_cons, List.length_nil]
      omega
theorem zentry_ok {as : List zAV} {vs : List Value} (h : zSR b sz xs as vs) : ∀ (k i : Nat) (a : zAV), zget (zentry as) i = some (some a) → ∃ v, zG b sz xs a v ∧ (k + i, v) ∈ lv_args k vs := by
  induction as generalizing vs with
  | nil => intro k i a hi; simp [zentry, zget_eq] at hi
  | cons x as ih =>
    obtain ⟨v, t, rfl, h1, h2⟩ := zSR_cons h
    intro k i a hi
    have hc := zG_cat h1
    simp only [zentry] at hi
    simp only [lv_args, hc]
    by_cases q : zcat x = 2
    · rw [if_pos (by rw [q]; rfl)] at hi
      rw [if_pos q]
      match i with
      | 0 =>
        rw [zget_eq] at hi
        cases hi
        exact ⟨v, h1, List.mem_cons_self⟩
      | 1 => simp [zget_eq] at hi
      | i + 2 =>
        obtain ⟨w, w1, w2⟩ := ih h2 (k + 2) i a (by simpa [zget_eq] using hi)
        exact ⟨w, w1, List.mem_cons_of_mem _ (by rw [show k + (i + 2) = k + 2 + i by omega]; exact w2)⟩
    · rw [if_neg (fun z => q (Nat.eq_of_beq_eq_true z))] at hi
      rw [if_neg q]
      match i with
      | 0 =>
        rw [zget_eq] at hi
        cases hi
        exact ⟨v, h1, List.mem_cons_self⟩
      | i + 1 =>
        obtain ⟨w, w1, w2⟩ := ih h2 (k + 1) i a (by simpa [zget_eq] using hi)
        exact ⟨w, w1, List.mem_cons_of_mem _ (by rw [show k + (i + 1) = k + 1 + i by omega]; exact w2)⟩
theorem zLR_entry {as : List zAV} {vs : List Value} (h : zSR b sz xs as vs) (hl : (zentry as).length ≤ nL) : zLR b sz xs ((lg_sl vs ++ List.replicate (nL - (lg_sl vs).length) Slot.unset).toArray) nL (zentry as ++ List.replicate (nL - (zentry as).length) none) := by
  refine ⟨by simp; omega, _, lv_entry vs (by rw [← zentry_len h]; exact hl), fun i a hi => ?_⟩
  rw [zget_eq] at hi
  rcases Nat.lt_or_ge i (zentry as).length with q | q
  · rw [List.getElem?_append_left q, ← zget_eq] at hi
    obtain ⟨v, h1, h2⟩ := zentry_ok h 0 i a hi
    exact ⟨v, h1, by rw [Nat.zero_add] at h2; exact h2⟩
  · rw [List.getElem?_append_right q, List.getElem?_replicate] at hi
    split at hi <;> cases hi
theorem zfit_bool {a : zAV} {x : Int32} (h : zfit 1 a = true) (hg : zG b sz xs a (.int x)) : narrow .boolean (.int x) = .int x :=
  (zfit_ok h hg (Or.inr (Or.inl ⟨rfl, rfl⟩))).1
/-- the end of a method's run: its post -/
theorem zfin_ok {i : Instr} {a b0 w pc n sl nb sb : Nat} {S : List zAV} {H hp1 : zHp} {n1 sl1 : Nat} {r : Option zAV} {L : List (Option zAV)} (h : zfin i a S H n sl = some (r, hp1, n1, sl1)) (hg : zgood mi own nm ret cc pc i a b0 w = true)
    (hx : p.tables.exec = Jvm.exec) (hb : c.code = cc) (hr : meth.sig.returnType = ret) (hlocks : meth.locks = false) (hs : sz ≤ s.heap.size) : (n = n1 ∧ sl = sl1) ∧
    zJ p l e R s m args below meth c (MQ below (zQc b sz xs D ca r hp1 n1) args s (n1 - nb) (sl1 - sb) (zA sz)) b sz xs D ca nL nb sb (pc, L, S, H, n, sl) := by
  have post : ∀ (H : zHp) (n : Nat) (Hh : Heap) (locs : List Loc) (rv : Option Value) (q : Option zAV), zHeap b sz xs D ca s H n Hh locs → sz ≤ s.heap.size → zRet b sz xs q rv → ∀ t : State, t.heap = Hh → s.WarmedH t.vm → zQc b sz xs D ca q H n args s (.returned rv) t := by
    intro H n Hh locs rv q hH hs hq t ht _
    obtain ⟨ws, hW, hP, hD, hV⟩ := hH
    exact ⟨⟨rv, rfl, hq⟩, ⟨ws, hW, by rw [ht]; exact hP, hD⟩, by rw [ht]; exact hV.1, fun j hj => by rw [ht]; exact hV.2.1 j (by omega) (Nat.not_le.mpr hj)⟩
  cases i
  case ireturn =>
    simp only [zfin, zif] at h
    simp only [zgood, Bool.and_eq_true] at hg
    obtain ⟨hd, hret⟩ := hg
    split at h
    · rename_i x
      split at h
      · rename_i hc
        cases h
        rw [Bool.and_eq_true, Bool.or_eq_true] at hc
        refine ⟨⟨rfl, rfl⟩, fun Hh ls st locs hH hL hS => ?_⟩
        dsimp only at hH hL hS ⊢
        obtain ⟨v, st1, rfl, hv, hS1⟩ := zSR_cons hS
        have e1 := zSR_nil hS1
        subst e1
        obtain ⟨y, rfl⟩ := zG_int hv hc.1
        cases a with
        | zero =>
          have hret := of_decide_eq_true hret
          exact W.iret hx hb (hr.trans hret) (post _ _ _ _ _ (some x) hH hs ⟨_, rfl, hv⟩) hH.choose_spec.2.2.2.2.2 (zdec_ok hd) hlocks
        | succ a =>
          have hret := of_decide_eq_true hret
          have hz := hc.2.resolve_left (by simp)
          exact W.zret hx hb (hr.trans hret) (zfit_bool hz hv) (post _ _ _ _ _ (some x) hH hs ⟨_, rfl, hv⟩) hH.choose_spec.2.2.2.2.2 (zdec_ok hd) hlocks
      · cases h
    · cases h
  case lreturn =>
    simp only [zfin, zif] at h
    simp only [zgood, Bool.and_eq_true] at hg
    obtain ⟨hd, hret⟩ := hg
    split at h
    · rename_i x
      split at h
      · rename_i hc
        cases h
        refine ⟨⟨rfl, rfl⟩, fun Hh ls st locs hH hL hS => ?_⟩
        dsimp only at hH hL hS ⊢
        obtain ⟨v, st1, rfl, hv, hS1⟩ := zSR_cons hS
        have e1 := zSR_nil hS1
        subst e1
        obtain ⟨y, hy⟩ := Option.isSome_iff_exists.mp hc
        have e2 := zG_lon hv hy
        subst e2
        have hret := of_decide_eq_true hret
        exact W.lret hx hb (hr.trans hret) (post _ _ _ _ _ (some x) hH hs ⟨_, rfl, hv⟩) hH.choose_spec.2.2.2.2.2 (zdec_ok hd) hlocks
      · cases h
    · cases h
  case return_ =>
    simp only [zfin, zif] at h
    simp only [zgood, Bool.and_eq_true] at hg
    obtain ⟨hd, hret⟩ := hg
    split at h
    · cases h
      refine ⟨⟨rfl, rfl⟩, fun Hh ls st locs hH hL hS => ?_⟩
      dsimp only at hH hL hS ⊢
      have e1 := zSR_nil hS
      subst e1
      have hret := of_decide_eq_true hret
      exact W.vret hx hb (hr.trans hret) (post _ _ _ _ none none hH hs rfl) hH.choose_spec.2.2.2.2.2 (zdec_ok hd) hlocks
    · cases h
  all_goals exact absurd (show (none : zRes) = some (r, hp1, n1, sl1) from h) (by simp)
theorem zrun_sound (hCl : zClsOK df) (hMi : zMiOK mi) (hCd : zCdOK mt mi) (hGen : ∀ w ∈ zGenW, w ∈ zW) (d : Nat) : zSound l P df mt mi d := by
  induction d with
  | zero => intro j as hp n sl r hp1 n1 sl1 h; cases h
  | succ d IH =>
    intro j as hp n sl r hp1 n1 sl1 h y cc maxL ret kind na hj
    simp only [zrun, zif] at h
    split at h
    · rename_i nL cd hmt
      split at h
      · rename_i hlen
        have hlen := Nat.le_of_ble_eq_true hlen
        obtain ⟨rfl, hcode⟩ := hCd.2 j y cc maxL ret kind na hj nL cd hmt
        obtain ⟨hMo, hpl, -⟩ := hMi j y cc nL ret kind na hj
        unfold zout at h
        split at h
        · rename_i fl pc L S H n2 sl2 hit
          split at h
          · rename_i i a b0 w hfe
            have hgood := hcode _ _ _ _ _ hfe
            intro b sz xs D ca hbz hyp
            refine Met.ofW (cc := cc) (maxL := nL) (ret := ret) hpl rfl ?_
            intro p e s m args below meth c s₁ B hml hv
            obtain ⟨vs, rfl, hSR, ⟨ws, hW, hP, hD⟩, hsz, hK, hX, hN⟩ := hv
            have hts0 := atoms_spec (ws := zws y cc nL ret) B.pre
            have hts : ∀ w ∈ zW, w.before vs.toArray s = true := fun w hw => hts0 w (List.mem_cons_of_mem _ hw)
            have hF : zFr P p (headSpec (zws y cc nL ret) { frames := d + 1, cells := n1 - n, slots := sl1 - sl, locals := 60 * (d + 1) }).room s m vs.toArray meth c cc nL y.cls y.name b sz n xs D ca d :=
              ⟨B.exec, B.bytes, hml, findClass_of_methodNamed B.named, hts, hK, hX, hN, hbz, hsz, hyp, Nat.le_refl _, Nat.le_refl _, fun _ => (name_of_methodNamed B.named B.method).1⟩
            have hs : sz ≤ s.heap.size := by omega
            obtain ⟨⟨e1, e2⟩, hJ⟩ := zfin_ok (p := p) (l := l) (e := e) (R := (headSpec (zws y cc nL ret) { frames := d + 1, cells := n1 - n, slots := sl1 - sl, locals := 60 * (d + 1) }).room) (s := s) (m := m) (args := vs.toArray) (below := below) (meth := meth) (c := c) (b := b) (sz := sz) (xs := xs) (D := D) (ca := ca) (nL := nL) (nb := n) (sb := sl) (pc := pc) (L := L) h hgood B.exec B.bytes B.returns B.notSynchronized hs
            subst e1; subst e2
            obtain ⟨-, hgo⟩ := ziter_ok (Q := MQ below (zQc b sz xs D ca r hp1 n2) vs.toArray s (n2 - n) (sl2 - sl) (zA sz)) (p := p) (l := l) (e := e) (below := below) (sb := sl) (zstep_ok hF hCl hMi hCd.1 hGen IH hcode) 20 _ _ hit
            have hJ0 := hgo (Nat.le_refl _) (Nat.le_refl _) (Nat.le_refl _) (Nat.le_refl _) hJ
            have hV : va_S (zA sz) s.heap s.heap [] := va_S.rf
            have fin := hJ0 s.heap _ [] [] ⟨ws, hW, hP, hD, hV⟩ (zLR_entry hSR hlen) trivial
            rw [lg_entry_eq]
            dsimp only at fin
            rw [Nat.sub_self, Nat.sub_self] at fin
            exact fin
          · cases h
        · cases h
      · cases h
    · cases h
end zRun
