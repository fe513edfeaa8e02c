/-! From a method's start, from its loops' heads, to its ends. -/
section yHold
variable {p : Program} {l : Launch} {e : Env} {R : Room} {s : State} {m : MethodId} {args : Array Value} {below : List Frame} {meth : Method} {c : Code} {Q : State → Prop}
variable {b sz nL K0 S0 : Nat} {sr : List Nat} {tt : List yKd} {D : va_G} {ca : Nat → ClassId} {ms : Option (List (Nat × Nat))} {ws0 ws : va_W} {cc : ByteArray}
variable {v u vp : List Int} {pc : Nat} {L : List (Option yA)} {S : List yA} {st : yS} {k : yCfg → Bool} {MP : yM × yP} {H : Heap} {locs : List Loc} {ls : Array Slot} {stk : List Value}
variable {Bm : Int} {own nm : String} {ret : Option FieldType} {P : yPar} {call : yCl} {mi : List zMInfo} {mt : List (Nat × zCode)} {ctb : List (List yCt)} {df : List (List (List zAV))}
theorem yret_ok {i : Instr} {a b0 w : Nat} {kk : Option yA → yS → Bool} {Qc : Array Value → State → Outcome → State → Prop} (h : yret i a S st kk = true) (hg : zgood mi own nm ret cc pc i a b0 w = true)
    (hx : p.tables.exec = Jvm.exec) (hb : c.code = cc) (hr : meth.sig.returnType = ret) (hlocks : meth.locks = false)
    (post : ∀ (H : Heap) (locs : List Loc) (r : Option yA) (rv : Option Value), kk r st = true → yRS v st → yRet b sz sr v r rv → yHp b sz sr tt D ca s ms ws0 v st.2.2.2.2 H locs → ∀ t : State, t.heap = H → s.WarmedH t.vm → Qc args s (.returned rv) t) :
    yJat p l e R s m args below meth c (MQ below Qc args s K0 S0 (zA sz)) b sz sr tt D ca ms ws0 nL K0 S0 v (pc, L, S, st) := by
  intro H ls stk locs hR hH hL hS
  have hloc : ∀ q ∈ locs, (zA sz) q.base := hH.choose_spec.2.2.2.1.2.2
  cases i
  case ireturn =>
    simp only [zgood, Bool.and_eq_true] at hg
    obtain ⟨hd, hret⟩ := hg
    unfold yret at h
    dsimp only at h
    split at h
    · rename_i x
      rw [Bool.and_eq_true, Bool.and_eq_true, Bool.or_eq_true] at h
      obtain ⟨h1, h2, h3⟩ := h
      obtain ⟨v1, st1, rfl, hv, hS1⟩ := ySR_cons hS
      have e1 := ySR_nil hS1
      subst e1
      obtain ⟨y, rfl⟩ := yisI_ok h1 hv
      cases a with
      | zero =>
        have hret := of_decide_eq_true hret
        exact W.iret hx hb (hr.trans hret) (post _ _ (some x) _ h3 hR ⟨_, rfl, hv⟩ hH) hloc (zdec_ok hd) hlocks
      | succ a =>
        have hret := of_decide_eq_true hret
        have hz := h2.resolve_left (by simp)
        obtain ⟨-, hn, -⟩ := yck_ok (ty := .boolean) hz hR hv (Or.inr (Or.inl ⟨rfl, rfl⟩))
        exact W.zret hx hb (hr.trans hret) hn (post _ _ (some x) _ h3 hR ⟨_, rfl, hv⟩ hH) hloc (zdec_ok hd) hlocks
    · cases h
  case lreturn =>
    simp only [zgood, Bool.and_eq_true] at hg
    obtain ⟨hd, hret⟩ := hg
    unfold yret at h
    dsimp only at h
    split at h
    · rename_i x
      rw [Bool.and_eq_true] at h
      obtain ⟨h1, h3⟩ := h
      obtain ⟨v1, st1, rfl, hv, hS1⟩ := ySR_cons hS
      have e1 := ySR_nil hS1
      subst e1
      obtain ⟨y, rfl⟩ := yisJ_ok h1 hv
      have hret := of_decide_eq_true hret
      exact W.lret hx hb (hr.trans hret) (post _ _ (some x) _ h3 hR ⟨_, rfl, hv⟩ hH) hloc (zdec_ok hd) hlocks
    · cases h
  case return_ =>
    simp only [zgood, Bool.and_eq_true] at hg
    obtain ⟨hd, hret⟩ := hg
    unfold yret at h
    dsimp only at h
    split at h
    · have e1 := ySR_nil hS
      have e1 : stk = [] := e1
      subst e1
      have hret := of_decide_eq_true hret
      exact W.vret hx hb (hr.trans hret) (post _ _ none none h hR rfl hH) hloc (zdec_ok hd) hlocks
    · cases h
  all_goals exact absurd (show false = true from h) (by decide)
theorem yentry_len {as : List yA} {vs : List Value} (h : ySR b sz sr v as vs) : (yentry as).length = (lg_sl vs).length := by
  induction as generalizing vs with
  | nil => rw [ySR_nil h]; rfl
  | cons a as ih =>
    obtain ⟨w, t, rfl, h1, h2⟩ := ySR_cons h
    have hc := yV_cat h1
    have e := ih h2
    have e2 : (lg_sl (w :: t)) = (if w.category = 2 then [Slot.val w, .second] else [.val w]) ++ lg_sl t := by simp [lg_sl]
    have e3 : yentry (a :: as) = (match ycat a with
      | 2 => some a :: none :: yentry as
      | _ => some a :: yentry as) := rfl
    rw [e2, List.length_append, ← e, hc, e3]
    split
    · rename_i q
      rw [if_pos q]
      simp only [List.length_cons, List.length_nil]
      omega
    · rename_i q
      rw [if_neg q]
      simp only [List.length_cons, List.length_nil]
      omega
theorem yentry_ok {as : List yA} {vs : List Value} (h : ySR b sz sr v as vs) : ∀ (k i : Nat) (a : yA), zget (yentry as) i = some (some a) → ∃ w, yV b sz sr v a w ∧ (k + i, w) ∈ lv_args k vs := by
  induction as generalizing vs with
  | nil => intro k i a hi; simp [yentry, zget_eq] at hi
  | cons x as ih =>
    obtain ⟨w, t, rfl, h1, h2⟩ := ySR_cons h
    intro k i a hi
    have hc := yV_cat h1
    have e3 : yentry (x :: as) = (match ycat x with
      | 2 => some x :: none :: yentry as
      | _ => some x :: yentry as) := rfl
    rw [e3] at hi
    simp only [lv_args, hc]
    split at hi
    · rename_i q
      rw [if_pos q]
      match i with
      | 0 =>
        rw [zget_eq] at hi
        cases hi
        exact ⟨w, h1, List.mem_cons_self⟩
      | 1 => simp [zget_eq] at hi
      | i + 2 =>
        obtain ⟨w1, w2, w3⟩ := ih h2 (k + 2) i a (by simpa [zget_eq] using hi)
        exact ⟨w1, w2, List.mem_cons_of_mem _ (by rw [show k + (i + 2) = k + 2 + i by omega]; exact w3)⟩
    · rename_i q
      rw [if_neg q]
      match i with
      | 0 =>
        rw [zget_eq] at hi
        cases hi
        exact ⟨w, h1, List.mem_cons_self⟩
      | i + 1 =>
        obtain ⟨w1, w2, w3⟩ := ih h2 (k + 1) i a (by simpa [zget_eq] using hi)
        exact ⟨w1, w2, List.mem_cons_of_mem _ (by rw [show k + (i + 1) = k + 1 + i by omega]; exact w3)⟩
theorem yrepl_eq (n : Nat) : yrepl n = List.replicate n none := by
  induction n with
  | zero => rfl
  | succ n ih => rw [List.replicate_succ, ← ih]; rfl
theorem yLR_entry {as : List yA} {vs : List Value} (h : ySR b sz sr v as vs) (hl : (yentry as).length ≤ nL) : yLR b sz sr v ((lg_sl vs ++ List.replicate (nL - (lg_sl vs).length) Slot.unset).toArray) nL (yentry as ++ yrepl (nL - (yentry as).length)) := by
  rw [yrepl_eq]
  refine ⟨by simp; omega, _, lv_entry vs (by rw [← yentry_len h]; exact hl), fun i a hi => ?_⟩
  rw [zget_eq] at hi
  rcases Nat.lt_or_ge i (yentry as).length with q | q
  · rw [List.getElem?_append_left q, ← zget_eq] at hi
    obtain ⟨w, h1, h2⟩ := yentry_ok h 0 i a hi
    exact ⟨w, h1, by rw [Nat.zero_add] at h2; exact h2⟩
  · rw [List.getElem?_append_right q, List.getElem?_replicate] at hi
    split at hi <;> cases hi
theorem yFr_rf : yFr sr ms ws ws := by
  intro i t j q0 q h1 h2 h3 h4
  rw [h1] at h2
  cases h2
  rfl
/-- a method's contract out of its body's walk -/
theorem yMet_of {y : MethodName} {f n : Nat} {xs : Nat → Int32} {kind na : Nat} {as : List yA} {Qc : Array Value → State → Outcome → State → Prop} (hMi : zMiOK mi) (hj : ∃ j, zget mi j = some (y, cc, nL, ret, kind, na)) (hPt : P.1 = tt) (hPm : P.2.1 = ms) (hPb : yev v P.2.2.1 = some (f : Int)) (hPs : P.2.2.2 = none) (hf1 : 1 ≤ f) (hfB : (f : Int) ≤ Bm) (hbz : b < sz) (hlen : (yentry as).length ≤ nL)
    (body : ∀ (p : Program) (e : Env) (R : Room) (s : State) (m : MethodId) (args : Array Value) (below : List Frame) (meth : Method) (c : Code), yFm P p R s m args meth c cc nL y.cls y.name b sz n 0 0 xs D ca sr tt ms Bm v → meth.sig.returnType = ret → meth.locks = false → yJat p l e R s m args below meth c (MQ below Qc args s 0 0 (zA sz)) b sz sr tt D ca ms ws nL 0 0 v (0, yentry as ++ yrepl (nL - (yentry as).length), [], st)) :
    Met l y (zws y cc nL ret) { frames := f, cells := 0, slots := 0, locals := 60 * f } (yPc b sz sr tt D ca n xs ws v as st) Qc 0 0 (zA sz) := by
  obtain ⟨j, hj⟩ := hj
  obtain ⟨hMo, hpl, -⟩ := hMi j y cc nL ret kind na hj
  refine Met.ofW (cc := cc) (maxL := nL) (ret := ret) hpl rfl ?_
  intro p e s m args below meth c s₁ B hml hv
  obtain ⟨vs, rfl, hSR, hR, ⟨hW, hP, hD, hM, hQ⟩, hsz, hK, hX, hN⟩ := hv
  have hts0 := atoms_spec (ws := zws y cc nL ret) B.pre
  have hts : ∀ w ∈ zW, w.before vs.toArray s = true := fun w hw => hts0 w (List.mem_cons_of_mem _ hw)
  have hF : yFm P p (headSpec (zws y cc nL ret) { frames := f, cells := 0, slots := 0, locals := 60 * f }).room s m vs.toArray meth c cc nL y.cls y.name b sz n 0 0 xs D ca sr tt ms Bm v :=
    ⟨B.exec, B.bytes, hml, findClass_of_methodNamed B.named, hts, hK, hX, hN, hbz, hsz, fun _ => (name_of_methodNamed B.named B.method).1, hPt, hPm, ⟨f, hPb, hf1, Nat.le_refl _, Nat.le_refl _, hfB⟩, Nat.zero_le _, Nat.zero_le _, (by intro sl hsl; rw [hPs] at hsl; cases hsl), Or.inl hPs⟩
  have hJ := body p e _ s m vs.toArray below meth c hF B.returns B.notSynchronized
  have hV : va_S (zA sz) s.heap s.heap [] := va_S.rf
  have fin := hJ s.heap _ [] [] hR ⟨ws, hW, hP, hD, hV, hM, hQ, yFr_rf⟩ (yLR_entry hSR hlen) trivial
  rw [lg_entry_eq]
  exact fin
/-- all instructions of a method's code are what its rows say -/
def yCd (mi : List zMInfo) (mt : List (Nat × zCode)) : Prop := zCdOK mt mi
/-- an end of a call looked through, or by a contract -/
theorem yend_post {kk : Option yA → yS → Bool} {r : Option yA} {rv : Option Value} (hs : sz ≤ s.heap.size) (h : kk r st = true) (hR : yRS (v ++ u) st) (hr : yRet b sz sr (v ++ u) r rv) (hH : yHp b sz sr tt D ca s ms ws (v ++ u) st.2.2.2.2 H locs) {t : State} (ht : t.heap = H) : yQc b sz sr tt D ca ms ws v kk args s (.returned rv) t := by
  obtain ⟨ws1, hW, hP, hD, hV, hM, hQ, hF⟩ := hH
  exact ⟨⟨rv, r, st, u, ws1, rfl, h, hR, hr, hW, by rw [ht]; exact hP, hD, hM, hQ, hF⟩, by rw [ht]; exact hV.1, fun j hj => by rw [ht]; exact hV.2.1 j (by omega) (Nat.not_le.mpr hj)⟩
theorem ycall_none {big : Option (List (Nat × Nat))} {d j : Nat} {as : List yA} {bud : yE} {kk : Option yA → yS → Bool} (hj : zget mt j = none) : ycall tt big mt ctb d j as st bud kk = false := by
  cases d with
  | zero => rfl
  | succ d => simp only [ycall, hj]
theorem ycall_ok (hT : yTOk sr tt) (hCl : zClsOK df) (hMi : zMiOK mi) (hCd : zCdOK mt mi) (hGen : ∀ w ∈ zGenW, w ∈ zW) {big : Option (List (Nat × Nat))} (hct : ∀ j cs c, zget ctb j = some cs → c ∈ cs → yCtT l sr tt mi Bm j c) (d : Nat) : yCallOk l sr tt mi big Bm (ycall tt big mt ctb d) := by
  induction d with
  | zero => intro j as st bud kk h; cases h
  | succ d IH =>
    intro j as st bud kk h y cc maxL ret kind na hj v B0 hb hBm hR b sz n xs D ca ws hbz
    have h : (match zget mt j with
      | none => false
      | some (nL, cd) => match zget ctb j with
        | some (c :: cs) => ycts tt big (c :: cs) as st bud kk
        | _ => Nat.ble (yentry as).length nL && (ylS st (yoff (ysu ([], 0) bud) 2) && yfE (yoff bud (-1)) fun bud => yrun (tt, big, bud, none) cd (ycall tt big mt ctb d) (fun _ => false) (fun cf => match zfetch cd cf.1 with
          | some (i, a, _, _) => yret i a cf.2.2.1 cf.2.2.2 kk
          | none => false) 600 (0, yentry as ++ yrepl (nL - (yentry as).length), [], st))) = true := h
    split at h
    · cases h
    · rename_i nL cd hmt
      have key : ((Nat.ble (yentry as).length nL && (ylS st (yoff (ysu ([], 0) bud) 2) && yfE (yoff bud (-1)) fun bud => yrun (tt, big, bud, none) cd (ycall tt big mt ctb d) (fun _ => false) (fun cf => match zfetch cd cf.1 with
          | some (i, a, _, _) => yret i a cf.2.2.1 cf.2.2.2 kk
          | none => false) 600 (0, yentry as ++ yrepl (nL - (yentry as).length), [], st))) = true) → ∃ f : Nat, (f : Int) + 1 ≤ B0 ∧ Met l y (zws y cc maxL ret) { frames := f, cells := 0, slots := 0, locals := 60 * f } (yPc b sz sr tt D ca n xs ws v as st) (yQc b sz sr tt D ca big ws v kk) 0 0 (zA sz) := by
        intro h
        rw [Bool.and_eq_true, Bool.and_eq_true, yfE_eq] at h
        obtain ⟨h1, h2, h3⟩ := h
        have h1 := Nat.le_of_ble_eq_true h1
        have h2 := ylS_ok h2 hR (yoff_ok (y_neg hb))
        obtain ⟨rfl, hcode⟩ := hCd.2 j y cc maxL ret kind na hj nL cd hmt
        refine ⟨(B0 - 1).toNat, by omega, yMet_of (P := (tt, big, yoff bud (-1), none)) (ms := big) (Bm := Bm) hMi ⟨j, hj⟩ rfl rfl (by rw [yoff_ok hb]; congr 1; omega) rfl (by omega) (by omega) hbz h1 ?_⟩
        intro p e R s m args below meth c hF hr hlk
        refine yJ_at (yrun_ok hF hT hCl hMi (fun j as st bud kk hj => ycall_none (hCd.1 _ hj)) hGen IH hcode ?_ 600 _ h3)
        intro cf i a b0 w hfin hfe hret u
        obtain ⟨pc, L, S, st1⟩ := cf
        dsimp only at hfin hfe
        rw [hfe] at hfin
        obtain ⟨hx, hbb, -, -, -, -, -, -, -, hs, -⟩ := hF
        exact yret_ok hfin (hcode _ _ _ _ _ hfe) hx hbb hr hlk fun H locs r rv k1 k2 k3 k4 t ht _ => yend_post hs k1 k2 k3 k4 ht
      split at h
      · rename_i c0 cs hcs
        exact ycts_ok hT.2.2.1 hT.2.2.2 (fun c hc => hct j _ c hcs hc) h y cc maxL ret kind na hj v B0 hb hBm hR b sz n xs D ca ws hbz
      · exact key h
/-- a template that is matched: the same place as its own -/
theorem yhead_ok {old : Option yE} {h0 : yHd} (h9 : yT9 sr) (h : yhead vp.length L st h0 old = true) (hv : v = vp ++ u) (hR : yRS v st) (hH : yHp b sz sr tt D ca s ms ws0 v st.2.2.2.2 H locs) (hL : yLR b sz sr v ls nL L) : ∃ (w : List Int) (mu : Int), yRS (vp ++ w) h0.2.1.2 ∧ yHp b sz sr tt D ca s ms ws0 (vp ++ w) h0.2.1.2.2.2.2.2 H locs ∧ yLR b sz sr (vp ++ w) ls nL h0.2.1.1 ∧ yev (vp ++ w) h0.2.2 = some mu ∧ 0 ≤ mu ∧ ∀ o mo, old = some o → yev v o = some mo → mu + 1 ≤ mo := by
  obtain ⟨pc0, ⟨Lt, tp⟩, me⟩ := h0
  unfold yhead at h
  obtain ⟨sg, h⟩ := yfinS_ok h
  simp only [Bool.and_eq_true] at h
  obtain ⟨h1, h2, h3, h4⟩ := h
  obtain ⟨hs, hl, hRt, hMQ⟩ := ychS_ok (b := b) (sz := sz) (sr := sr) h9 hR h3
  obtain ⟨w, hw⟩ := yisRg_ok h1 rfl hv
  split at h4
  · rename_i e1 he1
    rw [Bool.and_eq_true] at h4
    obtain ⟨h5, h6⟩ := h4
    obtain ⟨mu, m1, m2⟩ := ysuE_ok hs he1
    have g1 := ylS_ok h5 hR (y_neg m1)
    obtain ⟨ws1, a1, a2, a3, a4, a5, a6, a7⟩ := hH
    obtain ⟨b1, b2⟩ := hMQ a5 a6
    refine ⟨w, mu, by rw [← hw]; exact hRt, by rw [← hw]; exact ⟨ws1, a1, a2, a3, a4, b1, b2, a7⟩, by rw [← hw]; exact yLR_tpl hs hR h2 hL, by rw [← hw]; exact m2, by omega, fun o mo ho hmo => ?_⟩
    subst ho
    have := ylS_ok h6 hR (yoff_ok (ysu_ok m1 hmo))
    omega
  · cases h4
theorem yheads_ok {old : Option yE} : ∀ {hs : List yHd}, yheads vp.length pc L st old hs = true → ∃ h0 ∈ hs, h0.1 = pc ∧ yhead vp.length L st h0 old = true := by
  intro hs
  induction hs with
  | nil => intro h; cases h
  | cons h0 t ih =>
    intro h
    have h : (match Nat.beq h0.1 pc with
      | true => yhead vp.length L st h0 old || yheads vp.length pc L st old t
      | false => yheads vp.length pc L st old t) = true := h
    split at h
    · rename_i hp
      rw [Bool.or_eq_true] at h
      rcases h with h | h
      · exact ⟨h0, List.mem_cons_self, Nat.eq_of_beq_eq_true hp, h⟩
      · obtain ⟨h1, g1, g2⟩ := ih h
        exact ⟨h1, List.mem_cons_of_mem _ g1, g2⟩
    · obtain ⟨h1, g1, g2⟩ := ih h
      exact ⟨h1, List.mem_cons_of_mem _ g1, g2⟩
theorem yverA_mem {cd : zCode} {ct : yCt} {hs : List yHd} : ∀ {l1 : List yHd}, yverA tt mt ctb cd ct hs l1 = true → ∀ h ∈ l1, yver1 tt mt ctb cd ct hs h = true := by
  intro l1
  induction l1 with
  | nil => intro _ h hh; cases hh
  | cons h0 t ih =>
    intro h h1 hh
    have h : (yver1 tt mt ctb cd ct hs h0 && yverA tt mt ctb cd ct hs t) = true := h
    rw [Bool.and_eq_true] at h
    rcases List.mem_cons.mp hh with rfl | hh
    · exact h.1
    · exact ih h.2 h1 hh
/-- what comes of an end of a stretch: a return, or a head with less left -/
theorem yfinC_ok {cd : zCode} {qs : List yPost} {hs : List yHd} {old : Option yE} {cf : yCfg} {i : Instr} {a b0 w : Nat} (h9 : yT9 sr) (h : yfinC cd vp.length qs hs old cf = true) (hfe : zfetch cd cf.1 = some (i, a, b0, w)) (hv : v = vp ++ u)
    (ret : yisRet i = true → yret i a cf.2.2.1 cf.2.2.2 (fun r st => yposts vp.length r st qs) = true → yJat p l e R s m args below meth c Q b sz sr tt D ca ms ws0 nL K0 S0 v cf)
    (head : ∀ h0 ∈ hs, ∀ (w : List Int) (mu : Int), yev (vp ++ w) h0.2.2 = some mu → 0 ≤ mu → (∀ o mo, old = some o → yev v o = some mo → mu + 1 ≤ mo) → yJat p l e R s m args below meth c Q b sz sr tt D ca ms ws0 nL K0 S0 (vp ++ w) (h0.1, h0.2.1.1, [], h0.2.1.2)) : yJat p l e R s m args below meth c Q b sz sr tt D ca ms ws0 nL K0 S0 v cf := by
  obtain ⟨pc, L, S, st⟩ := cf
  unfold yfinC at h
  dsimp only at h hfe
  rw [hfe] at h
  dsimp only at h
  split at h
  · rename_i hr
    exact ret hr h
  · rw [Bool.and_eq_true] at h
    obtain ⟨h1, h2⟩ := h
    split at h1
    · obtain ⟨h0, g1, rfl, g3⟩ := yheads_ok h2
      intro H ls stk locs hR hH hL hS
      obtain ⟨w, mu, k1, k2, k3, k4, k5, k6⟩ := yhead_ok h9 g3 hv hR hH hL
      have e1 : stk = [] := ySR_nil (show ySR b sz sr v [] stk from hS)
      subst e1
      exact head h0 g1 w mu k4 k5 k6 H ls [] locs k1 k2 k3 trivial
    · cases h1
/-- from any of a method's heads, by what falls -/
theorem yheads_claim (hT : yTOk sr tt) (hCl : zClsOK df) (hMi : zMiOK mi) (hCd : ∀ j as st bud kk, zget mi j = none → call j as st bud kk = false) (hGen : ∀ w ∈ zGenW, w ∈ zW) (IH : yCallOk l sr tt mi ms Bm call) {n : Nat} {xs : Nat → Int32} {cd : zCode} (hF : yFm P p R s m args meth c cc nL own nm b sz n K0 S0 xs D ca sr tt ms Bm vp)
    (hg : ∀ (pc : Nat) (i : Instr) (a b0 w : Nat), zfetch cd pc = some (i, a, b0, w) → zgood mi own nm ret cc pc i a b0 w = true) {qs : List yPost} {hs : List yHd}
    (hret : ∀ (u : List Int) (pc : Nat) (L : List (Option yA)) (S : List yA) (st : yS) (i : Instr) (a b0 w : Nat), zfetch cd pc = some (i, a, b0, w) → yisRet i = true → yret i a S st (fun r st => yposts vp.length r st qs) = true → yJat p l e R s m args below meth c Q b sz sr tt D ca ms ws0 nL K0 S0 (vp ++ u) (pc, L, S, st))
    (hver : ∀ h ∈ hs, ∃ i a b0 w, zfetch cd h.1 = some (i, a, b0, w) ∧ ysel i P call a b0 h.1 h.2.1.1 [] h.2.1.2 (yrun P cd call (yisHd hs) (yfinC cd vp.length qs hs (some h.2.2)) 600) = true) :
    ∀ (N : Nat), ∀ h ∈ hs, ∀ (w : List Int) (mu : Int), yev (vp ++ w) h.2.2 = some mu → 0 ≤ mu → mu.toNat = N → yJat p l e R s m args below meth c Q b sz sr tt D ca ms ws0 nL K0 S0 (vp ++ w) (h.1, h.2.1.1, [], h.2.1.2) := by
  intro N
  induction N using Nat.strongRecOn with
  | _ N ih =>
    intro h hh w mu hmu h0 hN
    obtain ⟨i, a, b0, w0, hfe, hsel⟩ := hver h hh
    refine ysel_ok (yFm_ext hF w) hT hCl hMi hCd hGen IH (hg _ _ _ _ _ hfe) hsel fun cf hcf => ?_
    refine yrun_ok (yFm_ext hF w) hT hCl hMi hCd hGen IH hg ?_ 600 cf hcf
    intro cf i a b0 w0 hfin hfe hst u
    refine yfinC_ok (v := vp ++ w ++ u) (u := w ++ u) hT.2.2.1 hfin hfe (List.append_assoc _ _ _) (fun hr hy => ?_) fun h1 hh1 w1 mu1 g1 g2 g3 => ?_
    · obtain ⟨pc, L, S, st⟩ := cf
      rw [List.append_assoc]
      exact hret (w ++ u) pc L S st i a b0 w0 hfe hr hy
    · have := g3 _ mu rfl (yev_mono hmu)
      exact ih mu1.toNat (by omega) h1 hh1 w1 mu1 g1 g2 rfl
theorem ypost_ok {q : yPost} {r : Option yA} {rv : Option Value} (h9 : yT9 sr) (h : ypost vp.length r st q = true) (hv : v = vp ++ u) (hR : yRS v st) (hr : yRet b sz sr v r rv) : ∃ w, yRS (vp ++ w) q.2 ∧ yRet b sz sr (vp ++ w) q.1 rv ∧ ∀ {ws : va_W}, (∀ q ∈ st.2.2.2.2.1, yMk b sz sr v ws q) → (∀ q ∈ st.2.2.2.2.2, yPk sr v ws q) → (∀ x ∈ q.2.2.2.2.2.1, yMk b sz sr (vp ++ w) ws x) ∧ ∀ x ∈ q.2.2.2.2.2.2, yPk sr (vp ++ w) ws x := by
  obtain ⟨rt, tp⟩ := q
  unfold ypost at h
  dsimp only at h
  split at h
  · rw [Bool.and_eq_true] at h
    obtain ⟨h0, h⟩ := h
    obtain ⟨sg, h⟩ := yfinS_ok h
    rw [Bool.and_eq_true] at h
    obtain ⟨hs, hl, hRt, hMQ⟩ := ychS_ok (b := b) (sz := sz) (sr := sr) h9 hR h.2
    obtain ⟨w, hw⟩ := yisRg_ok h.1 rfl hv
    refine ⟨w, by rw [← hw]; exact hRt, ?_, fun a5 a6 => by rw [← hw]; exact hMQ a5 a6⟩
    cases r with
    | none => exact hr
    | some x => cases h0
  · split at h
    · cases h
    · rename_i x
      obtain ⟨sg, h⟩ := yfinS_ok h
      simp only [Bool.and_eq_true] at h
      obtain ⟨hs, hl, hRt, hMQ⟩ := ychS_ok (b := b) (sz := sz) (sr := sr) h9 hR h.2.2
      obtain ⟨w, hw⟩ := yisRg_ok h.1 rfl hv
      obtain ⟨v0, rfl, hv0⟩ := hr
      exact ⟨w, by rw [← hw]; exact hRt, ⟨v0, rfl, by rw [← hw]; exact ychA_ok hs hR h.2.1 hv0⟩, fun a5 a6 => by rw [← hw]; exact hMQ a5 a6⟩
theorem yposts_ok {r : Option yA} : ∀ {qs : List yPost}, yposts vp.length r st qs = true → ∃ q ∈ qs, ypost vp.length r st q = true := by
  intro qs
  induction qs with
  | nil => intro h; cases h
  | cons q t ih =>
    intro h
    have h : (ypost vp.length r st q || yposts vp.length r st t) = true := h
    rw [Bool.or_eq_true] at h
    rcases h with h | h
    · exact ⟨q, List.mem_cons_self, h⟩
    · obtain ⟨q1, g1, g2⟩ := ih h
      exact ⟨q1, List.mem_cons_of_mem _ g1, g2⟩
/-- how deep, of a contract that has been looked at -/
def yRk (ct : yCt) : Prop := ∀ vt : List Int, yRS vt ct.1.2 → ∃ r : Nat, yev vt ct.2.1 = some (r : Int) ∧ 1 ≤ r
theorem yrkB_ok {ct : yCt} (h : yrkB ct = true) : yRk ct := by
  intro vt hR
  unfold yrkB at h
  rw [Bool.and_eq_true] at h
  obtain ⟨z, hz⟩ := yids_ok (n := ct.1.2.1) hR.1 (sg := [ct.2.1]) (by show (yidsT ct.1.2.1 ct.2.1.1 && true) = true; rw [h.1]; rfl) _ List.mem_cons_self
  have := ylS_ok h.2 hR (yoff_ok (y_neg hz))
  exact ⟨z.toNat, by rw [hz]; congr 1; omega, by omega⟩
/-- what has been looked through holds, where all contracts hold of what is less deep -/
theorem yver_ok (hT : yTOk sr tt) (hCl : zClsOK df) (hMi : zMiOK mi) (hCd : zCdOK mt mi) (hGen : ∀ w ∈ zGenW, w ∈ zW) {B : Nat} (hct : ∀ j cs c, zget ctb j = some cs → c ∈ cs → yCtT l sr tt mi (B : Int) j c) {j nL : Nat} {cd : zCode} {ct : yCt} {hs : List yHd} (hmt : zget mt j = some (nL, cd)) (hrk : yRk ct) (h0 : yver0 tt mt ctb nL cd ct hs = true) (h1 : yverA tt mt ctb cd ct hs hs = true) : yCtT l sr tt mi ((B : Int) + 1) j ct := by
  intro y cc maxL ret kind na hj vt hR
  obtain ⟨r, hr1, hr2⟩ := hrk vt hR
  refine ⟨r, hr1, hr2, fun hrB b sz n xs D ca ws hbz => ?_⟩
  obtain ⟨⟨at_, tp⟩, rk, ms, qs⟩ := ct
  obtain ⟨rfl, hcode⟩ := hCd.2 j y cc maxL ret kind na hj nL cd hmt
  have hR : yRS vt tp := hR
  have hlp : vt.length = tp.1 := hR.1
  have h0 : (Nat.ble (yentry at_).length nL && (ylS tp (yoff (ysu ([], 0) rk) 1) && (match yisHd hs 0 with
    | false => yrun (tt, some ms, rk, none) cd (ycall tt (some ms) mt ctb 8) (yisHd hs) (yfinC cd tp.1 qs hs none) 600 (0, yentry at_ ++ yrepl (nL - (yentry at_).length), [], tp)
    | true => match zfetch cd 0 with
      | some (i, a, b, _) => ysel i (tt, some ms, rk, none) (ycall tt (some ms) mt ctb 8) a b 0 (yentry at_ ++ yrepl (nL - (yentry at_).length)) [] tp (yrun (tt, some ms, rk, none) cd (ycall tt (some ms) mt ctb 8) (yisHd hs) (yfinC cd tp.1 qs hs none) 600)
      | none => false))) = true := h0
  rw [Bool.and_eq_true, Bool.and_eq_true] at h0
  obtain ⟨a1, -, a3⟩ := h0
  have a1 := Nat.le_of_ble_eq_true a1
  refine yMet_of (P := (tt, some ms, rk, none)) (ms := some ms) (Bm := (B : Int)) hMi ⟨j, hj⟩ rfl rfl hr1 rfl hr2 (by omega) hbz a1 ?_
  intro p e R s m args below meth c hF hret hlk
  have IH := ycall_ok (l := l) (big := some ms) hT hCl hMi hCd hGen hct 8
  have hcn : ∀ j as st bud kk, zget mi j = none → ycall tt (some ms) mt ctb 8 j as st bud kk = false := fun j as st bud kk hj => ycall_none (hCd.1 _ hj)
  obtain ⟨hx, hbb, -, -, -, -, -, -, -, hsz, -⟩ := id hF
  have hretW : ∀ (u : List Int) (pc : Nat) (L : List (Option yA)) (S : List yA) (st : yS) (i : Instr) (a b0 w : Nat), zfetch cd pc = some (i, a, b0, w) → yisRet i = true → yret i a S st (fun r st => yposts vt.length r st qs) = true →
      yJat p l e R s m args below meth c (MQ below (yQt b sz sr tt D ca (some ms) ws vt qs) args s 0 0 (zA sz)) b sz sr tt D ca (some ms) ws nL 0 0 (vt ++ u) (pc, L, S, st) := by
    intro u pc L S st i a b0 w hfe hi hy
    refine yret_ok hy (hcode _ _ _ _ _ hfe) hx hbb hret hlk ?_
    intro H locs r rv k1 k2 k3 k4 t ht _
    obtain ⟨q, q1, q2⟩ := yposts_ok k1
    obtain ⟨w1, w2, w3, w4⟩ := ypost_ok hT.2.2.1 q2 rfl k2 k3
    obtain ⟨ws1, g1, g2, g3, g4, g5, g6, g7⟩ := k4
    obtain ⟨m1, m2⟩ := w4 g5 g6
    exact ⟨⟨rv, q, w1, ws1, rfl, q1, w2, w3, g1, by rw [ht]; exact g2, g3, m1, m2, g7⟩, by rw [ht]; exact g4.1, fun j hj => by rw [ht]; exact g4.2.1 j (by omega) (Nat.not_le.mpr hj)⟩
  have hclaim := yheads_claim (P := (tt, some ms, rk, none)) (e := e) (below := below) (Q := MQ below (yQt b sz sr tt D ca (some ms) ws vt qs) args s 0 0 (zA sz)) (ws0 := ws) (vp := vt) hT hCl hMi hcn hGen IH hF hcode (qs := qs) (hs := hs) hretW (by
    intro h hh
    have g := yverA_mem h1 h hh
    obtain ⟨pc, ⟨L, tp1⟩, me⟩ := h
    have g : (Nat.ble tp.1 tp1.1 && (match zfetch cd pc with
      | some (i, a, b, _) => !(yisRet i) && ysel i (tt, some ms, rk, none) (ycall tt (some ms) mt ctb 8) a b pc L [] tp1 (yrun (tt, some ms, rk, none) cd (ycall tt (some ms) mt ctb 8) (yisHd hs) (yfinC cd tp.1 qs hs (some me)) 600)
      | none => false)) = true := g
    rw [Bool.and_eq_true] at g
    have g := g.2
    split at g
    · rename_i i a b0 w hfe
      rw [Bool.and_eq_true] at g
      exact ⟨i, a, b0, w, hfe, by rw [hlp]; exact g.2⟩
    · cases g)
  have hrun : ∀ cf, yrun (tt, some ms, rk, none) cd (ycall tt (some ms) mt ctb 8) (yisHd hs) (yfinC cd tp.1 qs hs none) 600 cf = true → yJ p l e R s m args below meth c (MQ below (yQt b sz sr tt D ca (some ms) ws vt qs) args s 0 0 (zA sz)) b sz sr tt D ca (some ms) ws nL 0 0 vt cf := by
    intro cf hcf
    refine yrun_ok hF hT hCl hMi hcn hGen IH hcode ?_ 600 cf hcf
    intro cf i a b0 w hfin hfe hst u
    rw [← hlp] at hfin
    refine yfinC_ok (vp := vt) hT.2.2.1 hfin hfe rfl (fun hi hy => ?_) fun h2 hh2 w1 mu g1 g2 _ => hclaim _ h2 hh2 w1 mu g1 g2 rfl
    obtain ⟨pc, L, S, st⟩ := cf
    exact hretW u pc L S st i a b0 w hfe hi hy
  split at a3
  · exact yJ_at (hrun _ a3)
  · split at a3
    · rename_i i a b0 w hfe
      exact ysel_ok hF hT hCl hMi hcn hGen IH (hcode _ _ _ _ _ hfe) a3 hrun
    · cases a3
/-- all contracts hold, where each holds as soon as all hold of what is less deep -/
theorem yall (hrk : ∀ j cs c, zget ctb j = some cs → c ∈ cs → yRk c) (hstep : ∀ j cs c, zget ctb j = some cs → c ∈ cs → ∀ B : Nat, (∀ j cs c, zget ctb j = some cs → c ∈ cs → yCtT l sr tt mi (B : Int) j c) → yCtT l sr tt mi ((B : Int) + 1) j c) : ∀ B : Nat, ∀ j cs c, zget ctb j = some cs → c ∈ cs → yCtT l sr tt mi (B : Int) j c := by
  intro B
  induction B with
  | zero =>
    intro j cs c h1 h2 y cc maxL ret kind na hj vt hR
    obtain ⟨r, g1, g2⟩ := hrk j cs c h1 h2 vt hR
    exact ⟨r, g1, g2, fun w => by omega⟩
  | succ B ih =>
    intro j cs c h1 h2
    exact hstep j cs c h1 h2 B ih
end yHold
