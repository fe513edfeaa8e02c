/-! The law's loop: from its head, with five of the script's places named, to its end or to its head again. -/
noncomputable section
def yfr5 (st : yS) (k : List (Option yA) → yS → Bool) : Bool := yfr (-2147483648) 2147483647 st fun a st => yfr (-2147483648) 2147483647 st fun b st => yfr (-2147483648) 2147483647 st fun c st => yfr (-2147483648) 2147483647 st fun d st => yfr (-2147483648) 2147483647 st fun e st => k [some (.inl a), some (.inl b), some (.inl c), some (.inl d), some (.inl e)] st
/-- the law's head is come to: as its template says, the places named too; less is left -/
def ylawH (p : Nat) (L : List (Option yA)) (st : yS) (h : yHd) (ps : List (Option yA)) (old : Option yE) : Bool := match zget L 3 with
  | some (some (.inl i)) => ylS st (ysu ([], 0) i) && yfr5 st fun es st => (match h with
    | (_, (Lt, tp), ms) => yfinS (yasM st.2.2.2.2.1 tp.2.2.2.2.1 (yasO (Lt ++ ps) (L ++ es) (yrig p (tp.1 - p)))) fun sg => yisRg p sg && (ychO st sg (Lt ++ ps) (L ++ es) && (ychS st sg tp && (match ysuE sg ms with
      | some e => ylS st (ysu ([], 0) e) && (match old with
        | some o => ylS st (yoff (ysu e o) 1)
        | none => true)
      | none => false))))
  | _ => false
def ylawF (cd : zCode) (p : Nat) (h : yHd) (ps : List (Option yA)) (old : Option yE) (cf : yCfg) : Bool := match zfetch cd cf.1 with
  | some (i, _, _, _) => match i with
    | .ireturn => (match cf.2.2.1 with
      | [.inl e] => yeq e ([], 1)
      | _ => false)
    | _ => !(yisRet i) && (Nat.beq cf.1 h.1 && ((match cf.2.2.1 with
      | [] => true
      | _ :: _ => false) && ylawH p cf.2.1 cf.2.2.2 h ps old))
  | none => false
def ylawV (tt : List yKd) (mt : List (Nat × zCode)) (ctb : List (List yCt)) (cd : zCode) (p : Nat) (h : yHd) (ps : List (Option yA)) (bud : yE) (sl : yE × List (yE × yE)) : Bool := match zfetch cd h.1 with
  | some (i, a, b, _) => ysel i (tt, none, bud, some sl) (ycall tt none mt ctb 8) a b h.1 h.2.1.1 [] h.2.1.2 (yrun (tt, none, bud, some sl) cd (ycall tt none mt ctb 8) (fun pc => Nat.beq pc h.1) (ylawF cd p h ps (some h.2.2)) 600)
  | none => false
end
section yLaw
variable {p : Program} {l : Launch} {e : Env} {R : Room} {s : State} {m : MethodId} {args : Array Value} {below : List Frame} {meth : Method} {c : Code} {Q : State → Prop}
variable {b sz nL K0 S0 : Nat} {sr : List Nat} {tt : List yKd} {D : va_G} {ca : Nat → ClassId} {ms : Option (List (Nat × Nat))} {ws0 ws : va_W} {cc : ByteArray}
variable {v u vp : List Int} {pc : Nat} {L : List (Option yA)} {S : List yA} {st : yS} {k : yCfg → Bool} {MP : yM × yP} {H : Heap} {locs : List Loc} {ls : Array Slot} {stk : List Value}
variable {Bm : Int} {own nm : String} {ret : Option FieldType} {P : yPar} {call : yCl} {mi : List zMInfo} {mt : List (Nat × zCode)} {ctb : List (List yCt)} {df : List (List (List zAV))}
theorem yfr5_ok {z0 z1 z2 z3 z4 : Int32} {kk : List (Option yA) → yS → Bool} (h : yfr5 st kk = true) (hR : yRS v st) : ∃ (a0 a1 a2 a3 a4 : yE) (u : List Int) (st1 : yS), kk [some (.inl a0), some (.inl a1), some (.inl a2), some (.inl a3), some (.inl a4)] st1 = true ∧ yRS (v ++ u) st1 ∧ st1.2.2.2.2 = st.2.2.2.2 ∧ yev (v ++ u) a0 = some z0.toInt ∧ yev (v ++ u) a1 = some z1.toInt ∧ yev (v ++ u) a2 = some z2.toInt ∧ yev (v ++ u) a3 = some z3.toInt ∧ yev (v ++ u) a4 = some z4.toInt := by
  have b1 : ∀ z : Int32, -2147483648 ≤ z.toInt := fun z => by have := z.le_toInt; simpa using this
  have b2 : ∀ z : Int32, z.toInt ≤ 2147483647 := fun z => by have := z.toInt_lt; omega
  obtain ⟨s0, k0, r0, e0, m0⟩ := yfr_ok h hR (b1 z0) (b2 z0)
  obtain ⟨s1, k1, r1, e1, m1⟩ := yfr_ok k0 r0 (b1 z1) (b2 z1)
  obtain ⟨s2, k2, r2, e2, m2⟩ := yfr_ok k1 r1 (b1 z2) (b2 z2)
  obtain ⟨s3, k3, r3, e3, m3⟩ := yfr_ok k2 r2 (b1 z3) (b2 z3)
  obtain ⟨s4, k4, r4, e4, m4⟩ := yfr_ok k3 r3 (b1 z4) (b2 z4)
  refine ⟨_, _, _, _, _, [z0.toInt] ++ [z1.toInt] ++ [z2.toInt] ++ [z3.toInt] ++ [z4.toInt], s4, k4, ?_, m4.trans (m3.trans (m2.trans (m1.trans m0))), ?_, ?_, ?_, ?_, ?_⟩
  · simpa only [List.append_assoc] using r4
  · have := yev_mono (w := [z1.toInt] ++ [z2.toInt] ++ [z3.toInt] ++ [z4.toInt]) e0
    simpa only [List.append_assoc] using this
  · have := yev_mono (w := [z2.toInt] ++ [z3.toInt] ++ [z4.toInt]) e1
    simpa only [List.append_assoc] using this
  · have := yev_mono (w := [z3.toInt] ++ [z4.toInt]) e2
    simpa only [List.append_assoc] using this
  · have := yev_mono (w := [z4.toInt]) e3
    simpa only [List.append_assoc] using this
  · simpa only [List.append_assoc] using e4
/-- the five places behind i, by their names -/
def ySc (ei a0 a1 a2 a3 a4 : yE) : List (yE × yE) := [(yoff ei 1, a0), (yoff ei 2, a1), (yoff ei 3, a2), (yoff ei 4, a3), (yoff ei 5, a4)]
def ySc1 (xs : Nat → Int32) (v : List Int) (l : List (yE × yE)) : Prop := ∀ q ∈ l, ∃ j : Nat, yev v q.1 = some (j : Int) ∧ yev v q.2 = some (xs j).toInt
theorem ylawH_ok {old : Option yE} {h0 : yHd} {ei a0 a1 a2 a3 a4 : yE} {xs : Nat → Int32} (h9 : yT9 sr) (h : ylawH vp.length L st h0 [some (.inl a0), some (.inl a1), some (.inl a2), some (.inl a3), some (.inl a4)] old = true) (hl4 : h0.2.1.1.length = 4) (hei : zget h0.2.1.1 3 = some (some (.inl ei))) (hv : v = vp ++ u) (hR : yRS v st) (hH : yHp b sz sr tt D ca s ms ws0 v st.2.2.2.2 H locs) (hL : yLR b sz sr v ls 4 L) : ∃ (w : List Int) (mu : Int), yRS (vp ++ w) h0.2.1.2 ∧ yHp b sz sr tt D ca s ms ws0 (vp ++ w) h0.2.1.2.2.2.2.2 H locs ∧ yLR b sz sr (vp ++ w) ls 4 h0.2.1.1 ∧ ySc1 xs (vp ++ w) (ySc ei a0 a1 a2 a3 a4) ∧ yev (vp ++ w) h0.2.2 = some mu ∧ 0 ≤ mu ∧ ∀ o mo, old = some o → yev v o = some mo → mu + 1 ≤ mo := by
  obtain ⟨pc0, ⟨Lt, tp⟩, me⟩ := h0
  have hl4 : Lt.length = 4 := hl4
  have hei : zget Lt 3 = some (some (.inl ei)) := hei
  unfold ylawH at h
  split at h
  · rename_i i hi
    rw [Bool.and_eq_true] at h
    obtain ⟨hi0, h⟩ := h
    obtain ⟨hLl, lv, hlv, hall⟩ := id hL
    obtain ⟨w0, hw0, -⟩ := hall 3 _ hi
    obtain ⟨x, -, hx⟩ := hw0
    have hx0 := ylS_ok hi0 hR (y_neg hx)
    obtain ⟨e0, e1, e2, e3, e4, u5, st5, h, hR5, hMP, f0, f1, f2, f3, f4⟩ := yfr5_ok (z0 := xs (x.toInt.toNat + 1)) (z1 := xs (x.toInt.toNat + 2)) (z2 := xs (x.toInt.toNat + 3)) (z3 := xs (x.toInt.toNat + 4)) (z4 := xs (x.toInt.toNat + 5)) h hR
    dsimp only at h
    obtain ⟨sg, h⟩ := yfinS_ok h
    simp only [Bool.and_eq_true] at h
    obtain ⟨g1, g2, g3, g4⟩ := h
    obtain ⟨hs, hl, hRt, hMQ⟩ := ychS_ok (b := b) (sz := sz) (sr := sr) h9 hR5 g3
    obtain ⟨w, hw⟩ := yisRg_ok (v := v ++ u5) (vp := vp) (u := u ++ u5) g1 rfl (by rw [hv, List.append_assoc])
    obtain ⟨o1, o2⟩ := ychO_ok (ls := ls) (nL := 4) hs hR5 g2
    have hLl : L.length = 4 := hLl
    -- the places by themselves
    have at3 : yev (yvt (v ++ u5) sg) ei = some x.toInt := by
      obtain ⟨y, y1, y2⟩ := o2 3 (.inl ei) (by rw [zget_eq, List.getElem?_append_left (by omega), ← zget_eq]; exact hei)
      rw [zget_eq, List.getElem?_append_left (by omega), ← zget_eq, hi] at y1
      cases y1
      exact ychE_ok hs hR5 y2 (yev_mono hx)
    have ps : ∀ (n : Nat) (a f : yE) (z : Int), ([some (.inl a0), some (.inl a1), some (.inl a2), some (.inl a3), some (.inl a4)] : List (Option yA))[n]? = some (some (.inl a)) → ([some (.inl e0), some (.inl e1), some (.inl e2), some (.inl e3), some (.inl e4)] : List (Option yA))[n]? = some (some (.inl f)) → yev (v ++ u5) f = some z → yev (yvt (v ++ u5) sg) a = some z := by
      intro n a f z p1 p2 p3
      obtain ⟨y, y1, y2⟩ := o2 (4 + n) (.inl a) (by rw [zget_eq, List.getElem?_append_right (by omega), show 4 + n - Lt.length = n by omega]; exact p1)
      rw [zget_eq, List.getElem?_append_right (by omega), show 4 + n - L.length = n by omega, p2] at y1
      cases y1
      exact ychE_ok hs hR5 y2 p3
    have hsc : ySc1 xs (yvt (v ++ u5) sg) (ySc ei a0 a1 a2 a3 a4) := by
      intro q hq
      simp only [ySc, List.mem_cons, List.not_mem_nil, or_false] at hq
      rcases hq with rfl | rfl | rfl | rfl | rfl
      · exact ⟨x.toInt.toNat + 1, by rw [yoff_ok at3]; congr 1; omega, ps 0 _ _ _ rfl rfl f0⟩
      · exact ⟨x.toInt.toNat + 2, by rw [yoff_ok at3]; congr 1; omega, ps 1 _ _ _ rfl rfl f1⟩
      · exact ⟨x.toInt.toNat + 3, by rw [yoff_ok at3]; congr 1; omega, ps 2 _ _ _ rfl rfl f2⟩
      · exact ⟨x.toInt.toNat + 4, by rw [yoff_ok at3]; congr 1; omega, ps 3 _ _ _ rfl rfl f3⟩
      · exact ⟨x.toInt.toNat + 5, by rw [yoff_ok at3]; congr 1; omega, ps 4 _ _ _ rfl rfl f4⟩
    have hLt : yLR b sz sr (yvt (v ++ u5) sg) ls 4 Lt := by
      refine ⟨hl4, lv, hlv, fun n a hn => ?_⟩
      have hn4 : n < 4 := by rw [zget_eq] at hn; have := (List.getElem?_eq_some_iff.mp hn).1; omega
      obtain ⟨y, y1, y2⟩ := o2 n a (by rw [zget_eq, List.getElem?_append_left (by omega), ← zget_eq]; exact hn)
      rw [zget_eq, List.getElem?_append_left (by omega), ← zget_eq] at y1
      obtain ⟨w1, w2, w3⟩ := hall n y y1
      exact ⟨w1, ychA_ok hs hR5 y2 (yV_mono w2), w3⟩
    split at g4
    · rename_i e1 he1
      rw [Bool.and_eq_true] at g4
      obtain ⟨h5, h6⟩ := g4
      obtain ⟨mu, m1, m2⟩ := ysuE_ok hs he1
      have g5 := ylS_ok h5 hR5 (y_neg m1)
      obtain ⟨ws1, b1, b2, b3, b4, b5, b6, b7⟩ := hH
      obtain ⟨c1, c2⟩ := hMQ (ws := ws1) (by rw [hMP]; exact fun q hq => yMk_mono (b5 q hq)) (by rw [hMP]; exact fun q hq => yPk_mono (b6 q hq))
      refine ⟨w, mu, by rw [← hw]; exact hRt, by rw [← hw]; exact ⟨ws1, b1, b2, b3, b4, c1, c2, b7⟩, by rw [← hw]; exact hLt, by rw [← hw]; exact hsc, by rw [← hw]; exact m2, by omega, fun o mo ho hmo => ?_⟩
      subst ho
      have := ylS_ok h6 hR5 (yoff_ok (ysu_ok m1 (yev_mono hmo)))
      omega
    · cases g4
  · cases h
/-- from the law's head to its end, by what is left of the script -/
theorem ylaw_claim (hT : yTOk sr tt) (hCl : zClsOK df) (hMi : zMiOK mi) (hCd : ∀ j as st bud kk, zget mi j = none → call j as st bud kk = false) (hGen : ∀ w ∈ zGenW, w ∈ zW) (IH : yCallOk l sr tt mi none Bm call) {n : Nat} {xs : Nat → Int32} {cd : zCode} {bud sl : yE} {h0 : yHd} {ei a0 a1 a2 a3 a4 : yE}
    (hF : ∀ w, ySc1 xs (vp ++ w) (ySc ei a0 a1 a2 a3 a4) → yFm (tt, none, bud, some (sl, ySc ei a0 a1 a2 a3 a4)) p R s m args meth c cc 4 own nm b sz n K0 S0 xs D ca sr tt none Bm (vp ++ w))
    (hg : ∀ (pc : Nat) (i : Instr) (a b0 w : Nat), zfetch cd pc = some (i, a, b0, w) → zgood mi own nm ret cc pc i a b0 w = true)
    (hl4 : h0.2.1.1.length = 4) (hei : zget h0.2.1.1 3 = some (some (.inl ei)))
    (hret : ∀ (pc : Nat) (a b0 w : Nat) (H : Heap) (ls : Array Slot) (locs : List Loc) (v : List Int) (MP : yM × yP), zfetch cd pc = some (.ireturn, a, b0, w) → yHp b sz sr tt D ca s none ws0 v MP H locs → W p l e R s m args below meth c H locs K0 S0 Q (F0 m pc ls [.int 1]))
    (hver : ∃ i a b0 w, zfetch cd h0.1 = some (i, a, b0, w) ∧ ysel i (tt, none, bud, some (sl, ySc ei a0 a1 a2 a3 a4)) call a b0 h0.1 h0.2.1.1 [] h0.2.1.2 (yrun (tt, none, bud, some (sl, ySc ei a0 a1 a2 a3 a4)) cd call (fun pc => Nat.beq pc h0.1) (ylawF cd vp.length h0 [some (.inl a0), some (.inl a1), some (.inl a2), some (.inl a3), some (.inl a4)] (some h0.2.2)) 600) = true) :
    ∀ (N : Nat) (w : List Int) (mu : Int), yev (vp ++ w) h0.2.2 = some mu → 0 ≤ mu → mu.toNat = N → ySc1 xs (vp ++ w) (ySc ei a0 a1 a2 a3 a4) → yJat p l e R s m args below meth c Q b sz sr tt D ca none ws0 4 K0 S0 (vp ++ w) (h0.1, h0.2.1.1, [], h0.2.1.2) := by
  intro N
  induction N using Nat.strongRecOn with
  | _ N ih =>
    intro w mu hmu hm0 hN hsc
    obtain ⟨i, a, b0, w0, hfe, hsel⟩ := hver
    have hF1 := hF w hsc
    refine ysel_ok hF1 hT hCl hMi hCd hGen IH (hg _ _ _ _ _ hfe) hsel fun cf hcf => ?_
    refine yrun_ok hF1 hT hCl hMi hCd hGen IH hg ?_ 600 cf hcf
    intro cf i a b0 w0 hfin hfe hst u
    obtain ⟨pc, L, S, st⟩ := cf
    dsimp only at hfe hst
    unfold ylawF at hfin
    dsimp only at hfin
    rw [hfe] at hfin
    dsimp only at hfin
    split at hfin
    · split at hfin
      · rename_i x
        intro H ls stk locs hR hH hL hS
        obtain ⟨w1, s1, rfl, hw1, hS1⟩ := ySR_cons hS
        have e1 := ySR_nil hS1
        subst e1
        obtain ⟨y, rfl, hy⟩ := hw1
        have e0 : yev (vp ++ w ++ u) ([], 1) = some 1 := yev_cn _ 1
        rw [yeq_ok hfin, e0] at hy
        have hy1 : y = 1 := Int32.toInt_inj.mp (by rw [← Option.some.inj hy]; rfl)
        subst hy1
        exact hret pc a b0 w0 H ls locs _ _ hfe hH
      · cases hfin
    · simp only [Bool.and_eq_true] at hfin
      obtain ⟨-, hpc, hs, hh⟩ := hfin
      have hpc := Nat.eq_of_beq_eq_true hpc
      subst hpc
      split at hs
      · intro H ls stk locs hR hH hL hS
        have e1 : stk = [] := ySR_nil (show ySR b sz sr (vp ++ w ++ u) [] stk from hS)
        subst e1
        obtain ⟨w1, mu1, k1, k2, k3, k4, k5, k6, k7⟩ := ylawH_ok hT.2.2.1 (xs := xs) hh hl4 hei (List.append_assoc vp w u) hR hH hL
        have := k7 _ mu rfl (yev_mono hmu)
        exact ih mu1.toNat (by omega) w1 mu1 k5 k6 rfl k4 H ls [] locs k1 k2 k3 trivial
      · cases hs
end yLaw
