/-! Any instruction; a run. -/
section yExec
variable {p : Program} {l : Launch} {e : Env} {R : Room} {s : State} {m : MethodId} {args : Array Value} {below : List Frame} {meth : Method} {c : Code} {Q : State → Prop}
variable {b sz nL K0 S0 : Nat} {sr : List Nat} {tt : List yKd} {D : va_G} {ca : Nat → ClassId} {ms : Option (List (Nat × Nat))} {ws0 ws : va_W} {cc : ByteArray}
variable {v u : List Int} {pc : Nat} {L : List (Option yA)} {S : List yA} {st : yS} {k : yCfg → Bool} {MP : yM × yP} {H : Heap} {locs : List Loc} {ls : Array Slot} {stk : List Value}
variable {Bm : Int} {own nm : String} {ret : Option FieldType} {P : yPar} {call : yCl} {mi : List zMInfo}
def yFm (P : yPar) (p : Program) (R : Room) (s : State) (m : MethodId) (args : Array Value) (meth : Method) (c : Code) (cc : ByteArray) (nL : Nat) (own nm : String) (b sz n K0 S0 : Nat) (xs : Nat → Int32) (D : va_G) (ca : Nat → ClassId) (sr : List Nat) (tt : List yKd) (ms : Option (List (Nat × Nat))) (Bm : Int) (v : List Int) : Prop :=
  p.tables.exec = Jvm.exec ∧ c.code = cc ∧ c.maxLocals = nL ∧ s.vm.findClass own = some m.cls ∧ (∀ w ∈ zW, w.before args s = true) ∧ va_K D vwCl (zTys ca) s ∧ va_X b n xs s s.heap ∧ yWat sz s ∧ b < sz ∧ sz ≤ s.heap.size ∧ (nm = "<init>" → meth.name = nm) ∧ P.1 = tt ∧ P.2.1 = ms ∧ (∃ B0 : Nat, yev v P.2.2.1 = some (B0 : Int) ∧ 1 ≤ B0 ∧ B0 ≤ R.frames ∧ 60 * B0 ≤ R.locals ∧ (B0 : Int) ≤ Bm) ∧ K0 ≤ R.cells ∧ S0 ≤ R.slots ∧ (∀ sl, P.2.2.2 = some sl → yev v sl.1 = some (n : Int) ∧ ∀ q ∈ sl.2, ∃ j : Nat, yev v q.1 = some (j : Int) ∧ yev v q.2 = some (xs j).toInt) ∧ (P.2.2.2 = none ∨ n < 2147483648)
def yTOk (sr : List Nat) (tt : List yKd) : Prop := yKOk sr tt ∧ (∀ t q kd ln ar, zget tt t = some (q, .inr (kd, ln, ar)) → ln < 2147483648) ∧ yT9 sr ∧ yArK tt
theorem yFm_ext {n : Nat} {xs : Nat → Int32} (h : yFm P p R s m args meth c cc nL own nm b sz n K0 S0 xs D ca sr tt ms Bm v) (u : List Int) : yFm P p R s m args meth c cc nL own nm b sz n K0 S0 xs D ca sr tt ms Bm (v ++ u) := by
  obtain ⟨h1, h2, h3, h4, h5, h6, h7, h8, h9, h10, h11, h12, h13, ⟨B0, h14, h15⟩, h16, h17, h18, h19⟩ := h
  exact ⟨h1, h2, h3, h4, h5, h6, h7, h8, h9, h10, h11, h12, h13, ⟨B0, yev_mono h14, h15⟩, h16, h17, (fun sl hsl => ⟨yev_mono (h18 sl hsl).1, fun q hq => by
    obtain ⟨j, a1, a2⟩ := (h18 sl hsl).2 q hq
    exact ⟨j, yev_mono a1, yev_mono a2⟩⟩), h19⟩
set_option maxHeartbeats 4000000 in
theorem ysel_ok {i : Instr} {a b0 w n : Nat} {xs : Nat → Int32} (hF : yFm P p R s m args meth c cc nL own nm b sz n K0 S0 xs D ca sr tt ms Bm v) (hT : yTOk sr tt) {df : List (List (List zAV))} (hCl : zClsOK df) (hMi : zMiOK mi) (hCd : ∀ j as st bud kk, zget mi j = none → call j as st bud kk = false) (hGen : ∀ w ∈ zGenW, w ∈ zW) (IH : yCallOk l sr tt mi ms Bm call)
    (hg : zgood mi own nm ret cc pc i a b0 w = true) (h : ysel i P call a b0 pc L S st k = true) (hk : ∀ cf, k cf = true → yJ p l e R s m args below meth c Q b sz sr tt D ca ms ws0 nL K0 S0 v cf) : yJat p l e R s m args below meth c Q b sz sr tt D ca ms ws0 nL K0 S0 v (pc, L, S, st) := by
  obtain ⟨hx, hb, hml, hown, hts, hK, hX, hN, hbz, hs, hnm, hPt, hPm, ⟨B0, hbud, hB1, hfr, hlo, hBm⟩, hK0, hS0, hlen, hn31⟩ := hF
  have cvI : ∀ x : Int32, yV b sz sr v (.inl ([], x.toInt)) (.int x) := fun x => ⟨x, rfl, yev_cn v _⟩
  have cvJ : ∀ x : Int64, yV b sz sr v (.inr (.inl ([], x.toInt))) (.long x) := fun x => ⟨x, rfl, yev_cn v _⟩
  have hlen' : ∀ sl, P.2.2.2 = some sl → yev v sl.1 = some (n : Int) := fun sl hsl => (hlen sl hsl).1
  have hsc' : ∀ sl, P.2.2.2 = some sl → ∀ q ∈ sl.2, ∃ j : Nat, yev v q.1 = some (j : Int) ∧ yev v q.2 = some (xs j).toInt := fun sl hsl => (hlen sl hsl).2
  cases i
  case iconst x =>
    simp only [zgood, Bool.and_eq_true, decide_eq_true_eq] at hg
    exact ys_push h hk (cvI _) fun H ls stk locs kk => lv_iconst hx hb (zdec_ok hg.1) hg.2 kk
  case athrow =>
    simp only [zgood, Bool.and_eq_true, decide_eq_true_eq] at hg
    obtain ⟨rfl, g1, g2, g3, g4, g5⟩ := hg
    exact ys_chr h hk (zdec_ok g1) (zdec_ok g2) (zdec_ok g3) (zdec_ok g4) (zdec_ok g5) hx hb hml hts hown hN hbud hfr hlo hK0 hS0
  case bipush x =>
    simp only [zgood, Bool.and_eq_true, decide_eq_true_eq] at hg
    exact ys_push h hk (cvI _) fun H ls stk locs kk => lv_bipush hx hb (zdec_ok hg.1) hg.2 kk
  case sipush x =>
    simp only [zgood, Bool.and_eq_true, decide_eq_true_eq] at hg
    exact ys_push h hk (cvI _) fun H ls stk locs kk => lv_sipush hx hb (zdec_ok hg.1) hg.2 kk
  case ldc x =>
    simp only [zgood, Bool.and_eq_true, decide_eq_true_eq] at hg
    exact ys_push h hk (cvI _) fun H ls stk locs kk => lv_ldc hx hb hown (hts _ (zisw_mem hg.2)) (zdec_ok hg.1) kk
  case ldc_w x =>
    simp only [zgood, Bool.and_eq_true, decide_eq_true_eq] at hg
    exact ys_push h hk (cvI _) fun H ls stk locs kk => lv_ldcw hx hb hown (hts _ (zisw_mem hg.2)) (zdec_ok hg.1) kk
  case lconst x =>
    simp only [zgood, Bool.and_eq_true, decide_eq_true_eq] at hg
    exact ys_push h hk (cvJ _) fun H ls stk locs kk => lv_lconst hx hb (zdec_ok hg.1) hg.2 kk
  case ldc2_w x =>
    simp only [zgood, Bool.and_eq_true, decide_eq_true_eq] at hg
    exact ys_push h hk (cvJ _) fun H ls stk locs kk => lv_ldc2 hx hb hown (hts _ (zisw_mem hg.2)) (zdec_ok hg.1) kk
  case iload x =>
    simp only [zgood, Bool.and_eq_true, decide_eq_true_eq] at hg
    obtain ⟨h1, rfl⟩ := hg
    exact ys_load h hk fun H ls stk locs av w hok hv hl kk => by
      obtain ⟨z, rfl⟩ := yisI_ok hok hv
      exact lv_iload hx hb (zdec_ok h1) hl kk
  case iload_n x =>
    simp only [zgood, Bool.and_eq_true, decide_eq_true_eq] at hg
    exact ys_load h hk fun H ls stk locs av w hok hv hl kk => by
      obtain ⟨z, rfl⟩ := yisI_ok hok hv
      exact lv_iload_n hx hb (zdec_ok hg.1) hg.2 hl kk
  case aload x =>
    simp only [zgood, Bool.and_eq_true, decide_eq_true_eq] at hg
    obtain ⟨h1, rfl⟩ := hg
    exact ys_load h hk fun H ls stk locs av w hok hv hl kk => by
      obtain ⟨z, rfl⟩ := yisR_ok hok hv
      exact lv_aload hx hb (zdec_ok h1) hl kk
  case aload_n x =>
    simp only [zgood, Bool.and_eq_true, decide_eq_true_eq] at hg
    exact ys_load h hk fun H ls stk locs av w hok hv hl kk => by
      obtain ⟨z, rfl⟩ := yisR_ok hok hv
      exact lv_aload_n hx hb (zdec_ok hg.1) hg.2 hl kk
  case lload x =>
    simp only [zgood, Bool.and_eq_true, decide_eq_true_eq] at hg
    obtain ⟨h1, rfl⟩ := hg
    exact ys_load h hk fun H ls stk locs av w hok hv hl kk => by
      obtain ⟨z, rfl⟩ := yisJ_ok hok hv
      exact lv_lload hx hb (zdec_ok h1) hl kk
  case lload_n x =>
    simp only [zgood, Bool.and_eq_true, decide_eq_true_eq] at hg
    exact ys_load h hk fun H ls stk locs av w hok hv hl kk => by
      obtain ⟨z, rfl⟩ := yisJ_ok hok hv
      exact lv_lload_n hx hb (zdec_ok hg.1) hg.2 hl kk
  case istore x =>
    simp only [zgood, Bool.and_eq_true, decide_eq_true_eq] at hg
    obtain ⟨h1, rfl⟩ := hg
    exact ys_store h hk fun H ls stk locs av w lv hok hv hlv ha kk => by
      obtain ⟨z, rfl⟩ := yisI_ok hok hv
      exact lv_istore hx hb (zdec_ok h1) hlv ha rfl kk
  case istore_n x =>
    simp only [zgood, Bool.and_eq_true, decide_eq_true_eq] at hg
    exact ys_store h hk fun H ls stk locs av w lv hok hv hlv ha kk => by
      obtain ⟨z, rfl⟩ := yisI_ok hok hv
      exact lv_istore_n hx hb (zdec_ok hg.1) hg.2 hlv ha rfl kk
  case astore x =>
    simp only [zgood, Bool.and_eq_true, decide_eq_true_eq] at hg
    obtain ⟨h1, rfl⟩ := hg
    exact ys_store h hk fun H ls stk locs av w lv hok hv hlv ha kk => by
      obtain ⟨z, rfl⟩ := yisR_ok hok hv
      exact lv_astore hx hb (zdec_ok h1) hlv ha rfl kk
  case astore_n x =>
    simp only [zgood, Bool.and_eq_true, decide_eq_true_eq] at hg
    exact ys_store h hk fun H ls stk locs av w lv hok hv hlv ha kk => by
      obtain ⟨z, rfl⟩ := yisR_ok hok hv
      exact lv_astore_n hx hb (zdec_ok hg.1) hg.2 hlv ha rfl kk
  case lstore x =>
    simp only [zgood, Bool.and_eq_true, decide_eq_true_eq] at hg
    obtain ⟨h1, rfl⟩ := hg
    exact ys_lstore h hk fun H ls stk locs z lv hlv ha kk => lv_lstore hx hb (zdec_ok h1) hlv ha rfl kk
  case lstore_n x =>
    simp only [zgood, Bool.and_eq_true, decide_eq_true_eq] at hg
    exact ys_lstore h hk fun H ls stk locs z lv hlv ha kk => lv_lstore_n hx hb (zdec_ok hg.1) hg.2 hlv ha rfl kk
  case iinc x z =>
    simp only [zgood, Bool.and_eq_true, decide_eq_true_eq] at hg
    obtain ⟨⟨h1, rfl⟩, h3⟩ := hg
    exact ys_iinc h hk fun H ls stk locs y lv j hlv hj ha kk => lv_iinc hx hb (zdec_ok h1) hlv hj (by rw [h3]) ha rfl kk
  case iadd => exact ys_bin yadd_ok h hk fun H ls stk locs x y kk => lv_iadd hx hb (zdec_ok hg) kk
  case isub => exact ys_bin ysub_ok h hk fun H ls stk locs x y kk => lv_isub hx hb (zdec_ok hg) kk
  case imul => exact ys_bin ymul_ok h hk fun H ls stk locs x y kk => lv_imul hx hb (zdec_ok hg) kk
  case iand => exact ys_bin yand_ok h hk fun H ls stk locs x y kk => lv_iand hx hb (zdec_ok hg) kk
  case ior => exact ys_bin yior_ok h hk fun H ls stk locs x y kk => lv_ior hx hb (zdec_ok hg) kk
  case ishl => exact ys_bin yshl_ok h hk fun H ls stk locs x y kk => lv_ishl hx hb (zdec_ok hg) kk
  case ishr => exact ys_bin yshr_ok h hk fun H ls stk locs x y kk => lv_ishr hx hb (zdec_ok hg) kk
  case idiv => exact ys_div (f := (· / ·)) h hk fun H ls stk locs x y hne kk => lv_idiv hx hb (zdec_ok hg) hne kk
  case irem => exact ys_div (f := fun x y => x - x / y * y) h hk fun H ls stk locs x y hne kk => lv_irem hx hb (zdec_ok hg) hne kk
  case i2b => exact ys_i2b h hk fun H ls stk locs x kk => lv_i2b hx hb (zdec_ok hg) rfl kk
  case i2l => exact ys_i2l h hk fun H ls stk locs x kk => lv_i2l hx hb (zdec_ok hg) rfl kk
  case l2i => exact ys_l2i h hk fun H ls stk locs x kk => lv_l2i hx hb (zdec_ok hg) rfl kk
  case lor => exact ys_lbin (f := (· ||| ·)) h hk fun H ls stk locs x y kk => lv_lor hx hb (zdec_ok hg) kk
  case land => exact ys_lbin (f := (· &&& ·)) h hk fun H ls stk locs x y kk => lv_land hx hb (zdec_ok hg) kk
  case ladd => exact ys_lbin (f := (· + ·)) h hk fun H ls stk locs x y kk => lv_ladd hx hb (zdec_ok hg) kk
  case lmul => exact ys_lbin (f := (· * ·)) h hk fun H ls stk locs x y kk => lv_lmul hx hb (zdec_ok hg) kk
  case lshl => exact ys_lsh (f := fun x y => x <<< (y.toInt64 &&& 63)) h hk fun H ls stk locs x y kk => lv_lshl hx hb (zdec_ok hg) rfl kk
  case lshr => exact ys_lsh (f := fun x y => x >>> (y.toInt64 &&& 63)) h hk fun H ls stk locs x y kk => lv_lshr hx hb (zdec_ok hg) rfl kk
  case lushr => exact ys_lsh (f := fun x y => (x.toUInt64 >>> (y.toInt64.toUInt64 &&& Int64.toUInt64 63)).toInt64) h hk fun H ls stk locs x y kk => lv_lushr hx hb (zdec_ok hg) rfl kk
  case lcmp => exact ys_lcmp h hk fun H ls stk locs x y kk => W.lcmp hx hb (zdec_ok hg) kk
  case if_icmp cd off =>
    simp only [zgood, Bool.and_eq_true, decide_eq_true_eq] at hg
    have hd := zdec_ok hg.1
    refine ys_icmp h hk fun H ls stk locs x y kt kf => ?_
    cases cd
    · exact lv_icmp_eq hx hb hd hg.2 kt kf
    · exact lv_icmp_ne hx hb hd hg.2 kt fun z => kf fun w => w z
    · exact lv_icmp_lt hx hb hd hg.2 kt kf
    · exact lv_icmp_ge hx hb hd hg.2 kt kf
    · exact lv_icmp_gt hx hb hd hg.2 kt kf
    · exact lv_icmp_le hx hb hd hg.2 kt kf
  case ifCond cd off =>
    simp only [zgood, Bool.and_eq_true, decide_eq_true_eq] at hg
    have hd := zdec_ok hg.1
    refine ys_if h hk fun H ls stk locs x kt kf => ?_
    cases cd
    · exact lv_if_eq hx hb hd hg.2 kt kf
    · exact lv_if_ne hx hb hd hg.2 kt fun z => kf fun w => w z
    · exact lv_if_lt hx hb hd hg.2 kt kf
    · exact lv_if_ge hx hb hd hg.2 kt kf
    · exact lv_if_gt hx hb hd hg.2 kt kf
    · exact lv_if_le hx hb hd hg.2 kt kf
  case goto off =>
    simp only [zgood, Bool.and_eq_true, decide_eq_true_eq] at hg
    exact fun H ls stk locs hR hH hL hS => lv_goto hx hb (zdec_ok hg.1) hg.2 (yon0 hk h hR hH hL hS)
  case getfield x =>
    simp only [zgood, Bool.and_eq_true] at hg
    obtain ⟨C, T, N, hc, hkk, hl⟩ := zfld_ok hg.2
    exact ys_get h hk hPt hT.1 hx hb hts (hCl _ _ _ _ hc).1 hown hK hc hkk hl (zdec_ok hg.1)
  case putfield x =>
    simp only [zgood, Bool.and_eq_true] at hg
    obtain ⟨C, T, N, hc, hkk, hl⟩ := zfld_ok hg.1.2
    obtain ⟨c1, ⟨ty0, c2, -⟩, c3, -⟩ := hCl _ _ _ _ hc
    obtain ⟨hfin, ty, hd, htc⟩ := zput_ok hc hg.2
    exact ys_put hT.2.2.1 h hk hPt hPm hx hb hts c1 c2 c3 hown hK hc hkk hl (hfin.imp id fun ⟨q1, q2, q3⟩ => ⟨q1, (hnm q2).trans q2, q3⟩) hd htc (zdec_ok hg.1.1)
  case arraylength => exact ys_alen h hk hPt hx hb hK hX hbz hs hlen' hn31 hT.2.1 (zdec_ok hg)
  case iaload => exact ys_ald (isB := false) hT.1 hT.2.2.1 h hk hPt hx hb hK hX hbz hs hlen' hsc' (zdec_ok hg)
  case baload => exact ys_ald (isB := true) hT.1 hT.2.2.1 h hk hPt hx hb hK hX hbz hs hlen' hsc' (zdec_ok hg)
  case laload => exact ys_lald h hk hPt hx hb hK (zdec_ok hg)
  case iastore => exact ys_ast (isB := false) hT.2.2.1 h hk hPt hPm hx hb hK (zdec_ok hg)
  case bastore => exact ys_ast (isB := true) hT.2.2.1 h hk hPt hPm hx hb hK (zdec_ok hg)
  case lastore => exact ys_last hT.2.2.1 h hk hPt hPm hx hb hK (zdec_ok hg)
  case dup => exact ys_dup h hk fun H ls stk locs x h1 kk => lv_dup hx hb (zdec_ok hg) h1 kk
  case pop => exact ys_pop h hk fun H ls stk locs x h1 kk => lv_pop hx hb (zdec_ok hg) h1 kk
  case dup_x1 => exact ys_dup_x1 h hk fun H ls stk locs x y h1 h2 kk => lv_dup_x1 hx hb (zdec_ok hg) h1 h2 kk
  case dup_x2 => exact ys_dup_x2 h hk fun H ls stk locs x y z h1 h2 h3 kk => lv_dup_x2 hx hb (zdec_ok hg) h1 h2 h3 kk
  case dup2 => exact ys_dup2 h hk fun H ls stk locs x y h1 h2 kk => lv_dup2_11 hx hb (zdec_ok hg) h1 h2 kk
  case tableswitch dflt lo hi offs =>
    exact ys_table h hk (fun H ls stk locs x tgt ho ht kk => lv_tableOut hx hb (zdec_ok hg) ho ht kk) (fun H ls stk locs x tgt off h1 h2 ho ht kk => lv_tableIn hx hb (zdec_ok hg) h1 h2 ho ht kk)
  case lookupswitch dflt ps =>
    simp only [zgood] at hg
    rw [Bool.and_eq_true] at hg
    exact ys_lookup h hk fun H ls stk locs x tgt off ho ht kk => lv_lookup hx hb (zdec_ok hg.1) hg.2 ho ht kk
  case invokevirtual x =>
    simp only [zgood, Bool.and_eq_true] at hg
    obtain ⟨hd, hg⟩ := hg
    cases hj : zget mi a with
    | none => exact absurd h (by
        show ¬ yx_callV P call a b0 pc L S st k = true
        unfold yx_callV
        split
        · split
          · simp only [hCd _ _ _ _ _ hj, Bool.and_false]; decide
          · decide
        · decide)
    | some q =>
      obtain ⟨y, cd, maxL, rt, kd, na⟩ := q
      obtain ⟨e1, e2, e3, e4⟩ := zcallOk_ok hj hg
      subst e1
      obtain ⟨f1, f2, f3, -, -⟩ := hMi _ _ _ _ _ _ _ hj
      obtain ⟨T, N, hc⟩ := e3.resolve_left (by decide)
      obtain ⟨g1, g2⟩ := f3 rfl
      exact ys_callV h hk hPt IH hj e2 hc f1 g1 (Or.inl ⟨zdec_ok hd, e4.resolve_right (fun z => by cases z.1), g2⟩) hx hb hml hts hown hK hX hN hbz hs hbud hBm hfr hlo hK0 hS0
  case invokestatic x =>
    simp only [zgood, Bool.and_eq_true] at hg
    obtain ⟨hd, hg⟩ := hg
    rcases a with _ | _ | _ | j
    · exact ys_copy hT.2.2.1 h hk hPt hPm hx hb hml hts hown hK (zisw_mem hg) (hGen _ (by simp [zGenW])) (hGen _ (by simp [zGenW])) (hGen _ (by simp [zGenW])) (by omega) (by omega) (zdec_ok hd)
    · refine ys_mm (isMax := true) h hk fun H ls stk locs x y hls h8 kk => ?_
      have e1 : (if (x < y) = (true = true) then y else x) = if x < y then y else x := by by_cases hxy : x < y <;> simp [hxy]
      rw [e1] at kk
      exact va_mmax hx hb (hml.trans hls.symm) hown (hts _ (zisw_mem hg)) (hts _ (hGen _ (by simp [zGenW]))) (hts _ (hGen _ (by simp [zGenW]))) (hts _ (hGen _ (by simp [zGenW]))) (by omega) (by omega) hK0 hS0 (zdec_ok hd) kk
    · refine ys_mm (isMax := false) h hk fun H ls stk locs x y hls h8 kk => ?_
      have e1 : (if (x < y) = (false = true) then y else x) = if y < x then y else x := by
        by_cases h1 : x < y
        · have h2 : ¬ y < x := fun z => by have a1 := Int32.lt_iff_toInt_lt.mp h1; have a2 := Int32.lt_iff_toInt_lt.mp z; omega
          simp [h1, h2]
        · by_cases h2 : y < x
          · simp [h1, h2]
          · have h3 : x = y := Int32.toInt_inj.mp (by
              have a1 : ¬ x.toInt < y.toInt := fun z => h1 (Int32.lt_iff_toInt_lt.mpr z)
              have a2 : ¬ y.toInt < x.toInt := fun z => h2 (Int32.lt_iff_toInt_lt.mpr z)
              omega)
            simp [h1, h2, h3]
      rw [e1] at kk
      exact va_mmin hx hb (hml.trans hls.symm) hown (hts _ (zisw_mem hg)) (hts _ (hGen _ (by simp [zGenW]))) (hts _ (hGen _ (by simp [zGenW]))) (hts _ (hGen _ (by simp [zGenW]))) (by omega) (by omega) hK0 hS0 (zdec_ok hd) kk
    · cases hj : zget mi j with
      | none => exact absurd h (by
          show ¬ yx_callS P call j b0 pc L S st k = true
          unfold yx_callS
          split
          · simp only [hCd _ _ _ _ _ hj, Bool.and_false]; decide
          · decide)
      | some q =>
        obtain ⟨y, cd, maxL, rt, kd, na⟩ := q
        obtain ⟨e1, e2, e3, e4⟩ := zcallOk_ok hj hg
        subst e1
        obtain ⟨f1, f2, -, -, f3⟩ := hMi _ _ _ _ _ _ _ hj
        exact ys_callS h hk hPt IH hj e2 f1 (f3 rfl) (zdec_ok hd) (e4.resolve_right (fun z => by cases z.1)) hx hb hml hts hown hK hX hN hbz hs hbud hBm hfr hlo hK0 hS0
  all_goals exact absurd (show false = true from h) (by decide)
theorem yrun_ok {cd : zCode} {n : Nat} {xs : Nat → Int32} (hF : yFm P p R s m args meth c cc nL own nm b sz n K0 S0 xs D ca sr tt ms Bm v) (hT : yTOk sr tt) {df : List (List (List zAV))} (hCl : zClsOK df) (hMi : zMiOK mi) (hCd : ∀ j as st bud kk, zget mi j = none → call j as st bud kk = false) (hGen : ∀ w ∈ zGenW, w ∈ zW) (IH : yCallOk l sr tt mi ms Bm call)
    (hg : ∀ (pc : Nat) (i : Instr) (a b0 w : Nat), zfetch cd pc = some (i, a, b0, w) → zgood mi own nm ret cc pc i a b0 w = true) {stop : Nat → Bool} {fin : yCfg → Bool} (hfin : ∀ cf i a b0 w, fin cf = true → zfetch cd cf.1 = some (i, a, b0, w) → (yisRet i || stop cf.1) = true → yJ p l e R s m args below meth c Q b sz sr tt D ca ms ws0 nL K0 S0 v cf) : ∀ (fuel : Nat) (cf : yCfg), yrun P cd call stop fin fuel cf = true → yJ p l e R s m args below meth c Q b sz sr tt D ca ms ws0 nL K0 S0 v cf := by
  intro fuel
  induction fuel with
  | zero => intro cf h; cases h
  | succ fuel ih =>
    intro cf h u
    obtain ⟨pc, L, S, st⟩ := cf
    have h : (match zfetch cd pc with
      | some (i, a, b, _) => match yisRet i || stop pc with
        | true => fin (pc, L, S, st)
        | false => ysel i P call a b pc L S st (yrun P cd call stop fin fuel)
      | none => false) = true := h
    split at h
    · rename_i i a b0 w hfe
      split at h
      · rename_i hs
        exact hfin _ _ _ _ _ h hfe hs u
      · exact ysel_ok (yFm_ext hF u) hT hCl hMi hCd hGen IH (hg _ _ _ _ _ hfe) h fun cf hcf => yJ_ext (ih cf hcf) u
    · cases h
end yExec
