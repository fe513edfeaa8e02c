/-! Any instruction of the third machine; its runs; a method of which the whole run is known. -/
section xExec
variable {p : Program} {l : Launch} {e : Env} {R : Room} {s : State} {m : MethodId} {args : Array Value} {below : List Frame} {meth : Method} {c : Code} {Q : State → Prop}
variable {b sz nL K0 S0 : Nat} {sr : List Nat} {tt : List yKd} {D : va_G} {ca : Nat → ClassId} {ws : va_W} {cc : ByteArray}
variable {pc : Nat} {L : List (Option xV)} {S : List xV} {C C1 : xC} {E : Type} {k : xCf → Option E} {r : E} {H : Heap} {locs : List Loc} {ls : Array Slot} {stk : List Value}
variable {own nm : String} {ret : Option FieldType} {P : xPar} {call : xCl} {mi : List zMInfo}
def xFm (P : xPar) (p : Program) (R : Room) (s : State) (m : MethodId) (args : Array Value) (meth : Method) (c : Code) (cc : ByteArray) (nL : Nat) (own nm : String) (b sz n K0 S0 : Nat) (xs : Nat → Int32) (D : va_G) (ca : Nat → ClassId) (tt : List yKd) (B0 : Nat) : Prop :=
  p.tables.exec = Jvm.exec ∧ c.code = cc ∧ c.maxLocals = nL ∧ s.vm.findClass own = some m.cls ∧ (∀ w ∈ zW, w.before args s = true) ∧ va_K D vwCl (zTys ca) s ∧ va_X b n xs s s.heap ∧ yWat sz s ∧ b < sz ∧ sz ≤ s.heap.size ∧ (nm = "<init>" → meth.name = nm) ∧ P.1 = tt ∧ (∀ t q kd ln ar, zget tt t = some (q, .inr (kd, ln, ar)) → ln < 2147483648) ∧ B0 ≤ R.frames ∧ 60 * B0 ≤ R.locals ∧ K0 ≤ R.cells ∧ S0 ≤ R.slots ∧ 4 ≤ B0
theorem bmod_i2b (x : Int32) : x.toInt8.toInt32.toInt = Int.bmod x.toInt 256 := (Int8.toInt_toInt32 x.toInt8).trans (Int32.toInt_toInt8 x)
set_option maxHeartbeats 4000000 in
theorem xsel_ok {i : Instr} {a b0 w n B0 : Nat} {xs : Nat → Int32} (hF : xFm P p R s m args meth c cc nL own nm b sz n K0 S0 xs D ca tt B0) {df : List (List (List zAV))} (hCl : zClsOK df) (hMi : zMiOK mi) (hCd : ∀ j as C, zget mi j = none → call j as C = none) (IH : xCallOk l sr tt mi P.2 call B0)
    (hg : zgood mi own nm ret cc pc i a b0 w = true) (h : xsel i P call a b0 pc L S C k = some r) : xGo p l e R s m args below meth c Q b sz sr tt D ca nL K0 S0 k r (pc, L, S, C) := by
  obtain ⟨hx, hb, hml, hown, hts, hK, hX, hN, hbz, hs, hnm, hPt, hl31, hfr, hlo, hK0, hS0, hB4⟩ := hF
  have cvI : ∀ x : Int32, xRv b sz sr (.inl x.toInt) (.int x) := fun x => ⟨x, rfl, rfl⟩
  have cvJ : ∀ x : Int64, xRv b sz sr (.inr (.inl x.toInt)) (.long x) := fun x => ⟨x, rfl, rfl⟩
  cases i
  case iconst x =>
    simp only [zgood, Bool.and_eq_true, decide_eq_true_eq] at hg
    exact xs_push_ok h (cvI _) fun H ls stk locs kk => lv_iconst hx hb (zdec_ok hg.1) hg.2 kk
  case athrow =>
    simp only [zgood, Bool.and_eq_true, decide_eq_true_eq] at hg
    obtain ⟨rfl, g1, g2, g3, g4, g5⟩ := hg
    exact xs_chr_ok h (zdec_ok g1) (zdec_ok g2) (zdec_ok g3) (zdec_ok g4) (zdec_ok g5) hx hb hml hts hown hN hB4 hfr hlo hK0 hS0
  case bipush x =>
    simp only [zgood, Bool.and_eq_true, decide_eq_true_eq] at hg
    exact xs_push_ok h (cvI _) fun H ls stk locs kk => lv_bipush hx hb (zdec_ok hg.1) hg.2 kk
  case sipush x =>
    simp only [zgood, Bool.and_eq_true, decide_eq_true_eq] at hg
    exact xs_push_ok h (cvI _) fun H ls stk locs kk => lv_sipush hx hb (zdec_ok hg.1) hg.2 kk
  case ldc x =>
    simp only [zgood, Bool.and_eq_true, decide_eq_true_eq] at hg
    exact xs_push_ok h (cvI _) fun H ls stk locs kk => lv_ldc hx hb hown (hts _ (zisw_mem hg.2)) (zdec_ok hg.1) kk
  case ldc_w x =>
    simp only [zgood, Bool.and_eq_true, decide_eq_true_eq] at hg
    exact xs_push_ok h (cvI _) fun H ls stk locs kk => lv_ldcw hx hb hown (hts _ (zisw_mem hg.2)) (zdec_ok hg.1) kk
  case lconst x =>
    simp only [zgood, Bool.and_eq_true, decide_eq_true_eq] at hg
    exact xs_push_ok h (cvJ _) fun H ls stk locs kk => lv_lconst hx hb (zdec_ok hg.1) hg.2 kk
  case ldc2_w x =>
    simp only [zgood, Bool.and_eq_true, decide_eq_true_eq] at hg
    exact xs_push_ok h (cvJ _) fun H ls stk locs kk => lv_ldc2 hx hb hown (hts _ (zisw_mem hg.2)) (zdec_ok hg.1) kk
  case iload x =>
    simp only [zgood, Bool.and_eq_true, decide_eq_true_eq] at hg
    obtain ⟨h1, rfl⟩ := hg
    exact xs_load_ok h fun H ls stk locs av w hok hv hl kk => by
      obtain ⟨z, rfl⟩ := xisI_ok hok hv
      exact lv_iload hx hb (zdec_ok h1) hl kk
  case iload_n x =>
    simp only [zgood, Bool.and_eq_true, decide_eq_true_eq] at hg
    exact xs_load_ok h fun H ls stk locs av w hok hv hl kk => by
      obtain ⟨z, rfl⟩ := xisI_ok hok hv
      exact lv_iload_n hx hb (zdec_ok hg.1) hg.2 hl kk
  case aload x =>
    simp only [zgood, Bool.and_eq_true, decide_eq_true_eq] at hg
    obtain ⟨h1, rfl⟩ := hg
    exact xs_load_ok h fun H ls stk locs av w hok hv hl kk => by
      obtain ⟨z, rfl⟩ := xisR_ok hok hv
      exact lv_aload hx hb (zdec_ok h1) hl kk
  case aload_n x =>
    simp only [zgood, Bool.and_eq_true, decide_eq_true_eq] at hg
    exact xs_load_ok h fun H ls stk locs av w hok hv hl kk => by
      obtain ⟨z, rfl⟩ := xisR_ok hok hv
      exact lv_aload_n hx hb (zdec_ok hg.1) hg.2 hl kk
  case lload x =>
    simp only [zgood, Bool.and_eq_true, decide_eq_true_eq] at hg
    obtain ⟨h1, rfl⟩ := hg
    exact xs_load_ok h fun H ls stk locs av w hok hv hl kk => by
      obtain ⟨z, rfl⟩ := xisJ_ok hok hv
      exact lv_lload hx hb (zdec_ok h1) hl kk
  case lload_n x =>
    simp only [zgood, Bool.and_eq_true, decide_eq_true_eq] at hg
    exact xs_load_ok h fun H ls stk locs av w hok hv hl kk => by
      obtain ⟨z, rfl⟩ := xisJ_ok hok hv
      exact lv_lload_n hx hb (zdec_ok hg.1) hg.2 hl kk
  case istore x =>
    simp only [zgood, Bool.and_eq_true, decide_eq_true_eq] at hg
    obtain ⟨h1, rfl⟩ := hg
    exact xs_store_ok h fun H ls stk locs av w lv hok hv hlv ha kk => by
      obtain ⟨z, rfl⟩ := xisI_ok hok hv
      exact lv_istore hx hb (zdec_ok h1) hlv ha rfl kk
  case istore_n x =>
    simp only [zgood, Bool.and_eq_true, decide_eq_true_eq] at hg
    exact xs_store_ok h fun H ls stk locs av w lv hok hv hlv ha kk => by
      obtain ⟨z, rfl⟩ := xisI_ok hok hv
      exact lv_istore_n hx hb (zdec_ok hg.1) hg.2 hlv ha rfl kk
  case astore x =>
    simp only [zgood, Bool.and_eq_true, decide_eq_true_eq] at hg
    obtain ⟨h1, rfl⟩ := hg
    exact xs_store_ok h fun H ls stk locs av w lv hok hv hlv ha kk => by
      obtain ⟨z, rfl⟩ := xisR_ok hok hv
      exact lv_astore hx hb (zdec_ok h1) hlv ha rfl kk
  case astore_n x =>
    simp only [zgood, Bool.and_eq_true, decide_eq_true_eq] at hg
    exact xs_store_ok h fun H ls stk locs av w lv hok hv hlv ha kk => by
      obtain ⟨z, rfl⟩ := xisR_ok hok hv
      exact lv_astore_n hx hb (zdec_ok hg.1) hg.2 hlv ha rfl kk
  case lstore x =>
    simp only [zgood, Bool.and_eq_true, decide_eq_true_eq] at hg
    obtain ⟨h1, rfl⟩ := hg
    exact xs_lstore_ok h fun H ls stk locs z lv hlv ha kk => lv_lstore hx hb (zdec_ok h1) hlv ha rfl kk
  case lstore_n x =>
    simp only [zgood, Bool.and_eq_true, decide_eq_true_eq] at hg
    exact xs_lstore_ok h fun H ls stk locs z lv hlv ha kk => lv_lstore_n hx hb (zdec_ok hg.1) hg.2 hlv ha rfl kk
  case iinc x z =>
    simp only [zgood, Bool.and_eq_true, decide_eq_true_eq] at hg
    obtain ⟨⟨h1, rfl⟩, h3⟩ := hg
    exact xs_iinc_ok h fun H ls stk locs y lv j hlv hj ha kk => lv_iinc hx hb (zdec_ok h1) hlv hj (by rw [h3]) ha rfl kk
  case iadd => exact xs_bin_ok w32_add h fun H ls stk locs x y kk => lv_iadd hx hb (zdec_ok hg) kk
  case isub => exact xs_bin_ok w32_sub h fun H ls stk locs x y kk => lv_isub hx hb (zdec_ok hg) kk
  case imul => exact xs_bin_ok w32_mul h fun H ls stk locs x y kk => lv_imul hx hb (zdec_ok hg) kk
  case iand => exact xs_bin_ok (x32_op (· &&& ·)) h fun H ls stk locs x y kk => lv_iand hx hb (zdec_ok hg) kk
  case ior => exact xs_bin_ok (x32_op (· ||| ·)) h fun H ls stk locs x y kk => lv_ior hx hb (zdec_ok hg) kk
  case ishl => exact xs_bin_ok (x32_op fun x y => x <<< (y &&& 31)) h fun H ls stk locs x y kk => lv_ishl hx hb (zdec_ok hg) kk
  case ishr => exact xs_bin_ok (x32_op fun x y => x >>> (y &&& 31)) h fun H ls stk locs x y kk => lv_ishr hx hb (zdec_ok hg) kk
  case idiv => exact xs_div_ok (x32_op (· / ·)) h fun H ls stk locs x y hne kk => lv_idiv hx hb (zdec_ok hg) hne kk
  case irem => exact xs_div_ok (x32_op fun x y => x - x / y * y) h fun H ls stk locs x y hne kk => lv_irem hx hb (zdec_ok hg) hne kk
  case i2b => exact xs_un_ok (F := fun x => x.toInt8.toInt32) bmod_i2b h fun H ls stk locs x kk => lv_i2b hx hb (zdec_ok hg) rfl kk
  case i2l => exact xs_i2l_ok h fun H ls stk locs x kk => lv_i2l hx hb (zdec_ok hg) rfl kk
  case l2i => exact xs_l2i_ok h fun H ls stk locs x kk => lv_l2i hx hb (zdec_ok hg) rfl kk
  case lor => exact xs_lbin_ok (x64_op (· ||| ·)) h fun H ls stk locs x y kk => lv_lor hx hb (zdec_ok hg) kk
  case land => exact xs_lbin_ok (x64_op (· &&& ·)) h fun H ls stk locs x y kk => lv_land hx hb (zdec_ok hg) kk
  case ladd => exact xs_lbin_ok w64_add h fun H ls stk locs x y kk => lv_ladd hx hb (zdec_ok hg) kk
  case lmul => exact xs_lbin_ok w64_mul h fun H ls stk locs x y kk => lv_lmul hx hb (zdec_ok hg) kk
  case lshl => exact xs_lsh_ok (F := fun x y => x <<< (y.toInt64 &&& 63)) (xsh_op fun x y => x <<< (y &&& 63)) h fun H ls stk locs x y kk => lv_lshl hx hb (zdec_ok hg) rfl kk
  case lshr => exact xs_lsh_ok (F := fun x y => x >>> (y.toInt64 &&& 63)) (xsh_op fun x y => x >>> (y &&& 63)) h fun H ls stk locs x y kk => lv_lshr hx hb (zdec_ok hg) rfl kk
  case lcmp => exact xs_lcmp_ok h fun H ls stk locs x y kk => W.lcmp hx hb (zdec_ok hg) kk
  case if_icmp cd off =>
    simp only [zgood, Bool.and_eq_true, decide_eq_true_eq] at hg
    have hd := zdec_ok hg.1
    refine xs_icmp_ok h fun H ls stk locs x y kt kf => ?_
    cases cd
    · exact lv_icmp_eq hx hb hd hg.2 kt kf
    · exact lv_icmp_ne hx hb hd hg.2 kt fun z => kf fun w => w z
    · exact lv_icmp_lt hx hb hd hg.2 kt kf
    · exact lv_icmp_ge hx hb hd hg.2 kt kf
    · exact lv_icmp_gt hx hb hd hg.2 kt kf
    · exact lv_icmp_le hx hb hd hg.2 kt kf
  case ifCond cd off =>
    simp only [zgood, Bool.and_eq_true, decide_eq_true_eq] at hg
    have hd := zdec_ok hg.1
    refine xs_if_ok h fun H ls stk locs x kt kf => ?_
    cases cd
    · exact lv_if_eq hx hb hd hg.2 kt kf
    · exact lv_if_ne hx hb hd hg.2 kt fun z => kf fun w => w z
    · exact lv_if_lt hx hb hd hg.2 kt kf
    · exact lv_if_ge hx hb hd hg.2 kt kf
    · exact lv_if_gt hx hb hd hg.2 kt kf
    · exact lv_if_le hx hb hd hg.2 kt kf
  case goto off =>
    simp only [zgood, Bool.and_eq_true, decide_eq_true_eq] at hg
    exact ⟨_, h, fun hc H ls stk locs hH hL hS => lv_goto hx hb (zdec_ok hg.1) hg.2 (hc H ls stk locs hH hL hS)⟩
  case getfield x =>
    simp only [zgood, Bool.and_eq_true] at hg
    obtain ⟨C0, T, N, hc, hkk, hl⟩ := zfld_ok hg.2
    exact xs_get_ok h hPt hx hb hts (hCl _ _ _ _ hc).1 hown hK hc hkk hl (zdec_ok hg.1)
  case putfield x =>
    simp only [zgood, Bool.and_eq_true] at hg
    obtain ⟨C0, T, N, hc, hkk, hl⟩ := zfld_ok hg.1.2
    obtain ⟨c1, ⟨ty0, c2, -⟩, c3, -⟩ := hCl _ _ _ _ hc
    obtain ⟨hfin, ty, hd, htc⟩ := zput_ok hc hg.2
    exact xs_put_ok h hPt hx hb hts c1 c2 c3 hown hK hc hkk hl (hfin.imp id fun ⟨q1, q2, q3⟩ => ⟨q1, (hnm q2).trans q2, q3⟩) hd htc (zdec_ok hg.1.1)
  case arraylength => exact xs_alen_ok h hPt hx hb hK hl31 (zdec_ok hg)
  case iaload => exact xs_ald_ok (isB := false) h hPt hx hb hK (zdec_ok hg)
  case baload => exact xs_ald_ok (isB := true) h hPt hx hb hK (zdec_ok hg)
  case laload => exact xs_lald_ok h hPt hx hb hK (zdec_ok hg)
  case iastore => exact xs_ast_ok (isB := false) h hPt hx hb hK (zdec_ok hg)
  case bastore => exact xs_ast_ok (isB := true) h hPt hx hb hK (zdec_ok hg)
  case lastore => exact xs_last_ok h hPt hx hb hK (zdec_ok hg)
  case dup => exact xs_dup_ok h fun H ls stk locs x h1 kk => lv_dup hx hb (zdec_ok hg) h1 kk
  case pop => exact xs_pop_ok h fun H ls stk locs x h1 kk => lv_pop hx hb (zdec_ok hg) h1 kk
  case dup_x1 => exact xs_dup_x1_ok h fun H ls stk locs x y h1 h2 kk => lv_dup_x1 hx hb (zdec_ok hg) h1 h2 kk
  case dup2 => exact xs_dup2_ok h fun H ls stk locs x y h1 h2 kk => lv_dup2_11 hx hb (zdec_ok hg) h1 h2 kk
  case tableswitch dflt lo hi offs =>
    exact xs_table_ok h (fun H ls stk locs x tgt ho ht kk => lv_tableOut hx hb (zdec_ok hg) ho ht kk) (fun H ls stk locs x tgt off h1 h2 ho ht kk => lv_tableIn hx hb (zdec_ok hg) h1 h2 ho ht kk)
  case lookupswitch dflt ps =>
    simp only [zgood] at hg
    rw [Bool.and_eq_true] at hg
    exact xs_lookup_ok h fun H ls stk locs x tgt off ho ht kk => lv_lookup hx hb (zdec_ok hg.1) hg.2 ho ht kk
  case invokevirtual x =>
    simp only [zgood, Bool.and_eq_true] at hg
    obtain ⟨hd, hg⟩ := hg
    cases hj : zget mi a with
    | none => exact absurd h (by
        show ¬ xs_callV P call a b0 pc L S C k = some r
        unfold xs_callV
        split
        · split
          · split
            · split
              · rw [hCd _ _ _ hj]
                intro q
                cases q
              · intro q; cases q
            · intro q; cases q
          · intro q; cases q
        · intro q; cases q)
    | some q =>
      obtain ⟨y, cd, maxL, rt, kd, na⟩ := q
      obtain ⟨e1, e2, e3, e4⟩ := zcallOk_ok hj hg
      subst e1
      obtain ⟨f1, f2, f3, -, -⟩ := hMi _ _ _ _ _ _ _ hj
      obtain ⟨T, N, hc⟩ := e3.resolve_left (by decide)
      obtain ⟨g1, g2⟩ := f3 rfl
      exact xs_callV_ok h hPt IH hj e2 hc f1 g1 (zdec_ok hd) (e4.resolve_right (fun z => by cases z.1)) g2 hx hb hml hts hown hK hX hN hbz hs hfr hlo hK0 hS0
  case invokestatic x =>
    simp only [zgood, Bool.and_eq_true] at hg
    obtain ⟨hd, hg⟩ := hg
    rcases a with _ | _ | _ | j
    · have h : xs_copy P pc L S C k = some r := h
      exact xs_copy_ok h hPt hx hb hml hts hown hK (zisw_mem hg) (zGen_all _ (by simp [zGenW])) (zGen_all _ (by simp [zGenW])) (zGen_all _ (by simp [zGenW])) (by omega) (by omega) (zdec_ok hd)
    · have h : xs_mm (fun x y => max x y) pc L S C k = some r := h
      refine xs_mm_ok (F := fun x y => if x < y then y else x) (fun x y => ?_) h fun H ls stk locs x y hls h8 kk => ?_
      · split
        · rename_i q
          have := Int32.lt_iff_toInt_lt.mp q
          omega
        · rename_i q
          have : ¬ x.toInt < y.toInt := fun w => q (Int32.lt_iff_toInt_lt.mpr w)
          omega
      · exact va_mmax hx hb (hml.trans hls.symm) hown (hts _ (zisw_mem hg)) (hts _ (zGen_all _ (by simp [zGenW]))) (hts _ (zGen_all _ (by simp [zGenW]))) (hts _ (zGen_all _ (by simp [zGenW]))) (by omega) (by omega) hK0 hS0 (zdec_ok hd) kk
    · have h : xs_mm (fun x y => min x y) pc L S C k = some r := h
      refine xs_mm_ok (F := fun x y => if y < x then y else x) (fun x y => ?_) h fun H ls stk locs x y hls h8 kk => ?_
      · split
        · rename_i q
          have := Int32.lt_iff_toInt_lt.mp q
          omega
        · rename_i q
          have : ¬ y.toInt < x.toInt := fun w => q (Int32.lt_iff_toInt_lt.mpr w)
          omega
      · exact va_mmin hx hb (hml.trans hls.symm) hown (hts _ (zisw_mem hg)) (hts _ (zGen_all _ (by simp [zGenW]))) (hts _ (zGen_all _ (by simp [zGenW]))) (hts _ (zGen_all _ (by simp [zGenW]))) (by omega) (by omega) hK0 hS0 (zdec_ok hd) kk
    · have h : xs_callS P call j b0 pc L S C k = some r := h
      cases hj : zget mi j with
      | none => exact absurd h (by
          unfold xs_callS
          split
          · split
            · split
              · rw [hCd _ _ _ hj]
                intro q
                cases q
              · intro q; cases q
            · intro q; cases q
          · intro q; cases q)
      | some q =>
        obtain ⟨y, cd, maxL, rt, kd, na⟩ := q
        obtain ⟨e1, e2, e3, e4⟩ := zcallOk_ok hj hg
        subst e1
        obtain ⟨f1, f2, -, -, f3⟩ := hMi _ _ _ _ _ _ _ hj
        exact xs_callS_ok h hPt IH hj e2 f1 (f3 rfl) (zdec_ok hd) (e4.resolve_right (fun z => by cases z.1)) hx hb hml hts hown hK hX hN hbz hs hfr hlo hK0 hS0
  all_goals exact absurd (show (none : Option E) = some r from h) (by intro q; cases q)
theorem xto_ok {cd : zCode} {n B0 : Nat} {xs : Nat → Int32} (hF : xFm P p R s m args meth c cc nL own nm b sz n K0 S0 xs D ca tt B0) {df : List (List (List zAV))} (hCl : zClsOK df) (hMi : zMiOK mi) (hCd : ∀ j as C, zget mi j = none → call j as C = none) (IH : xCallOk l sr tt mi P.2 call B0)
    (hg : ∀ (pc : Nat) (i : Instr) (a b0 w : Nat), zfetch cd pc = some (i, a, b0, w) → zgood mi own nm ret cc pc i a b0 w = true) {stop : Nat → Bool} : ∀ (fuel : Nat) (cf cf1 : xCf), xto P cd call stop fuel cf = some cf1 → xAt p l e R s m args below meth c Q b sz sr tt D ca nL K0 S0 cf1 → xAt p l e R s m args below meth c Q b sz sr tt D ca nL K0 S0 cf := by
  intro fuel
  induction fuel with
  | zero => intro cf cf1 h; cases h
  | succ fuel ih =>
    intro cf cf1 h
    obtain ⟨pc, L, S, C⟩ := cf
    have h : (match zfetch cd pc with
      | some (i, a, b, _) => match yisRet i || stop pc with
        | true => some (pc, L, S, C)
        | false => xsel i P call a b pc L S C (xto P cd call stop fuel)
      | none => none) = some cf1 := h
    split at h
    · rename_i i a b0 w hfe
      split at h
      · cases h
        exact id
      · obtain ⟨cf2, k1, k2⟩ := xsel_ok (p := p) (l := l) (e := e) (R := R) (s := s) (m := m) (args := args) (below := below) (meth := meth) (c := c) (Q := Q) (sr := sr) hF hCl hMi hCd IH (hg _ _ _ _ _ hfe) h
        exact fun q => k2 (ih cf2 cf1 k1 q)
    · cases h
/-- so many stretches, one behind the other -/
def xRch (f : xCf → Option xCf) : Nat → xCf → xCf → Prop
  | 0, x, y => x = y
  | n + 1, x, y => ∃ z, f x = some z ∧ xRch f n z y
theorem xRch_trans {f : xCf → Option xCf} : ∀ {n1 n2 : Nat} {x y z : xCf}, xRch f n1 x y → xRch f n2 y z → xRch f (n1 + n2) x z := by
  intro n1
  induction n1 with
  | zero => intro n2 x y z h1 h2; rw [Nat.zero_add]; cases h1; exact h2
  | succ n1 ih =>
    intro n2 x y z h1 h2
    obtain ⟨w, a1, a2⟩ := h1
    rw [show n1 + 1 + n2 = (n1 + n2) + 1 by omega]
    exact ⟨w, a1, ih a2 h2⟩
theorem xseg_ok {cd : zCode} {n B0 fuel : Nat} {xs : Nat → Int32} (hF : xFm P p R s m args meth c cc nL own nm b sz n K0 S0 xs D ca tt B0) {df : List (List (List zAV))} (hCl : zClsOK df) (hMi : zMiOK mi) (hCd : ∀ j as C, zget mi j = none → call j as C = none) (IH : xCallOk l sr tt mi P.2 call B0)
    (hg : ∀ (pc : Nat) (i : Instr) (a b0 w : Nat), zfetch cd pc = some (i, a, b0, w) → zgood mi own nm ret cc pc i a b0 w = true) {stop : Nat → Bool} {cf cf1 : xCf} (h : xseg P cd call stop fuel cf = some cf1) : xAt p l e R s m args below meth c Q b sz sr tt D ca nL K0 S0 cf1 → xAt p l e R s m args below meth c Q b sz sr tt D ca nL K0 S0 cf := by
  obtain ⟨pc, L, S, C⟩ := cf
  unfold xseg at h
  dsimp only at h
  split at h
  · rename_i i a b0 w hfe
    split at h
    · cases h
    · obtain ⟨cf2, k1, k2⟩ := xsel_ok (p := p) (l := l) (e := e) (R := R) (s := s) (m := m) (args := args) (below := below) (meth := meth) (c := c) (Q := Q) (sr := sr) hF hCl hMi hCd IH (hg _ _ _ _ _ hfe) h
      exact fun q => k2 (xto_ok hF hCl hMi hCd IH hg fuel cf2 cf1 k1 q)
  · cases h
theorem xRch_ok {cd : zCode} {n B0 fuel : Nat} {xs : Nat → Int32} (hF : xFm P p R s m args meth c cc nL own nm b sz n K0 S0 xs D ca tt B0) {df : List (List (List zAV))} (hCl : zClsOK df) (hMi : zMiOK mi) (hCd : ∀ j as C, zget mi j = none → call j as C = none) (IH : xCallOk l sr tt mi P.2 call B0)
    (hg : ∀ (pc : Nat) (i : Instr) (a b0 w : Nat), zfetch cd pc = some (i, a, b0, w) → zgood mi own nm ret cc pc i a b0 w = true) {stop : Nat → Bool} : ∀ {N : Nat} {cf cf1 : xCf}, xRch (xseg P cd call stop fuel) N cf cf1 → xAt p l e R s m args below meth c Q b sz sr tt D ca nL K0 S0 cf1 → xAt p l e R s m args below meth c Q b sz sr tt D ca nL K0 S0 cf := by
  intro N
  induction N with
  | zero => intro cf cf1 h; cases h; exact id
  | succ N ih =>
    intro cf cf1 h q
    obtain ⟨cf2, a1, a2⟩ := h
    exact xseg_ok hF hCl hMi hCd IH hg a1 (ih a2 q)
/-- what a return gives: of which sort, what -/
def xrt (i : Instr) (a : Nat) (S : List xV) : Option (Nat × Int) := match i with
  | .ireturn => match S with
    | [.inl z] => cond (Nat.beq a 0 || (decide (z = 0) || decide (z = 1))) (some (1, z)) none
    | _ => none
  | .lreturn => match S with
    | [.inr (.inl z)] => some (2, z)
    | _ => none
  | .return_ => match S with
    | [] => some (0, 0)
    | _ => none
  | _ => none
theorem xret_ok {i : Instr} {a b0 w rk : Nat} {z : Int} {Qc : Array Value → State → Outcome → State → Prop} (h : xrt i a S = some (rk, z)) (hg : zgood mi own nm ret cc pc i a b0 w = true)
    (hx : p.tables.exec = Jvm.exec) (hb : c.code = cc) (hr : meth.sig.returnType = ret) (hlocks : meth.locks = false)
    (post : ∀ (H : Heap) (locs : List Loc) (rv : Option Value), xRet rk z rv → xHp sz sr tt D ca s C H locs → ∀ t : State, t.heap = H → s.WarmedH t.vm → Qc args s (.returned rv) t) :
    xAt p l e R s m args below meth c (MQ below Qc args s K0 S0 (zA sz)) b sz sr tt D ca nL K0 S0 (pc, L, S, C) := by
  intro H ls stk locs hH hL hS
  have hloc : ∀ q ∈ locs, (zA sz) q.base := hH.choose_spec.2.2.2.1.2.2
  cases i
  case ireturn =>
    simp only [zgood, Bool.and_eq_true] at hg
    obtain ⟨hd, hret⟩ := hg
    unfold xrt at h
    dsimp only at h
    split at h
    · rename_i z0
      rcases xcond h with ⟨q1, h⟩ | ⟨-, h⟩
      · cases h
        obtain ⟨v1, st1, rfl, hv, hS1⟩ := xSR_cons hS
        have e1 := xSR_nil hS1
        subst e1
        obtain ⟨y, rfl, hy⟩ := hv
        cases a with
        | zero =>
          have hret := of_decide_eq_true hret
          exact W.iret hx hb (hr.trans hret) (post _ _ _ ⟨y, rfl, hy⟩ hH) hloc (zdec_ok hd) hlocks
        | succ a =>
          have hret := of_decide_eq_true hret
          rw [Bool.or_eq_true] at q1
          have q1 := q1.resolve_left (by simp)
          rw [Bool.or_eq_true, decide_eq_true_eq, decide_eq_true_eq] at q1
          have hx2 : y = 0 ∨ y = 1 := by
            rcases q1 with q1 | q1
            · left; exact Int32.toInt_inj.mp (by rw [hy, q1]; rfl)
            · right; exact Int32.toInt_inj.mp (by rw [hy, q1]; rfl)
          have hn : narrow .boolean (.int y) = .int y := by rcases hx2 with rfl | rfl <;> decide
          exact W.zret hx hb (hr.trans hret) hn (post _ _ _ ⟨y, rfl, hy⟩ hH) hloc (zdec_ok hd) hlocks
      · cases h
    · cases h
  case lreturn =>
    simp only [zgood, Bool.and_eq_true] at hg
    obtain ⟨hd, hret⟩ := hg
    unfold xrt at h
    dsimp only at h
    split at h
    · cases h
      obtain ⟨v1, st1, rfl, hv, hS1⟩ := xSR_cons hS
      have e1 := xSR_nil hS1
      subst e1
      obtain ⟨y, rfl, hy⟩ := hv
      have hret := of_decide_eq_true hret
      exact W.lret hx hb (hr.trans hret) (post _ _ _ ⟨y, rfl, hy⟩ hH) hloc (zdec_ok hd) hlocks
    · cases h
  case return_ =>
    simp only [zgood, Bool.and_eq_true] at hg
    obtain ⟨hd, hret⟩ := hg
    unfold xrt at h
    dsimp only at h
    split at h
    · cases h
      have e1 := xSR_nil hS
      have e1 : stk = [] := e1
      subst e1
      have hret := of_decide_eq_true hret
      exact W.vret hx hb (hr.trans hret) (post _ _ none rfl hH) hloc (zdec_ok hd) hlocks
    · cases h
  all_goals exact absurd (show (none : Option (Nat × Int)) = some (rk, z) from h) (by intro q; cases q)
def xentry : List xV → List (Option xV)
  | [] => []
  | v :: t => match xcat v with
    | 2 => some v :: none :: xentry t
    | _ => some v :: xentry t
theorem xentry_len {as : List xV} {vs : List Value} (h : xSR b sz sr as vs) : (xentry as).length = (lg_sl vs).length := by
  induction as generalizing vs with
  | nil => rw [xSR_nil h]; rfl
  | cons a as ih =>
    obtain ⟨w, t, rfl, h1, h2⟩ := xSR_cons h
    have hc := xRv_cat h1
    have e := ih h2
    have e2 : (lg_sl (w :: t)) = (if w.category = 2 then [Slot.val w, .second] else [.val w]) ++ lg_sl t := by simp [lg_sl]
    have e3 : xentry (a :: as) = (match xcat a with
      | 2 => some a :: none :: xentry as
      | _ => some a :: xentry as) := rfl
    rw [e2, List.length_append, ← e, hc, e3]
    split
    · rename_i q
      rw [if_pos q]
      simp only [List.length_cons, List.length_nil]
      omega
    · rename_i q
      rw [if_neg q]
      simp only [List.length_cons, List.length_nil]
      omega
theorem xentry_ok {as : List xV} {vs : List Value} (h : xSR b sz sr as vs) : ∀ (k i : Nat) (a : xV), zget (xentry as) i = some (some a) → ∃ w, xRv b sz sr a w ∧ (k + i, w) ∈ lv_args k vs := by
  induction as generalizing vs with
  | nil => intro k i a hi; simp [xentry, zget_eq] at hi
  | cons x as ih =>
    obtain ⟨w, t, rfl, h1, h2⟩ := xSR_cons h
    intro k i a hi
    have hc := xRv_cat h1
    have e3 : xentry (x :: as) = (match xcat x with
      | 2 => some x :: none :: xentry as
      | _ => some x :: xentry as) := rfl
    rw [e3] at hi
    simp only [lv_args, hc]
    split at hi
    · rename_i q
      rw [if_pos q]
      match i with
      | 0 =>
        rw [zget_eq] at hi
        cases hi
        exact ⟨w, h1, List.mem_cons_self⟩
      | 1 => simp [zget_eq] at hi
      | i + 2 =>
        obtain ⟨w1, w2, w3⟩ := ih h2 (k + 2) i a (by simpa [zget_eq] using hi)
        exact ⟨w1, w2, List.mem_cons_of_mem _ (by rw [show k + (i + 2) = k + 2 + i by omega]; exact w3)⟩
    · rename_i q
      rw [if_neg q]
      match i with
      | 0 =>
        rw [zget_eq] at hi
        cases hi
        exact ⟨w, h1, List.mem_cons_self⟩
      | i + 1 =>
        obtain ⟨w1, w2, w3⟩ := ih h2 (k + 1) i a (by simpa [zget_eq] using hi)
        exact ⟨w1, w2, List.mem_cons_of_mem _ (by rw [show k + (i + 1) = k + 1 + i by omega]; exact w3)⟩
theorem xLR_entry {as : List xV} {vs : List Value} (h : xSR b sz sr as vs) (hl : (xentry as).length ≤ nL) : xLR b sz sr ((lg_sl vs ++ List.replicate (nL - (lg_sl vs).length) Slot.unset).toArray) nL (xentry as ++ List.replicate (nL - (xentry as).length) none) := by
  refine ⟨by simp; omega, _, lv_entry vs (by rw [← xentry_len h]; exact hl), fun i a hi => ?_⟩
  rw [zget_eq] at hi
  rcases Nat.lt_or_ge i (xentry as).length with q | q
  · rw [List.getElem?_append_left q, ← zget_eq] at hi
    obtain ⟨w, h1, h2⟩ := xentry_ok h 0 i a hi
    exact ⟨w, h1, by rw [Nat.zero_add] at h2; exact h2⟩
  · rw [List.getElem?_append_right q, List.getElem?_replicate] at hi
    split at hi <;> cases hi
theorem xMet_of {y : MethodName} {f n : Nat} (hf4 : 4 ≤ f) {xs : Nat → Int32} {kind na : Nat} {as : List xV} {Qc : Array Value → State → Outcome → State → Prop} (hMi : zMiOK mi) {j : Nat} (hj : zget mi j = some (y, cc, nL, ret, kind, na)) (hPt : P.1 = tt) (hl31 : ∀ t q kd ln ar, zget tt t = some (q, .inr (kd, ln, ar)) → ln < 2147483648) (hbz : b < sz) (hlen : (xentry as).length ≤ nL)
    (body : ∀ (p : Program) (e : Env) (R : Room) (s : State) (m : MethodId) (args : Array Value) (below : List Frame) (meth : Method) (c : Code), xFm P p R s m args meth c cc nL y.cls y.name b sz n 0 0 xs D ca tt f → meth.sig.returnType = ret → meth.locks = false → xAt p l e R s m args below meth c (MQ below Qc args s 0 0 (zA sz)) b sz sr tt D ca nL 0 0 (0, xentry as ++ List.replicate (nL - (xentry as).length) none, [], C)) :
    Met l y (zws y cc nL ret) { frames := f, cells := 0, slots := 0, locals := 60 * f } (xPc b sz sr tt D ca n xs as C) Qc 0 0 (zA sz) := by
  obtain ⟨hMo, hpl, -⟩ := hMi j y cc nL ret kind na hj
  refine Met.ofW (cc := cc) (maxL := nL) (ret := ret) hpl rfl ?_
  intro p e s m args below meth c s₁ B hml hv
  obtain ⟨vs, rfl, hSR, ⟨ws, hW, hP, hD, hC⟩, hsz, hK, hX, hN⟩ := hv
  have hts0 := atoms_spec (ws := zws y cc nL ret) B.pre
  have hts : ∀ w ∈ zW, w.before vs.toArray s = true := fun w hw => hts0 w (List.mem_cons_of_mem _ hw)
  have hF : xFm P p (headSpec (zws y cc nL ret) { frames := f, cells := 0, slots := 0, locals := 60 * f }).room s m vs.toArray meth c cc nL y.cls y.name b sz n 0 0 xs D ca tt f :=
    ⟨B.exec, B.bytes, hml, findClass_of_methodNamed B.named, hts, hK, hX, hN, hbz, hsz, fun _ => (name_of_methodNamed B.named B.method).1, hPt, hl31, Nat.le_refl _, Nat.le_refl _, Nat.zero_le _, Nat.zero_le _, hf4⟩
  have hJ := body p e _ s m vs.toArray below meth c hF B.returns B.notSynchronized
  have hV : va_S (zA sz) s.heap s.heap [] := va_S.rf
  have fin := hJ s.heap _ [] [] ⟨ws, hW, hP, hD, hV, hC⟩ (xLR_entry hSR hlen) trivial
  rw [lg_entry_eq]
  exact fin
/-- a method of which the whole run is known has the contract that says so -/
theorem xmeth {mt : List (Nat × zCode)} {df : List (List (List zAV))} {cd : zCode} {y : MethodName} {f n j kind na rk fuel : Nat} {xs : Nat → Int32} {as : List xV} {z : Int} {stop : Nat → Bool} (hCl : zClsOK df) (hMi : zMiOK mi) (hCd : zCdOK mt mi) (hcn : ∀ j as C, zget mi j = none → call j as C = none) (hPt : P.1 = tt) (hl31 : ∀ t q kd ln ar, zget tt t = some (q, .inr (kd, ln, ar)) → ln < 2147483648) (hf4 : 4 ≤ f) (IH : xCallOk l sr tt mi P.2 call f) (hj : zget mi j = some (y, cc, nL, ret, kind, na)) (hmt : zget mt j = some (nL, cd)) (hbz : b < sz) (hlen : (xentry as).length ≤ nL)
    (run : ∃ (N : Nat) (cf : xCf) (i : Instr) (a b0 w : Nat), xRch (xseg P cd call stop fuel) N (0, xentry as ++ List.replicate (nL - (xentry as).length) none, [], C) cf ∧ zfetch cd cf.1 = some (i, a, b0, w) ∧ xrt i a cf.2.2.1 = some (rk, z) ∧ cf.2.2.2 = C1) :
    Met l y (zws y cc nL ret) { frames := f, cells := 0, slots := 0, locals := 60 * f } (xPc b sz sr tt D ca n xs as C) (xQc sz sr tt D ca rk z C1) 0 0 (zA sz) := by
  obtain ⟨N, ⟨pc1, L1, S1, C2⟩, i, a, b0, w, r1, r2, r3, r4⟩ := run
  have r4 : C2 = C1 := r4
  subst r4
  refine xMet_of (P := P) hf4 hMi hj hPt hl31 hbz hlen fun p e R s m args below meth c hF hret hlk => ?_
  have hcode := (hCd.2 j y cc nL ret kind na hj nL cd hmt).2
  refine xRch_ok hF hCl hMi hcn IH hcode r1 ?_
  obtain ⟨hx, hbb, -, -, -, -, -, -, -, hsz, -⟩ := id hF
  refine xret_ok r3 (hcode _ _ _ _ _ r2) hx hbb hret hlk fun H locs rv k1 k2 t ht _ => ?_
  obtain ⟨ws1, g1, g2, g3, g4, g5⟩ := k2
  exact ⟨⟨rv, rfl, k1⟩, ⟨ws1, g1, by rw [ht]; exact g2, g3, g5⟩, by rw [ht]; exact g4.1, fun j hj => by rw [ht]; exact g4.2.1 j (by omega) (Nat.not_le.mpr hj)⟩
end xExec
