/-! A stretch of an array copied. -/
section yStep4
variable {p : Program} {l : Launch} {e : Env} {R : Room} {s : State} {m : MethodId} {args : Array Value} {below : List Frame} {meth : Method} {c : Code} {Q : State → Prop}
variable {b sz nL K0 S0 : Nat} {sr : List Nat} {tt : List yKd} {D : va_G} {ca : Nat → ClassId} {ms : Option (List (Nat × Nat))} {ws0 ws : va_W} {cc : ByteArray}
variable {v u : List Int} {pc : Nat} {L : List (Option yA)} {S : List yA} {st : yS} {k : yCfg → Bool} {MP : yM × yP} {H : Heap} {locs : List Loc} {ls : Array Slot} {stk : List Value}
theorem ycp1_ok {td ts mm r a d c1 j : Nat} {sp dp n : yE} (h : ycp1 st td ts sp dp n mm r = true) (hR : yRS v st) (hsp : yev v sp = some (a : Int)) (hdp : yev v dp = some (d : Int)) (hn : yev v n = some (c1 : Int)) (hj1 : d ≤ j) (hj2 : j < d + c1) (hr : j % mm = r) : td = ts ∧ (a + (j - d)) % mm = r := by
  unfold ycp1 at h
  split at h
  · cases h
  · rename_i mm
    rw [Bool.or_eq_true] at h
    rcases h with h | h
    · rw [Bool.and_eq_true] at h
      obtain ⟨h1, h2⟩ := h
      refine ⟨Nat.eq_of_beq_eq_true h1, ?_⟩
      split at h2
      · rename_i he
        have h2 := (yz_iff _).mp h2
        have e1 := y_const he (ysu_ok hsp hdp)
        rw [← e1] at h2
        have h2 : ((a : Int) - d) % ((mm + 1 : Nat) : Int) = 0 := h2
        have h3 : ((a + (j - d) : Nat) : Int) = (j : Int) + ((a : Int) - d) := by omega
        obtain ⟨q, hq⟩ := Int.dvd_of_emod_eq_zero h2
        have h4 : (((a + (j - d)) % (mm + 1) : Nat) : Int) = ((j % (mm + 1) : Nat) : Int) := by
          rw [Int.natCast_emod, Int.natCast_emod, h3, hq, Int.add_mul_emod_self_left]
        rw [← hr]
        exact Int.ofNat.inj h4
      · cases h2
    · exfalso
      split at h
      · rename_i q hq
        split at h
        · rename_i w hw
          simp only [Bool.and_eq_true, Bool.or_eq_true, ile_iff] at h
          have hq2 := yrs_ok hR.2.1 hq hdp
          have hw2 := yrg_ok hR.2.1 hw hn
          obtain ⟨h1, h2⟩ := h
          have er : Int.ofNat r = (r : Int) := rfl
          have em : Int.ofNat mm = (mm : Int) := rfl
          rw [er] at h1
          rw [em] at h2
          have hr2 : ((j % (mm + 1) : Nat) : Int) = (r : Int) := by rw [hr]
          have e1 := Nat.div_add_mod d (mm + 1)
          have e2 : j = (mm + 1) * (d / (mm + 1)) + (d % (mm + 1) + (j - d)) := by omega
          have e3 : j % (mm + 1) = d % (mm + 1) + (j - d) := by
            conv => lhs; rw [e2]
            rw [Nat.mul_add_mod]
            refine Nat.mod_eq_of_lt ?_
            generalize d % (mm + 1) = dm at hq2 e1
            clear e2
            omega
          rw [e3] at hr2
          generalize d % (mm + 1) = dm at hq2 e1 hr2
          omega
        · cases h
      · cases h
theorem ycpS_ok {td ts a d c1 j : Nat} {sp dp n : yE} (hR : yRS v st) (hsp : yev v sp = some (a : Int)) (hdp : yev v dp = some (d : Int)) (hn : yev v n = some (c1 : Int)) (hj1 : d ≤ j) (hj2 : j < d + c1) {z : Int} : ∀ {l : List (Nat × Nat × Int × Int)}, ycpS st td ts sp dp n l = true → (td = ts → ∀ q ∈ l, (a + (j - d)) % q.1 = q.2.1 → q.2.2.1 ≤ z ∧ z ≤ q.2.2.2) → ∀ q ∈ l, j % q.1 = q.2.1 → q.2.2.1 ≤ z ∧ z ≤ q.2.2.2 := by
  intro l
  induction l with
  | nil => intro _ _ q hq; cases hq
  | cons q0 t ih =>
    intro h hs q hq hr
    have h : (ycp1 st td ts sp dp n q0.1 q0.2.1 && ycpS st td ts sp dp n t) = true := h
    rw [Bool.and_eq_true] at h
    rcases List.mem_cons.mp hq with rfl | hq
    · obtain ⟨g1, g2⟩ := ycp1_ok h.1 hR hsp hdp hn hj1 hj2 hr
      exact hs g1 q List.mem_cons_self g2
    · exact ih h.2 (fun w q hq => hs w q (List.mem_cons_of_mem _ hq)) q hq hr
theorem yfst_ok {x n : yE} {t i : Nat} {cl : Nat × va_E} {c1 : Int} {lo hi : Int} (hR : yRS v st) (hsr : sr[i]? = some t) (hx : yev v x = some (i : Int)) (hcl : ws[i]? = some cl) (hn : yev v n = some c1) (hall : ∀ (j : Nat) (z : Int32), (j : Int) < c1 → yct cl.2 j = some (.int z) → lo ≤ z.toInt ∧ z.toInt ≤ hi) (hQ : ∀ q ∈ st.2.2.2.2.2, yPk sr v ws q) :
    ∃ lo2 hi2, yev v (yfst st x t n (([], lo), ([], hi))).1 = some lo2 ∧ yev v (yfst st x t n (([], lo), ([], hi))).2 = some hi2 ∧ ∀ (j : Nat) (z : Int32), (j : Int) < c1 → yct cl.2 j = some (.int z) → lo2 ≤ z.toInt ∧ z.toInt ≤ hi2 := by
  unfold yfst
  generalize st.2.2.2.2.2 = l at hQ
  induction l with
  | nil => exact ⟨lo, hi, yev_cn v _, yev_cn v _, hall⟩
  | cons q t2 ih =>
    dsimp only
    split
    · rename_i hc
      simp only [Bool.and_eq_true] at hc
      obtain ⟨k1, k2, k3⟩ := hc
      obtain ⟨i', n', lo', hi', g1, g4, g5, g6, g7, -⟩ := hQ q List.mem_cons_self
      rw [yeq_ok k2, hx] at g1
      have g1 := Option.some.inj g1
      have := ylS_ok k3 hR (ysu_ok hn g4)
      exact ⟨lo', hi', g5, g6, fun j z hj hz => g7 i cl g1.symm (by rw [Nat.eq_of_beq_eq_true k1]; exact hsr) hcl j z (by omega) hz⟩
    · exact ih fun q hq => hQ q (List.mem_cons_of_mem _ hq)
theorem ys_copy (h9 : yT9 sr) {P : yPar} {index : Nat} {own : String} (h : yx_copy P pc L S st k = true) (hk : ∀ cf, k cf = true → yJ p l e R s m args below meth c Q b sz sr tt D ca ms ws0 nL K0 S0 v cf) (hPt : P.1 = tt) (hPm : P.2.1 = ms)
    (hx : p.tables.exec = Jvm.exec) (hb : c.code = cc) (hml : c.maxLocals = nL) (hts : ∀ w ∈ zW, w.before args s = true) (hown : s.vm.findClass own = some m.cls) (hK : va_K D vwCl (zTys ca) s)
    (hlink : Cond.methodLink own index arraycopyName ∈ zW) (hnat : Cond.native arraycopyName ∈ zW) (hstat : Cond.static arraycopyName ∈ zW) (hini : Cond.initialized "java/lang/System" ∈ zW)
    (hfr : 1 ≤ R.frames) (hlo : 60 ≤ R.locals) (hdg : decode cc pc = .ok (.invokestatic index, 3)) : yJat p l e R s m args below meth c Q b sz sr tt D ca ms ws0 nL K0 S0 v (pc, L, S, st) := by
  subst hPt; subst hPm
  unfold yx_copy at h
  split at h
  · rename_i n dp xd td sp xs ts r
    split at h
    · rename_i q0 ld dlo dhi dsp htd
      split at h
      · rename_i q1 lsr slo shi sx1 sx2 hts2
        simp only [Bool.and_eq_true] at h
        obtain ⟨h899, c0, c1, c2, c3, c4, c5, c6, c7, c8, c9, h10⟩ := h
        intro H ls stk locs hR hH hL hS
        obtain ⟨w1, st1, rfl, hw1, hS1⟩ := ySR_cons hS
        obtain ⟨w2, st2, rfl, hw2, hS2⟩ := ySR_cons hS1
        obtain ⟨w3, st3, rfl, hw3, hS3⟩ := ySR_cons hS2
        obtain ⟨w4, st4, rfl, hw4, hS4⟩ := ySR_cons hS3
        obtain ⟨w5, st5, rfl, hw5, hS5⟩ := ySR_cons hS4
        obtain ⟨n1, rfl, hn⟩ := hw1
        obtain ⟨d1, rfl, hd⟩ := hw2
        obtain ⟨id, rfl, hid, hsd⟩ := hw3
        obtain ⟨s1, rfl, hs1⟩ := hw4
        obtain ⟨is, rfl, his, hss⟩ := hw5
        have b1 := ylS_ok c1 hR (y_neg hn)
        have b2 := ylS_ok c2 hR (y_neg hd)
        have b3 := ylS_ok c3 hR (y_neg hs1)
        have b4 := ylS_ok c4 hR (yoff_ok (yad_ok hs1 hn))
        have b5 := ylS_ok c5 hR (yoff_ok (yad_ok hd hn))
        have e1 : Int.ofNat lsr = (lsr : Int) := rfl
        have e2 : Int.ofNat ld = (ld : Int) := rfl
        obtain ⟨ws, hW, hP, hD, hV, hM, hQ, hF⟩ := hH
        obtain ⟨e0, hwd, htyd⟩ := y_cell hW hsd htd
        obtain ⟨g, rfl, hgg⟩ : ∃ f : Nat → Int32, e0 = .inl (ca 2, ld, .inl f) ∧ ∀ j, j < ld → yArOk (dlo, dhi, dsp, 0) j (f j).toInt := by
          rcases htyd with ⟨-, f, h1, h2⟩ | ⟨h3, -⟩
          · exact ⟨f, h1, h2⟩
          · omega
        obtain ⟨e0, hws, htys⟩ := y_cell hW hss hts2
        obtain ⟨f, rfl, hff⟩ : ∃ f : Nat → Int32, e0 = .inl (ca 2, lsr, .inl f) ∧ ∀ j, j < lsr → yArOk (slo, shi, sx1, sx2) j (f j).toInt := by
          rcases htys with ⟨-, f, h1, h2⟩ | ⟨h3, -⟩
          · exact ⟨f, h1, h2⟩
          · omega
        have en : n1.toNatClampNeg = n1.toInt.toNat := rfl
        have ed : d1.toNatClampNeg = d1.toInt.toNat := rfl
        have es : s1.toNatClampNeg = s1.toInt.toNat := rfl
        have hneg : ∀ x : Int32, 0 ≤ x.toInt → ¬ x < 0 := fun x hx q => by
          have := Int32.lt_iff_toInt_lt.mp q
          have a0 : (0 : Int32).toInt = 0 := by decide
          omega
        have hn' : yev v n = some ((n1.toNatClampNeg : Nat) : Int) := by rw [hn, en]; congr 1; omega
        have hd' : yev v dp = some ((d1.toNatClampNeg : Nat) : Int) := by rw [hd, ed]; congr 1; omega
        have hs' : yev v sp = some ((s1.toNatClampNeg : Nat) : Int) := by rw [hs1, es]; congr 1; omega
        obtain ⟨lo0, hi0, u1, u2, u3⟩ : ∃ lo0 hi0, yev v (ycpu st xs ts sp dp n slo shi).1 = some lo0 ∧ yev v (ycpu st xs ts sp dp n slo shi).2 = some hi0 ∧ ∀ j, d1.toNatClampNeg ≤ j → j < d1.toNatClampNeg + n1.toNatClampNeg → lo0 ≤ (f (s1.toNatClampNeg + (j - d1.toNatClampNeg))).toInt ∧ (f (s1.toNatClampNeg + (j - d1.toNatClampNeg))).toInt ≤ hi0 := by
          unfold ycpu
          split
          · rename_i hz
            rw [Bool.and_eq_true] at hz
            obtain ⟨z1, z2⟩ := hz
            have e0 : yev v ([], 0) = some 0 := yev_cn v 0
            have hd2 := hd'
            have hs2 := hs'
            rw [yeq_ok z1, e0] at hd2
            rw [yeq_ok z2, e0] at hs2
            have zd : d1.toNatClampNeg = 0 := by have := Option.some.inj hd2; omega
            have zs : s1.toNatClampNeg = 0 := by have := Option.some.inj hs2; omega
            obtain ⟨lo2, hi2, y1, y2, y3⟩ := yfst_ok (t := ts) (lo := slo) (hi := shi) hR hss his hws hn' (fun j z hj hz => by
              have hz : (if j < lsr then some (Value.int (f j)) else none) = some (.int z) := hz
              rw [if_pos (by omega)] at hz
              cases hz
              obtain ⟨a1, -⟩ := hff j (by omega)
              exact a1) hQ
            refine ⟨lo2, hi2, y1, y2, fun j g1 g2 => y3 (s1.toNatClampNeg + (j - d1.toNatClampNeg)) _ (by omega) ?_⟩
            show (if s1.toNatClampNeg + (j - d1.toNatClampNeg) < lsr then some (Value.int (f (s1.toNatClampNeg + (j - d1.toNatClampNeg)))) else none) = _
            rw [if_pos (by omega)]
          · refine ⟨slo, shi, yev_cn v _, yev_cn v _, fun j g1 g2 => ?_⟩
            obtain ⟨a1, -⟩ := hff (s1.toNatClampNeg + (j - d1.toNatClampNeg)) (by omega)
            exact a1
        have u4 := ylS_ok c6 hR (ysu_ok (yev_cn v dlo) u1)
        have u5 := ylS_ok c7 hR (ysu_ok u2 (yev_cn v dhi))
        have hlsz : ls.size = nL := hL.2.choose_spec.1.1
        have hil : id < ws.length := (List.getElem?_eq_some_iff.mp hwd).1
        have hset : ∀ x, (ws.set id (sz + id, x))[id]? = some (sz + id, x) := fun x => List.getElem?_set_self hil
        have hW1 : yWd sz sr P.1 ca (ws.set id (sz + id, .inl (ca 2, ld, .inl (va_cpy f g s1.toNatClampNeg d1.toNatClampNeg n1.toNatClampNeg)))) := yWd_set hW hsd htd (Or.inl ⟨by omega, _, rfl, fun j hj => by
          unfold va_cpy
          by_cases hqq : d1.toNatClampNeg ≤ j ∧ j < d1.toNatClampNeg + n1.toNatClampNeg
          · rw [if_pos hqq]
            have hfj := hff (s1.toNatClampNeg + (j - d1.toNatClampNeg)) (by omega)
            obtain ⟨a1, a2, -, -⟩ := hfj
            obtain ⟨v1, v2⟩ := u3 j hqq.1 hqq.2
            refine ⟨⟨by show dlo ≤ _; omega, by show _ ≤ dhi; omega⟩, ?_, (by intro w; have w : (0 : Nat) = 1 := w; omega), (by intro w; have w : (0 : Nat) = 2 := w; omega)⟩
            refine ycpS_ok hR hs' hd' hn' hqq.1 hqq.2 c8 fun w => ?_
            subst w
            rw [htd] at hts2
            cases hts2
            exact a2
          · rw [if_neg hqq]
            exact hgg j hj⟩)
        have hF1 : yFr sr P.2.1 ws0 (ws.set id (sz + id, .inl (ca 2, ld, .inl (va_cpy f g s1.toNatClampNeg d1.toNatClampNeg n1.toNatClampNeg)))) := yFr_set hF hsd hwd fun j hj => by
          have hj : ymo P.2.1 td 0 = false := hj
          rw [c9] at hj
          cases hj
        obtain ⟨nx, B, F, Z, M, P0⟩ := st
        simp only [ycpk] at h10
        have h10 := yfil_ok (yfil_ok h10)
        have hB : yRB v B := hR.2.1
        have kM : ∀ q ∈ M.filter (ycpM B xd td), yMk b sz sr v (ws.set id (sz + id, .inl (ca 2, ld, .inl (va_cpy f g s1.toNatClampNeg d1.toNatClampNeg n1.toNatClampNeg)))) q := fun q hq => by
          obtain ⟨q1, q2⟩ := List.mem_filter.mp hq
          obtain ⟨i', j', cl, w', g1, g2, g3, g4, g5, g6⟩ := hM q q1
          have hne : i' ≠ id := fun w => by
            subst w
            rw [hsd] at g2
            have g2 := Option.some.inj g2
            unfold ycpM at q2
            simp only [Bool.or_eq_true, Bool.not_eq_true'] at q2
            rcases q2 with q2 | q2
            · rw [← g2, show Nat.beq td td = true from Nat.beq_refl td] at q2; cases q2
            · exact ydf_ok hB q2 g1 hid rfl
          exact ⟨i', j', cl, w', g1, g2, g3, by rw [List.getElem?_set_ne (Ne.symm hne)]; exact g4, g5, g6⟩
        have kP : ∀ q ∈ P0.filter (ycpP B xd td), yPk sr v (ws.set id (sz + id, .inl (ca 2, ld, .inl (va_cpy f g s1.toNatClampNeg d1.toNatClampNeg n1.toNatClampNeg)))) q := fun q hq => by
          obtain ⟨q1, q2⟩ := List.mem_filter.mp hq
          obtain ⟨i', n', lo, hi, g1, g4, g5, g6, g7, g8⟩ := hQ q q1
          unfold ycpP at q2
          rw [Bool.and_eq_true] at q2
          obtain ⟨q3, q2⟩ := q2
          refine ⟨i', n', lo, hi, g1, g4, g5, g6, fun i2 c2 e2 g2 g3 => ?_, yGh_keep g8 fun r hr j' _ _ => yKo_setA h9 hsd r.1 j' (ygno_ok q3 r hr)⟩
          have hne : i2 ≠ id := fun w => by
            subst w
            rw [hsd] at g2
            have g2 := Option.some.inj g2
            simp only [Bool.or_eq_true, Bool.not_eq_true'] at q2
            rcases q2 with q2 | q2
            · rw [← g2, show Nat.beq td td = true from Nat.beq_refl td] at q2; cases q2
            · exact ydf_ok hB q2 g1 hid e2
          rw [List.getElem?_set_ne (Ne.symm hne)] at g3
          exact g7 i2 c2 e2 g2 g3
        have hnf : nativeFrameWords "java/lang/System" "arraycopy" 5 + 11 ≤ 50 := by decide +kernel
        refine va_copyi hx hb (hml.trans hlsz.symm) hown (hts _ hlink) (hts _ hnat) (hts _ hstat) (hts _ hini) hK hP hD hV is id 2 2 hws hwd (z_ty 2 (by omega)) (z_ty 2 (by omega)) (by rfl) (hneg _ (by omega)) (hneg _ (by omega)) (hneg _ (by omega)) (by omega) (by omega) (fun i hi => rfl) hfr ?_ hdg fun H1 locs1 hP1 hD1 hV1 => ?_
        · have := Nat.le_of_ble_eq_true c0
          rw [ySR_sum hS5]; omega
        split at h10
        · rename_i hz
          rw [Bool.and_eq_true] at hz
          obtain ⟨z1, z2⟩ := hz
          have e0 : yev v ([], 0) = some 0 := yev_cn v 0
          rw [yeq_ok z1, e0] at hd'
          rw [yeq_ok z2, e0] at hs'
          have zd : d1.toNatClampNeg = 0 := by have := Option.some.inj hd'; omega
          have zs : s1.toNatClampNeg = 0 := by have := Option.some.inj hs'; omega
          refine yon0 hk h10 hR ⟨_, hW1, hP1, hD1, hV1, kM, fun q hq => ?_, hF1⟩ hL hS5
          rcases List.mem_cons.mp hq with rfl | hq
          · obtain ⟨lo2, hi2, y1, y2, y3⟩ := yfst_ok (st := (nx, B, F, Z, M, P0)) (t := ts) (lo := slo) (hi := shi) hR hss his hws hn' (fun j z hj hz => by
              have hz : (if j < lsr then some (Value.int (f j)) else none) = some (.int z) := hz
              rw [if_pos (by omega)] at hz
              cases hz
              obtain ⟨a1, -⟩ := hff j (by omega)
              exact a1) hQ
            refine ⟨(id : Int), _, lo2, hi2, hid, hn', y1, y2, fun i2 c2 e2 _ g3 j z hj hz => ?_, yGh_low (Nat.le_of_ble_eq_true h899)⟩
            have e2 : i2 = id := by omega
            subst e2
            rw [hset] at g3
            cases g3
            have hz : (if j < ld then some (Value.int (va_cpy f g s1.toNatClampNeg d1.toNatClampNeg n1.toNatClampNeg j)) else none) = some (.int z) := hz
            rw [if_pos (by omega)] at hz
            cases hz
            unfold va_cpy
            rw [if_pos (by omega)]
            exact y3 j _ hj (by
              show (if j < lsr then some (Value.int (f j)) else none) = _
              rw [if_pos (by omega), zs, zd]
              simp)
          · exact kP q hq
        · exact yon0 hk h10 hR ⟨_, hW1, hP1, hD1, hV1, kM, kP, hF1⟩ hL hS5
      · cases h
    · cases h
  · cases h
end yStep4
