/-! THE CLAIM OUT OF ONE WALK OF THE LAW'S BODY. Your part is whole_start (and what it stands on); all else here is the same for every law, but numbers. -/
def R_law : String := "RestDaysLaw"
def lw_P (b : Addr) (xs : List Int32) (args : Array Value) (s : State) : Prop := args = #[.ref b] ∧ s.IntsAt b xs ∧ xs.length ≤ 6 ∧ (Jvm.Cond.and given_1 narrow_1).before args s = true
def lw_Q (_ : Array Value) (s : State) (o : Outcome) (t : State) : Prop := o = .returned (some (.int 1)) ∧ Framed s o t [] 600000 7302250
def lw_Z (below : List Frame) (a : Array Value) (s : State) : State → Prop := fun t => ∃ o, t.status = .running ∧ Ended t below o ∧ lw_Q a s o t
/-- the law's own end, with 1 on the stack, nothing written that was there before, its room as the claim has it -/
theorem lw_ret {p : Program} {l : Launch} {e : Env} {s : State} {m : MethodId} {below : List Frame} {meth : Method} {c : Code} {b : Nat} (hx : p.tables.exec = Jvm.exec) (hb : c.code = code) (hr : meth.sig.returnType = ret) (hlocks : meth.locks = false) {pc : Nat} {H : Heap} {ls : Array Slot} (hdg : decode code pc = .ok (.ireturn, 1)) : W p l e room_1 s m #[Value.ref b] below meth c H [] 600000 7302250 (lw_Z below #[Value.ref b] s) (F0 m pc ls [.int 1]) := by
  intro T hT X
  obtain ⟨fs, hret, hrun, hended, hW, hframe⟩ := X.leave (v := some (.int 1)) (hlocks := hlocks) (fun h => by rw [hr] at h; cases h)
  have hmeth' : T.vm.method? m = some meth := X.method'
  refine ⟨T.setFrames fs, ?_, .returned (some (.int 1)), hrun, hended, rfl, ⟨_, rfl⟩, hW, hframe⟩
  jvm_step X.here [X.here.top, hx, hb, hdg, hmeth', hr, ret, narrow_b1]
  (try refine ⟨rfl, ?_⟩); (try refine ⟨rfl, ?_⟩)
  first | (intro acts; rw [hret _ acts rfl rfl rfl]) | rw [hret _ _ rfl rfl rfl]
  exact Steps.refl _
/-- what holds at the law's entry: the machine, the code, the tables' words (any of lw_tbl by 'hts w (by decide +kernel)'), the script of L ints xs at the cell b, what the Statement gives of the start (any of its parts by flat_of_before) -/
def lw_At (p : Program) (s : State) (m : MethodId) (meth : Method) (c : Code) (b L : Nat) (xs : Nat → Int32) : Prop :=
  p.tables.exec = Jvm.exec ∧ c.code = code ∧ meth.sig.returnType = ret ∧ c.maxLocals = 4 ∧ s.vm.findClass R_law = some m.cls ∧ (∀ w ∈ lw_tbl, w.before #[Value.ref b] s = true) ∧ va_X b L xs s s.heap ∧ b < s.heap.size ∧ meth.locks = false ∧ (Jvm.Cond.and given_1 narrow_1).before #[Value.ref b] s = true
theorem zcov_ok {A : List (Int × Int)} {lo : Int} (h : zcov lo A = true) {x : Int} (h1 : lo ≤ x) (h2 : x ≤ 2147483647) : ∃ q ∈ A, q.1 ≤ x ∧ x ≤ q.2 := by
  induction A generalizing lo with
  | nil => cases h
  | cons p t ih =>
    obtain ⟨a, b⟩ := p
    simp only [zcov, Bool.and_eq_true, Bool.or_eq_true, decide_eq_true_eq] at h
    obtain ⟨rfl, h⟩ := h
    by_cases hb : x ≤ b
    · exact ⟨(a, b), List.mem_cons_self, h1, hb⟩
    · rcases h with h | h
      · omega
      · obtain ⟨q, hq, hq2⟩ := ih h (by omega)
        exact ⟨q, List.mem_cons_of_mem _ hq, hq2⟩
theorem zrunAll_pick {k : Nat} {A B C D E : List (Int × Int)} {a b c d e : Int × Int} (h : zrunAll k A B C D E = true) (ha : a ∈ A) (hb : b ∈ B) (hc : c ∈ C) (hd : d ∈ D) (he : e ∈ E) : zfinal (some 6, [zfull, a, b, c, d, e], some k) = true := by
  have q1 := List.all_eq_true.mp h a ha
  have q2 := List.all_eq_true.mp q1 b hb
  have q3 := List.all_eq_true.mp q2 c hc
  have q4 := List.all_eq_true.mp q3 d hd
  exact List.all_eq_true.mp q4 e he
def zFive (k : Nat) (x1 x2 x3 x4 x5 : Int32) : Prop := ∃ a b c d e : Int × Int, (a.1 ≤ x1.toInt ∧ x1.toInt ≤ a.2) ∧ (b.1 ≤ x2.toInt ∧ x2.toInt ≤ b.2) ∧ (c.1 ≤ x3.toInt ∧ x3.toInt ≤ c.2) ∧ (d.1 ≤ x4.toInt ∧ x4.toInt ≤ d.2) ∧ (e.1 ≤ x5.toInt ∧ x5.toInt ≤ e.2) ∧ zfinal (some 6, [zfull, a, b, c, d, e], some k) = true
theorem z_lo (x : Int32) : (-2147483648 : Int) ≤ x.toInt := by have := x.le_toInt; simpa using this
theorem z_hi (x : Int32) : x.toInt ≤ (2147483647 : Int) := by have := x.toInt_lt; omega
theorem zchk_pick {k : Nat} {ps : List (List (Int × Int))} (hcov : zcovers ps = true) (h : zchk k ps = true) (x1 x2 x3 x4 x5 : Int32) : zFive k x1 x2 x3 x4 x5 := by
  unfold zchk at h
  split at h
  · rename_i A B C D E
    simp only [zcovers, Bool.and_eq_true] at hcov
    obtain ⟨⟨⟨⟨hA, hB⟩, hC⟩, hD⟩, hE⟩ := hcov
    obtain ⟨a, ha, a1⟩ := zcov_ok hA (z_lo x1) (z_hi x1)
    obtain ⟨b, hb, b1⟩ := zcov_ok hB (z_lo x2) (z_hi x2)
    obtain ⟨c, hc, c1⟩ := zcov_ok hC (z_lo x3) (z_hi x3)
    obtain ⟨d, hd, d1⟩ := zcov_ok hD (z_lo x4) (z_hi x4)
    obtain ⟨e, he, e1⟩ := zcov_ok hE (z_lo x5) (z_hi x5)
    exact ⟨a, b, c, d, e, a1, b1, c1, d1, e1, zrunAll_pick h ha hb hc hd he⟩
  · cases h
/-- where the first place's stretches lie in parts -/
theorem zpart_pick {k : Nat} {Z : List (Int × Int)} (hcov : zcov (-2147483648) Z = true) (h : ∀ a ∈ Z, ∃ A : List (Int × Int), a ∈ A ∧ zrunAll k A [zfull] [zfull] [zfull] [zfull] = true) (x1 x2 x3 x4 x5 : Int32) : zFive k x1 x2 x3 x4 x5 := by
  obtain ⟨a, ha, a1⟩ := zcov_ok hcov (z_lo x1) (z_hi x1)
  obtain ⟨A, hA, hr⟩ := h a ha
  exact ⟨a, zfull, zfull, zfull, zfull, a1, ⟨z_lo x2, z_hi x2⟩, ⟨z_lo x3, z_hi x3⟩, ⟨z_lo x4, z_hi x4⟩, ⟨z_lo x5, z_hi x5⟩, zrunAll_pick hr hA (by simp) (by simp) (by simp) (by simp)⟩
theorem zh_parts : zh = zh_0 ++ zh_1 ++ zh_2 ++ zh_3 ++ zh_4 ++ zh_5 ++ zh_6 ++ zh_7 := by decide +kernel
theorem zq_10 (x1 x2 x3 x4 x5 : Int32) : zFive 10 x1 x2 x3 x4 x5 := by
  refine zpart_pick (Z := zh) (by decide +kernel) (fun a ha => ?_) x1 x2 x3 x4 x5
  rw [zh_parts] at ha
  simp only [List.mem_append] at ha
  rcases ha with (((((((ha | ha) | ha) | ha) | ha) | ha) | ha) | ha)
  · exact ⟨_, ha, zhq_0⟩
  · exact ⟨_, ha, zhq_1⟩
  · exact ⟨_, ha, zhq_2⟩
  · exact ⟨_, ha, zhq_3⟩
  · exact ⟨_, ha, zhq_4⟩
  · exact ⟨_, ha, zhq_5⟩
  · exact ⟨_, ha, zhq_6⟩
  · exact ⟨_, ha, zhq_7⟩
theorem zq_18 (x1 x2 x3 x4 x5 : Int32) : zFive 18 x1 x2 x3 x4 x5 := by
  refine zpart_pick (Z := zr) (by decide +kernel) (fun a ha => ?_) x1 x2 x3 x4 x5
  simp only [zr, List.mem_cons, List.not_mem_nil, or_false] at ha
  rcases ha with rfl | rfl | rfl | rfl
  · exact ⟨_, by simp, zrq_0⟩
  · exact ⟨_, by simp, zrq_1⟩
  · exact ⟨_, by simp, zrq_2⟩
  · exact ⟨_, by simp, zrq_0⟩
theorem zcovers_all : [zp_0, zp_1, zp_2, zp_3, zp_4, zp_5, zp_6, zp_7, zp_8, zp_9, zp_11, zp_12, zp_13, zp_14, zp_15, zp_16, zp_17, zp_19, zp_20, zp_21, zp_22, zp_23, zp_24, zp_25, zp_26, zp_27, zp_28, zp_29, zp_30, zp_31, zp_32, zp_33, zp_34, zp_35, zp_36, zp_d].all zcovers = true := by decide +kernel
theorem zq_all (z : Nat) (h : z < 64) (x1 x2 x3 x4 x5 : Int32) : zFive z x1 x2 x3 x4 x5 := by
  have hc : ∀ ps ∈ [zp_0, zp_1, zp_2, zp_3, zp_4, zp_5, zp_6, zp_7, zp_8, zp_9, zp_11, zp_12, zp_13, zp_14, zp_15, zp_16, zp_17, zp_19, zp_20, zp_21, zp_22, zp_23, zp_24, zp_25, zp_26, zp_27, zp_28, zp_29, zp_30, zp_31, zp_32, zp_33, zp_34, zp_35, zp_36, zp_d], zcovers ps = true := fun ps hp => List.all_eq_true.mp zcovers_all ps hp
  by_cases hz : z < 37
  · match z, hz with
    | 0, _ => exact zchk_pick (hc _ (by simp)) zq_0 x1 x2 x3 x4 x5
    | 1, _ => exact zchk_pick (hc _ (by simp)) zq_1 x1 x2 x3 x4 x5
    | 2, _ => exact zchk_pick (hc _ (by simp)) zq_2 x1 x2 x3 x4 x5
    | 3, _ => exact zchk_pick (hc _ (by simp)) zq_3 x1 x2 x3 x4 x5
    | 4, _ => exact zchk_pick (hc _ (by simp)) zq_4 x1 x2 x3 x4 x5
    | 5, _ => exact zchk_pick (hc _ (by simp)) zq_5 x1 x2 x3 x4 x5
    | 6, _ => exact zchk_pick (hc _ (by simp)) zq_6 x1 x2 x3 x4 x5
    | 7, _ => exact zchk_pick (hc _ (by simp)) zq_7 x1 x2 x3 x4 x5
    | 8, _ => exact zchk_pick (hc _ (by simp)) zq_8 x1 x2 x3 x4 x5
    | 9, _ => exact zchk_pick (hc _ (by simp)) zq_9 x1 x2 x3 x4 x5
    | 10, _ => exact zq_10 x1 x2 x3 x4 x5
    | 11, _ => exact zchk_pick (hc _ (by simp)) zq_11 x1 x2 x3 x4 x5
    | 12, _ => exact zchk_pick (hc _ (by simp)) zq_12 x1 x2 x3 x4 x5
    | 13, _ => exact zchk_pick (hc _ (by simp)) zq_13 x1 x2 x3 x4 x5
    | 14, _ => exact zchk_pick (hc _ (by simp)) zq_14 x1 x2 x3 x4 x5
    | 15, _ => exact zchk_pick (hc _ (by simp)) zq_15 x1 x2 x3 x4 x5
    | 16, _ => exact zchk_pick (hc _ (by simp)) zq_16 x1 x2 x3 x4 x5
    | 17, _ => exact zchk_pick (hc _ (by simp)) zq_17 x1 x2 x3 x4 x5
    | 18, _ => exact zq_18 x1 x2 x3 x4 x5
    | 19, _ => exact zchk_pick (hc _ (by simp)) zq_19 x1 x2 x3 x4 x5
    | 20, _ => exact zchk_pick (hc _ (by simp)) zq_20 x1 x2 x3 x4 x5
    | 21, _ => exact zchk_pick (hc _ (by simp)) zq_21 x1 x2 x3 x4 x5
    | 22, _ => exact zchk_pick (hc _ (by simp)) zq_22 x1 x2 x3 x4 x5
    | 23, _ => exact zchk_pick (hc _ (by simp)) zq_23 x1 x2 x3 x4 x5
    | 24, _ => exact zchk_pick (hc _ (by simp)) zq_24 x1 x2 x3 x4 x5
    | 25, _ => exact zchk_pick (hc _ (by simp)) zq_25 x1 x2 x3 x4 x5
    | 26, _ => exact zchk_pick (hc _ (by simp)) zq_26 x1 x2 x3 x4 x5
    | 27, _ => exact zchk_pick (hc _ (by simp)) zq_27 x1 x2 x3 x4 x5
    | 28, _ => exact zchk_pick (hc _ (by simp)) zq_28 x1 x2 x3 x4 x5
    | 29, _ => exact zchk_pick (hc _ (by simp)) zq_29 x1 x2 x3 x4 x5
    | 30, _ => exact zchk_pick (hc _ (by simp)) zq_30 x1 x2 x3 x4 x5
    | 31, _ => exact zchk_pick (hc _ (by simp)) zq_31 x1 x2 x3 x4 x5
    | 32, _ => exact zchk_pick (hc _ (by simp)) zq_32 x1 x2 x3 x4 x5
    | 33, _ => exact zchk_pick (hc _ (by simp)) zq_33 x1 x2 x3 x4 x5
    | 34, _ => exact zchk_pick (hc _ (by simp)) zq_34 x1 x2 x3 x4 x5
    | 35, _ => exact zchk_pick (hc _ (by simp)) zq_35 x1 x2 x3 x4 x5
    | 36, _ => exact zchk_pick (hc _ (by simp)) zq_36 x1 x2 x3 x4 x5
    | z + 37, hz => exact absurd hz (by omega)
  · have h1 := List.all_eq_true.mp zq_d (z - 37) (List.mem_range.mpr (by omega))
    rw [show 37 + (z - 37) = z by omega] at h1
    exact zchk_pick (hc _ (by simp)) h1 x1 x2 x3 x4 x5
theorem z_and63 (x : Int32) : (x &&& 63).toUInt32.toNat < 64 := by
  have h : (x &&& 63).toUInt32.toNat = x.toUInt32.toNat &&& 63 := by
    rw [Int32.toUInt32_and, UInt32.toNat_and]; rfl
  rw [h]
  have : x.toUInt32.toNat &&& 63 ≤ 63 := Nat.and_le_right
  omega
theorem zpick {L : Nat} (hL : L ≤ 6) (xs : Nat → Int32) : ∃ P : zPar, zlen P = L ∧ zHyp P xs ∧ zfinal P = true := by
  rcases Nat.lt_or_ge L 6 with h | h
  · refine ⟨(some L, [], none), rfl, ⟨fun j lo hi hg => (by simp [zget_eq] at hg), fun z hz => (by cases hz)⟩, ?_⟩
    exact List.all_eq_true.mp zc_L L (List.mem_range.mpr h)
  · have h6 : L = 6 := by omega
    subst h6
    obtain ⟨a, b, c, d, e, a1, b1, c1, d1, e1, hf⟩ := zq_all _ (z_and63 (xs 0)) (xs 1) (xs 2) (xs 3) (xs 4) (xs 5)
    refine ⟨_, rfl, ⟨fun j lo hi hg => ?_, fun z hz => ?_⟩, hf⟩
    · match j, hg with
      | 0, hg =>
        cases hg
        exact ⟨by have := (xs 0).le_toInt; simpa using this, by have := (xs 0).toInt_lt; omega⟩
      | 1, hg => cases hg; exact a1
      | 2, hg => cases hg; exact b1
      | 3, hg => cases hg; exact c1
      | 4, hg => cases hg; exact d1
      | 5, hg => cases hg; exact e1
      | j + 6, hg => simp [zget_eq] at hg
    · cases hz
      exact (z_i32 _).symm
theorem zlaw1_eq : zlaw1 = some (true, zlawC) := by
  have h := zlaw1_ok
  unfold zlawC
  split at h
  · rename_i c hc
    rw [hc]
  · cases h
theorem zar_ok : zisw (zAp.getD 0 0) (.arrayClass (zty 0)) = true ∧ zisw (zAp.getD 1 0) (.arrayClass (zty 1)) = true ∧ zisw (zAp.getD 2 0) (.arrayClass (zty 2)) = true ∧ zisw (zAp.getD 3 0) (.arrayClass (zty 3)) = true := by decide +kernel
theorem znp_ok : zNest.map (fun q => some (Cond.methodLinkNest q.1 q.2.1 q.2.2.1 q.2.2.2)) = zNp.map zword := by decide +kernel
theorem znest_in : ∀ q ∈ zNest, Cond.methodLinkNest q.1 q.2.1 q.2.2.1 q.2.2.2 ∈ lw_tbl := by
  intro q hq
  have h1 : some (Cond.methodLinkNest q.1 q.2.1 q.2.2.1 q.2.2.2) ∈ zNp.map zword := by rw [← znp_ok]; exact List.mem_map.mpr ⟨q, hq, rfl⟩
  obtain ⟨w, -, hw⟩ := List.mem_map.mp h1
  exact zisT_mem hw
/-- what a run from a place comes to -/
theorem zfinal_run {P : zPar} (h : zfinal P = true) : ∃ (fl : Bool) (pc : Nat) (L2 : List (Option zAV)) (x0 : zAV) (H2 : zHp) (n sl a0 b0 w0 : Nat), ziter (zstep P zDef zC_L_law (zrun P zDef zMt 11)) 8 zlawC = some (fl, pc, L2, [x0], H2, n, sl) ∧ zfetch zC_L_law pc = some (.ireturn, a0, b0, w0) ∧ zcon x0 = some 1 ∧ n ≤ 600000 ∧ sl ≤ 7302250 := by
  unfold zfinal at h
  generalize ziter (zstep P zDef zC_L_law (zrun P zDef zMt 11)) 8 zlawC = o at h
  match o, h with
  | some (fl, pc, L2, S, H2, n, sl), h =>
    simp only [Bool.and_eq_true] at h
    obtain ⟨⟨⟨k1, k2⟩, k3⟩, k4⟩ := h
    split at k1
    · rename_i a0 b0 w0 hfe
      split at k2
      · rename_i x0
        split at k2
        · rename_i v hv
          have hv1 : v = 1 := by rw [← z_i32 v, Nat.eq_of_beq_eq_true k2]; rfl
          subst hv1
          exact ⟨fl, pc, L2, x0, H2, n, sl, a0, b0, w0, rfl, hfe, hv, Nat.le_of_ble_eq_true k3, Nat.le_of_ble_eq_true k4⟩
        · cases k2
      · cases k2
    · cases k1
set_option maxHeartbeats 4000000 in
theorem whole_start {p : Program} {e : Env} {s : State} {m : MethodId} {below : List Frame} {meth : Method} {c : Code} (l : Launch) (hflags : l.flags = flags0) {b L : Nat} {xs : Nat → Int32} (hL : L ≤ 6) (C0 : lw_At p s m meth c b L xs) : W p l e room_1 s m #[Value.ref b] below meth c s.heap [] 0 0 (lw_Z below #[Value.ref b] s) (entryFrame m ([Value.ref b] : List Value).toArray 4) := by
  obtain ⟨hx, hb, hr, hml, hown, hts, hX, hbl, hlocks, hgv⟩ := C0
  have htW : ∀ w ∈ zW, w.before #[Value.ref b] s = true := fun w hw => hts w (zW_tbl hw)
  have HD : ∀ k : Nat, ∃ ci : ClassId × (Nat → Nat), ∀ q, vwCl[k]? = some q → u_Kn s q.1 q.2.1 q.2.2 ci.1 ci.2 := by
    intro k
    cases h : vwCl[k]? with
    | none => exact ⟨(0, fun _ => 0), fun q hq => by cases hq⟩
    | some q =>
      obtain ⟨C, T, N⟩ := q
      obtain ⟨c1, -, -, c4, -⟩ := zClsOK_all k C T N h
      obtain ⟨cC, iS, hK⟩ := u_known (C := C) (T := T) (N := N) (n := N) htW c1 (htW _ c4)
      exact ⟨(cC, iS), fun q hq => by cases hq; exact hK⟩
  obtain ⟨f, hf⟩ : ∃ f : Nat → ClassId × (Nat → Nat), ∀ (k : Nat) (q : vw_C), vwCl[k]? = some q → u_Kn s q.1 q.2.1 q.2.2 (f k).1 (f k).2 := ⟨fun k => Classical.choose (HD k), fun k => Classical.choose_spec (HD k)⟩
  have HA : ∀ kd : Nat, ∃ cA : ClassId, kd < 4 → ArrOfT s cA (zty kd) ∧ va_RA s cA (zty kd) := by
    intro kd
    by_cases h4 : kd < 4
    · have hw : Cond.arrayClass (zty kd) ∈ zW := by
        obtain ⟨z0, z1, z2, z3⟩ := zar_ok
        rcases (show kd = 0 ∨ kd = 1 ∨ kd = 2 ∨ kd = 3 by omega) with rfl | rfl | rfl | rfl
        · exact zisw_mem z0
        · exact zisw_mem z1
        · exact zisw_mem z2
        · exact zisw_mem z3
      obtain ⟨cA, kA, comp, hfind, hk, hkind⟩ := Cond.arrayClass_spec (htW _ hw)
      refine ⟨cA, fun _ => ⟨fun n z => ⟨fun k h => (by cases h), kA, hk, comp, hkind⟩, ?_⟩⟩
      rcases (show kd = 0 ∨ kd = 1 ∨ kd = 2 ∨ kd = 3 by omega) with rfl | rfl | rfl | rfl <;> exact hfind
    · exact ⟨0, fun h => absurd h h4⟩
  obtain ⟨ca, hca⟩ : ∃ ca : Nat → ClassId, ∀ kd, kd < 4 → ArrOfT s (ca kd) (zty kd) ∧ va_RA s (ca kd) (zty kd) := ⟨fun k => Classical.choose (HA k), fun k => Classical.choose_spec (HA k)⟩
  obtain ⟨D, hD⟩ : ∃ D : va_G, D = (fun k => (f k).1, fun k => (f k).2) := ⟨_, rfl⟩
  have hK : va_K D vwCl (zTys ca) s := by
    subst hD
    refine ⟨fun k q h => hf k q h, fun k q h => ?_⟩
    match k, h with
    | 0, h => cases h; exact hca 0 (by decide)
    | 1, h => cases h; exact hca 1 (by decide)
    | 2, h => cases h; exact hca 2 (by decide)
    | 3, h => cases h; exact hca 3 (by decide)
    | k + 4, h => simp [zTys] at h
  have hN : zNestAt s := fun q hq => va_Nw.of rfl (hts _ (znest_in q hq))
  obtain ⟨P, hPL, hyp, hfin⟩ := zpick hL xs
  have hF : zFr P p room_1 s m #[Value.ref b] meth c code 4 "RestDaysLaw" "" b s.heap.size 0 xs D ca 11 :=
    ⟨hx, hb, hml, hown, htW, hK, by rw [hPL]; exact hX, hN, hbl, rfl, hyp, by decide, by decide, fun h => absurd h (by decide)⟩
  have IH := zrun_sound (l := l) (P := P) (df := zDef) zClsOK_all zMiOK_all zCdOK_all zGen_all 11
  have stp := zstep_ok (l := l) (e := e) (below := below) (Q := lw_Z below #[Value.ref b] s) (sb := 0) hF zClsOK_all zMiOK_all zCdOK_all.1 zGen_all IH zcdL_all
  have hdep : ∀ cf r, zstepU 18 (zstep zP0 zDef zC_L_law (zrun zP0 zDef zMt 11)) cf = some r → zstepU 18 (zstep P zDef zC_L_law (zrun P zDef zMt 11)) cf = some r := by
    intro cf r h
    unfold zstepU at h ⊢
    by_cases hc : Nat.beq cf.1 18 = true
    · rw [if_pos hc] at h ⊢
      exact h
    · rw [if_neg hc] at h ⊢
      exact zstep_dep (zrun_dep 11) h
  have S1 := ziter_ok (p := p) (l := l) (e := e) (R := room_1) (s := s) (m := m) (args := #[Value.ref b]) (below := below) (meth := meth) (c := c) (Q := lw_Z below #[Value.ref b] s) (b := b) (sz := s.heap.size) (xs := xs) (D := D) (ca := ca) (nL := 4) (nb := 0) (sb := 0) (f := zstepU 18 (zstep P zDef zC_L_law (zrun P zDef zMt 11))) (fun cf r h => by
    unfold zstepU at h
    split at h
    · cases h; exact zSt_rf _
    · exact stp cf r h) 5 zlaw0 (true, zlawC) (ziter_dep hdep 5 _ _ zlaw1_eq)
  obtain ⟨fl, pc, L2, x0, H2, n, sl, a0, b0, w0, hit, hfe, hv, k3, k4⟩ := zfinal_run hfin
  have S2 := ziter_ok stp 8 _ _ hit
  dsimp only at S1 S2
  have S3 := zSt_trans S1 S2
  have hgood := zcdL_all _ _ _ _ _ hfe
  simp only [zgood, Bool.and_eq_true] at hgood
  have hdg := zdec_ok hgood.1
  have hJ : zJ p l e room_1 s m #[Value.ref b] below meth c (lw_Z below #[Value.ref b] s) b s.heap.size xs D ca 4 0 0 (pc, L2, [x0], H2, n, sl) := by
    intro Hh ls st locs hH hLL hS
    dsimp only at hH hLL hS ⊢
    obtain ⟨vv, st1, rfl, hvv, hS1⟩ := zSR_cons hS
    have e1 := zSR_nil hS1
    have e2 := zG_con hvv hv
    subst e1; subst e2
    refine va_forget (fun q hq => hH.choose_spec.2.2.2.2.2 q hq) (W.widen (k := 600000) (n := 7302250) (by omega) (by omega) ?_)
    exact lw_ret hx hb hr hlocks hdg
  have hV : va_S (zA s.heap.size) s.heap s.heap [] := va_S.rf
  have hend := zSt_go S3 (Nat.zero_le _) (Nat.zero_le _) (show n - 0 ≤ 600000 by omega) (show sl - 0 ≤ 7302250 by omega) hJ
  have hent := zLR_entry (b := b) (sz := s.heap.size) (xs := xs) (as := [.inl (.retAddr 0)]) (vs := [.ref b]) (nL := 4) ⟨rfl, trivial⟩ (by decide)
  have h0 : ∀ (i : Nat) (cl : zAC), hget zH0 i = some cl → i < 0 := by
    intro i cl h
    exfalso
    unfold hget zH0 at h
    simp only [zget_eq, List.getElem?_replicate] at h
    split at h
    · cases h
    · rename_i r hr
      split at hr
      · cases hr
        rw [List.getElem?_replicate] at h
        split at h
        · rename_i h2
          split at h2 <;> simp at h2
        · cases h
      · cases hr
  have hworld : zHeap b s.heap.size xs D ca s zH0 0 s.heap [] := ⟨[], ⟨rfl, h0, fun i q h => (by simp at h)⟩, fun k q h => (by simp at h), ⟨fun i j p q h => (by simp at h), fun k q h => (by simp at h)⟩, hV⟩
  have fin := hend s.heap _ [] [] hworld hent trivial
  rw [lg_entry_eq]
  exact fin
