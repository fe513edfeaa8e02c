/-! What a program looks up of each instruction; and a step of the kernel's machine, of whichever kind. -/
noncomputable section
def zdec (cc : ByteArray) (pc : Nat) (i : Instr) (len : Nat) : Bool := decide (decode cc pc = .ok (i, len))
def zfld (own : String) (a b0 k w : Nat) : Bool := match vwCl[a]? with
  | some (_, T, N) => decide (b0 / 8 < N) && zisw w (.fieldLink own k (T (b0 / 8)).1 (T (b0 / 8)).2.1 (T (b0 / 8)).2.2.1)
  | none => false
def ztc (tc : Nat) (ty : FieldType) : Bool := match ty with
  | .int => Nat.beq tc 0
  | .boolean => Nat.beq tc 1
  | .object _ => Nat.beq tc 2
  | .array _ => Nat.beq tc 2
  | .long => Nat.beq tc 3
  | _ => false
def zput (own nm : String) (a b0 : Nat) : Bool := match vwCl[a]? with
  | some (_, T, _) => (!(T (b0 / 8)).2.2.2 || (decide (nm = "<init>") && decide ((T (b0 / 8)).1 = own))) && (match parseFieldDescriptor (T (b0 / 8)).2.2.1 with
    | some ty => ztc (b0 / 2 % 4) ty
    | none => false)
  | none => false
def znewOk (own : String) (a b0 k w : Nat) : Bool := match vwCl[a]? with
  | some (C, _, N) => decide (b0 = N) && zisw w (.classLink own k C)
  | none => false
def zcls (b0 : Nat) (C : String) : Bool := match vwCl[b0]? with
  | some (C1, _, _) => decide (C1 = C)
  | none => false
def zcallOk (mi : List zMInfo) (own : String) (j k w kind b0 cb : Nat) : Bool := match zget mi j with
  | none => true
  | some (y, _, _, _, kind', na) => decide (kind' = kind) && decide (na = b0) && (decide (kind = 2) || zcls cb y.cls) && (zisw w (.methodLink own k y) || (decide (kind = 1) && zNest.any (fun q => decide (q.1 = own) && decide (q.2.1 = k) && decide (q.2.2.1 = y))))
def zgood (mi : List zMInfo) (own nm : String) (ret : Option FieldType) (cc : ByteArray) (pc : Nat) (i : Instr) (a b0 w : Nat) : Bool := match i with
  | .iconst x => zdec cc pc i 1 && decide (Int32.ofInt x = Int32.ofNat a)
  | .bipush x => zdec cc pc i 2 && decide ((Int8.ofInt x).toInt32 = Int32.ofNat a)
  | .sipush x => zdec cc pc i 3 && decide ((Int16.ofInt x).toInt32 = Int32.ofNat a)
  | .ldc k => zdec cc pc i 2 && zisw w (.constant own k (Int32.ofNat a))
  | .athrow => decide (own = "RestDays$Tokens") && (zdec cc pc (.ldc 72) 2 && (zdec cc (pc + 2) (.iload_n 1) 1 && (zdec cc (pc + 3) (.iload 4) 2 && (zdec cc (pc + 5) .iadd 1 && zdec cc (pc + 6) (.invokevirtual 74) 3))))
  | .ldc_w k => zdec cc pc i 3 && zisw w (.constant own k (Int32.ofNat a))
  | .lconst x => zdec cc pc i 1 && decide (Int64.ofNat (x : Nat) = Int64.ofNat a)
  | .ldc2_w k => zdec cc pc i 3 && zisw w (.constantLong own k (Int64.ofNat a))
  | .iload k => zdec cc pc i 2 && decide (k = a)
  | .iload_n k => zdec cc pc i 1 && decide ((k : Nat) = a)
  | .aload k => zdec cc pc i 2 && decide (k = a)
  | .aload_n k => zdec cc pc i 1 && decide ((k : Nat) = a)
  | .lload k => zdec cc pc i 2 && decide (k = a)
  | .lload_n k => zdec cc pc i 1 && decide ((k : Nat) = a)
  | .istore k => zdec cc pc i 2 && decide (k = a)
  | .istore_n k => zdec cc pc i 1 && decide ((k : Nat) = a)
  | .astore k => zdec cc pc i 2 && decide (k = a)
  | .astore_n k => zdec cc pc i 1 && decide ((k : Nat) = a)
  | .lstore k => zdec cc pc i 2 && decide (k = a)
  | .lstore_n k => zdec cc pc i 1 && decide ((k : Nat) = a)
  | .iinc k x => zdec cc pc i 3 && decide (k = a) && decide (Int32.ofInt x = Int32.ofNat b0)
  | .iadd => zdec cc pc i 1
  | .isub => zdec cc pc i 1
  | .imul => zdec cc pc i 1
  | .iand => zdec cc pc i 1
  | .ior => zdec cc pc i 1
  | .ishl => zdec cc pc i 1
  | .ishr => zdec cc pc i 1
  | .idiv => zdec cc pc i 1
  | .irem => zdec cc pc i 1
  | .i2b => zdec cc pc i 1
  | .i2l => zdec cc pc i 1
  | .l2i => zdec cc pc i 1
  | .lor => zdec cc pc i 1
  | .ladd => zdec cc pc i 1
  | .lshl => zdec cc pc i 1
  | .lcmp => zdec cc pc i 1
  | .if_icmp _ off => zdec cc pc i 3 && decide ((pc : Int) + off = (a : Int))
  | .ifCond _ off => zdec cc pc i 3 && decide ((pc : Int) + off = (a : Int))
  | .goto off => zdec cc pc i 3 && decide ((pc : Int) + off = (a : Int))
  | .getfield k => zdec cc pc i 3 && zfld own a b0 k w
  | .putfield k => zdec cc pc i 3 && zfld own a b0 k w && zput own nm a b0
  | .new k => zdec cc pc i 3 && znewOk own a b0 k w
  | .newarray t => zdec cc pc i 2 && decide (a < 4) && decide (newarray.typeOf t = zty a) && zisw w (.arrayClass (newarray.typeOf t))
  | .arraylength => zdec cc pc i 1
  | .iaload => zdec cc pc i 1
  | .baload => zdec cc pc i 1
  | .laload => zdec cc pc i 1
  | .iastore => zdec cc pc i 1
  | .bastore => zdec cc pc i 1
  | .lastore => zdec cc pc i 1
  | .dup => zdec cc pc i 1
  | .pop => zdec cc pc i 1
  | .dup_x1 => zdec cc pc i 1
  | .dup_x2 => zdec cc pc i 1
  | .dup2 => zdec cc pc i 1
  | .tableswitch _ _ _ _ => zdec cc pc i b0
  | .lookupswitch _ ps => zdec cc pc i b0 && (ps.toList.zip (ps.toList.drop 1)).all (fun (a, next) => a.1 < next.1)
  | .land => zdec cc pc i 1
  | .lmul => zdec cc pc i 1
  | .lshr => zdec cc pc i 1
  | .lushr => zdec cc pc i 1
  | .invokevirtual k => zdec cc pc i 3 && zcallOk mi own a k w 0 (b0 / 32) (b0 % 32)
  | .invokespecial k => zdec cc pc i 3 && (match a with
    | 0 => zisw w (.methodLink own k objectInit)
    | j + 1 => zcallOk mi own j k w 1 (b0 / 32) (b0 % 32))
  | .invokestatic k => zdec cc pc i 3 && (match a with
    | 0 => zisw w (.methodLink own k arraycopyName)
    | 1 => zisw w (.methodLink own k Lib.Math.max.name)
    | 2 => zisw w (.methodLink own k Lib.Math.min.name)
    | j + 3 => zcallOk mi own j k w 2 b0 0)
  | .ireturn => zdec cc pc i 1 && (match a with
    | 0 => decide (ret = some .int)
    | _ => decide (ret = some .boolean))
  | .lreturn => zdec cc pc i 1 && decide (ret = some .long)
  | .return_ => zdec cc pc i 1 && decide (ret = none)
  | _ => true
def zClsOK (df : List (List (List zAV))) : Prop := ∀ (ci : Nat) (C : String) (T : u_T) (N : Nat), vwCl[ci]? = some (C, T, N) → (∀ w ∈ u_ws C T N, w ∈ zW) ∧ (∃ ty0 : Nat → FieldType, (∀ k, k < N → parseFieldDescriptor (T k).2.2.1 = some (ty0 k)) ∧ ∀ fs, zget df ci = some fs → ∀ k, k < N → ∃ w, fget fs k = some (.inl w) ∧ w = defaultValue (ty0 k)) ∧ (∀ a, a < N → ∀ b, b < N → a ≠ b → (T a).2.1 ≠ (T b).2.1) ∧ Cond.instantiable C N ∈ zW ∧ Cond.initialized C ∈ zW
def zMiOK (mi : List zMInfo) : Prop := ∀ (j : Nat) (y : MethodName) (cc : ByteArray) (maxL : Nat) (ret : Option FieldType) (kind na : Nat), zget mi j = some (y, cc, maxL, ret, kind, na) → zMok y cc maxL ret na ∧ plainName y.cls = true ∧ (kind = 0 → Cond.instanceMethod y ∈ zW ∧ Cond.selects y.cls y y ∈ zW) ∧ (kind = 1 → Cond.instanceMethod y ∈ zW ∧ y.name = "<init>" ∧ ret = none) ∧ (kind = 2 → Cond.static y ∈ zW)
def zCdOK (mt : List (Nat × zCode)) (mi : List zMInfo) : Prop := (∀ j, zget mi j = none → zget mt j = none) ∧ ∀ (j : Nat) (y : MethodName) (cc : ByteArray) (maxL : Nat) (ret : Option FieldType) (kind na : Nat), zget mi j = some (y, cc, maxL, ret, kind, na) → ∀ nL cd, zget mt j = some (nL, cd) → nL = maxL ∧ ∀ (pc : Nat) (i : Instr) (a b0 w : Nat), zfetch cd pc = some (i, a, b0, w) → zgood mi y.cls y.name ret cc pc i a b0 w = true
def zGenW : List Cond := [.native arraycopyName, .static arraycopyName, .initialized "java/lang/System", .instanceMethod objectInit, .code objectInit ⟨#[0xb1]⟩ 1 none, .static Lib.Math.max.name, .initialized "java/lang/Math", .code Lib.Math.max.name Lib.Math.max.code 2 (some .int), .static Lib.Math.min.name, .code Lib.Math.min.name Lib.Math.min.code 2 (some .int)]
def zFr (P : zPar) (p : Program) (R : Room) (s : State) (m : MethodId) (args : Array Value) (meth : Method) (c : Code) (cc : ByteArray) (nL : Nat) (own nm : String) (b sz nb : Nat) (xs : Nat → Int32) (D : va_G) (ca : Nat → ClassId) (d : Nat) : Prop :=
  p.tables.exec = Jvm.exec ∧ c.code = cc ∧ c.maxLocals = nL ∧ s.vm.findClass own = some m.cls ∧ (∀ w ∈ zW, w.before args s = true) ∧ va_K D vwCl (zTys ca) s ∧ va_X b (zlen P) xs s s.heap ∧ zNestAt s ∧ b < sz ∧ s.heap.size = sz + nb ∧ zHyp P xs ∧ d + 1 ≤ R.frames ∧ 60 * (d + 1) ≤ R.locals ∧ (nm = "<init>" → meth.name = nm)
section zStep
variable {p : Program} {l : Launch} {e : Env} {R : Room} {s : State} {m : MethodId} {args : Array Value} {below : List Frame} {meth : Method} {c : Code} {Q : State → Prop}
variable {b sz nL nb sb d : Nat} {xs : Nat → Int32} {D : va_G} {ca : Nat → ClassId} {cc : ByteArray} {own nm : String} {ret : Option FieldType}
variable {pc : Nat} {L : List (Option zAV)} {S : List zAV} {H : zHp} {n sl : Nat} {r : Bool × zCfg} {P : zPar} {df : List (List (List zAV))} {mt : List (Nat × zCode)} {mi : List zMInfo}
theorem zdec_ok {i : Instr} {len : Nat} (h : zdec cc pc i len = true) : decode cc pc = .ok (i, len) := of_decide_eq_true h
theorem zSt_rf (cf : zCfg) : zSt p l e R s m args below meth c Q b sz xs D ca nL nb sb cf cf := ⟨⟨Nat.le_refl _, Nat.le_refl _⟩, fun _ _ _ _ h => h⟩
theorem zs_ret {one : zAV → Bool} (h : zx_ret one pc L S H n sl = some r) : r.2 = (pc, L, S, H, n, sl) := by
  unfold zx_ret at h
  try unfold zif at h
  split at h
  · split at h
    · cases h; rfl
    · cases h
  · cases h
theorem zs_void (h : zx_void pc L S H n sl = some r) : r.2 = (pc, L, S, H, n, sl) ∧ True := by
  unfold zx_void at h
  try unfold zif at h
  split at h
  · cases h; exact ⟨rfl, trivial⟩
  · cases h
theorem zrun_none {j : Nat} {as : List zAV} (h : zget mt j = none) : zrun P df mt d j as H n sl = none := by
  cases d with
  | zero => rfl
  | succ d => simp only [zrun, h]
theorem zs_callV_none {j : Nat} (hj : zget mt j = none) {b0 : Nat} (h : zx_callV (zrun P df mt d) j b0 pc L S H n sl = some r) : False := by
  unfold zx_callV at h
  try unfold zif at h
  split at h
  · split at h
    · split at h
      · split at h
        · rw [zrun_none hj] at h
          cases h
        · cases h
      · cases h
    · cases h
  · cases h
theorem zs_callS_none {j : Nat} (hj : zget mt j = none) {b0 : Nat} (h : zx_callS (zrun P df mt d) j b0 pc L S H n sl = some r) : False := by
  unfold zx_callS at h
  try unfold zif at h
  split at h
  · split at h
    · rw [zrun_none hj] at h
      cases h
    · cases h
  · cases h
theorem zfld_ok {a b0 k w : Nat} (h : zfld own a b0 k w = true) : ∃ C T N, vwCl[a]? = some (C, T, N) ∧ b0 / 8 < N ∧ Cond.fieldLink own k (T (b0 / 8)).1 (T (b0 / 8)).2.1 (T (b0 / 8)).2.2.1 ∈ zW := by
  unfold zfld at h
  split at h
  · rename_i C T N hc
    rw [Bool.and_eq_true] at h
    exact ⟨C, T, N, hc, of_decide_eq_true h.1, zisw_mem h.2⟩
  · cases h
theorem zput_ok {a b0 : Nat} {C : String} {T : u_T} {N : Nat} (hc : vwCl[a]? = some (C, T, N)) (h : zput own nm a b0 = true) : ((T (b0 / 8)).2.2.2 = false ∨ ((T (b0 / 8)).2.2.2 = true ∧ nm = "<init>" ∧ (T (b0 / 8)).1 = own)) ∧ ∃ ty, parseFieldDescriptor (T (b0 / 8)).2.2.1 = some ty ∧ ((b0 / 2 % 4 = 0 ∧ ty = .int) ∨ (b0 / 2 % 4 = 1 ∧ ty = .boolean) ∨ (b0 / 2 % 4 = 2 ∧ ((∃ C, ty = .object C) ∨ ∃ t, ty = .array t)) ∨ (b0 / 2 % 4 = 3 ∧ ty = .long)) := by
  unfold zput at h
  rw [hc] at h
  simp only [Bool.and_eq_true, Bool.or_eq_true, Bool.not_eq_true', decide_eq_true_eq] at h
  obtain ⟨h1, h2⟩ := h
  refine ⟨?_, ?_⟩
  · cases hf : (T (b0 / 8)).2.2.2 with
    | false => exact Or.inl rfl
    | true =>
      rw [hf] at h1
      exact Or.inr ⟨rfl, h1.resolve_left (by simp)⟩
  · split at h2
    · rename_i ty ht
      refine ⟨ty, ht, ?_⟩
      unfold ztc at h2
      split at h2
      · exact Or.inl ⟨Nat.eq_of_beq_eq_true h2, rfl⟩
      · exact Or.inr (Or.inl ⟨Nat.eq_of_beq_eq_true h2, rfl⟩)
      · exact Or.inr (Or.inr (Or.inl ⟨Nat.eq_of_beq_eq_true h2, Or.inl ⟨_, rfl⟩⟩))
      · exact Or.inr (Or.inr (Or.inl ⟨Nat.eq_of_beq_eq_true h2, Or.inr ⟨_, rfl⟩⟩))
      · exact Or.inr (Or.inr (Or.inr ⟨Nat.eq_of_beq_eq_true h2, rfl⟩))
      · cases h2
    · cases h2
theorem zcallOk_ok {j k w kind b0 cb : Nat} {y : MethodName} {cd : ByteArray} {maxL : Nat} {rt : Option FieldType} {kd na : Nat} (hj : zget mi j = some (y, cd, maxL, rt, kd, na)) (h : zcallOk mi own j k w kind b0 cb = true) : kd = kind ∧ na = b0 ∧ (kind = 2 ∨ ∃ T N, vwCl[cb]? = some (y.cls, T, N)) ∧ (Cond.methodLink own k y ∈ zW ∨ (kind = 1 ∧ ∃ host, (own, k, y, host) ∈ zNest)) := by
  unfold zcallOk at h
  rw [hj] at h
  simp only [Bool.and_eq_true, Bool.or_eq_true, decide_eq_true_eq] at h
  obtain ⟨⟨⟨h1, h2⟩, h3⟩, h4⟩ := h
  refine ⟨h1, h2, h3.imp id fun h3 => ?_, h4.imp zisw_mem fun h4 => ⟨h4.1, ?_⟩⟩
  · unfold zcls at h3
    split at h3
    · rename_i C1 T N hc
      have e := of_decide_eq_true h3
      subst e
      exact ⟨T, N, hc⟩
    · cases h3
  · obtain ⟨q, hq, hq2⟩ := List.any_eq_true.mp h4.2
    simp only [Bool.and_eq_true, decide_eq_true_eq] at hq2
    obtain ⟨⟨e1, e2⟩, e3⟩ := hq2
    subst e1; subst e2; subst e3
    exact ⟨q.2.2.2, hq⟩
set_option maxHeartbeats 4000000 in
theorem zex_ok {i : Instr} {a b0 w : Nat} (hF : zFr P p R s m args meth c cc nL own nm b sz nb xs D ca d) (hCl : zClsOK df) (hMi : zMiOK mi) (hCd : ∀ j, zget mi j = none → zget mt j = none) (hGen : ∀ w ∈ zGenW, w ∈ zW) (IH : zSound l P df mt mi d)
    (hg : zgood mi own nm ret cc pc i a b0 w = true) (h : zex P df (zrun P df mt d) i a b0 pc L S H n sl = some r) : zSt p l e R s m args below meth c Q b sz xs D ca nL nb sb (pc, L, S, H, n, sl) r.2 := by
  obtain ⟨hx, hb, hml, hown, hts, hK, hX, hN, hbz, hs, hyp, hfr, hlo, hnm⟩ := hF
  cases i
  case iconst x =>
    simp only [zgood, Bool.and_eq_true, decide_eq_true_eq] at hg
    exact zs_push h (zG_self _) fun Hh ls st locs k q kk => lv_iconst hx hb (zdec_ok hg.1) hg.2 kk
  case bipush x =>
    simp only [zgood, Bool.and_eq_true, decide_eq_true_eq] at hg
    exact zs_push h (zG_self _) fun Hh ls st locs k q kk => lv_bipush hx hb (zdec_ok hg.1) hg.2 kk
  case sipush x =>
    simp only [zgood, Bool.and_eq_true, decide_eq_true_eq] at hg
    exact zs_push h (zG_self _) fun Hh ls st locs k q kk => lv_sipush hx hb (zdec_ok hg.1) hg.2 kk
  case ldc x =>
    simp only [zgood, Bool.and_eq_true, decide_eq_true_eq] at hg
    exact zs_push h (zG_self _) fun Hh ls st locs k q kk => lv_ldc hx hb hown (hts _ (zisw_mem hg.2)) (zdec_ok hg.1) kk
  case ldc_w x =>
    simp only [zgood, Bool.and_eq_true, decide_eq_true_eq] at hg
    exact zs_push h (zG_self _) fun Hh ls st locs k q kk => lv_ldcw hx hb hown (hts _ (zisw_mem hg.2)) (zdec_ok hg.1) kk
  case lconst x =>
    simp only [zgood, Bool.and_eq_true, decide_eq_true_eq] at hg
    exact zs_push h (v := .long (Int64.ofNat a)) rfl fun Hh ls st locs k q kk => lv_lconst hx hb (zdec_ok hg.1) hg.2 kk
  case ldc2_w x =>
    simp only [zgood, Bool.and_eq_true, decide_eq_true_eq] at hg
    exact zs_push h (v := .long (Int64.ofNat a)) rfl fun Hh ls st locs k q kk => lv_ldc2 hx hb hown (hts _ (zisw_mem hg.2)) (zdec_ok hg.1) kk
  case iload x =>
    simp only [zgood, Bool.and_eq_true, decide_eq_true_eq] at hg
    obtain ⟨h1, rfl⟩ := hg
    exact zs_load h fun Hh ls st locs k q av v hok hv hl kk => by
      obtain ⟨z, rfl⟩ := zG_int hv hok
      exact lv_iload hx hb (zdec_ok h1) hl kk
  case iload_n x =>
    simp only [zgood, Bool.and_eq_true, decide_eq_true_eq] at hg
    exact zs_load h fun Hh ls st locs k q av v hok hv hl kk => by
      obtain ⟨z, rfl⟩ := zG_int hv hok
      exact lv_iload_n hx hb (zdec_ok hg.1) hg.2 hl kk
  case aload x =>
    simp only [zgood, Bool.and_eq_true, decide_eq_true_eq] at hg
    obtain ⟨h1, rfl⟩ := hg
    exact zs_load h fun Hh ls st locs k q av v hok hv hl kk => by
      rw [Bool.or_eq_true] at hok
      rcases hok with hok | hok
      · obtain ⟨z, hz⟩ := Option.isSome_iff_exists.mp hok
        have e1 := zG_rf hv hz
        subst e1
        exact lv_aload hx hb (zdec_ok h1) hl kk
      · have e1 := zG_scr hv hok
        subst e1
        exact lv_aload hx hb (zdec_ok h1) hl kk
  case aload_n x =>
    simp only [zgood, Bool.and_eq_true, decide_eq_true_eq] at hg
    exact zs_load h fun Hh ls st locs k q av v hok hv hl kk => by
      rw [Bool.or_eq_true] at hok
      rcases hok with hok | hok
      · obtain ⟨z, hz⟩ := Option.isSome_iff_exists.mp hok
        have e1 := zG_rf hv hz
        subst e1
        exact lv_aload_n hx hb (zdec_ok hg.1) hg.2 hl kk
      · have e1 := zG_scr hv hok
        subst e1
        exact lv_aload_n hx hb (zdec_ok hg.1) hg.2 hl kk
  case lload x =>
    simp only [zgood, Bool.and_eq_true, decide_eq_true_eq] at hg
    obtain ⟨h1, rfl⟩ := hg
    exact zs_load h fun Hh ls st locs k q av v hok hv hl kk => by
      obtain ⟨z, hz⟩ := Option.isSome_iff_exists.mp hok
      have e1 := zG_lon hv hz
      subst e1
      exact lv_lload hx hb (zdec_ok h1) hl kk
  case lload_n x =>
    simp only [zgood, Bool.and_eq_true, decide_eq_true_eq] at hg
    exact zs_load h fun Hh ls st locs k q av v hok hv hl kk => by
      obtain ⟨z, hz⟩ := Option.isSome_iff_exists.mp hok
      have e1 := zG_lon hv hz
      subst e1
      exact lv_lload_n hx hb (zdec_ok hg.1) hg.2 hl kk
  case istore x =>
    simp only [zgood, Bool.and_eq_true, decide_eq_true_eq] at hg
    obtain ⟨h1, rfl⟩ := hg
    exact zs_store h fun Hh ls st locs k q av v lv hok hv hlv ha kk => by
      obtain ⟨z, rfl⟩ := zG_int hv hok
      exact lv_istore hx hb (zdec_ok h1) hlv ha rfl kk
  case istore_n x =>
    simp only [zgood, Bool.and_eq_true, decide_eq_true_eq] at hg
    exact zs_store h fun Hh ls st locs k q av v lv hok hv hlv ha kk => by
      obtain ⟨z, rfl⟩ := zG_int hv hok
      exact lv_istore_n hx hb (zdec_ok hg.1) hg.2 hlv ha rfl kk
  case astore x =>
    simp only [zgood, Bool.and_eq_true, decide_eq_true_eq] at hg
    obtain ⟨h1, rfl⟩ := hg
    exact zs_store h fun Hh ls st locs k q av v lv hok hv hlv ha kk => by
      obtain ⟨z, hz⟩ := Option.isSome_iff_exists.mp hok
      have e1 := zG_rf hv hz
      subst e1
      exact lv_astore hx hb (zdec_ok h1) hlv ha rfl kk
  case astore_n x =>
    simp only [zgood, Bool.and_eq_true, decide_eq_true_eq] at hg
    exact zs_store h fun Hh ls st locs k q av v lv hok hv hlv ha kk => by
      obtain ⟨z, hz⟩ := Option.isSome_iff_exists.mp hok
      have e1 := zG_rf hv hz
      subst e1
      exact lv_astore_n hx hb (zdec_ok hg.1) hg.2 hlv ha rfl kk
  case lstore x =>
    simp only [zgood, Bool.and_eq_true, decide_eq_true_eq] at hg
    obtain ⟨h1, rfl⟩ := hg
    exact zs_lstore h fun Hh ls st locs k q z lv hlv ha kk => lv_lstore hx hb (zdec_ok h1) hlv ha rfl kk
  case lstore_n x =>
    simp only [zgood, Bool.and_eq_true, decide_eq_true_eq] at hg
    exact zs_lstore h fun Hh ls st locs k q z lv hlv ha kk => lv_lstore_n hx hb (zdec_ok hg.1) hg.2 hlv ha rfl kk
  case iinc x z =>
    simp only [zgood, Bool.and_eq_true, decide_eq_true_eq] at hg
    obtain ⟨⟨h1, rfl⟩, h3⟩ := hg
    exact zs_iinc h fun Hh ls st locs k q y lv j hlv hj ha kk => lv_iinc hx hb (zdec_ok h1) hlv hj (by rw [h3]) ha rfl kk
  case iadd => exact zs_bin zadd_ok h fun Hh ls st locs k q x y kk => lv_iadd hx hb (zdec_ok hg) kk
  case isub => exact zs_bin (zbin_ok _) h fun Hh ls st locs k q x y kk => lv_isub hx hb (zdec_ok hg) kk
  case imul => exact zs_bin (zbin_ok _) h fun Hh ls st locs k q x y kk => lv_imul hx hb (zdec_ok hg) kk
  case iand => exact zs_bin (zand_ok hyp.2) h fun Hh ls st locs k q x y kk => lv_iand hx hb (zdec_ok hg) kk
  case ior => exact zs_bin (zbin_ok _) h fun Hh ls st locs k q x y kk => lv_ior hx hb (zdec_ok hg) kk
  case ishl => exact zs_bin (zbin_ok _) h fun Hh ls st locs k q x y kk => lv_ishl hx hb (zdec_ok hg) kk
  case ishr => exact zs_bin (zbin_ok _) h fun Hh ls st locs k q x y kk => lv_ishr hx hb (zdec_ok hg) kk
  case idiv => exact zs_div h fun Hh ls st locs k q x y hne kk => lv_idiv hx hb (zdec_ok hg) hne kk
  case irem => exact zs_div h fun Hh ls st locs k q x y hne kk => lv_irem hx hb (zdec_ok hg) hne kk
  case i2b => exact zs_un h fun Hh ls st locs k q x kk => lv_i2b hx hb (zdec_ok hg) rfl kk
  case i2l => exact zs_i2l h fun Hh ls st locs k q x kk => lv_i2l hx hb (zdec_ok hg) rfl kk
  case l2i => exact zs_l2i h fun Hh ls st locs k q x kk => lv_l2i hx hb (zdec_ok hg) rfl kk
  case lor => exact zs_lbin h fun Hh ls st locs k q x y kk => lv_lor hx hb (zdec_ok hg) kk
  case ladd => exact zs_lbin h fun Hh ls st locs k q x y kk => lv_ladd hx hb (zdec_ok hg) kk
  case lshl => exact zs_lsh h fun Hh ls st locs k q x y kk => lv_lshl hx hb (zdec_ok hg) rfl kk
  case lcmp => exact zs_lcmp h fun Hh ls st locs k q x y kk => W.lcmp hx hb (zdec_ok hg) kk
  case if_icmp cd off =>
    simp only [zgood, Bool.and_eq_true, decide_eq_true_eq] at hg
    have hd := zdec_ok hg.1
    refine zs_icmp h fun Hh ls st locs k q x y kt kf => ?_
    cases cd
    · exact lv_icmp_eq hx hb hd hg.2 kt kf
    · exact lv_icmp_ne hx hb hd hg.2 kt fun z => kf fun w => w z
    · exact lv_icmp_lt hx hb hd hg.2 kt kf
    · exact lv_icmp_ge hx hb hd hg.2 kt kf
    · exact lv_icmp_gt hx hb hd hg.2 kt kf
    · exact lv_icmp_le hx hb hd hg.2 kt kf
  case ifCond cd off =>
    simp only [zgood, Bool.and_eq_true, decide_eq_true_eq] at hg
    have hd := zdec_ok hg.1
    refine zs_if h fun Hh ls st locs k q x kt kf => ?_
    cases cd
    · exact lv_if_eq hx hb hd hg.2 kt kf
    · exact lv_if_ne hx hb hd hg.2 kt fun z => kf fun w => w z
    · exact lv_if_lt hx hb hd hg.2 kt kf
    · exact lv_if_ge hx hb hd hg.2 kt kf
    · exact lv_if_gt hx hb hd hg.2 kt kf
    · exact lv_if_le hx hb hd hg.2 kt kf
  case goto off =>
    simp only [zgood, Bool.and_eq_true, decide_eq_true_eq] at hg
    rw [zgo_some h]
    exact zSt_pure fun Hh ls st locs k q hH hL hS kk => lv_goto hx hb (zdec_ok hg.1) hg.2 (kk ls st hL hS)
  case getfield x =>
    simp only [zgood, Bool.and_eq_true] at hg
    obtain ⟨C, T, N, hc, hk, hl⟩ := zfld_ok hg.2
    exact zs_get h hx hb hts (hCl _ _ _ _ hc).1 hown hK hc hk hl (zdec_ok hg.1)
  case putfield x =>
    simp only [zgood, Bool.and_eq_true] at hg
    obtain ⟨C, T, N, hc, hk, hl⟩ := zfld_ok hg.1.2
    obtain ⟨c1, ⟨ty0, c2, -⟩, c3, -⟩ := hCl _ _ _ _ hc
    obtain ⟨hfin, ty, hd, htc⟩ := zput_ok hc hg.2
    exact zs_put h hx hb hts c1 c2 c3 hown hK hc hk hl (hfin.imp id fun ⟨q1, q2, q3⟩ => ⟨q1, (hnm q2).trans q2, q3⟩) hd htc (zdec_ok hg.1.1)
  case new x =>
    simp only [zgood, Bool.and_eq_true] at hg
    obtain ⟨hd, hg⟩ := hg
    unfold znewOk at hg
    split at hg
    · rename_i C T N hc
      rw [Bool.and_eq_true] at hg
      obtain ⟨c1, ⟨ty0, c2, c2b⟩, c3, c4, c5⟩ := hCl _ _ _ _ hc
      exact zs_new h hx hb hts c1 c2 hown hK hs hc (of_decide_eq_true hg.1) (zisw_mem hg.2) c4 c5 c2b (zdec_ok hd)
    · cases hg
  case newarray t =>
    simp only [zgood, Bool.and_eq_true, decide_eq_true_eq] at hg
    exact zs_newa h hx hb hts hK hs hg.1.1.2 hg.1.2 (zisw_mem hg.2) (zdec_ok hg.1.1.1)
  case arraylength => exact zs_alen h hx hb hK hX hbz hs (zdec_ok hg)
  case iaload => exact zs_ald (isB := false) h hx hb hK hX hbz hs hyp.1 (zdec_ok hg)
  case baload => exact zs_ald (isB := true) h hx hb hK hX hbz hs hyp.1 (zdec_ok hg)
  case laload => exact zs_lald h hx hb hK (zdec_ok hg)
  case iastore => exact zs_ast (isB := false) h hx hb hK (zdec_ok hg)
  case bastore => exact zs_ast (isB := true) h hx hb hK (zdec_ok hg)
  case lastore => exact zs_last h hx hb hK (zdec_ok hg)
  case dup => exact zs_dup h fun Hh ls st locs k q x h1 kk => lv_dup hx hb (zdec_ok hg) h1 kk
  case pop => exact zs_pop h fun Hh ls st locs k q x h1 kk => lv_pop hx hb (zdec_ok hg) h1 kk
  case dup_x1 => exact zs_dup_x1 h fun Hh ls st locs k q x y h1 h2 kk => lv_dup_x1 hx hb (zdec_ok hg) h1 h2 kk
  case dup_x2 => exact zs_dup_x2 h fun Hh ls st locs k q x y z h1 h2 h3 kk => lv_dup_x2 hx hb (zdec_ok hg) h1 h2 h3 kk
  case dup2 => exact zs_dup2 h fun Hh ls st locs k q x y h1 h2 kk => lv_dup2_11 hx hb (zdec_ok hg) h1 h2 kk
  case tableswitch dflt lo hi offs =>
    exact zs_table h (fun Hh ls st locs k q x tgt ho ht kk => lv_tableOut hx hb (zdec_ok hg) ho ht kk) (fun Hh ls st locs k q x tgt off h1 h2 ho ht kk => lv_tableIn hx hb (zdec_ok hg) h1 h2 ho ht kk)
  case invokevirtual x =>
    simp only [zgood, Bool.and_eq_true] at hg
    obtain ⟨hd, hg⟩ := hg
    cases hj : zget mi a with
    | none => exact (zs_callV_none (hCd _ hj) h).elim
    | some q =>
      obtain ⟨y, cd, maxL, rt, kd, na⟩ := q
      obtain ⟨e1, e2, e3, e4⟩ := zcallOk_ok hj hg
      subst e1
      obtain ⟨f1, f2, f3, -, -⟩ := hMi _ _ _ _ _ _ _ hj
      obtain ⟨T, N, hc⟩ := e3.resolve_left (by decide)
      obtain ⟨g1, g2⟩ := f3 rfl
      exact zs_callV h IH hj e2 hc f1 g1 (Or.inl ⟨zdec_ok hd, e4.resolve_right (fun z => by cases z.1), g2⟩) hx hb hml hts hown hK hX hN hbz hs hyp hfr hlo
  case invokespecial x =>
    simp only [zgood, Bool.and_eq_true] at hg
    obtain ⟨hd, hg⟩ := hg
    cases a with
    | zero => exact zs_obj h hx hb hml hts hown (zisw_mem hg) (hGen _ (by simp [zGenW])) (hGen _ (by simp [zGenW])) (by omega) (by omega) (zdec_ok hd)
    | succ j =>
      cases hj : zget mi j with
      | none => exact (zs_callV_none (hCd _ hj) h).elim
      | some q =>
        obtain ⟨y, cd, maxL, rt, kd, na⟩ := q
        obtain ⟨e1, e2, e3, e4⟩ := zcallOk_ok hj hg
        subst e1
        obtain ⟨f1, f2, -, f3, -⟩ := hMi _ _ _ _ _ _ _ hj
        obtain ⟨T, N, hc⟩ := e3.resolve_left (by decide)
        obtain ⟨g1, g2, g3⟩ := f3 rfl
        exact zs_callV h IH hj e2 hc f1 g1 (Or.inr ⟨zdec_ok hd, g2, g3, e4.imp id fun z => z.2⟩) hx hb hml hts hown hK hX hN hbz hs hyp hfr hlo
  case invokestatic x =>
    simp only [zgood, Bool.and_eq_true] at hg
    obtain ⟨hd, hg⟩ := hg
    rcases a with _ | _ | _ | j
    · exact zs_copy h hx hb hml hts hown hK (zisw_mem hg) (hGen _ (by simp [zGenW])) (hGen _ (by simp [zGenW])) (hGen _ (by simp [zGenW])) (by omega) (by omega) (zdec_ok hd)
    · refine zs_mm (isMax := true) h fun Hh ls st locs k q x y hk hq hls h8 kk => ?_
      have e1 : (if (x < y) = (true = true) then y else x) = if x < y then y else x := by by_cases hxy : x < y <;> simp [hxy]
      rw [e1] at kk
      exact va_mmax hx hb (hml.trans hls.symm) hown (hts _ (zisw_mem hg)) (hts _ (hGen _ (by simp [zGenW]))) (hts _ (hGen _ (by simp [zGenW]))) (hts _ (hGen _ (by simp [zGenW]))) (by omega) (by omega) hk hq (zdec_ok hd) kk
    · refine zs_mm (isMax := false) h fun Hh ls st locs k q x y hk hq hls h8 kk => ?_
      have e1 : (if (x < y) = (false = true) then y else x) = if y < x then y else x := by
        by_cases h1 : x < y
        · have h2 : ¬ y < x := fun z => by have a1 := Int32.lt_iff_toInt_lt.mp h1; have a2 := Int32.lt_iff_toInt_lt.mp z; omega
          simp [h1, h2]
        · by_cases h2 : y < x
          · simp [h1, h2]
          · have h3 : x = y := Int32.toInt_inj.mp (by
              have a1 : ¬ x.toInt < y.toInt := fun z => h1 (Int32.lt_iff_toInt_lt.mpr z)
              have a2 : ¬ y.toInt < x.toInt := fun z => h2 (Int32.lt_iff_toInt_lt.mpr z)
              omega)
            simp [h1, h2, h3]
      rw [e1] at kk
      exact va_mmin hx hb (hml.trans hls.symm) hown (hts _ (zisw_mem hg)) (hts _ (hGen _ (by simp [zGenW]))) (hts _ (hGen _ (by simp [zGenW]))) (hts _ (hGen _ (by simp [zGenW]))) (by omega) (by omega) hk hq (zdec_ok hd) kk
    · cases hj : zget mi j with
      | none => exact (zs_callS_none (hCd _ hj) h).elim
      | some q =>
        obtain ⟨y, cd, maxL, rt, kd, na⟩ := q
        obtain ⟨e1, e2, e3, e4⟩ := zcallOk_ok hj hg
        subst e1
        obtain ⟨f1, f2, -, -, f3⟩ := hMi _ _ _ _ _ _ _ hj
        exact zs_callS h IH hj e2 f1 (f3 rfl) (zdec_ok hd) (e4.resolve_right (fun z => by cases z.1)) hx hb hml hts hown hK hX hN hbz hs hyp hfr hlo
  case ireturn => rw [zs_ret h]; exact zSt_rf _
  case lreturn => rw [zs_ret h]; exact zSt_rf _
  case return_ => rw [(zs_void h).1]; exact zSt_rf _
  all_goals exact absurd (show (none : zOut) = some r from h) (by simp)
end zStep
end
