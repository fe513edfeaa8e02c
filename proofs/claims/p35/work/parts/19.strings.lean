/-! String.charAt of a constant: five methods of the JDK, by hand. -/
section yStrS
variable {p : Program} {l : Launch} {e : Env} {R : Room} {s : State} {m : MethodId} {args : Array Value} {below : List Frame} {meth : Method} {c : Code} {Q : State → Prop} {H : Heap} {locs : List Loc} {cells slots pc : Nat} {ls : Array Slot}
/-- an end that leaves the heap as it was -/
def sQ (P : Option Value → Prop) : Array Value → State → Outcome → State → Prop := fun _ st o t => (∃ rv, o = .returned rv ∧ P rv) ∧ t.heap = st.heap
theorem s_after {sz : Nat} {P : Option Value → Prop} {a : Array Value} {st0 rest : List Value} (hr : va_Run p l e R s m args below meth c H locs cells slots 0 0 (F0 m pc ls st0) rest (sQ P a) (zA sz)) (hV : va_S (zA sz) s.heap H locs)
    (fin : ∀ (rv : Option Value) (locs1 : List Loc), P rv → va_S (zA sz) s.heap H locs1 → W p l e R s m args below meth c H locs1 cells slots Q (F0 m (pc + 3) ls (rv.toList ++ rest))) : W p l e R s m args below meth c H locs cells slots Q (F0 m pc ls st0) := by
  intro T hT X
  obtain ⟨vv, st₀, t, T', L, h0, X', hL, e1, e2, ⟨⟨rv, ho, hP⟩, hz⟩, st⟩ := hr T hT X
  cases ho
  have eH : T'.heap = H := by rw [e1, hz, h0]
  obtain ⟨t2, a1, b1⟩ := fin vv (locs ++ L) hP ⟨hV.1, hV.2.1, fun q hq => by
    rcases List.mem_append.mp hq with h | h
    · exact hV.2.2 q h
    · exact hL q h⟩ T' eH X'
  exact ⟨t2, st t2 a1, b1⟩
def fV : Option Nat → Value
  | none => .null
  | some a => .ref a
/-- the string constant, as its own cells have it -/
def yStr (a v : Nat) (f : Option Nat) (g : Nat → Int32) (A : Nat → Prop) (U : State) (H : Heap) : Prop :=
  va_Z "java/lang/String" "COMPACT_STRINGS" "Z" (.int 1) A U H ∧ va_Z "jdk/internal/util/Preconditions" "SIOOBE_FORMATTER" "Ljava/util/function/BiFunction;" (fV f) A U H ∧ va_O "java/lang/String" a A U H ∧ va_OF "java/lang/String" "coder" "B" (.int 0) a A U H ∧ va_OF "java/lang/String" "value" "[B" (.ref v) a A U H ∧ va_T .byte v 176 (fun j => .int (g j)) A U H
theorem yStr_moved {a v : Nat} {f : Option Nat} {g : Nat → Int32} {A : Nat → Prop} {u U : State} {H : Heap} (hvm : u.vm.Alike U.vm) (h : yStr a v f g A u H) : yStr a v f g A U H :=
  ⟨va_Z.moved hvm h.1, va_Z.moved hvm h.2.1, va_O.moved hvm h.2.2.1, va_OF.moved hvm h.2.2.2.1, va_OF.moved hvm h.2.2.2.2.1, va_T.moved hvm h.2.2.2.2.2⟩
theorem yStr_kept {a v : Nat} {f : Option Nat} {g : Nat → Int32} {A : Nat → Prop} {U : State} {H H1 : Heap} (h : yStr a v f g A U H) (hq : ∀ a : Nat, a < H.size → ¬ A a → H1[a]? = H[a]?) : yStr a v f g A U H1 :=
  ⟨h.1.kept hq, h.2.1.kept hq, h.2.2.1.kept hq, h.2.2.2.1.kept hq, h.2.2.2.2.1.kept hq, h.2.2.2.2.2.kept hq⟩
def sP (a v : Nat) (f : Option Nat) (g : Nat → Int32) (sz : Nat) (vs : List Value) : Array Value → State → Prop := fun as U => as = vs.toArray ∧ yStr a v f g (zA sz) U U.heap
theorem sP_pre {a v sz : Nat} {f : Option Nat} {g : Nat → Int32} {vs : List Value} (h : yStr a v f g (zA sz) s s.heap) (hV : va_S (zA sz) s.heap H locs) : PreS s H (sP a v f g sz vs) vs := by
  refine ⟨fun a U gg mk h => ⟨h.1, yStr_moved (u := U) (U := U.calling gg mk a) (Vm.Alike.refl U.vm) h.2⟩, fun U hU hWm => ⟨rfl, ?_⟩⟩
  rw [hU]
  exact yStr_moved hWm.alike (yStr_kept h hV.2.1)
abbrev sI : Option Value → Prop := fun rv => ∃ z : Int32, rv = some (.int z)
theorem s_check3 {a v sz : Nat} {f : Option Nat} {g : Nat → Int32} {i n : Int32} (h0 : ¬ i < 0) (h1 : i < n) : Met l yJ3_checkIndex_8e157 (zws yJ3_checkIndex_8e157 cJ3_checkIndex_8e157 3 (some .int)) { frames := 0, cells := 0, slots := 0, locals := 60 * 0 } (sP a v f g sz [.int i, .int n, fV f]) (sQ sI) 0 0 (zA sz) := by
  refine Met.ofW (cc := cJ3_checkIndex_8e157) (maxL := 3) (ret := some .int) (by decide) rfl ?_
  intro p e s m args below meth c s₁ B hml hv
  obtain ⟨rfl, hS⟩ := hv
  have hx := B.exec
  have hb := B.bytes
  cases f with
  | none =>
    change W p l e _ s m [Value.int i, .int n, .null].toArray below meth c s.heap [] 0 0 _ (entryFrame m [Value.int i, .int n, .null].toArray 3)
    have lv := lv_entry [.int i, .int n, .null] (n := 3) (Nat.le_refl 3)
    rw [lg_entry_eq]
    generalize (lg_sl [Value.int i, .int n, .null] ++ List.replicate (3 - (lg_sl [Value.int i, .int n, .null]).length) Slot.unset).toArray = ls at lv ⊢
    refine lv_iload_n hx hb (by decide +kernel : decode cJ3_checkIndex_8e157 0 = .ok (.iload_n 0, 1)) rfl (lv_at lv 0 rfl) ?_
    refine lv_if_lt hx hb (by decide +kernel : decode cJ3_checkIndex_8e157 1 = .ok (.ifCond .lt 8, 3)) (tgt := 9) (by decide) (fun h => absurd h h0) fun _ => ?_
    refine lv_iload_n hx hb (by decide +kernel : decode cJ3_checkIndex_8e157 4 = .ok (.iload_n 0, 1)) rfl (lv_at lv 0 rfl) ?_
    refine lv_iload_n hx hb (by decide +kernel : decode cJ3_checkIndex_8e157 5 = .ok (.iload_n 1, 1)) rfl (lv_at lv 1 rfl) ?_
    refine lv_icmp_lt hx hb (by decide +kernel : decode cJ3_checkIndex_8e157 6 = .ok (.if_icmp .lt 10, 3)) (tgt := 16) (by decide) (fun _ => ?_) (fun h => absurd h1 h)
    refine lv_iload_n hx hb (by decide +kernel : decode cJ3_checkIndex_8e157 16 = .ok (.iload_n 0, 1)) rfl (lv_at lv 0 rfl) ?_
    exact W.iret hx hb B.returns (fun t ht _ => ⟨⟨_, rfl, _, rfl⟩, ht⟩) (fun q hq => absurd hq List.not_mem_nil) (by decide +kernel) B.notSynchronized
  | some f =>
    change W p l e _ s m [Value.int i, .int n, .ref f].toArray below meth c s.heap [] 0 0 _ (entryFrame m [Value.int i, .int n, .ref f].toArray 3)
    have lv := lv_entry [.int i, .int n, .ref f] (n := 3) (Nat.le_refl 3)
    rw [lg_entry_eq]
    generalize (lg_sl [Value.int i, .int n, .ref f] ++ List.replicate (3 - (lg_sl [Value.int i, .int n, .ref f]).length) Slot.unset).toArray = ls at lv ⊢
    refine lv_iload_n hx hb (by decide +kernel : decode cJ3_checkIndex_8e157 0 = .ok (.iload_n 0, 1)) rfl (lv_at lv 0 rfl) ?_
    refine lv_if_lt hx hb (by decide +kernel : decode cJ3_checkIndex_8e157 1 = .ok (.ifCond .lt 8, 3)) (tgt := 9) (by decide) (fun h => absurd h h0) fun _ => ?_
    refine lv_iload_n hx hb (by decide +kernel : decode cJ3_checkIndex_8e157 4 = .ok (.iload_n 0, 1)) rfl (lv_at lv 0 rfl) ?_
    refine lv_iload_n hx hb (by decide +kernel : decode cJ3_checkIndex_8e157 5 = .ok (.iload_n 1, 1)) rfl (lv_at lv 1 rfl) ?_
    refine lv_icmp_lt hx hb (by decide +kernel : decode cJ3_checkIndex_8e157 6 = .ok (.if_icmp .lt 10, 3)) (tgt := 16) (by decide) (fun _ => ?_) (fun h => absurd h1 h)
    refine lv_iload_n hx hb (by decide +kernel : decode cJ3_checkIndex_8e157 16 = .ok (.iload_n 0, 1)) rfl (lv_at lv 0 rfl) ?_
    exact W.iret hx hb B.returns (fun t ht _ => ⟨⟨_, rfl, _, rfl⟩, ht⟩) (fun q hq => absurd hq List.not_mem_nil) (by decide +kernel) B.notSynchronized
theorem s_arg {sz : Nat} {args : Array Value} {s : State} (hts : ∀ w ∈ zW, w.before args s = true) {w : Nat} {cd : Cond} (h : zisw w cd = true) : cd.before args s = true := hts _ (zisw_mem h)
theorem s_check0 {a v sz : Nat} {f : Option Nat} {g : Nat → Int32} {i n : Int32} (h0 : ¬ i < 0) (h1 : i < n) : Met l yJ0_checkIndex_df160 (zws yJ0_checkIndex_df160 cJ0_checkIndex_df160 2 none) { frames := 1, cells := 0, slots := 0, locals := 60 * 1 } (sP a v f g sz [.int i, .int n]) (sQ fun rv => rv = none) 0 0 (zA sz) := by
  refine Met.ofW (cc := cJ0_checkIndex_df160) (maxL := 2) (ret := none) (by decide) rfl ?_
  intro p e s m args below meth c s₁ B hml hv
  obtain ⟨rfl, hS⟩ := hv
  have hx := B.exec
  have hb := B.bytes
  have hown := findClass_of_methodNamed B.named
  have hts : ∀ w ∈ zW, w.before _ s = true := fun w hw => atoms_spec (ws := zws yJ0_checkIndex_df160 cJ0_checkIndex_df160 2 none) B.pre w (List.mem_cons_of_mem _ hw)
  have lv := lv_entry [.int i, .int n] (n := 2) (Nat.le_refl 2)
  rw [lg_entry_eq]
  generalize (lg_sl [Value.int i, .int n] ++ List.replicate (2 - (lg_sl [Value.int i, .int n]).length) Slot.unset).toArray = ls at lv ⊢
  refine lv_iload_n hx hb (by decide +kernel : decode cJ0_checkIndex_df160 0 = .ok (.iload_n 0, 1)) rfl (lv_at lv 0 rfl) ?_
  refine lv_iload_n hx hb (by decide +kernel : decode cJ0_checkIndex_df160 1 = .ok (.iload_n 1, 1)) rfl (lv_at lv 1 rfl) ?_
  refine va_gets hx hb hS.2.1 va_S.rf hown (s_arg (sz := sz) hts (w := 871) (by decide +kernel)) (fun _ h => h) (by decide +kernel : decode cJ0_checkIndex_df160 2 = .ok (.getstatic 1053, 3)) ?_
  refine s_after (va_runS (As := [.int i, .int n, fV f]) ⟨hx, hb, hml, hown, hts⟩ (s_check3 (a := a) (v := v) (f := f) (g := g) h0 h1) ⟨z_callB hts ⟨zisw_mem (w := 875) (by decide +kernel), zisw_mem (w := 274) (by decide +kernel), ⟨by decide, by decide, (by decide +kernel : _ = some 3)⟩, by omega⟩ (zisw_mem (w := 873) (by decide +kernel)) (Nat.le_refl 1) (Nat.le_refl 60), s_arg (sz := sz) hts (w := 874) (by decide +kernel)⟩ (sP_pre hS va_S.rf) rfl rfl lv.1 rfl (lv_room (by decide)) (by decide +kernel : decode cJ0_checkIndex_df160 5 = .ok (.invokestatic 1059, 3)) ⟨Nat.le_refl _, Nat.le_refl _⟩) va_S.rf ?_
  rintro rv locs1 ⟨z, rfl⟩ hV
  refine lv_pop hx hb (by decide +kernel : decode cJ0_checkIndex_df160 8 = .ok (.pop, 1)) rfl ?_
  exact W.vret hx hb B.returns (fun t ht _ => ⟨⟨_, rfl, rfl⟩, ht⟩) (fun q hq => hV.2.2 q hq) (by decide +kernel) B.notSynchronized
theorem s_nar (b : Int32) : narrow .char (.int (((b &&& 255).toUInt32 % 65536).toInt32)) = .int (((b &&& 255).toUInt32 % 65536).toInt32) := by
  obtain ⟨j, hj, e2⟩ := pk_andE b (m := 255) 8 (by decide)
  rw [e2]
  have h : ∀ j : Nat, j < 256 → (((nI j).toUInt32 % 65536).toInt32.toUInt32 % 65536).toInt32 = ((nI j).toUInt32 % 65536).toInt32 := by decide +kernel
  show Value.int _ = Value.int _
  exact congrArg Value.int (h j hj)
def sN : Option Value → Prop := fun rv => ∃ z : Int32, rv = some (.int z) ∧ narrow .char (.int z) = .int z
/-- a sign as it is given: from a byte -/
def sCh (b : Int32) : Int32 := ((b &&& 255).toUInt32 % 65536).toInt32
theorem s_char1 {a v sz : Nat} {f : Option Nat} {g : Nat → Int32} {i : Int32} (h0 : ¬ i < 0) (h1 : i < 176) (hin : vp_in i 176) : Met l yJ1_charAt_3b067 (zws yJ1_charAt_3b067 cJ1_charAt_3b067 2 (some .char)) { frames := 2, cells := 0, slots := 0, locals := 60 * 2 } (sP a v f g sz [.ref v, .int i]) (sQ fun rv => rv = some (.int (sCh (g i.toNatClampNeg)))) 0 0 (zA sz) := by
  refine Met.ofW (cc := cJ1_charAt_3b067) (maxL := 2) (ret := some .char) (by decide) rfl ?_
  intro p e s m args below meth c s₁ B hml hv
  obtain ⟨rfl, hS⟩ := hv
  have hx := B.exec
  have hb := B.bytes
  have hown := findClass_of_methodNamed B.named
  have hts : ∀ w ∈ zW, w.before _ s = true := fun w hw => atoms_spec (ws := zws yJ1_charAt_3b067 cJ1_charAt_3b067 2 (some .char)) B.pre w (List.mem_cons_of_mem _ hw)
  have lv := lv_entry [.ref v, .int i] (n := 2) (Nat.le_refl 2)
  rw [lg_entry_eq]
  generalize (lg_sl [Value.ref v, .int i] ++ List.replicate (2 - (lg_sl [Value.ref v, .int i]).length) Slot.unset).toArray = ls at lv ⊢
  refine lv_iload_n hx hb (by decide +kernel : decode cJ1_charAt_3b067 0 = .ok (.iload_n 1, 1)) rfl (lv_at lv 1 rfl) ?_
  refine lv_aload_n hx hb (by decide +kernel : decode cJ1_charAt_3b067 1 = .ok (.aload_n 0, 1)) rfl (lv_at lv 0 rfl) ?_
  refine va_tlen hx hb hS.2.2.2.2.2 va_S.rf (v := 176) rfl (by decide +kernel : decode cJ1_charAt_3b067 2 = .ok (.arraylength, 1)) ?_
  refine s_after (va_runS (As := [.int i, .int 176]) ⟨hx, hb, hml, hown, hts⟩ (s_check0 (a := a) (v := v) (f := f) (g := g) h0 h1) ⟨z_callB hts ⟨zisw_mem (w := 870) (by decide +kernel), zisw_mem (w := 272) (by decide +kernel), ⟨by decide, by decide, (by decide +kernel : _ = some 2)⟩, by omega⟩ (zisw_mem (w := 868) (by decide +kernel)) (Nat.le_refl 2) (Nat.le_refl 120), s_arg (sz := sz) hts (w := 869) (by decide +kernel)⟩ (sP_pre hS va_S.rf) rfl rfl lv.1 rfl (lv_room (by decide)) (by decide +kernel : decode cJ1_charAt_3b067 3 = .ok (.invokestatic 9, 3)) ⟨Nat.le_refl _, Nat.le_refl _⟩) va_S.rf ?_
  rintro rv locs1 rfl hV
  refine lv_aload_n hx hb (by decide +kernel : decode cJ1_charAt_3b067 6 = .ok (.aload_n 0, 1)) rfl (lv_at lv 0 rfl) ?_
  refine lv_iload_n hx hb (by decide +kernel : decode cJ1_charAt_3b067 7 = .ok (.iload_n 1, 1)) rfl (lv_at lv 1 rfl) ?_
  refine va_tb hx hb hS.2.2.2.2.2 hV hin rfl (by decide +kernel : decode cJ1_charAt_3b067 8 = .ok (.baload, 1)) ?_
  refine lv_sipush hx hb (by decide +kernel : decode cJ1_charAt_3b067 9 = .ok (.sipush 255, 3)) (v := 255) (by decide) ?_
  refine lv_iand hx hb (by decide +kernel : decode cJ1_charAt_3b067 12 = .ok (.iand, 1)) ?_
  refine lv_i2c hx hb (by decide +kernel : decode cJ1_charAt_3b067 13 = .ok (.i2c, 1)) rfl ?_
  exact W.zret hx hb B.returns (s_nar _) (fun t ht _ => ⟨⟨_, rfl, rfl⟩, ht⟩) (fun q hq => hV.2.2 q hq) (by decide +kernel) B.notSynchronized
theorem s_lat {a v sz : Nat} {f : Option Nat} {g : Nat → Int32} : Met l yJ0_isLatin1_aae02 (zws yJ0_isLatin1_aae02 cJ0_isLatin1_aae02 1 (some .boolean)) { frames := 0, cells := 0, slots := 0, locals := 60 * 0 } (sP a v f g sz [.ref a]) (sQ fun rv => rv = some (.int 1)) 0 0 (zA sz) := by
  refine Met.ofW (cc := cJ0_isLatin1_aae02) (maxL := 1) (ret := some .boolean) (by decide) rfl ?_
  intro p e s m args below meth c s₁ B hml hv
  obtain ⟨rfl, hS⟩ := hv
  have hx := B.exec
  have hb := B.bytes
  have hown := findClass_of_methodNamed B.named
  have hts : ∀ w ∈ zW, w.before _ s = true := fun w hw => atoms_spec (ws := zws yJ0_isLatin1_aae02 cJ0_isLatin1_aae02 1 (some .boolean)) B.pre w (List.mem_cons_of_mem _ hw)
  have lv := lv_entry [.ref a] (n := 1) (Nat.le_refl 1)
  rw [lg_entry_eq]
  generalize (lg_sl [Value.ref a] ++ List.replicate (1 - (lg_sl [Value.ref a]).length) Slot.unset).toArray = ls at lv ⊢
  refine va_gets hx hb hS.1 va_S.rf hown (s_arg (sz := sz) hts (w := 863) (by decide +kernel)) (fun _ h => h) (by decide +kernel : decode cJ0_isLatin1_aae02 0 = .ok (.getstatic 38, 3)) ?_
  refine lv_if_eq hx hb (by decide +kernel : decode cJ0_isLatin1_aae02 3 = .ok (.ifCond .eq 14, 3)) (tgt := 17) (by decide) (fun h => absurd h (by decide)) fun _ => ?_
  refine lv_aload_n hx hb (by decide +kernel : decode cJ0_isLatin1_aae02 6 = .ok (.aload_n 0, 1)) rfl (lv_at lv 0 rfl) ?_
  refine vk_getf hx hb hS.2.2.2.1 va_S.rf hown (s_arg (sz := sz) hts (w := 2343) (by decide +kernel)) (fun _ h => h) (by decide +kernel : decode cJ0_isLatin1_aae02 7 = .ok (.getfield 15, 3)) ?_
  refine lv_if_ne hx hb (by decide +kernel : decode cJ0_isLatin1_aae02 10 = .ok (.ifCond .ne 7, 3)) (tgt := 17) (by decide) (fun h => absurd rfl h) fun _ => ?_
  refine lv_iconst hx hb (by decide +kernel : decode cJ0_isLatin1_aae02 13 = .ok (.iconst 1, 1)) (v := 1) (by decide) ?_
  refine lv_goto hx hb (by decide +kernel : decode cJ0_isLatin1_aae02 14 = .ok (.goto 4, 3)) (tgt := 18) (by decide) ?_
  exact W.zret hx hb B.returns rfl (fun t ht _ => ⟨⟨_, rfl, rfl⟩, ht⟩) (fun q hq => absurd hq List.not_mem_nil) (by decide +kernel) B.notSynchronized
theorem s_char {a v sz : Nat} {f : Option Nat} {g : Nat → Int32} {i : Int32} (h0 : ¬ i < 0) (h1 : i < 176) (hin : vp_in i 176) : Met l yJ0_charAt_5068e (zws yJ0_charAt_5068e cJ0_charAt_5068e 2 (some .char)) { frames := 3, cells := 0, slots := 0, locals := 60 * 3 } (sP a v f g sz [.ref a, .int i]) (sQ fun rv => rv = some (.int (sCh (g i.toNatClampNeg)))) 0 0 (zA sz) := by
  refine Met.ofW (cc := cJ0_charAt_5068e) (maxL := 2) (ret := some .char) (by decide) rfl ?_
  intro p e s m args below meth c s₁ B hml hv
  obtain ⟨rfl, hS⟩ := hv
  have hx := B.exec
  have hb := B.bytes
  have hown := findClass_of_methodNamed B.named
  have hts : ∀ w ∈ zW, w.before _ s = true := fun w hw => atoms_spec (ws := zws yJ0_charAt_5068e cJ0_charAt_5068e 2 (some .char)) B.pre w (List.mem_cons_of_mem _ hw)
  have lv := lv_entry [.ref a, .int i] (n := 2) (Nat.le_refl 2)
  rw [lg_entry_eq]
  generalize (lg_sl [Value.ref a, .int i] ++ List.replicate (2 - (lg_sl [Value.ref a, .int i]).length) Slot.unset).toArray = ls at lv ⊢
  refine lv_aload_n hx hb (by decide +kernel : decode cJ0_charAt_5068e 0 = .ok (.aload_n 0, 1)) rfl (lv_at lv 0 rfl) ?_
  obtain ⟨cell, c1, c2, c3, -⟩ := hS.2.2.1
  refine s_after (va_runV (As := []) (C := "java/lang/String") ⟨hx, hb, hml, hown, hts⟩ (s_lat (a := a) (v := v) (f := f) (g := g)) ⟨z_callB hts ⟨zisw_mem (w := 862) (by decide +kernel), zisw_mem (w := 272) (by decide +kernel), ⟨by decide, by decide, (by decide +kernel : _ = some 0)⟩, by omega⟩ (zisw_mem (w := 859) (by decide +kernel)) (by decide : 0 + 1 ≤ 3) (by decide : 60 * (0 + 1) ≤ 180), s_arg (sz := sz) hts (w := 860) (by decide +kernel), s_arg (sz := sz) hts (w := 861) (by decide +kernel)⟩ ⟨(sP_pre hS va_S.rf).1, ⟨cell, c1, c2, c3⟩, (sP_pre hS va_S.rf).2⟩ rfl rfl lv.1 rfl (lv_room (by decide)) (by decide +kernel : decode cJ0_charAt_5068e 1 = .ok (.invokevirtual 492, 3)) ⟨Nat.le_refl _, Nat.le_refl _⟩) va_S.rf ?_
  rintro rv locs1 rfl hV
  refine lv_if_eq hx hb (by decide +kernel : decode cJ0_charAt_5068e 4 = .ok (.ifCond .eq 12, 3)) (tgt := 16) (by decide) (fun h => absurd h (by decide)) fun _ => ?_
  refine lv_aload_n hx hb (by decide +kernel : decode cJ0_charAt_5068e 7 = .ok (.aload_n 0, 1)) rfl (lv_at lv 0 rfl) ?_
  refine vk_getf hx hb hS.2.2.2.2.1 hV hown (s_arg (sz := sz) hts (w := 2344) (by decide +kernel)) (fun _ h => h) (by decide +kernel : decode cJ0_charAt_5068e 8 = .ok (.getfield 9, 3)) ?_
  refine lv_iload_n hx hb (by decide +kernel : decode cJ0_charAt_5068e 11 = .ok (.iload_n 1, 1)) rfl (lv_at lv 1 rfl) ?_
  refine s_after (va_runS (As := [.ref v, .int i]) ⟨hx, hb, hml, hown, hts⟩ (s_char1 (a := a) (v := v) (f := f) (g := g) h0 h1 hin) ⟨z_callB hts ⟨zisw_mem (w := 867) (by decide +kernel), zisw_mem (w := 273) (by decide +kernel), ⟨by decide, by decide, (by decide +kernel : _ = some 2)⟩, by omega⟩ (zisw_mem (w := 865) (by decide +kernel)) (Nat.le_refl 3) (Nat.le_refl 180), s_arg (sz := sz) hts (w := 866) (by decide +kernel)⟩ (sP_pre hS hV) rfl rfl lv.1 rfl (lv_room (by decide)) (by decide +kernel : decode cJ0_charAt_5068e 12 = .ok (.invokestatic 495, 3)) ⟨Nat.le_refl _, Nat.le_refl _⟩) hV ?_
  rintro rv locs2 rfl hV2
  exact W.zret hx hb B.returns (s_nar _) (fun t ht _ => ⟨⟨_, rfl, rfl⟩, ht⟩) (fun q hq => hV2.2.2 q hq) (by decide +kernel) B.notSynchronized
def yWb : List Int32 := [119, 101, 101, 107, 32, 32, 32, 32, 104, 111, 117, 114, 115, 32, 32, 32, 116, 104, 105, 110, 103, 32, 32, 32, 116, 111, 32, 32, 32, 32, 32, 32, 108, 97, 119, 32, 32, 32, 32, 32, 114, 101, 115, 116, 115, 32, 32, 32, 105, 102, 32, 32, 32, 32, 32, 32, 116, 104, 101, 110, 32, 32, 32, 32, 97, 110, 100, 32, 32, 32, 32, 32, 100, 101, 101, 100, 32, 32, 32, 32, 98, 97, 110, 32, 32, 32, 32, 32, 103, 111, 97, 108, 32, 32, 32, 32, 103, 97, 105, 110, 32, 32, 32, 32, 103, 117, 105, 108, 100, 32, 32, 32, 111, 102, 32, 32, 32, 32, 32, 32, 119, 97, 110, 116, 115, 32, 32, 32, 98, 101, 99, 111, 109, 101, 115, 32, 111, 114, 32, 32, 32, 32, 32, 32, 97, 108, 115, 111, 32, 32, 32, 32, 110, 111, 116, 32, 32, 32, 32, 32, 100, 97, 121, 32, 32, 32, 32, 32, 104, 111, 117, 114, 32, 32, 32, 32]
def yWat (sz : Nat) (U : State) : Prop := zNestAt U ∧ ∃ (a v : Nat) (f : Option Nat) (tx : String), yStr a v f (fun j => yWb.getD j 0) (zA sz) U U.heap ∧ vk_R "RestDays$Tokens" 72 tx a U
theorem yWat_call {sz : Nat} {U : State} {gg : JFrame} {mk : MethodId} {a : Array Value} (h : yWat sz U) : yWat sz (U.calling gg mk a) := by
  obtain ⟨h1, q, v, f, tx, h2, h3⟩ := h
  exact ⟨fun q hq => va_Nw.same rfl rfl (h1 q hq), q, v, f, tx, yStr_moved (u := U) (U := U.calling gg mk a) (Vm.Alike.refl U.vm) h2, vk_R.same rfl h3⟩
theorem yWat_pre {sz : Nat} {U : State} (h : yWat sz s) (hV : va_S (zA sz) s.heap H locs) (hU : U.heap = H) (hWm : s.WarmedH U.vm) : yWat sz U := by
  obtain ⟨h1, q, v, f, tx, h2, h3⟩ := h
  refine ⟨fun q hq => va_Nw.warmM hWm (h1 q hq), q, v, f, tx, ?_, h3.warm hWm⟩
  rw [hU]
  exact yStr_moved hWm.alike (yStr_kept h2 hV.2.1)
end yStrS
