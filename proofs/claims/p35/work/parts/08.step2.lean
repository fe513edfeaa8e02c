/-! Instructions that read and write cells. -/
section zSteps2
variable {p : Program} {l : Launch} {e : Env} {R : Room} {s : State} {m : MethodId} {args : Array Value} {below : List Frame} {meth : Method} {c : Code} {Q : State → Prop}
variable {b sz L0 nL nb sb : Nat} {xs : Nat → Int32} {D : va_G} {ca : Nat → ClassId} {cc : ByteArray}
variable {pc : Nat} {L : List (Option zAV)} {S : List zAV} {H : zHp} {n sl : Nat} {r : Bool × zCfg} {hp hp1 : zHp} {i : Nat} {ws : va_W}
theorem z_cell {cl : zAC} (h : zWd b sz xs ca hp n ws) (hg : hget hp i = some cl) : ∃ e, ws[i]? = some (sz + i, e) ∧ zCR b sz xs ca cl e := by
  obtain ⟨h1, h2, h3⟩ := h
  have hi : i < ws.length := by rw [h1]; exact h2 i cl hg
  obtain ⟨g1, c0, g2, g3⟩ := h3 i ws[i] (List.getElem?_eq_getElem hi)
  rw [hg] at g2
  cases g2
  refine ⟨ws[i].2, ?_, g3⟩
  rw [List.getElem?_eq_getElem hi, ← g1]
theorem z_setw {cl : zAC} {e0 e1 : va_E} (h : zWd b sz xs ca hp n ws) (hw : ws[i]? = some (sz + i, e0)) (hs : ∀ j, hget hp1 j = if j = i then some cl else hget hp j) (hc : zCR b sz xs ca cl e1) : zWd b sz xs ca hp1 n (ws.set i (sz + i, e1)) := by
  obtain ⟨h1, h2, h3⟩ := h
  have hi : i < ws.length := (List.getElem?_eq_some_iff.mp hw).1
  refine ⟨by simp [h1], fun j c0 hj => ?_, fun j q hj => ?_⟩
  · rw [hs] at hj
    by_cases e : j = i
    · rw [e, ← h1]; exact hi
    · rw [if_neg e] at hj
      exact h2 j c0 hj
  · by_cases e : j = i
    · subst e
      rw [List.getElem?_set_self hi] at hj
      cases hj
      exact ⟨rfl, cl, by rw [hs, if_pos rfl], hc⟩
    · rw [List.getElem?_set_ne (Ne.symm e)] at hj
      obtain ⟨g1, c0, g2, g3⟩ := h3 j q hj
      exact ⟨g1, c0, by rw [hs, if_neg e]; exact g2, g3⟩
theorem z_pushw {cl : zAC} {e1 : va_E} (h : zWd b sz xs ca hp n ws) (hs : ∀ j, hget hp1 j = if j = n then some cl else hget hp j) (hc : zCR b sz xs ca cl e1) : zWd b sz xs ca hp1 (n + 1) (ws ++ [(sz + n, e1)]) := by
  obtain ⟨h1, h2, h3⟩ := h
  refine ⟨by simp [h1], fun j c0 hj => ?_, fun j q hj => ?_⟩
  · rw [hs] at hj
    by_cases e : j = n
    · omega
    · rw [if_neg e] at hj
      have := h2 j c0 hj
      omega
  · by_cases e : j < ws.length
    · rw [List.getElem?_append_left e] at hj
      obtain ⟨g1, c0, g2, g3⟩ := h3 j q hj
      exact ⟨g1, c0, by rw [hs, if_neg (by omega)]; exact g2, g3⟩
    · rw [List.getElem?_append_right (by omega)] at hj
      have hz : j - ws.length < 1 := (List.getElem?_eq_some_iff.mp hj).1
      have hj0 : j = n := by omega
      rw [show j - ws.length = 0 by omega] at hj
      cases hj
      subst hj0
      exact ⟨rfl, cl, by rw [hs, if_pos rfl], hc⟩
theorem z_obj {ci : Nat} {fs : List (List zAV)} {e : va_E} (h : zCR b sz xs ca (.inl (ci, fs)) e) : ∃ vs, e = .inr (ci, vs) ∧ (∃ r, vwCl[ci]? = some r ∧ vs.length = r.2.2) ∧ ∀ (k : Nat) (v : Value), vs[k]? = some v → ∃ a, fget fs k = some a ∧ zG b sz xs a v := by
  rcases e with ⟨cA, x⟩ | ⟨cj, vs⟩
  · exact h.elim
  · obtain ⟨rfl, h2, h3⟩ := h
    exact ⟨vs, rfl, h2, h3⟩
theorem z_arr {kd len : Nat} {ct : Option Nat} {e : va_E} (h : zCR b sz xs ca (.inr (kd, len, ct)) e) : (kd < 3 ∧ ∃ f : Nat → Int32, e = .inl (ca kd, len, .inl f) ∧ ∀ N, ct = some N → ∀ j, j < len → f j = Int32.ofNat (zdig 32 N j)) ∨ (kd = 3 ∧ ∃ f : Nat → Int64, e = .inl (ca 3, len, .inr (.inl f)) ∧ ∀ N, ct = some N → ∀ j, j < len → f j = Int64.ofNat (zdig 64 N j)) := by
  rcases e with ⟨cA, ln, f | f | f | f | f⟩ | ⟨cj, vs⟩
  · obtain ⟨h1, rfl, rfl, h4⟩ := h
    exact Or.inl ⟨h1, f, rfl, h4⟩
  · obtain ⟨h1, rfl, rfl, h4⟩ := h
    exact Or.inr ⟨h1, f, rfl, h4⟩
  all_goals exact h.elim
theorem z_arr32 {kd len : Nat} {ct : Option Nat} {e : va_E} (h : zCR b sz xs ca (.inr (kd, len, ct)) e) (hk : kd < 3) : ∃ f : Nat → Int32, e = .inl (ca kd, len, .inl f) ∧ ∀ N, ct = some N → ∀ j, j < len → f j = Int32.ofNat (zdig 32 N j) := by
  rcases z_arr h with ⟨-, h⟩ | ⟨h, -⟩
  · exact h
  · omega
theorem z_arr64 {kd len : Nat} {ct : Option Nat} {e : va_E} (h : zCR b sz xs ca (.inr (kd, len, ct)) e) (hk : kd = 3) : ∃ f : Nat → Int64, e = .inl (ca 3, len, .inr (.inl f)) ∧ ∀ N, ct = some N → ∀ j, j < len → f j = Int64.ofNat (zdig 64 N j) := by
  rcases z_arr h with ⟨h, -⟩ | ⟨-, h⟩
  · omega
  · exact h
theorem z_ty (kd : Nat) (h : kd < 4) : (zTys ca)[kd]? = some (ca kd, zty kd) := by
  rcases (show kd = 0 ∨ kd = 1 ∨ kd = 2 ∨ kd = 3 by omega) with rfl | rfl | rfl | rfl <;> rfl
theorem z_nat {x : Int32} (h : x.toUInt32.toNat < 2147483648) : x.toNatClampNeg = x.toUInt32.toNat ∧ ¬ x < 0 := by
  have e1 : x.toUInt32.toNat = x.toBitVec.toNat := rfl
  have e2 : x.toInt = x.toBitVec.toInt := rfl
  have e3 : x.toInt = (x.toUInt32.toNat : Int) := by
    rw [e2, e1, BitVec.toInt_eq_toNat_cond, if_pos (by rw [← e1]; omega)]
  refine ⟨?_, fun q => ?_⟩
  · show x.toInt.toNat = _
    rw [e3]; simp
  · have := Int32.lt_iff_toInt_lt.mp q
    rw [e3] at this
    simp at this
    omega
theorem z_in {x : Int32} {len : Nat} (h : x.toUInt32.toNat < 2147483648) (hl : x.toUInt32.toNat < len) : vp_in x len := by
  obtain ⟨h1, h2⟩ := z_nat h
  rintro (q | q)
  · exact h2 q
  · omega
theorem zs_get {a b0 index : Nat} {own C : String} {T : u_T} {N : Nat} (h : zx_get a b0 pc L S H n sl = some r)
    (hx : p.tables.exec = Jvm.exec) (hb : c.code = cc) (hts : ∀ w ∈ zW, w.before args s = true) (hin : ∀ w ∈ u_ws C T N, w ∈ zW) (hown : s.vm.findClass own = some m.cls) (hK : va_K D vwCl (zTys ca) s)
    (hc : vwCl[a]? = some (C, T, N)) (hk : b0 / 8 < N) (hlink : Cond.fieldLink own index (T (b0 / 8)).1 (T (b0 / 8)).2.1 (T (b0 / 8)).2.2.1 ∈ zW) (hdg : decode cc pc = .ok (.getfield index, 3)) :
    zSt p l e R s m args below meth c Q b sz xs D ca nL nb sb (pc, L, S, H, n, sl) r.2 := by
  unfold zx_get at h
  try unfold zif at h
  split at h
  · rename_i o r0
    split at h
    · rename_i i hi
      split at h
      · rename_i ci fs hg
        split at h
        · rename_i hci
          have hci := Nat.eq_of_beq_eq_true hci
          subst hci
          split at h
          · rename_i v hv
            rw [zgo_some h]
            refine zSt_pure fun Hh ls st locs k q hH hL hS kk => ?_
            obtain ⟨vo, st1, rfl, ho, hS1⟩ := zSR_cons hS
            have e1 := zG_rf ho hi
            subst e1
            obtain ⟨ws, hW, hP, hD, hV⟩ := hH
            obtain ⟨e0, hw, hcr⟩ := z_cell hW hg
            obtain ⟨vs, rfl, ⟨q1, hq1, hlen⟩, hall⟩ := z_obj hcr
            rw [hc] at hq1
            cases hq1
            have hlt : b0 / 8 < vs.length := by rw [hlen]; exact hk
            obtain ⟨av, g1, g2⟩ := hall (b0 / 8) vs[b0 / 8] (List.getElem?_eq_getElem hlt)
            rw [hv] at g1
            cases g1
            exact va_get hx hb hts hin hown hK hP i hw hc (b0 / 8) hk (hts _ hlink) (fun _ z => z) (List.getElem?_eq_getElem hlt) hdg (kk ls _ hL ⟨g2, hS1⟩)
          · cases h
        · cases h
      · cases h
    · cases h
  · cases h
theorem zfit_ok {tc : Nat} {ty : FieldType} {a : zAV} {v : Value} (h : zfit tc a = true) (hg : zG b sz xs a v) (ht : (tc = 0 ∧ ty = .int) ∨ (tc = 1 ∧ ty = .boolean) ∨ (tc = 2 ∧ ((∃ C, ty = .object C) ∨ ∃ t, ty = .array t)) ∨ (tc = 3 ∧ ty = .long)) : narrow ty v = v ∧ fits ty v = true := by
  rcases ht with ⟨rfl, rfl⟩ | ⟨rfl, rfl⟩ | ⟨rfl, ht⟩ | ⟨rfl, rfl⟩
  · obtain ⟨x, rfl⟩ := zG_int hg h
    exact ⟨rfl, rfl⟩
  · simp only [zfit] at h
    split at h
    · rename_i x hx
      have e1 := zG_con hg hx
      subst e1
      have h := Nat.le_of_ble_eq_true h
      have hx2 : x = 0 ∨ x = 1 := by
        rcases (show x.toUInt32.toNat = 0 ∨ x.toUInt32.toNat = 1 by omega) with q | q
        · left; rw [← z_i32 x, q]; rfl
        · right; rw [← z_i32 x, q]; rfl
      rcases hx2 with rfl | rfl <;> exact ⟨by decide, by decide⟩
    · cases h
  · simp only [zfit] at h
    obtain ⟨i, hi⟩ := Option.isSome_iff_exists.mp h
    have e1 := zG_rf hg hi
    subst e1
    rcases ht with ⟨C, rfl⟩ | ⟨t, rfl⟩ <;> exact ⟨rfl, rfl⟩
  · simp only [zfit] at h
    obtain ⟨i, hi⟩ := Option.isSome_iff_exists.mp h
    have e1 := zG_lon hg hi
    subst e1
    exact ⟨rfl, rfl⟩
theorem z_lset {vs : List Value} {k0 : Nat} {v : Value} {x : zAV} {fs f1 : List (List zAV)} (hall : ∀ (k : Nat) (w : Value), vs[k]? = some w → ∃ a, fget fs k = some a ∧ zG b sz xs a w) (hf : ∀ j, fget f1 j = if j = k0 then some x else fget fs j) (hv : zG b sz xs x v) : ∀ (k : Nat) (w : Value), (vs.set k0 v)[k]? = some w → ∃ a, fget f1 k = some a ∧ zG b sz xs a w := by
  intro k w hw
  rw [hf]
  by_cases e : k = k0
  · subst e
    have hl : k < (vs.set k v).length := (List.getElem?_eq_some_iff.mp hw).1
    rw [List.getElem?_set_self (by simpa using hl)] at hw
    cases hw
    exact ⟨x, if_pos rfl, hv⟩
  · rw [List.getElem?_set_ne (Ne.symm e)] at hw
    rw [if_neg e]
    exact hall k w hw
theorem zs_put {a b0 index : Nat} {own C : String} {T : u_T} {N : Nat} {ty0 : Nat → FieldType} {ty : FieldType} (h : zx_put a b0 pc L S H n sl = some r)
    (hx : p.tables.exec = Jvm.exec) (hb : c.code = cc) (hts : ∀ w ∈ zW, w.before args s = true) (hin : ∀ w ∈ u_ws C T N, w ∈ zW) (hty : ∀ k, k < N → parseFieldDescriptor (T k).2.2.1 = some (ty0 k)) (hnm : ∀ a, a < N → ∀ b, b < N → a ≠ b → (T a).2.1 ≠ (T b).2.1) (hown : s.vm.findClass own = some m.cls) (hK : va_K D vwCl (zTys ca) s)
    (hc : vwCl[a]? = some (C, T, N)) (hk : b0 / 8 < N) (hlink : Cond.fieldLink own index (T (b0 / 8)).1 (T (b0 / 8)).2.1 (T (b0 / 8)).2.2.1 ∈ zW)
    (hfin : (T (b0 / 8)).2.2.2 = false ∨ ((T (b0 / 8)).2.2.2 = true ∧ meth.name = "<init>" ∧ (T (b0 / 8)).1 = own)) (hd : parseFieldDescriptor (T (b0 / 8)).2.2.1 = some ty)
    (htc : (b0 / 2 % 4 = 0 ∧ ty = .int) ∨ (b0 / 2 % 4 = 1 ∧ ty = .boolean) ∨ (b0 / 2 % 4 = 2 ∧ ((∃ C, ty = .object C) ∨ ∃ t, ty = .array t)) ∨ (b0 / 2 % 4 = 3 ∧ ty = .long)) (hdg : decode cc pc = .ok (.putfield index, 3)) :
    zSt p l e R s m args below meth c Q b sz xs D ca nL nb sb (pc, L, S, H, n, sl) r.2 := by
  unfold zx_put at h
  try unfold zif at h
  split at h
  · rename_i v o r0
    split at h
    · rename_i i hi
      split at h
      · rename_i ci fs hg
        split at h
        · rename_i hci
          rw [Bool.and_eq_true] at hci
          obtain ⟨hci, hfit⟩ := hci
          have hci := Nat.eq_of_beq_eq_true hci
          subst hci
          obtain ⟨f1, hf1, h⟩ := fset_some h
          obtain ⟨hp1, hh1, h⟩ := hset_some h
          rw [zgo_some h]
          refine ⟨⟨Nat.le_refl _, Nat.le_refl _⟩, fun _ _ _ _ kk Hh ls st locs hH hL hS => ?_⟩
          obtain ⟨vv, st1, rfl, hv, hS1⟩ := zSR_cons hS
          obtain ⟨vo, st2, rfl, ho, hS2⟩ := zSR_cons hS1
          have e1 := zG_rf ho hi
          subst e1
          obtain ⟨ws, hW, hP, hD, hV⟩ := hH
          obtain ⟨e0, hw, hcr⟩ := z_cell hW hg
          obtain ⟨vs, rfl, ⟨q1, hq1, hlen⟩, hall⟩ := z_obj hcr
          rw [hc] at hq1
          cases hq1
          have hlt : b0 / 8 < vs.length := by rw [hlen]; exact hk
          obtain ⟨hn, hft⟩ := zfit_ok hfit hv htc
          have hW1 : zWd b sz xs ca hp1 n (ws.set i (sz + i, .inr (ci, vs.set (b0 / 8) vv))) := z_setw hW hw hh1 ⟨rfl, ⟨_, hc, by simpa using hlen⟩, z_lset hall hf1 hv⟩
          have fin : ∀ (H1 : Heap) (locs1 : List Loc), va_P D vwCl (ws.set i (sz + i, .inr (ci, vs.set (b0 / 8) vv))) H1 → va_D (zA sz) (ws.set i (sz + i, .inr (ci, vs.set (b0 / 8) vv))) → va_S (zA sz) s.heap H1 locs1 → W p l e R s m args below meth c H1 locs1 (n - nb) (sl - sb) Q (F0 m (pc + 3) ls st2) :=
            fun H1 locs1 hP1 hD1 hV1 => kk H1 ls st2 locs1 ⟨_, hW1, hP1, hD1, hV1⟩ hL hS2
          rcases hfin with hfin | ⟨hfin, hnm2, hdecl⟩
          · exact va_put hx hb hts hin ty0 hty hnm hown hK hP hD hV i hw hc (b0 / 8) hk (hts _ hlink) (fun _ z => z) hfin hd hn hft hlt hdg fin
          · exact va_putF hx hb hts hin ty0 hty hnm hown hK hP hD hV i hw hc (b0 / 8) hk (hts _ hlink) (fun _ z => z) hfin hnm2 hdecl hd hn hft hlt hdg fin
        · cases h
      · cases h
    · cases h
  · cases h
/-- what a walk may take of the room's books: how many cells there are at most -/
theorem z_sized {g : JFrame} {Hh : Heap} {locs : List Loc} {k q : Nat} (kk : Hh.size ≤ s.heap.size + k → W p l e R s m args below meth c Hh locs k q Q g) : W p l e R s m args below meth c Hh locs k q Q g := fun T hT X => kk (by rw [← hT]; exact X.same.2.2.1) T hT X
/-- the address of a new cell -/
theorem z_addr {e1 : va_E} {a : Nat} {H1 : Heap} (hW : zWd b sz xs ca hp n ws) (hP : va_P D vwCl (ws ++ [(a, e1)]) H1) (hD : va_D (zA sz) (ws ++ [(a, e1)])) (hz : H1.size ≤ sz + n + 1) : a = sz + n := by
  obtain ⟨h1, -, h3⟩ := hW
  have hn : (ws ++ [(a, e1)])[n]? = some (a, e1) := by rw [List.getElem?_append_right (by omega), h1, Nat.sub_self]; rfl
  have hlo : sz ≤ a := hD.2 n _ hn
  have hhi : a < H1.size := (hP n _ hn).lt
  rcases Nat.lt_or_ge a (sz + n) with q | q
  · exfalso
    have hi : a - sz < ws.length := by omega
    have g := h3 (a - sz) ws[a - sz] (List.getElem?_eq_getElem hi)
    have e2 : (ws ++ [(a, e1)])[a - sz]? = some ws[a - sz] := by rw [List.getElem?_append_left hi]; exact List.getElem?_eq_getElem hi
    have := hD.1 (a - sz) n _ _ e2 hn (by rw [g.1]; show sz + (a - sz) = a; omega)
    omega
  · omega
theorem zs_new {df : List (List (List zAV))} {a b0 index : Nat} {own C : String} {T : u_T} {N : Nat} {ty0 : Nat → FieldType} (h : zx_new df a b0 pc L S H n sl = some r)
    (hx : p.tables.exec = Jvm.exec) (hb : c.code = cc) (hts : ∀ w ∈ zW, w.before args s = true) (hin : ∀ w ∈ u_ws C T N, w ∈ zW) (hty : ∀ k, k < N → parseFieldDescriptor (T k).2.2.1 = some (ty0 k)) (hown : s.vm.findClass own = some m.cls) (hK : va_K D vwCl (zTys ca) s)
    (hs : s.heap.size = sz + nb) (hc : vwCl[a]? = some (C, T, N)) (hN : b0 = N) (hcl : Cond.classLink own index C ∈ zW) (hins : Cond.instantiable C N ∈ zW) (hini : Cond.initialized C ∈ zW)
    (hdf : ∀ fs, zget df a = some fs → ∀ k, k < N → ∃ w, fget fs k = some (.inl w) ∧ w = defaultValue (ty0 k)) (hdg : decode cc pc = .ok (.new index, 3)) :
    zSt p l e R s m args below meth c Q b sz xs D ca nL nb sb (pc, L, S, H, n, sl) r.2 := by
  unfold zx_new at h
  try unfold zif at h
  split at h
  · rename_i fs hfs
    obtain ⟨hp1, hh1, h⟩ := hset_some h
    rw [zst_eq, zst_eq] at h
    rw [zgo_some h]
    refine ⟨⟨Nat.le_succ _, Nat.le_add_right _ _⟩, fun g1 g2 g3 g4 kk Hh ls st locs hH hL hS => ?_⟩
    dsimp only at g1 g2 g3 g4 kk hH hL hS ⊢
    obtain ⟨ws, hW, hP, hD, hV⟩ := hH
    subst hN
    have hA : ∀ q : Nat, s.heap.size ≤ q → zA sz q := fun q hq => by show sz ≤ q; omega
    refine va_new (ci := a) (fs := (List.range b0).map fun k => defaultValue (ty0 k)) hx hb hts hin ty0 hty hown (hts _ hcl) (hts _ hins) (hts _ hini) hK hP hD hV hA hc (fun j hj => by simp [vp_V, hj]) (by omega) (by omega) hdg (fun q H1 hP1 hD1 hV1 => ?_)
    have e1 : n + 1 - nb = n - nb + 1 := by omega
    have e2 : sl + b0 - sb = sl - sb + b0 := by omega
    refine z_sized fun hz => ?_
    have hq := z_addr hW hP1 hD1 (by omega)
    subst hq
    have key := kk H1 ls (.ref (sz + n) :: st) locs ⟨_, z_pushw hW hh1 (e1 := .inr (a, (List.range b0).map fun k => defaultValue (ty0 k))) ⟨rfl, ⟨_, hc, by simp⟩, fun k v hv => ?_⟩, hP1, hD1, hV1⟩ hL ⟨rfl, hS⟩
    · dsimp only at key
      rw [e1, e2] at key
      exact key
    · have hk : k < b0 := by have := (List.getElem?_eq_some_iff.mp hv).1; simpa using this
      rw [List.getElem?_map, List.getElem?_range hk] at hv
      cases hv
      obtain ⟨w, hw1, hw2⟩ := hdf fs hfs k hk
      refine ⟨_, hw1, ?_⟩
      rw [hw2]
      show zG b sz xs (.inl (defaultValue (ty0 k))) (defaultValue (ty0 k))
      generalize ty0 k = t
      cases t <;> rfl
  · cases h
theorem z_tyof {kd : Nat} {cA : ClassId} (hkd : kd < 4) (hK : va_K D vwCl (zTys ca) s) (hK1 : va_K D vwCl (zTys ca ++ [(cA, zty kd)]) s) : cA = ca kd := by
  have h1 := (hK.2 kd _ (z_ty kd hkd)).2
  have h2 := (hK1.2 4 (cA, zty kd) rfl).2
  rcases (show kd = 0 ∨ kd = 1 ∨ kd = 2 ∨ kd = 3 by omega) with rfl | rfl | rfl | rfl <;>
  · have e1 : s.vm.findClass _ = some _ := h1
    have e2 : s.vm.findClass _ = some _ := h2
    exact Option.some.inj (e2.symm.trans e1)
theorem zs_newa {a : Nat} {atype : ArrayType} (h : zx_newa a pc L S H n sl = some r)
    (hx : p.tables.exec = Jvm.exec) (hb : c.code = cc) (hts : ∀ w ∈ zW, w.before args s = true) (hK : va_K D vwCl (zTys ca) s)
    (hs : s.heap.size = sz + nb) (ha4 : a < 4) (hty : newarray.typeOf atype = zty a) (harr : Cond.arrayClass (newarray.typeOf atype) ∈ zW) (hdg : decode cc pc = .ok (.newarray atype, 2)) :
    zSt p l e R s m args below meth c Q b sz xs D ca nL nb sb (pc, L, S, H, n, sl) r.2 := by
  unfold zx_newa at h
  try unfold zif at h
  split at h
  · rename_i x0 r0
    split at h
    · rename_i p0 hp0
      split at h
      · rename_i hlt
        rw [Nat.blt_eq] at hlt
        rw [zst_eq] at h
        obtain ⟨hp1, hh1, h⟩ := hset_some h
        rw [zst_eq, zst_eq] at h
        rw [zgo_some h]
        refine ⟨⟨Nat.le_succ _, Nat.le_add_right _ _⟩, fun g1 g2 g3 g4 kk Hh ls st locs hH hL hS => ?_⟩
        dsimp only at g1 g2 g3 g4 kk hH hL hS ⊢
        obtain ⟨vx, st1, rfl, hvx, hS1⟩ := zSR_cons hS
        have e0 := zG_con hvx hp0
        subst e0
        obtain ⟨ws, hW, hP, hD, hV⟩ := hH
        have hA : ∀ q : Nat, s.heap.size ≤ q → zA sz q := fun q hq => by show sz ≤ q; omega
        obtain ⟨hn1, hn2⟩ := z_nat (x := p0) (by omega)
        have e1 : n + 1 - nb = n - nb + 1 := by omega
        have e2 : sl + p0.toUInt32.toNat - sb = sl - sb + p0.toUInt32.toNat := by omega
        have hbt : p0.toUInt32.toNat * componentBytes (zty a) ≤ 536870912 := by
          have : componentBytes (zty a) ≤ 8 := by
            rcases (show a = 0 ∨ a = 1 ∨ a = 2 ∨ a = 3 by omega) with rfl | rfl | rfl | rfl <;> decide
          calc _ ≤ p0.toUInt32.toNat * 8 := Nat.mul_le_mul_left _ this
            _ ≤ _ := by omega
        rcases Nat.lt_or_ge a 3 with h3 | h3
        · refine va_newa hx hb (hts _ harr) hty hK hP hD hV hA (a0 := (p0.toUInt32.toNat, .inl fun _ => 0)) (fun cA => by rcases (show a = 0 ∨ a = 1 ∨ a = 2 by omega) with rfl | rfl | rfl <;> rfl) hn2 hn1 hbt (by omega) (by omega) hdg (fun q cA H1 hK1 hP1 hD1 hV1 => ?_)
          have hcA := z_tyof ha4 hK hK1
          subst hcA
          refine z_sized fun hz => ?_
          have hq := z_addr hW hP1 hD1 (by omega)
          subst hq
          have key := kk H1 ls (.ref (sz + n) :: st1) locs ⟨_, z_pushw hW hh1 (e1 := .inl (ca a, p0.toUInt32.toNat, .inl fun _ => 0)) ⟨h3, rfl, rfl, fun N hN j hj => by cases hN; rw [zdig_zero]; rfl⟩, hP1, hD1, hV1⟩ hL ⟨rfl, hS1⟩
          dsimp only at key
          rw [e1, e2] at key
          exact key
        · have h3 : a = 3 := by omega
          subst h3
          refine va_newa hx hb (hts _ harr) hty hK hP hD hV hA (a0 := (p0.toUInt32.toNat, .inr (.inl fun _ => 0))) (fun cA => rfl) hn2 hn1 hbt (by omega) (by omega) hdg (fun q cA H1 hK1 hP1 hD1 hV1 => ?_)
          have hcA := z_tyof ha4 hK hK1
          subst hcA
          refine z_sized fun hz => ?_
          have hq := z_addr hW hP1 hD1 (by omega)
          subst hq
          have key := kk H1 ls (.ref (sz + n) :: st1) locs ⟨_, z_pushw hW hh1 (e1 := .inl (ca 3, p0.toUInt32.toNat, .inr (.inl fun _ => 0))) ⟨rfl, rfl, rfl, fun N hN j hj => by cases hN; rw [zdig_zero]; rfl⟩, hP1, hD1, hV1⟩ hL ⟨rfl, hS1⟩
          dsimp only at key
          rw [e1, e2] at key
          exact key
      · cases h
    · cases h
  · cases h
theorem zs_alen {P : zPar} (h : zx_alen P pc L S H n sl = some r)
    (hx : p.tables.exec = Jvm.exec) (hb : c.code = cc) (hK : va_K D vwCl (zTys ca) s) (hX : va_X b (zlen P) xs s s.heap) (hbz : b < sz) (hs : s.heap.size = sz + nb) (hdg : decode cc pc = .ok (.arraylength, 1)) :
    zSt p l e R s m args below meth c Q b sz xs D ca nL nb sb (pc, L, S, H, n, sl) r.2 := by
  unfold zx_alen at h
  try unfold zif at h
  split at h
  · rename_i o r0
    split at h
    · rename_i i hi
      split at h
      · rename_i kd len ct hg
        rw [zint_eq] at h
        rw [zgo_some h]
        refine zSt_pure fun Hh ls st locs k q hH hL hS kk => ?_
        obtain ⟨vo, st1, rfl, ho, hS1⟩ := zSR_cons hS
        have e1 := zG_rf ho hi
        subst e1
        obtain ⟨ws, hW, hP, hD, hV⟩ := hH
        obtain ⟨e0, hw, hcr⟩ := z_cell hW hg
        rcases z_arr hcr with ⟨h3, f, rfl, -⟩ | ⟨h3, f, rfl, -⟩
        · exact va_alen hx hb hK hP i kd hw (z_ty kd (by omega)) rfl hdg (kk ls _ hL ⟨rfl, hS1⟩)
        · exact va_alen hx hb hK hP i 3 hw (z_ty 3 (by omega)) rfl hdg (kk ls _ hL ⟨rfl, hS1⟩)
      · cases h
    · split at h
      · rename_i hsc
        rw [Bool.and_eq_true] at hsc
        rw [zint_eq] at h
        rw [zgo_some h]
        refine zSt_pure fun Hh ls st locs k q hH hL hS kk => ?_
        obtain ⟨vo, st1, rfl, ho, hS1⟩ := zSR_cons hS
        have e1 := zG_scr ho hsc.1
        subst e1
        obtain ⟨ws, hW, hP, hD, hV⟩ := hH
        exact va_slen hx hb hX (by omega) (Nat.not_le.mpr hbz) hV hdg (kk ls _ hL ⟨rfl, hS1⟩)
      · cases h
  · cases h
theorem zs_ald {P : zPar} {isB : Bool} (h : zx_ald P isB pc L S H n sl = some r)
    (hx : p.tables.exec = Jvm.exec) (hb : c.code = cc) (hK : va_K D vwCl (zTys ca) s) (hX : va_X b (zlen P) xs s s.heap) (hbz : b < sz) (hs : s.heap.size = sz + nb)
    (hbd : ∀ (j : Nat) (lo hi : Int), zget P.2.1 j = some (lo, hi) → lo ≤ (xs j).toInt ∧ (xs j).toInt ≤ hi) (hdg : decode cc pc = .ok (if isB then .baload else .iaload, 1)) :
    zSt p l e R s m args below meth c Q b sz xs D ca nL nb sb (pc, L, S, H, n, sl) r.2 := by
  unfold zx_ald at h
  try unfold zif at h
  split at h
  · rename_i x0 o r0
    split at h
    · rename_i j hj
      split at h
      · rename_i i hi
        split at h
        · rename_i kd len ct hg
          split at h
          · rename_i hcond
            simp only [Bool.and_eq_true, Nat.blt_eq] at hcond
            obtain ⟨⟨h1, h2⟩, h3⟩ := hcond
            have hkd : kd < 3 := by
              cases isB
              · have := Nat.eq_of_beq_eq_true h3; omega
              · have : kd < 2 := by simpa [zkb, Nat.blt_eq] using h3
                omega
            have row : ∀ (Hh : Heap) (ls : Array Slot) (st : List Value) (locs : List Loc) (k q : Nat) (ws : va_W) (f : Nat → Int32), va_P D vwCl ws Hh → ws[i]? = some (sz + i, .inl (ca kd, len, .inl f)) → W p l e R s m args below meth c Hh locs k q Q (F0 m (pc + 1) ls (.int (f j.toUInt32.toNat) :: st)) → W p l e R s m args below meth c Hh locs k q Q (F0 m pc ls (.int j :: .ref (sz + i) :: st)) := by
              intro Hh ls st locs k q ws f hP hw kk
              rw [← (z_nat h2).1] at kk
              cases isB
              · have hk2 : kd = 2 := Nat.eq_of_beq_eq_true h3
                subst hk2
                exact va_iald hx hb hK hP i 2 hw (z_ty 2 (by omega)) (z_in h2 h1) hdg kk
              · have hk2 : kd < 2 := by simpa [zkb, Nat.blt_eq] using h3
                rcases (show kd = 0 ∨ kd = 1 by omega) with rfl | rfl
                · exact va_bald hx hb hK hP i 0 hw (z_ty 0 (by omega)) (z_in h2 h1) hdg kk
                · exact va_zald hx hb hK hP i 1 hw (z_ty 1 (by omega)) (z_in h2 h1) hdg kk
            split at h
            · rename_i N
              rw [zst_eq] at h
              rw [zgo_some h]
              refine zSt_pure fun Hh ls st locs k q hH hL hS kk => ?_
              obtain ⟨vx, st1, rfl, hvx, hS1⟩ := zSR_cons hS
              obtain ⟨vo, st2, rfl, ho, hS2⟩ := zSR_cons hS1
              have e0 := zG_con hvx hj
              have e1 := zG_rf ho hi
              subst e0; subst e1
              obtain ⟨ws, hW, hP, hD, hV⟩ := hH
              obtain ⟨e0, hw, hcr⟩ := z_cell hW hg
              obtain ⟨f, rfl, hf⟩ := z_arr32 hcr hkd
              exact row Hh ls st2 locs k q ws f hP hw (kk ls _ hL ⟨by rw [hf N rfl _ h1]; rfl, hS2⟩)
            · rw [zgo_some h]
              refine zSt_pure fun Hh ls st locs k q hH hL hS kk => ?_
              obtain ⟨vx, st1, rfl, hvx, hS1⟩ := zSR_cons hS
              obtain ⟨vo, st2, rfl, ho, hS2⟩ := zSR_cons hS1
              have e0 := zG_con hvx hj
              have e1 := zG_rf ho hi
              subst e0; subst e1
              obtain ⟨ws, hW, hP, hD, hV⟩ := hH
              obtain ⟨e0, hw, hcr⟩ := z_cell hW hg
              obtain ⟨f, rfl, hf⟩ := z_arr32 hcr hkd
              exact row Hh ls st2 locs k q ws f hP hw (kk ls _ hL ⟨zG_top _, hS2⟩)
          · cases h
        · cases h
      · split at h
        · rename_i hcond
          simp only [Bool.and_eq_true, Nat.blt_eq, Bool.not_eq_true'] at hcond
          obtain ⟨⟨⟨hsc, h1⟩, h2⟩, h3⟩ := hcond
          subst h3
          have row : ∀ (Hh : Heap) (ls : Array Slot) (st : List Value) (locs : List Loc) (k q : Nat), va_S (zA sz) s.heap Hh locs → W p l e R s m args below meth c Hh locs k q Q (F0 m (pc + 1) ls (.int (xs j.toUInt32.toNat) :: st)) → W p l e R s m args below meth c Hh locs k q Q (F0 m pc ls (.int j :: .ref b :: st)) := by
            intro Hh ls st locs k q hV kk
            rw [← (z_nat h2).1] at kk
            exact va_sld hx hb hX (by omega) (Nat.not_le.mpr hbz) hV (z_in h2 h1) hdg kk
          split at h
          · rename_i lo hi hg
            obtain ⟨b1, b2⟩ := hbd _ _ _ hg
            split at h
            · rename_i heq
              subst heq
              rw [zint_eq] at h
              rw [zgo_some h]
              refine zSt_pure fun Hh ls st locs k q hH hL hS kk => ?_
              obtain ⟨vx, st1, rfl, hvx, hS1⟩ := zSR_cons hS
              obtain ⟨vo, st2, rfl, ho, hS2⟩ := zSR_cons hS1
              have e0 := zG_con hvx hj
              have e1 := zG_scr ho hsc
              subst e0; subst e1
              obtain ⟨ws, hW, hP, hD, hV⟩ := hH
              refine row Hh ls st2 locs k q hV (kk ls _ hL ⟨?_, hS2⟩)
              have : (xs j.toUInt32.toNat).toInt = lo := by omega
              rw [← this, Int32.ofInt_toInt]
              rfl
            · rw [zst_eq] at h
              rw [zgo_some h]
              refine zSt_pure fun Hh ls st locs k q hH hL hS kk => ?_
              obtain ⟨vx, st1, rfl, hvx, hS1⟩ := zSR_cons hS
              obtain ⟨vo, st2, rfl, ho, hS2⟩ := zSR_cons hS1
              have e0 := zG_con hvx hj
              have e1 := zG_scr ho hsc
              subst e0; subst e1
              obtain ⟨ws, hW, hP, hD, hV⟩ := hH
              exact row Hh ls st2 locs k q hV (kk ls _ hL ⟨⟨_, rfl, b1, b2, Or.inr rfl⟩, hS2⟩)
          · cases h
        · cases h
    · cases h
  · cases h
theorem zs_lald (h : zx_lald pc L S H n sl = some r)
    (hx : p.tables.exec = Jvm.exec) (hb : c.code = cc) (hK : va_K D vwCl (zTys ca) s) (hdg : decode cc pc = .ok (.laload, 1)) :
    zSt p l e R s m args below meth c Q b sz xs D ca nL nb sb (pc, L, S, H, n, sl) r.2 := by
  unfold zx_lald at h
  try unfold zif at h
  split at h
  · rename_i x0 o r0
    split at h
    · rename_i j hj
      split at h
      · rename_i i hi
        split at h
        · rename_i kd len N hg
          split at h
          · rename_i hcond
            simp only [Bool.and_eq_true, Nat.blt_eq] at hcond
            obtain ⟨⟨h1, h2⟩, h3⟩ := hcond
            have h3 := Nat.eq_of_beq_eq_true h3
            rw [zst_eq] at h
            rw [zgo_some h]
            refine zSt_pure fun Hh ls st locs k q hH hL hS kk => ?_
            obtain ⟨vx, st1, rfl, hvx, hS1⟩ := zSR_cons hS
            obtain ⟨vo, st2, rfl, ho, hS2⟩ := zSR_cons hS1
            have e0 := zG_con hvx hj
            have e1 := zG_rf ho hi
            subst e0; subst e1
            obtain ⟨ws, hW, hP, hD, hV⟩ := hH
            obtain ⟨e0, hw, hcr⟩ := z_cell hW hg
            obtain ⟨f, rfl, hf⟩ := z_arr64 hcr h3
            have kk2 := kk ls (.long (f j.toUInt32.toNat) :: st2) hL ⟨by rw [hf N rfl _ h1]; rfl, hS2⟩
            rw [← (z_nat h2).1] at kk2
            exact va_lald hx hb hK hP i 3 hw (z_ty 3 (by omega)) (z_in h2 h1) hdg kk2
          · cases h
        · cases h
      · cases h
    · cases h
  · cases h
theorem z_nar (kd : Nat) (h : kd < 3) (x : Int32) : vp_nar (zty kd) x = znar kd x := by
  rcases (show kd = 0 ∨ kd = 1 ∨ kd = 2 by omega) with rfl | rfl | rfl <;> rfl
theorem zs_ast {isB : Bool} (h : zx_ast isB pc L S H n sl = some r)
    (hx : p.tables.exec = Jvm.exec) (hb : c.code = cc) (hK : va_K D vwCl (zTys ca) s) (hdg : decode cc pc = .ok (if isB then .bastore else .iastore, 1)) :
    zSt p l e R s m args below meth c Q b sz xs D ca nL nb sb (pc, L, S, H, n, sl) r.2 := by
  unfold zx_ast at h
  try unfold zif at h
  split at h
  · rename_i v0 x0 o r0
    split at h
    · rename_i j hj
      split at h
      · rename_i i hi
        split at h
        · rename_i kd len ct hg
          split at h
          · rename_i hcond
            simp only [Bool.and_eq_true, Nat.blt_eq] at hcond
            obtain ⟨⟨⟨h1, h2⟩, h3⟩, hvi⟩ := hcond
            have hkd : kd < 3 := by
              cases isB
              · have := Nat.eq_of_beq_eq_true h3; omega
              · have : kd < 2 := by simpa [zkb, Nat.blt_eq] using h3
                omega
            have row : ∀ (Hh : Heap) (ls : Array Slot) (st : List Value) (locs : List Loc) (k q : Nat) (ws : va_W) (f : Nat → Int32) (y : Int32), va_P D vwCl ws Hh → va_D (zA sz) ws → va_S (zA sz) s.heap Hh locs → ws[i]? = some (sz + i, .inl (ca kd, len, .inl f)) → (∀ (H1 : Heap) (locs1 : List Loc), va_P D vwCl (ws.set i (sz + i, .inl (ca kd, len, .inl (upd f j.toUInt32.toNat (znar kd y))))) H1 → va_D (zA sz) (ws.set i (sz + i, .inl (ca kd, len, .inl (upd f j.toUInt32.toNat (znar kd y))))) → va_S (zA sz) s.heap H1 locs1 → W p l e R s m args below meth c H1 locs1 k q Q (F0 m (pc + 1) ls st)) → W p l e R s m args below meth c Hh locs k q Q (F0 m pc ls (.int y :: .int j :: .ref (sz + i) :: st)) := by
              intro Hh ls st locs k q ws f y hP hD hV hw kk
              rw [← (z_nat h2).1, ← z_nar kd hkd] at kk
              cases isB
              · have hk2 : kd = 2 := Nat.eq_of_beq_eq_true h3
                subst hk2
                exact va_iast hx hb hK hP hD hV i 2 hw (z_ty 2 (by omega)) (z_in h2 h1) hdg kk
              · have hk2 : kd < 2 := by simpa [zkb, Nat.blt_eq] using h3
                rcases (show kd = 0 ∨ kd = 1 by omega) with rfl | rfl
                · exact va_bast hx hb hK hP hD hV i 0 hw (z_ty 0 (by omega)) (z_in h2 h1) hdg kk
                · exact va_zast hx hb hK hP hD hV i 1 hw (z_ty 1 (by omega)) (z_in h2 h1) hdg kk
            have gone : ∀ (hp1 : zHp) (ct1 : Option Nat), (∀ q, hget hp1 q = if q = i then some (.inr (kd, len, ct1)) else hget H q) → (∀ N1, ct1 = some N1 → ∃ N y, ct = some N ∧ zcon v0 = some y ∧ N1 = zdup 32 N j.toUInt32.toNat (znar kd y).toUInt32.toNat) → zSt p l e R s m args below meth c Q b sz xs D ca nL nb sb (pc, L, v0 :: x0 :: o :: r0, H, n, sl) (pc + 1, L, r0, hp1, n, sl) := by
              intro hp1 ct1 hh1 hct
              refine ⟨⟨Nat.le_refl _, Nat.le_refl _⟩, fun _ _ _ _ kk Hh ls st locs hH hL hS => ?_⟩
              dsimp only at kk hH hL hS ⊢
              obtain ⟨vv, st0, rfl, hvv, hS0⟩ := zSR_cons hS
              obtain ⟨vx, st1, rfl, hvx, hS1⟩ := zSR_cons hS0
              obtain ⟨vo, st2, rfl, ho, hS2⟩ := zSR_cons hS1
              have e0 := zG_con hvx hj
              have e1 := zG_rf ho hi
              subst e0; subst e1
              obtain ⟨y, rfl⟩ := zG_int hvv hvi
              obtain ⟨ws, hW, hP, hD, hV⟩ := hH
              obtain ⟨e0, hw, hcr⟩ := z_cell hW hg
              obtain ⟨f, rfl, hf⟩ := z_arr32 hcr hkd
              refine row Hh ls st2 locs _ _ ws f y hP hD hV hw fun H1 locs1 hP1 hD1 hV1 => ?_
              refine kk H1 ls st2 locs1 ⟨_, z_setw (e1 := .inl (ca kd, len, .inl (upd f j.toUInt32.toNat (znar kd y)))) hW hw hh1 ⟨hkd, rfl, rfl, fun N1 hN1 q hq => ?_⟩, hP1, hD1, hV1⟩ hL hS2
              obtain ⟨N, y2, hN, hy2, rfl⟩ := hct N1 hN1
              have e2 := zG_con hvv hy2
              cases e2
              rw [zdig_dup (by exact (znar kd y).toUInt32.toBitVec.isLt)]
              by_cases hqj : q = j.toUInt32.toNat
              · subst hqj
                rw [if_pos rfl, z_i32]
                simp [upd]
              · rw [if_neg hqj, ← hf N hN q hq]
                simp [upd, hqj]
            split at h
            · rename_i N
              split at h
              · rename_i y hy
                rw [zst_eq] at h
                obtain ⟨hp1, hh1, h⟩ := hset_some h
                rw [zgo_some h]
                exact gone hp1 _ hh1 fun N1 hN1 => ⟨N, y, rfl, hy, (Option.some.inj hN1).symm⟩
              · obtain ⟨hp1, hh1, h⟩ := hset_some h
                rw [zgo_some h]
                exact gone hp1 none hh1 fun N1 hN1 => by cases hN1
            · rw [zgo_some h]
              exact gone H none (fun q => by
                by_cases e : q = i
                · rw [if_pos e, e]; exact hg
                · rw [if_neg e]) fun N1 hN1 => by cases hN1
          · cases h
        · cases h
      · cases h
    · cases h
  · cases h
theorem zs_last (h : zx_last pc L S H n sl = some r)
    (hx : p.tables.exec = Jvm.exec) (hb : c.code = cc) (hK : va_K D vwCl (zTys ca) s) (hdg : decode cc pc = .ok (.lastore, 1)) :
    zSt p l e R s m args below meth c Q b sz xs D ca nL nb sb (pc, L, S, H, n, sl) r.2 := by
  unfold zx_last at h
  try unfold zif at h
  split at h
  · rename_i v0 x0 o r0
    split at h
    · rename_i j hj
      split at h
      · rename_i i hi
        split at h
        · rename_i kd len N hg
          split at h
          · rename_i y hy
            split at h
            · rename_i hcond
              simp only [Bool.and_eq_true, Nat.blt_eq] at hcond
              obtain ⟨⟨h1, h2⟩, h3⟩ := hcond
              have h3 := Nat.eq_of_beq_eq_true h3
              rw [zst_eq] at h
              obtain ⟨hp1, hh1, h⟩ := hset_some h
              rw [zgo_some h]
              refine ⟨⟨Nat.le_refl _, Nat.le_refl _⟩, fun _ _ _ _ kk Hh ls st locs hH hL hS => ?_⟩
              dsimp only at kk hH hL hS ⊢
              obtain ⟨vv, st0, rfl, hvv, hS0⟩ := zSR_cons hS
              obtain ⟨vx, st1, rfl, hvx, hS1⟩ := zSR_cons hS0
              obtain ⟨vo, st2, rfl, ho, hS2⟩ := zSR_cons hS1
              have e0 := zG_con hvx hj
              have e1 := zG_rf ho hi
              have e2 := zG_lon hvv hy
              subst e0; subst e1; subst e2
              obtain ⟨ws, hW, hP, hD, hV⟩ := hH
              obtain ⟨e0, hw, hcr⟩ := z_cell hW hg
              obtain ⟨f, rfl, hf⟩ := z_arr64 hcr h3
              refine va_last hx hb hK hP hD hV i 3 hw (z_ty 3 (by omega)) (z_in h2 h1) hdg fun H1 locs1 hP1 hD1 hV1 => ?_
              refine kk H1 ls st2 locs1 ⟨_, z_setw (e1 := .inl (ca 3, len, .inr (.inl (vp_updL f j.toNatClampNeg y)))) hW hw hh1 ⟨h3, rfl, rfl, fun N1 hN1 q hq => ?_⟩, hP1, hD1, hV1⟩ hL hS2
              cases hN1
              rw [(z_nat h2).1, zdig_dup (by exact y.toUInt64.toBitVec.isLt)]
              by_cases hqj : q = j.toUInt32.toNat
              · subst hqj
                rw [if_pos rfl, z_i64]
                simp [vp_updL]
              · rw [if_neg hqj, ← hf N rfl q hq]
                simp [vp_updL, hqj]
            · cases h
          · cases h
        · cases h
      · cases h
    · cases h
  · cases h
theorem zs_copy {index : Nat} {own : String} (h : zx_copy pc L S H n sl = some r)
    (hx : p.tables.exec = Jvm.exec) (hb : c.code = cc) (hml : c.maxLocals = nL) (hts : ∀ w ∈ zW, w.before args s = true) (hown : s.vm.findClass own = some m.cls) (hK : va_K D vwCl (zTys ca) s)
    (hlink : Cond.methodLink own index arraycopyName ∈ zW) (hnat : Cond.native arraycopyName ∈ zW) (hstat : Cond.static arraycopyName ∈ zW) (hini : Cond.initialized "java/lang/System" ∈ zW)
    (hfr : 1 ≤ R.frames) (hlo : 60 ≤ R.locals) (hdg : decode cc pc = .ok (.invokestatic index, 3)) :
    zSt p l e R s m args below meth c Q b sz xs D ca nL nb sb (pc, L, S, H, n, sl) r.2 := by
  unfold zx_copy at h
  try unfold zif at h
  split at h
  · rename_i k0 d0 o1 s0 o0 r0
    split at h
    · rename_i k1 d1 s1 hk hd hs0
      split at h
      · rename_i i0 i1 hi0 hi1
        split at h
        · rename_i l0 N l1 M hg0 hg1
          split at h
          · rename_i hcond
            simp only [Bool.and_eq_true, Nat.blt_eq] at hcond
            obtain ⟨⟨⟨⟨⟨c1, c2⟩, c3⟩, c4⟩, c5⟩, c6⟩ := hcond
            have c4 := Nat.le_of_ble_eq_true c4
            have c5 := Nat.le_of_ble_eq_true c5
            have c6 := Nat.le_of_ble_eq_true c6
            rw [zst_eq] at h
            obtain ⟨hp1, hh1, h⟩ := hset_some h
            rw [zgo_some h]
            refine ⟨⟨Nat.le_refl _, Nat.le_refl _⟩, fun _ _ _ _ kk Hh ls st locs hH hL hS => ?_⟩
            dsimp only at kk hH hL hS ⊢
            obtain ⟨v1, st1, rfl, w1, hS1⟩ := zSR_cons hS
            obtain ⟨v2, st2, rfl, w2, hS2⟩ := zSR_cons hS1
            obtain ⟨v3, st3, rfl, w3, hS3⟩ := zSR_cons hS2
            obtain ⟨v4, st4, rfl, w4, hS4⟩ := zSR_cons hS3
            obtain ⟨v5, st5, rfl, w5, hS5⟩ := zSR_cons hS4
            have e1 := zG_con w1 hk
            have e2 := zG_con w2 hd
            have e3 := zG_rf w3 hi1
            have e4 := zG_con w4 hs0
            have e5 := zG_rf w5 hi0
            subst e1; subst e2; subst e3; subst e4; subst e5
            obtain ⟨ws, hW, hP, hD, hV⟩ := hH
            obtain ⟨a0, hw0, hcr0⟩ := z_cell hW hg0
            obtain ⟨f, rfl, hf⟩ := z_arr32 hcr0 (by omega)
            obtain ⟨a1, hw1, hcr1⟩ := z_cell hW hg1
            obtain ⟨g, rfl, hgg⟩ := z_arr32 hcr1 (by omega)
            have n1 := z_nat c1
            have n2 := z_nat c2
            have n3 := z_nat c3
            have hlsz : ls.size = nL := hL.2.choose_spec.1.1
            have hnf : nativeFrameWords "java/lang/System" "arraycopy" 5 + 11 ≤ 50 := by decide +kernel
            refine va_copyi hx hb (hml.trans hlsz.symm) hown (hts _ hlink) (hts _ hnat) (hts _ hstat) (hts _ hini) hK hP hD hV i0 i1 2 2 hw0 hw1 (z_ty 2 (by omega)) (z_ty 2 (by omega)) (by rfl) n3.2 n2.2 n1.2 (by rw [n3.1, n1.1]; exact c4) (by rw [n2.1, n1.1]; exact c5) (fun i hi => rfl) hfr (by rw [zSR_sum hS5]; omega) hdg fun H1 locs1 hP1 hD1 hV1 => ?_
            refine kk H1 ls st5 locs1 ⟨_, z_setw (e1 := .inl (ca 2, l1, .inl (va_cpy f g s1.toNatClampNeg d1.toNatClampNeg k1.toNatClampNeg))) hW hw1 hh1 ⟨by omega, rfl, rfl, fun N1 hN1 q hq => ?_⟩, hP1, hD1, hV1⟩ hL hS5
            cases hN1
            rw [zdig_cpy, n3.1, n2.1, n1.1]
            unfold va_cpy
            by_cases hqq : d1.toUInt32.toNat ≤ q ∧ q < d1.toUInt32.toNat + k1.toUInt32.toNat
            · rw [if_pos hqq, if_pos hqq]
              exact hf N rfl _ (by omega)
            · rw [if_neg hqq, if_neg hqq]
              exact hgg M rfl _ hq
          · cases h
        · cases h
      · cases h
    · cases h
  · cases h
end zSteps2
