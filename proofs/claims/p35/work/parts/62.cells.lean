/-! The third machine's cells and calls. -/
section xCells
variable {p : Program} {l : Launch} {e : Env} {R : Room} {s : State} {m : MethodId} {args : Array Value} {below : List Frame} {meth : Method} {c : Code} {Q : State → Prop}
variable {b sz nL K0 S0 : Nat} {sr : List Nat} {tt : List yKd} {D : va_G} {ca : Nat → ClassId} {ws : va_W} {cc : ByteArray}
variable {pc : Nat} {L : List (Option xV)} {S : List xV} {C : xC} {E : Type} {k : xCf → Option E} {r : E} {H : Heap} {locs : List Loc} {ls : Array Slot} {stk : List Value}
theorem xst_same (C : xC) (i j : Nat) (z : Int) : xst C i j z i j = z := by unfold xst; rw [Nat.beq_refl, Nat.beq_refl]; rfl
theorem xst_ne (C : xC) {i j i' j' : Nat} (z : Int) (h : i' ≠ i ∨ j' ≠ j) : xst C i j z i' j' = C i' j' := by
  unfold xst
  cases h1 : Nat.beq i' i with
  | false => rfl
  | true =>
    cases h2 : Nat.beq j' j with
    | false => rfl
    | true =>
      have e1 := Nat.eq_of_beq_eq_true h1
      have e2 := Nat.eq_of_beq_eq_true h2
      omega
theorem xCt_set {i j x0 : Nat} {z : Int} {w : Value} {e0 e1 : va_E} (hc : xCt sz C ws) (hw0 : ws[i]? = some (x0, e0)) (h1 : ∀ j', j' ≠ j → yct e1 j' = yct e0 j') (h2 : yct e1 j = some w) (hv : xCv sz z w) : xCt sz (xst C i j z) (ws.set i (x0, e1)) := by
  have hil : i < ws.length := (List.getElem?_eq_some_iff.mp hw0).1
  intro i' j' cl w' g1 g2
  by_cases hi : i' = i
  · subst hi
    rw [List.getElem?_set_self hil] at g1
    cases g1
    by_cases hj : j' = j
    · subst hj
      rw [h2] at g2
      cases g2
      rw [xst_same]
      exact hv
    · rw [xst_ne C z (Or.inr hj)]
      exact hc i' j' _ w' hw0 (by rw [← h1 j' hj]; exact g2)
  · rw [List.getElem?_set_ne (Ne.symm hi)] at g1
    rw [xst_ne C z (Or.inl hi)]
    exact hc i' j' cl w' g1 g2
/-- a field's value, as its rule has it -/
def xfv (ru : yRu) (z : Int) : xV := match ru with
  | .inl _ => .inl z
  | .inr (.inl _) => .inr (.inl z)
  | .inr (.inr t) => .inr (.inr (.inl (z.toNat, t)))
theorem xfv_ok {ru : yRu} {z : Int} {w : Value} (h : yRuOk sz sr ru w) (hc : xCv sz z w) : xRv b sz sr (xfv ru z) w := by
  rcases ru with q | q | t
  · obtain ⟨x, rfl, -⟩ := h
    exact ⟨x, rfl, hc.symm⟩
  · obtain ⟨x, rfl⟩ := h
    exact ⟨x, rfl, hc.symm⟩
  · obtain ⟨i, rfl, hi⟩ := h
    have hc : ∃ k : Nat, sz + i = sz + k ∧ z = (k : Int) := hc
    obtain ⟨k1, e1, e2⟩ := hc
    have e3 : z.toNat = i := by omega
    refine ⟨by rw [e3], by rw [e3]; exact hi⟩
theorem xs_get_ok {P : xPar} {a b0 index : Nat} {own C0 : String} {T : u_T} {N : Nat} (h : xs_get P a b0 pc L S C k = some r) (hPt : P.1 = tt)
    (hx : p.tables.exec = Jvm.exec) (hb : c.code = cc) (hts : ∀ w ∈ zW, w.before args s = true) (hin : ∀ w ∈ u_ws C0 T N, w ∈ zW) (hown : s.vm.findClass own = some m.cls) (hK : va_K D vwCl (zTys ca) s)
    (hc : vwCl[a]? = some (C0, T, N)) (hkN : b0 / 8 < N) (hlink : Cond.fieldLink own index (T (b0 / 8)).1 (T (b0 / 8)).2.1 (T (b0 / 8)).2.2.1 ∈ zW) (hdg : decode cc pc = .ok (.getfield index, 3)) : xGo p l e R s m args below meth c Q b sz sr tt D ca nL K0 S0 k r (pc, L, S, C) := by
  subst hPt
  unfold xs_get at h
  split at h
  · rename_i i t r0
    split at h
    · rename_i q0 ci rs ht
      split at h
      · rename_i hci
        have hci := Nat.eq_of_beq_eq_true hci
        subst hci
        have main : ∀ ru : yRu, zget rs (b0 / 8) = some ru → k (pc + 3, L, xfv ru (C i (b0 / 8)) :: r0, C) = some r → xGo p l e R s m args below meth c Q b sz sr P.1 D ca nL K0 S0 k r (pc, L, .inr (.inr (.inl (i, t))) :: r0, C) := by
          intro ru hru h
          rw [zget_eq] at hru
          refine ⟨_, h, fun hcf H ls stk locs hH hL hS => ?_⟩
          obtain ⟨w1, s1, rfl, hw1, hS1⟩ := xSR_cons hS
          obtain ⟨rfl, hsr⟩ := hw1
          obtain ⟨ws, hW, hP, hD, hV, hCt⟩ := id hH
          obtain ⟨e0, hw, hty⟩ := y_cell hW hsr ht
          obtain ⟨vs, rfl, hlen, ⟨q1, hq1, hlen2⟩, hall⟩ := hty
          rw [hc] at hq1
          cases hq1
          have hlt : b0 / 8 < vs.length := by rw [hlen2]; exact hkN
          have hwv := hall (b0 / 8) ru _ hru (List.getElem?_eq_getElem hlt)
          have hcv := hCt i (b0 / 8) _ _ hw (show yct (.inr (ci, vs)) (b0 / 8) = some vs[b0 / 8] from List.getElem?_eq_getElem hlt)
          exact va_get hx hb hts hin hown hK hP i hw hc (b0 / 8) hkN (hts _ hlink) (fun _ z => z) (List.getElem?_eq_getElem hlt) hdg (hcf H ls _ locs hH hL ⟨xfv_ok hwv hcv, hS1⟩)
        split at h
        · rename_i q hru
          exact main _ hru h
        · rename_i q hru
          exact main _ hru h
        · rename_i t' hru
          exact main _ hru h
        · cases h
      · cases h
    · cases h
  · cases h
theorem xck_ok {tc : Nat} {ru : yRu} {a : xV} {w : Value} {ty : FieldType} {z : Int} (h : xck tc ru a = some z) (hv : xRv b sz sr a w) (ht : (tc = 0 ∧ ty = .int) ∨ (tc = 1 ∧ ty = .boolean) ∨ (tc = 2 ∧ ((∃ C0, ty = .object C0) ∨ ∃ t, ty = .array t)) ∨ (tc = 3 ∧ ty = .long)) : yRuOk sz sr ru w ∧ narrow ty w = w ∧ fits ty w = true ∧ xCv sz z w := by
  unfold xck at h
  split at h
  · rename_i q
    split at h
    · rename_i z0
      obtain ⟨y, rfl, hy⟩ := hv
      split at h
      · obtain ⟨h1, h2⟩ := xg_some h
        cases h2
        simp only [Bool.and_eq_true, ile_iff] at h1
        have b1 : -2147483648 ≤ y.toInt := by have := y.le_toInt; simpa using this
        have b2 : y.toInt < 2147483648 := y.toInt_lt
        refine ⟨⟨y, rfl, by omega, by omega⟩, ?_⟩
        rcases ht with ⟨-, rfl⟩ | ⟨e1, -⟩ | ⟨e1, -⟩ | ⟨e1, -⟩
        · exact ⟨rfl, rfl, hy.symm⟩
        all_goals omega
      · obtain ⟨h1, h2⟩ := xg_some h
        simp only [Bool.and_eq_true, ile_iff] at h1
        rcases xcond h2 with ⟨q1, h2⟩ | ⟨q1, h2⟩
        · cases h2
          rw [Bool.or_eq_true, decide_eq_true_eq, decide_eq_true_eq] at q1
          refine ⟨⟨y, rfl, by omega, by omega⟩, ?_⟩
          rcases ht with ⟨e1, -⟩ | ⟨-, rfl⟩ | ⟨e1, -⟩ | ⟨e1, -⟩
          · omega
          · have hx2 : y = 0 ∨ y = 1 := by
              rcases q1 with q1 | q1
              · left; exact Int32.toInt_inj.mp (by rw [hy, q1]; rfl)
              · right; exact Int32.toInt_inj.mp (by rw [hy, q1]; rfl)
            refine ⟨?_, ?_, hy.symm⟩
            · rcases hx2 with rfl | rfl <;> decide
            · rcases hx2 with rfl | rfl <;> decide
          all_goals omega
        · cases h2
      · cases h
    · cases h
  · split at h
    · obtain ⟨y, rfl, hy⟩ := hv
      obtain ⟨h1, h2⟩ := xg_some h
      cases h2
      have h1 := Nat.eq_of_beq_eq_true h1
      refine ⟨⟨y, rfl⟩, ?_⟩
      rcases ht with ⟨e1, -⟩ | ⟨e1, -⟩ | ⟨e1, -⟩ | ⟨-, rfl⟩
      · omega
      · omega
      · omega
      · exact ⟨rfl, rfl, hy.symm⟩
    · cases h
  · split at h
    · rename_i t1 i t2
      obtain ⟨h1, h2⟩ := xg_some h
      cases h2
      rw [Bool.and_eq_true] at h1
      have e2 := Nat.eq_of_beq_eq_true h1.1
      have e3 := Nat.eq_of_beq_eq_true h1.2
      obtain ⟨rfl, hsr⟩ := hv
      refine ⟨⟨i, rfl, by rw [e3]; exact hsr⟩, ?_⟩
      rcases ht with ⟨e1, -⟩ | ⟨e1, -⟩ | ⟨e1, ht⟩ | ⟨e1, -⟩
      · omega
      · omega
      · rcases ht with ⟨C0, rfl⟩ | ⟨t, rfl⟩
        · exact ⟨rfl, rfl, i, rfl, rfl⟩
        · exact ⟨rfl, rfl, i, rfl, rfl⟩
      · omega
    · cases h
theorem xs_put_ok {P : xPar} {a b0 index : Nat} {own C0 : String} {T : u_T} {N : Nat} {ty0 : Nat → FieldType} {ty : FieldType} (h : xs_put P a b0 pc L S C k = some r) (hPt : P.1 = tt)
    (hx : p.tables.exec = Jvm.exec) (hb : c.code = cc) (hts : ∀ w ∈ zW, w.before args s = true) (hin : ∀ w ∈ u_ws C0 T N, w ∈ zW) (hty : ∀ k, k < N → parseFieldDescriptor (T k).2.2.1 = some (ty0 k)) (hnm : ∀ a, a < N → ∀ b, b < N → a ≠ b → (T a).2.1 ≠ (T b).2.1) (hown : s.vm.findClass own = some m.cls) (hK : va_K D vwCl (zTys ca) s)
    (hc : vwCl[a]? = some (C0, T, N)) (hkN : b0 / 8 < N) (hlink : Cond.fieldLink own index (T (b0 / 8)).1 (T (b0 / 8)).2.1 (T (b0 / 8)).2.2.1 ∈ zW)
    (hfin : (T (b0 / 8)).2.2.2 = false ∨ ((T (b0 / 8)).2.2.2 = true ∧ meth.name = "<init>" ∧ (T (b0 / 8)).1 = own)) (hd : parseFieldDescriptor (T (b0 / 8)).2.2.1 = some ty)
    (htc : (b0 / 2 % 4 = 0 ∧ ty = .int) ∨ (b0 / 2 % 4 = 1 ∧ ty = .boolean) ∨ (b0 / 2 % 4 = 2 ∧ ((∃ C0, ty = .object C0) ∨ ∃ t, ty = .array t)) ∨ (b0 / 2 % 4 = 3 ∧ ty = .long)) (hdg : decode cc pc = .ok (.putfield index, 3)) : xGo p l e R s m args below meth c Q b sz sr tt D ca nL K0 S0 k r (pc, L, S, C) := by
  subst hPt
  unfold xs_put at h
  split at h
  · rename_i a0 i t r0
    split at h
    · rename_i q0 ci rs ht
      split at h
      · rename_i hci
        have hci := Nat.eq_of_beq_eq_true hci
        subst hci
        split at h
        · rename_i ru hru
          rw [zget_eq] at hru
          cases hz : xck (b0 / 2 % 4) ru a0 with
          | none => rw [hz] at h; cases h
          | some z =>
            rw [hz] at h
            have h : k (pc + 3, L, r0, xst C i (b0 / 8) z) = some r := h
            refine ⟨_, h, fun hcf H ls stk locs hH hL hS => ?_⟩
            obtain ⟨w1, s1, rfl, hw1, hS1⟩ := xSR_cons hS
            obtain ⟨w2, s2, rfl, hw2, hS2⟩ := xSR_cons hS1
            obtain ⟨rfl, hsr⟩ := hw2
            obtain ⟨ws, hW, hP, hD, hV, hCt⟩ := hH
            obtain ⟨e0, hw, hty1⟩ := y_cell hW hsr ht
            obtain ⟨vs, rfl, hlen, ⟨q1, hq1, hlen2⟩, hall⟩ := hty1
            rw [hc] at hq1
            cases hq1
            have hlt : b0 / 8 < vs.length := by rw [hlen2]; exact hkN
            obtain ⟨hok, hn, hft, hcv⟩ := xck_ok hz hw1 htc
            have hCt1 := xCt_set (e0 := .inr (ci, vs)) (e1 := .inr (ci, vs.set (b0 / 8) w1)) (j := b0 / 8) hCt hw (fun j' hj' => by show (vs.set (b0 / 8) w1)[j']? = vs[j']?; rw [List.getElem?_set_ne (Ne.symm hj')]) (by show (vs.set (b0 / 8) w1)[b0 / 8]? = _; rw [List.getElem?_set_self hlt]) hcv
            have hW1 : yWd sz sr P.1 ca (ws.set i (sz + i, .inr (ci, vs.set (b0 / 8) w1))) := yWd_set hW hsr ht ⟨_, rfl, by simpa using hlen, ⟨_, hc, by simpa using hlen2⟩, fun f ru2 w hf1 hf2 => by
              by_cases hff : f = b0 / 8
              · subst hff
                rw [hru] at hf1
                cases hf1
                rw [List.getElem?_set_self hlt] at hf2
                cases hf2
                exact hok
              · rw [List.getElem?_set_ne (Ne.symm hff)] at hf2
                exact hall f ru2 w hf1 hf2⟩
            have fin : ∀ (H1 : Heap) (locs1 : List Loc), va_P D vwCl (ws.set i (sz + i, .inr (ci, vs.set (b0 / 8) w1))) H1 → va_D (zA sz) (ws.set i (sz + i, .inr (ci, vs.set (b0 / 8) w1))) → va_S (zA sz) s.heap H1 locs1 → W p l e R s m args below meth c H1 locs1 K0 S0 Q (F0 m (pc + 3) ls s2) :=
              fun H1 locs1 hP1 hD1 hV1 => hcf H1 ls s2 locs1 ⟨_, hW1, hP1, hD1, hV1, hCt1⟩ hL hS2
            rcases hfin with hfin | ⟨hfin, hnm2, hdecl⟩
            · exact va_put hx hb hts hin ty0 hty hnm hown hK hP hD hV i hw hc (b0 / 8) hkN (hts _ hlink) (fun _ z => z) hfin hd hn hft hlt hdg fin
            · exact va_putF hx hb hts hin ty0 hty hnm hown hK hP hD hV i hw hc (b0 / 8) hkN (hts _ hlink) (fun _ z => z) hfin hnm2 hdecl hd hn hft hlt hdg fin
        · cases h
      · cases h
    · cases h
  · cases h
theorem xs_alen_ok {P : xPar} (h : xs_alen P pc L S C k = some r) (hPt : P.1 = tt)
    (hx : p.tables.exec = Jvm.exec) (hb : c.code = cc) (hK : va_K D vwCl (zTys ca) s) (hl31 : ∀ t q kd ln ar, zget tt t = some (q, .inr (kd, ln, ar)) → ln < 2147483648) (hdg : decode cc pc = .ok (.arraylength, 1)) : xGo p l e R s m args below meth c Q b sz sr tt D ca nL K0 S0 k r (pc, L, S, C) := by
  subst hPt
  have cv : ∀ n : Nat, n < 2147483648 → (Int32.ofNat n).toInt = (n : Int) := fun n hn => Int32.toInt_ofNat_of_lt hn
  unfold xs_alen at h
  split at h
  · rename_i i t r0
    split at h
    · rename_i q0 kd len ar ht
      refine ⟨_, h, fun hcf H ls stk locs hH hL hS => ?_⟩
      obtain ⟨w1, s1, rfl, hw1, hS1⟩ := xSR_cons hS
      obtain ⟨rfl, hsr⟩ := hw1
      obtain ⟨ws, hW, hP, hD, hV, hCt⟩ := id hH
      obtain ⟨e0, hw, hty⟩ := y_cell hW hsr ht
      have hl := hl31 _ _ _ _ _ ht
      rcases hty with ⟨h3, f, rfl, -⟩ | ⟨h3, f, rfl⟩
      · exact va_alen hx hb hK hP i kd hw (z_ty kd (by omega)) rfl hdg (hcf H ls _ locs hH hL ⟨⟨_, rfl, cv _ hl⟩, hS1⟩)
      · exact va_alen hx hb hK hP i 3 hw (z_ty 3 (by omega)) rfl hdg (hcf H ls _ locs hH hL ⟨⟨_, rfl, cv _ hl⟩, hS1⟩)
    · cases h
  · cases h
theorem xix_iff {z : Int} {len : Nat} (h : xix z len = true) : 0 ≤ z ∧ z < len := by
  unfold xix at h
  rw [Bool.and_eq_true, decide_eq_true_eq, decide_eq_true_eq] at h
  exact h
theorem xs_ald_ok {P : xPar} {isB : Bool} (h : xs_ald P isB pc L S C k = some r) (hPt : P.1 = tt)
    (hx : p.tables.exec = Jvm.exec) (hb : c.code = cc) (hK : va_K D vwCl (zTys ca) s) (hdg : decode cc pc = .ok (if isB then .baload else .iaload, 1)) : xGo p l e R s m args below meth c Q b sz sr tt D ca nL K0 S0 k r (pc, L, S, C) := by
  subst hPt
  unfold xs_ald at h
  split at h
  · rename_i z i t r0
    split at h
    · rename_i q0 kd len ar ht
      obtain ⟨hkb, h⟩ := xg_some h
      rcases xcond h with ⟨hix, h⟩ | ⟨-, h⟩
      · obtain ⟨j0, j1⟩ := xix_iff hix
        have hkd := y_kd hkb
        refine ⟨_, h, fun hcf H ls stk locs hH hL hS => ?_⟩
        obtain ⟨w1, s1, rfl, hw1, hS1⟩ := xSR_cons hS
        obtain ⟨w2, s2, rfl, hw2, hS2⟩ := xSR_cons hS1
        obtain ⟨j, rfl, hj⟩ := hw1
        obtain ⟨rfl, hsr⟩ := hw2
        rw [← hj] at j0 j1
        obtain ⟨i1, i2, i3, i4, i5⟩ := y_inx j0 j1
        obtain ⟨ws, hW, hP, hD, hV, hCt⟩ := id hH
        obtain ⟨e0, hw, hty⟩ := y_cell hW hsr ht
        obtain ⟨f, rfl⟩ : ∃ f : Nat → Int32, e0 = .inl (ca kd, len, .inl f) := by
          rcases hty with ⟨-, f, h1, h2⟩ | ⟨h3, -⟩
          · exact ⟨f, h1⟩
          · omega
        have hcv := hCt i j.toNatClampNeg _ _ hw (show yct (.inl (ca kd, len, .inl f)) j.toNatClampNeg = some (.int (f j.toNatClampNeg)) from if_pos i4)
        have e1 : z.toNat = j.toNatClampNeg := by omega
        have go : W p l e R s m args below meth c H locs K0 S0 Q (F0 m (pc + 1) ls (.int (f j.toNatClampNeg) :: s2)) := hcf H ls _ locs hH hL ⟨⟨_, rfl, by rw [e1]; exact hcv.symm⟩, hS2⟩
        cases isB
        · have hk2 : kd = 2 := Nat.eq_of_beq_eq_true hkb
          subst hk2
          exact va_iald hx hb hK hP i 2 hw (z_ty 2 (by omega)) i1 hdg go
        · have hk2 : kd < 2 := by simpa [zkb, Nat.blt_eq] using hkb
          rcases (show kd = 0 ∨ kd = 1 by omega) with rfl | rfl
          · exact va_bald hx hb hK hP i 0 hw (z_ty 0 (by omega)) i1 hdg go
          · exact va_zald hx hb hK hP i 1 hw (z_ty 1 (by omega)) i1 hdg go
      · cases h
    · cases h
  · cases h
theorem xs_lald_ok {P : xPar} (h : xs_lald P pc L S C k = some r) (hPt : P.1 = tt)
    (hx : p.tables.exec = Jvm.exec) (hb : c.code = cc) (hK : va_K D vwCl (zTys ca) s) (hdg : decode cc pc = .ok (.laload, 1)) : xGo p l e R s m args below meth c Q b sz sr tt D ca nL K0 S0 k r (pc, L, S, C) := by
  subst hPt
  unfold xs_lald at h
  split at h
  · rename_i z i t r0
    split at h
    · rename_i q0 kd len ar ht
      obtain ⟨hkb, h⟩ := xg_some h
      have hkb := Nat.eq_of_beq_eq_true hkb
      subst hkb
      rcases xcond h with ⟨hix, h⟩ | ⟨-, h⟩
      · obtain ⟨j0, j1⟩ := xix_iff hix
        refine ⟨_, h, fun hcf H ls stk locs hH hL hS => ?_⟩
        obtain ⟨w1, s1, rfl, hw1, hS1⟩ := xSR_cons hS
        obtain ⟨w2, s2, rfl, hw2, hS2⟩ := xSR_cons hS1
        obtain ⟨j, rfl, hj⟩ := hw1
        obtain ⟨rfl, hsr⟩ := hw2
        rw [← hj] at j0 j1
        obtain ⟨i1, i2, i3, i4, i5⟩ := y_inx j0 j1
        obtain ⟨ws, hW, hP, hD, hV, hCt⟩ := id hH
        obtain ⟨e0, hw, hty⟩ := y_cell hW hsr ht
        obtain ⟨f, rfl⟩ : ∃ f : Nat → Int64, e0 = .inl (ca 3, len, .inr (.inl f)) := by
          rcases hty with ⟨h3, -⟩ | ⟨-, f, h1⟩
          · omega
          · exact ⟨f, h1⟩
        have hcv := hCt i j.toNatClampNeg _ _ hw (show yct (.inl (ca 3, len, .inr (.inl f))) j.toNatClampNeg = some (.long (f j.toNatClampNeg)) from if_pos i4)
        have e1 : z.toNat = j.toNatClampNeg := by omega
        exact va_lald hx hb hK hP i 3 hw (z_ty 3 (by omega)) i1 hdg (hcf H ls _ locs hH hL ⟨⟨_, rfl, by rw [e1]; exact hcv.symm⟩, hS2⟩)
      · cases h
    · cases h
  · cases h
theorem xna_nar {kd : Nat} {z : Int} {x : Int32} (hkd : kd < 3) (h : xna kd z = true) (hx : x.toInt = z) : znar kd x = x := by
  rcases (show kd = 0 ∨ kd = 1 ∨ kd = 2 by omega) with rfl | rfl | rfl
  · simp only [xna, Bool.and_eq_true, decide_eq_true_eq] at h
    exact y_nar (kd := 0) (ar := (-128, 127, [], 0)) (j := 0) (by omega) (by decide) ⟨⟨by show (-128 : Int) ≤ _; omega, by show _ ≤ (127 : Int); omega⟩, fun q hq => (by cases hq), fun h0 => (by cases h0), fun h0 => (by cases h0)⟩
  · simp only [xna, Bool.and_eq_true, decide_eq_true_eq] at h
    exact y_nar (kd := 1) (ar := (0, 1, [], 0)) (j := 0) (by omega) (by decide) ⟨⟨by show (0 : Int) ≤ _; omega, by show _ ≤ (1 : Int); omega⟩, fun q hq => (by cases hq), fun h0 => (by cases h0), fun h0 => (by cases h0)⟩
  · rfl
theorem xar_ok {kd : Nat} {ar : yAr} {z : Int} {x : Int32} {j : Nat} (hkd : kd < 3) (ha : xar kd ar = true) (h : xna kd z = true) (hx : x.toInt = z) : yArOk ar j x.toInt := by
  obtain ⟨lo, hi, sp, q⟩ := ar
  have b1 : -2147483648 ≤ x.toInt := by have := x.le_toInt; simpa using this
  have b2 : x.toInt < 2147483648 := x.toInt_lt
  unfold xar at ha
  dsimp only at ha
  split at ha
  · rw [Bool.and_eq_true, Bool.and_eq_true] at ha
    obtain ⟨-, h0, ha⟩ := ha
    have h0 := Nat.eq_of_beq_eq_true h0
    subst h0
    refine ⟨?_, fun q hq => (by cases hq), fun h0 => (by cases h0), fun h0 => (by cases h0)⟩
    show lo ≤ x.toInt ∧ x.toInt ≤ hi
    rcases (show kd = 0 ∨ kd = 1 ∨ kd = 2 by omega) with rfl | rfl | rfl
    · simp only [Bool.and_eq_true, ile_iff] at ha
      simp only [xna, Bool.and_eq_true, decide_eq_true_eq] at h
      omega
    · simp only [Bool.and_eq_true, ile_iff] at ha
      simp only [xna, Bool.and_eq_true, decide_eq_true_eq] at h
      omega
    · simp only [Bool.and_eq_true, ile_iff] at ha
      omega
  · rw [Bool.false_and] at ha
    cases ha
theorem xs_ast_ok {P : xPar} {isB : Bool} (h : xs_ast P isB pc L S C k = some r) (hPt : P.1 = tt)
    (hx : p.tables.exec = Jvm.exec) (hb : c.code = cc) (hK : va_K D vwCl (zTys ca) s) (hdg : decode cc pc = .ok (if isB then .bastore else .iastore, 1)) : xGo p l e R s m args below meth c Q b sz sr tt D ca nL K0 S0 k r (pc, L, S, C) := by
  subst hPt
  unfold xs_ast at h
  split at h
  · rename_i v z i t r0
    split at h
    · rename_i q0 kd len ar ht
      obtain ⟨hkb, h⟩ := xg_some h
      rw [Bool.and_eq_true] at hkb
      obtain ⟨hkb, har⟩ := hkb
      rcases xcond h with ⟨hix, h⟩ | ⟨-, h⟩
      · rw [Bool.and_eq_true] at hix
        obtain ⟨hix, hna⟩ := hix
        obtain ⟨j0, j1⟩ := xix_iff hix
        have hkd := y_kd hkb
        refine ⟨_, h, fun hcf H ls stk locs hH hL hS => ?_⟩
        obtain ⟨w0, s0, rfl, hw0, hS0⟩ := xSR_cons hS
        obtain ⟨w1, s1, rfl, hw1, hS1⟩ := xSR_cons hS0
        obtain ⟨w2, s2, rfl, hw2, hS2⟩ := xSR_cons hS1
        obtain ⟨y, rfl, hy⟩ := hw0
        obtain ⟨j, rfl, hj⟩ := hw1
        obtain ⟨rfl, hsr⟩ := hw2
        rw [← hj] at j0 j1
        obtain ⟨i1, i2, i3, i4, i5⟩ := y_inx j0 j1
        obtain ⟨ws, hW, hP, hD, hV, hCt⟩ := hH
        obtain ⟨e0, hw, hty⟩ := y_cell hW hsr ht
        obtain ⟨f, rfl, hall⟩ : ∃ f : Nat → Int32, e0 = .inl (ca kd, len, .inl f) ∧ ∀ j, j < len → yArOk ar j (f j).toInt := by
          rcases hty with ⟨-, f, h1, h2⟩ | ⟨h3, -⟩
          · exact ⟨f, h1, h2⟩
          · omega
        have e1 : z.toNat = j.toNatClampNeg := by omega
        have hn := xna_nar hkd hna hy
        have hCt1 := xCt_set (z := v) (e0 := .inl (ca kd, len, .inl f)) (e1 := .inl (ca kd, len, .inl (upd f j.toNatClampNeg y))) (w := .int y) (j := j.toNatClampNeg) hCt hw (fun j' hj' => by
          show (if j' < len then some (Value.int (upd f j.toNatClampNeg y j')) else none) = if j' < len then some (Value.int (f j')) else none
          simp [upd, hj']) (by
          show (if j.toNatClampNeg < len then some (Value.int (upd f j.toNatClampNeg y j.toNatClampNeg)) else none) = _
          rw [if_pos i4]; simp [upd]) hy.symm
        have hW1 : yWd sz sr P.1 ca (ws.set i (sz + i, .inl (ca kd, len, .inl (upd f j.toNatClampNeg y)))) := yWd_set hW hsr ht (Or.inl ⟨hkd, _, rfl, fun j' hj' => by
          by_cases hjj : j' = j.toNatClampNeg
          · subst hjj
            simpa [upd] using xar_ok hkd har hna hy
          · simpa [upd, hjj] using hall j' hj'⟩)
        have fin : ∀ (H1 : Heap) (locs1 : List Loc), va_P D vwCl (ws.set i (sz + i, .inl (ca kd, len, .inl (upd f j.toNatClampNeg (znar kd y))))) H1 → va_D (zA sz) (ws.set i (sz + i, .inl (ca kd, len, .inl (upd f j.toNatClampNeg (znar kd y))))) → va_S (zA sz) s.heap H1 locs1 → W p l e R s m args below meth c H1 locs1 K0 S0 Q (F0 m (pc + 1) ls s2) := by
          rw [hn]
          exact fun H1 locs1 hP1 hD1 hV1 => hcf H1 ls s2 locs1 ⟨_, hW1, hP1, hD1, hV1, by rw [e1]; exact hCt1⟩ hL hS2
        rw [← z_nar kd hkd] at fin
        cases isB
        · have hk2 : kd = 2 := Nat.eq_of_beq_eq_true hkb
          subst hk2
          exact va_iast hx hb hK hP hD hV i 2 hw (z_ty 2 (by omega)) i1 hdg fin
        · have hk2 : kd < 2 := by simpa [zkb, Nat.blt_eq] using hkb
          rcases (show kd = 0 ∨ kd = 1 by omega) with rfl | rfl
          · exact va_bast hx hb hK hP hD hV i 0 hw (z_ty 0 (by omega)) i1 hdg fin
          · exact va_zast hx hb hK hP hD hV i 1 hw (z_ty 1 (by omega)) i1 hdg fin
      · cases h
    · cases h
  · cases h
theorem xCt_copy {i j sp dp n lsr ld : Nat} {f g : Nat → Int32} {a1 a2 : ClassId} {x1 x2 : Nat} (hC : xCt sz C ws) (hwi : ws[i]? = some (x1, .inl (a1, lsr, .inl f))) (hwj : ws[j]? = some (x2, .inl (a2, ld, .inl g))) (h1 : sp + n ≤ lsr) (h2 : dp + n ≤ ld) :
    xCt sz (xcp C i sp j dp n) (ws.set j (x2, .inl (a2, ld, .inl (va_cpy f g sp dp n)))) := by
  have hjl : j < ws.length := (List.getElem?_eq_some_iff.mp hwj).1
  intro i' j' cl w q1 q2
  by_cases hi : i' = j
  · subst hi
    rw [List.getElem?_set_self hjl] at q1
    cases q1
    have q2 : (if j' < ld then some (Value.int (va_cpy f g sp dp n j')) else none) = some w := q2
    by_cases hl : j' < ld
    · rw [if_pos hl] at q2
      cases q2
      show xcp C i sp i' dp n i' j' = (va_cpy f g sp dp n j').toInt
      unfold xcp va_cpy
      by_cases hq : dp ≤ j' ∧ j' < dp + n
      · rw [if_pos ⟨rfl, hq⟩, if_pos hq]
        exact hC i (sp + (j' - dp)) _ (.int (f (sp + (j' - dp)))) hwi (by
          show (if sp + (j' - dp) < lsr then some (Value.int (f (sp + (j' - dp)))) else none) = _
          rw [if_pos (by omega)])
      · rw [if_neg (fun q => hq q.2), if_neg hq]
        exact hC i' j' _ (.int (g j')) hwj (by
          show (if j' < ld then some (Value.int (g j')) else none) = _
          rw [if_pos hl])
    · rw [if_neg hl] at q2
      cases q2
  · rw [List.getElem?_set_ne (Ne.symm hi)] at q1
    unfold xcp
    rw [if_neg (fun q => hi q.1)]
    exact hC i' j' cl w q1 q2
theorem xs_copy_ok {P : xPar} {index : Nat} {own : String} (h : xs_copy P pc L S C k = some r) (hPt : P.1 = tt)
    (hx : p.tables.exec = Jvm.exec) (hb : c.code = cc) (hml : c.maxLocals = nL) (hts : ∀ w ∈ zW, w.before args s = true) (hown : s.vm.findClass own = some m.cls) (hK : va_K D vwCl (zTys ca) s)
    (hlink : Cond.methodLink own index arraycopyName ∈ zW) (hnat : Cond.native arraycopyName ∈ zW) (hstat : Cond.static arraycopyName ∈ zW) (hini : Cond.initialized "java/lang/System" ∈ zW)
    (hfr : 1 ≤ R.frames) (hlo : 60 ≤ R.locals) (hdg : decode cc pc = .ok (.invokestatic index, 3)) : xGo p l e R s m args below meth c Q b sz sr tt D ca nL K0 S0 k r (pc, L, S, C) := by
  subst hPt
  unfold xs_copy at h
  split at h
  · rename_i n dp j td sp i ts r0
    split at h
    · rename_i q0 kd ld ar htd
      split at h
      · rename_i q1 ks lsr ar2 hts2
        obtain ⟨hg, hq⟩ := xg_some h
        simp only [Bool.and_eq_true] at hg
        obtain ⟨g1, g2, har, h8⟩ := hg
        have hkd : kd = 2 := Nat.eq_of_beq_eq_true g1
        have hks : ks = 2 := Nat.eq_of_beq_eq_true g2
        subst hkd
        subst hks
        rcases xcond hq with ⟨hix, hr⟩ | ⟨-, hr⟩
        · simp only [Bool.and_eq_true, decide_eq_true_eq] at hix
          obtain ⟨b1, b2, b3, b4, b5⟩ := hix
          have e1 : Int.ofNat lsr = (lsr : Int) := rfl
          have e2 : Int.ofNat ld = (ld : Int) := rfl
          refine ⟨_, hr, fun hcf H ls stk locs hH hL hS => ?_⟩
          obtain ⟨w1, st1, rfl, hw1, hS1⟩ := xSR_cons hS
          obtain ⟨w2, st2, rfl, hw2, hS2⟩ := xSR_cons hS1
          obtain ⟨w3, st3, rfl, hw3, hS3⟩ := xSR_cons hS2
          obtain ⟨w4, st4, rfl, hw4, hS4⟩ := xSR_cons hS3
          obtain ⟨w5, st5, rfl, hw5, hS5⟩ := xSR_cons hS4
          obtain ⟨n1, rfl, hn⟩ := hw1
          obtain ⟨d1, rfl, hd⟩ := hw2
          obtain ⟨rfl, hsd⟩ := hw3
          obtain ⟨s1, rfl, hs1⟩ := hw4
          obtain ⟨rfl, hss⟩ := hw5
          obtain ⟨ws, hW, hP, hD, hV, hCt⟩ := hH
          obtain ⟨e0, hwd, htyd⟩ := y_cell hW hsd htd
          obtain ⟨g, rfl, hgg⟩ : ∃ f : Nat → Int32, e0 = .inl (ca 2, ld, .inl f) ∧ ∀ j, j < ld → yArOk ar j (f j).toInt := by
            rcases htyd with ⟨-, f, h1, h2⟩ | ⟨h3, -⟩
            · exact ⟨f, h1, h2⟩
            · omega
          obtain ⟨e0, hws, htys⟩ := y_cell hW hss hts2
          obtain ⟨f, rfl, hff⟩ : ∃ f : Nat → Int32, e0 = .inl (ca 2, lsr, .inl f) ∧ ∀ j, j < lsr → yArOk ar2 j (f j).toInt := by
            rcases htys with ⟨-, f, h1, h2⟩ | ⟨h3, -⟩
            · exact ⟨f, h1, h2⟩
            · omega
          have en : n1.toNatClampNeg = n.toNat := by rw [← hn]; rfl
          have ed : d1.toNatClampNeg = dp.toNat := by rw [← hd]; rfl
          have es : s1.toNatClampNeg = sp.toNat := by rw [← hs1]; rfl
          have hneg : ∀ x : Int32, 0 ≤ x.toInt → ¬ x < 0 := fun x hx q => by
            have := Int32.lt_iff_toInt_lt.mp q
            have a0 : (0 : Int32).toInt = 0 := by decide
            omega
          have hlsz : ls.size = nL := hL.2.choose_spec.1.1
          have hCt1 := xCt_copy (n := n1.toNatClampNeg) (sp := s1.toNatClampNeg) (dp := d1.toNatClampNeg) hCt hws hwd (by omega) (by omega)
          rw [en, ed, es] at hCt1
          have hW1 : yWd sz sr P.1 ca (ws.set j (sz + j, .inl (ca 2, ld, .inl (va_cpy f g s1.toNatClampNeg d1.toNatClampNeg n1.toNatClampNeg)))) := yWd_set hW hsd htd (Or.inl ⟨by omega, _, rfl, fun j' hj' => by
            unfold va_cpy
            by_cases hqq : d1.toNatClampNeg ≤ j' ∧ j' < d1.toNatClampNeg + n1.toNatClampNeg
            · rw [if_pos hqq]
              exact xar_ok (by omega) har rfl rfl
            · rw [if_neg hqq]
              exact hgg j' hj'⟩)
          have hnf : nativeFrameWords "java/lang/System" "arraycopy" 5 + 11 ≤ 50 := by decide +kernel
          refine va_copyi hx hb (hml.trans hlsz.symm) hown (hts _ hlink) (hts _ hnat) (hts _ hstat) (hts _ hini) hK hP hD hV i j 2 2 hws hwd (z_ty 2 (by omega)) (z_ty 2 (by omega)) (by rfl) (hneg _ (by omega)) (hneg _ (by omega)) (hneg _ (by omega)) (by omega) (by omega) (fun i hi => rfl) hfr ?_ hdg fun H1 locs1 hP1 hD1 hV1 => ?_
          · have := Nat.le_of_ble_eq_true h8
            rw [xSR_sum hS5]; omega
          · exact hcf H1 ls st5 locs1 ⟨_, hW1, hP1, hD1, hV1, by rw [en, ed, es]; exact hCt1⟩ hL hS5
        · cases hr
      · cases h
    · cases h
  · cases h
theorem xs_last_ok {P : xPar} (h : xs_last P pc L S C k = some r) (hPt : P.1 = tt)
    (hx : p.tables.exec = Jvm.exec) (hb : c.code = cc) (hK : va_K D vwCl (zTys ca) s) (hdg : decode cc pc = .ok (.lastore, 1)) : xGo p l e R s m args below meth c Q b sz sr tt D ca nL K0 S0 k r (pc, L, S, C) := by
  subst hPt
  unfold xs_last at h
  split at h
  · rename_i v z i t r0
    split at h
    · rename_i q0 kd len ar ht
      obtain ⟨hkb, h⟩ := xg_some h
      have hkb := Nat.eq_of_beq_eq_true hkb
      subst hkb
      rcases xcond h with ⟨hix, h⟩ | ⟨-, h⟩
      · obtain ⟨j0, j1⟩ := xix_iff hix
        refine ⟨_, h, fun hcf H ls stk locs hH hL hS => ?_⟩
        obtain ⟨w0, s0, rfl, hw0, hS0⟩ := xSR_cons hS
        obtain ⟨w1, s1, rfl, hw1, hS1⟩ := xSR_cons hS0
        obtain ⟨w2, s2, rfl, hw2, hS2⟩ := xSR_cons hS1
        obtain ⟨y, rfl, hy⟩ := hw0
        obtain ⟨j, rfl, hj⟩ := hw1
        obtain ⟨rfl, hsr⟩ := hw2
        rw [← hj] at j0 j1
        obtain ⟨i1, i2, i3, i4, i5⟩ := y_inx j0 j1
        obtain ⟨ws, hW, hP, hD, hV, hCt⟩ := hH
        obtain ⟨e0, hw, hty⟩ := y_cell hW hsr ht
        obtain ⟨f, rfl⟩ : ∃ f : Nat → Int64, e0 = .inl (ca 3, len, .inr (.inl f)) := by
          rcases hty with ⟨h3, -⟩ | ⟨-, f, h1⟩
          · omega
          · exact ⟨f, h1⟩
        have e1 : z.toNat = j.toNatClampNeg := by omega
        have hCt1 := xCt_set (z := v) (e0 := .inl (ca 3, len, .inr (.inl f))) (e1 := .inl (ca 3, len, .inr (.inl (vp_updL f j.toNatClampNeg y)))) (w := .long y) (j := j.toNatClampNeg) hCt hw (fun j' hj' => by
          show (if j' < len then some (Value.long (vp_updL f j.toNatClampNeg y j')) else none) = if j' < len then some (Value.long (f j')) else none
          simp [vp_updL, hj']) (by
          show (if j.toNatClampNeg < len then some (Value.long (vp_updL f j.toNatClampNeg y j.toNatClampNeg)) else none) = _
          rw [if_pos i4]; simp [vp_updL]) hy.symm
        have hW1 : yWd sz sr P.1 ca (ws.set i (sz + i, .inl (ca 3, len, .inr (.inl (vp_updL f j.toNatClampNeg y))))) := yWd_set hW hsr ht (Or.inr ⟨rfl, _, rfl⟩)
        exact va_last hx hb hK hP hD hV i 3 hw (z_ty 3 (by omega)) i1 hdg fun H1 locs1 hP1 hD1 hV1 => hcf H1 ls s2 locs1 ⟨_, hW1, hP1, hD1, hV1, by rw [e1]; exact hCt1⟩ hL hS2
      · cases h
    · cases h
  · cases h
end xCells
