/-! Cells: what is read of them, what is written into them. -/
section yStep2
variable {p : Program} {l : Launch} {e : Env} {R : Room} {s : State} {m : MethodId} {args : Array Value} {below : List Frame} {meth : Method} {c : Code} {Q : State → Prop}
variable {b sz nL K0 S0 : Nat} {sr : List Nat} {tt : List yKd} {D : va_G} {ca : Nat → ClassId} {ms : Option (List (Nat × Nat))} {ws0 ws : va_W} {cc : ByteArray}
variable {v u : List Int} {pc : Nat} {L : List (Option yA)} {S : List yA} {st : yS} {k : yCfg → Bool} {MP : yM × yP} {H : Heap} {locs : List Loc} {ls : Array Slot} {stk : List Value}
theorem y_cell {i t : Nat} {kd : yKd} (hW : yWd sz sr tt ca ws) (hi : sr[i]? = some t) (ht : zget tt t = some kd) : ∃ x, ws[i]? = some (sz + i, x) ∧ yTy sz sr ca kd x := by
  obtain ⟨h1, h2⟩ := hW
  have hl : i < ws.length := by rw [h1]; exact (List.getElem?_eq_some_iff.mp hi).1
  obtain ⟨g1, t2, kd2, g2, g3, g4⟩ := h2 i ws[i] (List.getElem?_eq_getElem hl)
  rw [hi] at g2
  cases g2
  rw [ht] at g3
  cases g3
  refine ⟨ws[i].2, ?_, g4⟩
  rw [List.getElem?_eq_getElem hl, ← g1]
theorem ylk_ok {x ix : yE} {t : Nat} {a : yA} {M : yM} (h : ylk x t ix M = some a) (hM : ∀ q ∈ M, yMk b sz sr v ws q) : ∃ (i j : Nat) (cl : Nat × va_E) (w : Value), yev v x = some (i : Int) ∧ sr[i]? = some t ∧ yev v ix = some (j : Int) ∧ ws[i]? = some cl ∧ yct cl.2 j = some w ∧ yV b sz sr v a w := by
  induction M with
  | nil => cases h
  | cons q M ih =>
    have h : (match Nat.beq q.1.2.1 t && (yeq q.1.1 x && yeq q.1.2.2 ix) with
      | true => some q.2
      | false => ylk x t ix M) = some a := h
    split at h
    · rename_i hc
      simp only [Bool.and_eq_true] at hc
      obtain ⟨c1, c2, c3⟩ := hc
      cases h
      obtain ⟨i, j, cl, w, g⟩ := hM q List.mem_cons_self
      rw [Nat.eq_of_beq_eq_true c1, yeq_ok c2, yeq_ok c3] at g
      exact ⟨i, j, cl, w, g⟩
    · exact ih h fun q hq => hM q (List.mem_cons_of_mem _ hq)
theorem yfv_ok {ru : yRu} {kk : yK} {w : Value} (hK : yKOk sr tt) (h : yfv tt ru st kk = true) (hR : yRS v st) (hw : yRuOk sz sr ru w) : yG b sz sr v st kk w := by
  rcases ru with ⟨lo, hi⟩ | x | t
  · obtain ⟨x, rfl, h1, h2⟩ := hw
    exact yGi_fr h hR h1 h2
  · obtain ⟨x, rfl⟩ := hw
    exact ytl_ok h hR
  · obtain ⟨i, rfl, hi⟩ := hw
    obtain ⟨kd, g1, g2, g3⟩ := hK i t hi
    simp only [yfv] at h
    split at h
    · cases h
    · rename_i c1 c2 q hq
      rw [hq] at g1
      cases g1
      dsimp only at g2 g3
      split at h
      · rename_i hc
        have hc := Nat.eq_of_beq_eq_true hc
        rw [yint_eq] at h
        exact yG_now h hR ⟨i, rfl, by rw [show i = c1 by omega]; exact yev_cn v _, hi⟩
      · obtain ⟨st1, k1, k2, k3, k4⟩ := yfr_ok (z := (i : Int)) h hR (by show Int.ofNat c1 ≤ _; simp; omega) (by show _ ≤ Int.ofNat c2; simp; omega)
        exact ⟨_, _, st1, k1, k2, ⟨i, rfl, k3, hi⟩, k4⟩
/-- on, with what is given on the stack and known of a place -/
theorem yonM {pc1 t : Nat} {x ix : yE} {r : List yA} {w : Value} (hk : ∀ cf, k cf = true → yJ p l e R s m args below meth c Q b sz sr tt D ca ms ws0 nL K0 S0 v cf) (hG : yG b sz sr v st (fun a st => yaddM x t ix a st fun st => ygo pc1 L (a :: r) st k) w)
    (hW : yWd sz sr tt ca ws) (hP : va_P D vwCl ws H) (hD : va_D (zA sz) ws) (hV : va_S (zA sz) s.heap H locs) (hM : ∀ q ∈ st.2.2.2.2.1, yMk b sz sr v ws q) (hQ : ∀ q ∈ st.2.2.2.2.2, yPk sr v ws q) (hF : yFr sr ms ws0 ws)
    (hm : ∃ (i j : Nat) (cl : Nat × va_E), yev v x = some (i : Int) ∧ sr[i]? = some t ∧ yev v ix = some (j : Int) ∧ ws[i]? = some cl ∧ yct cl.2 j = some w)
    (hL : yLR b sz sr v ls nL L) (hS : ySR b sz sr v r stk) : W p l e R s m args below meth c H locs K0 S0 Q (F0 m pc1 ls (w :: stk)) := by
  obtain ⟨a, u, st1, h1, h2, h3, h4⟩ := hG
  obtain ⟨nx, B, F, Z, M, P⟩ := st1
  obtain ⟨nx0, B0, F0, Z0, M0, P0⟩ := st
  cases h4
  simp only [yaddM] at h1
  obtain ⟨i, j, cl, g1, g2, g3, g4, g5⟩ := hm
  refine hk _ (ygo_k h1) u H ls _ locs h2 ⟨ws, hW, hP, hD, hV, fun q hq => ?_, fun q hq => yPk_mono (hQ q hq), hF⟩ (yLR_mono hL) ⟨h3, ySR_mono hS⟩
  rcases List.mem_cons.mp hq with rfl | hq
  · exact ⟨i, j, cl, w, yev_mono g1, g2, yev_mono g3, g4, g5, h3⟩
  · exact yMk_mono (hM q hq)
theorem ys_get {P : yPar} {a b0 index : Nat} {own C : String} {T : u_T} {N : Nat} (h : yx_get P a b0 pc L S st k = true) (hk : ∀ cf, k cf = true → yJ p l e R s m args below meth c Q b sz sr tt D ca ms ws0 nL K0 S0 v cf) (hPt : P.1 = tt) (hKo : yKOk sr tt)
    (hx : p.tables.exec = Jvm.exec) (hb : c.code = cc) (hts : ∀ w ∈ zW, w.before args s = true) (hin : ∀ w ∈ u_ws C T N, w ∈ zW) (hown : s.vm.findClass own = some m.cls) (hK : va_K D vwCl (zTys ca) s)
    (hc : vwCl[a]? = some (C, T, N)) (hkN : b0 / 8 < N) (hlink : Cond.fieldLink own index (T (b0 / 8)).1 (T (b0 / 8)).2.1 (T (b0 / 8)).2.2.1 ∈ zW) (hdg : decode cc pc = .ok (.getfield index, 3)) : yJat p l e R s m args below meth c Q b sz sr tt D ca ms ws0 nL K0 S0 v (pc, L, S, st) := by
  subst hPt
  unfold yx_get at h
  split at h
  · rename_i x t r
    split at h
    · rename_i q0 ci rs ht
      rw [Bool.and_eq_true, zst_eq, yint_eq] at h
      obtain ⟨hci, h⟩ := h
      have hci := Nat.eq_of_beq_eq_true hci
      subst hci
      intro H ls stk locs hR hH hL hS
      obtain ⟨w1, s1, rfl, hw1, hS1⟩ := ySR_cons hS
      obtain ⟨i, rfl, hi, hsr⟩ := hw1
      obtain ⟨ws, hW, hP, hD, hV, hM, hQ, hF⟩ := hH
      obtain ⟨e0, hw, hty⟩ := y_cell hW hsr ht
      obtain ⟨vs, rfl, hlen, ⟨q1, hq1, hlen2⟩, hall⟩ := hty
      rw [hc] at hq1
      cases hq1
      have hlt : b0 / 8 < vs.length := by rw [hlen2]; exact hkN
      refine va_get hx hb hts hin hown hK hP i hw hc (b0 / 8) hkN (hts _ hlink) (fun _ z => z) (List.getElem?_eq_getElem hlt) hdg ?_
      split at h
      · rename_i a0 hlk
        obtain ⟨i2, j2, cl, w, g1, g2, g3, g4, g5, g6⟩ := ylk_ok hlk hM
        have hi2 : i2 = i := by rw [hi] at g1; have := Option.some.inj g1; omega
        subst hi2
        have hj2 : j2 = b0 / 8 := by
          have e1 := yev_cn v (Int.ofNat (b0 / 8))
          rw [ycn] at e1
          rw [e1] at g3
          have : Int.ofNat (b0 / 8) = (j2 : Int) := Option.some.inj g3
          simp at this
          omega
        subst hj2
        rw [hw] at g4
        cases g4
        have g5 : vs[b0 / 8]? = some w := g5
        rw [List.getElem?_eq_getElem hlt] at g5
        cases g5
        exact yon0 hk h hR ⟨ws, hW, hP, hD, hV, hM, hQ, hF⟩ hL ⟨g6, hS1⟩
      · split at h
        · rename_i ru hru
          rw [zget_eq] at hru
          have hwv := hall (b0 / 8) ru _ hru (List.getElem?_eq_getElem hlt)
          exact yonM hk (yfv_ok hKo h hR hwv) hW hP hD hV hM hQ hF ⟨i, b0 / 8, _, hi, hsr, yev_cn v _, hw, List.getElem?_eq_getElem hlt⟩ hL hS1
        · cases h
    · cases h
  · cases h
theorem ydf_ok {B : yBd} {x y : yE} {z w : Int} (hB : yRB v B) (h : ydf B x y = true) (hz : yev v x = some z) (hw : yev v y = some w) : z ≠ w := by
  unfold ydf at h
  split at h
  · cases h
  · rename_i q hq
    have := yrg_ok hB hq (ysu_ok hz hw)
    simp only [Bool.or_eq_true, ile_iff] at h
    omega
theorem yfil_ok {α : Type} {f : α → Bool} : ∀ {l : List α} {kk : List α → Bool}, yfil f l kk = true → kk (l.filter f) = true := by
  intro l
  induction l with
  | nil => intro kk h; exact h
  | cons x t ih =>
    intro kk h
    have h : (match f x with
      | true => yfil f t fun t => kk (x :: t)
      | false => yfil f t kk) = true := h
    split at h
    · rename_i hx
      rw [List.filter_cons_of_pos hx]
      exact ih h
    · rename_i hx
      rw [List.filter_cons_of_neg (by simp [hx])]
      exact ih h
theorem ymapP_ok {f : (yE × Nat) × yE × yE × yE → (yE × Nat) × yE × yE × yE} : ∀ {l : yP} {kk : yP → Bool}, ymapP f l kk = true → kk (l.map f) = true := by
  intro l
  induction l with
  | nil => intro kk h; exact h
  | cons x t ih =>
    intro kk h
    have h : yfP (f x) (fun y => ymapP f t fun t => kk (y :: t)) = true := h
    unfold yfP at h
    rw [yfE_eq] at h
    exact ih h
theorem ywi_ok {a : yA} {w : Value} {lo hi : yE} {l2 h2 : Int} (h : ywi st a lo hi = true) (hR : yRS v st) (hv : yV b sz sr v a w) (hl : yev v lo = some l2) (hh : yev v hi = some h2) : ∃ y : Int32, w = .int y ∧ l2 ≤ y.toInt ∧ y.toInt ≤ h2 := by
  unfold ywi at h
  split at h
  · obtain ⟨y0, rfl, hy⟩ := hv
    rw [Bool.and_eq_true] at h
    have := ylS_ok h.1 hR (ysu_ok hl hy)
    have := ylS_ok h.2 hR (ysu_ok hy hh)
    exact ⟨y0, rfl, by omega, by omega⟩
  · cases h
/-- what is known after a write at one place -/
theorem yKo_set (h9 : yT9 sr) {ws : va_W} {i j t : Nat} {x0 : Nat} {e0 e1 : va_E} (hsr : sr[i]? = some t) (hw0 : ws[i]? = some (x0, e0)) (h1 : ∀ j', j' ≠ j → yct e1 j' = yct e0 j') (tk j' : Nat) (h : yrk tk ≠ t ∨ j' ≠ j) : yKo sr ws tk j' = yKo sr (ws.set i (x0, e1)) tk j' := by
  unfold yKo
  by_cases hi : yiw sr tk = i
  · have hil : i < ws.length := (List.getElem?_eq_some_iff.mp hw0).1
    have ht : yrk tk = t := yiw_kd h9 hsr hi
    have hj := h.resolve_left (fun z => z ht)
    rw [hi, hw0, List.getElem?_set_self hil]
    dsimp only
    rw [h1 j' hj]
  · rw [List.getElem?_set_ne (fun z => hi z.symm)]
theorem ygkA_ok {t j : Nat} {ix n hi : yE} {zn zh : Int} (hR : yRS v st) (hix : yev v ix = some (j : Int)) (hn : yev v n = some zn) (hh : yev v hi = some zh) : ∀ {l : List (Nat × Int × Int × Int × Int)}, ygkA st t ix n hi l = true → ∀ r ∈ l, ∀ j' : Nat, r.2.1 ≤ (j' : Int) → (j' : Int) < r.2.2.1 * zn + r.2.2.2.1 * zh + r.2.2.2.2 → yrk r.1 ≠ t ∨ j' ≠ j := by
  intro l
  induction l with
  | nil => intro _ r hr; cases hr
  | cons r0 l ih =>
    intro h r hr j' g1 g2
    have h : (ygk1 st t ix n hi r0 && ygkA st t ix n hi l) = true := h
    rw [Bool.and_eq_true] at h
    rcases List.mem_cons.mp hr with rfl | hr
    · have h1 := h.1
      unfold ygk1 at h1
      simp only [Bool.or_eq_true, Bool.not_eq_true'] at h1
      rcases h1 with c | c | c
      · refine Or.inl fun z => ?_
        rw [z, Nat.beq_refl] at c
        cases c
      · have := ylS_ok c hR (yoff_ok hix)
        exact Or.inr fun z => by omega
      · have := ylS_ok c hR (ysu_ok (yoff_ok (yad_ok (ysc_ok hn) (ysc_ok hh))) hix)
        exact Or.inr fun z => by omega
    · exact ih h.2 r hr j' g1 g2
theorem yKo_setA (h9 : yT9 sr) {ws : va_W} {i t : Nat} {q : Nat × va_E} (hsr : sr[i]? = some t) (tk j' : Nat) (h : yrk tk ≠ t) : yKo sr ws tk j' = yKo sr (ws.set i q) tk j' := by
  unfold yKo
  by_cases hi : yiw sr tk = i
  · exact absurd (yiw_kd h9 hsr hi) h
  · rw [List.getElem?_set_ne (fun z => hi z.symm)]
theorem ygno_ok {t : Nat} : ∀ {l : List (Nat × Int × Int × Int × Int)}, ygno t l = true → ∀ r ∈ l, yrk r.1 ≠ t := by
  intro l
  induction l with
  | nil => intro _ r hr; cases hr
  | cons r0 l ih =>
    intro h r hr
    have h : (!(Nat.beq (yrk r0.1) t) && ygno t l) = true := h
    rw [Bool.and_eq_true] at h
    rcases List.mem_cons.mp hr with rfl | hr
    · intro z
      have h1 := h.1
      rw [z, Nat.beq_refl] at h1
      cases h1
    · exact ih h.2 r hr
theorem yany_ok {α : Type} {f : α → Bool} : ∀ {l : List α}, yany f l = true → ∃ q ∈ l, f q = true := by
  intro l
  induction l with
  | nil => intro h; cases h
  | cons q t ih =>
    intro h
    have h : (f q || yany f t) = true := h
    rw [Bool.or_eq_true] at h
    rcases h with h | h
    · exact ⟨q, List.mem_cons_self, h⟩
    · obtain ⟨q1, g1, g2⟩ := ih h
      exact ⟨q1, List.mem_cons_of_mem _ g1, g2⟩
theorem yMk_K {t : Nat} {x ix a : yE} (h9 : yT9 sr) (ht : t ∈ yOne) (h : yMk b sz sr v ws ((x, t, ix), .inl a)) : ∃ (j : Nat) (z : Int), yev v ix = some (j : Int) ∧ yev v a = some z ∧ yKo sr ws t j = z := by
  obtain ⟨i, j, c, w, k1, k2, k3, k4, k5, k6⟩ := h
  obtain ⟨y, rfl, hy⟩ := k6
  refine ⟨j, y.toInt, k3, hy, ?_⟩
  unfold yKo
  rw [yiw_one h9 ht k2, k4]
  dsimp only
  rw [k5]
theorem yfKe_ok {t : Nat} {ix a : yE} (h9 : yT9 sr) (ht : t ∈ yOne) : ∀ {M : yM}, yfKe t ix M = some a → (∀ q ∈ M, yMk b sz sr v ws q) → ∃ (j : Nat) (z : Int), yev v ix = some (j : Int) ∧ yev v a = some z ∧ yKo sr ws t j = z := by
  intro M
  induction M with
  | nil => intro h; cases h
  | cons p M ih =>
    intro h hM
    have h : (match Nat.beq p.1.2.1 t && yeq p.1.2.2 ix with
      | true => (match p.2 with
        | .inl a => some a
        | _ => yfKe t ix M)
      | false => yfKe t ix M) = some a := h
    have hM2 : ∀ q ∈ M, yMk b sz sr v ws q := fun q hq => hM q (List.mem_cons_of_mem _ hq)
    split at h
    · rename_i hc
      rw [Bool.and_eq_true] at hc
      split at h
      · rename_i a0 ha0
        cases h
        obtain ⟨⟨x, t1, ix1⟩, v1⟩ := p
        have e1 : t1 = t := Nat.eq_of_beq_eq_true hc.1
        have e2 : ix1 = ix := yeq_ok hc.2
        have e3 : v1 = .inl a := ha0
        subst e1; subst e2; subst e3
        exact yMk_K h9 ht (hM _ List.mem_cons_self)
      · exact ih h hM2
    · exact ih h hM2
theorem yfKb_ok {f : Nat} {k : yE → Bool} (h9 : yT9 sr) (h : yfKb f st k = true) (hM : ∀ q ∈ st.2.2.2.2.1, yMk b sz sr v ws q) : ∃ a, k a = true ∧ yev v a = some (yKo sr ws 63 f) := by
  unfold yfKb at h
  split at h
  · rename_i a ha
    obtain ⟨j, z, g1, g2, g3⟩ := yfKe_ok h9 (by decide) ha hM
    have e : j = f := by
      have e0 := yev_cn v (Int.ofNat f)
      rw [ycn] at e0
      rw [e0] at g1
      have := Option.some.inj g1
      simp at this
      omega
    subst e
    exact ⟨a, h, by rw [g3]; exact g2⟩
  · cases h
/-- of the text that is read: a fact that stays, where little is changed -/
theorem gG_step {K K1 : Nat → Nat → Int} {b a c : Int} (hf : K1 63 2 ≤ 0 → K 63 2 ≤ 0) (l : ∀ w : Nat, (w : Int) < K1 63 43 → (w : Int) < K 63 43 ∨ (a ≤ 5 * (w : Int) ∧ 5 * (w : Int) + 5 ≤ c)) (d : ∀ w : Nat, 5 ≤ w → (w : Int) < 5 + K1 63 44 → (w : Int) < 5 + K 63 44 ∨ (a ≤ 5 * (w : Int) ∧ 5 * (w : Int) + 5 ≤ c)) (s : ∀ w : Nat, w < 11 → K1 81 w = K 81 w ∨ (a ≤ 5 * (w : Int) ∧ 5 * (w : Int) + 5 ≤ c))
    (nb : ∀ f : Nat, (f : Int) < 55 + K1 63 45 → (f : Int) < 55 + K 63 45 ∨ (a ≤ (f : Int) ∧ (f : Int) + 1 ≤ c)) (ng : ∀ f : Nat, (f : Int) < 61 + K1 63 46 → (f : Int) < 61 + K 63 46 ∨ (a ≤ (f : Int) ∧ (f : Int) + 1 ≤ c)) (go : 1 ≤ K1 63 58 → 1 ≤ K 63 58 ∨ (a ≤ 59 ∧ 60 ≤ c)) (ga : 1 ≤ K1 63 59 → 1 ≤ K 63 59 ∨ (a ≤ 60 ∧ 61 ≤ c))
    (top : K 63 23 ≤ K1 63 23) (k66 : ∀ i : Nat, (i : Int) < K 63 23 → K 66 i = K1 66 i) (k67 : ∀ i : Nat, (i : Int) < K 63 23 → K 67 i = K1 67 i) (k68 : ∀ i : Nat, (¬ (a ≤ (i : Int) ∧ (i : Int) < c) ∨ (a ≤ (i : Int) ∧ (i : Int) < b)) → K 68 i = K1 68 i) (k69 : ∀ i : Nat, (¬ (a ≤ (i : Int) ∧ (i : Int) < c) ∨ (a ≤ (i : Int) ∧ (i : Int) < b)) → K 69 i = K1 69 i) (H : gG K b a c) : gG K1 b a c := by
  refine gG_mono hf (fun f h hn => ?_) (fun f hf q L => gLgN_keep hf top (fun j hj _ => k66 j hj) (fun j hj _ => k67 j hj) (k68 f q) (k69 f q) L) H
  rcases h with ⟨w, j, ⟨g0, g1⟩, g2⟩ | ⟨g1, g2, g3⟩ | ⟨g1, g2, g3⟩ | ⟨rfl, g2⟩ | ⟨rfl, g2⟩
  · have hw : (w : Int) < K 63 43 ∧ (w : Int) < 5 ∨ 5 ≤ (w : Int) ∧ (w : Int) < 5 + K 63 44 ∧ (w : Int) < 11 := by
      rcases g1 with ⟨g1, g3⟩ | ⟨g1, g3, g4⟩
      · rcases l w g1 with q | q
        · exact Or.inl ⟨q, g3⟩
        · omega
      · rcases d w (by omega) g3 with q | q
        · exact Or.inr ⟨g1, q, g4⟩
        · omega
    rcases s w (by omega) with q | q
    · rw [q] at g2
      exact Or.inl ⟨w, j, ⟨g0, hw⟩, g2⟩
    · omega
  · rcases nb f g2 with q | q
    · exact Or.inr (Or.inl ⟨g1, q, g3⟩)
    · omega
  · rcases ng f g2 with q | q
    · exact Or.inr (Or.inr (Or.inl ⟨g1, q, g3⟩))
    · omega
  · rcases go g2 with q | q
    · exact Or.inr (Or.inr (Or.inr (Or.inl ⟨rfl, q⟩)))
    · omega
  · rcases ga g2 with q | q
    · exact Or.inr (Or.inr (Or.inr (Or.inr ⟨rfl, q⟩)))
    · omega
theorem ygkF_ok {b0 : Nat} {K K1 : Nat → Nat → Int} {f : Nat} {x ea ec : yE} {b a c : Int} (h9 : yT9 sr) (hR : yRS v st) (hM : ∀ q ∈ st.2.2.2.2.1, yMk b0 sz sr v ws q) (hKe : K = yKo sr ws) (h : ygkF st f x ea ec = true) (hx : yev v x = some (K1 63 f)) (ha : yev v ea = some a) (hc : yev v ec = some c)
    (hK : ∀ tk j', (yrk tk ≠ 63 ∨ j' ≠ f) → K tk j' = K1 tk j') (H : gG K b a c) : gG K1 b a c := by
  unfold ygkF at h
  simp only [Bool.or_eq_true, Bool.and_eq_true] at h
  rcases h with ⟨h0, h⟩ | ⟨h0, h⟩ | ⟨h0, h⟩ | ⟨h0, h⟩ | ⟨h0, h⟩ | ⟨h0, h⟩ | ⟨h0, h⟩ | ⟨h0, h⟩
  all_goals (have h0 := Nat.eq_of_beq_eq_true h0; subst h0)
  · obtain ⟨y, g1, g2⟩ := yfKb_ok h9 h hM
    rw [← hKe] at g2
    have q := ylS_ok g1 hR (ysu_ok g2 hx)
    exact gG_step (fun q => by rw [hK 63 2 (Or.inr (by decide))]; exact q) (fun w q => Or.inl (by rw [hK 63 43 (Or.inr (by decide))]; exact q)) (fun w _ q => Or.inl (by rw [hK 63 44 (Or.inr (by decide))]; exact q)) (fun w _ => Or.inl (hK 81 w (Or.inl (by decide))).symm) (fun w q => Or.inl (by rw [hK 63 45 (Or.inr (by decide))]; exact q)) (fun w q => Or.inl (by rw [hK 63 46 (Or.inr (by decide))]; exact q)) (fun q => Or.inl (by rw [hK 63 58 (Or.inr (by decide))]; exact q)) (fun q => Or.inl (by rw [hK 63 59 (Or.inr (by decide))]; exact q)) (by omega) (fun i _ => hK 66 i (Or.inl (by decide))) (fun i _ => hK 67 i (Or.inl (by decide))) (fun i _ => hK 68 i (Or.inl (by decide))) (fun i _ => hK 69 i (Or.inl (by decide))) H
  · have q := ylS_ok h hR (yoff_ok (y_neg hx))
    exact gG_fault (by omega)
  · obtain ⟨y, g1, g2⟩ := yfKb_ok h9 h hM
    rw [← hKe] at g2
    simp only [Bool.and_eq_true] at g1
    have q1 := ylS_ok g1.1 hR (yoff_ok (ysu_ok hx g2))
    have q2 := ylS_ok g1.2.1 hR (ysu_ok ha (ysc_ok (c := 5) g2))
    have q3 := ylS_ok g1.2.2 hR (ysu_ok (yoff_ok (ysc_ok (c := 5) g2)) hc)
    exact gG_step (fun q => by rw [hK 63 2 (Or.inr (by decide))]; exact q) (fun w q => by by_cases e : (w : Int) < K 63 43; exact Or.inl e; right; omega) (fun w _ q => Or.inl (by rw [hK 63 44 (Or.inr (by decide))]; exact q)) (fun w _ => Or.inl (hK 81 w (Or.inl (by decide))).symm) (fun w q => Or.inl (by rw [hK 63 45 (Or.inr (by decide))]; exact q)) (fun w q => Or.inl (by rw [hK 63 46 (Or.inr (by decide))]; exact q)) (fun q => Or.inl (by rw [hK 63 58 (Or.inr (by decide))]; exact q)) (fun q => Or.inl (by rw [hK 63 59 (Or.inr (by decide))]; exact q)) (Int.le_of_eq (hK 63 23 (Or.inr (by decide)))) (fun i _ => hK 66 i (Or.inl (by decide))) (fun i _ => hK 67 i (Or.inl (by decide))) (fun i _ => hK 68 i (Or.inl (by decide))) (fun i _ => hK 69 i (Or.inl (by decide))) H
  · obtain ⟨y, g1, g2⟩ := yfKb_ok h9 h hM
    rw [← hKe] at g2
    simp only [Bool.and_eq_true] at g1
    have q1 := ylS_ok g1.1 hR (yoff_ok (ysu_ok hx g2))
    have q2 := ylS_ok g1.2.1 hR (ysu_ok ha (yoff_ok (ysc_ok (c := 5) g2)))
    have q3 := ylS_ok g1.2.2 hR (ysu_ok (yoff_ok (ysc_ok (c := 5) g2)) hc)
    exact gG_step (fun q => by rw [hK 63 2 (Or.inr (by decide))]; exact q) (fun w q => Or.inl (by rw [hK 63 43 (Or.inr (by decide))]; exact q)) (fun w _ q => by by_cases e : (w : Int) < 5 + K 63 44; exact Or.inl e; right; omega) (fun w _ => Or.inl (hK 81 w (Or.inl (by decide))).symm) (fun w q => Or.inl (by rw [hK 63 45 (Or.inr (by decide))]; exact q)) (fun w q => Or.inl (by rw [hK 63 46 (Or.inr (by decide))]; exact q)) (fun q => Or.inl (by rw [hK 63 58 (Or.inr (by decide))]; exact q)) (fun q => Or.inl (by rw [hK 63 59 (Or.inr (by decide))]; exact q)) (Int.le_of_eq (hK 63 23 (Or.inr (by decide)))) (fun i _ => hK 66 i (Or.inl (by decide))) (fun i _ => hK 67 i (Or.inl (by decide))) (fun i _ => hK 68 i (Or.inl (by decide))) (fun i _ => hK 69 i (Or.inl (by decide))) H
  · obtain ⟨y, g1, g2⟩ := yfKb_ok h9 h hM
    rw [← hKe] at g2
    simp only [Bool.and_eq_true] at g1
    have q1 := ylS_ok g1.1 hR (yoff_ok (ysu_ok hx g2))
    have q2 := ylS_ok g1.2.1 hR (ysu_ok ha (yoff_ok g2))
    have q3 := ylS_ok g1.2.2 hR (ysu_ok (yoff_ok g2) hc)
    exact gG_step (fun q => by rw [hK 63 2 (Or.inr (by decide))]; exact q) (fun w q => Or.inl (by rw [hK 63 43 (Or.inr (by decide))]; exact q)) (fun w _ q => Or.inl (by rw [hK 63 44 (Or.inr (by decide))]; exact q)) (fun w _ => Or.inl (hK 81 w (Or.inl (by decide))).symm) (fun w q => by by_cases e : (w : Int) < 55 + K 63 45; exact Or.inl e; right; omega) (fun w q => Or.inl (by rw [hK 63 46 (Or.inr (by decide))]; exact q)) (fun q => Or.inl (by rw [hK 63 58 (Or.inr (by decide))]; exact q)) (fun q => Or.inl (by rw [hK 63 59 (Or.inr (by decide))]; exact q)) (Int.le_of_eq (hK 63 23 (Or.inr (by decide)))) (fun i _ => hK 66 i (Or.inl (by decide))) (fun i _ => hK 67 i (Or.inl (by decide))) (fun i _ => hK 68 i (Or.inl (by decide))) (fun i _ => hK 69 i (Or.inl (by decide))) H
  · obtain ⟨y, g1, g2⟩ := yfKb_ok h9 h hM
    rw [← hKe] at g2
    simp only [Bool.and_eq_true] at g1
    have q1 := ylS_ok g1.1 hR (yoff_ok (ysu_ok hx g2))
    have q2 := ylS_ok g1.2.1 hR (ysu_ok ha (yoff_ok g2))
    have q3 := ylS_ok g1.2.2 hR (ysu_ok (yoff_ok g2) hc)
    exact gG_step (fun q => by rw [hK 63 2 (Or.inr (by decide))]; exact q) (fun w q => Or.inl (by rw [hK 63 43 (Or.inr (by decide))]; exact q)) (fun w _ q => Or.inl (by rw [hK 63 44 (Or.inr (by decide))]; exact q)) (fun w _ => Or.inl (hK 81 w (Or.inl (by decide))).symm) (fun w q => Or.inl (by rw [hK 63 45 (Or.inr (by decide))]; exact q)) (fun w q => by by_cases e : (w : Int) < 61 + K 63 46; exact Or.inl e; right; omega) (fun q => Or.inl (by rw [hK 63 58 (Or.inr (by decide))]; exact q)) (fun q => Or.inl (by rw [hK 63 59 (Or.inr (by decide))]; exact q)) (Int.le_of_eq (hK 63 23 (Or.inr (by decide)))) (fun i _ => hK 66 i (Or.inl (by decide))) (fun i _ => hK 67 i (Or.inl (by decide))) (fun i _ => hK 68 i (Or.inl (by decide))) (fun i _ => hK 69 i (Or.inl (by decide))) H
  · have q1 := ylS_ok h.1 hR (yoff_ok ha)
    have q2 := ylS_ok h.2 hR (yoff_ok (y_neg hc))
    exact gG_step (fun q => by rw [hK 63 2 (Or.inr (by decide))]; exact q) (fun w q => Or.inl (by rw [hK 63 43 (Or.inr (by decide))]; exact q)) (fun w _ q => Or.inl (by rw [hK 63 44 (Or.inr (by decide))]; exact q)) (fun w _ => Or.inl (hK 81 w (Or.inl (by decide))).symm) (fun w q => Or.inl (by rw [hK 63 45 (Or.inr (by decide))]; exact q)) (fun w q => Or.inl (by rw [hK 63 46 (Or.inr (by decide))]; exact q)) (fun _ => Or.inr ⟨by omega, by omega⟩) (fun q => Or.inl (by rw [hK 63 59 (Or.inr (by decide))]; exact q)) (Int.le_of_eq (hK 63 23 (Or.inr (by decide)))) (fun i _ => hK 66 i (Or.inl (by decide))) (fun i _ => hK 67 i (Or.inl (by decide))) (fun i _ => hK 68 i (Or.inl (by decide))) (fun i _ => hK 69 i (Or.inl (by decide))) H
  · have q1 := ylS_ok h.1 hR (yoff_ok ha)
    have q2 := ylS_ok h.2 hR (yoff_ok (y_neg hc))
    exact gG_step (fun q => by rw [hK 63 2 (Or.inr (by decide))]; exact q) (fun w q => Or.inl (by rw [hK 63 43 (Or.inr (by decide))]; exact q)) (fun w _ q => Or.inl (by rw [hK 63 44 (Or.inr (by decide))]; exact q)) (fun w _ => Or.inl (hK 81 w (Or.inl (by decide))).symm) (fun w q => Or.inl (by rw [hK 63 45 (Or.inr (by decide))]; exact q)) (fun w q => Or.inl (by rw [hK 63 46 (Or.inr (by decide))]; exact q)) (fun q => Or.inl (by rw [hK 63 58 (Or.inr (by decide))]; exact q)) (fun _ => Or.inr ⟨by omega, by omega⟩) (Int.le_of_eq (hK 63 23 (Or.inr (by decide)))) (fun i _ => hK 66 i (Or.inl (by decide))) (fun i _ => hK 67 i (Or.inl (by decide))) (fun i _ => hK 68 i (Or.inl (by decide))) (fun i _ => hK 69 i (Or.inl (by decide))) H
theorem ygkW_ok {b0 : Nat} {K K1 : Nat → Nat → Int} {t j : Nat} {ix eb ea ec : yE} {b a c : Int} (h9 : yT9 sr) (hR : yRS v st) (hM : ∀ q ∈ st.2.2.2.2.1, yMk b0 sz sr v ws q) (hKe : K = yKo sr ws) (h : ygkW st t ix eb ea ec = true) (hix : yev v ix = some (j : Int)) (hb : yev v eb = some b) (ha : yev v ea = some a) (hc : yev v ec = some c)
    (hK : ∀ tk j', (yrk tk ≠ t ∨ j' ≠ j) → K tk j' = K1 tk j') (H : gG K b a c) : gG K1 b a c := by
  unfold ygkW at h
  simp only [Bool.or_eq_true, Bool.and_eq_true] at h
  rcases h with ⟨h0, h⟩ | ⟨h0, h1, h2, h3⟩ | ⟨h0, h1, h2⟩
  · obtain ⟨y, g1, g2⟩ := yfKb_ok h9 h hM
    rw [← hKe] at g2
    have q := ylS_ok g1 hR (ysu_ok g2 hix)
    rcases h0 with h0 | h0
    all_goals (have h0 := Nat.eq_of_beq_eq_true h0; subst h0)
    · exact gG_step (fun q => by rw [hK 63 2 (Or.inl (by decide))]; exact q) (fun w q => Or.inl (by rw [hK 63 43 (Or.inl (by decide))]; exact q)) (fun w _ q => Or.inl (by rw [hK 63 44 (Or.inl (by decide))]; exact q)) (fun w _ => Or.inl (hK 81 w (Or.inl (by decide))).symm) (fun w q => Or.inl (by rw [hK 63 45 (Or.inl (by decide))]; exact q)) (fun w q => Or.inl (by rw [hK 63 46 (Or.inl (by decide))]; exact q)) (fun q => Or.inl (by rw [hK 63 58 (Or.inl (by decide))]; exact q)) (fun q => Or.inl (by rw [hK 63 59 (Or.inl (by decide))]; exact q)) (Int.le_of_eq (hK 63 23 (Or.inl (by decide)))) (fun i q => hK 66 i (Or.inr (by omega))) (fun i _ => hK 67 i (Or.inl (by decide))) (fun i _ => hK 68 i (Or.inl (by decide))) (fun i _ => hK 69 i (Or.inl (by decide))) H
    · exact gG_step (fun q => by rw [hK 63 2 (Or.inl (by decide))]; exact q) (fun w q => Or.inl (by rw [hK 63 43 (Or.inl (by decide))]; exact q)) (fun w _ q => Or.inl (by rw [hK 63 44 (Or.inl (by decide))]; exact q)) (fun w _ => Or.inl (hK 81 w (Or.inl (by decide))).symm) (fun w q => Or.inl (by rw [hK 63 45 (Or.inl (by decide))]; exact q)) (fun w q => Or.inl (by rw [hK 63 46 (Or.inl (by decide))]; exact q)) (fun q => Or.inl (by rw [hK 63 58 (Or.inl (by decide))]; exact q)) (fun q => Or.inl (by rw [hK 63 59 (Or.inl (by decide))]; exact q)) (Int.le_of_eq (hK 63 23 (Or.inl (by decide)))) (fun i _ => hK 66 i (Or.inl (by decide))) (fun i q => hK 67 i (Or.inr (by omega))) (fun i _ => hK 68 i (Or.inl (by decide))) (fun i _ => hK 69 i (Or.inl (by decide))) H
  · have q1 := ylS_ok h1 hR (ysu_ok ha hix)
    have q2 := ylS_ok h2 hR (yoff_ok (ysu_ok hix hc))
    have q3 := ylS_ok h3 hR (ysu_ok hb hix)
    rcases h0 with h0 | h0
    all_goals (have h0 := Nat.eq_of_beq_eq_true h0; subst h0)
    · exact gG_step (fun q => by rw [hK 63 2 (Or.inl (by decide))]; exact q) (fun w q => Or.inl (by rw [hK 63 43 (Or.inl (by decide))]; exact q)) (fun w _ q => Or.inl (by rw [hK 63 44 (Or.inl (by decide))]; exact q)) (fun w _ => Or.inl (hK 81 w (Or.inl (by decide))).symm) (fun w q => Or.inl (by rw [hK 63 45 (Or.inl (by decide))]; exact q)) (fun w q => Or.inl (by rw [hK 63 46 (Or.inl (by decide))]; exact q)) (fun q => Or.inl (by rw [hK 63 58 (Or.inl (by decide))]; exact q)) (fun q => Or.inl (by rw [hK 63 59 (Or.inl (by decide))]; exact q)) (Int.le_of_eq (hK 63 23 (Or.inl (by decide)))) (fun i _ => hK 66 i (Or.inl (by decide))) (fun i _ => hK 67 i (Or.inl (by decide))) (fun i q => hK 68 i (Or.inr (by omega))) (fun i _ => hK 69 i (Or.inl (by decide))) H
    · exact gG_step (fun q => by rw [hK 63 2 (Or.inl (by decide))]; exact q) (fun w q => Or.inl (by rw [hK 63 43 (Or.inl (by decide))]; exact q)) (fun w _ q => Or.inl (by rw [hK 63 44 (Or.inl (by decide))]; exact q)) (fun w _ => Or.inl (hK 81 w (Or.inl (by decide))).symm) (fun w q => Or.inl (by rw [hK 63 45 (Or.inl (by decide))]; exact q)) (fun w q => Or.inl (by rw [hK 63 46 (Or.inl (by decide))]; exact q)) (fun q => Or.inl (by rw [hK 63 58 (Or.inl (by decide))]; exact q)) (fun q => Or.inl (by rw [hK 63 59 (Or.inl (by decide))]; exact q)) (Int.le_of_eq (hK 63 23 (Or.inl (by decide)))) (fun i _ => hK 66 i (Or.inl (by decide))) (fun i _ => hK 67 i (Or.inl (by decide))) (fun i _ => hK 68 i (Or.inl (by decide))) (fun i q => hK 69 i (Or.inr (by omega))) H
  · have h0 := Nat.eq_of_beq_eq_true h0
    subst h0
    have q1 := ylS_ok h1 hR (ysu_ok ha (ysc_ok (c := 5) hix))
    have q2 := ylS_ok h2 hR (ysu_ok (yoff_ok (ysc_ok (c := 5) hix)) hc)
    exact gG_step (fun q => by rw [hK 63 2 (Or.inl (by decide))]; exact q) (fun w q => Or.inl (by rw [hK 63 43 (Or.inl (by decide))]; exact q)) (fun w _ q => Or.inl (by rw [hK 63 44 (Or.inl (by decide))]; exact q)) (fun w _ => by by_cases e : w = j; (right; omega); exact Or.inl (hK 81 w (Or.inr e)).symm) (fun w q => Or.inl (by rw [hK 63 45 (Or.inl (by decide))]; exact q)) (fun w q => Or.inl (by rw [hK 63 46 (Or.inl (by decide))]; exact q)) (fun q => Or.inl (by rw [hK 63 58 (Or.inl (by decide))]; exact q)) (fun q => Or.inl (by rw [hK 63 59 (Or.inl (by decide))]; exact q)) (Int.le_of_eq (hK 63 23 (Or.inl (by decide)))) (fun i _ => hK 66 i (Or.inl (by decide))) (fun i _ => hK 67 i (Or.inl (by decide))) (fun i _ => hK 68 i (Or.inl (by decide))) (fun i _ => hK 69 i (Or.inl (by decide))) H
theorem ygkG_ok {t i j x0 : Nat} {ix : yE} {a : yA} {w : Value} {e0 e1 : va_E} {q : (yE × Nat) × yE × yE × yE} {zn zl zh : Int} (h9 : yT9 sr) (hR : yRS v st) (hM : ∀ q ∈ st.2.2.2.2.1, yMk b sz sr v ws q) (h : ygkG st t ix a q = true) (hix : yev v ix = some (j : Int)) (hsr : sr[i]? = some t) (hw0 : ws[i]? = some (x0, e0)) (h1 : ∀ j', j' ≠ j → yct e1 j' = yct e0 j') (h2 : yct e1 j = some w) (hv : yV b sz sr v a w)
    (hn : yev v q.2.1 = some zn) (hl : yev v q.2.2.1 = some zl) (hh : yev v q.2.2.2 = some zh) (g : yGh q.1.2 zn zl zh (yKo sr ws)) : yGh q.1.2 zn zl zh (yKo sr (ws.set i (x0, e1))) := by
  unfold ygkG at h
  rw [Bool.and_eq_true] at h
  obtain ⟨h0, h⟩ := h
  have h0 := Nat.eq_of_beq_eq_true h0
  rw [h0] at g ⊢
  have g : gG (yKo sr ws) zn zl zh := g
  show gG (yKo sr (ws.set i (x0, e1))) zn zl zh
  have hK : ∀ tk j', (yrk tk ≠ t ∨ j' ≠ j) → yKo sr ws tk j' = yKo sr (ws.set i (x0, e1)) tk j' := fun tk j' => yKo_set h9 hsr hw0 h1 tk j'
  split at h
  · rename_i x
    obtain ⟨y, rfl, hy⟩ := hv
    split at h
    · rename_i ht
      have ht := Nat.eq_of_beq_eq_true ht
      subst ht
      split at h
      · rename_i f
        have e : j = f := by
          have e0 := yev_cn v (Int.ofNat f)
          rw [ycn] at e0
          have := e0.symm.trans hix
          have := Option.some.inj this
          simp at this
          omega
        subst e
        refine ygkF_ok (b0 := b) h9 hR hM rfl h ?_ hl hh hK g
        rw [hy]
        congr 1
        unfold yKo
        rw [yiw_one h9 (by decide) hsr, List.getElem?_set_self (List.getElem?_eq_some_iff.mp hw0).1]
        dsimp only
        rw [h2]
      · cases h
    · exact ygkW_ok (b0 := b) h9 hR hM rfl h hix hn hl hh hK g
  · cases h
theorem ywr_ok {x ix : yE} {t i j : Nat} {a : yA} {w : Value} {e0 e1 : va_E} {kk : yS → Bool} (h9 : yT9 sr) (h : ywr x t ix a st kk = true) (hR : yRS v st) (hM : ∀ q ∈ st.2.2.2.2.1, yMk b sz sr v ws q) (hQ : ∀ q ∈ st.2.2.2.2.2, yPk sr v ws q)
    (hx : yev v x = some (i : Int)) (hix : yev v ix = some (j : Int)) (hsr : sr[i]? = some t) (hw0 : ws[i]? = some (sz + i, e0)) (h1 : ∀ j', j' ≠ j → yct e1 j' = yct e0 j') (h2 : yct e1 j = some w) (hv : yV b sz sr v a w) :
    ∃ st1, kk st1 = true ∧ yRS v st1 ∧ (∀ q ∈ st1.2.2.2.2.1, yMk b sz sr v (ws.set i (sz + i, e1)) q) ∧ ∀ q ∈ st1.2.2.2.2.2, yPk sr v (ws.set i (sz + i, e1)) q := by
  have hR0 := hR
  obtain ⟨nx, B, F, Z, M, P⟩ := st
  simp only [ywr] at h
  have h := ymapP_ok (yfil_ok (yfil_ok h))
  have hil : i < ws.length := (List.getElem?_eq_some_iff.mp hw0).1
  have hset : (ws.set i (sz + i, e1))[i]? = some (sz + i, e1) := List.getElem?_set_self hil
  have hB : yRB v B := hR.2.1
  refine ⟨_, h, hR, fun q hq => ?_, fun q hq => ?_⟩
  · rcases List.mem_cons.mp hq with rfl | hq
    · exact ⟨i, j, _, w, hx, hsr, hix, hset, h2, hv⟩
    · obtain ⟨hq1, hq2⟩ := List.mem_filter.mp hq
      obtain ⟨i', j', cl, w', g1, g2, g3, g4, g5, g6⟩ := hM q hq1
      by_cases hii : i' = i
      · subst hii
        rw [hw0] at g4
        cases g4
        have hjj : j' ≠ j := by
          intro hjj
          subst hjj
          rw [hsr] at g2
          have g2 := Option.some.inj g2
          unfold ykpM at hq2
          simp only [Bool.or_eq_true, Bool.not_eq_true'] at hq2
          rcases hq2 with c1 | c1 | c1
          · rw [← g2, show Nat.beq t t = true from Nat.beq_refl t] at c1; cases c1
          · exact ydf_ok hB c1 g1 hx rfl
          · exact ydf_ok hB c1 g3 hix rfl
        exact ⟨i', j', _, w', g1, g2, g3, hset, by rw [h1 j' hjj]; exact g5, g6⟩
      · exact ⟨i', j', cl, w', g1, g2, g3, by rw [List.getElem?_set_ne (Ne.symm hii)]; exact g4, g5, g6⟩
  · obtain ⟨q0, hq0, rfl⟩ := List.mem_map.mp hq
    obtain ⟨hq1, hq2⟩ := List.mem_filter.mp hq0
    obtain ⟨i', n, lo, hi, g1, g4, g5, g6, g7⟩ := hQ q0 hq1
    have base : yPk sr v (ws.set i (sz + i, e1)) q0 := by
      unfold ykpP at hq2
      rw [Bool.and_eq_true] at hq2
      obtain ⟨hqg, hq2⟩ := hq2
      obtain ⟨g7, g8⟩ := g7
      refine ⟨i', n, lo, hi, g1, g4, g5, g6, fun i2 c2 e2 g2 g3 j' y hj' hy => ?_, by
        rw [Bool.or_eq_true] at hqg
        rcases hqg with hqg | hqg
        · exact yGh_keep g8 fun r hr j' r1 r2 => yKo_set h9 hsr hw0 h1 r.1 j' (ygkA_ok hR0 hix g4 g6 hqg r hr j' r1 r2)
        · exact ygkG_ok h9 hR0 hM hqg hix hsr hw0 h1 h2 hv g4 g5 g6 g8⟩
      by_cases hii : i2 = i
      · subst hii
        rw [hset] at g3
        cases g3
        by_cases hjj : j' = j
        · subst hjj
          rw [hsr] at g2
          have g2 := Option.some.inj g2
          simp only [Bool.or_eq_true, Bool.not_eq_true'] at hq2
          rcases hq2 with c1 | c1 | c1 | c1
          · rw [← g2, show Nat.beq t t = true from Nat.beq_refl t] at c1; cases c1
          · exact absurd e2 (ydf_ok hB c1 g1 hx)
          · have := ylS_ok c1 hR0 (ysu_ok g4 hix); omega
          · obtain ⟨y0, e2, e3, e4⟩ := ywi_ok c1 hR0 hv g5 g6
            subst e2
            have hy : yct e1 j' = some (.int y) := hy
            rw [h2] at hy
            cases hy
            exact ⟨e3, e4⟩
        · have hy : yct e1 j' = some (.int y) := hy
          rw [h1 j' hjj] at hy
          exact g7 i2 _ e2 g2 hw0 j' y hj' hy
      · rw [List.getElem?_set_ne (Ne.symm hii)] at g3
        exact g7 i2 c2 e2 g2 g3 j' y hj' hy
    unfold ygrow
    split
    · rename_i hc
      simp only [Bool.and_eq_true] at hc
      obtain ⟨c0, c1, c2, c3, c4⟩ := hc
      obtain ⟨i', n, lo, hi, g1, g4, g5, g6, g7, g8⟩ := base
      have hn : n = (j : Int) := by
        rw [yeq_ok c3, hix] at g4
        exact (Option.some.inj g4).symm
      subst hn
      rw [yeq_ok c2, hx] at g1
      have g1 := Option.some.inj g1
      refine ⟨(i : Int), (j : Int) + 1, lo, hi, by rw [yeq_ok c2]; exact hx, yoff_ok g4, g5, g6, fun i2 c2' e2 g2 g3 j' y hj' hy => ?_, yGh_low (Nat.le_of_ble_eq_true c0)⟩
      have hii : i2 = i := by omega
      subst hii
      by_cases hjj : j' = j
      · subst hjj
        rw [hset] at g3
        cases g3
        obtain ⟨y0, e2, e3, e4⟩ := ywi_ok c4 hR0 hv g5 g6
        subst e2
        have hy : yct e1 j' = some (.int y) := hy
        rw [h2] at hy
        cases hy
        exact ⟨e3, e4⟩
      · exact g7 i2 c2' (by omega) g2 g3 j' y (by omega) hy
    · exact base
theorem yck_ok {tc : Nat} {ru : yRu} {a : yA} {w : Value} {ty : FieldType} (h : yck st tc ru a = true) (hR : yRS v st) (hv : yV b sz sr v a w) (ht : (tc = 0 ∧ ty = .int) ∨ (tc = 1 ∧ ty = .boolean) ∨ (tc = 2 ∧ ((∃ C, ty = .object C) ∨ ∃ t, ty = .array t)) ∨ (tc = 3 ∧ ty = .long)) : yRuOk sz sr ru w ∧ narrow ty w = w ∧ fits ty w = true := by
  unfold yck at h
  split at h
  · rename_i lo hi
    split at h
    · rename_i x
      simp only [Bool.and_eq_true, Bool.or_eq_true, ile_iff] at h
      obtain ⟨h1, h2, h3⟩ := h
      obtain ⟨y, rfl, hy⟩ := hv
      have g1 := ylS_ok h2 hR (yoff_ok hy)
      have g2 := ylS_ok h3 hR (yoff_ok (y_neg hy))
      refine ⟨⟨y, rfl, by omega, by omega⟩, ?_⟩
      rcases ht with ⟨rfl, rfl⟩ | ⟨rfl, rfl⟩ | ⟨rfl, ht⟩ | ⟨rfl, rfl⟩
      · exact ⟨rfl, rfl⟩
      · rcases h1 with h1 | ⟨-, h4, h5⟩
        · cases h1
        · have hx2 : y = 0 ∨ y = 1 := by
            rcases (show y.toInt = 0 ∨ y.toInt = 1 by omega) with q | q
            · left; exact Int32.toInt_inj.mp q
            · right; exact Int32.toInt_inj.mp q
          rcases hx2 with rfl | rfl <;> exact ⟨by decide, by decide⟩
      · rcases h1 with h1 | ⟨h1, -⟩ <;> cases h1
      · rcases h1 with h1 | ⟨h1, -⟩ <;> cases h1
    · cases h
  · split at h
    · obtain ⟨y, rfl, hy⟩ := hv
      have h := Nat.eq_of_beq_eq_true h
      refine ⟨⟨y, rfl⟩, ?_⟩
      rcases ht with ⟨e1, rfl⟩ | ⟨e1, rfl⟩ | ⟨e1, ht⟩ | ⟨e1, rfl⟩
      · omega
      · omega
      · omega
      · exact ⟨rfl, rfl⟩
    · cases h
  · split at h
    · rw [Bool.and_eq_true] at h
      obtain ⟨h1, h2⟩ := h
      have h1 := Nat.eq_of_beq_eq_true h1
      have h2 := Nat.eq_of_beq_eq_true h2
      obtain ⟨i, rfl, hi, hsr⟩ := hv
      refine ⟨⟨i, rfl, by rw [h2]; exact hsr⟩, ?_⟩
      rcases ht with ⟨e1, rfl⟩ | ⟨e1, rfl⟩ | ⟨e1, ht⟩ | ⟨e1, rfl⟩
      · omega
      · omega
      · rcases ht with ⟨C, rfl⟩ | ⟨t, rfl⟩ <;> exact ⟨rfl, rfl⟩
      · omega
    · cases h
theorem yWd_set {i t : Nat} {kd : yKd} {x : va_E} (hW : yWd sz sr tt ca ws) (hi : sr[i]? = some t) (ht : zget tt t = some kd) (hty : yTy sz sr ca kd x) : yWd sz sr tt ca (ws.set i (sz + i, x)) := by
  obtain ⟨h1, h2⟩ := hW
  refine ⟨by simp [h1], fun j q hj => ?_⟩
  by_cases hji : j = i
  · subst hji
    have hl : j < ws.length := by rw [h1]; exact (List.getElem?_eq_some_iff.mp hi).1
    rw [List.getElem?_set_self hl] at hj
    cases hj
    exact ⟨rfl, t, kd, hi, ht, hty⟩
  · rw [List.getElem?_set_ne (Ne.symm hji)] at hj
    exact h2 j q hj
theorem yFr_set {i t : Nat} {e0 e1 : va_E} (hF : yFr sr ms ws0 ws) (hi : sr[i]? = some t) (hw : ws[i]? = some (sz + i, e0)) (h1 : ∀ j, ymo ms t (yfk e1 j) = false → yfk e0 j = yfk e1 j ∧ yct e1 j = yct e0 j) : yFr sr ms ws0 (ws.set i (sz + i, e1)) := by
  intro i' t' j q0 q g1 g2 g3 g4
  by_cases hii : i' = i
  · subst hii
    rw [List.getElem?_set_self (List.getElem?_eq_some_iff.mp hw).1] at g2
    cases g2
    rw [hi] at g3
    cases g3
    obtain ⟨a1, a2⟩ := h1 j g4
    show yct e1 j = _
    rw [a2]
    exact hF i' t j q0 _ g1 hw hi (by show ymo ms t (yfk e0 j) = false; rw [a1]; exact g4)
  · rw [List.getElem?_set_ne (Ne.symm hii)] at g2
    exact hF i' t' j q0 q g1 g2 g3 g4
theorem ys_put {P : yPar} {a b0 index : Nat} {own C : String} {T : u_T} {N : Nat} {ty0 : Nat → FieldType} {ty : FieldType} (h9 : yT9 sr) (h : yx_put P a b0 pc L S st k = true) (hk : ∀ cf, k cf = true → yJ p l e R s m args below meth c Q b sz sr tt D ca ms ws0 nL K0 S0 v cf) (hPt : P.1 = tt) (hPm : P.2.1 = ms)
    (hx : p.tables.exec = Jvm.exec) (hb : c.code = cc) (hts : ∀ w ∈ zW, w.before args s = true) (hin : ∀ w ∈ u_ws C T N, w ∈ zW) (hty : ∀ k, k < N → parseFieldDescriptor (T k).2.2.1 = some (ty0 k)) (hnm : ∀ a, a < N → ∀ b, b < N → a ≠ b → (T a).2.1 ≠ (T b).2.1) (hown : s.vm.findClass own = some m.cls) (hK : va_K D vwCl (zTys ca) s)
    (hc : vwCl[a]? = some (C, T, N)) (hkN : b0 / 8 < N) (hlink : Cond.fieldLink own index (T (b0 / 8)).1 (T (b0 / 8)).2.1 (T (b0 / 8)).2.2.1 ∈ zW)
    (hfin : (T (b0 / 8)).2.2.2 = false ∨ ((T (b0 / 8)).2.2.2 = true ∧ meth.name = "<init>" ∧ (T (b0 / 8)).1 = own)) (hd : parseFieldDescriptor (T (b0 / 8)).2.2.1 = some ty)
    (htc : (b0 / 2 % 4 = 0 ∧ ty = .int) ∨ (b0 / 2 % 4 = 1 ∧ ty = .boolean) ∨ (b0 / 2 % 4 = 2 ∧ ((∃ C, ty = .object C) ∨ ∃ t, ty = .array t)) ∨ (b0 / 2 % 4 = 3 ∧ ty = .long)) (hdg : decode cc pc = .ok (.putfield index, 3)) : yJat p l e R s m args below meth c Q b sz sr tt D ca ms ws0 nL K0 S0 v (pc, L, S, st) := by
  subst hPt; subst hPm
  unfold yx_put at h
  split at h
  · rename_i a0 x t r
    split at h
    · rename_i q0 ci rs ht
      rw [Bool.and_eq_true, zst_eq] at h
      obtain ⟨hci, h⟩ := h
      have hci := Nat.eq_of_beq_eq_true hci
      subst hci
      split at h
      · rename_i ru hru
        simp only [Bool.and_eq_true, yint_eq] at h
        obtain ⟨hck, hmo, h⟩ := h
        rw [zget_eq] at hru
        intro H ls stk locs hR hH hL hS
        obtain ⟨w1, s1, rfl, hw1, hS1⟩ := ySR_cons hS
        obtain ⟨w2, s2, rfl, hw2, hS2⟩ := ySR_cons hS1
        obtain ⟨i, rfl, hi, hsr⟩ := hw2
        obtain ⟨ws, hW, hP, hD, hV, hM, hQ, hF⟩ := hH
        obtain ⟨e0, hw, hty1⟩ := y_cell hW hsr ht
        obtain ⟨vs, rfl, hlen, ⟨q1, hq1, hlen2⟩, hall⟩ := hty1
        rw [hc] at hq1
        cases hq1
        have hlt : b0 / 8 < vs.length := by rw [hlen2]; exact hkN
        obtain ⟨hok, hn, hft⟩ := yck_ok hck hR hw1 htc
        obtain ⟨st1, k1, k2, k3, k4⟩ := ywr_ok h9 (e0 := .inr (ci, vs)) (e1 := .inr (ci, vs.set (b0 / 8) w1)) (j := b0 / 8) h hR hM hQ hi (yev_cn v _) hsr hw (fun j' hj' => by show (vs.set (b0 / 8) w1)[j']? = vs[j']?; rw [List.getElem?_set_ne (Ne.symm hj')]) (by show (vs.set (b0 / 8) w1)[b0 / 8]? = _; rw [List.getElem?_set_self hlt]) hw1
        have hW1 : yWd sz sr P.1 ca (ws.set i (sz + i, .inr (ci, vs.set (b0 / 8) w1))) := yWd_set hW hsr ht ⟨_, rfl, by simpa using hlen, ⟨_, hc, by simpa using hlen2⟩, fun f ru2 w hf1 hf2 => by
          by_cases hff : f = b0 / 8
          · subst hff
            rw [hru] at hf1
            cases hf1
            rw [List.getElem?_set_self hlt] at hf2
            cases hf2
            exact hok
          · rw [List.getElem?_set_ne (Ne.symm hff)] at hf2
            exact hall f ru2 w hf1 hf2⟩
        have hF1 : yFr sr P.2.1 ws0 (ws.set i (sz + i, .inr (ci, vs.set (b0 / 8) w1))) := yFr_set hF hsr hw fun j hj => ⟨rfl, by
          have hjj : j ≠ b0 / 8 := fun w => by
            have hj : ymo P.2.1 t j = false := hj
            rw [w, hmo] at hj
            cases hj
          show (vs.set (b0 / 8) w1)[j]? = vs[j]?
          rw [List.getElem?_set_ne (Ne.symm hjj)]⟩
        have fin : ∀ (H1 : Heap) (locs1 : List Loc), va_P D vwCl (ws.set i (sz + i, .inr (ci, vs.set (b0 / 8) w1))) H1 → va_D (zA sz) (ws.set i (sz + i, .inr (ci, vs.set (b0 / 8) w1))) → va_S (zA sz) s.heap H1 locs1 → W p l e R s m args below meth c H1 locs1 K0 S0 Q (F0 m (pc + 3) ls s2) :=
          fun H1 locs1 hP1 hD1 hV1 => yon0 hk k1 k2 ⟨_, hW1, hP1, hD1, hV1, k3, k4, hF1⟩ hL hS2
        rcases hfin with hfin | ⟨hfin, hnm2, hdecl⟩
        · exact va_put hx hb hts hin ty0 hty hnm hown hK hP hD hV i hw hc (b0 / 8) hkN (hts _ hlink) (fun _ z => z) hfin hd hn hft hlt hdg fin
        · exact va_putF hx hb hts hin ty0 hty hnm hown hK hP hD hV i hw hc (b0 / 8) hkN (hts _ hlink) (fun _ z => z) hfin hnm2 hdecl hd hn hft hlt hdg fin
      · cases h
    · cases h
  · cases h
theorem y_inx {x : Int32} {len : Nat} (h0 : 0 ≤ x.toInt) (hl : x.toInt < len) : vp_in x len ∧ x.toNatClampNeg = x.toInt.toNat ∧ (x.toNatClampNeg : Int) = x.toInt ∧ x.toNatClampNeg < len ∧ ¬ x < 0 := by
  have e : x.toNatClampNeg = x.toInt.toNat := rfl
  have hn : ¬ x < 0 := fun q => by
    have := Int32.lt_iff_toInt_lt.mp q
    have a0 : (0 : Int32).toInt = 0 := by decide
    omega
  refine ⟨?_, e, by omega, by omega, hn⟩
  rintro (q | q)
  · exact hn q
  · omega
theorem yix_ok {ix len : yE} {x : Int32} {n : Int} (h : yix st ix len = true) (hR : yRS v st) (hx : yev v ix = some x.toInt) (hn : yev v len = some n) : 0 ≤ x.toInt ∧ x.toInt < n := by
  unfold yix at h
  rw [Bool.and_eq_true] at h
  have h1 := ylS_ok h.1 hR (y_neg hx)
  have h2 := ylS_ok h.2 hR (yoff_ok (ysu_ok hx hn))
  omega
theorem ys_alen {P : yPar} {n : Nat} {xs : Nat → Int32} (h : yx_alen P pc L S st k = true) (hk : ∀ cf, k cf = true → yJ p l e R s m args below meth c Q b sz sr tt D ca ms ws0 nL K0 S0 v cf) (hPt : P.1 = tt)
    (hx : p.tables.exec = Jvm.exec) (hb : c.code = cc) (hK : va_K D vwCl (zTys ca) s) (hX : va_X b n xs s s.heap) (hbz : b < sz) (hs : s.heap.size ≥ sz) (hlen : ∀ sl, P.2.2.2 = some sl → yev v sl.1 = some (n : Int)) (hn31 : P.2.2.2 = none ∨ n < 2147483648) (hl31 : ∀ t q kd ln ar, zget tt t = some (q, .inr (kd, ln, ar)) → ln < 2147483648) (hdg : decode cc pc = .ok (.arraylength, 1)) : yJat p l e R s m args below meth c Q b sz sr tt D ca ms ws0 nL K0 S0 v (pc, L, S, st) := by
  subst hPt
  have cv : ∀ n : Nat, n < 2147483648 → (Int32.ofNat n).toInt = (n : Int) := fun n hn => Int32.toInt_ofNat_of_lt hn
  unfold yx_alen at h
  split at h
  · rename_i x t r
    split at h
    · rename_i q0 kd len ar ht
      rw [yint_eq] at h
      intro H ls stk locs hR hH hL hS
      obtain ⟨w1, s1, rfl, hw1, hS1⟩ := ySR_cons hS
      obtain ⟨i, rfl, hi, hsr⟩ := hw1
      obtain ⟨ws, hW, hP, hD, hV, hM, hQ, hF⟩ := hH
      obtain ⟨e0, hw, hty⟩ := y_cell hW hsr ht
      have hl := hl31 _ _ _ _ _ ht
      rcases hty with ⟨h3, f, rfl, -⟩ | ⟨h3, f, rfl⟩
      · exact va_alen hx hb hK hP i kd hw (z_ty kd (by omega)) rfl hdg (yon0 hk h hR ⟨ws, hW, hP, hD, hV, hM, hQ, hF⟩ hL ⟨⟨_, rfl, by rw [cv _ hl]; exact yev_cn v _⟩, hS1⟩)
      · exact va_alen hx hb hK hP i 3 hw (z_ty 3 (by omega)) rfl hdg (yon0 hk h hR ⟨ws, hW, hP, hD, hV, hM, hQ, hF⟩ hL ⟨⟨_, rfl, by rw [cv _ hl]; exact yev_cn v _⟩, hS1⟩)
    · cases h
  · intro H ls stk locs hR hH hL hS
    obtain ⟨w1, s1, rfl, hw1, hS1⟩ := ySR_cons hS
    have e1 : w1 = .ref b := hw1
    subst e1
    obtain ⟨ws, hW, hP, hD, hV, hM, hQ, hF⟩ := hH
    split at h
    · rename_i sl hsl
      have hle := hlen sl hsl
      exact va_slen hx hb hX (by omega) (Nat.not_le.mpr hbz) hV hdg (yon0 hk h hR ⟨ws, hW, hP, hD, hV, hM, hQ, hF⟩ hL ⟨⟨_, rfl, by rw [cv _ (hn31.resolve_left (by rw [hsl]; simp))]; exact hle⟩, hS1⟩)
    · cases h
  · cases h
end yStep2
