/-! The reference's lines with a name. -/
section rNamed
variable {g : Nat → Int} {N d i : Nat} {D D0 E F1 Fn : xC} {r : tX tZ} {z : tZ} {s : tS} {nm : Nat → List Int} {fl : Nat → Bool} {days x : Int}
theorem rl_end {t : Nat} (ht : t < 5) (hlen : (nm t).length < mxx t) (hdays : 0 ≤ days ∧ days ≤ 9) (h0 : rLS g N nm F1) (hx : rdWd (F1 76 (bsx t + (nm t).length)) x ∧ 0 ≤ x ∧ x < 282429536481 ∧ x ∉ nm t) (h : rO g N nm F1 (.ok z) Fn) (h3 : Fn 74 3 = -1) (h47 : Fn 74 47 = days) (h58 : Fn 74 58 = (if fl 1 = true then 1 else 0)) (h59 : Fn 74 59 = (if fl 2 = true then 1 else 0)) :
    rOB g N fl (.ok (z, days, tAdd nm t x, 0)) (xst Fn 74 (42 + t) (((nm t).length + 1 : Nat) : Int)) := by
  obtain ⟨⟨b1, b2, b3, b4, b5, b7⟩, c2, c3⟩ := h
  have hL := rLS_E h0 (rSE_0 c3)
  refine ⟨⟨?_, ?_, fun u hu => ⟨?_, ?_⟩⟩, ⟨?_, by rw [xst_nn (by omega), b2], by rw [xst_nn (by omega), b3], b4, rE_same b5 (Nat.le_refl _) (fun i j q => by rw [xst_nn (by omega)]), b7⟩, ?_, by rw [xst_nn (by omega), h3], by rw [xst_nn (by omega), h47], hdays, by rw [xst_nn (by omega), h58]; rfl, by rw [xst_nn (by omega), h59]; rfl⟩
  · obtain ⟨q1, q2, q3, q4⟩ := hL.1
    exact ⟨by rw [xst_nn (by omega), q1], by rw [xst_nn (by omega), q2], q3, fun j hj => by rw [xst_nn (by omega)]; exact q4 j hj⟩
  · obtain ⟨a1, a2, a3, a4, a5, a6, a7, a8, a9, e1, e2, e3, e4, e5⟩ := hL.2.1
    exact ⟨by rw [xst_nn (by omega), a1], by rw [xst_nn (by omega), a2], by rw [xst_nn (by omega), a3], by rw [xst_nn (by omega), a4], by rw [xst_nn (by omega), a5], by rw [xst_nn (by omega), a6], by rw [xst_nn (by omega), a7], by rw [xst_nn (by omega), a8], by rw [xst_nn (by omega), a9], by rw [xst_nn (by omega), e1], by rw [xst_nn (by omega), e2], by rw [xst_nn (by omega), e3], by rw [xst_nn (by omega), e4], rPz_st (rPz_in (by omega)) e5⟩
  · show (xst Fn 74 (42 + t) (((nm t).length + 1 : Nat) : Int)) 74 (42 + u) = ((tAdd nm t x u).length : Int)
    unfold tAdd
    by_cases hut : u = t
    · subst hut
      rw [if_pos rfl, xst_at, List.length_append]; rfl
    · rw [if_neg hut, xst_nn (by omega)]
      exact (hL.2.2 u hu).1
  · show (tAdd nm t x u).length ≤ mxx u
    unfold tAdd
    by_cases hut : u = t
    · subst hut
      rw [if_pos rfl, List.length_append]
      exact hlen
    · rw [if_neg hut]
      exact (hL.2.2 u hu).2
  · obtain ⟨a1, a2, a3, a4, a5⟩ := b1
    refine ⟨?_, ?_, fun q => ?_, fun q => ?_, fun q => ?_⟩
    all_goals rw [xst_nn (by omega)]
    · exact a1
    · exact a2
    · exact a3 q
    · exact a4 q
    · exact a5 q
  · intro u hu
    show rNm (bsx u) (tAdd nm t x u) _
    unfold tAdd
    by_cases hut : u = t
    · subst hut
      rw [if_pos rfl]
      refine ⟨fun j y hy => ?_, fun y hy => ?_, List.nodup_append.mpr ⟨(c2 u hu).2.2, List.nodup_cons.mpr ⟨List.not_mem_nil, List.nodup_nil⟩, fun a ha b hb e => hx.2.2.2 (by rw [List.mem_singleton] at hb; rw [← hb, ← e]; exact ha)⟩⟩
      · rw [xst_nn (by omega)]
        rcases Nat.lt_or_ge j (nm u).length with hj | hj
        · rw [List.getElem?_append_left hj] at hy
          exact (c2 u hu).1 j y hy
        · rw [List.getElem?_append_right hj] at hy
          have hj2 : j - (nm u).length = 0 := by
            rcases Nat.eq_zero_or_pos (j - (nm u).length) with q | q
            · exact q
            · rw [List.getElem?_eq_none (by simp only [List.length_singleton]; omega)] at hy; cases hy
          rw [hj2] at hy
          have hyx : x = y := Option.some.inj hy
          have hjl : j = (nm u).length := by omega
          rw [hjl, ← hyx, c3 _ _ (by simp [rS5, rS4, rS1])]
          exact hx.1
      · rcases List.mem_append.mp hy with hy | hy
        · exact (c2 u hu).2.1 y hy
        · rw [List.mem_singleton] at hy
          rw [hy]
          exact ⟨hx.2.1, hx.2.2.1⟩
    · rw [if_neg hut]
      exact rNm_same (c2 u hu) (fun j => by rw [xst_nn (by omega)])
theorem rOB_err {e : Int × Int} (h : rO g N nm D0 (.error e) D) : rOB g N fl (.error e) D := ⟨h.1, h.2.1, h.2.2.1⟩
/-- a counted line's end: the count goes up without a fault -/
theorem rl_cnt {t : Nat} {rr : tX tZ} {e : tX tB} (ht : t < 5) (hlen : (nm t).length < mxx t) (h0 : rSt g N s D) (hnm : nm = s.2.2.2.1) (hL1 : rLS g N nm F1) (hfr : ∀ i j, rSE i j = false → i ≠ 76 → F1 i j = D i j) {r1 : tX tZ} (hx : ∀ x, r1 = .ok x → (rdWd (F1 76 (bsx t + (nm t).length)) x.2.2.1 ∧ 0 ≤ x.2.2.1 ∧ x.2.2.1 < 282429536481 ∧ x.2.2.1 ∉ nm t) ∧ F1 74 3 = D 74 3) (h : rO g N nm F1 rr Fn)
    (he : (∀ q, rr = .error q → e = .error q) ∧ (∀ z, rr = .ok z → ∃ x, r1 = .ok x ∧ e = .ok (z, s.2.2.1, tAdd nm t x.2.2.1, 0))) :
    ∃ F, (if Fn 74 2 ≠ 0 then some ((0 : Int), Fn) else some (0, xst Fn 74 (42 + t) (w32 (Fn 74 (42 + t) + 1)))) = some (0, F) ∧ rOB g N s.2.2.2.2.1 e F := by
  subst hnm
  cases rr with
  | error q =>
    rw [he.1 q rfl, if_pos (by have := h.1; have := h.2.2.1; omega)]
    exact ⟨Fn, rfl, rOB_err h⟩
  | ok z =>
    obtain ⟨x, hx1, hx2⟩ := he.2 z rfl
    obtain ⟨g1, g2, g3, g4, g5, g6, g7, g8, g9, g10⟩ := h0
    have hL := rLS_E hL1 (rO_E h)
    have hc := (hL.2.2 t ht).1
    have hm : mxx t ≤ 6 := by
      unfold mxx
      repeat' split
      all_goals omega
    rw [if_neg (fun q => q h.1.2.1), hx2, hc, w32_id (by omega) (by omega)]
    refine ⟨_, rfl, ?_⟩
    have h47 : ∀ j, rS5 74 j = false → Fn 74 j = F1 74 j := fun j q => h.2.2 _ _ q
    have := rl_end (fl := s.2.2.2.2.1) ht hlen g6 hL1 (hx x hx1).1 h (by rw [h47 3 rfl, (hx x hx1).2, g4]) (by rw [h47 47 rfl, hfr _ _ rfl (by decide), g5]) (by rw [h47 58 rfl, hfr _ _ rfl (by decide), g9]) (by rw [h47 59 rfl, hfr _ _ rfl (by decide), g10])
    exact this
theorem xbind_assoc {A B C : Type} (x : tX A) (f : A → tX B) (k : B → tX C) : (x.bind f).bind k = x.bind fun a => (f a).bind k := by cases x <;> rfl
theorem chain_conv {t : Nat} {r1 rr : tX tZ} {A : tZ → tX tZ} {e : tX tB} (hspec : e = r1.bind fun x => (A x).bind fun z => .ok (z, days, tAdd nm t x.2.2.1, 0)) (hrr : rr = r1.bind A) :
    (∀ q, rr = .error q → e = .error q) ∧ (∀ z, rr = .ok z → ∃ x, r1 = .ok x ∧ e = .ok (z, days, tAdd nm t x.2.2.1, 0)) := by
  subst hspec
  subst hrr
  cases r1 with
  | error y =>
    exact ⟨fun q hq => (by cases hq; rfl), fun z hz => (by cases hz)⟩
  | ok x =>
    constructor
    · intro q hq
      have hq : A x = .error q := hq
      show (A x).bind _ = _
      rw [hq]; rfl
    · intro z hz
      have hz : A x = .ok z := hz
      refine ⟨x, rfl, ?_⟩
      show (A x).bind _ = _
      rw [hz]; rfl
theorem rl_thing (hd : 6 ≤ d) (h : rSt g N s D) (hk : tkK g N s.1 = 2) (hl : (s.2.2.2.1 0).length < 6) :
    ∃ F, xM d 185 [mR] D = some (0, F) ∧ rOB g N s.2.2.2.2.1 (sThing (tkK g N) (tkP g N) (tkV g N) s) F := by
  obtain ⟨d, rfl⟩ := Nat.exists_eq_add_of_le' (show 1 ≤ d by omega)
  have hS := h
  obtain ⟨g1, g2, g3, g4, g5, g6, g7, g8, g9, g10⟩ := h
  obtain ⟨F1, n1, n2, n3, n4, n5⟩ := rl_new (d := d) (s := 0) (by omega) g1 g2 g3 (by show tkK g N s.1 ≠ 25; omega) (by show tkK g N s.1 ≠ 24; omega) (by decide) hl
  generalize hr1 : zNew (tkK g N) (tkP g N) (tkV g N) (s.2.2.2.1 0) (s.1, s.2.1, 0, s.2.2.2.2.2) = r1 at *
  obtain ⟨x2, F2, k1, k2, k3, k4⟩ := rl_num (d := d) (lo := 0) (hi := 999) (by omega) n5 n2 (f := fun z => zNum (tkK g N) (tkP g N) (tkV g N) 0 999 z) (fun z _ => rfl)
  have hst := rO_pt (i := 87) (j := (s.2.2.2.1 0).length) (x := x2) k2 k3 (by omega)
  have c1 : F1 74 42 = ((s.2.2.2.1 0).length : Int) := (n5.2.2 0 (by decide)).1
  have p1 : (F1 74 28).toNat = 87 := by rw [n5.2.1.2.2.2.2.2.2.1]; rfl
  have hLE := rLS_E n5 (rO_E hst)
  have hv : (xst F2 87 (s.2.2.2.1 0).length x2) 87 (s.2.2.2.1 0).length = x2 := by rw [xst_at]
  have g42 : D 74 42 = ((s.2.2.2.1 0).length : Int) := (g1.2.2 0 (by decide)).1
  have eix : xix ((s.2.2.2.1 0).length : Int) 6 = true := xixz.mpr ⟨by omega, by omega⟩
  generalize hE : (xst F2 87 (s.2.2.2.1 0).length x2) = E2 at *
  have c2 : E2 74 42 = ((s.2.2.2.1 0).length : Int) := (hLE.2.2 0 (by decide)).1
  have p2 : (E2 74 28).toNat = 87 := by rw [hLE.2.1.2.2.2.2.2.2.1]; rfl
  have p3 : (E2 74 29).toNat = 88 := by rw [hLE.2.1.2.2.2.2.2.2.2.1]; rfl
  obtain ⟨x3, F3, l1, l2, l3, l4⟩ := rl_told (d := d) (j := 3) (c := 29807) (lo := x2) (hi := 999) (by omega) n5 hst rfl (f := fun z => zNum (tkK g N) (tkP g N) (tkV g N) z.2.2.1 999 z) (fun z hz => by
    have : z.2.2.1 = x2 := by
      cases hq : (r1.bind fun z => zNum (tkK g N) (tkP g N) (tkV g N) 0 999 z) with
      | error y => rw [hq] at hz; cases hz
      | ok z0 =>
        rw [hq] at hz
        have hz : zAcc (tkK g N) (tkP g N) ((3 : Nat) : Int) (zPut 87 (s.2.2.2.1 0).length z0) = .ok z := hz
        unfold zAcc at hz
        split at hz
        · cases hz; exact k3 z0 hq
        · cases hz
    show zNum (tkK g N) (tkP g N) (tkV g N) z.2.2.1 999 z = zNum (tkK g N) (tkP g N) (tkV g N) x2 999 z
    rw [this])
  have hst3 := rO_pt (i := 88) (j := (s.2.2.2.1 0).length) (x := x3) l2 l3 (by omega)
  obtain ⟨F, m1, m2⟩ := rl_cnt (t := 0) (e := sThing (tkK g N) (tkP g N) (tkV g N) s) (by decide) hl hS rfl n5 n4 n3 hst3 (chain_conv (A := fun x => ((((zNum (tkK g N) (tkP g N) (tkV g N) 0 999 x).bind fun z => .ok (zPut 87 (s.2.2.2.1 0).length z)).bind fun z => zAcc (tkK g N) (tkP g N) 3 z).bind fun z => zNum (tkK g N) (tkP g N) (tkV g N) z.2.2.1 999 z).bind fun z => .ok (zPut 88 (s.2.2.2.1 0).length z)) (by unfold sThing; rw [hr1]) (by simp only [xbind_assoc]; rfl))
  refine ⟨F, ?_, m2⟩
  rw [xm_X12_readThing, g42, show (.inl (0 : Int) : xV) = .inl (bsx 0 : Int) from rfl, n1]
  simp only [Option.bind_some]
  rw [show (.inl (bsx 0 : Int) : xV) = .inl (0 : Int) from rfl, k1]
  simp only [Option.bind_some]
  simp only [c1, p1, eix, Int.toNat_natCast, hE, c2, p2, p3, hv, xna, Bool.and_self, cond_true, Bool.cond_decide]
  rw [l1]
  simp only [Option.bind_some]
  exact m1
end rNamed
