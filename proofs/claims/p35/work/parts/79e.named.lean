/-! The reference's lines with a name: laws, deeds, bans, guilds. -/
section rNamed2
variable {g : Nat → Int} {N d i : Nat} {D D0 E F1 Fn : xC} {r : tX tZ} {z : tZ} {s : tS} {nm : Nat → List Int} {fl : Nat → Bool} {days x : Int}
theorem rl_law (hd : 9 ≤ d) (h : rSt g N s D) (hk : tkK g N s.1 = 4) (hl : (s.2.2.2.1 1).length < 5) :
    ∃ F, xM d 188 [mR] D = some (0, F) ∧ rOB g N s.2.2.2.2.1 (sLaw (tkK g N) (tkP g N) (tkV g N) s) F := by
  obtain ⟨d, rfl⟩ := Nat.exists_eq_add_of_le' (show 1 ≤ d by omega)
  have hS := h
  obtain ⟨g1, g2, g3, g4, g5, g6, g7, g8, g9, g10⟩ := h
  obtain ⟨F1, n1, n2, n3, n4, n5⟩ := rl_new (d := d) (s := 1) (by omega) g1 g2 g3 (by show tkK g N s.1 ≠ 25; omega) (by show tkK g N s.1 ≠ 24; omega) (by decide) hl
  generalize hr1 : zNew (tkK g N) (tkP g N) (tkV g N) (s.2.2.2.1 1) (s.1, s.2.1, 0, s.2.2.2.2.2) = r1 at *
  have e47 : F1 74 47 = s.2.2.1 := by rw [n4 _ _ rfl (by decide), g5]
  obtain ⟨x2, F2, k1, k2, k3, k4⟩ := rl_told (d := d) (j := 5) (c := 491328337011) (lo := 0) (hi := s.2.2.1 - 1) (by omega) n5 n2 rfl (f := fun z => zNum (tkK g N) (tkP g N) (tkV g N) 0 (s.2.2.1 - 1) z) (fun z _ => rfl)
  have hst := rO_st (i := 89) (j := (s.2.2.2.1 1).length) (x := x2) k2 (by omega)
  have c1 : F1 74 43 = ((s.2.2.2.1 1).length : Int) := (n5.2.2 1 (by decide)).1
  have p1 : (F1 74 30).toNat = 89 := by rw [n5.2.1.2.2.2.2.2.2.2.2.1]; rfl
  have g43 : D 74 43 = ((s.2.2.2.1 1).length : Int) := (g1.2.2 1 (by decide)).1
  have eix : xix ((s.2.2.2.1 1).length : Int) 5 = true := xixz.mpr ⟨by omega, by omega⟩
  generalize hE : (xst F2 89 (s.2.2.2.1 1).length x2) = E2 at *
  obtain ⟨F3, l1, l2, l3, -⟩ := rl_want (d := d) (j := 6) (c := 26982) (by omega) n5 hst rfl
  have c3 : F3 74 43 = ((s.2.2.2.1 1).length : Int) := ((rLS_E n5 (rO_E l2)).2.2 1 (by decide)).1
  obtain ⟨F4, m1, m2, m3⟩ := rl_sets (d := d) (a := (s.2.2.2.1 1).length) (by omega) n5 l2 (by omega)
  obtain ⟨F, q1, q2⟩ := rl_cnt (t := 1) (e := sLaw (tkK g N) (tkP g N) (tkV g N) s) (by decide) hl hS rfl n5 n4 n3 m2 (chain_conv (A := fun x => (zFeast (tkK g N) (tkP g N) (tkV g N) s.2.2.1 x).bind fun z => zActor (tkK g N) (tkP g N) (tkV g N) (s.2.2.2.1 0) (s.2.2.2.1 1).length z) (by unfold sLaw; rw [hr1]) (by simp only [xbind_assoc, zFeast, zActor]; rfl))
  refine ⟨F, ?_, q2⟩
  rw [xm_X12_readLaw, g43, show (.inl (6 : Int) : xV) = .inl (bsx 1 : Int) from rfl, n1]
  simp only [Option.bind_some]
  rw [e47, w32_id (by omega) (by omega), k1]
  simp only [Option.bind_some]
  simp only [c1, p1, eix, Int.toNat_natCast, hE, xna, Bool.and_self, cond_true, Bool.cond_decide]
  rw [l1]
  simp only [Option.bind_some]
  rw [c3, m1]
  simp only [Option.bind_some]
  exact q1
theorem rl_deed (hd : 9 ≤ d) (h : rSt g N s D) (hk : tkK g N s.1 = 9) (hl : (s.2.2.2.1 2).length < 6) :
    ∃ F, xM d 189 [mR] D = some (0, F) ∧ rOB g N s.2.2.2.2.1 (sDeed (tkK g N) (tkP g N) (tkV g N) s) F := by
  obtain ⟨d, rfl⟩ := Nat.exists_eq_add_of_le' (show 1 ≤ d by omega)
  have hS := h
  obtain ⟨g1, g2, g3, g4, g5, g6, g7, g8, g9, g10⟩ := h
  obtain ⟨F1, n1, n2, n3, n4, n5⟩ := rl_new (d := d) (s := 2) (by omega) g1 g2 g3 (by show tkK g N s.1 ≠ 25; omega) (by show tkK g N s.1 ≠ 24; omega) (by decide) hl
  generalize hr1 : zNew (tkK g N) (tkP g N) (tkV g N) (s.2.2.2.1 2) (s.1, s.2.1, 0, s.2.2.2.2.2) = r1 at *
  have g44 : D 74 44 = ((s.2.2.2.1 2).length : Int) := (g1.2.2 2 (by decide)).1
  have hw : 5 + (s.2.2.2.1 2).length < 11 := by omega
  have ew : w32 (5 + ((s.2.2.2.1 2).length : Int)) = ((5 + (s.2.2.2.1 2).length : Nat) : Int) := by rw [w32_id (by omega) (by omega)]; omega
  obtain ⟨F3, l1, l2, l3, -⟩ := rl_want (d := d) (j := 6) (c := 26982) (by omega) n5 n2 rfl
  have c3 : F3 74 44 = ((s.2.2.2.1 2).length : Int) := ((rLS_E n5 (rO_E l2)).2.2 2 (by decide)).1
  obtain ⟨F4, m1, m2, m3⟩ := rl_sets (d := d) (a := 5 + (s.2.2.2.1 2).length) (by omega) n5 l2 hw
  obtain ⟨F, q1, q2⟩ := rl_cnt (t := 2) (e := sDeed (tkK g N) (tkP g N) (tkV g N) s) (by decide) hl hS rfl n5 n4 n3 m2 (chain_conv (A := fun x => zActor (tkK g N) (tkP g N) (tkV g N) (s.2.2.2.1 0) (5 + (s.2.2.2.1 2).length) x) (by unfold sDeed; rw [hr1]) (by simp only [xbind_assoc, zActor]; rfl))
  refine ⟨F, ?_, q2⟩
  rw [xm_X12_readDeed, g44, show (.inl (11 : Int) : xV) = .inl (bsx 2 : Int) from rfl, n1]
  simp only [Option.bind_some]
  rw [l1]
  simp only [Option.bind_some]
  rw [c3, ew, m1]
  simp only [Option.bind_some, Bool.cond_decide]
  exact q1
theorem rl_ban (hd : 9 ≤ d) (h : rSt g N s D) (hk : tkK g N s.1 = 10) (hl : (s.2.2.2.1 3).length < 4) :
    ∃ F, xM d 190 [mR] D = some (0, F) ∧ rOB g N s.2.2.2.2.1 (sBan (tkK g N) (tkP g N) (tkV g N) s) F := by
  obtain ⟨d, rfl⟩ := Nat.exists_eq_add_of_le' (show 1 ≤ d by omega)
  have hS := h
  obtain ⟨g1, g2, g3, g4, g5, g6, g7, g8, g9, g10⟩ := h
  obtain ⟨F1, n1, n2, n3, n4, n5⟩ := rl_new (d := d) (s := 3) (by omega) g1 g2 g3 (by show tkK g N s.1 ≠ 25; omega) (by show tkK g N s.1 ≠ 24; omega) (by decide) hl
  generalize hr1 : zNew (tkK g N) (tkP g N) (tkV g N) (s.2.2.2.1 3) (s.1, s.2.1, 0, s.2.2.2.2.2) = r1 at *
  have e47 : F1 74 47 = s.2.2.1 := by rw [n4 _ _ rfl (by decide), g5]
  obtain ⟨x2, F2, k1, k2, k3, k4⟩ := rl_told (d := d) (j := 5) (c := 491328337011) (lo := 0) (hi := s.2.2.1 - 1) (by omega) n5 n2 rfl (f := fun z => zNum (tkK g N) (tkP g N) (tkV g N) 0 (s.2.2.1 - 1) z) (fun z _ => rfl)
  have hst := rO_st (i := 90) (j := (s.2.2.2.1 3).length) (x := x2) k2 (by omega)
  have c1 : F1 74 45 = ((s.2.2.2.1 3).length : Int) := (n5.2.2 3 (by decide)).1
  have p1 : (F1 74 31).toNat = 90 := by rw [n5.2.1.2.2.2.2.2.2.2.2.2.1]; rfl
  have g45 : D 74 45 = ((s.2.2.2.1 3).length : Int) := (g1.2.2 3 (by decide)).1
  have eix : xix ((s.2.2.2.1 3).length : Int) 4 = true := xixz.mpr ⟨by omega, by omega⟩
  have ew : w32 (55 + ((s.2.2.2.1 3).length : Int)) = ((55 + (s.2.2.2.1 3).length : Nat) : Int) := by rw [w32_id (by omega) (by omega)]; omega
  generalize hE : (xst F2 90 (s.2.2.2.1 3).length x2) = E2 at *
  obtain ⟨F3, l1, l2, l3, -⟩ := rl_want (d := d) (j := 6) (c := 26982) (by omega) n5 hst rfl
  have c3 : F3 74 45 = ((s.2.2.2.1 3).length : Int) := ((rLS_E n5 (rO_E l2)).2.2 3 (by decide)).1
  obtain ⟨F4, m1, m2, m3, -⟩ := rl_formula (d := d) (w := 55 + (s.2.2.2.1 3).length) (by omega) n5 l2 (Nat.lt_of_lt_of_le (Nat.add_lt_add_left hl 55) (by decide))
  obtain ⟨F, q1, q2⟩ := rl_cnt (t := 3) (e := sBan (tkK g N) (tkP g N) (tkV g N) s) (by decide) hl hS rfl n5 n4 n3 m2 (chain_conv (A := fun x => ((zFeast (tkK g N) (tkP g N) (tkV g N) s.2.2.1 x).bind fun z => zAcc (tkK g N) (tkP g N) 6 z).bind fun z => zFrm (tkK g N) (tkP g N) (tkV g N) (s.2.2.2.1 0) (55 + (s.2.2.2.1 3).length) z) (by unfold sBan; rw [hr1]) (by simp only [xbind_assoc, zFeast]; rfl))
  refine ⟨F, ?_, q2⟩
  rw [xm_X12_readBan, g45, show (.inl (17 : Int) : xV) = .inl (bsx 3 : Int) from rfl, n1]
  simp only [Option.bind_some]
  rw [e47, w32_id (by omega) (by omega), k1]
  simp only [Option.bind_some]
  simp only [c1, p1, eix, Int.toNat_natCast, hE, xna, Bool.and_self, cond_true, Bool.cond_decide]
  rw [l1]
  simp only [Option.bind_some]
  rw [c3, ew, m1]
  simp only [Option.bind_some]
  exact q1
theorem rl_guild (hd : 9 ≤ d) (h : rSt g N s D) (hk : tkK g N s.1 = 13) (hl : (s.2.2.2.1 4).length < 4) :
    ∃ F, xM d 191 [mR] D = some (0, F) ∧ rOB g N s.2.2.2.2.1 (sGuild (tkK g N) (tkP g N) (tkV g N) s) F := by
  obtain ⟨d, rfl⟩ := Nat.exists_eq_add_of_le' (show 1 ≤ d by omega)
  have hS := h
  obtain ⟨g1, g2, g3, g4, g5, g6, g7, g8, g9, g10⟩ := h
  obtain ⟨F1, n1, n2, n3, n4, n5⟩ := rl_new (d := d) (s := 4) (by omega) g1 g2 g3 (by show tkK g N s.1 ≠ 25; omega) (by show tkK g N s.1 ≠ 24; omega) (by decide) hl
  generalize hr1 : zNew (tkK g N) (tkP g N) (tkV g N) (s.2.2.2.1 4) (s.1, s.2.1, 0, s.2.2.2.2.2) = r1 at *
  obtain ⟨F2, k1, k2, k3, -⟩ := rl_want (d := d) (j := 14) (c := 28518) (by omega) n5 n2 rfl
  have hL2 := rLS_E n5 (rO_E k2)
  have c43 : F2 74 43 = ((s.2.2.2.1 1).length : Int) := (hL2.2.2 1 (by decide)).1
  have c46 : F2 74 46 = ((s.2.2.2.1 4).length : Int) := (hL2.2.2 4 (by decide)).1
  have p1 : (F2 74 32).toNat = 91 := by rw [hL2.2.1.2.2.2.2.2.2.2.2.2.2.1]; rfl
  obtain ⟨x2, F3, j1, j2, j3, -⟩ := rl_old (d := d) (s := 1) (by omega) n5 k2 (by decide)
  have hst := rO_st (i := 91) (j := (s.2.2.2.1 4).length) (x := x2) j2 (by omega)
  have g46 : D 74 46 = ((s.2.2.2.1 4).length : Int) := (g1.2.2 4 (by decide)).1
  have eix : xix ((s.2.2.2.1 4).length : Int) 4 = true := xixz.mpr ⟨by omega, by omega⟩
  have ew : w32 (61 + ((s.2.2.2.1 4).length : Int)) = ((61 + (s.2.2.2.1 4).length : Nat) : Int) := by rw [w32_id (by omega) (by omega)]; omega
  generalize hE : (xst F3 91 (s.2.2.2.1 4).length x2) = E2 at *
  obtain ⟨F4, l1, l2, l3, -⟩ := rl_want (d := d) (j := 15) (c := 512735736947) (by omega) n5 hst rfl
  have c4 : F4 74 46 = ((s.2.2.2.1 4).length : Int) := ((rLS_E n5 (rO_E l2)).2.2 4 (by decide)).1
  obtain ⟨F5, m1, m2, m3, -⟩ := rl_formula (d := d) (w := 61 + (s.2.2.2.1 4).length) (by omega) n5 l2 (Nat.lt_of_lt_of_le (Nat.add_lt_add_left hl 61) (by decide))
  obtain ⟨F, q1, q2⟩ := rl_cnt (t := 4) (e := sGuild (tkK g N) (tkP g N) (tkV g N) s) (by decide) hl hS rfl n5 n4 n3 m2 (chain_conv (A := fun x => (((zAcc (tkK g N) (tkP g N) 14 x).bind fun z => zOld (tkK g N) (tkP g N) (tkV g N) (s.2.2.2.1 1) z).bind fun z => zAcc (tkK g N) (tkP g N) 15 z).bind fun z => zFrm (tkK g N) (tkP g N) (tkV g N) (s.2.2.2.1 0) (61 + (s.2.2.2.1 4).length) z) (by unfold sGuild; rw [hr1]) (by simp only [xbind_assoc]; rfl))
  refine ⟨F, ?_, q2⟩
  rw [xm_X12_readGuild, g46, show (.inl (21 : Int) : xV) = .inl (bsx 4 : Int) from rfl, n1]
  simp only [Option.bind_some]
  rw [k1]
  simp only [Option.bind_some]
  rw [c43, show (.inl (6 : Int) : xV) = .inl (bsx 1 : Int) from rfl, j1]
  simp only [Option.bind_some]
  simp only [c46, p1, eix, Int.toNat_natCast, hE, xna, Bool.and_self, cond_true, Bool.cond_decide]
  rw [l1]
  simp only [Option.bind_some]
  rw [c4, ew, m1]
  simp only [Option.bind_some]
  exact q1
end rNamed2
