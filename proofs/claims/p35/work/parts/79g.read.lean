/-! A line takes a token at least; the reference reads all. -/
section rdMono
variable {k pl v : Nat → Int} {th : List Int}
theorem fJoin_ge {f : tF → tX tF} {lv : Nat} (hf : ∀ s s', f s = .ok s' → s.1 ≤ s'.1) : ∀ (n : Nat) (s s' : tF), fJoin k f lv n s = .ok s' → s.1 ≤ s'.1 := by
  intro n
  induction n with
  | zero => intro s s' h; cases h; exact Nat.le_refl _
  | succ n ih =>
    intro s s' h
    simp only [fJoin] at h
    split at h
    · cases hq : f (s.1 + 1, s.2) with
      | error x => rw [hq] at h; cases h
      | ok s1 =>
        rw [hq] at h
        have h : fJoin k f lv n s1 = .ok s' := h
        have a1 : s.1 + 1 ≤ s1.1 := hf _ _ hq
        have a2 := ih s1 s' h
        omega
    · cases h; exact Nat.le_refl _
theorem fLv_ge : ∀ (n lv dp : Nat) (s s' : tF), fLv k pl v th n lv dp s = .ok s' → s.1 ≤ s'.1 := by
  intro n
  induction n with
  | zero => intro lv dp s s' h; cases h
  | succ n ih =>
    intro lv dp s s' h
    simp only [fLv] at h
    split at h
    · unfold fUnit at h
      split at h
      · cases h
      · split at h
        · cases h; exact Nat.le_succ _
        · split at h
          · split at h
            · cases h; exact Nat.le_succ _
            · cases h
          · split at h
            · split at h
              · cases h
              · cases hq : fLv k pl v th n 0 (dp + 1) (s.1 + 1, s.2.1 + 1, s.2.2 + 1) with
                | error x => rw [hq] at h; cases h
                | ok s1 =>
                  rw [hq] at h
                  have a1 : s.1 + 1 ≤ s1.1 := ih _ _ _ _ hq
                  have h : (if k s1.1 = 41 then (.ok (s1.1 + 1, s1.2) : tX tF) else tErr k pl s1.1 2) = .ok s' := h
                  split at h
                  · cases h
                    show s.1 ≤ s1.1 + 1
                    omega
                  · cases h
            · cases h
    · split at h
      · split at h
        · cases h
        · have a1 : s.1 + 1 ≤ s'.1 := ih _ _ _ _ h
          omega
      · cases hq : fLv k pl v th n (lv + 1) dp s with
        | error x => rw [hq] at h; cases h
        | ok s1 =>
          rw [hq] at h
          have a1 := ih _ _ _ _ hq
          have a2 := fJoin_ge (fun s s' hs => ih _ _ s s' hs) _ s1 s' h
          omega
def zGe (f : tZ → tX tZ) : Prop := ∀ z z', f z = .ok z' → z.1 ≤ z'.1
theorem zGe_bind {f h : tZ → tX tZ} (hf : zGe f) (hh : zGe h) : zGe fun z => (f z).bind h := by
  intro z z' q
  cases hq : f z with
  | error x => simp only [hq] at q; cases q
  | ok z1 =>
    simp only [hq] at q
    have a1 := hf _ _ hq
    have a2 := hh z1 z' q
    omega
theorem zAcc_ge {c : Int} : zGe fun z => zAcc k pl c z := by
  intro z z' h
  simp only [zAcc] at h
  split at h
  · cases h; exact Nat.le_succ _
  · cases h
theorem zNum_ge {lo hi : Int} : zGe fun z => zNum k pl v lo hi z := by
  intro z z' h
  simp only [zNum] at h
  split at h
  · split at h
    · cases h; exact Nat.le_succ _
    · cases h
  · cases h
theorem zNum_ge2 {hi : Int} : zGe fun z => zNum k pl v z.2.2.1 hi z := fun z z' h => zNum_ge (lo := z.2.2.1) z z' h
theorem zPut_ge {i j : Nat} : zGe fun z => .ok (zPut i j z) := fun z z' h => by cases h; exact Nat.le_refl _
theorem zCnt_ge {i j : Nat} {x : Int} : zGe fun z => .ok (zCnt i j x z) := fun z z' h => by cases h; exact Nat.le_refl _
theorem zNew_ge {nm : List Int} : zGe fun z => zNew k pl v nm z := by
  intro z z' h
  simp only [zNew] at h
  split at h
  · split at h
    · cases h
    · cases h
      show z.1 ≤ z.1 + 2
      omega
  · cases h
theorem zOld_ge {nm : List Int} : zGe fun z => zOld k pl v nm z := by
  intro z z' h
  simp only [zOld] at h
  split at h
  · split at h
    · cases h; exact Nat.le_succ _
    · cases h
  · cases h
theorem zFrm_ge {w : Nat} : zGe fun z => zFrm k pl v th w z := by
  intro z z' h
  simp only [zFrm, sFrm] at h
  cases hq : fLv k pl v th 50 0 0 (z.1, z.2.1, 0) with
  | error x => rw [hq] at h; cases h
  | ok s1 =>
    rw [hq] at h
    have a1 := fLv_ge _ _ _ _ _ hq
    have a1 : z.1 ≤ s1.1 := a1
    cases h
    exact a1
theorem zFrm_ge2 {w i j : Nat} : zGe fun z => zFrm k pl v th w (zPut i j z) := fun z z' h => zFrm_ge (w := w) (zPut i j z) z' h
theorem zSet_ge {a c : Nat} : zGe fun z => zSet k pl v th a c z := zGe_bind (zGe_bind (zGe_bind zOld_ge zAcc_ge) zFrm_ge2) zCnt_ge
theorem zSets_ge {a : Nat} : ∀ n : Nat, zGe fun z => zSets k pl v th a n z := by
  intro n
  induction n with
  | zero => intro z z' h; cases h
  | succ n ih =>
    refine zGe_bind zSet_ge fun z z' h => ?_
    split at h
    · have := ih _ _ h
      split at this
      · exact this
      · have this : z.1 + 1 ≤ z'.1 := this
        omega
    · cases h; exact Nat.le_refl _
theorem zActor_ge {a : Nat} : zGe fun z => zActor k pl v th a z := zGe_bind (zGe_bind (zGe_bind zAcc_ge zFrm_ge) zAcc_ge) (zSets_ge 4)
theorem zFeast_ge {days : Int} : zGe fun z => zFeast k pl v days z := zGe_bind zAcc_ge zNum_ge
theorem zGe_out {f : tZ → tX tZ} (hf : zGe f) {z : tZ} {G : tZ → tX tB} {q : tB} (hG : ∀ y q, G y = .ok q → y.1 ≤ q.1.1) (h : (f z).bind G = .ok q) : z.1 ≤ q.1.1 := by
  cases hq : f z with
  | error x => rw [hq] at h; cases h
  | ok z1 =>
    rw [hq] at h
    have a1 := hf _ _ hq
    have a2 := hG z1 q h
    omega
theorem sBody_ge {s : tS} {q : tB} (h : sBody k pl v s = .ok q) : s.1 ≤ q.1.1 := by
  have fin : ∀ (d : Int) (nm : Nat → List Int) (f : Nat) (y : tZ) (q : tB), (.ok (y, d, nm, f) : tX tB) = .ok q → y.1 ≤ q.1.1 := fun d nm f y q hq => by cases hq; exact Nat.le_refl _
  have fin2 : ∀ (d : Int) (nm : Nat → List Int) (f : Nat) (y : tZ) (q : tB), (.ok (zPut 0 0 y, d, nm, f) : tX tB) = .ok q → y.1 ≤ q.1.1 := fun d nm f y q hq => by cases hq; exact Nat.le_refl _
  unfold sBody at h
  split at h
  · have := zGe_out (z := (s.1 + 1, s.2.1, 0, s.2.2.2.2.2)) zNum_ge (fun y q hq => zGe_out (zGe_bind zAcc_ge zNum_ge) (fun y q => fin2 _ _ _ y q) hq) h
    have : s.1 + 1 ≤ q.1.1 := this
    omega
  · split at h
    · exact zGe_out (z := (s.1, s.2.1, 0, s.2.2.2.2.2)) zNew_ge (fun y q hq => zGe_out (zGe_bind (zGe_bind (zGe_bind (zGe_bind zNum_ge zPut_ge) zAcc_ge) zNum_ge2) zPut_ge) (fun y q => fin _ _ _ y q) hq) h
    · split at h
      · exact zGe_out (z := (s.1, s.2.1, 0, s.2.2.2.2.2)) zNew_ge (fun y q hq => zGe_out (zGe_bind zFeast_ge zActor_ge) (fun y q => fin _ _ _ y q) hq) h
      · split at h
        · exact zGe_out (z := (s.1, s.2.1, 0, s.2.2.2.2.2)) zNew_ge (fun y q hq => zGe_out zActor_ge (fun y q => fin _ _ _ y q) hq) h
        · split at h
          · exact zGe_out (z := (s.1, s.2.1, 0, s.2.2.2.2.2)) zNew_ge (fun y q hq => zGe_out (zGe_bind (zGe_bind zFeast_ge zAcc_ge) zFrm_ge) (fun y q => fin _ _ _ y q) hq) h
          · split at h
            · have := zGe_out (z := (s.1 + 1, s.2.1, 0, s.2.2.2.2.2)) zFrm_ge (fun y q => fin _ _ _ y q) h
              have : s.1 + 1 ≤ q.1.1 := this
              omega
            · split at h
              · have := zGe_out (z := (s.1 + 1, s.2.1, 0, s.2.2.2.2.2)) zFrm_ge (fun y q => fin _ _ _ y q) h
                have : s.1 + 1 ≤ q.1.1 := this
                omega
              · split at h
                · exact zGe_out (z := (s.1, s.2.1, 0, s.2.2.2.2.2)) zNew_ge (fun y q hq => zGe_out (zGe_bind (zGe_bind (zGe_bind zAcc_ge zOld_ge) zAcc_ge) zFrm_ge) (fun y q => fin _ _ _ y q) hq) h
                · cases h
theorem sLine_gt {s s' : tS} (h : sLine k pl v s = .ok s') : s.1 + 1 ≤ s'.1 := by
  unfold sLine at h
  cases hq : sBody k pl v s with
  | error x => rw [hq] at h; cases h
  | ok q =>
    rw [hq] at h
    have a1 := sBody_ge hq
    have h : ((zAcc k pl 59 q.1).bind fun z => (.ok (z.1, z.2.1, q.2.1, q.2.2.1, tTell s.2.2.2.2.1 q.2.2.2, z.2.2.2) : tX tS)) = .ok s' := h
    unfold zAcc at h
    split at h
    · cases h
      show s.1 + 1 ≤ q.1.1 + 1
      omega
    · cases h
end rdMono
section rReads
variable {g : Nat → Int} {N d : Nat} {D : xC} {s : tS}
theorem rl_lines (hd : 10 ≤ d) (hN : N ≤ 1700) : ∀ (n : Nat) (s : tS) (D : xC), rSt g N s D → 1701 ≤ s.1 + n →
    ∃ F, xw_X12_readAll d (98, [some mR], [], D) = some (0, F) ∧ rOL g N (sAll (tkK g N) (tkP g N) (tkV g N) n s) F := by
  intro n
  induction n with
  | zero =>
    intro s D h hn
    have : s.1 ≤ N := h.2.1.2.2.2.2.2
    omega
  | succ n ih =>
    intro s D h hn
    have h20 := h.2.1.2.1
    obtain ⟨so1, so2, so3⟩ := rt_sort h.2.1.1
    rw [xl_X12_readAll_98]
    simp only [Bool.cond_decide, sAll]
    rw [if_neg (fun q => q h20)]
    by_cases hk : tkK g N s.1 = 24
    · rw [if_pos (so3.mpr hk), if_pos hk]
      exact ⟨D, rfl, h⟩
    · rw [if_neg (fun q => hk (so3.mp q)), if_neg hk]
      obtain ⟨F1, k1, k2⟩ := rl_line hd h hk
      rw [k1]
      simp only [Option.bind_some]
      cases hs : sLine (tkK g N) (tkP g N) (tkV g N) s with
      | error x =>
        rw [hs] at k2
        obtain ⟨a1, a2, a3⟩ := k2
        refine ⟨F1, ?_, a1, a2, a3⟩
        rw [xl_X12_readAll_98]
        simp only [Bool.cond_decide]
        rw [if_pos (by omega)]
      | ok s1 =>
        rw [hs] at k2
        have := sLine_gt hs
        exact ih s1 F1 k2 (by omega)
/-- the reference reads a text as it is told -/
theorem r_reads (hd : 11 ≤ d) (h0 : D 74 0 = 75) (h1 : D 74 1 = (N : Int)) (hN : N ≤ 1700) (hg : ∀ j, j < N → rdB (D 75 j) (g j)) (hP : rPt D) :
    ∃ F, xM d 193 [mR] D = some (0, F) ∧ F 74 2 = (rdOut g N).1 ∧ F 74 3 = (rdOut g N).2.1 ∧ ((rdOut g N).1 = 0 → F 74 42 = (rdOut g N).2.2) ∧ (∀ s, sAll (tkK g N) (tkP g N) (tkV g N) 1701 tS0 = .ok s → rSt g N s F) := by
  obtain ⟨d, rfl⟩ := Nat.exists_eq_add_of_le' (show 1 ≤ d by omega)
  rw [xm_X12_readAll]
  generalize hE : (xst (xst (xst (xst (xst (xst (xst (xst (xst (xst (xst (xst (xst (xst (xst (xst (xst (xst D 74 5 (D 74 1)) 74 1 0) 74 4 0) 74 2 0) 74 3 (-1)) 74 42 0) 74 43 0) 74 44 0) 74 45 0) 74 46 0) 74 47 7) 74 48 4) 74 56 0) 74 57 0) 74 58 0) 74 59 0) 74 24 0) 74 23 0) = E
  have e : ∀ i j, E i j = if i = 74 then (if j = 23 then 0 else if j = 24 then 0 else if j = 59 then 0 else if j = 58 then 0 else if j = 57 then 0 else if j = 56 then 0 else if j = 48 then 4 else if j = 47 then 7 else if j = 46 then 0 else if j = 45 then 0 else if j = 44 then 0 else if j = 43 then 0 else if j = 42 then 0 else if j = 3 then -1 else if j = 2 then 0 else if j = 4 then 0 else if j = 1 then 0 else if j = 5 then D 74 1 else D i j) else D i j := by
    intro i j
    rw [← hE]
    simp only [xst_get]
    by_cases hi : i = 74
    · subst hi
      simp only [true_and, if_true]
    · simp only [hi, false_and, if_false]
  have hT : rTx g N E := ⟨by rw [e]; simpa using h0, by rw [e]; simpa using h1, hN, fun j hj => by rw [e]; simpa using hg j hj⟩
  have hPE : rPt E := by
    have hz : rPz E := by
      rw [← hE]
      exact rPz_st (by decide) (rPz_st (by decide) (rPz_st (by decide) (rPz_st (by decide) (rPz_st (by decide) (rPz_st (by decide) (rPz_st (by decide) (rPz_st (by decide) (rPz_st (by decide) (rPz_st (by decide) (rPz_st (by decide) (rPz_st (by decide) (rPz_st (by decide) (rPz_st (by decide) (rPz_st (by decide) (rPz_st (by decide) (rPz_st (by decide) (rPz_st (by decide) (hP.2.2.2.2.2.2.2.2.2.2.2.2.2))))))))))))))))))
    obtain ⟨a1, a2, a3, a4, a5, a6, a7, a8, a9, e1, e2, e3, e4, -⟩ := hP
    refine ⟨?_, ?_, ?_, ?_, ?_, ?_, ?_, ?_, ?_, ?_, ?_, ?_, ?_, hz⟩
    all_goals rw [e]
    all_goals simpa
  obtain ⟨F1, k1, k2, k3⟩ := rt_token (d := d) (p := 0) (by omega) hT (by rw [e]; rfl) (Nat.zero_le _)
  rw [k1]
  simp only [Option.bind_some]
  have hL : rLS g N (fun _ => []) F1 := ⟨rTx_S0 hT k3, rPt_same hPE k3 rfl, fun t ht => ⟨by
    have h5 : t = 0 ∨ t = 1 ∨ t = 2 ∨ t = 3 ∨ t = 4 := by omega
    rcases h5 with rfl | rfl | rfl | rfl | rfl <;> (rw [k3 _ _ rfl, e]; rfl), Nat.zero_le _⟩⟩
  have hC0 : rC tC0 [] F1 := by
    unfold rC
    refine ⟨fun w l hw => (by cases hw), fun x hx => ?_, fun i j x hi hx => ?_⟩
    · have hx : (some 4 : Option Int) = some x := hx
      rw [k3 _ _ rfl, e, ← Option.some.inj hx]; rfl
    · have hx : (if i = 0 ∧ j = 0 then some 4 else none : Option Int) = some x := hx
      rw [if_neg (by omega)] at hx
      cases hx
  have hE0 : rE 0 tC0 F1 := by
    refine ⟨[], ⟨?_, fun j x hx => by cases hx⟩, Nat.le_refl 0, hC0⟩
    rw [k3 _ _ rfl, e]; rfl
  have hS : rSt g N tS0 F1 := by
    refine ⟨hL, ⟨k2, ?_, ?_, ⟨Int.le_refl 0, (show (0 : Int) ≤ 150 by decide)⟩, hE0, Nat.zero_le _⟩, (fun t _ => ⟨fun j x hx => (by cases hx), fun x hx => (by cases hx), List.nodup_nil⟩), ?_, ?_, ⟨(show (0 : Int) ≤ 7 by decide), (show (7 : Int) ≤ 9 by decide)⟩, fun _ => ?_, ?_, ?_, ?_⟩
    all_goals (rw [k3 _ _ rfl, e]; rfl)
  obtain ⟨F, j1, j2⟩ := rl_lines (d := d) (by omega) hN 1701 tS0 F1 hS (by decide)
  refine ⟨F, j1, ?_⟩
  unfold rdOut
  cases hs : sAll (tkK g N) (tkP g N) (tkV g N) 1701 tS0 with
  | error x =>
    rw [hs] at j2
    obtain ⟨a1, a2, a3⟩ := j2
    exact ⟨a1, a2, (fun hh => by have hh : x.1 = 0 := hh; omega), fun s hs => by cases hs⟩
  | ok s =>
    rw [hs] at j2
    exact ⟨j2.2.1.2.1, j2.2.2.2.1, fun _ => (j2.1.2.2 0 (by decide)).1, fun s' hs' => by cases hs'; exact j2⟩
end rReads
