/-! The class reads a formula as it is told: its levels. -/
section cForm
variable {oo : xC} {g : Nat → Int} {N d c r i : Nat} {C D F : xC} {th : List Int} {s : tF}
theorem cf_join (hd : 3 ≤ d) (hN : N ≤ 1700) {lv dp : Nat} {cs0 : List Int} {C0 : xC} {f : tF → tX tF} {p : tF → List tE} (hlv : lv ≤ 4)
    (hf : ∀ (s : tF) (cs : List Int) (C : xC), cFd oo g N c r th s cs C → cRes oo g N c r th s cs (p s) C (xM d 40 [pR, .inl ((lv + 1 : Nat) : Int), .inl (dp : Int)] C) (f s)) :
    ∀ (n k : Nat) (s1 : tF) (w1 : List tE) (E : xC) (o : Option xV), k + n ≤ 100 → cFd oo g N c r th s1 (cs0 ++ w1.map ce) E → xSm (cS4 r) C0 E → 0 < w1.length → 3 * (w1.length : Int) + 3 ≤ 6 * (s1.2.1 - s.2.1) + (tkP g N s1.1 - tkP g N s.1) → s.2.2 + 1 ≤ s1.2.2 →
      cRes oo g N c r th s cs0 (w1 ++ pJoin (tkK g N) f p lv n s1) C0 (xw_X5_readLevel d (59, [some pR, some (.inl (lv : Int)), some (.inl (dp : Int)), some (.inl ((k + n : Nat) : Int)), some (.inl (k : Int)), o], [], E)) (fJoin (tkK g N) f lv n s1) := by
  intro n
  induction n with
  | zero =>
    intro k s1 w1 E o hk h1 h2 h3 h4 h5
    show cRes oo g N c r th s cs0 (w1 ++ []) C0 _ (.ok s1)
    rw [List.append_nil]
    refine ⟨E, ?_, h1, h2, h3, h4, h5⟩
    rw [xl_X5_readLevel_59]
    simp only [Bool.cond_decide]
    rw [if_pos (by omega)]
  | succ n ih =>
    intro k s1 w1 E o hk h1 h2 h3 h4 h5
    obtain ⟨x, x1, x2, x3⟩ := cp_joint (d := d) (by omega) h1.2.1.2.1 hlv
    rw [xl_X5_readLevel_59]
    simp only [Bool.cond_decide, fJoin, pJoin]
    rw [if_neg (show ¬ (((k + (n + 1) : Nat) : Int) ≤ (k : Int)) by omega), x1]
    simp only [Option.bind_some]
    by_cases hj : tJ (tkK g N s1.1) = tL lv
    · have hne : tJ (tkK g N s1.1) ≠ 0 := by
        rw [hj]
        have hcase : lv = 0 ∨ lv = 1 ∨ lv = 2 ∨ lv = 3 ∨ lv = 4 := by omega
        rcases hcase with rfl | rfl | rfl | rfl | rfl <;> decide
      have hkk := tJ_iff.mp hne
      rw [if_pos (x2.mpr hj), if_pos hj, if_pos hj]
      obtain ⟨E1, k1, k2, k3⟩ := cf_step (d := d) (by omega) h1 (by omega)
      rw [k1]
      simp only [Option.bind_some]
      have hr := hf (s1.1 + 1, s1.2) _ E1 k2
      have e1 : w32 ((lv : Int) + 1) = ((lv + 1 : Nat) : Int) := w32_s (by omega)
      rw [e1]
      clear e1
      cases hq : f (s1.1 + 1, s1.2) with
      | error y =>
        rw [hq] at hr
        obtain ⟨F, j1, j2⟩ := hr
        rw [j1]
        exact ⟨F, rfl, j2⟩
      | ok s2 =>
        rw [hq] at hr
        obtain ⟨F, j1, j2, j3, j4, j5, j6⟩ := hr
        have j5 : 3 * ((p (s1.1 + 1, s1.2)).length : Int) + 3 ≤ 6 * (s2.2.1 - s1.2.1) + (tkP g N s2.1 - tkP g N (s1.1 + 1)) := j5
        have j6 : s1.2.2 + 1 ≤ s2.2.2 := j6
        have hm := tkP_mono (g := g) (N := N) s1.1
        rw [j1]
        simp only [Option.bind_some]
        rw [if_pos (by decide)]
        obtain ⟨m1, m2, m3, m4, m5, m6, m7, m8⟩ := j2
        have e2 : (F 24 2).toNat = r := by rw [m1.1.2.2.1]; rfl
        have hpl := tkP_le (g := g) s2.1 hN
        have h1b := h1.2.2.2.2.2.2.2
        have hw1 : (cs0 ++ w1.map ce).length = cs0.length + w1.length := by rw [List.length_append, List.length_map]
        have hw2 : ((cs0 ++ w1.map ce) ++ (p (s1.1 + 1, s1.2)).map ce).length = cs0.length + w1.length + (p (s1.1 + 1, s1.2)).length := by rw [List.length_append, hw1, List.length_map]
        obtain ⟨F2, l1, l2, l3⟩ := cf_code (d := d) (a := x) (b := 0) (by omega) hN m1 m2 m3 m4 m5 m6 m7 (by omega) (by omega)
        have hce : ce (3, tSg (tkK g N s1.1)) = ccd x 0 := by rw [x3 hj]; rfl
        have hap : ((cs0 ++ w1.map ce) ++ (p (s1.1 + 1, s1.2)).map ce) ++ [ccd x 0] = cs0 ++ (w1 ++ (p (s1.1 + 1, s1.2) ++ [(3, tSg (tkK g N s1.1))])).map ce := by
          rw [← hce]; simp only [List.map_append, List.map_cons, List.map_nil, List.append_assoc]
        rw [hap] at l2
        have hw3 : (w1 ++ (p (s1.1 + 1, s1.2) ++ [(3, tSg (tkK g N s1.1))])).length = w1.length + (p (s1.1 + 1, s1.2)).length + 1 := by simp only [List.length_append, List.length_cons, List.length_nil]; omega
        rw [e2, l1]
        simp only [Option.bind_some]
        have e3 : w32 ((k : Int) + 1) = ((k + 1 : Nat) : Int) := w32_s (by omega)
        rw [e3, show k + (n + 1) = (k + 1) + n by omega]
        show cRes oo g N c r th s cs0 (w1 ++ (p (s1.1 + 1, s1.2) ++ (3, tSg (tkK g N s1.1)) :: pJoin (tkK g N) f p lv n s2)) C0 _ (fJoin (tkK g N) f lv n s2)
        rw [show w1 ++ (p (s1.1 + 1, s1.2) ++ (3, tSg (tkK g N s1.1)) :: pJoin (tkK g N) f p lv n s2) = (w1 ++ (p (s1.1 + 1, s1.2) ++ [(3, tSg (tkK g N s1.1))])) ++ pJoin (tkK g N) f p lv n s2 by simp only [List.append_assoc, List.cons_append, List.nil_append]]
        exact ih (k + 1) s2 _ F2 _ (by clear e3; omega) l2 (xSm_trans h2 (xSm_trans k3 (xSm_trans j3 l3))) (by clear e3; omega) (by clear e3; omega) (by clear e3; omega)
    · have hx1 : ¬ (x ≠ -1) := fun q => hj (x2.mp q)
      rw [if_neg hx1, if_neg hj, if_neg hj, List.append_nil]
      exact ⟨E, rfl, h1, h2, h3, h4, h5⟩
theorem cf_lv (hN : N ≤ 1700) (hnd : th.Nodup) : ∀ (n d lv dp : Nat) (s : tF) (cs : List Int) (C : xC), 2 * n + 4 ≤ d → lv ≤ 5 → dp ≤ 7 → 6 * (8 - dp) ≤ n + lv → cFd oo g N c r th s cs C →
    cRes oo g N c r th s cs (pLv (tkK g N) (tkP g N) (tkV g N) th n lv dp s) C (xM d 40 [pR, .inl (lv : Int), .inl (dp : Int)] C) (fLv (tkK g N) (tkP g N) (tkV g N) th n lv dp s) := by
  intro n
  induction n with
  | zero => intro d lv dp s cs C hd hlv hdp hn; omega
  | succ n ih =>
    intro d lv dp s cs C hd hlv hdp hn h
    obtain ⟨d, rfl⟩ := Nat.exists_eq_add_of_le' (show 1 ≤ d by omega)
    rw [xm_X5_readLevel]
    simp only [Bool.cond_decide, fLv, pLv]
    by_cases h5 : lv = 5
    · subst h5
      rw [if_neg (show ¬ (((5 : Nat) : Int) ≠ 5) by decide), if_pos rfl, if_pos rfl]
      refine cRes_fr ?_
      refine cf_unit (d := d) (by omega) hN hnd h hdp fun s' C' h6 hc' => ?_
      exact ih (d - 1) 0 (dp + 1) s' cs C' (by omega) (by omega) (by omega) (by omega) hc'
    · rw [if_pos (show (lv : Int) ≠ 5 by omega), if_neg h5, if_neg h5]
      have hop : ∀ (s : tF) (cs : List Int) (C : xC), cFd oo g N c r th s cs C → cRes oo g N c r th s cs (pLv (tkK g N) (tkP g N) (tkV g N) th n (lv + 1) dp s) C (xM d 40 [pR, .inl ((lv + 1 : Nat) : Int), .inl (dp : Int)] C) (fLv (tkK g N) (tkP g N) (tkV g N) th n (lv + 1) dp s) := fun s cs C hc => ih d (lv + 1) dp s cs C (by omega) (by omega) hdp (by omega) hc
      have hmain : ∀ jn : Nat, jn ≤ 30 → cRes oo g N c r th s cs (pLv (tkK g N) (tkP g N) (tkV g N) th n (lv + 1) dp s ++ pMore (tkK g N) (fLv (tkK g N) (tkP g N) (tkV g N) th n (lv + 1) dp) (pLv (tkK g N) (tkP g N) (tkV g N) th n (lv + 1) dp) lv jn (fLv (tkK g N) (tkP g N) (tkV g N) th n (lv + 1) dp s)) C ((xM d 40 [pR, .inl ((lv + 1 : Nat) : Int), .inl (dp : Int)] C).bind fun q1 => if q1.1 ≠ 0 then xw_X5_readLevel d (59, [some pR, some (.inl (lv : Int)), some (.inl (dp : Int)), some (.inl (jn : Int)), some (.inl 0), none], [], q1.2) else some (0, q1.2)) ((fLv (tkK g N) (tkP g N) (tkV g N) th n (lv + 1) dp s).bind fun s' => fJoin (tkK g N) (fLv (tkK g N) (tkP g N) (tkV g N) th n (lv + 1) dp) lv jn s') := by
        intro jn hjn
        have hr := hop s cs C h
        cases hq : fLv (tkK g N) (tkP g N) (tkV g N) th n (lv + 1) dp s with
        | error y =>
          rw [hq] at hr
          obtain ⟨F, j1, j2⟩ := hr
          rw [j1]
          exact ⟨F, rfl, j2⟩
        | ok s1 =>
          rw [hq] at hr
          obtain ⟨F, j1, j2, j3, j4, j5, j6⟩ := hr
          rw [j1]
          simp only [Option.bind_some]
          rw [if_pos (by decide)]
          have := cf_join (d := d) (C0 := C) (s := s) (cs0 := cs) (by omega) hN (by omega) hop jn 0 s1 _ F none (by omega) j2 j3 j4 j5 j6
          rw [Nat.zero_add] at this
          exact this
      have ew : w32 ((lv : Int) + 1) = ((lv + 1 : Nat) : Int) := w32_s (by omega)
      rw [ew]
      clear ew
      by_cases h2 : lv = 2
      · subst h2
        rw [if_neg (show ¬ (((2 : Nat) : Int) ≠ 2) by decide), h.2.1.2.1]
        by_cases h19 : tkK g N s.1 = 19
        · rw [if_neg (show ¬ (tkK g N s.1 ≠ 19) from fun q => q h19), if_pos (show 2 = 2 ∧ tkK g N s.1 = 19 from ⟨rfl, h19⟩), if_pos (show 2 = 2 ∧ tkK g N s.1 = 19 from ⟨rfl, h19⟩)]
          refine cRes_fr ?_
          obtain ⟨e, rfl⟩ := Nat.exists_eq_add_of_le' (show 1 ≤ d by omega)
          rw [xm_X5_readNot, Bool.cond_decide]
          by_cases h6 : 6 < dp
          · rw [if_neg (show ¬ ((dp : Int) ≤ 6) by omega), if_pos h6]
            obtain ⟨F, k1, k2⟩ := cp_refuse (d := e) (by omega) h.1 h.2.1 (a := 2) (by decide)
            rw [k1]
            exact ⟨F, rfl, k2⟩
          · rw [if_pos (show ((dp : Int) ≤ 6) by omega), if_neg h6]
            obtain ⟨F, k1, k2, k3⟩ := cf_step (d := e) (by omega) h (by omega)
            rw [k1]
            simp only [Option.bind_some]
            have hr := ih e 2 (dp + 1) (s.1 + 1, s.2) cs F (by omega) (by omega) (by omega) (by omega) k2
            have e1 : w32 ((dp : Int) + 1) = ((dp + 1 : Nat) : Int) := w32_s (by omega)
            rw [e1]
            clear e1
            have h3 := tkP_not (g := g) (N := N) s.1 h19
            cases hq : fLv (tkK g N) (tkP g N) (tkV g N) th n 2 (dp + 1) (s.1 + 1, s.2) with
            | error y =>
              rw [hq] at hr
              obtain ⟨F2, j1, j2⟩ := hr
              have j1 : xM e 40 [pR, .inl 2, .inl ((dp + 1 : Nat) : Int)] F = some (0, F2) := j1
              rw [j1]
              exact ⟨F2, rfl, j2⟩
            | ok s1 =>
              rw [hq] at hr
              obtain ⟨F2, j1, j2, j3, j4, j5, j6⟩ := hr
              have j1 : xM e 40 [pR, .inl 2, .inl ((dp + 1 : Nat) : Int)] F = some (1, F2) := j1
              have j5 : 3 * ((pLv (tkK g N) (tkP g N) (tkV g N) th n 2 (dp + 1) (s.1 + 1, s.2)).length : Int) + 3 ≤ 6 * (s1.2.1 - s.2.1) + (tkP g N s1.1 - tkP g N (s.1 + 1)) := j5
              rw [j1]
              simp only [Option.bind_some, Bool.cond_decide]
              rw [if_pos (by decide)]
              obtain ⟨m1, m2, m3, m4, m5, m6, m7, m8⟩ := j2
              have e2 : (F2 24 2).toNat = r := by rw [m1.1.2.2.1]; rfl
              have hpl := tkP_le (g := g) s1.1 hN
              have hb := h.2.2.2.2.2.2.2
              have hw1 : (cs ++ (pLv (tkK g N) (tkP g N) (tkV g N) th n 2 (dp + 1) (s.1 + 1, s.2)).map ce).length = cs.length + (pLv (tkK g N) (tkP g N) (tkV g N) th n 2 (dp + 1) (s.1 + 1, s.2)).length := by rw [List.length_append, List.length_map]
              obtain ⟨F3, l1, l2, l3⟩ := cf_code (d := e) (a := 4) (b := 0) (by omega) hN m1 m2 m3 m4 m5 m6 m7 (by omega) (by omega)
              rw [e2, l1]
              have hw3 : (pLv (tkK g N) (tkP g N) (tkV g N) th n 2 (dp + 1) (s.1 + 1, s.2) ++ [((2 : Int), (0 : Int))]).length = (pLv (tkK g N) (tkP g N) (tkV g N) th n 2 (dp + 1) (s.1 + 1, s.2)).length + 1 := by rw [List.length_append]; rfl
              refine ⟨F3, rfl, ?_, xSm_trans k3 (xSm_trans j3 l3), by omega, by rw [hw3]; omega, j6⟩
              rw [List.map_append, ← List.append_assoc]
              exact l2
        · rw [if_pos (show tkK g N s.1 ≠ 19 from h19), if_neg (show ¬ (2 = 2 ∧ tkK g N s.1 = 19) from fun q => h19 q.2), if_neg (show ¬ (2 = 2 ∧ tkK g N s.1 = 19) from fun q => h19 q.2)]
          exact hmain 1 (by omega)
      · have hl2 : (lv : Int) ≠ 2 := by omega
        rw [if_pos hl2, if_neg (show ¬ (lv = 2 ∧ tkK g N s.1 = 19) from fun q => h2 q.1), if_neg (show ¬ (lv = 2 ∧ tkK g N s.1 = 19) from fun q => h2 q.1)]
        simp only [if_pos hl2, if_neg h2]
        exact hmain 30 (by omega)
end cForm
