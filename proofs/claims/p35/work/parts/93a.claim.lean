/-! The law's loop, by what it calls. -/
section yLaw2
variable {p : Program} {l : Launch} {e : Env} {R : Room} {s : State} {m : MethodId} {args : Array Value} {below : List Frame} {meth : Method} {c : Code} {Q : State → Prop}
variable {b sz nL K0 S0 : Nat} {sr : List Nat} {tt : List yKd} {D : va_G} {ca : Nat → ClassId} {ms : Option (List (Nat × Nat))} {ws0 ws : va_W} {cc : ByteArray}
variable {v u vp : List Int} {pc : Nat} {L : List (Option yA)} {S : List yA} {st : yS} {k : yCfg → Bool} {MP : yM × yP} {H : Heap} {locs : List Loc} {ls : Array Slot} {stk : List Value}
variable {Bm : Int} {own nm : String} {ret : Option FieldType} {P : yPar} {call : yCl} {mi : List zMInfo} {mt : List (Nat × zCode)} {ctb : List (List yCt)} {df : List (List (List zAV))}
/-- from the law's head to its end, by what is left of the script -/
theorem ylaw_claim2 (hT : yTOk sr tt) (hCl : zClsOK df) (hMi : zMiOK mi) (hCd : ∀ j as st bud kk, zget mi j = none → call j as st bud kk = false) (hGen : ∀ w ∈ zGenW, w ∈ zW) (IH : yCallOk l sr tt mi none Bm call) {n : Nat} {xs : Nat → Int32} {cd : zCode} {bud sl : yE} {h0 : yHd} {ei a0 a1 a2 a3 a4 : yE}
    {SJ : List (yE × yE)} {tpJ : Int → Int → yS}
    (hF : ∀ (w : List Int) (q r : Int), ySc1 xs (vp ++ w ++ [q, r]) SJ → yFm (tt, none, bud, some (sl, SJ)) p R s m args meth c cc 4 own nm b sz n K0 S0 xs D ca sr tt none Bm (vp ++ w ++ [q, r]))
    (hSJ : SJ = (ei, (([(h0.2.1.2.1, 64), (h0.2.1.2.1 + 1, 1)], 0) : yE)) :: ySc ei a0 a1 a2 a3 a4)
    (htp : ∀ lo hi : Int, (tpJ lo hi).2.2.2.2 = h0.2.1.2.2.2.2.2 ∧ ∀ (v : List Int) (q r : Int), yRS v h0.2.1.2 → -33554432 ≤ q → q ≤ 33554431 → lo ≤ r → r ≤ hi → yRS (v ++ [q, r]) (tpJ lo hi))
    (hi0 : ∀ (v : List Int) (z : Int), yRS v h0.2.1.2 → yev v ei = some z → 0 ≤ z)
    (hg : ∀ (pc : Nat) (i : Instr) (a b0 w : Nat), zfetch cd pc = some (i, a, b0, w) → zgood mi own nm ret cc pc i a b0 w = true)
    (hl4 : h0.2.1.1.length = 4) (hei : zget h0.2.1.1 3 = some (some (.inl ei)))
    (hret : ∀ (pc : Nat) (a b0 w : Nat) (H : Heap) (ls : Array Slot) (locs : List Loc) (v : List Int) (MP : yM × yP), zfetch cd pc = some (.ireturn, a, b0, w) → yHp b sz sr tt D ca s none ws0 v MP H locs → W p l e R s m args below meth c H locs K0 S0 Q (F0 m pc ls [.int 1]))
    (hver : ∀ r : Int, 0 ≤ r → r < 64 → ∃ (lo hi : Int) (i : Instr) (a b0 w0 : Nat), lo ≤ r ∧ r ≤ hi ∧ zfetch cd h0.1 = some (i, a, b0, w0) ∧ ysel i (tt, none, bud, some (sl, SJ)) call a b0 h0.1 h0.2.1.1 [] (tpJ lo hi) (yrun (tt, none, bud, some (sl, SJ)) cd call (fun pc => Nat.beq pc h0.1) (ylawF cd vp.length h0 [some (.inl a0), some (.inl a1), some (.inl a2), some (.inl a3), some (.inl a4)] (some h0.2.2)) 600) = true) :
    ∀ (N : Nat) (w : List Int) (mu : Int), yev (vp ++ w) h0.2.2 = some mu → 0 ≤ mu → mu.toNat = N → ySc1 xs (vp ++ w) (ySc ei a0 a1 a2 a3 a4) → yJat p l e R s m args below meth c Q b sz sr tt D ca none ws0 4 K0 S0 (vp ++ w) (h0.1, h0.2.1.1, [], h0.2.1.2) := by
  intro N
  induction N using Nat.strongRecOn with
  | _ N ih =>
    intro w mu hmu hm0 hN hsc
    intro H ls stk locs hR hH hL hS
    obtain ⟨hLl, lv, hlv, hall⟩ := id hL
    obtain ⟨w0v, hw0, -⟩ := hall 3 _ hei
    obtain ⟨x, -, hx⟩ := hw0
    have hx0 := hi0 _ _ hR hx
    have z1 := (xs x.toInt.toNat).le_toInt
    have z2 := (xs x.toInt.toNat).toInt_lt
    generalize hz : (xs x.toInt.toNat).toInt = z at *
    have z1 : -2147483648 ≤ z := by simpa using z1
    have z2 : z < 2147483648 := by simpa using z2
    have hr0 := Int.emod_nonneg z (show (64 : Int) ≠ 0 by decide)
    have hr1 := Int.emod_lt_of_pos z (show (0 : Int) < 64 by decide)
    obtain ⟨lo, hi, i, a, b0, w0, h1, h2, hfe, hsel⟩ := hver (z % 64) hr0 hr1
    have hlen : (vp ++ w).length = h0.2.1.2.1 := hR.1
    have hsc2 : ySc1 xs (vp ++ w ++ [z / 64, z % 64]) SJ := by
      rw [hSJ]
      intro q hq
      rcases List.mem_cons.mp hq with rfl | hq
      · refine ⟨x.toInt.toNat, ?_, ?_⟩
        · rw [yev_mono hx]; congr 1; omega
        · have g1 : (vp ++ w ++ [z / 64, z % 64])[h0.2.1.2.1]? = some (z / 64) := by
            rw [← hlen, List.getElem?_append_right (Nat.le_refl _), Nat.sub_self]; rfl
          have g2 : (vp ++ w ++ [z / 64, z % 64])[h0.2.1.2.1 + 1]? = some (z % 64) := by
            rw [← hlen, List.getElem?_append_right (by omega), show (vp ++ w).length + 1 - (vp ++ w).length = 1 by omega]; rfl
          rw [hz]
          simp only [yev, yevT, g1, g2]
          congr 1
          omega
      · obtain ⟨j, k1, k2⟩ := hsc q hq
        exact ⟨j, yev_mono k1, yev_mono k2⟩
    have hF1 := hF w _ _ hsc2
    have key : yJat p l e R s m args below meth c Q b sz sr tt D ca none ws0 4 K0 S0 (vp ++ w ++ [z / 64, z % 64]) (h0.1, h0.2.1.1, [], tpJ lo hi) := by
      refine ysel_ok hF1 hT hCl hMi hCd hGen IH (hg _ _ _ _ _ hfe) hsel fun cf hcf => ?_
      refine yrun_ok hF1 hT hCl hMi hCd hGen IH hg ?_ 600 cf hcf
      intro cf i a b0 w0 hfin hfe hst u
      obtain ⟨pc, L, S, st⟩ := cf
      dsimp only at hfe hst
      unfold ylawF at hfin
      dsimp only at hfin
      rw [hfe] at hfin
      dsimp only at hfin
      split at hfin
      · split at hfin
        · rename_i x
          intro H ls stk locs hR hH hL hS
          obtain ⟨w1, s1, rfl, hw1, hS1⟩ := ySR_cons hS
          have e1 := ySR_nil hS1
          subst e1
          obtain ⟨y, rfl, hy⟩ := hw1
          have e0 : yev (vp ++ w ++ [z / 64, z % 64] ++ u) ([], 1) = some 1 := yev_cn _ 1
          rw [yeq_ok hfin, e0] at hy
          have hy1 : y = 1 := Int32.toInt_inj.mp (by rw [← Option.some.inj hy]; rfl)
          subst hy1
          exact hret pc a b0 w0 H ls locs _ _ hfe hH
        · cases hfin
      · simp only [Bool.and_eq_true] at hfin
        obtain ⟨-, hpc, hs, hh⟩ := hfin
        have hpc := Nat.eq_of_beq_eq_true hpc
        subst hpc
        split at hs
        · intro H ls stk locs hR hH hL hS
          have e1 : stk = [] := ySR_nil (show ySR b sz sr (vp ++ w ++ [z / 64, z % 64] ++ u) [] stk from hS)
          subst e1
          obtain ⟨w1, mu1, k1, k2, k3, k4, k5, k6, k7⟩ := ylawH_ok hT.2.2.1 (xs := xs) hh hl4 hei (show vp ++ w ++ [z / 64, z % 64] ++ u = vp ++ (w ++ [z / 64, z % 64] ++ u) by simp only [List.append_assoc]) hR hH hL
          have := k7 _ mu rfl (yev_mono (yev_mono hmu))
          exact ih mu1.toNat (by omega) w1 mu1 k5 k6 rfl k4 H ls [] locs k1 k2 k3 trivial
        · cases hs
    refine key H ls stk locs ((htp lo hi).2 _ _ _ hR (by omega) (by omega) h1 h2) ?_ (yLR_mono hL) ?_
    · show yHp b sz sr tt D ca s none ws0 (vp ++ w ++ [z / 64, z % 64]) (tpJ lo hi).2.2.2.2 H locs
      rw [(htp lo hi).1]
      exact yHp_mono hH
    · have e1 : stk = [] := ySR_nil (show ySR b sz sr (vp ++ w) [] stk from hS)
      subst e1
      trivial
end yLaw2
