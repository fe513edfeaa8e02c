/-! Arrays: their places read and written, stretches of them copied. -/
section yStep3
variable {p : Program} {l : Launch} {e : Env} {R : Room} {s : State} {m : MethodId} {args : Array Value} {below : List Frame} {meth : Method} {c : Code} {Q : State → Prop}
variable {b sz nL K0 S0 : Nat} {sr : List Nat} {tt : List yKd} {D : va_G} {ca : Nat → ClassId} {ms : Option (List (Nat × Nat))} {ws0 ws : va_W} {cc : ByteArray}
variable {v u : List Int} {pc : Nat} {L : List (Option yA)} {S : List yA} {st : yS} {k : yCfg → Bool} {MP : yM × yP} {H : Heap} {locs : List Loc} {ls : Array Slot} {stk : List Value}
theorem yrs_ok {B : yBd} {mm : Nat} {ix : yE} {j : Nat} {q : Int × Int} (hB : yRB v B) (h : yrs B mm ix = some q) (hj : yev v ix = some (j : Int)) : q.1 ≤ ((j % mm : Nat) : Int) ∧ ((j % mm : Nat) : Int) ≤ q.2 := by
  unfold yrs at h
  split at h
  · have := yrg_ok hB h hj
    rw [Nat.mod_zero]
    exact this
  · rename_i n
    split at h
    · rename_i q1 hq1
      split at h
      · rename_i hc
        cases h
        simp only [Bool.and_eq_true, ile_iff] at hc
        obtain ⟨a, r, g1, g2, g3⟩ := ysp_ok (m := Int.ofNat (n + 1)) (by simp; omega) hj
        have hr := yrg_ok hB hq1 g2
        have e : ((j % (n + 1) : Nat) : Int) = r := by
          rw [Int.natCast_emod, g3]
          show (Int.ofNat (n + 1) * a + r) % Int.ofNat (n + 1) = r
          rw [Int.mul_add_emod_self_left]
          exact Int.emod_eq_of_lt (by omega) (by have : Int.ofNat (n + 1) = Int.ofNat n + 1 := rfl; omega)
        rw [e]
        exact hr
      · cases h
    · cases h
theorem yis_ok {B : yBd} {mm r : Nat} {ix : yE} {j : Nat} (hB : yRB v B) (h : yis B mm r ix = true) (hj : yev v ix = some (j : Int)) : j % mm = r := by
  unfold yis yin at h
  split at h
  · rename_i q hq
    rw [Bool.and_eq_true, ile_iff, ile_iff] at h
    have := yrs_ok hB hq hj
    have : Int.ofNat r = (r : Int) := rfl
    omega
  · cases h
theorem yisnt_ok {B : yBd} {mm r : Nat} {ix : yE} {j : Nat} (hB : yRB v B) (h : yisnt B mm r ix = true) (hj : yev v ix = some (j : Int)) : j % mm ≠ r := by
  unfold yisnt at h
  split at h
  · rename_i q hq
    rw [Bool.or_eq_true, ile_iff, ile_iff] at h
    have := yrs_ok hB hq hj
    have : Int.ofNat r = (r : Int) := rfl
    omega
  · cases h
theorem yspl_ok {B : yBd} {ix : yE} {j : Nat} {d : Int × Int} {z : Int} (hB : yRB v B) (hj : yev v ix = some (j : Int)) (hd : d.1 ≤ z ∧ z ≤ d.2) : ∀ {l : List (Nat × Nat × Int × Int)}, (∀ q ∈ l, j % q.1 = q.2.1 → q.2.2.1 ≤ z ∧ z ≤ q.2.2.2) → (yspl B ix d l).1 ≤ z ∧ z ≤ (yspl B ix d l).2 := by
  intro l
  induction l with
  | nil => intro _; exact hd
  | cons q t ih =>
    intro hl
    show (match yis B q.1 q.2.1 ix with
      | true => q.2.2
      | false => yspl B ix d t).1 ≤ z ∧ z ≤ (match yis B q.1 q.2.1 ix with
      | true => q.2.2
      | false => yspl B ix d t).2
    split
    · rename_i hc
      exact hl q List.mem_cons_self (yis_ok hB hc hj)
    · exact ih fun q hq => hl q (List.mem_cons_of_mem _ hq)
theorem yuse_ok {x ix y : yE} {t i j : Nat} {cl : Nat × va_E} {z : Int32} (hsr : sr[i]? = some t) (hx : yev v x = some (i : Int)) (hj : yev v ix = some (j : Int)) (hcl : ws[i]? = some cl) (hct : yct cl.2 j = some (.int z)) :
    ∀ {l : yP} {st : yS} {u : List Int} {kk : yS → Bool}, yuse x t ix y l st kk = true → yRS (v ++ u) st → yev (v ++ u) y = some z.toInt → (∀ q ∈ l, yPk sr v ws q) → ∃ st1, kk st1 = true ∧ yRS (v ++ u) st1 ∧ st1.2.2.2.2 = st.2.2.2.2 := by
  intro l
  induction l with
  | nil => intro st u kk h hR hy hl; exact ⟨st, h, hR, rfl⟩
  | cons q t2 ih =>
    intro st u kk h hR hy hl
    have h : (match Nat.beq q.1.2 t && yeq q.1.1 x with
      | false => yuse x t ix y t2 st kk
      | true => match ylS st (yoff (ysu ix q.2.1) 1) with
        | true => yasS (ysu q.2.2.1 y) st fun st => yasS (ysu y q.2.2.2) st fun st => yuse x t ix y t2 st kk
        | false => match ylS st (ysu q.2.1 ix) with
          | true => yuse x t ix y t2 st kk
          | false => yasS (yoff (ysu ix q.2.1) 1) st (fun st => yasS (ysu q.2.2.1 y) st fun st => yasS (ysu y q.2.2.2) st fun st => yuse x t ix y t2 st kk) && yasS (ysu q.2.1 ix) st (fun st => yuse x t ix y t2 st kk)) = true := h
    have hl2 : ∀ q ∈ t2, yPk sr v ws q := fun q hq => hl q (List.mem_cons_of_mem _ hq)
    split at h
    · exact ih h hR hy hl2
    · rename_i hc
      rw [Bool.and_eq_true] at hc
      obtain ⟨c1, c2⟩ := hc
      obtain ⟨i', n, lo, hi, g1, g4, g5, g6, g7, -⟩ := hl q List.mem_cons_self
      rw [yeq_ok c2, hx] at g1
      have g1 := Option.some.inj g1
      have inb : (j : Int) < n → lo ≤ z.toInt ∧ z.toInt ≤ hi := fun hlt => g7 i cl g1.symm (by rw [Nat.eq_of_beq_eq_true c1]; exact hsr) hcl j z hlt hct
      split at h
      · rename_i c3
        have hlt := ylS_ok c3 hR (yoff_ok (ysu_ok (yev_mono hj) (yev_mono g4)))
        obtain ⟨b1, b2⟩ := inb (by omega)
        obtain ⟨st1, k1, k2, k3, -⟩ := yasS_ok h hR (ysu_ok (yev_mono g5) hy) (by omega)
        obtain ⟨st2, q1, q2, q3, -⟩ := yasS_ok k1 k2 (ysu_ok hy (yev_mono g6)) (by omega)
        obtain ⟨st3, r1, r2, r3⟩ := ih q1 q2 hy hl2
        exact ⟨st3, r1, r2, r3.trans (q3.trans k3)⟩
      · split at h
        · exact ih h hR hy hl2
        · rw [Bool.and_eq_true] at h
          by_cases hlt : (j : Int) < n
          · obtain ⟨b1, b2⟩ := inb hlt
            obtain ⟨st0, k0, k02, k03, -⟩ := yasS_ok h.1 hR (yoff_ok (ysu_ok (yev_mono hj) (yev_mono g4))) (by omega)
            obtain ⟨st1, k1, k2, k3, -⟩ := yasS_ok k0 k02 (ysu_ok (yev_mono g5) hy) (by omega)
            obtain ⟨st2, q1, q2, q3, -⟩ := yasS_ok k1 k2 (ysu_ok hy (yev_mono g6)) (by omega)
            obtain ⟨st3, r1, r2, r3⟩ := ih q1 q2 hy hl2
            exact ⟨st3, r1, r2, r3.trans (q3.trans (k3.trans k03))⟩
          · obtain ⟨st0, k0, k02, k03, -⟩ := yasS_ok h.2 hR (ysu_ok (yev_mono g4) (yev_mono hj)) (by omega)
            obtain ⟨st3, r1, r2, r3⟩ := ih k0 k02 hy hl2
            exact ⟨st3, r1, r2, r3.trans k03⟩
theorem yrR_ok {B : yBd} {mm : Nat} {ix : yE} {j : Nat} {q : Int × Int} (hB : yRB v B) (h : yrs B mm ix = some q) (hj : yev v ix = some (j : Int)) : yev v (yrR mm ix) = some ((j % mm : Nat) : Int) := by
  unfold yrs at h
  split at h
  · rw [Nat.mod_zero]; exact hj
  · rename_i n
    split at h
    · rename_i q1 hq1
      split at h
      · rename_i hc
        cases h
        simp only [Bool.and_eq_true, ile_iff] at hc
        obtain ⟨a, r, g1, g2, g3⟩ := ysp_ok (m := Int.ofNat (n + 1)) (by simp; omega) hj
        have hr := yrg_ok hB hq1 g2
        have e : ((j % (n + 1) : Nat) : Int) = r := by
          rw [Int.natCast_emod, g3]
          show (Int.ofNat (n + 1) * a + r) % Int.ofNat (n + 1) = r
          rw [Int.mul_add_emod_self_left]
          exact Int.emod_eq_of_lt (by omega) (by have : Int.ofNat (n + 1) = Int.ofNat n + 1 := rfl; omega)
        rw [e]
        exact g2
      · cases h
    · cases h
theorem yrr_ok {ar : yAr} {x ix : yE} {t i j : Nat} {kk : yE → yS → Bool} {cl : Nat × va_E} {z : Int32} (h : yrr ar x t ix st kk = true) (hR : yRS v st) (hsr : sr[i]? = some t) (hx : yev v x = some (i : Int)) (hj : yev v ix = some (j : Int)) (har : yArOk ar j z.toInt) (hM : ∀ q ∈ st.2.2.2.2.1, yMk b sz sr v ws q) (hQ : ∀ q ∈ st.2.2.2.2.2, yPk sr v ws q) (hcl : ws[i]? = some cl) (hct : yct cl.2 j = some (.int z)) :
    ∃ y u st1, kk y st1 = true ∧ yRS (v ++ u) st1 ∧ yev (v ++ u) y = some z.toInt ∧ st1.2.2.2.2 = st.2.2.2.2 := by
  obtain ⟨lo, hi, sp, xk⟩ := ar
  obtain ⟨hd, hs, h1, h2⟩ := har
  have hd : lo ≤ z.toInt ∧ z.toInt ≤ hi := hd
  have hzl := z.le_toInt
  have hzh := z.toInt_lt
  have hzl : -2147483648 ≤ z.toInt := by simpa using hzl
  unfold yrr at h
  dsimp only at h
  split at h
  · obtain ⟨b1, b2⟩ := yspl_ok (d := (lo, hi)) hR.2.1 hj hd hs
    obtain ⟨st1, g1, g2, g3, g4⟩ := yfr_ok h hR b1 b2
    have hQ1 : ∀ q ∈ st1.2.2.2.2.2, yPk sr v ws q := by rw [g4]; exact hQ
    obtain ⟨st2, k1, k2, k3⟩ := yuse_ok hsr hx hj hcl hct g1 g2 g3 hQ1
    exact ⟨_, _, st2, k1, k2, g3, k3.trans g4⟩
  · rw [Bool.and_eq_true] at h
    by_cases h16 : z.toInt % 16 = 1
    · obtain ⟨q1, q2⟩ := h1 rfl h16
      obtain ⟨st1, g1, g2, g3, g4⟩ := yfr_ok (z := z.toInt / 16) h.2 hR q1 q2
      refine ⟨_, _, st1, g1, g2, ?_, g4⟩
      have e1 : yev (v ++ [z.toInt / 16]) ([(v.length, 16)], 1) = some (16 * (z.toInt / 16) + 1) := by simp [yev, yevT]
      rw [e1]
      congr 1
      omega
    · obtain ⟨st1, g1, g2, g3, g4⟩ := yfr_ok (z := z.toInt / 16) h.1 hR (by omega) (by omega)
      simp only [Bool.and_eq_true] at g1
      have e1 : yev (v ++ [z.toInt / 16]) ([(v.length, 16)], 0) = some (16 * (z.toInt / 16)) := by simp [yev, yevT]
      by_cases h0 : z.toInt % 16 = 0
      · refine ⟨_, _, st1, g1.1, g2, ?_, g4⟩
        rw [e1]
        congr 1
        omega
      · obtain ⟨st2, k1, k2, k3, k4⟩ := yfr_ok (z := z.toInt % 16) g1.2 g2 (by omega) (by omega)
        refine ⟨_, [z.toInt / 16] ++ [z.toInt % 16], st2, k1, by rw [← List.append_assoc]; exact k2, ?_, k4.trans g4⟩
        rw [← List.append_assoc]
        obtain ⟨r, r1, r2⟩ := yev_iff.mp k3
        obtain ⟨a, a1, a2⟩ := yev_iff.mp (yev_mono (w := [z.toInt % 16]) e1)
        refine yev_iff.mpr ⟨a + r, yadT_ok a1 r1, ?_⟩
        dsimp only at a2 r2 ⊢
        omega
  · rw [Bool.and_eq_true] at h
    rcases Nat.eq_zero_or_pos j with hj0 | hj0
    · obtain ⟨st1, g1, g2, g3, -⟩ := yasS_ok h.1 hR hj (by omega)
      split at g1
      · rename_i v0 hlk
        have hM1 : ∀ q ∈ st1.2.2.2.2.1, yMk b sz sr v ws q := by rw [g3]; exact hM
        obtain ⟨i2, j2, cl2, w, k1, k2, k3, k4, k5, k6⟩ := ylk_ok hlk hM1
        have hi2 : i2 = i := by rw [hx] at k1; have := Option.some.inj k1; omega
        subst hi2
        have hj2 : j2 = 0 := by
          have e0 : yev v ([], 0) = some 0 := yev_cn v 0
          rw [e0] at k3
          have := Option.some.inj k3
          omega
        subst hj2
        rw [hcl] at k4
        cases k4
        rw [hj0, k5] at hct
        cases hct
        obtain ⟨z0, e1, e2⟩ := k6
        cases e1
        exact ⟨v0, [], st1, g1, by simpa using g2, by simpa using e2, g3⟩
      · obtain ⟨st2, k1, k2, k3, k4⟩ := yfr_ok g1 g2 hd.1 hd.2
        exact ⟨_, _, st2, k1, k2, k3, k4.trans g3⟩
    · obtain ⟨st1, g1, g2, g3, -⟩ := yasS_ok h.2 hR (yoff_ok (y_neg hj)) (by omega)
      obtain ⟨st2, k1, k2, k3, k4⟩ := yfr_ok g1 g2 hd.1 hd.2
      have := (h2 rfl).resolve_left (by omega)
      obtain ⟨st3, q1, q2, q3, -⟩ := yasS_ok k1 k2 (yoff_ok (ysu_ok k3 (yev_mono hj))) (by omega)
      exact ⟨_, _, st3, q1, q2, k3, q3.trans (k4.trans g3)⟩
  · split at h
    · rename_i mm r a1 a2 sp1
      split at h
      · obtain ⟨st2, k1, k2, k3, k4⟩ := yfr_ok h hR hd.1 hd.2
        exact ⟨_, _, st2, k1, k2, k3, k4⟩
      · rename_i qq hqq
        have hRr := yrR_ok hR.2.1 hqq hj
        rw [yfE_eq, yint_eq, Bool.and_eq_true, Bool.and_eq_true] at h
        have er : Int.ofNat r = (r : Int) := rfl
        rcases Int.lt_trichotomy ((j % mm : Nat) : Int) r with w | w | w
        · obtain ⟨st1, g1, g2, g3, -⟩ := yasS_ok h.2.1 hR (yoff_ok hRr) (by omega)
          obtain ⟨st2, k1, k2, k3, k4⟩ := yfr_ok g1 g2 hd.1 hd.2
          exact ⟨_, _, st2, k1, k2, k3, k4.trans g3⟩
        · obtain ⟨st1, g1, g2, g3, -⟩ := yasS_ok h.1 hR (yoff_ok hRr) (by omega)
          obtain ⟨st2, q1, q2, q3, -⟩ := yasS_ok g1 g2 (yoff_ok (y_neg hRr)) (by omega)
          obtain ⟨b1, b2⟩ := hs _ List.mem_cons_self (show j % mm = r by omega)
          obtain ⟨st3, r1, r2, r3, r4⟩ := yfr_ok q1 q2 b1 b2
          exact ⟨_, _, st3, r1, r2, r3, r4.trans (q3.trans g3)⟩
        · obtain ⟨st1, g1, g2, g3, -⟩ := yasS_ok h.2.2 hR (yoff_ok (y_neg hRr)) (by omega)
          obtain ⟨st2, k1, k2, k3, k4⟩ := yfr_ok g1 g2 hd.1 hd.2
          exact ⟨_, _, st2, k1, k2, k3, k4.trans g3⟩
    · cases h
theorem y_kd {isB : Bool} {kd : Nat} (h : zkb isB kd = true) : kd < 3 := by
  cases isB
  · have : kd = 2 := Nat.eq_of_beq_eq_true h
    omega
  · have : kd < 2 := by simpa [zkb, Nat.blt_eq] using h
    omega
theorem yscr_ok {ix x : yE} : ∀ {l : List (yE × yE)}, yscr ix l = some x → ∃ q ∈ l, q.1 = ix ∧ q.2 = x := by
  intro l
  induction l with
  | nil => intro h; cases h
  | cons q t ih =>
    intro h
    have h : (match yeq q.1 ix with
      | true => some q.2
      | false => yscr ix t) = some x := h
    split at h
    · rename_i hc
      cases h
      exact ⟨q, List.mem_cons_self, yeq_ok hc, rfl⟩
    · obtain ⟨q1, g1, g2⟩ := ih h
      exact ⟨q1, List.mem_cons_of_mem _ g1, g2⟩
theorem ygr1_ok {ix x : yE} {j : Nat} {z : Int} {kk : yS → Bool} (hR : yRS v st) (hQ : ∀ q ∈ st.2.2.2.2.2, yPk sr v ws q) (hix : yev v ix = some (j : Int)) (hx : yev v x = some z) (hz : z = yKo sr ws 99 j) (h9 : yT9 sr) : ∀ {l : yP}, ygr1 ix x l st kk = true → (∀ q ∈ l, yPk sr v ws q) → ∃ st1, kk st1 = true ∧ yRS v st1 ∧ st1.2.2.2.2.1 = st.2.2.2.2.1 ∧ ∀ q ∈ st1.2.2.2.2.2, yPk sr v ws q := by
  intro l
  induction l with
  | nil => intro h _; exact ⟨st, h, hR, rfl, hQ⟩
  | cons q t ih =>
    intro h hl
    have h : (match Nat.beq q.1.2 920 && (ylS st (yoff (ysu ([], 0) q.2.1) 1) && (ylS st (ysu q.2.2.1 ix) && ylS st (yoff (ysu ix q.2.2.2) 1))) with
      | true => yasS (ysu ([], 0) x) st fun st => yasS (yoff (ysu x ix) 1) st fun st => yaddP ((([], 0), 920), yoff q.2.1 (-1), x, yoff x 1) st kk
      | false => ygr1 ix x t st kk) = true := h
    split at h
    · rename_i hc
      simp only [Bool.and_eq_true] at hc
      obtain ⟨c1, c2, c3, c4⟩ := hc
      obtain ⟨i, n, lo, hi, k1, k2, k3, k4, -, k6⟩ := hl q List.mem_cons_self
      rw [Nat.eq_of_beq_eq_true c1] at k6
      have b1 := ylS_ok c2 hR (yoff_ok (y_neg k2))
      have b2 := ylS_ok c3 hR (ysu_ok k3 hix)
      have b3 := ylS_ok c4 hR (yoff_ok (ysu_ok hix k4))
      have k6 : gDEP (yKo sr ws 99) n.toNat lo hi := k6
      have d := k6 (j : Int) (by omega) (by omega)
      obtain ⟨nn, hn⟩ : ∃ nn : Nat, n.toNat = nn + 1 := ⟨n.toNat - 1, by omega⟩
      rw [hn] at d
      obtain ⟨d1, d2, d3⟩ := gDEP_use d
      rw [Int.toNat_natCast, ← hz] at d1 d2 d3
      obtain ⟨st1, m1, m2, m3, -⟩ := yasS_ok h hR (y_neg hx) (by omega)
      obtain ⟨st2, p1, p2, p3, -⟩ := yasS_ok m1 m2 (yoff_ok (ysu_ok hx hix)) (by omega)
      obtain ⟨nx, B, F, Z, M, P⟩ := st2
      have e := p3.trans m3
      refine ⟨_, p1, p2, by rw [← e], fun q2 hq2 => ?_⟩
      rcases List.mem_cons.mp hq2 with rfl | hq2
      · refine ⟨0, n + -1, z, z + 1, yev_cn v 0, yoff_ok k2, hx, yoff_ok hx, fun i' c _ hsr _ => absurd (h9.1 i' _ hsr).1 (by show ¬ 920 < 900; omega), ?_⟩
        show gDEP (yKo sr ws 99) (n + -1).toNat z (z + 1)
        intro k h1 h2
        rw [show k = z by omega, show (n + -1).toNat = nn by omega]
        exact d3
      · exact hQ q2 (by rw [← e]; exact hq2)
    · exact ih h fun q hq => hl q (List.mem_cons_of_mem _ hq)
theorem yasQ_ok {x : yE} {cz z : Int} {kk : yS → Bool} (h : yasQ x cz st kk = true) (hR : yRS v st) (hx : yev v x = some z) (hz : z = cz) : ∃ st1, kk st1 = true ∧ yRS v st1 ∧ st1.2.2.2.2 = st.2.2.2.2 := by
  unfold yasQ at h
  obtain ⟨st1, m1, m2, m3, -⟩ := yasS_ok h hR (yoff_ok hx) (by omega)
  obtain ⟨st2, p1, p2, p3, -⟩ := yasS_ok m1 m2 (yoff_ok (y_neg hx)) (by omega)
  exact ⟨st2, p1, p2, p3.trans m3⟩
theorem yasG_ok {x : yE} {cz z : Int} {kk : yS → Bool} (h : yasG x cz st kk = true) (hR : yRS v st) (hx : yev v x = some z) (hz : cz ≤ z) : ∃ st1, kk st1 = true ∧ yRS v st1 ∧ st1.2.2.2.2 = st.2.2.2.2 := by
  unfold yasG at h
  obtain ⟨st1, m1, m2, m3, -⟩ := yasS_ok h hR (yoff_ok (y_neg hx)) (by omega)
  exact ⟨st1, m1, m2, m3⟩
theorem yaddG_ok {t : Nat} {n lo hi : yE} {zn zl zh : Int} {kk : yS → Bool} (h9 : yT9 sr) (ht : 900 ≤ t) (h : yaddG t n lo hi st kk = true) (hR : yRS v st) (hQ : ∀ q ∈ st.2.2.2.2.2, yPk sr v ws q) (hn : yev v n = some zn) (hl : yev v lo = some zl) (hh : yev v hi = some zh) (g : yGh t zn zl zh (yKo sr ws)) : ∃ st1, kk st1 = true ∧ yRS v st1 ∧ st1.2.2.2.2.1 = st.2.2.2.2.1 ∧ ∀ q ∈ st1.2.2.2.2.2, yPk sr v ws q := by
  obtain ⟨nx, B, F, Z, M, P⟩ := st
  unfold yaddG at h
  simp only [yfE_eq] at h
  refine ⟨_, h, hR, rfl, fun q hq => ?_⟩
  rcases List.mem_cons.mp hq with rfl | hq
  · exact ⟨0, zn, zl, zh, yev_cn v 0, hn, hl, hh, fun i' c _ hsr _ => absurd (h9.1 i' _ hsr).1 (by show ¬ t < 900; omega), g⟩
  · exact hQ q hq
/-- what stays, and what follows, of a state -/
def yGo (sr : List Nat) (v : List Int) (ws : va_W) (st : yS) (kk : yS → Bool) : Prop := ∃ st1, kk st1 = true ∧ yRS v st1 ∧ st1.2.2.2.2.1 = st.2.2.2.2.1 ∧ ∀ q ∈ st1.2.2.2.2.2, yPk sr v ws q
theorem yGo_of {st1 : yS} {kk : yS → Bool} (e : st1.2.2.2.2 = st.2.2.2.2) (h : yGo sr v ws st1 kk) : yGo sr v ws st kk := by
  obtain ⟨st2, a, b, c, d⟩ := h
  exact ⟨st2, a, b, by rw [c, e], d⟩
theorem yGo_M {st1 : yS} {kk : yS → Bool} (e : st1.2.2.2.2.1 = st.2.2.2.2.1) (h : yGo sr v ws st1 kk) : yGo sr v ws st kk := by
  obtain ⟨st2, a, b, c, d⟩ := h
  exact ⟨st2, a, b, by rw [c, e], d⟩
theorem yGo_now {kk : yS → Bool} (h : kk st = true) (hR : yRS v st) (hQ : ∀ q ∈ st.2.2.2.2.2, yPk sr v ws q) : yGo sr v ws st kk := ⟨st, h, hR, rfl, hQ⟩
theorem yQ_of {st1 : yS} (e : st1.2.2.2.2 = st.2.2.2.2) (hQ : ∀ q ∈ st.2.2.2.2.2, yPk sr v ws q) : ∀ q ∈ st1.2.2.2.2.2, yPk sr v ws q := by rw [e]; exact hQ
/-- the facts of one kind of row -/
theorem ygh_at {q : (yE × Nat) × yE × yE × yE} {t : Nat} (h : yPk sr v ws q) (ht : Nat.beq q.1.2 t = true) : ∃ n lo hi : Int, yev v q.2.1 = some n ∧ yev v q.2.2.1 = some lo ∧ yev v q.2.2.2 = some hi ∧ yGh t n lo hi (yKo sr ws) := by
  obtain ⟨i, n, lo, hi, k1, k2, k3, k4, -, k6⟩ := h
  rw [Nat.eq_of_beq_eq_true ht] at k6
  exact ⟨n, lo, hi, k2, k3, k4, k6⟩
theorem yaddO_ok {n lo hi : yE} {zn zl zh : Int} {kk : yS → Bool} (h9 : yT9 sr) (h : yaddO n lo hi st kk = true) (hR : yRS v st) (hQ : ∀ q ∈ st.2.2.2.2.2, yPk sr v ws q) (hn : yev v n = some zn) (hl : yev v lo = some zl) (hh : yev v hi = some zh) (g : gOPEN (yKo sr ws 74) zn zl zh) : yGo sr v ws st kk := by
  unfold yaddO at h
  have := gOPEN_le g
  obtain ⟨s1, m1, m2, m3, -⟩ := yasS_ok h hR (ysu_ok (yad_ok hn hl) hh) (by omega)
  exact yGo_of m3 (yaddG_ok h9 (by decide) m1 m2 (yQ_of m3 hQ) hn hl hh g)
theorem ygp1_ok {ix x : yE} {j : Nat} {z : Int} {kk : yS → Bool} (h9 : yT9 sr) (hR : yRS v st) (hQ : ∀ q ∈ st.2.2.2.2.2, yPk sr v ws q) (hix : yev v ix = some (j : Int)) (hx : yev v x = some z) (hz : z = yKo sr ws 74 j) : ∀ {l : yP}, ygp1 ix x l st kk = true → (∀ q ∈ l, yPk sr v ws q) → yGo sr v ws st kk := by
  intro l
  induction l with
  | nil => intro h _; exact yGo_now h hR hQ
  | cons q t ih =>
    intro h hl
    have h : (match Nat.beq q.1.2 921 && yeq q.2.2.2 ix with
      | false => ygp1 ix x t st kk
      | true => match yeq x ([], 20) with
        | true => yaddG 921 q.2.1 (yoff q.2.2.1 1) (yoff ix 1) st kk
        | false => match yeq x ([], 21) with
          | true => yaddG 921 q.2.1 q.2.2.1 (yoff ix 1) st kk
          | false => match ylS st (yoff x (-19)) || ylS st (yoff (ysu ([], 0) x) 22) with
            | true => yaddG 921 (yoff q.2.1 1) q.2.2.1 (yoff ix 1) st kk
            | false => kk st) = true := h
    split at h
    · exact ih h fun q hq => hl q (List.mem_cons_of_mem _ hq)
    · rename_i hc
      rw [Bool.and_eq_true] at hc
      obtain ⟨n, lo, hi, k2, k3, k4, g⟩ := ygh_at (hl q List.mem_cons_self) hc.1
      have g : gOPEN (yKo sr ws 74) n lo hi := g
      have e1 : hi = (j : Int) := by
        rw [yeq_ok hc.2, hix] at k4
        exact (Option.some.inj k4).symm
      subst e1
      obtain ⟨u1, u2, u3⟩ := gOPEN_up g
      rw [Int.toNat_natCast, ← hz] at u1 u2 u3
      split at h
      · rename_i c
        have e : z = 20 := by
          rw [yeq_ok c] at hx
          exact (Option.some.inj (hx.symm.trans (yev_cn v 20)))
        exact yaddG_ok h9 (by decide) h hR hQ k2 (yoff_ok k3) (yoff_ok hix) (u1 e)
      · split at h
        · rename_i c
          have e : z = 21 := by
            rw [yeq_ok c] at hx
            exact (Option.some.inj (hx.symm.trans (yev_cn v 21)))
          exact yaddG_ok h9 (by decide) h hR hQ k2 k3 (yoff_ok hix) (u2 e)
        · split at h
          · rename_i c
            rw [Bool.or_eq_true] at c
            have e : z ≤ 19 ∨ 22 ≤ z := by
              rcases c with c | c
              · have := ylS_ok c hR (yoff_ok hx)
                left; omega
              · have := ylS_ok c hR (yoff_ok (y_neg hx))
                right; omega
            exact yaddG_ok h9 (by decide) h hR hQ (yoff_ok k2) k3 (yoff_ok hix) (u3 (by omega) (by omega))
          · exact yGo_now h hR hQ
theorem ygro_ok {ix x : yE} {j : Nat} {z : Int} {kk : yS → Bool} (h9 : yT9 sr) (hR : yRS v st) (hQ : ∀ q ∈ st.2.2.2.2.2, yPk sr v ws q) (hix : yev v ix = some (j : Int)) (hx : yev v x = some z) (hz : z = yKo sr ws 74 j) : ∀ {l : yP}, ygro ix x l st kk = true → (∀ q ∈ l, yPk sr v ws q) → yGo sr v ws st kk := by
  intro l
  induction l with
  | nil => intro h _; exact yGo_now h hR hQ
  | cons q t ih =>
    intro h hl
    have h : (match Nat.beq q.1.2 921 with
      | false => ygro ix x t st kk
      | true => match yeq (yoff ix 1) q.2.2.2 with
        | true => yasQ x 20 st (fun st => yasG q.2.2.1 1 st (yaddO q.2.1 (yoff q.2.2.1 (-1)) ix · kk)) && (yasQ x 21 st (fun st => yaddO q.2.1 q.2.2.1 ix st kk) && (yasS (yoff x (-19)) st (fun st => yasG q.2.1 1 st (yaddO (yoff q.2.1 (-1)) q.2.2.1 ix · kk)) && yasG x 22 st (fun st => yasG q.2.1 1 st (yaddO (yoff q.2.1 (-1)) q.2.2.1 ix · kk))))
        | false => match ylS st (yoff (ysu ix q.2.2.2) 1) with
          | true => yasQ x 20 st (fun st => yasG q.2.2.1 1 st kk) && (yasS (yoff x (-19)) st kk && yasG x 21 st kk)
          | false => ygro ix x t st kk) = true := h
    have hl2 : ∀ q ∈ t, yPk sr v ws q := fun q hq => hl q (List.mem_cons_of_mem _ hq)
    split at h
    · exact ih h hl2
    · rename_i hc
      obtain ⟨n, lo, hi, k2, k3, k4, g⟩ := ygh_at (hl q List.mem_cons_self) hc
      have g : gOPEN (yKo sr ws 74) n lo hi := g
      split at h
      · rename_i he
        have e1 : hi = (j : Int) + 1 := by
          have := yoff_ok (c := 1) hix
          rw [yeq_ok he, k4] at this
          exact Option.some.inj this
        subst e1
        obtain ⟨d1, d2, d3⟩ := gOPEN_down g
        rw [← hz] at d1 d2 d3
        simp only [Bool.and_eq_true] at h
        obtain ⟨h1, h2, h3, h4⟩ := h
        by_cases c1 : z = 20
        · obtain ⟨b1, b2⟩ := d1 c1
          obtain ⟨s1, m1, m2, m3⟩ := yasQ_ok h1 hR hx c1
          obtain ⟨s2, p1, p2, p3⟩ := yasG_ok m1 m2 k3 b1
          exact yGo_of (p3.trans m3) (yaddO_ok h9 p1 p2 (yQ_of (p3.trans m3) hQ) k2 (yoff_ok k3) hix (show gOPEN (yKo sr ws 74) n (lo + -1) (j : Int) from by rw [show lo + -1 = lo - 1 by omega]; exact b2))
        · by_cases c2 : z = 21
          · obtain ⟨s1, m1, m2, m3⟩ := yasQ_ok h2 hR hx c2
            exact yGo_of m3 (yaddO_ok h9 m1 m2 (yQ_of m3 hQ) k2 k3 hix (d2 c2))
          · obtain ⟨b1, b2⟩ := d3 c1 c2
            by_cases c3 : z ≤ 19
            · obtain ⟨s1, m1, m2, m3, -⟩ := yasS_ok h3 hR (yoff_ok hx) (by omega)
              obtain ⟨s2, p1, p2, p3⟩ := yasG_ok m1 m2 k2 b1
              exact yGo_of (p3.trans m3) (yaddO_ok h9 p1 p2 (yQ_of (p3.trans m3) hQ) (yoff_ok k2) k3 hix (show gOPEN (yKo sr ws 74) (n + -1) lo (j : Int) from by rw [show n + -1 = n - 1 by omega]; exact b2))
            · obtain ⟨s1, m1, m2, m3⟩ := yasG_ok h4 hR hx (by omega)
              obtain ⟨s2, p1, p2, p3⟩ := yasG_ok m1 m2 k2 b1
              exact yGo_of (p3.trans m3) (yaddO_ok h9 p1 p2 (yQ_of (p3.trans m3) hQ) (yoff_ok k2) k3 hix (show gOPEN (yKo sr ws 74) (n + -1) lo (j : Int) from by rw [show n + -1 = n - 1 by omega]; exact b2))
      · split at h
        · rename_i he
          have he := ylS_ok he hR (yoff_ok (ysu_ok hix k4))
          simp only [Bool.and_eq_true] at h
          obtain ⟨h1, h2, h3⟩ := h
          by_cases c1 : z = 20
          · have b1 := gOPEN_at g (j := j) (by omega) (by rw [← hz]; exact c1)
            obtain ⟨s1, m1, m2, m3⟩ := yasQ_ok h1 hR hx c1
            obtain ⟨s2, p1, p2, p3⟩ := yasG_ok m1 m2 k3 b1
            exact yGo_of (p3.trans m3) (yGo_now p1 p2 (yQ_of (p3.trans m3) hQ))
          · by_cases c3 : z ≤ 19
            · obtain ⟨s1, m1, m2, m3, -⟩ := yasS_ok h2 hR (yoff_ok hx) (by omega)
              exact yGo_of m3 (yGo_now m1 m2 (yQ_of m3 hQ))
            · obtain ⟨s1, m1, m2, m3⟩ := yasG_ok h3 hR hx (by omega)
              exact yGo_of m3 (yGo_now m1 m2 (yQ_of m3 hQ))
        · exact ih h hl2
theorem ygrs_ok {ix x : yE} {j : Nat} {z : Int} {kk : yS → Bool} (h9 : yT9 sr) (hR : yRS v st) (hM : ∀ q ∈ st.2.2.2.2.1, yMk b sz sr v ws q) (hQ : ∀ q ∈ st.2.2.2.2.2, yPk sr v ws q) (hix : yev v ix = some (j : Int)) (hx : yev v x = some z) (hz : z = yKo sr ws 70 j) : ∀ {l : yP}, ygrs ix x l st kk = true → (∀ q ∈ l, yPk sr v ws q) → yGo sr v ws st kk := by
  intro l
  induction l with
  | nil => intro h _; exact yGo_now h hR hQ
  | cons q t ih =>
    intro h hl
    have h : (match Nat.beq q.1.2 940 && yeq q.2.2.1 ix with
      | false => ygrs ix x t st kk
      | true => match yfKe 72 q.2.2.2 st.2.2.2.2.1 with
        | none => ygrs ix x t st kk
        | some b => match yfKe 73 q.2.2.2 st.2.2.2.2.1 with
          | none => ygrs ix x t st kk
          | some m => match ylS st (yoff (ysu ix (yad b m)) 1) with
            | false => ygrs ix x t st kk
            | true => yasQ x 0 st (fun st => yasS (yoff q.2.1 (-63)) st (yaddG 940 (yoff q.2.1 1) (yoff ix 1) q.2.2.2 · kk)) && (yasQ x 1 st (fun st => yasS (yoff q.2.1 (-63)) st fun st => yaddG 941 ([], 0) ix (yoff ix 1) st (yaddG 940 (yoff q.2.1 1) (yoff ix 1) q.2.2.2 · kk)) && (yasQ x 2 st (fun st => yasG q.2.1 1 st (yaddG 940 q.2.1 (yoff ix 1) q.2.2.2 · kk)) && (yasG x 3 st (fun st => yasG q.2.1 2 st (yaddG 940 (yoff q.2.1 (-1)) (yoff ix 1) q.2.2.2 · kk)) && yasS (yoff x 1) st (fun st => yasG q.2.1 2 st (yaddG 940 (yoff q.2.1 (-1)) (yoff ix 1) q.2.2.2 · kk)))))) = true := h
    have hl2 : ∀ q ∈ t, yPk sr v ws q := fun q hq => hl q (List.mem_cons_of_mem _ hq)
    split at h
    · exact ih h hl2
    · rename_i hc
      rw [Bool.and_eq_true] at hc
      split at h
      · exact ih h hl2
      · rename_i bb hbb
        split at h
        · exact ih h hl2
        · rename_i mm hmm
          split at h
          · exact ih h hl2
          · rename_i hlt
            obtain ⟨n, lo, hi, k2, k3, k4, g⟩ := ygh_at (hl q List.mem_cons_self) hc.1
            have g : gRW (yKo sr ws) n lo hi := g
            have elo : lo = (j : Int) := by
              rw [yeq_ok hc.2, hix] at k3
              exact (Option.some.inj k3).symm
            subst elo
            obtain ⟨w1, z1, a1, a2, a3⟩ := yfKe_ok h9 (by decide) hbb hM
            obtain ⟨w2, z2, b1, b2, b3⟩ := yfKe_ok h9 (by decide) hmm hM
            rw [k4] at a1 b1
            have a1 := Option.some.inj a1
            have b1 := Option.some.inj b1
            have hlt := ylS_ok hlt hR (yoff_ok (ysu_ok hix (yad_ok a2 b2)))
            have u := gRW_use g (by rw [show hi.toNat = w1 by omega, a3, show w1 = w2 by omega, b3]; omega)
            rw [← hz] at u
            simp only [Bool.and_eq_true] at h
            obtain ⟨h1, h2, h3, h4, h5⟩ := h
            rcases u with ⟨u0, u1, u2⟩ | ⟨u0, u1, u2, u3, u4⟩ | ⟨u0, u1, u2⟩ | ⟨u0, u1, u2, u3, u4⟩
            · obtain ⟨s1, m1, m2, m3⟩ := yasQ_ok h1 hR hx u0
              obtain ⟨s2, p1, p2, p3, -⟩ := yasS_ok m1 m2 (yoff_ok k2) (by omega)
              exact yGo_of (p3.trans m3) (yaddG_ok h9 (by decide) p1 p2 (yQ_of (p3.trans m3) hQ) (yoff_ok k2) (yoff_ok hix) k4 u2)
            · obtain ⟨s1, m1, m2, m3⟩ := yasQ_ok h2 hR hx u0
              obtain ⟨s2, p1, p2, p3, -⟩ := yasS_ok m1 m2 (yoff_ok k2) (by omega)
              obtain ⟨s3, q1, q2, q3, q4⟩ := yaddG_ok h9 (by decide) p1 p2 (yQ_of (p3.trans m3) hQ) (yev_cn v 0) hix (yoff_ok hix) (show yGh 941 0 (j : Int) ((j : Int) + 1) (yKo sr ws) from fun j1 e1 e2 => by rw [show j1 = j by omega]; exact ⟨u2, u3⟩)
              exact yGo_of (p3.trans m3) (yGo_M q3 (yaddG_ok h9 (by decide) q1 q2 q4 (yoff_ok k2) (yoff_ok hix) k4 u4))
            · obtain ⟨s1, m1, m2, m3⟩ := yasQ_ok h3 hR hx u0
              obtain ⟨s2, p1, p2, p3⟩ := yasG_ok m1 m2 k2 u1
              exact yGo_of (p3.trans m3) (yaddG_ok h9 (by decide) p1 p2 (yQ_of (p3.trans m3) hQ) k2 (yoff_ok hix) k4 u2)
            · by_cases c3 : 3 ≤ z
              · obtain ⟨s1, m1, m2, m3⟩ := yasG_ok h4 hR hx c3
                obtain ⟨s2, p1, p2, p3⟩ := yasG_ok m1 m2 k2 u3
                exact yGo_of (p3.trans m3) (yaddG_ok h9 (by decide) p1 p2 (yQ_of (p3.trans m3) hQ) (yoff_ok k2) (yoff_ok hix) k4 (show yGh 940 (n + -1) ((j : Int) + 1) hi (yKo sr ws) from by rw [show n + -1 = n - 1 by omega]; exact u4))
              · obtain ⟨s1, m1, m2, m3, -⟩ := yasS_ok h5 hR (yoff_ok hx) (by omega)
                obtain ⟨s2, p1, p2, p3⟩ := yasG_ok m1 m2 k2 u3
                exact yGo_of (p3.trans m3) (yaddG_ok h9 (by decide) p1 p2 (yQ_of (p3.trans m3) hQ) (yoff_ok k2) (yoff_ok hix) k4 (show yGh 940 (n + -1) ((j : Int) + 1) hi (yKo sr ws) from by rw [show n + -1 = n - 1 by omega]; exact u4))
theorem ygra_ok {ix x : yE} {j : Nat} {z : Int} {kk : yS → Bool} (hR : yRS v st) (hQ : ∀ q ∈ st.2.2.2.2.2, yPk sr v ws q) (hix : yev v ix = some (j : Int)) (hx : yev v x = some z) (hz : z = yKo sr ws 71 j) : ∀ {l : yP}, ygra ix x l st kk = true → (∀ q ∈ l, yPk sr v ws q) → yGo sr v ws st kk := by
  intro l
  induction l with
  | nil => intro h _; exact yGo_now h hR hQ
  | cons q t ih =>
    intro h hl
    have h : (match Nat.beq q.1.2 941 && (ylS st (ysu q.2.2.1 ix) && ylS st (yoff (ysu ix q.2.2.2) 1)) with
      | false => ygra ix x t st kk
      | true => yasG x 0 st fun st => yasS (yoff x (-5)) st kk && (yasQ x 6 st kk && yasQ x 7 st kk)) = true := h
    split at h
    · exact ih h fun q hq => hl q (List.mem_cons_of_mem _ hq)
    · rename_i hc
      simp only [Bool.and_eq_true] at hc
      obtain ⟨c1, c2, c3⟩ := hc
      obtain ⟨n, lo, hi, k2, k3, k4, g⟩ := ygh_at (hl q List.mem_cons_self) c1
      have g : gARG (yKo sr ws) lo hi := g
      have c2 := ylS_ok c2 hR (ysu_ok k3 hix)
      have c3 := ylS_ok c3 hR (yoff_ok (ysu_ok hix k4))
      obtain ⟨d1, d2⟩ := g j (by omega) (by omega)
      rw [← hz] at d1 d2
      obtain ⟨s1, m1, m2, m3⟩ := yasG_ok h hR hx d1
      simp only [Bool.and_eq_true] at m1
      by_cases c5 : z ≤ 5
      · obtain ⟨s2, p1, p2, p3, -⟩ := yasS_ok m1.1 m2 (yoff_ok hx) (by omega)
        exact yGo_of (p3.trans m3) (yGo_now p1 p2 (yQ_of (p3.trans m3) hQ))
      · by_cases c6 : z = 6
        · obtain ⟨s2, p1, p2, p3⟩ := yasQ_ok m1.2.1 m2 hx c6
          exact yGo_of (p3.trans m3) (yGo_now p1 p2 (yQ_of (p3.trans m3) hQ))
        · obtain ⟨s2, p1, p2, p3⟩ := yasQ_ok m1.2.2 m2 hx (by omega)
          exact yGo_of (p3.trans m3) (yGo_now p1 p2 (yQ_of (p3.trans m3) hQ))
theorem yKo_at {i t j : Nat} {e0 : Nat × va_E} {z : Int32} (h9 : yT9 sr) (ht : t ∈ yOne) (hsr : sr[i]? = some t) (hw : ws[i]? = some e0) (hct : yct e0.2 j = some (.int z)) : z.toInt = yKo sr ws t j := by
  unfold yKo
  rw [yiw_one h9 ht hsr, hw]
  dsimp only
  rw [hct]
theorem ygrd_ok {one : Bool} {t i j : Nat} {ix x : yE} {e0 : Nat × va_E} {z : Int32} {kk : yS → Bool} (h9 : yT9 sr) (hR : yRS v st) (hM : ∀ q ∈ st.2.2.2.2.1, yMk b sz sr v ws q) (hQ : ∀ q ∈ st.2.2.2.2.2, yPk sr v ws q) (hsr : sr[i]? = some t) (hw : ws[i]? = some e0) (hct : yct e0.2 j = some (.int z)) (hix : yev v ix = some (j : Int)) (hx : yev v x = some z.toInt) (h : ygrd one t ix x st kk = true) : yGo sr v ws st kk := by
  unfold ygrd at h
  split at h
  · exact yGo_now h hR hQ
  · split at h
    · rename_i c
      have c := Nat.eq_of_beq_eq_true c
      subst c
      exact ygr1_ok hR hQ hix hx (yKo_at h9 (by decide) hsr hw hct) h9 h hQ
    · split at h
      · rename_i c
        have c := Nat.eq_of_beq_eq_true c
        subst c
        exact ygro_ok h9 hR hQ hix hx (yKo_at h9 (by decide) hsr hw hct) h hQ
      · split at h
        · rename_i c
          have c := Nat.eq_of_beq_eq_true c
          subst c
          exact ygrs_ok h9 hR hM hQ hix hx (yKo_at h9 (by decide) hsr hw hct) h hQ
        · split at h
          · rename_i c
            have c := Nat.eq_of_beq_eq_true c
            subst c
            exact ygra_ok hR hQ hix hx (yKo_at h9 (by decide) hsr hw hct) h hQ
          · exact yGo_now h hR hQ
theorem ygpu_ok {one : Bool} {t i j : Nat} {ix x : yE} {e0 : Nat × va_E} {z : Int32} {kk : yS → Bool} (h9 : yT9 sr) (hR : yRS v st) (hQ : ∀ q ∈ st.2.2.2.2.2, yPk sr v ws q) (hsr : sr[i]? = some t) (hw : ws[i]? = some e0) (hct : yct e0.2 j = some (.int z)) (hix : yev v ix = some (j : Int)) (hx : yev v x = some z.toInt) (h : ygpu one t ix x st kk = true) : yGo sr v ws st kk := by
  unfold ygpu at h
  split at h
  · rename_i c
    rw [Bool.and_eq_true] at c
    have c := Nat.eq_of_beq_eq_true c.2
    subst c
    exact ygp1_ok h9 hR hQ hix hx (yKo_at h9 (by decide) hsr hw hct) h hQ
  · exact yGo_now h hR hQ
/-- how many steps there are: e less the begin -/
theorem ygmn_ok {one : Bool} {t i j : Nat} {ix eb : yE} {e0 : Nat × va_E} {z : Int32} (h9 : yT9 sr) (hM : ∀ q ∈ st.2.2.2.2.1, yMk b sz sr v ws q) (hQ : ∀ q ∈ st.2.2.2.2.2, yPk sr v ws q) (hsr : sr[i]? = some t) (hw : ws[i]? = some e0) (hct : yct e0.2 j = some (.int z)) (hix : yev v ix = some (j : Int)) (h : ygmn one t ix st = some eb) : ∃ zb : Int, yev v eb = some zb ∧ 0 ≤ zb + z.toInt ∧ zb + z.toInt ≤ 2400 ∧ 0 ≤ z.toInt := by
  unfold ygmn at h
  split at h
  · rename_i c
    simp only [Bool.and_eq_true] at c
    obtain ⟨-, c1, c2⟩ := c
    have c1 := Nat.eq_of_beq_eq_true c1
    subst c1
    obtain ⟨q, q1, q2⟩ := yany_ok c2
    rw [Bool.and_eq_true] at q2
    obtain ⟨n, lo, hi, k2, k3, k4, g⟩ := ygh_at (hQ q q1) q2.1
    have g : gRW (yKo sr ws) n lo hi := g
    rw [yeq_ok q2.2, hix] at k4
    have k4 := Option.some.inj k4
    obtain ⟨w1, z1, a1, a2, a3⟩ := yfKe_ok h9 (by decide) h hM
    rw [hix] at a1
    have a1 := Option.some.inj a1
    obtain ⟨g0, g1, g2, g3, g4, -⟩ := g
    have e : hi.toNat = j := by omega
    rw [e] at g2 g3 g4
    have e73 := yKo_at h9 (by decide) hsr hw hct
    have e72 : yKo sr ws 72 j = z1 := by rw [show j = w1 by omega]; exact a3
    exact ⟨z1, a2, by omega, by omega, by omega⟩
  · cases h
theorem ys_ald {P : yPar} {isB : Bool} {n : Nat} {xs : Nat → Int32} (hKo : yKOk sr tt) (h9 : yT9 sr) (h : yx_ald P isB pc L S st k = true) (hk : ∀ cf, k cf = true → yJ p l e R s m args below meth c Q b sz sr tt D ca ms ws0 nL K0 S0 v cf) (hPt : P.1 = tt)
    (hx : p.tables.exec = Jvm.exec) (hb : c.code = cc) (hK : va_K D vwCl (zTys ca) s) (hX : va_X b n xs s s.heap) (hbz : b < sz) (hs : s.heap.size ≥ sz) (hlen : ∀ sl, P.2.2.2 = some sl → yev v sl.1 = some (n : Int)) (hsc : ∀ sl, P.2.2.2 = some sl → ∀ q ∈ sl.2, ∃ j : Nat, yev v q.1 = some (j : Int) ∧ yev v q.2 = some (xs j).toInt) (hdg : decode cc pc = .ok (if isB then .baload else .iaload, 1)) : yJat p l e R s m args below meth c Q b sz sr tt D ca ms ws0 nL K0 S0 v (pc, L, S, st) := by
  subst hPt
  unfold yx_ald at h
  split at h
  · rename_i ix x t r
    split at h
    · rename_i q0 kd len ar ht
      simp only [Bool.and_eq_true] at h
      obtain ⟨hkb, hix, h⟩ := h
      have hkd := y_kd hkb
      intro H ls stk locs hR hH hL hS
      obtain ⟨w1, s1, rfl, hw1, hS1⟩ := ySR_cons hS
      obtain ⟨w2, s2, rfl, hw2, hS2⟩ := ySR_cons hS1
      obtain ⟨j, rfl, hj⟩ := hw1
      obtain ⟨i, rfl, hi, hsr⟩ := hw2
      obtain ⟨j0, j1⟩ := yix_ok hix hR hj (yev_cn v _)
      have j1 : j.toInt < len := j1
      obtain ⟨i1, i2, i3, i4, i5⟩ := y_inx j0 j1
      obtain ⟨ws, hW, hP, hD, hV, hM, hQ, hF⟩ := hH
      obtain ⟨e0, hw, hty⟩ := y_cell hW hsr ht
      obtain ⟨f, rfl, hall⟩ : ∃ f : Nat → Int32, e0 = .inl (ca kd, len, .inl f) ∧ ∀ j, j < len → yArOk ar j (f j).toInt := by
        rcases hty with ⟨-, f, h1, h2⟩ | ⟨h3, -⟩
        · exact ⟨f, h1, h2⟩
        · omega
      have row : W p l e R s m args below meth c H locs K0 S0 Q (F0 m (pc + 1) ls (.int (f j.toNatClampNeg) :: s2)) → W p l e R s m args below meth c H locs K0 S0 Q (F0 m pc ls (.int j :: .ref (sz + i) :: s2)) := by
        intro kk
        cases isB
        · have hk2 : kd = 2 := Nat.eq_of_beq_eq_true hkb
          subst hk2
          exact va_iald hx hb hK hP i 2 hw (z_ty 2 (by omega)) i1 hdg kk
        · have hk2 : kd < 2 := by simpa [zkb, Nat.blt_eq] using hkb
          rcases (show kd = 0 ∨ kd = 1 by omega) with rfl | rfl
          · exact va_bald hx hb hK hP i 0 hw (z_ty 0 (by omega)) i1 hdg kk
          · exact va_zald hx hb hK hP i 1 hw (z_ty 1 (by omega)) i1 hdg kk
      have hj' : yev v ix = some ((j.toNatClampNeg : Nat) : Int) := by rw [i3]; exact hj
      have hct : yct (.inl (ca kd, len, .inl f)) j.toNatClampNeg = some (.int (f j.toNatClampNeg)) := if_pos i4
      refine row ?_
      split at h
      · rename_i a0 hlk
        rw [Bool.and_eq_true] at h
        obtain ⟨ii, j2, cl, w, g1, g2, g3, g4, g5, g6⟩ := ylk_ok hlk hM
        have hi2 : ii = i := by rw [hi] at g1; have := Option.some.inj g1; omega
        subst hi2
        have hj2 : j2 = j.toNatClampNeg := by rw [hj'] at g3; have := Option.some.inj g3; omega
        subst hj2
        rw [hw] at g4
        cases g4
        have g5 : yct (.inl (ca kd, len, .inl f)) j.toNatClampNeg = some w := g5
        rw [hct] at g5
        cases g5
        exact yon0 hk h.2 hR ⟨ws, hW, hP, hD, hV, hM, hQ, hF⟩ hL ⟨g6, hS2⟩
      · have fin : ∀ (u : List Int) (y : yE) (M : yM) (st2 : yS), ygo (pc + 1) L (.inl y :: r) st2 k = true → yRS (v ++ u) st2 → yev (v ++ u) y = some (f j.toNatClampNeg).toInt → st2.2.2.2.2.1 = ((x, t, ix), .inl y) :: M → (∀ q ∈ M, yMk b sz sr v ws q) → (∀ q ∈ st2.2.2.2.2.2, yPk sr (v ++ u) ws q) → W p l e R s m args below meth c H locs K0 S0 Q (F0 m (pc + 1) ls (.int (f j.toNatClampNeg) :: s2)) := by
          intro u y M st2 m1 m2 g3 m3 m5 m4
          refine hk _ (ygo_k m1) u H ls _ locs m2 ⟨ws, hW, hP, hD, hV, fun q hq => ?_, m4, hF⟩ (yLR_mono hL) ⟨⟨_, rfl, g3⟩, ySR_mono hS2⟩
          have hq : q ∈ st2.2.2.2.2.1 := hq
          rw [m3] at hq
          rcases List.mem_cons.mp hq with rfl | hq
          · exact ⟨i, _, _, _, yev_mono hi, hsr, yev_mono hj', hw, hct, ⟨_, rfl, g3⟩⟩
          · exact yMk_mono (m5 q hq)
        split at h
        · rename_i eb heb
          obtain ⟨zb, n1, n2, n3, n4⟩ := ygmn_ok h9 hM hQ hsr hw hct hj' heb
          obtain ⟨st1, g1, g2, g3, g4⟩ := yfr_ok (z := zb + (f j.toNatClampNeg).toInt) h hR n2 n3
          obtain ⟨st2, m1, m2, m3, -⟩ := yasS_ok g1 g2 (ysu_ok (yev_mono n1) g3) (by omega)
          rw [yfE_eq] at m1
          have e := m3.trans g4
          obtain ⟨nx, B, F, Z, M, P0⟩ := st2
          obtain ⟨nx0, B0, F0', Z0, M0, P00⟩ := st
          cases e
          simp only [yaddM] at m1
          refine fin _ _ M _ m1 m2 ?_ rfl hM fun q hq => yPk_mono (hQ q hq)
          rw [ysu_ok g3 (yev_mono n1)]
          congr 1
          omega
        · obtain ⟨y, u, st1, g1, g2, g3, g4⟩ := yrr_ok h hR hsr hi hj' (hall _ i4) hM hQ hw hct
          obtain ⟨nx, B, F, Z, M, P0⟩ := st1
          obtain ⟨nx0, B0, F0', Z0, M0, P00⟩ := st
          cases g4
          simp only [yaddM] at g1
          obtain ⟨st2, m1, m2, m3, m4⟩ := ygrd_ok (b := b) (sz := sz) (ws := ws) (v := v ++ u) (st := (nx, B, F, Z, ((x, t, ix), .inl y) :: M, P0)) h9 g2 (fun q hq => by
            rcases List.mem_cons.mp hq with rfl | hq
            · exact ⟨i, _, _, _, yev_mono hi, hsr, yev_mono hj', hw, hct, ⟨_, rfl, g3⟩⟩
            · exact yMk_mono (hM q hq)) (fun q hq => yPk_mono (hQ q hq)) hsr hw hct (yev_mono hj') g3 g1
          exact fin u y M st2 m1 m2 g3 m3 hM m4
    · cases h
  · rename_i ix r
    simp only [Bool.and_eq_true, Bool.not_eq_true'] at h
    obtain ⟨hb0, h⟩ := h
    subst hb0
    split at h
    · rename_i sl hsl
      rw [Bool.and_eq_true] at h
      obtain ⟨hix, h⟩ := h
      intro H ls stk locs hR hH hL hS
      obtain ⟨w1, s1, rfl, hw1, hS1⟩ := ySR_cons hS
      obtain ⟨w2, s2, rfl, hw2, hS2⟩ := ySR_cons hS1
      obtain ⟨j, rfl, hj⟩ := hw1
      have e1 : w2 = .ref b := hw2
      subst e1
      have hle := hlen sl hsl
      obtain ⟨j0, j1⟩ := yix_ok hix hR hj hle
      obtain ⟨i1, i2, i3, i4, i5⟩ := y_inx j0 j1
      obtain ⟨ws, hW, hP, hD, hV, hM, hQ, hF⟩ := hH
      refine va_sld hx hb hX (by omega) (Nat.not_le.mpr hbz) hV i1 hdg ?_
      split at h
      · rename_i x hxs
        obtain ⟨q, q1, q2, q3⟩ := yscr_ok hxs
        obtain ⟨j', k1, k2⟩ := hsc sl hsl q q1
        rw [q2, hj] at k1
        have k1 := Option.some.inj k1
        have e4 : j.toNatClampNeg = j' := by omega
        refine yon0 hk h hR ⟨ws, hW, hP, hD, hV, hM, hQ, hF⟩ hL ⟨⟨_, rfl, ?_⟩, hS2⟩
        rw [e4, ← q3]
        exact k2
      · exact yon hk (ytp_ok h hR) ⟨ws, hW, hP, hD, hV, hM, hQ, hF⟩ hL hS2
    · cases h
  · cases h
theorem yoth_ok {x ix y : yE} {t : Nat} {M : yM} (h : yoth x t M = some (ix, y)) (hM : ∀ q ∈ M, yMk b sz sr v ws q) : ∃ (i j : Nat) (cl : Nat × va_E) (w : Int64), yev v x = some (i : Int) ∧ yev v ix = some (j : Int) ∧ ws[i]? = some cl ∧ yct cl.2 j = some (.long w) ∧ yev v y = some w.toInt := by
  induction M with
  | nil => cases h
  | cons q M ih =>
    have h : (match Nat.beq q.1.2.1 t && yeq q.1.1 x with
      | true => (match q.2 with
        | .inr (.inl y) => some (q.1.2.2, y)
        | _ => yoth x t M)
      | false => yoth x t M) = some (ix, y) := h
    have hM2 : ∀ q ∈ M, yMk b sz sr v ws q := fun q hq => hM q (List.mem_cons_of_mem _ hq)
    split at h
    · rename_i hc
      rw [Bool.and_eq_true] at hc
      split at h
      · rename_i y0 hy0
        cases h
        obtain ⟨i, j, cl, w, g1, g2, g3, g4, g5, g6⟩ := hM q List.mem_cons_self
        rw [hy0] at g6
        obtain ⟨z, rfl, hz⟩ := g6
        exact ⟨i, j, cl, z, by rw [← yeq_ok hc.2]; exact g1, g3, g4, g5, hz⟩
      · exact ih h hM2
    · exact ih h hM2
theorem ys_lald {P : yPar} (h : yx_lald P pc L S st k = true) (hk : ∀ cf, k cf = true → yJ p l e R s m args below meth c Q b sz sr tt D ca ms ws0 nL K0 S0 v cf) (hPt : P.1 = tt)
    (hx : p.tables.exec = Jvm.exec) (hb : c.code = cc) (hK : va_K D vwCl (zTys ca) s) (hdg : decode cc pc = .ok (.laload, 1)) : yJat p l e R s m args below meth c Q b sz sr tt D ca ms ws0 nL K0 S0 v (pc, L, S, st) := by
  subst hPt
  unfold yx_lald at h
  split at h
  · rename_i ix x t r
    split at h
    · rename_i q0 kd len ar ht
      simp only [Bool.and_eq_true] at h
      obtain ⟨hkb, hix, h⟩ := h
      have hkb := Nat.eq_of_beq_eq_true hkb
      subst hkb
      intro H ls stk locs hR hH hL hS
      obtain ⟨w1, s1, rfl, hw1, hS1⟩ := ySR_cons hS
      obtain ⟨w2, s2, rfl, hw2, hS2⟩ := ySR_cons hS1
      obtain ⟨j, rfl, hj⟩ := hw1
      obtain ⟨i, rfl, hi, hsr⟩ := hw2
      obtain ⟨j0, j1⟩ := yix_ok hix hR hj (yev_cn v _)
      have j1 : j.toInt < len := j1
      obtain ⟨i1, i2, i3, i4, i5⟩ := y_inx j0 j1
      obtain ⟨ws, hW, hP, hD, hV, hM, hQ, hF⟩ := hH
      obtain ⟨e0, hw, hty⟩ := y_cell hW hsr ht
      obtain ⟨f, rfl⟩ : ∃ f : Nat → Int64, e0 = .inl (ca 3, len, .inr (.inl f)) := by
        rcases hty with ⟨h3, -⟩ | ⟨-, f, h1⟩
        · omega
        · exact ⟨f, h1⟩
      have hj' : yev v ix = some ((j.toNatClampNeg : Nat) : Int) := by rw [i3]; exact hj
      have hct : yct (.inl (ca 3, len, .inr (.inl f))) j.toNatClampNeg = some (.long (f j.toNatClampNeg)) := if_pos i4
      refine va_lald hx hb hK hP i 3 hw (z_ty 3 (by omega)) i1 hdg ?_
      have fresh : ∀ st1 : yS, yRS v st1 → st1.2.2.2.2 = st.2.2.2.2 → (ytl st1 fun a st => yaddM x t ix a st fun st => ygo (pc + 1) L (a :: r) st k) = true → W p l e R s m args below meth c H locs K0 S0 Q (F0 m (pc + 1) ls (.long (f j.toNatClampNeg) :: s2)) := by
        intro st1 hR1 hMP h1
        exact yonM hk (ytl_ok h1 hR1) hW hP hD hV (by rw [hMP]; exact hM) (by rw [hMP]; exact hQ) hF ⟨i, _, _, hi, hsr, hj', hw, hct⟩ hL hS2
      split at h
      · rename_i a0 hlk
        rw [Bool.and_eq_true] at h
        obtain ⟨ii, j2, cl, w, g1, g2, g3, g4, g5, g6⟩ := ylk_ok hlk hM
        have hi2 : ii = i := by rw [hi] at g1; have := Option.some.inj g1; omega
        subst hi2
        have hj2 : j2 = j.toNatClampNeg := by rw [hj'] at g3; have := Option.some.inj g3; omega
        subst hj2
        rw [hw] at g4
        cases g4
        have g5 : yct (.inl (ca 3, len, .inr (.inl f))) j.toNatClampNeg = some w := g5
        rw [hct] at g5
        cases g5
        exact yon0 hk h.2 hR ⟨ws, hW, hP, hD, hV, hM, hQ, hF⟩ hL ⟨g6, hS2⟩
      · split at h
        · rename_i i0 x0 hoth
          obtain ⟨ii, j2, cl, w, g1, g3, g4, g5, g6⟩ := yoth_ok hoth hM
          have hi2 : ii = i := by rw [hi] at g1; have := Option.some.inj g1; omega
          subst hi2
          rw [hw] at g4
          cases g4
          have g5 : yct (.inl (ca 3, len, .inr (.inl f))) j2 = some (.long w) := g5
          obtain ⟨e1, e2⟩ := yeqb_ok h hR (ysu_ok hj' g3)
          by_cases hz : ((j.toNatClampNeg : Nat) : Int) - (j2 : Int) = 0
          · have hj2 : j2 = j.toNatClampNeg := by omega
            subst hj2
            rw [hct] at g5
            cases g5
            obtain ⟨u, st1, k1, k2, k3⟩ := e1 hz
            obtain ⟨nx, B, F, Z, M, P0⟩ := st1
            obtain ⟨nx0, B0, F0, Z0, M0, P00⟩ := st
            cases k3
            simp only [yaddM] at k1
            refine hk _ (ygo_k k1) u H ls _ locs k2 ⟨ws, hW, hP, hD, hV, fun q hq => ?_, fun q hq => yPk_mono (hQ q hq), hF⟩ (yLR_mono hL) ⟨⟨_, rfl, yev_mono g6⟩, ySR_mono hS2⟩
            rcases List.mem_cons.mp hq with rfl | hq
            · exact ⟨_, _, _, _, yev_mono hi, hsr, yev_mono hj', hw, hct, ⟨_, rfl, yev_mono g6⟩⟩
            · exact yMk_mono (hM q hq)
          · obtain ⟨u, st1, k1, k2, k3⟩ := e2 hz
            have fresh2 : ∀ st2 : yS, yRS (v ++ u) st2 → st2.2.2.2.2 = st.2.2.2.2 → (ytl st2 fun a st => yaddM x t ix a st fun st => ygo (pc + 1) L (a :: r) st k) = true → W p l e R s m args below meth c H locs K0 S0 Q (F0 m (pc + 1) ls (.long (f j.toNatClampNeg) :: s2)) := by
              intro st2 hR2 hMP h1
              exact yonM (fun cf hcf => yJ_ext (hk cf hcf) u) (ytl_ok h1 hR2) hW hP hD hV (by rw [hMP]; exact fun q hq => yMk_mono (hM q hq)) (by rw [hMP]; exact fun q hq => yPk_mono (hQ q hq)) hF ⟨ii, _, _, yev_mono hi, hsr, yev_mono hj', hw, hct⟩ (yLR_mono hL) (ySR_mono hS2)
            dsimp only at k1
            split at k1
            · exact fresh2 st1 k2 k3 k1
            · rw [Bool.and_eq_true] at k1
              rcases Int.lt_or_gt_of_ne hz with hlt | hgt
              · obtain ⟨st2, m1, m2, m3, -⟩ := yasS_ok k1.1 k2 (yoff_ok (ysu_ok (yev_mono hj') (yev_mono g3))) (by omega)
                exact fresh2 st2 m2 (m3.trans k3) m1
              · obtain ⟨st2, m1, m2, m3, -⟩ := yasS_ok k1.2 k2 (yoff_ok (ysu_ok (yev_mono g3) (yev_mono hj'))) (by omega)
                exact fresh2 st2 m2 (m3.trans k3) m1
        · exact fresh st hR rfl h
    · cases h
  · cases h
theorem ybt_ok {lo hi : Int} {y : yE} {z : Int} (h : ybt st lo hi y = true) (hR : yRS v st) (hy : yev v y = some z) : lo ≤ z ∧ z ≤ hi := by
  unfold ybt at h
  rw [Bool.and_eq_true] at h
  have := ylS_ok h.1 hR (yoff_ok hy)
  have := ylS_ok h.2 hR (yoff_ok (y_neg hy))
  omega
theorem yhsp_ok {mm r : Nat} {a a2 : Int} : ∀ {l : List (Nat × Nat × Int × Int)}, yhsp l mm r a a2 = true → ∃ q ∈ l, q.1 = mm ∧ q.2.1 = r ∧ a ≤ q.2.2.1 ∧ q.2.2.2 ≤ a2 := by
  intro l
  induction l with
  | nil => intro h; cases h
  | cons q t ih =>
    intro h
    have h : ((Nat.beq q.1 mm && (Nat.beq q.2.1 r && (ile a q.2.2.1 && ile q.2.2.2 a2))) || yhsp t mm r a a2) = true := h
    rw [Bool.or_eq_true] at h
    rcases h with h | h
    · simp only [Bool.and_eq_true, ile_iff] at h
      exact ⟨q, List.mem_cons_self, Nat.eq_of_beq_eq_true h.1, Nat.eq_of_beq_eq_true h.2.1, h.2.2.1, h.2.2.2⟩
    · obtain ⟨q1, g1, g2⟩ := ih h
      exact ⟨q1, List.mem_cons_of_mem _ g1, g2⟩
theorem yvia_ok {ix y : yE} {mm r j : Nat} {a a2 z : Int} (hW : yWd sz sr tt ca ws) (hj : yev v ix = some (j : Int)) (hy : yev v y = some z) (hr : j % mm = r) : ∀ {M : yM}, yvia tt ix y mm r a a2 M = true → (∀ q ∈ M, yMk b sz sr v ws q) → a ≤ z ∧ z ≤ a2 := by
  cases mm with
  | zero => intro M h; cases h
  | succ m' =>
    intro M
    induction M with
    | nil => intro h; cases h
    | cons q t ih =>
      intro h hM
      have h : ((match q.2 with
        | .inl x => yeq x y && (match zget tt q.1.2.1 with
          | some (_, .inr (_, _, ar)) => yhsp ar.2.2.1 (m' + 1) r a a2 && (match (ysu ix q.1.2.2).1 with
            | [] => yz ((ysu ix q.1.2.2).2 % Int.ofNat (m' + 1))
            | _ :: _ => false)
          | _ => false)
        | _ => false) || yvia tt ix y (m' + 1) r a a2 t) = true := h
      rw [Bool.or_eq_true] at h
      rcases h with h | h
      · obtain ⟨i, j2, cl, w, k1, k2, k3, k4, k5, k6⟩ := hM q List.mem_cons_self
        split at h
        · rename_i x hqx
          rw [Bool.and_eq_true] at h
          obtain ⟨h1, h2⟩ := h
          split at h2
          · rename_i q0 kd len ar htt
            rw [Bool.and_eq_true] at h2
            obtain ⟨h3, h4⟩ := h2
            rw [hqx] at k6
            obtain ⟨z0, rfl, e2⟩ := k6
            rw [yeq_ok h1, hy] at e2
            have e2 := Option.some.inj e2
            obtain ⟨c0, hc0, hty⟩ := y_cell hW k2 htt
            rw [k4] at hc0
            cases hc0
            obtain ⟨s1, s2, s3, s4, s5, s6⟩ := yhsp_ok h3
            rcases hty with ⟨-, f, e3, hall⟩ | ⟨-, f, e3⟩
            · dsimp only at k5 e3
              rw [e3] at k5
              have k5 : (if j2 < len then some (Value.int (f j2)) else none) = some (.int z0) := k5
              split at k5
              · rename_i hlt
                cases k5
                obtain ⟨-, hsp, -⟩ := hall j2 hlt
                have hmod : j2 % (m' + 1) = r := by
                  split at h4
                  · rename_i he
                    have h4 := (yz_iff _).mp h4
                    have e1 := y_const he (ysu_ok hj k3)
                    rw [← e1] at h4
                    have h4 : ((j : Int) - j2) % ((m' + 1 : Nat) : Int) = 0 := h4
                    obtain ⟨q5, hq5⟩ := Int.dvd_of_emod_eq_zero h4
                    have h6 : ((j % (m' + 1) : Nat) : Int) = ((j2 % (m' + 1) : Nat) : Int) := by
                      rw [Int.natCast_emod, Int.natCast_emod, show (j : Int) = (j2 : Int) + ((j : Int) - j2) by omega, hq5, Int.add_mul_emod_self_left]
                    rw [← hr]
                    exact (Int.ofNat.inj h6).symm
                  · cases h4
                have := hsp s1 s2 (by rw [s3, s4]; exact hmod)
                omega
              · cases k5
            · dsimp only at k5 e3
              rw [e3] at k5
              have k5 : (if j2 < len then some (Value.long (f j2)) else none) = some (.int z0) := k5
              split at k5 <;> cases k5
          · cases h2
        · cases h
      · exact ih h fun q hq => hM q (List.mem_cons_of_mem _ hq)
theorem ywc_ok {ar : yAr} {ix y : yE} {j : Nat} {z : Int} (hW : yWd sz sr tt ca ws) (hM : ∀ q ∈ st.2.2.2.2.1, yMk b sz sr v ws q) (h : ywc tt ar ix y st = true) (hR : yRS v st) (hj : yev v ix = some (j : Int)) (hy : yev v y = some z) : yArOk ar j z := by
  obtain ⟨lo, hi, sp, x⟩ := ar
  unfold ywc at h
  simp only [Bool.and_eq_true] at h
  obtain ⟨h1, h2, h3⟩ := h
  refine ⟨ybt_ok h1 hR hy, ?_, fun hx h16 => ?_, fun hx => ?_⟩
  · dsimp only
    clear h3 h1
    induction sp with
    | nil => intro q hq; cases hq
    | cons q0 t ih =>
      have h2 : ((yisnt st.2.1 q0.1 q0.2.1 ix || (ybt st q0.2.2.1 q0.2.2.2 y || yvia tt ix y q0.1 q0.2.1 q0.2.2.1 q0.2.2.2 st.2.2.2.2.1)) && List.rec (motive := fun _ => Bool) true (fun p _ ih => (yisnt st.2.1 p.1 p.2.1 ix || (ybt st p.2.2.1 p.2.2.2 y || yvia tt ix y p.1 p.2.1 p.2.2.1 p.2.2.2 st.2.2.2.2.1)) && ih) t) = true := h2
      rw [Bool.and_eq_true, Bool.or_eq_true, Bool.or_eq_true] at h2
      obtain ⟨g1, g2⟩ := h2
      intro q hq hr
      rcases List.mem_cons.mp hq with rfl | hq
      · rcases g1 with g1 | g1 | g1
        · exact absurd hr (yisnt_ok hR.2.1 g1 hj)
        · exact ybt_ok g1 hR hy
        · exact yvia_ok hW hj hy hr g1 hM
      · exact ih g2 q hq hr
  · have hx : x = 1 := hx
    subst hx
    have h3 : (match yrg st.2.1 (ysp 16 y).2 with
      | some q => ile 0 q.1 && (ile q.2 15 && ((ile 2 q.1 || ile q.2 0) || yin 0 5 (yrg st.2.1 (ysp 16 y).1)))
      | none => false) = true := h3
    split at h3
    · rename_i q hq
      simp only [Bool.and_eq_true, Bool.or_eq_true, ile_iff] at h3
      obtain ⟨a, r, g1, g2, g3⟩ := ysp_ok (m := 16) (by omega) hy
      have := yrg_ok hR.2.1 hq g2
      obtain ⟨c1, c2, c3⟩ := h3
      rcases c3 with c3 | c3
      · omega
      · have := yin_ok hR.2.1 c3 g1
        omega
    · cases h3
  · have hx : x = 2 := hx
    subst hx
    have h3 : (ylS st ix || ylS st (yoff (ysu y ix) 1)) = true := h3
    rw [Bool.or_eq_true] at h3
    rcases h3 with h3 | h3
    · have := ylS_ok h3 hR hj
      omega
    · have := ylS_ok h3 hR (yoff_ok (ysu_ok hy hj))
      omega
theorem y_nar {kd : Nat} {ar : yAr} {x : Int32} {j : Nat} (hkd : kd < 3) (h : yna kd ar = true) (ho : yArOk ar j x.toInt) : znar kd x = x := by
  obtain ⟨⟨h1, h2⟩, -⟩ := ho
  rcases (show kd = 0 ∨ kd = 1 ∨ kd = 2 by omega) with rfl | rfl | rfl
  · simp only [yna, Bool.and_eq_true, ile_iff] at h
    obtain ⟨-, -, a3⟩ := y_i2b x
    have e := a3 (by omega) (by omega)
    have e := Int32.toInt_inj.mp e
    first | exact e | (simp only [znar]; exact e)
  · simp only [yna, Bool.and_eq_true, ile_iff] at h
    have hx2 : x = 0 ∨ x = 1 := by
      rcases (show x.toInt = 0 ∨ x.toInt = 1 by omega) with q | q
      · left; exact Int32.toInt_inj.mp q
      · right; exact Int32.toInt_inj.mp q
    rcases hx2 with rfl | rfl <;> decide
  · rfl
theorem ys_ast {P : yPar} {isB : Bool} (h9 : yT9 sr) (h : yx_ast P isB pc L S st k = true) (hk : ∀ cf, k cf = true → yJ p l e R s m args below meth c Q b sz sr tt D ca ms ws0 nL K0 S0 v cf) (hPt : P.1 = tt) (hPm : P.2.1 = ms)
    (hx : p.tables.exec = Jvm.exec) (hb : c.code = cc) (hK : va_K D vwCl (zTys ca) s) (hdg : decode cc pc = .ok (if isB then .bastore else .iastore, 1)) : yJat p l e R s m args below meth c Q b sz sr tt D ca ms ws0 nL K0 S0 v (pc, L, S, st) := by
  subst hPt; subst hPm
  unfold yx_ast at h
  split at h
  · rename_i y ix x t r
    split at h
    · rename_i q0 kd len ar ht
      simp only [Bool.and_eq_true] at h
      obtain ⟨hkb, hix, hwc, hnar, hmo, h⟩ := h
      have hkd := y_kd hkb
      intro H ls stk locs hR hH hL hS
      obtain ⟨w0, s0, rfl, hw0, hS0⟩ := ySR_cons hS
      obtain ⟨w1, s1, rfl, hw1, hS1⟩ := ySR_cons hS0
      obtain ⟨w2, s2, rfl, hw2, hS2⟩ := ySR_cons hS1
      obtain ⟨z, rfl, hz⟩ := hw0
      obtain ⟨j, rfl, hj⟩ := hw1
      obtain ⟨i, rfl, hi, hsr⟩ := hw2
      obtain ⟨j0, j1⟩ := yix_ok hix hR hj (yev_cn v _)
      have j1 : j.toInt < len := j1
      obtain ⟨i1, i2, i3, i4, i5⟩ := y_inx j0 j1
      obtain ⟨ws, hW, hP, hD, hV, hM, hQ, hF⟩ := hH
      obtain ⟨e0, hw, hty⟩ := y_cell hW hsr ht
      obtain ⟨f, rfl, hall⟩ : ∃ f : Nat → Int32, e0 = .inl (ca kd, len, .inl f) ∧ ∀ j, j < len → yArOk ar j (f j).toInt := by
        rcases hty with ⟨-, f, h1, h2⟩ | ⟨h3, -⟩
        · exact ⟨f, h1, h2⟩
        · omega
      have hj' : yev v ix = some ((j.toNatClampNeg : Nat) : Int) := by rw [i3]; exact hj
      have hok := ywc_ok hW hM hwc hR hj' hz
      have hn := y_nar hkd hnar hok
      obtain ⟨st1, k1, k2, k3, k4⟩ := ywr_ok h9 (e0 := .inl (ca kd, len, .inl f)) (e1 := .inl (ca kd, len, .inl (upd f j.toNatClampNeg z))) (w := .int z) h hR hM hQ hi hj' hsr hw (fun j' hj' => by
        show (if j' < len then some (Value.int (upd f j.toNatClampNeg z j')) else none) = if j' < len then some (Value.int (f j')) else none
        simp [upd, hj']) (by
        show (if j.toNatClampNeg < len then some (Value.int (upd f j.toNatClampNeg z j.toNatClampNeg)) else none) = _
        rw [if_pos i4]; simp [upd]) ⟨z, rfl, hz⟩
      obtain ⟨st2, n1, n2, n3, n4⟩ := ygpu_ok (x := y) h9 k2 k4 hsr (List.getElem?_set_self (List.getElem?_eq_some_iff.mp hw).1) (j := j.toNatClampNeg) (z := z) (by
        show (if j.toNatClampNeg < len then some (Value.int (upd f j.toNatClampNeg z j.toNatClampNeg)) else none) = _
        rw [if_pos i4]; simp [upd]) hj' hz k1
      have hW1 : yWd sz sr P.1 ca (ws.set i (sz + i, .inl (ca kd, len, .inl (upd f j.toNatClampNeg z)))) := yWd_set hW hsr ht (Or.inl ⟨hkd, _, rfl, fun j' hj' => by
        by_cases hjj : j' = j.toNatClampNeg
        · subst hjj; simpa [upd] using hok
        · simpa [upd, hjj] using hall j' hj'⟩)
      have hF1 : yFr sr P.2.1 ws0 (ws.set i (sz + i, .inl (ca kd, len, .inl (upd f j.toNatClampNeg z)))) := yFr_set hF hsr hw fun j hj => by
        have hj : ymo P.2.1 t 0 = false := hj
        rw [hmo] at hj
        cases hj
      have fin : ∀ (H1 : Heap) (locs1 : List Loc), va_P D vwCl (ws.set i (sz + i, .inl (ca kd, len, .inl (upd f j.toNatClampNeg (znar kd z))))) H1 → va_D (zA sz) (ws.set i (sz + i, .inl (ca kd, len, .inl (upd f j.toNatClampNeg (znar kd z))))) → va_S (zA sz) s.heap H1 locs1 → W p l e R s m args below meth c H1 locs1 K0 S0 Q (F0 m (pc + 1) ls s2) := by
        rw [hn]
        exact fun H1 locs1 hP1 hD1 hV1 => yon0 hk n1 n2 ⟨_, hW1, hP1, hD1, hV1, fun q hq => k3 q (by rw [← n3]; exact hq), n4, hF1⟩ hL hS2
      rw [← z_nar kd hkd] at fin
      cases isB
      · have hk2 : kd = 2 := Nat.eq_of_beq_eq_true hkb
        subst hk2
        exact va_iast hx hb hK hP hD hV i 2 hw (z_ty 2 (by omega)) i1 hdg fin
      · have hk2 : kd < 2 := by simpa [zkb, Nat.blt_eq] using hkb
        rcases (show kd = 0 ∨ kd = 1 by omega) with rfl | rfl
        · exact va_bast hx hb hK hP hD hV i 0 hw (z_ty 0 (by omega)) i1 hdg fin
        · exact va_zast hx hb hK hP hD hV i 1 hw (z_ty 1 (by omega)) i1 hdg fin
    · cases h
  · cases h
theorem ys_last {P : yPar} (h9 : yT9 sr) (h : yx_last P pc L S st k = true) (hk : ∀ cf, k cf = true → yJ p l e R s m args below meth c Q b sz sr tt D ca ms ws0 nL K0 S0 v cf) (hPt : P.1 = tt) (hPm : P.2.1 = ms)
    (hx : p.tables.exec = Jvm.exec) (hb : c.code = cc) (hK : va_K D vwCl (zTys ca) s) (hdg : decode cc pc = .ok (.lastore, 1)) : yJat p l e R s m args below meth c Q b sz sr tt D ca ms ws0 nL K0 S0 v (pc, L, S, st) := by
  subst hPt; subst hPm
  unfold yx_last at h
  split at h
  · rename_i y ix x t r
    split at h
    · rename_i q0 kd len ar ht
      simp only [Bool.and_eq_true] at h
      obtain ⟨hkb, hix, hmo, h⟩ := h
      have hkb := Nat.eq_of_beq_eq_true hkb
      subst hkb
      intro H ls stk locs hR hH hL hS
      obtain ⟨w0, s0, rfl, hw0, hS0⟩ := ySR_cons hS
      obtain ⟨w1, s1, rfl, hw1, hS1⟩ := ySR_cons hS0
      obtain ⟨w2, s2, rfl, hw2, hS2⟩ := ySR_cons hS1
      obtain ⟨z, rfl, hz⟩ := hw0
      obtain ⟨j, rfl, hj⟩ := hw1
      obtain ⟨i, rfl, hi, hsr⟩ := hw2
      obtain ⟨j0, j1⟩ := yix_ok hix hR hj (yev_cn v _)
      have j1 : j.toInt < len := j1
      obtain ⟨i1, i2, i3, i4, i5⟩ := y_inx j0 j1
      obtain ⟨ws, hW, hP, hD, hV, hM, hQ, hF⟩ := hH
      obtain ⟨e0, hw, hty⟩ := y_cell hW hsr ht
      obtain ⟨f, rfl⟩ : ∃ f : Nat → Int64, e0 = .inl (ca 3, len, .inr (.inl f)) := by
        rcases hty with ⟨h3, -⟩ | ⟨-, f, h1⟩
        · omega
        · exact ⟨f, h1⟩
      have hj' : yev v ix = some ((j.toNatClampNeg : Nat) : Int) := by rw [i3]; exact hj
      obtain ⟨st1, k1, k2, k3, k4⟩ := ywr_ok h9 (e0 := .inl (ca 3, len, .inr (.inl f))) (e1 := .inl (ca 3, len, .inr (.inl (vp_updL f j.toNatClampNeg z)))) (w := .long z) h hR hM hQ hi hj' hsr hw (fun j' hj' => by
        show (if j' < len then some (Value.long (vp_updL f j.toNatClampNeg z j')) else none) = if j' < len then some (Value.long (f j')) else none
        simp [vp_updL, hj']) (by
        show (if j.toNatClampNeg < len then some (Value.long (vp_updL f j.toNatClampNeg z j.toNatClampNeg)) else none) = _
        rw [if_pos i4]; simp [vp_updL]) ⟨z, rfl, hz⟩
      have hW1 : yWd sz sr P.1 ca (ws.set i (sz + i, .inl (ca 3, len, .inr (.inl (vp_updL f j.toNatClampNeg z))))) := yWd_set hW hsr ht (Or.inr ⟨rfl, _, rfl⟩)
      have hF1 : yFr sr P.2.1 ws0 (ws.set i (sz + i, .inl (ca 3, len, .inr (.inl (vp_updL f j.toNatClampNeg z))))) := yFr_set hF hsr hw fun j hj => by
        have hj : ymo P.2.1 t 0 = false := hj
        rw [hmo] at hj
        cases hj
      exact va_last hx hb hK hP hD hV i 3 hw (z_ty 3 (by omega)) i1 hdg fun H1 locs1 hP1 hD1 hV1 => yon0 hk k1 k2 ⟨_, hW1, hP1, hD1, hV1, k3, k4, hF1⟩ hL hS2
    · cases h
  · cases h
end yStep3
