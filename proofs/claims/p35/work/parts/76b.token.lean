/-! The reference's tokens: numbers; a token at its place. -/
section rTok2
variable {g : Nat → Int} {N d : Nat} {D : xC}
theorem rt_digEnd (hd : 1 ≤ d) {p n : Nat} {c : Int} (hT : rTx g N D) (hp : D 74 4 = (p : Int)) (hn : p + n ≤ N) (h0 : ¬ (p + n < N ∧ rdDig (g (p + n)) = true)) :
    ∃ F, xw_X12_token d (144, [some mR, some (.inl c), some (.inl (n : Int))], [], D) = some (0, F) ∧ xSm rS0 D F ∧ F 74 7 = D 74 7 ∧ (if 4 < n ∨ (p + n < N ∧ rdLet (g (p + n)) = true) then F 74 6 = 3 else F 74 6 = 2 ∧ F 74 4 = ((p + n : Nat) : Int) ∧ F 74 8 = D 74 8) := by
  have hN := hT.2.2.1
  have e0 := rt_here (k := n) (z := (n : Int)) hd hT hp (by omega) rfl
  obtain ⟨v1, v2, -⟩ := rt_val (q := p + n) hT rfl
  have v2 : ¬ (48 ≤ (if p + n < N then D 75 (p + n) else -1) ∧ (if p + n < N then D 75 (p + n) else -1) ≤ 57) := fun h => h0 (v2.mp h)
  rw [xl_X12_token_144, e0]
  simp only [Option.bind_some, Bool.cond_decide]
  rw [xn_isDigit hd]
  simp only [Option.bind_some]
  rw [if_neg v2, if_pos rfl]
  by_cases h4 : 4 < n
  · rw [if_pos (by omega)]
    exact ⟨_, rfl, xSm_st xSm_refl rfl, by rw [xst_nn (by omega)], by rw [if_pos (Or.inl h4), xst_at]⟩
  · rw [if_neg (by omega), e0]
    simp only [Option.bind_some]
    rw [xn_isLetter hd]
    simp only [Option.bind_some]
    by_cases hl : p + n < N ∧ rdLet (g (p + n)) = true
    · rw [if_pos (v1.mpr hl), if_neg (by decide)]
      exact ⟨_, rfl, xSm_st xSm_refl rfl, by rw [xst_nn (by omega)], by rw [if_pos (Or.inr hl), xst_at]⟩
    · rw [if_neg (fun h => hl (v1.mp h)), if_pos rfl]
      refine ⟨_, rfl, xSm_st (xSm_st xSm_refl rfl) rfl, by rw [xst_nn (by omega), xst_nn (by omega)], ?_⟩
      rw [if_neg (show ¬ (4 < n ∨ (p + n < N ∧ rdLet (g (p + n)) = true)) from fun h => h.elim h4 hl)]
      refine ⟨?_, ?_, ?_⟩
      · rw [xst_nn (by omega), xst_at]
      · rw [xst_at, hp, w32_id (by omega) (by omega)]; omega
      · rw [xst_nn (by omega), xst_nn (by omega)]
theorem rt_dig (hd : 1 ≤ d) {p : Nat} {c : Int} : ∀ (m n : Nat) (D : xC), N ≤ p + n + m → p + n ≤ N → rTx g N D → D 74 4 = (p : Int) → (∀ j, j < n → rdDig (g (p + j)) = true) → (n ≤ 4 → D 74 8 = rdV 10 48 g p n) →
    ∃ e : Nat, e = rdEnd rdDig g N (p + n) ∧ ∃ F, xw_X12_token d (144, [some mR, some (.inl c), some (.inl (n : Int))], [], D) = some (0, F) ∧ xSm rS0 D F ∧ F 74 7 = D 74 7 ∧ (if 4 < e - p ∨ (e < N ∧ rdLet (g e) = true) then F 74 6 = 3 else F 74 6 = 2 ∧ F 74 4 = (e : Int) ∧ F 74 8 = rdV 10 48 g p (e - p)) := by
  intro m
  induction m with
  | zero =>
    intro n D h1 h2 hT hp hl hw
    have hb : ¬ (p + n < N ∧ rdDig (g (p + n)) = true) := fun h => by omega
    obtain ⟨F, k1, k2, k3, k4⟩ := rt_digEnd (c := c) hd hT hp h2 hb
    refine ⟨p + n, (rdEnd_off hb).symm, F, k1, k2, k3, ?_⟩
    rw [show p + n - p = n by omega]
    by_cases hh : 4 < n ∨ (p + n < N ∧ rdLet (g (p + n)) = true)
    · rw [if_pos hh] at k4 ⊢; exact k4
    · rw [if_neg hh] at k4 ⊢
      exact ⟨k4.1, k4.2.1, k4.2.2.trans (hw (by omega))⟩
  | succ m ih =>
    intro n D h1 h2 hT hp hl hw
    have hN := hT.2.2.1
    by_cases hb : p + n < N ∧ rdDig (g (p + n)) = true
    · have e0 := rt_here (k := n) (z := (n : Int)) hd hT hp (by omega) rfl
      obtain ⟨-, v1, -, -, -, v6⟩ := rt_val (q := p + n) hT rfl
      have v1 := v1.mpr hb
      have v6 := v6 (by omega) (by omega)
      have gl := rdDig_iff.mp hb.2
      rw [xl_X12_token_144, e0]
      simp only [Option.bind_some, Bool.cond_decide]
      rw [xn_isDigit hd]
      simp only [Option.bind_some]
      rw [if_pos v1, if_neg (show ¬ ((1 : Int) = 0) by decide)]
      have ew : w32 ((n : Int) + 1) = ((n + 1 : Nat) : Int) := by rw [w32_id (by omega) (by omega)]; omega
      have hl2 : ∀ j, j < n + 1 → rdDig (g (p + j)) = true := fun j hj => by
        by_cases hj2 : j = n
        · rw [hj2]; exact hb.2
        · exact hl j (by omega)
      by_cases h8 : 4 ≤ n
      · rw [if_pos (by omega)]
        have := ih (n + 1) D (by omega) (by omega) hT hp hl2 (fun h => by omega)
        rw [ew, show rdEnd rdDig g N (p + n) = rdEnd rdDig g N (p + (n + 1)) from rdEnd_on hb.1 hb.2]
        exact this
      · have hv := rdV_10 (g := g) (p := p) n hl
        have hpw : (10 : Int) ^ n ≤ 10 ^ 3 := rdPow10 (by omega)
        have e9 := hw (by omega)
        rw [if_neg (by omega), e0]
        simp only [Option.bind_some]
        rw [e9, v6, ew, w32_id (z := 10 * rdV 10 48 g p n) (by omega) (by omega), w32_id (z := 10 * rdV 10 48 g p n + g (p + n)) (by omega) (by omega), w32_id (by omega) (by omega)]
        have hS : xSm rS0 D (xst D 74 8 (10 * rdV 10 48 g p n + g (p + n) - 48)) := xSm_st xSm_refl rfl
        obtain ⟨e, k1, F, k2, k3, k4, k5⟩ := ih (n + 1) (xst D 74 8 (10 * rdV 10 48 g p n + g (p + n) - 48)) (by omega) (by omega) (rTx_S0 hT hS) (by rw [xst_nn (by omega), hp]) hl2 (fun _ => by rw [xst_at]; simp only [rdV]; omega)
        refine ⟨e, ?_, F, k2, xSm_trans hS k3, ?_, k5⟩
        · rw [k1]; exact (rdEnd_on hb.1 hb.2).symm
        · rw [k4, xst_nn (by omega)]
    · obtain ⟨F, k1, k2, k3, k4⟩ := rt_digEnd (c := c) hd hT hp h2 hb
      refine ⟨p + n, (rdEnd_off hb).symm, F, k1, k2, k3, ?_⟩
      rw [show p + n - p = n by omega]
      by_cases hh : 4 < n ∨ (p + n < N ∧ rdLet (g (p + n)) = true)
      · rw [if_pos hh] at k4 ⊢; exact k4
      · rw [if_neg hh] at k4 ⊢
        exact ⟨k4.1, k4.2.1, k4.2.2.trans (hw (by omega))⟩
theorem rt_isSign (hd : 1 ≤ d) {c : Int} : xM d 156 [.inl c] D = some (if c ∈ rdSg then 1 else 0, D) := by
  obtain ⟨d, rfl⟩ := Nat.exists_eq_add_of_le' hd
  rw [xm_X12_isSign]
  simp only [Bool.cond_decide, rdSg_iff]
  repeat' split
  all_goals first | rfl | omega
theorem rt_main (hd : 1 ≤ d) {p : Nat} (hT : rTx g N D) (hp : D 74 4 = (p : Int)) (hN : p ≤ N) (hnb : ¬ (p < N ∧ rdBlk (g p) = true)) :
    ∃ F, xw_X12_token d (0, rL0, [], D) = some (0, F) ∧ rTk g N p F ∧ xSm rS0 D F := by
  have hN7 := hT.2.2.1
  have e0 := rt_here (k := 0) (z := 0) hd hT hp (by omega) rfl
  obtain ⟨v1, v2, v3, v4, v5, v6⟩ := rt_val (q := p + 0) hT rfl
  generalize hc : (if p + 0 < N then D 75 (p + 0) else -1) = c at *
  rw [Nat.add_zero] at v1 v2 v3 v4 v5 v6
  have w3 : ¬ (c = 32 ∨ c = 10) := fun h => hnb (v3.mp h)
  have hS1 : xSm rS0 D (xst D 74 7 (D 74 4)) := xSm_st xSm_refl rfl
  have e1 : xM d 153 [mR, .inl 0] (xst D 74 7 (D 74 4)) = some (c, xst D 74 7 (D 74 4)) := by
    have := rt_here (k := 0) (z := 0) hd (rTx_S0 hT hS1) (by rw [xst_nn (by omega), hp]) (by omega) rfl
    rw [this, xst_nn (by omega), hc]
  rw [xl_X12_token_0, e0]
  simp only [Option.bind_some, Bool.cond_decide]
  rw [if_neg (fun h => w3 (Or.inl h)), e0]
  simp only [Option.bind_some]
  rw [if_pos (fun h => w3 (Or.inr h)), e1]
  simp only [Option.bind_some]
  have hS2 : xSm rS0 D (xst (xst (xst D 74 7 (D 74 4)) 74 9 0) 74 8 0) := xSm_st (xSm_st hS1 rfl) rfl
  have hT2 := rTx_S0 hT hS2
  have hp2 : (xst (xst (xst D 74 7 (D 74 4)) 74 9 0) 74 8 0) 74 4 = (p : Int) := by rw [xst_nn (by omega), xst_nn (by omega), xst_nn (by omega), hp]
  have hq2 : (xst (xst (xst D 74 7 (D 74 4)) 74 9 0) 74 8 0) 74 7 = (p : Int) := by rw [xst_nn (by omega), xst_nn (by omega), xst_at, hp]
  have h92 : (xst (xst (xst D 74 7 (D 74 4)) 74 9 0) 74 8 0) 74 9 = 0 := by rw [xst_nn (by omega), xst_at]
  have h82 : (xst (xst (xst D 74 7 (D 74 4)) 74 9 0) 74 8 0) 74 8 = 0 := by rw [xst_at]
  by_cases hE : N ≤ p
  · have kE : rdK g N p = 24 := if_pos hE
    rw [if_neg (by have := v4.mpr hE; omega)]
    refine ⟨_, rfl, ⟨?_, ?_, ?_, ?_, ?_⟩, xSm_st (xSm_st (xSm_st (xSm_st hS1 rfl) rfl) rfl) rfl⟩
    · rw [kE, xst_nn (by omega), xst_at]; rfl
    · rw [xst_nn (by omega), xst_nn (by omega), hq2]
    · intro h; rw [kE] at h; omega
    · intro h; rw [kE] at h; omega
    · intro _
      rw [xst_at, xst_nn (by omega), hp, w32_id (by omega) (by omega), rdE, if_pos hE]; omega
  · have hlt : p < N := by omega
    have hc0 : 0 ≤ c := by
      rcases Int.lt_or_le c 0 with h | h
      · exact absurd (v4.mp h) hE
      · exact h
    rw [if_pos hc0, xn_isLetter hd]
    simp only [Option.bind_some]
    by_cases hL : rdLet (g p) = true
    · rw [if_pos (v1.mpr ⟨hlt, hL⟩), if_neg (by decide)]
      obtain ⟨e, k1, F, k2, k3, k4, k5⟩ := rt_let (c := c) hd (N - p) 0 _ (by omega) (by omega) hT2 hp2 (fun j hj => by omega) (fun _ => h92)
      rw [Nat.add_zero] at k1
      refine ⟨F, k2, ⟨?_, k4.trans hq2, ?_, ?_, ?_⟩, xSm_trans hS2 k3⟩
      all_goals rw [rdK, if_neg hE, if_pos hL, ← k1]
      all_goals by_cases h8 : e - p ≤ 8
      all_goals first | rw [if_pos h8] at k5 | rw [if_neg h8] at k5
      · rw [if_neg (by omega), k5.1, rdS, if_pos (rdKw_le _).2]
      · rw [if_pos (by omega), k5]; rfl
      · intro _; exact k5.2.2
      · intro h; rw [if_pos (by omega)] at h; omega
      · intro h; rw [if_neg (by omega)] at h; have := (rdKw_le (rdV 256 0 g p (e - p))).2; omega
      · intro h; rw [if_pos (by omega)] at h; omega
      · intro _; rw [rdE, if_neg hE, if_pos hL, ← k1]; exact k5.2.1
      · intro h; rw [if_pos (by omega)] at h; exact absurd rfl h
    · rw [if_neg (fun h => hL (v1.mp h).2), if_pos rfl, xn_isDigit hd]
      simp only [Option.bind_some]
      by_cases hD : rdDig (g p) = true
      · rw [if_pos (v2.mpr ⟨hlt, hD⟩), if_neg (by decide)]
        obtain ⟨e, k1, F, k2, k3, k4, k5⟩ := rt_dig (c := c) hd (N - p) 0 _ (by omega) (by omega) hT2 hp2 (fun j hj => by omega) (fun _ => h82)
        rw [Nat.add_zero] at k1
        refine ⟨F, k2, ⟨?_, k4.trans hq2, ?_, ?_, ?_⟩, xSm_trans hS2 k3⟩
        all_goals rw [rdK, if_neg hE, if_neg hL, if_pos hD, ← k1]
        all_goals by_cases h8 : 4 < e - p ∨ (e < N ∧ rdLet (g e) = true)
        all_goals first | rw [if_pos h8] at k5 ⊢ | rw [if_neg h8] at k5 ⊢
        · rw [k5]; rfl
        · rw [k5.1]; rfl
        · intro h; omega
        · intro h; omega
        · intro h; omega
        · intro _; rw [rdVal, if_neg hE, if_neg hL, if_pos hD, ← k1]; exact k5.2.2
        · intro h; exact absurd rfl h
        · intro _; rw [rdE, if_neg hE, if_neg hL, if_pos hD, ← k1]; exact k5.2.1
      · rw [if_neg (fun h => hD (v2.mp h).2), if_pos rfl, rt_isSign hd]
        simp only [Option.bind_some]
        have w5 := v5 hlt
        by_cases hG : rdSgn (g p) = true
        · have hcs := w5.mpr hG
          have hcr := rdSg_iff.mp hcs
          have ec := v6 hc0 (by omega)
          have kE : rdK g N p = g p := by rw [rdK, if_neg hE, if_neg hL, if_neg hD, if_pos hG]
          rw [if_pos hcs, if_neg (by decide), if_neg (by omega)]
          refine ⟨_, rfl, ⟨?_, ?_, ?_, ?_, ?_⟩, xSm_st (xSm_st hS2 rfl) rfl⟩
          · rw [kE, xst_nn (by omega), xst_at, ← ec, rdS, if_neg (by omega), if_neg (by omega), if_neg (by omega), if_neg (by omega)]
          · rw [xst_nn (by omega), xst_nn (by omega), hq2]
          · intro h; rw [kE, ← ec] at h; omega
          · intro h; rw [kE, ← ec] at h; omega
          · intro _
            rw [xst_at, hp2, w32_id (by omega) (by omega), rdE, if_neg hE, if_neg hL, if_neg hD]; omega
        · rw [if_neg (fun h => hG (w5.mp h)), if_pos rfl]
          have kE : rdK g N p = 25 := by rw [rdK, if_neg hE, if_neg hL, if_neg hD, if_neg hG]
          refine ⟨_, rfl, ⟨?_, ?_, ?_, ?_, ?_⟩, xSm_st hS2 rfl⟩
          · rw [kE, xst_at]; rfl
          · rw [xst_nn (by omega), hq2]
          · intro h; rw [kE] at h; omega
          · intro h; rw [kE] at h; omega
          · intro h; exact absurd kE h
/-- the reference's next token, from any place -/
theorem rt_token (hd : 2 ≤ d) {p : Nat} (hT : rTx g N D) (hp : D 74 4 = (p : Int)) (hN : p ≤ N) :
    ∃ F, xM d 157 [mR] D = some (0, F) ∧ rTk g N (rdEnd rdBlk g N p) F ∧ xSm rS0 D F := by
  obtain ⟨d, rfl⟩ := Nat.exists_eq_add_of_le' (show 1 ≤ d by omega)
  rw [rt_tok0]
  obtain ⟨E, k1, k2, k3⟩ := rt_blank (d := d) (by omega) (N - p) p D (by omega) hN hT hp
  obtain ⟨-, s2, -, s4⟩ := rdEnd_spec (P := rdBlk) (g := g) (N := N) p
  obtain ⟨F, q1, q2, q3⟩ := rt_main (d := d) (by omega) (rTx_S0 hT k3) k2 (s2 hN) s4
  exact ⟨F, k1.trans q1, q2, xSm_trans k3 q3⟩
end rTok2
