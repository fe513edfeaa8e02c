/-! What is left as it is; a sign more of a word. -/
section xFrame
/-- as it was, but where S says so -/
def xSm (S : Nat → Nat → Bool) (C D : xC) : Prop := ∀ i j, S i j = false → D i j = C i j
theorem xSm_refl {S : Nat → Nat → Bool} {C : xC} : xSm S C C := fun _ _ _ => rfl
theorem xSm_trans {S : Nat → Nat → Bool} {C D E : xC} (h1 : xSm S C D) (h2 : xSm S D E) : xSm S C E := fun i j h => (h2 i j h).trans (h1 i j h)
theorem xSm_mono {S T : Nat → Nat → Bool} {C D : xC} (h : xSm S C D) (hT : ∀ i j, T i j = false → S i j = false) : xSm T C D := fun i j hh => h i j (hT i j hh)
theorem xst_at {C : xC} {i j : Nat} {z : Int} : xst C i j z i j = z := by rw [xst_get, if_pos ⟨rfl, rfl⟩]
theorem xst_nn {C : xC} {i j i' j' : Nat} {z : Int} (h : ¬ (i' = i ∧ j' = j)) : xst C i j z i' j' = C i' j' := by rw [xst_get, if_neg h]
theorem xSm_st {S : Nat → Nat → Bool} {C D : xC} {i j : Nat} {z : Int} (h : xSm S C D) (hS : S i j = true) : xSm S C (xst D i j z) := by
  intro i' j' h'
  rw [xst_nn, h i' j' h']
  intro hh
  rw [hh.1, hh.2, hS] at h'
  cases h'
theorem x64_or8 {w c : Int} (h0 : 0 ≤ w) (h1 : w < 2 ^ 55) (c0 : 0 ≤ c) (c1 : c < 256) : x64 (· ||| ·) (xsh (fun x y => x <<< (y &&& 63)) w 8) c = w * 256 + c := by
  obtain ⟨W, rfl⟩ := Int.eq_ofNat_of_zero_le h0
  obtain ⟨B, rfl⟩ := Int.eq_ofNat_of_zero_le c0
  have hW : W < 2 ^ 55 := by omega
  have hB : B < 2 ^ 8 := by omega
  have key : (BitVec.ofNat 64 W <<< (8#64) ||| BitVec.ofNat 64 B).toNat = W * 256 + B := by
    rw [BitVec.toNat_or, BitVec.shiftLeft_eq', show (8#64).toNat = 8 from rfl, BitVec.toNat_shiftLeft, BitVec.toNat_ofNat, BitVec.toNat_ofNat, Nat.mod_eq_of_lt (show W < 2 ^ 64 by omega), Nat.mod_eq_of_lt (show B < 2 ^ 64 by omega), Nat.mod_eq_of_lt (show W <<< 8 < 2 ^ 64 by rw [Nat.shiftLeft_eq]; omega), ← Nat.shiftLeft_add_eq_or_of_lt hB, Nat.shiftLeft_eq]
  have e1 : (Int32.ofInt 8).toInt64 &&& 63 = 8 := by decide
  have e2 : (Int64.ofInt (W : Int) <<< (8 : Int64) ||| Int64.ofInt (B : Int)).toBitVec = BitVec.ofNat 64 W <<< (8#64) ||| BitVec.ofNat 64 B := by
    rw [Int64.toBitVec_or, Int64.toBitVec_shiftLeft, Int64.toBitVec_ofInt, Int64.toBitVec_ofInt, BitVec.ofInt_natCast, BitVec.ofInt_natCast]
    rfl
  unfold x64 xsh
  dsimp only
  rw [Int64.ofInt_toInt, e1]
  show (Int64.ofInt (W : Int) <<< (8 : Int64) ||| Int64.ofInt (B : Int)).toBitVec.toInt = _
  rw [e2, BitVec.toInt_eq_toNat_of_lt (by rw [key]; omega), key]
  omega
end xFrame
/-! The reference's tokens. -/
section rTok
variable {g : Nat → Int} {N d : Nat} {D : xC}
/-- the reference's text -/
def rTx (g : Nat → Int) (N : Nat) (D : xC) : Prop := D 74 0 = 75 ∧ D 74 5 = (N : Int) ∧ N ≤ 1700 ∧ ∀ j, j < N → rdB (D 75 j) (g j)
def rS0 (i j : Nat) : Bool := decide (i = 74 ∧ (j = 4 ∨ j = 6 ∨ j = 7 ∨ j = 8 ∨ j = 9))
theorem rTx_same {S : Nat → Nat → Bool} {E : xC} (h : rTx g N D) (hs : xSm S D E) (h0 : S 74 0 = false) (h5 : S 74 5 = false) (h7 : ∀ j, S 75 j = false) : rTx g N E :=
  ⟨(hs _ _ h0).trans h.1, (hs _ _ h5).trans h.2.1, h.2.2.1, fun j hj => by rw [hs _ _ (h7 j)]; exact h.2.2.2 j hj⟩
theorem rTx_S0 {E : xC} (h : rTx g N D) (hs : xSm rS0 D E) : rTx g N E := rTx_same h hs rfl rfl (fun j => rfl)
theorem rt_here {p k : Nat} {z : Int} (hd : 1 ≤ d) (hT : rTx g N D) (hp : D 74 4 = (p : Int)) (hk : p + k ≤ 100000) (hz : z = (k : Int)) : xM d 153 [mR, .inl z] D = some (if p + k < N then D 75 (p + k) else -1, D) := by
  have h5 := hT.2.1
  have hN := hT.2.2.1
  rw [hz, xn_here hd hT.1 (by rw [hp]; omega) (by rw [hp]; omega) (by rw [h5]; omega), hp, h5, show ((p : Int) + (k : Int)).toNat = p + k by omega]
  congr 2
  by_cases h : p + k < N
  · rw [if_pos h, if_pos (by omega)]
  · rw [if_neg h, if_neg (by omega)]
/-- what here() says of the text -/
theorem rt_val {q : Nat} {c : Int} (hT : rTx g N D) (hc : c = if q < N then D 75 q else -1) :
    ((97 ≤ c ∧ c ≤ 122) ↔ (q < N ∧ rdLet (g q) = true)) ∧ ((48 ≤ c ∧ c ≤ 57) ↔ (q < N ∧ rdDig (g q) = true)) ∧ ((c = 32 ∨ c = 10) ↔ (q < N ∧ rdBlk (g q) = true)) ∧ (c < 0 ↔ N ≤ q) ∧ (q < N → (c ∈ rdSg ↔ rdSgn (g q) = true)) ∧ (0 ≤ c → c ≤ 127 → c = g q) := by
  rw [rdLet_iff, rdDig_iff, rdBlk_iff, rdSgn_iff, rdSg_iff, rdSg_iff]
  by_cases h : q < N
  · rw [if_pos h] at hc
    obtain ⟨b1, b2⟩ := hT.2.2.2 q h
    rw [← hc] at b1 b2
    refine ⟨?_, ?_, ?_, ?_, fun _ => ?_, ?_⟩ <;> omega
  · rw [if_neg h] at hc
    refine ⟨?_, ?_, ?_, ?_, fun h2 => absurd h2 h, ?_⟩ <;> omega
abbrev rL0 : List (Option xV) := [some mR, none, none]
theorem rt_tok0 (d : Nat) (D : xC) : xM (d + 1) 157 [mR] D = xw_X12_token d (0, rL0, [], D) := (xm_X12_token d D).trans (xl_X12_token_0 d D).symm
theorem rt_blank (hd : 1 ≤ d) : ∀ (n p : Nat) (D : xC), N ≤ p + n → p ≤ N → rTx g N D → D 74 4 = (p : Int) →
    ∃ E, xw_X12_token d (0, rL0, [], D) = xw_X12_token d (0, rL0, [], E) ∧ E 74 4 = (rdEnd rdBlk g N p : Int) ∧ xSm rS0 D E := by
  intro n
  induction n with
  | zero =>
    intro p D h1 h2 hT hp
    refine ⟨D, rfl, ?_, xSm_refl⟩
    rw [rdEnd_off (by omega), hp]
  | succ n ih =>
    intro p D h1 h2 hT hp
    by_cases hb : p < N ∧ rdBlk (g p) = true
    · have hN := hT.2.2.1
      have e0 := rt_here (k := 0) (z := 0) hd hT hp (by omega) rfl
      obtain ⟨-, -, v3, -⟩ := rt_val (q := p + 0) hT rfl
      have v3 := v3.mpr hb
      have hT2 : rTx g N (xst D 74 4 (w32 (D 74 4 + 1))) := rTx_S0 hT (xSm_st xSm_refl rfl)
      obtain ⟨E, k1, k2, k3⟩ := ih (p + 1) (xst D 74 4 (w32 (D 74 4 + 1))) (by omega) (by omega) hT2 (by rw [xst_at, hp, w32_id (by omega) (by omega)]; omega)
      refine ⟨E, ?_, by rw [k2, rdEnd_on hb.1 hb.2], xSm_trans (xSm_st xSm_refl rfl) k3⟩
      rw [← k1, xl_X12_token_0, e0]
      simp only [Option.bind_some, Bool.cond_decide]
      rcases v3 with v3 | v3
      · rw [if_pos v3]
      · rw [if_neg (by rw [v3]; decide), e0]
        simp only [Option.bind_some]
        rw [if_neg (fun h => h v3)]
    · refine ⟨D, rfl, ?_, xSm_refl⟩
      rw [rdEnd_off hb, hp]
/-- the class's kinds as the reference's sorts -/
def rdS (k : Int) : Int := if k ≤ 22 then 1 else if k = 23 then 2 else if k = 24 then 0 else if k = 25 then 3 else k
/-- the reference looks at the token at a place -/
def rTk (g : Nat → Int) (N p : Nat) (D : xC) : Prop := D 74 6 = rdS (rdK g N p) ∧ D 74 7 = (p : Int) ∧ (rdK g N p ≤ 22 → D 74 9 = rdV 256 0 g p (rdEnd rdLet g N p - p)) ∧ (rdK g N p = 23 → D 74 8 = rdVal g N p) ∧ (rdK g N p ≠ 25 → D 74 4 = (rdE g N p : Int))
/-- the letters of a word -/
theorem rt_let (hd : 1 ≤ d) {p : Nat} {c : Int} : ∀ (m n : Nat) (D : xC), N ≤ p + n + m → p + n ≤ N → rTx g N D → D 74 4 = (p : Int) → (∀ j, j < n → rdLet (g (p + j)) = true) → (n ≤ 8 → D 74 9 = rdV 256 0 g p n) →
    ∃ e : Nat, e = rdEnd rdLet g N (p + n) ∧ ∃ F, xw_X12_token d (78, [some mR, some (.inl c), some (.inl (n : Int))], [], D) = some (0, F) ∧ xSm rS0 D F ∧ F 74 7 = D 74 7 ∧ (if e - p ≤ 8 then F 74 6 = 1 ∧ F 74 4 = (e : Int) ∧ F 74 9 = rdV 256 0 g p (e - p) else F 74 6 = 3) := by
  intro m
  induction m with
  | zero =>
    intro n D h1 h2 hT hp hl hw
    have hN := hT.2.2.1
    have e0 := rt_here (k := n) (z := (n : Int)) hd hT hp (by omega) rfl
    refine ⟨p + n, ?_, ?_⟩
    · rw [rdEnd_off (by omega)]
    · rw [xl_X12_token_78, e0]
      simp only [Option.bind_some, Bool.cond_decide]
      rw [if_neg (show ¬ (p + n < N) by omega), xn_isLetter hd]
      simp only [Option.bind_some]
      rw [if_pos (show (if (97 : Int) ≤ -1 ∧ (-1 : Int) ≤ 122 then (1 : Int) else 0) = 0 by decide)]
      by_cases h8 : n ≤ 8
      · rw [if_pos (show (n : Int) ≤ 8 by omega)]
        refine ⟨_, rfl, xSm_st (xSm_st xSm_refl rfl) rfl, ?_, ?_⟩
        rotate_left
        rw [if_pos (show p + n - p ≤ 8 by omega)]
        refine ⟨?_, ?_, ?_⟩
        rotate_right
        · rw [xst_nn (by omega), xst_nn (by omega)]
        · rw [xst_nn (by omega), xst_at]
        · rw [xst_at, hp, w32_id (by omega) (by omega)]; omega
        · rw [xst_nn (by omega), xst_nn (by omega), hw h8, show p + n - p = n by omega]
      · rw [if_neg (show ¬ (n : Int) ≤ 8 by omega)]
        refine ⟨_, rfl, xSm_st xSm_refl rfl, ?_, ?_⟩
        · rw [xst_nn (by omega)]
        · rw [if_neg (show ¬ p + n - p ≤ 8 by omega), xst_at]
  | succ m ih =>
    intro n D h1 h2 hT hp hl hw
    have hN := hT.2.2.1
    have e0 := rt_here (k := n) (z := (n : Int)) hd hT hp (by omega) rfl
    obtain ⟨v1, -, -, -, -, v6⟩ := rt_val (q := p + n) hT rfl
    by_cases hb : p + n < N ∧ rdLet (g (p + n)) = true
    · have v1 := v1.mpr hb
      have v6 := v6 (by omega) (by omega)
      have gl := rdLet_iff.mp hb.2
      rw [xl_X12_token_78, e0]
      simp only [Option.bind_some, Bool.cond_decide]
      rw [xn_isLetter hd]
      simp only [Option.bind_some]
      rw [if_pos v1, if_neg (show ¬ ((1 : Int) = 0) by decide)]
      by_cases h8 : 8 ≤ n
      · rw [if_pos (by omega)]
        have := ih (n + 1) D (by omega) (by omega) hT hp (fun j hj => by
          by_cases hj2 : j = n
          · rw [hj2]; exact hb.2
          · exact hl j (by omega)) (fun h => by omega)
        rw [show w32 ((n : Int) + 1) = ((n + 1 : Nat) : Int) by rw [w32_id (by omega) (by omega)]; omega, show rdEnd rdLet g N (p + n) = rdEnd rdLet g N (p + (n + 1)) from rdEnd_on hb.1 hb.2]
        exact this
      · have hv := rdV_256 (g := g) (p := p) n hl
        have hpw : (256 : Int) ^ n ≤ 256 ^ 7 := rdPow256 (by omega)
        have e9 := hw (by omega)
        rw [if_neg (by omega), e0]
        simp only [Option.bind_some]
        rw [e9, v6, x64_or8 hv.1 (by omega) (by omega) (by omega), show w32 ((n : Int) + 1) = ((n + 1 : Nat) : Int) by rw [w32_id (by omega) (by omega)]; omega]
        have hS : xSm rS0 D (xst D 74 9 (rdV 256 0 g p n * 256 + g (p + n))) := xSm_st xSm_refl rfl
        obtain ⟨e, k1, F, k2, k3, k4, k5⟩ := ih (n + 1) (xst D 74 9 (rdV 256 0 g p n * 256 + g (p + n))) (by omega) (by omega) (rTx_S0 hT hS) (by rw [xst_nn (by omega), hp]) (fun j hj => by
          by_cases hj2 : j = n
          · rw [hj2]; exact hb.2
          · exact hl j (by omega)) (fun _ => by rw [xst_at]; simp only [rdV]; omega)
        refine ⟨e, ?_, F, k2, xSm_trans hS k3, ?_, k5⟩
        · rw [k1]; exact (rdEnd_on hb.1 hb.2).symm
        · rw [k4, xst_nn (by omega)]
    · have v1 : ¬ (97 ≤ (if p + n < N then D 75 (p + n) else -1) ∧ (if p + n < N then D 75 (p + n) else -1) ≤ 122) := fun h => hb (v1.mp h)
      refine ⟨p + n, (rdEnd_off hb).symm, ?_⟩
      rw [xl_X12_token_78, e0]
      simp only [Option.bind_some, Bool.cond_decide]
      rw [xn_isLetter hd]
      simp only [Option.bind_some]
      rw [if_neg v1, if_pos rfl]
      by_cases h8 : n ≤ 8
      · rw [if_pos (show (n : Int) ≤ 8 by omega)]
        refine ⟨_, rfl, xSm_st (xSm_st xSm_refl rfl) rfl, ?_, ?_⟩
        rotate_left
        rw [if_pos (show p + n - p ≤ 8 by omega)]
        refine ⟨?_, ?_, ?_⟩
        rotate_right
        · rw [xst_nn (by omega), xst_nn (by omega)]
        · rw [xst_nn (by omega), xst_at]
        · rw [xst_at, hp, w32_id (by omega) (by omega)]; omega
        · rw [xst_nn (by omega), xst_nn (by omega), hw h8, show p + n - p = n by omega]
      · rw [if_neg (show ¬ (n : Int) ≤ 8 by omega)]
        refine ⟨_, rfl, xSm_st xSm_refl rfl, ?_, ?_⟩
        · rw [xst_nn (by omega)]
        · rw [if_neg (show ¬ p + n - p ≤ 8 by omega), xst_at]
end rTok
