/-! What feed does: the bytes. -/
section fFeed
variable {d n : Nat} {C : xC} {v : Int}
theorem x32_shr (m : Nat) (hm : m ≤ 3) (h1 : -2147483648 ≤ v) (h2 : v ≤ 2147483647) : x32 (fun x y => x >>> (y &&& 31)) v ((8 * m : Nat) : Int) = v / (2 : Int) ^ (8 * m) := by
  have ev : (Int32.ofInt v).toInt = v := Int32.toInt_ofInt_of_le (by simpa using h1) (by omega)
  have hc : m = 0 ∨ m = 1 ∨ m = 2 ∨ m = 3 := by omega
  unfold x32
  rcases hc with rfl | rfl | rfl | rfl
  · have eb : (Int32.ofInt v >>> (Int32.ofInt ((8 * 0 : Nat) : Int) &&& 31)).toBitVec = (Int32.ofInt v).toBitVec.sshiftRight 0 := rfl
    show (Int32.ofInt v >>> (Int32.ofInt ((8 * 0 : Nat) : Int) &&& 31)).toBitVec.toInt = _
    rw [eb, BitVec.toInt_sshiftRight, Int.shiftRight_eq_div_pow]
    show (Int32.ofInt v).toInt / _ = _
    rw [ev]
    rfl
  · have eb : (Int32.ofInt v >>> (Int32.ofInt ((8 * 1 : Nat) : Int) &&& 31)).toBitVec = (Int32.ofInt v).toBitVec.sshiftRight 8 := rfl
    show (Int32.ofInt v >>> (Int32.ofInt ((8 * 1 : Nat) : Int) &&& 31)).toBitVec.toInt = _
    rw [eb, BitVec.toInt_sshiftRight, Int.shiftRight_eq_div_pow]
    show (Int32.ofInt v).toInt / _ = _
    rw [ev]
    rfl
  · have eb : (Int32.ofInt v >>> (Int32.ofInt ((8 * 2 : Nat) : Int) &&& 31)).toBitVec = (Int32.ofInt v).toBitVec.sshiftRight 16 := rfl
    show (Int32.ofInt v >>> (Int32.ofInt ((8 * 2 : Nat) : Int) &&& 31)).toBitVec.toInt = _
    rw [eb, BitVec.toInt_sshiftRight, Int.shiftRight_eq_div_pow]
    show (Int32.ofInt v).toInt / _ = _
    rw [ev]
    rfl
  · have eb : (Int32.ofInt v >>> (Int32.ofInt ((8 * 3 : Nat) : Int) &&& 31)).toBitVec = (Int32.ofInt v).toBitVec.sshiftRight 24 := rfl
    show (Int32.ofInt v >>> (Int32.ofInt ((8 * 3 : Nat) : Int) &&& 31)).toBitVec.toInt = _
    rw [eb, BitVec.toInt_sshiftRight, Int.shiftRight_eq_div_pow]
    show (Int32.ofInt v).toInt / _ = _
    rw [ev]
    rfl
theorem x32_255 {w : Int} : x32 (· &&& ·) w 255 = w % 256 := by
  unfold x32
  have e : (Int32.ofInt w &&& Int32.ofInt 255).toBitVec.toNat = (Int32.ofInt w).toBitVec.toNat % 256 := by
    show ((Int32.ofInt w).toBitVec &&& 255#32).toNat = _
    rw [BitVec.toNat_and]
    exact Nat.and_two_pow_sub_one_eq_mod _ 8
  have e2 : (Int32.ofInt w).toBitVec.toNat = (w % 4294967296).toNat := by
    rw [Int32.toBitVec_ofInt, BitVec.toNat_ofInt]
    rfl
  show (Int32.ofInt w &&& Int32.ofInt 255).toBitVec.toInt = _
  rw [BitVec.toInt_eq_toNat_of_lt (by rw [e]; omega), e, e2]
  have h0 := Int.emod_nonneg w (show (4294967296 : Int) ≠ 0 by decide)
  omega
theorem fBy_le (v : Int) (k : Nat) : -128 ≤ fBy v k ∧ fBy v k ≤ 127 := by
  unfold fBy
  have h1 := Int.le_bmod (x := v / 2 ^ (24 - 8 * k)) (m := 256) (by decide)
  have h2 := Int.bmod_lt (x := v / 2 ^ (24 - 8 * k)) (m := 256) (by decide)
  omega
theorem rdB_by (v : Int) (k : Nat) : rdB ((v / (2 : Int) ^ (24 - 8 * k)) % 256) (fBy v k) := by
  have hb := fBy_le v k
  have e : fBy v k % 256 = (v / (2 : Int) ^ (24 - 8 * k)) % 256 := Int.bmod_emod
  unfold rdB
  rw [← e]
  generalize fBy v k = b at *
  clear e
  omega
/-- what a word's bytes leave as it was -/
def fS0 (i j : Nat) (n m a b : Nat) : Prop := ¬ (i = a ∧ j = 1) ∧ ¬ (i = b ∧ n ≤ j ∧ j < m)
theorem fx_put (hd : 1 ≤ d) (h00 : C 0 0 = 1) (h01 : C 0 1 = (n : Int)) (hn : n + 4 ≤ 1700) (h1 : -2147483648 ≤ v) (h2 : v ≤ 2147483647) :
    ∃ F, xM d 109 [.inr (.inr (.inl (0, 0))), .inl v] C = some (0, F) ∧ F 0 1 = ((n + 4 : Nat) : Int) ∧ (∀ k, k < 4 → F 1 (n + k) = fBy v k) ∧ ∀ i j, fS0 i j n (n + 4) 0 1 → F i j = C i j := by
  obtain ⟨d, rfl⟩ := Nat.exists_eq_add_of_le' hd
  rw [xm_X11_putBytes]
  have key : ∀ (m k : Nat) (E : xC), k + m = 4 → E 0 0 = 1 → E 0 1 = ((n + k : Nat) : Int) → (∀ j, j < k → E 1 (n + j) = fBy v j) → (∀ i j, fS0 i j n (n + 4) 0 1 → E i j = C i j) →
      ∃ F, xw_X11_putBytes d (3, [some (.inr (.inr (.inl (0, 0)))), some (.inl v), some (.inl (8 * (m : Int) - 8))], [], E) = some (0, F) ∧ F 0 1 = ((n + 4 : Nat) : Int) ∧ (∀ k, k < 4 → F 1 (n + k) = fBy v k) ∧ ∀ i j, fS0 i j n (n + 4) 0 1 → F i j = C i j := by
    intro m
    induction m with
    | zero =>
      intro k E hk e0 e1 e2 e3
      have : k = 4 := by omega
      subst this
      refine ⟨E, ?_, e1, e2, e3⟩
      rw [xl_X11_putBytes_3]
      simp only [Bool.cond_decide]
      rw [if_pos (by omega)]
    | succ m ih =>
      intro k E hk e0 e1 e2 e3
      have em : 8 * ((m + 1 : Nat) : Int) - 8 = ((8 * m : Nat) : Int) := by omega
      have ek : 24 - 8 * k = 8 * m := by omega
      have t0 : (E 0 0).toNat = 1 := by rw [e0]; rfl
      have eb : Int.bmod (v / (2 : Int) ^ (8 * m)) 256 = fBy v k := by unfold fBy; rw [ek]
      have hb := fBy_le v k
      have hna : xna 0 (fBy v k) = true := by
        show (decide (-128 ≤ fBy v k) && decide (fBy v k ≤ 127)) = true
        rw [decide_eq_true hb.1, decide_eq_true hb.2]
        rfl
      rw [em, xl_X11_putBytes_3, x32_shr m (by omega) h1 h2, eb, e1, xixn (n := 1700) (show n + k < 1700 by omega), hna, t0, Int.toNat_natCast]
      simp only [Bool.cond_decide, Bool.and_true, cond_true]
      have g0 : (xst E 1 (n + k) (fBy v k)) 0 1 = ((n + k : Nat) : Int) := by rw [xst_nn (by omega), e1]
      rw [if_neg (by omega), if_neg (by omega), g0, w32_s (by omega), w32_id (by omega) (by omega), show ((8 * m : Nat) : Int) + -8 = 8 * (m : Int) - 8 by omega]
      refine ih (k + 1) _ (by omega) ?_ ?_ (fun j hj => ?_) (fun i j hS => ?_)
      · rw [xst_nn (by omega), xst_nn (by omega), e0]
      · rw [xst_at]; rfl
      · rw [xst_nn (by omega)]
        by_cases hjk : j = k
        · rw [hjk, xst_at]
        · rw [xst_nn (by omega)]; exact e2 j (by omega)
      · have hS2 := hS
        unfold fS0 at hS2
        rw [xst_nn hS2.1, xst_nn (by omega)]
        exact e3 i j hS
  exact key 4 0 C (by omega) h00 h01 (fun j hj => by omega) (fun i j _ => rfl)
theorem fm_four (hd : 1 ≤ d) (h00 : C 74 0 = 75) (h01 : C 74 1 = (n : Int)) (hn : n + 4 ≤ 1700) (h1 : -2147483648 ≤ v) (h2 : v ≤ 2147483647) :
    ∃ F, xM d 151 [mR, .inl v] C = some (0, F) ∧ F 74 1 = ((n + 4 : Nat) : Int) ∧ (∀ k, k < 4 → F 75 (n + k) = (v / (2 : Int) ^ (24 - 8 * k)) % 256) ∧ ∀ i j, fS0 i j n (n + 4) 74 75 → F i j = C i j := by
  obtain ⟨d, rfl⟩ := Nat.exists_eq_add_of_le' hd
  rw [xm_X12_four]
  have key : ∀ (m k : Nat) (E : xC), k + m = 4 → E 74 0 = 75 → E 74 1 = ((n + k : Nat) : Int) → (∀ j, j < k → E 75 (n + j) = (v / (2 : Int) ^ (24 - 8 * j)) % 256) → (∀ i j, fS0 i j n (n + 4) 74 75 → E i j = C i j) →
      ∃ F, xw_X12_four d (3, [some mR, some (.inl v), some (.inl (8 * (m : Int) - 8))], [], E) = some (0, F) ∧ F 74 1 = ((n + 4 : Nat) : Int) ∧ (∀ k, k < 4 → F 75 (n + k) = (v / (2 : Int) ^ (24 - 8 * k)) % 256) ∧ ∀ i j, fS0 i j n (n + 4) 74 75 → F i j = C i j := by
    intro m
    induction m with
    | zero =>
      intro k E hk e0 e1 e2 e3
      have : k = 4 := by omega
      subst this
      refine ⟨E, ?_, e1, e2, e3⟩
      rw [xl_X12_four_3]
      simp only [Bool.cond_decide]
      rw [if_pos (by omega)]
    | succ m ih =>
      intro k E hk e0 e1 e2 e3
      have em : 8 * ((m + 1 : Nat) : Int) - 8 = ((8 * m : Nat) : Int) := by omega
      have ek : 24 - 8 * k = 8 * m := by omega
      have t0 : (E 74 0).toNat = 75 := by rw [e0]; rfl
      rw [em, xl_X12_four_3, x32_shr m (by omega) h1 h2, x32_255, e1, xixn (n := 1700) (show n + k < 1700 by omega), t0, Int.toNat_natCast, ← ek]
      simp only [Bool.cond_decide, xna, Bool.and_true, cond_true]
      generalize hw : (v / (2 : Int) ^ (24 - 8 * k)) % 256 = w
      have g0 : (xst E 75 (n + k) w) 74 1 = ((n + k : Nat) : Int) := by rw [xst_nn (by omega), e1]
      rw [if_neg (by omega), g0, w32_s (by omega), w32_id (by omega) (by omega), show ((24 - 8 * k : Nat) : Int) + -8 = 8 * (m : Int) - 8 by omega]
      refine ih (k + 1) _ (by omega) ?_ ?_ (fun j hj => ?_) (fun i j hS => ?_)
      · rw [xst_nn (by omega), xst_nn (by omega), e0]
      · rw [xst_at]; rfl
      · rw [xst_nn (by omega)]
        by_cases hjk : j = k
        · rw [hjk, xst_at, hw]
        · rw [xst_nn (by omega)]; exact e2 j (by omega)
      · have hS2 := hS
        unfold fS0 at hS2
        rw [xst_nn hS2.1, xst_nn (by omega)]
        exact e3 i j hS
  exact key 4 0 C (by omega) h00 h01 (fun j hj => by omega) (fun i j _ => rfl)
end fFeed
