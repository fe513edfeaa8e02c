/-! What the second machine's names say of the real one; that its sums, bounds, ways are right. -/
section yRel
def yRS (v : List Int) (st : yS) : Prop := v.length = st.1 ∧ yRB v st.2.1 ∧ yRF v st.2.2.1 ∧ yRZ v st.2.2.2.1
def yV (b sz : Nat) (sr : List Nat) (v : List Int) : yA → Value → Prop
  | .inl e, w => ∃ x : Int32, w = .int x ∧ yev v e = some x.toInt
  | .inr (.inl e), w => ∃ x : Int64, w = .long x ∧ yev v e = some x.toInt
  | .inr (.inr (.inl (e, t))), w => ∃ i : Nat, w = .ref (sz + i) ∧ yev v e = some (i : Int) ∧ sr[i]? = some t
  | .inr (.inr (.inr (.inl e))), w => ∃ (x : Int32) (z : Int), w = .int x ∧ yev v e = some z ∧ (x.toInt < 0 ↔ z < 0) ∧ (x.toInt = 0 ↔ z = 0)
  | .inr (.inr (.inr (.inr _))), w => w = .ref b
variable {b sz : Nat} {sr : List Nat} {v u : List Int} {st : yS}
theorem yV_mono {a : yA} {w : Value} (h : yV b sz sr v a w) : yV b sz sr (v ++ u) a w := by
  rcases a with e | e | ⟨e, t⟩ | e | x
  · obtain ⟨x, h1, h2⟩ := h; exact ⟨x, h1, yev_mono h2⟩
  · obtain ⟨x, h1, h2⟩ := h; exact ⟨x, h1, yev_mono h2⟩
  · obtain ⟨i, h1, h2, h3⟩ := h; exact ⟨i, h1, yev_mono h2, h3⟩
  · obtain ⟨x, z, h1, h2, h3⟩ := h; exact ⟨x, z, h1, yev_mono h2, h3⟩
  · exact h
theorem yRS_mono' {nx : Nat} {B : yBd} {r : List yE × List yE × yM × yP} {z lo hi : Int} (h : yRS v (nx, B, r)) (h1 : lo ≤ z) (h2 : z ≤ hi) : yRS (v ++ [z]) (nx + 1, (nx, lo, hi) :: B, r) := by
  obtain ⟨a1, a2, a3, a4⟩ := h
  have a1 : v.length = nx := a1
  refine ⟨by simp [a1], yRB_cons (yRB_mono a2) (z := z) (by rw [← a1]; simp) h1 h2, yRF_mono a3, yRZ_mono a4⟩
theorem yfr_ok {lo hi z : Int} {k : yE → yS → Bool} (h : yfr lo hi st k = true) (hR : yRS v st) (h1 : lo ≤ z) (h2 : z ≤ hi) : ∃ st1, k ([(v.length, 1)], 0) st1 = true ∧ yRS (v ++ [z]) st1 ∧ yev (v ++ [z]) ([(v.length, 1)], 0) = some z ∧ st1.2.2.2.2 = st.2.2.2.2 := by
  obtain ⟨nx, B, r⟩ := st
  unfold yfr at h
  simp only [zst_eq, yint_eq] at h
  have e : v.length = nx := hR.1
  subst e
  exact ⟨_, h, yRS_mono' hR h1 h2, yev_var (by simp), rfl⟩
/-- what gives a value does so, whatever comes -/
def yG (b sz : Nat) (sr : List Nat) (v : List Int) (st : yS) (k : yK) (w : Value) : Prop := ∃ a u st1, k a st1 = true ∧ yRS (v ++ u) st1 ∧ yV b sz sr (v ++ u) a w ∧ st1.2.2.2.2 = st.2.2.2.2
def yGs (v : List Int) (st : yS) (k : yS → Bool) : Prop := ∃ u st1, k st1 = true ∧ yRS (v ++ u) st1 ∧ st1.2.2.2.2 = st.2.2.2.2
theorem yG_now {k : yK} {a : yA} {w : Value} (h : k a st = true) (hR : yRS v st) (hv : yV b sz sr v a w) : yG b sz sr v st k w := ⟨a, [], st, h, by simpa using hR, by simpa using hv, rfl⟩
theorem yGs_now {k : yS → Bool} (h : k st = true) (hR : yRS v st) : yGs v st k := ⟨[], st, h, by simpa using hR, rfl⟩
theorem yGi_fr {lo hi : Int} {k : yK} {x : Int32} (h : yfr lo hi st (fun e st => k (.inl e) st) = true) (hR : yRS v st) (h1 : lo ≤ x.toInt) (h2 : x.toInt ≤ hi) : yG b sz sr v st k (.int x) := by
  obtain ⟨st1, g1, g2, g3, g4⟩ := yfr_ok h hR h1 h2
  exact ⟨_, _, st1, g1, g2, ⟨x, rfl, g3⟩, g4⟩
theorem ytp_ok {k : yK} {x : Int32} (h : ytp st k = true) (hR : yRS v st) : yG b sz sr v st k (.int x) :=
  yGi_fr h hR (by have := x.le_toInt; simpa using this) (by have := x.toInt_lt; omega)
theorem ytl_ok {k : yK} {x : Int64} (h : ytl st k = true) (hR : yRS v st) : yG b sz sr v st k (.long x) := by
  obtain ⟨st1, g1, g2, g3, g4⟩ := yfr_ok (z := x.toInt) h hR (by have := x.le_toInt; simpa using this) (by have := x.toInt_lt; omega)
  exact ⟨_, _, st1, g1, g2, ⟨x, rfl, g3⟩, g4⟩
theorem yin_ok {lo hi z : Int} {B : yBd} {e : yE} (hB : yRB v B) (h : yin lo hi (yrg B e) = true) (hz : yev v e = some z) : lo ≤ z ∧ z ≤ hi := by
  unfold yin at h
  split at h
  · rename_i q hq
    rw [Bool.and_eq_true, ile_iff, ile_iff] at h
    have := yrg_ok hB hq hz
    omega
  · cases h
theorem yri_ok {e : yE} {z : Int} {k : yK} {x : Int32} (h : yri e st k = true) (hR : yRS v st) (hz : yev v e = some z) (hx : -2147483648 ≤ z → z ≤ 2147483647 → x.toInt = z) : yG b sz sr v st k (.int x) := by
  unfold yri at h
  rw [yfE_eq] at h
  split at h
  · rename_i hin
    obtain ⟨a1, a2⟩ := yin_ok hR.2.1 hin hz
    exact yG_now h hR ⟨x, rfl, by rw [hx a1 a2]; exact hz⟩
  · exact ytp_ok h hR
theorem ylS_ok {e : yE} {z : Int} (h : ylS st e = true) (hR : yRS v st) (hz : yev v e = some z) : z ≤ 0 := yle_ok hR.2.1 hR.2.2.1 h hz
theorem yasS_ok {e : yE} {z : Int} {k : yS → Bool} (h : yasS e st k = true) (hR : yRS v st) (hz : yev v e = some z) (he : z ≤ 0) : ∃ st1, k st1 = true ∧ yRS v st1 ∧ st1.2.2.2.2 = st.2.2.2.2 ∧ st1.2.2.2.1 = st.2.2.2.1 := by
  obtain ⟨nx, B, F, r⟩ := st
  unfold yasS at h
  simp only [yfE_eq] at h
  obtain ⟨a1, a2, a3, a4⟩ := hR
  obtain ⟨B1, F1, g1, g2, g3⟩ := yas_ok a2 a3 h hz he
  exact ⟨_, g3, ⟨a1, g1, g2, a4⟩, rfl, rfl⟩
theorem yasS_gs {e : yE} {z : Int} {k : yS → Bool} (h : yasS e st k = true) (hR : yRS v st) (hz : yev v e = some z) (he : z ≤ 0) : yGs v st k := by
  obtain ⟨st1, g1, g2, g3, -⟩ := yasS_ok h hR hz he
  exact ⟨[], st1, g1, by simpa using g2, g3⟩
theorem yasS_gs2 {e f : yE} {z y : Int} {k : yS → Bool} (h : yasS e st (fun st => yasS f st k) = true) (hR : yRS v st) (hz : yev v e = some z) (he : z ≤ 0) (hy : yev v f = some y) (hf : y ≤ 0) : yGs v st k := by
  obtain ⟨st1, g1, g2, g3, -⟩ := yasS_ok h hR hz he
  obtain ⟨st2, q1, q2, q3, -⟩ := yasS_ok g1 g2 hy hf
  exact ⟨[], st2, q1, by simpa using q2, q3.trans g3⟩
theorem y_neg {e : yE} {z : Int} (hz : yev v e = some z) : yev v (ysu ([], 0) e) = some (-z) := by
  rw [ysu_ok (show yev v ([], 0) = some 0 from yev_cn v 0) hz, Int.zero_sub]
theorem yz_bm {z : Int} (h1 : -2147483648 ≤ z) (h2 : z ≤ 2147483647) : z.bmod (2 ^ 32) = z := by
  rw [Int.bmod_def]
  simp only [Nat.reducePow]
  split <;> omega
theorem y_add (x y : Int32) (h1 : -2147483648 ≤ x.toInt + y.toInt) (h2 : x.toInt + y.toInt ≤ 2147483647) : (x + y).toInt = x.toInt + y.toInt := by
  rw [Int32.toInt_add, yz_bm h1 h2]
theorem y_sub (x y : Int32) (h1 : -2147483648 ≤ x.toInt - y.toInt) (h2 : x.toInt - y.toInt ≤ 2147483647) : (x - y).toInt = x.toInt - y.toInt := by
  rw [Int32.toInt_sub, yz_bm h1 h2]
theorem y_mul (x y : Int32) (h1 : -2147483648 ≤ x.toInt * y.toInt) (h2 : x.toInt * y.toInt ≤ 2147483647) : (x * y).toInt = x.toInt * y.toInt := by
  rw [Int32.toInt_mul, yz_bm h1 h2]
/-- what an operation of two ints gives -/
def yOp (b sz : Nat) (sr : List Nat) (op : yE → yE → yS → yK → Bool) (f : Int32 → Int32 → Int32) : Prop := ∀ (v : List Int) (x y : yE) (st : yS) (k : yK) (p q : Int32), op x y st k = true → yRS v st → yev v x = some p.toInt → yev v y = some q.toInt → yG b sz sr v st k (.int (f p q))
theorem yadd_ok : yOp b sz sr (fun x y => yri (yad x y)) (· + ·) := fun v x y st k p q h hR hx hy => yri_ok h hR (yad_ok hx hy) (y_add p q)
theorem ysub_ok : yOp b sz sr (fun x y => yri (ysu x y)) (· - ·) := fun v x y st k p q h hR hx hy => yri_ok h hR (ysu_ok hx hy) (y_sub p q)
theorem y_const {e : yE} {z : Int} (he : e.1 = []) (hz : yev v e = some z) : z = e.2 := by
  obtain ⟨r, h1, h2⟩ := yev_iff.mp hz
  rw [he] at h1
  cases h1
  omega
theorem ymul_ok : yOp b sz sr ymul (· * ·) := by
  intro v x y st k p q h hR hx hy
  unfold ymul at h
  split at h
  · rename_i he
    have e1 := y_const he hx
    exact yri_ok h hR (ysc_ok hy) (by rw [← e1]; exact y_mul p q)
  · split at h
    · rename_i he
      have e1 := y_const he hy
      exact yri_ok h hR (ysc_ok hx) (by rw [← e1, Int.mul_comm]; exact y_mul p q)
    · split at h
      · exact ytp_ok h hR
      · rename_i r hr
        split at h
        · exact ytp_ok h hR
        · rename_i s hs
          split at h
          · rename_i hc
            simp only [Bool.and_eq_true, ile_iff] at hc
            obtain ⟨c1, c2, c3⟩ := hc
            obtain ⟨a1, a2⟩ := yrg_ok hR.2.1 hr hx
            obtain ⟨b1, b2⟩ := yrg_ok hR.2.1 hs hy
            have m1 : r.1 * s.1 ≤ p.toInt * q.toInt := Int.mul_le_mul a1 b1 c2 (by omega)
            have m2 : p.toInt * q.toInt ≤ r.2 * s.2 := Int.mul_le_mul a2 b2 (by omega) (by omega)
            have m0 : 0 ≤ r.1 * s.1 := Int.mul_nonneg c1 c2
            have e := y_mul p q (by omega) (by omega)
            exact yGi_fr h hR (by rw [e]; exact m1) (by rw [e]; exact m2)
          · exact ytp_ok h hR
theorem yspT_ok {m : Int} (hm : m ≠ 0) {l : yT} {z : Int} (h : yevT v l = some z) : ∃ a r, yevT v (yspT m l).1 = some a ∧ yevT v (yspT m l).2 = some r ∧ z = m * a + r := by
  induction l generalizing z with
  | nil => cases h; exact ⟨0, 0, rfl, rfl, by simp⟩
  | cons p t ih =>
    obtain ⟨i, c⟩ := p
    obtain ⟨x, r, h1, h2, h3⟩ := yevT_cons.mp h
    obtain ⟨a, q, g1, g2, g3⟩ := ih h2
    have e : yspT m ((i, c) :: t) = (match yz (c % m) with
      | true => ((i, c / m) :: (yspT m t).1, (yspT m t).2)
      | false => ((yspT m t).1, (i, c) :: (yspT m t).2)) := rfl
    rw [e]
    split
    · rename_i hz
      have hz := (yz_iff _).mp hz
      refine ⟨c / m * x + a, q, yevT_cons.mpr ⟨x, a, h1, g1, rfl⟩, g2, ?_⟩
      have hd : m * (c / m) = c := Int.mul_ediv_cancel' (Int.dvd_of_emod_eq_zero hz)
      rw [h3, g3, Int.mul_add, ← Int.mul_assoc, hd]
      omega
    · refine ⟨a, c * x + q, g1, yevT_cons.mpr ⟨x, q, h1, g2, rfl⟩, ?_⟩
      rw [h3, g3]
      omega
theorem ysp_ok {m : Int} (hm : m ≠ 0) {e : yE} {z : Int} (h : yev v e = some z) : ∃ a r, yev v (ysp m e).1 = some a ∧ yev v (ysp m e).2 = some r ∧ z = m * a + r := by
  obtain ⟨q, h1, h2⟩ := yev_iff.mp h
  obtain ⟨a, r, g1, g2, g3⟩ := yspT_ok hm h1
  refine ⟨a + e.2 / m, r + e.2 % m, yev_iff.mpr ⟨a, g1, rfl⟩, yev_iff.mpr ⟨r, g2, rfl⟩, ?_⟩
  have := Int.mul_ediv_add_emod e.2 m
  rw [h2, g3, Int.mul_add]
  omega
theorem y_and {x y : Int32} {m : Int} (hm : ymsk m = true) (hy : y.toInt = m) : (x &&& y).toInt = x.toInt % (m + 1) := by
  have key : ∀ n : Nat, n < 31 → y.toInt = ((2 ^ n - 1 : Nat) : Int) → (x &&& y).toInt = x.toInt % ((2 ^ n : Nat) : Int) := by
    intro n hn hy
    have h2n : 2 ^ n ≤ 2 ^ 30 := Nat.pow_le_pow_right (by decide) (by omega)
    have h0n : 0 < 2 ^ n := Nat.pow_pos (by decide)
    have ey : y.toBitVec.toNat = 2 ^ n - 1 := by
      have e1 : y.toInt = y.toBitVec.toInt := rfl
      rw [e1, BitVec.toInt_eq_toNat_cond] at hy
      have := y.toBitVec.isLt
      split at hy <;> omega
    have ea : (x &&& y).toBitVec.toNat = x.toBitVec.toNat % 2 ^ n := by
      have e1 : (x &&& y).toBitVec = x.toBitVec &&& y.toBitVec := rfl
      rw [e1, BitVec.toNat_and, ey, Nat.and_two_pow_sub_one_eq_mod]
    have e1 : (x &&& y).toInt = (x &&& y).toBitVec.toInt := rfl
    have e2 : x.toInt = x.toBitVec.toInt := rfl
    have hlt : x.toBitVec.toNat % 2 ^ n < 2 ^ n := Nat.mod_lt _ h0n
    rw [e1, e2, BitVec.toInt_eq_toNat_cond, ea, if_pos (by omega), BitVec.toInt_eq_toNat_cond]
    split
    · simp
    · have hd : ((2 ^ n : Nat) : Int) ∣ ((2 ^ 32 : Nat) : Int) := Int.natCast_dvd_natCast.mpr (Nat.pow_dvd_pow 2 (by omega))
      obtain ⟨c, hc⟩ := hd
      rw [hc, Int.sub_mul_emod_self_left]
      simp
  unfold ymsk at hm
  simp only [Bool.or_eq_true, yeqI_iff] at hm
  rcases hm with rfl | rfl | rfl | rfl | rfl | rfl
  · exact key 1 (by decide) hy
  · exact key 4 (by decide) hy
  · exact key 6 (by decide) hy
  · exact key 8 (by decide) hy
  · exact key 10 (by decide) hy
  · exact key 13 (by decide) hy
theorem ymsk_pos {m : Int} (hm : ymsk m = true) : 0 ≤ m := by
  unfold ymsk at hm
  simp only [Bool.or_eq_true, yeqI_iff] at hm
  omega
theorem yand1_ok {x : yE} {m : Int} {k : yK} {p q : Int32} (h : yand1 x m st k = true) (hR : yRS v st) (hx : yev v x = some p.toInt) (hq : q.toInt = m) : yG b sz sr v st k (.int (p &&& q)) := by
  unfold yand1 at h
  split at h
  · exact ytp_ok h hR
  · rename_i hm
    have e := y_and (x := p) hm hq
    have hm0 := ymsk_pos hm
    rw [yfE_eq] at h
    obtain ⟨a, r, h1, h2, h3⟩ := ysp_ok (m := m + 1) (by omega) hx
    split at h
    · rename_i hin
      obtain ⟨r1, r2⟩ := yin_ok hR.2.1 hin h2
      refine yG_now h hR ⟨_, rfl, ?_⟩
      rw [h2, e, h3, Int.mul_add_emod_self_left, Int.emod_eq_of_lt r1 (by omega)]
    · have h0 := Int.emod_nonneg p.toInt (show m + 1 ≠ 0 by omega)
      have h1 := Int.emod_lt_of_pos p.toInt (show 0 < m + 1 by omega)
      exact yGi_fr h hR (by rw [e]; exact h0) (by rw [e]; omega)
theorem yand_ok : yOp b sz sr yand (· &&& ·) := by
  intro v x y st k p q h hR hx hy
  unfold yand at h
  split at h
  · rename_i he
    exact yand1_ok h hR hx (y_const he hy)
  · split at h
    · rename_i he
      show yG b sz sr v st k (.int (p &&& q))
      rw [Int32.and_comm]
      exact yand1_ok h hR hy (y_const he hx)
    · exact ytp_ok h hR
theorem y_ior {x y : Int32} (hx : x.toInt % 16 = 0) (h1 : 0 ≤ y.toInt) (h2 : y.toInt ≤ 15) : (x ||| y).toInt = x.toInt + y.toInt := by
  have ex : x.toInt = x.toBitVec.toInt := rfl
  have ey : y.toInt = y.toBitVec.toInt := rfl
  have eo : (x ||| y).toInt = (x ||| y).toBitVec.toInt := rfl
  have eb : (x ||| y).toBitVec = x.toBitVec ||| y.toBitVec := rfl
  have lx := x.toBitVec.isLt
  have ly := y.toBitVec.isLt
  rw [ex, BitVec.toInt_eq_toNat_cond] at hx
  rw [ey, BitVec.toInt_eq_toNat_cond] at h1 h2
  have ny : y.toBitVec.toNat < 16 := by split at h1 <;> split at h2 <;> omega
  have nx : x.toBitVec.toNat % 16 = 0 := by split at hx <;> omega
  have no : (x ||| y).toBitVec.toNat = x.toBitVec.toNat + y.toBitVec.toNat := by
    rw [eb, BitVec.toNat_or]
    have e1 : x.toBitVec.toNat = (x.toBitVec.toNat / 16) <<< 4 := by rw [Nat.shiftLeft_eq]; omega
    rw [e1, ← Nat.shiftLeft_add_eq_or_of_lt (show y.toBitVec.toNat < 2 ^ 4 by omega)]
  rw [eo, ex, ey, BitVec.toInt_eq_toNat_cond, BitVec.toInt_eq_toNat_cond, BitVec.toInt_eq_toNat_cond, no]
  split <;> split <;> split <;> omega
theorem yior_ok : yOp b sz sr yior (· ||| ·) := by
  intro v x y st k p q h hR hx hy
  unfold yior at h
  split at h
  · rename_i hc
    rw [Bool.and_eq_true] at hc
    obtain ⟨c1, c2⟩ := hc
    obtain ⟨a, r, h1, h2, h3⟩ := ysp_ok (m := 16) (by omega) hx
    rw [yeq_ok c1] at h2
    have e0 := yev_cn v 0
    rw [ycn] at e0
    rw [e0] at h2
    cases h2
    obtain ⟨g1, g2⟩ := yin_ok hR.2.1 c2 hy
    exact yri_ok h hR (yad_ok hx hy) (fun _ _ => y_ior (by omega) g1 g2)
  · exact ytp_ok h hR
theorem y_shl (x : Int32) : ∃ c : Int, (x <<< ((4 : Int32) &&& 31)).toInt = x.toInt * 16 + 4294967296 * c := by
  have e4 : ((4 : Int32) &&& 31) = 4 := by decide
  rw [e4]
  have ex : x.toInt = x.toBitVec.toInt := rfl
  have eo : (x <<< (4 : Int32)).toInt = (x <<< (4 : Int32)).toBitVec.toInt := rfl
  have eb : (x <<< (4 : Int32)).toBitVec = x.toBitVec <<< 4 := rfl
  have hn : (x.toBitVec <<< 4).toNat = x.toBitVec.toNat * 16 % 4294967296 := by
    rw [BitVec.toNat_shiftLeft, Nat.shiftLeft_eq]
  rw [eo, eb, ex, BitVec.toInt_eq_toNat_cond, BitVec.toInt_eq_toNat_cond, hn]
  have lx := x.toBitVec.isLt
  have hd := Nat.div_add_mod (x.toBitVec.toNat * 16) 4294967296
  generalize x.toBitVec.toNat * 16 % 4294967296 = r at hd
  generalize x.toBitVec.toNat * 16 / 4294967296 = q at hd
  split <;> split
  · exact ⟨-q, by omega⟩
  · exact ⟨-q + 16, by omega⟩
  · exact ⟨-q - 1, by omega⟩
  · exact ⟨-q + 15, by omega⟩
theorem yshl_ok : yOp b sz sr yshl (fun x y => x <<< (y &&& 31)) := by
  intro v x y st k p q h hR hx hy
  unfold yshl at h
  split at h
  · exact ytp_ok h hR
  · rename_i h4
    have e0 := yev_cn v 4
    rw [yeq_ok h4] at hy
    rw [ycn] at e0
    rw [e0] at hy
    have hq : q = 4 := Int32.toInt_inj.mp (by rw [← Option.some.inj hy]; rfl)
    subst hq
    obtain ⟨c, hc⟩ := y_shl p
    have hlo := (p <<< ((4 : Int32) &&& 31)).le_toInt
    have hhi := (p <<< ((4 : Int32) &&& 31)).toInt_lt
    have hlo : -2147483648 ≤ (p <<< ((4 : Int32) &&& 31)).toInt := by simpa using hlo
    have hsc := ysc_ok (c := 16) hx
    rw [yfE_eq] at h
    split at h
    · rename_i hin
      obtain ⟨g1, g2⟩ := yin_ok hR.2.1 hin hsc
      refine yG_now h hR ⟨_, rfl, ?_⟩
      rw [hsc]
      congr 1
      show 16 * p.toInt = (p <<< ((4 : Int32) &&& 31)).toInt
      omega
    · obtain ⟨st1, g1, g2, g3, g4⟩ := yfr_ok (z := (p <<< ((4 : Int32) &&& 31)).toInt / 16) h hR (by omega) (by omega)
      refine ⟨_, _, st1, g1, g2, ⟨_, rfl, ?_⟩, g4⟩
      have e1 : yev (v ++ [(p <<< ((4 : Int32) &&& 31)).toInt / 16]) ([(v.length, 16)], 0) = some (16 * ((p <<< ((4 : Int32) &&& 31)).toInt / 16)) := by simp [yev, yevT]
      rw [e1]
      congr 1
      show _ = (p <<< ((4 : Int32) &&& 31)).toInt
      omega
theorem y_shr (x : Int32) : (x >>> ((4 : Int32) &&& 31)).toInt = x.toInt / 16 := by
  have e4 : ((4 : Int32) &&& 31) = 4 := by decide
  rw [e4]
  have ex : x.toInt = x.toBitVec.toInt := rfl
  have eo : (x >>> (4 : Int32)).toInt = (x >>> (4 : Int32)).toBitVec.toInt := rfl
  have eb : (x >>> (4 : Int32)).toBitVec = x.toBitVec.sshiftRight 4 := rfl
  rw [eo, eb, ex, BitVec.toInt_sshiftRight, Int.shiftRight_eq_div_pow]
  rfl
theorem yshr_ok : yOp b sz sr yshr (fun x y => x >>> (y &&& 31)) := by
  intro v x y st k p q h hR hx hy
  unfold yshr at h
  split at h
  · exact ytp_ok h hR
  · rename_i h4
    have e0 := yev_cn v 4
    rw [yeq_ok h4] at hy
    rw [ycn] at e0
    rw [e0] at hy
    have hq : q = 4 := Int32.toInt_inj.mp (by rw [← Option.some.inj hy]; rfl)
    subst hq
    have e := y_shr p
    have hlo := p.le_toInt
    have hhi := p.toInt_lt
    have hlo : -2147483648 ≤ p.toInt := by simpa using hlo
    split at h
    · rename_i hin
      rw [yfE_eq] at h
      obtain ⟨a, r, h1, h2, h3⟩ := ysp_ok (m := 16) (by omega) hx
      obtain ⟨g1, g2⟩ := yin_ok hR.2.1 hin h2
      exact yG_now h hR ⟨_, rfl, by rw [h1]; congr 1; show a = (p >>> ((4 : Int32) &&& 31)).toInt; rw [e]; omega⟩
    · exact yGi_fr h hR (by rw [e]; omega) (by rw [e]; omega)
theorem yanyZ_ok {e : yE} {z : Int} (h : yanyZ st e = true) (hR : yRS v st) (hz : yev v e = some z) : z ≠ 0 := by
  obtain ⟨-, -, -, h4⟩ := hR
  unfold yanyZ at h
  generalize st.2.2.2.1 = Z at h h4
  induction Z with
  | nil => cases h
  | cons f t ih =>
    have h : (yeq f e || List.rec (motive := fun _ => Bool) false (fun f _ ih => yeq f e || ih) t) = true := h
    rw [Bool.or_eq_true] at h
    rcases h with h | h
    · obtain ⟨y, g1, g2⟩ := h4 f List.mem_cons_self
      rw [yeq_ok h, hz] at g1
      cases g1
      exact g2
    · exact ih h fun q hq => h4 q (List.mem_cons_of_mem _ hq)
theorem ynz_ok {e : yE} {z : Int} (h : ynz st e = true) (hR : yRS v st) (hz : yev v e = some z) : z ≠ 0 := by
  unfold ynz at h
  simp only [Bool.or_eq_true] at h
  rcases h with h | h | h
  · have := ylS_ok h hR (yoff_ok hz); omega
  · have := ylS_ok h hR (yoff_ok (y_neg hz)); omega
  · exact yanyZ_ok h hR hz
theorem ydiv_ok (f : Int32 → Int32 → Int32) {x y : yE} {k : yK} {p q : Int32} (h : ydiv x y st k = true) (hR : yRS v st) (hx : yev v x = some p.toInt) (hy : yev v y = some q.toInt) : q ≠ 0 ∧ yG b sz sr v st k (.int (f p q)) := by
  unfold ydiv at h
  rw [Bool.and_eq_true] at h
  exact ⟨fun w => ynz_ok h.1 hR hy (by rw [w]; rfl), ytp_ok h.2 hR⟩
theorem y_i2b (x : Int32) : -128 ≤ x.toInt8.toInt32.toInt ∧ x.toInt8.toInt32.toInt ≤ 127 ∧ (-128 ≤ x.toInt → x.toInt ≤ 127 → x.toInt8.toInt32.toInt = x.toInt) := by
  have h1 := x.toInt8.le_toInt
  have h2 := x.toInt8.toInt_lt
  have e : x.toInt8.toInt32.toInt = x.toInt8.toInt := Int8.toInt_toInt32 _
  have e2 : x.toInt8.toInt = x.toInt.bmod (2 ^ 8) := Int32.toInt_toInt8 _
  rw [e]
  refine ⟨by simpa using h1, by omega, fun a b => ?_⟩
  rw [e2, Int.bmod_def]
  simp only [Nat.reducePow]
  split <;> omega
theorem yi2b_ok {x : yE} {k : yK} {p : Int32} (h : yi2b x st k = true) (hR : yRS v st) (hx : yev v x = some p.toInt) : yG b sz sr v st k (.int p.toInt8.toInt32) := by
  obtain ⟨a1, a2, a3⟩ := y_i2b p
  unfold yi2b at h
  split at h
  · rename_i hin
    obtain ⟨g1, g2⟩ := yin_ok hR.2.1 hin hx
    exact yG_now h hR ⟨_, rfl, by rw [a3 g1 g2]; exact hx⟩
  · exact yGi_fr h hR a1 a2
theorem ycs_ok {p n : yE} {x y : Int} {kt kf : yS → Bool} {X : Prop} (h : ycs p n st kt kf = true) (hR : yRS v st) (hp : yev v p = some x) (hn : yev v n = some y) (h1 : X ↔ x ≤ 0) (h2 : ¬ X ↔ y ≤ 0) : (X → yGs v st kt) ∧ (¬ X → yGs v st kf) := by
  unfold ycs at h
  simp only [yfE_eq] at h
  split at h
  · rename_i c
    have := ylS_ok c hR hn
    exact ⟨fun w => absurd w (h2.mpr this), fun _ => yGs_now h hR⟩
  · split at h
    · rename_i c
      have := ylS_ok c hR hp
      exact ⟨fun _ => yGs_now h hR, fun w => absurd (h1.mpr this) w⟩
    · rw [Bool.and_eq_true] at h
      exact ⟨fun w => yasS_gs h.1 hR hp (h1.mp w), fun w => yasS_gs h.2 hR hn (h2.mp w)⟩
theorem yeqb_ok {e : yE} {z : Int} {kt kf : yS → Bool} (h : yeqb e st kt kf = true) (hR : yRS v st) (hz : yev v e = some z) : (z = 0 → yGs v st kt) ∧ (¬ z = 0 → yGs v st kf) := by
  have hn := y_neg hz
  unfold yeqb at h
  simp only [yfE_eq] at h
  have nz : (yanyZ st e || yanyZ st (ysu ([], 0) e)) = true → z ≠ 0 := by
    intro c
    rw [Bool.or_eq_true] at c
    rcases c with c | c
    · exact yanyZ_ok c hR hz
    · have := yanyZ_ok c hR hn; omega
  split at h
  · rename_i c1
    have z1 := ylS_ok c1 hR hz
    split at h
    · rename_i c2
      have z2 := ylS_ok c2 hR hn
      exact ⟨fun _ => yGs_now h hR, fun w => absurd (show z = 0 by omega) w⟩
    · split at h
      · rename_i c3
        have z3 : z ≠ 0 := by
          rw [Bool.or_eq_true] at c3
          rcases c3 with c3 | c3
          · have := ylS_ok c3 hR (yoff_ok hz); omega
          · exact nz c3
        exact ⟨fun w => absurd w z3, fun _ => yGs_now h hR⟩
      · rw [Bool.and_eq_true] at h
        exact ⟨fun w => yasS_gs h.1 hR hn (by omega), fun w => yasS_gs h.2 hR (yoff_ok hz) (by omega)⟩
  · split at h
    · rename_i c2
      have z2 := ylS_ok c2 hR hn
      split at h
      · rename_i c3
        have z3 : z ≠ 0 := by
          rw [Bool.or_eq_true] at c3
          rcases c3 with c3 | c3
          · have := ylS_ok c3 hR (yoff_ok hn); omega
          · exact nz c3
        exact ⟨fun w => absurd w z3, fun _ => yGs_now h hR⟩
      · rw [Bool.and_eq_true] at h
        exact ⟨fun w => yasS_gs h.1 hR hz (by omega), fun w => yasS_gs h.2 hR (yoff_ok hn) (by omega)⟩
    · split at h
      · rename_i c3
        exact ⟨fun w => absurd w (nz c3), fun _ => yGs_now h hR⟩
      · rw [Bool.and_eq_true] at h
        refine ⟨fun w => yasS_gs2 h.1 hR hz (by omega) hn (by omega), fun w => ?_⟩
        obtain ⟨nx, B, F, Z, r⟩ := st
        obtain ⟨a1, a2, a3, a4⟩ := hR
        exact ⟨[], _, h.2, by rw [List.append_nil]; exact ⟨a1, a2, a3, yRZ_cons a4 hz w⟩, rfl⟩
/-- what a condition says of an int and 0 -/
def yholds (c : ClassFile.Cond) (z : Int) : Prop := match c with
  | .eq => z = 0
  | .ne => ¬ z = 0
  | .lt => z < 0
  | .ge => 0 ≤ z
  | .gt => 0 < z
  | .le => z ≤ 0
theorem ybr_ok {c : ClassFile.Cond} {e : yE} {z : Int} {kt kf : yS → Bool} (h : ybr c e st kt kf = true) (hR : yRS v st) (hz : yev v e = some z) : (yholds c z → yGs v st kt) ∧ (¬ yholds c z → yGs v st kf) := by
  unfold ybr at h
  rw [yfE_eq] at h
  have hn := y_neg hz
  cases c <;> simp only [yholds]
  · exact yeqb_ok h hR hz
  · obtain ⟨g1, g2⟩ := yeqb_ok h hR hz
    exact ⟨fun w => g2 w, fun w => g1 (by omega)⟩
  · exact ycs_ok h hR (yoff_ok hz) hn (by omega) (by omega)
  · exact ycs_ok h hR hn (yoff_ok hz) (by omega) (by omega)
  · exact ycs_ok h hR (yoff_ok hn) hz (by omega) (by omega)
  · exact ycs_ok h hR hz (yoff_ok hn) (by omega) (by omega)
end yRel
