/-! The class reads a text as it is told. -/
section cReads
variable {oo : xC} {g : Nat → Int} {N d c r cl : Nat} {C F : xC} {s : tS}
theorem ct_fill_counts (hd : 1 ≤ d) {r0 : Nat} : ∃ F, xM d 272 [.inr (.inr (.inl (r0, 3))), .inl 0] C = some (0, F) ∧ (∀ j, j < 5 → F r0 j = 0) ∧ (∀ i j, i ≠ r0 → F i j = C i j) := by
  obtain ⟨d, rfl⟩ := Nat.exists_eq_add_of_le' hd
  rw [xm_J7_fill_53178_counts]
  have key : ∀ (m k : Nat) (E : xC), k + m = 5 → (∀ j, j < k → E r0 j = 0) → (∀ i j, i ≠ r0 → E i j = C i j) → ∃ F, xw_J7_fill_53178_counts d (5, [some (.inr (.inr (.inl (r0, 3)))), some (.inl 0), some (.inl (k : Int)), some (.inl 5)], [], E) = some (0, F) ∧ (∀ j, j < 5 → F r0 j = 0) ∧ (∀ i j, i ≠ r0 → F i j = C i j) := by
    intro m
    induction m with
    | zero =>
      intro k E hk h1 h2
      refine ⟨E, ?_, fun j hj => h1 j (by omega), h2⟩
      rw [xl_J7_fill_53178_counts_5]
      simp only [Bool.cond_decide]
      rw [if_pos (by omega)]
    | succ m ih =>
      intro k E hk h1 h2
      rw [xl_J7_fill_53178_counts_5, xixn (n := 5) (show k < 5 by omega)]
      simp only [Bool.cond_decide, xna, Bool.and_true, cond_true]
      rw [if_neg (by omega), w32_s (by omega), Int.toNat_natCast]
      refine ih (k + 1) (xst E r0 k 0) (by omega) (fun j hj => ?_) (fun i j hi => ?_)
      · by_cases hjk : j = k
        · rw [hjk, xst_at]
        · rw [xst_nn (by omega)]; exact h1 j (by omega)
      · rw [xst_nn (by omega)]; exact h2 i j hi
  exact key 5 0 C (by omega) (fun j hj => by omega) (fun i j _ => rfl)
theorem ct_fill_first (hd : 1 ≤ d) {r0 : Nat} : ∃ F, xM d 272 [.inr (.inr (.inl (r0, 4))), .inl 0] C = some (0, F) ∧ (∀ j, j < 6 → F r0 j = 0) ∧ (∀ i j, i ≠ r0 → F i j = C i j) := by
  obtain ⟨d, rfl⟩ := Nat.exists_eq_add_of_le' hd
  rw [xm_J7_fill_53178_first]
  have key : ∀ (m k : Nat) (E : xC), k + m = 6 → (∀ j, j < k → E r0 j = 0) → (∀ i j, i ≠ r0 → E i j = C i j) → ∃ F, xw_J7_fill_53178_first d (5, [some (.inr (.inr (.inl (r0, 4)))), some (.inl 0), some (.inl (k : Int)), some (.inl 6)], [], E) = some (0, F) ∧ (∀ j, j < 6 → F r0 j = 0) ∧ (∀ i j, i ≠ r0 → F i j = C i j) := by
    intro m
    induction m with
    | zero =>
      intro k E hk h1 h2
      refine ⟨E, ?_, fun j hj => h1 j (by omega), h2⟩
      rw [xl_J7_fill_53178_first_5]
      simp only [Bool.cond_decide]
      rw [if_pos (by omega)]
    | succ m ih =>
      intro k E hk h1 h2
      rw [xl_J7_fill_53178_first_5, xixn (n := 6) (show k < 6 by omega)]
      simp only [Bool.cond_decide, xna, Bool.and_true, cond_true]
      rw [if_neg (by omega), w32_s (by omega), Int.toNat_natCast]
      refine ih (k + 1) (xst E r0 k 0) (by omega) (fun j hj => ?_) (fun i j hi => ?_)
      · by_cases hjk : j = k
        · rw [hjk, xst_at]
        · rw [xst_nn (by omega)]; exact h1 j (by omega)
      · rw [xst_nn (by omega)]; exact h2 i j hi
  exact key 6 0 C (by omega) (fun j hj => by omega) (fun i j _ => rfl)
theorem ct_fill_greatest (hd : 1 ≤ d) {r0 : Nat} : ∃ F, xM d 272 [.inr (.inr (.inl (r0, 5))), .inl 0] C = some (0, F) ∧ (∀ j, j < 6 → F r0 j = 0) ∧ (∀ i j, i ≠ r0 → F i j = C i j) := by
  obtain ⟨d, rfl⟩ := Nat.exists_eq_add_of_le' hd
  rw [xm_J7_fill_53178_greatest]
  have key : ∀ (m k : Nat) (E : xC), k + m = 6 → (∀ j, j < k → E r0 j = 0) → (∀ i j, i ≠ r0 → E i j = C i j) → ∃ F, xw_J7_fill_53178_greatest d (5, [some (.inr (.inr (.inl (r0, 5)))), some (.inl 0), some (.inl (k : Int)), some (.inl 6)], [], E) = some (0, F) ∧ (∀ j, j < 6 → F r0 j = 0) ∧ (∀ i j, i ≠ r0 → F i j = C i j) := by
    intro m
    induction m with
    | zero =>
      intro k E hk h1 h2
      refine ⟨E, ?_, fun j hj => h1 j (by omega), h2⟩
      rw [xl_J7_fill_53178_greatest_5]
      simp only [Bool.cond_decide]
      rw [if_pos (by omega)]
    | succ m ih =>
      intro k E hk h1 h2
      rw [xl_J7_fill_53178_greatest_5, xixn (n := 6) (show k < 6 by omega)]
      simp only [Bool.cond_decide, xna, Bool.and_true, cond_true]
      rw [if_neg (by omega), w32_s (by omega), Int.toNat_natCast]
      refine ih (k + 1) (xst E r0 k 0) (by omega) (fun j hj => ?_) (fun i j hi => ?_)
      · by_cases hjk : j = k
        · rw [hjk, xst_at]
        · rw [xst_nn (by omega)]; exact h1 j (by omega)
      · rw [xst_nn (by omega)]; exact h2 i j hi
  exact key 6 0 C (by omega) (fun j hj => by omega) (fun i j _ => rfl)
theorem ct_fill_feasts (hd : 1 ≤ d) {r0 : Nat} : ∃ F, xM d 272 [.inr (.inr (.inl (r0, 6))), .inl 0] C = some (0, F) ∧ (∀ j, j < 9 → F r0 j = 0) ∧ (∀ i j, i ≠ r0 → F i j = C i j) := by
  obtain ⟨d, rfl⟩ := Nat.exists_eq_add_of_le' hd
  rw [xm_J7_fill_53178_feasts]
  have key : ∀ (m k : Nat) (E : xC), k + m = 9 → (∀ j, j < k → E r0 j = 0) → (∀ i j, i ≠ r0 → E i j = C i j) → ∃ F, xw_J7_fill_53178_feasts d (5, [some (.inr (.inr (.inl (r0, 6)))), some (.inl 0), some (.inl (k : Int)), some (.inl 9)], [], E) = some (0, F) ∧ (∀ j, j < 9 → F r0 j = 0) ∧ (∀ i j, i ≠ r0 → F i j = C i j) := by
    intro m
    induction m with
    | zero =>
      intro k E hk h1 h2
      refine ⟨E, ?_, fun j hj => h1 j (by omega), h2⟩
      rw [xl_J7_fill_53178_feasts_5]
      simp only [Bool.cond_decide]
      rw [if_pos (by omega)]
    | succ m ih =>
      intro k E hk h1 h2
      rw [xl_J7_fill_53178_feasts_5, xixn (n := 9) (show k < 9 by omega)]
      simp only [Bool.cond_decide, xna, Bool.and_true, cond_true]
      rw [if_neg (by omega), w32_s (by omega), Int.toNat_natCast]
      refine ih (k + 1) (xst E r0 k 0) (by omega) (fun j hj => ?_) (fun i j hi => ?_)
      · by_cases hjk : j = k
        · rw [hjk, xst_at]
        · rw [xst_nn (by omega)]; exact h1 j (by omega)
      · rw [xst_nn (by omega)]; exact h2 i j hi
  exact key 9 0 C (by omega) (fun j hj => by omega) (fun i j _ => rfl)
theorem ct_fill_setCounts (hd : 1 ≤ d) {r0 : Nat} : ∃ F, xM d 272 [.inr (.inr (.inl (r0, 8))), .inl 0] C = some (0, F) ∧ (∀ j, j < 11 → F r0 j = 0) ∧ (∀ i j, i ≠ r0 → F i j = C i j) := by
  obtain ⟨d, rfl⟩ := Nat.exists_eq_add_of_le' hd
  rw [xm_J7_fill_53178_setCounts]
  have key : ∀ (m k : Nat) (E : xC), k + m = 11 → (∀ j, j < k → E r0 j = 0) → (∀ i j, i ≠ r0 → E i j = C i j) → ∃ F, xw_J7_fill_53178_setCounts d (5, [some (.inr (.inr (.inl (r0, 8)))), some (.inl 0), some (.inl (k : Int)), some (.inl 11)], [], E) = some (0, F) ∧ (∀ j, j < 11 → F r0 j = 0) ∧ (∀ i j, i ≠ r0 → F i j = C i j) := by
    intro m
    induction m with
    | zero =>
      intro k E hk h1 h2
      refine ⟨E, ?_, fun j hj => h1 j (by omega), h2⟩
      rw [xl_J7_fill_53178_setCounts_5]
      simp only [Bool.cond_decide]
      rw [if_pos (by omega)]
    | succ m ih =>
      intro k E hk h1 h2
      rw [xl_J7_fill_53178_setCounts_5, xixn (n := 11) (show k < 11 by omega)]
      simp only [Bool.cond_decide, xna, Bool.and_true, cond_true]
      rw [if_neg (by omega), w32_s (by omega), Int.toNat_natCast]
      refine ih (k + 1) (xst E r0 k 0) (by omega) (fun j hj => ?_) (fun i j hi => ?_)
      · by_cases hjk : j = k
        · rw [hjk, xst_at]
        · rw [xst_nn (by omega)]; exact h1 j (by omega)
      · rw [xst_nn (by omega)]; exact h2 i j hi
  exact key 11 0 C (by omega) (fun j hj => by omega) (fun i j _ => rfl)
theorem ct_fill_from (hd : 1 ≤ d) {r0 : Nat} : ∃ F, xM d 272 [.inr (.inr (.inl (r0, 10))), .inl 0] C = some (0, F) ∧ (∀ j, j < 65 → F r0 j = 0) ∧ (∀ i j, i ≠ r0 → F i j = C i j) := by
  obtain ⟨d, rfl⟩ := Nat.exists_eq_add_of_le' hd
  rw [xm_J7_fill_53178_from]
  have key : ∀ (m k : Nat) (E : xC), k + m = 65 → (∀ j, j < k → E r0 j = 0) → (∀ i j, i ≠ r0 → E i j = C i j) → ∃ F, xw_J7_fill_53178_from d (5, [some (.inr (.inr (.inl (r0, 10)))), some (.inl 0), some (.inl (k : Int)), some (.inl 65)], [], E) = some (0, F) ∧ (∀ j, j < 65 → F r0 j = 0) ∧ (∀ i j, i ≠ r0 → F i j = C i j) := by
    intro m
    induction m with
    | zero =>
      intro k E hk h1 h2
      refine ⟨E, ?_, fun j hj => h1 j (by omega), h2⟩
      rw [xl_J7_fill_53178_from_5]
      simp only [Bool.cond_decide]
      rw [if_pos (by omega)]
    | succ m ih =>
      intro k E hk h1 h2
      rw [xl_J7_fill_53178_from_5, xixn (n := 65) (show k < 65 by omega)]
      simp only [Bool.cond_decide, xna, Bool.and_true, cond_true]
      rw [if_neg (by omega), w32_s (by omega), Int.toNat_natCast]
      refine ih (k + 1) (xst E r0 k 0) (by omega) (fun j hj => ?_) (fun i j hi => ?_)
      · by_cases hjk : j = k
        · rw [hjk, xst_at]
        · rw [xst_nn (by omega)]; exact h1 j (by omega)
      · rw [xst_nn (by omega)]; exact h2 i j hi
  exact key 65 0 C (by omega) (fun j hj => by omega) (fun i j _ => rfl)
theorem ct_fill_to (hd : 1 ≤ d) {r0 : Nat} : ∃ F, xM d 272 [.inr (.inr (.inl (r0, 11))), .inl 0] C = some (0, F) ∧ (∀ j, j < 65 → F r0 j = 0) ∧ (∀ i j, i ≠ r0 → F i j = C i j) := by
  obtain ⟨d, rfl⟩ := Nat.exists_eq_add_of_le' hd
  rw [xm_J7_fill_53178_to]
  have key : ∀ (m k : Nat) (E : xC), k + m = 65 → (∀ j, j < k → E r0 j = 0) → (∀ i j, i ≠ r0 → E i j = C i j) → ∃ F, xw_J7_fill_53178_to d (5, [some (.inr (.inr (.inl (r0, 11)))), some (.inl 0), some (.inl (k : Int)), some (.inl 65)], [], E) = some (0, F) ∧ (∀ j, j < 65 → F r0 j = 0) ∧ (∀ i j, i ≠ r0 → F i j = C i j) := by
    intro m
    induction m with
    | zero =>
      intro k E hk h1 h2
      refine ⟨E, ?_, fun j hj => h1 j (by omega), h2⟩
      rw [xl_J7_fill_53178_to_5]
      simp only [Bool.cond_decide]
      rw [if_pos (by omega)]
    | succ m ih =>
      intro k E hk h1 h2
      rw [xl_J7_fill_53178_to_5, xixn (n := 65) (show k < 65 by omega)]
      simp only [Bool.cond_decide, xna, Bool.and_true, cond_true]
      rw [if_neg (by omega), w32_s (by omega), Int.toNat_natCast]
      refine ih (k + 1) (xst E r0 k 0) (by omega) (fun j hj => ?_) (fun i j hi => ?_)
      · by_cases hjk : j = k
        · rw [hjk, xst_at]
        · rw [xst_nn (by omega)]; exact h1 j (by omega)
      · rw [xst_nn (by omega)]; exact h2 i j hi
  exact key 65 0 C (by omega) (fun j hj => by omega) (fun i j _ => rfl)
def cSE (r i j : Nat) : Bool := decide ((i = r ∧ j < 4) ∨ (r + 1 ≤ i ∧ i ≤ r + 9))
theorem ct_empty (hd : 2 ≤ d) (hrow : ∀ k, k < 10 → C r (4 + k) = ((r + 1 + k : Nat) : Int)) :
    ∃ F, xM d 18 [.inr (.inr (.inl (r, 2)))] C = some (0, F) ∧ (F r 0 = 7 ∧ F r 1 = 4 ∧ F r 2 = 0 ∧ F r 3 = 0) ∧ (∀ j, j < 5 → F (r + 1) j = 0) ∧ (∀ j, j < 65 → F (r + 8) j = 0 ∧ F (r + 9) j = 0) ∧ ((∀ j, j < 6 → F (r + 2) j = 0 ∧ F (r + 3) j = 0) ∧ (∀ j, j < 9 → F (r + 4) j = 0) ∧ (∀ j, j < 11 → F (r + 6) j = 0)) ∧ xSm (cSE r) C F := by
  obtain ⟨d, rfl⟩ := Nat.exists_eq_add_of_le' (show 1 ≤ d by omega)
  rw [xm_X3_empty]
  have h0 : ∀ i j, (i ≠ r ∨ 4 ≤ j) → (xst (xst (xst (xst C r 0 7) r 1 4) r 2 0) r 3 0) i j = C i j := fun i j h => by rw [xst_nn (by omega), xst_nn (by omega), xst_nn (by omega), xst_nn (by omega)]
  have v0 : (xst (xst (xst (xst C r 0 7) r 1 4) r 2 0) r 3 0) r 0 = 7 := by rw [xst_nn (by omega), xst_nn (by omega), xst_nn (by omega), xst_at]
  have v1 : (xst (xst (xst (xst C r 0 7) r 1 4) r 2 0) r 3 0) r 1 = 4 := by rw [xst_nn (by omega), xst_nn (by omega), xst_at]
  have v2 : (xst (xst (xst (xst C r 0 7) r 1 4) r 2 0) r 3 0) r 2 = 0 := by rw [xst_nn (by omega), xst_at]
  have v3 : (xst (xst (xst (xst C r 0 7) r 1 4) r 2 0) r 3 0) r 3 = 0 := xst_at
  generalize (xst (xst (xst (xst C r 0 7) r 1 4) r 2 0) r 3 0) = E0 at *
  have e0 : (E0 r 4).toNat = r + 1 := by rw [h0 r 4 (by omega), hrow 0 (by decide)]; rfl
  obtain ⟨F1, k1, z1, f1⟩ := ct_fill_counts (d := d) (r0 := r + 1) (C := E0) (by omega)
  rw [e0, k1]
  simp only [Option.bind_some]
  have e1 : (F1 r 5).toNat = r + 2 := by rw [f1 r 5 (by omega), h0 r 5 (by omega), hrow 1 (by decide)]; rfl
  obtain ⟨F2, k2, z2, f2⟩ := ct_fill_first (d := d) (r0 := r + 2) (C := F1) (by omega)
  rw [e1, k2]
  simp only [Option.bind_some]
  have e2 : (F2 r 6).toNat = r + 3 := by rw [f2 r 6 (by omega), f1 r 6 (by omega), h0 r 6 (by omega), hrow 2 (by decide)]; rfl
  obtain ⟨F3, k3, z3, f3⟩ := ct_fill_greatest (d := d) (r0 := r + 3) (C := F2) (by omega)
  rw [e2, k3]
  simp only [Option.bind_some]
  have e3 : (F3 r 7).toNat = r + 4 := by rw [f3 r 7 (by omega), f2 r 7 (by omega), f1 r 7 (by omega), h0 r 7 (by omega), hrow 3 (by decide)]; rfl
  obtain ⟨F4, k4, z4, f4⟩ := ct_fill_feasts (d := d) (r0 := r + 4) (C := F3) (by omega)
  rw [e3, k4]
  simp only [Option.bind_some]
  have e4 : (F4 r 9).toNat = r + 6 := by rw [f4 r 9 (by omega), f3 r 9 (by omega), f2 r 9 (by omega), f1 r 9 (by omega), h0 r 9 (by omega), hrow 5 (by decide)]; rfl
  obtain ⟨F5, k5, z5, f5⟩ := ct_fill_setCounts (d := d) (r0 := r + 6) (C := F4) (by omega)
  rw [e4, k5]
  simp only [Option.bind_some]
  have e5 : (F5 r 11).toNat = r + 8 := by rw [f5 r 11 (by omega), f4 r 11 (by omega), f3 r 11 (by omega), f2 r 11 (by omega), f1 r 11 (by omega), h0 r 11 (by omega), hrow 7 (by decide)]; rfl
  obtain ⟨F6, k6, z6, f6⟩ := ct_fill_from (d := d) (r0 := r + 8) (C := F5) (by omega)
  rw [e5, k6]
  simp only [Option.bind_some]
  have e6 : (F6 r 12).toNat = r + 9 := by rw [f6 r 12 (by omega), f5 r 12 (by omega), f4 r 12 (by omega), f3 r 12 (by omega), f2 r 12 (by omega), f1 r 12 (by omega), h0 r 12 (by omega), hrow 8 (by decide)]; rfl
  obtain ⟨F7, k7, z7, f7⟩ := ct_fill_to (d := d) (r0 := r + 9) (C := F6) (by omega)
  rw [e6, k7]
  have fr : ∀ i j, i ≠ r + 1 → i ≠ r + 2 → i ≠ r + 3 → i ≠ r + 4 → i ≠ r + 6 → i ≠ r + 8 → i ≠ r + 9 → F7 i j = E0 i j := fun i j q1 q2 q3 q4 q5 q6 q7 => by
    rw [f7 i j q7, f6 i j q6, f5 i j q5, f4 i j q4, f3 i j q3, f2 i j q2, f1 i j q1]
  refine ⟨F7, rfl, ⟨?_, ?_, ?_, ?_⟩, fun j hj => ?_, fun j hj => ⟨?_, z7 j hj⟩, ⟨fun j hj => ⟨?_, ?_⟩, fun j hj => ?_, fun j hj => ?_⟩, fun i j hS => ?_⟩
  · rw [fr _ _ (by omega) (by omega) (by omega) (by omega) (by omega) (by omega) (by omega)]; exact v0
  · rw [fr _ _ (by omega) (by omega) (by omega) (by omega) (by omega) (by omega) (by omega)]; exact v1
  · rw [fr _ _ (by omega) (by omega) (by omega) (by omega) (by omega) (by omega) (by omega)]; exact v2
  · rw [fr _ _ (by omega) (by omega) (by omega) (by omega) (by omega) (by omega) (by omega)]; exact v3
  · rw [f7 _ _ (by omega), f6 _ _ (by omega), f5 _ _ (by omega), f4 _ _ (by omega), f3 _ _ (by omega), f2 _ _ (by omega)]; exact z1 j hj
  · rw [f7 _ _ (by omega)]; exact z6 j hj
  · rw [f7 _ _ (by omega), f6 _ _ (by omega), f5 _ _ (by omega), f4 _ _ (by omega), f3 _ _ (by omega)]; exact z2 j hj
  · rw [f7 _ _ (by omega), f6 _ _ (by omega), f5 _ _ (by omega), f4 _ _ (by omega)]; exact z3 j hj
  · rw [f7 _ _ (by omega), f6 _ _ (by omega), f5 _ _ (by omega)]; exact z4 j hj
  · rw [f7 _ _ (by omega), f6 _ _ (by omega)]; exact z5 j hj
  · simp only [cSE, decide_eq_false_iff_not] at hS
    rw [fr i j (by omega) (by omega) (by omega) (by omega) (by omega) (by omega) (by omega), h0 i j (by omega)]
/-- what comes of a line -/
def cO (oo : xC) (g : Nat → Int) (N c r : Nat) (q : tX tS) (F : xC) : Prop := match q with
  | .error x => cFl oo x F
  | .ok s => cLS oo g N c r s F
theorem cR_out {o : Option (Int × xC)} {q : tX tS} {k : xC → Option (Int × xC)} (h : cR oo (cLS oo g N c r) o q) : ∃ F, (o.bind fun q => k q.2) = k F ∧ cO oo g N c r q F := by
  cases q with
  | error x =>
    obtain ⟨F, k1, k2⟩ := h
    exact ⟨F, by rw [k1]; rfl, k2⟩
  | ok s =>
    obtain ⟨F, k1, k2⟩ := h
    exact ⟨F, by rw [k1]; rfl, k2⟩
theorem cR_err0 {A : Type} {P : A → xC → Prop} (hd : 1 ≤ d) (h : pSt oo g N c r C) {i : Nat} (ha : pAt g N c i C) {a : Int} (hpos : 0 < a) : cR oo P (xM d 50 [pR, .inl a] C) (tErr (tkK g N) (tkP g N) i a : tX A) := cp_refuse hd h ha hpos
theorem cl_line (hd : 114 ≤ d) (hN : N ≤ 1700) (h : cLS oo g N c r s C) (hk : tkK g N s.1 ≠ 24) {l : Nat} {n2 : Int} {r2 : Nat} (hl : l ≤ 1700) (hfl : s.2.2.2.2.1 0 = false ↔ l = 0) :
    ∃ F, xw_X5_reads d (41, [some pR, some (.inl n2), some (.inr (.inr (.inl (r2, 2)))), some (.inl (l : Int))], [], C) = xw_X5_reads d (223, [some pR, some (.inl n2), some (.inr (.inr (.inl (r2, 2)))), some (.inl (l : Int))], [], F) ∧ cO oo g N c r (sLine (tkK g N) (tkP g N) (tkV g N) s) F := by
  obtain ⟨cl, hz, hf⟩ := id h
  have hk4 : C 24 4 = tkK g N s.1 := hz.1.2.1.2.1
  have hk8 : C 24 8 = 0 := hz.1.2.1.2.2.2.2
  have hln : sLine (tkK g N) (tkP g N) (tkV g N) s = (sBody (tkK g N) (tkP g N) (tkV g N) s).bind (cEnd (tkK g N) (tkP g N) s) := rfl
  rw [xl_X5_reads_41, hk4, hk8, hln]
  simp only [Bool.cond_decide]
  rw [if_neg (show ¬ ((1700 : Int) < (l : Int)) by omega), if_neg (show ¬ ((0 : Int) ≠ 0) from fun q => q rfl), if_neg hk]
  have hz1 : pAt g N c s.1 C := hz.1.2.1
  have out : ∀ {o : Option (Int × xC)} {q : tX tS}, cR oo (cLS oo g N c r) o q → ∃ F, (o.bind fun q => xw_X5_reads d (223, [some pR, some (.inl n2), some (.inr (.inr (.inl (r2, 2)))), some (.inl (l : Int))], [], q.2)) = xw_X5_reads d (223, [some pR, some (.inl n2), some (.inr (.inr (.inl (r2, 2)))), some (.inl (l : Int))], [], F) ∧ cO oo g N c r q F := fun h => cR_out (k := fun F => xw_X5_reads d (223, [some pR, some (.inl n2), some (.inr (.inr (.inl (r2, 2)))), some (.inl (l : Int))], [], F)) h
  have hbad : (sBody (tkK g N) (tkP g N) (tkV g N) s = tErr (tkK g N) (tkP g N) s.1 2) → cR oo (cLS oo g N c r) (xM d 50 [pR, .inl 2] C) ((sBody (tkK g N) (tkP g N) (tkV g N) s).bind (cEnd (tkK g N) (tkP g N) s)) := fun q => by
    rw [q]
    exact cR_err0 (P := cLS oo g N c r) (d := d) (by omega) hz.1.1 hz1 (a := 2) (by decide)
  by_cases k0 : tkK g N s.1 = 0
  · rw [if_pos k0]
    by_cases hl0 : l = 0
    · rw [if_neg (by omega)]
      refine out ?_
      unfold sBody
      rw [if_pos ⟨k0, hfl.mpr hl0⟩]
      exact cl_week (by omega) h k0
    · rw [if_pos (by omega)]
      refine out ?_
      have hw : sBody (tkK g N) (tkP g N) (tkV g N) s = tErr (tkK g N) (tkP g N) s.1 2 := by
        unfold sBody
        rw [if_neg (fun q => hl0 (hfl.mp q.2)), if_neg (fun q => by have q1 := q.1; omega), if_neg (fun q => by have q1 := q.1; omega), if_neg (fun q => by have q1 := q.1; omega), if_neg (fun q => by have q1 := q.1; omega), if_neg (fun q => by have q1 := q.1; omega), if_neg (fun q => by have q1 := q.1; omega), if_neg (fun q => by have q1 := q.1; omega)]
      rw [hw]
      obtain ⟨e, rfl⟩ := Nat.exists_eq_add_of_le' (show 1 ≤ d by omega)
      rw [xm_X5_readWeek, Bool.cond_decide, if_neg (show ¬ ((0 : Int) ≠ 0) from fun q => q rfl)]
      exact cR_err (by omega) hz.1.1 hz1 (by decide)
  rw [if_neg k0]
  by_cases k1 : tkK g N s.1 = 1
  · rw [if_pos k1]
    refine out (hbad ?_)
    unfold sBody
    rw [if_neg (fun q => by have q1 := q.1; omega), if_neg (fun q => by have q1 := q.1; omega), if_neg (fun q => by have q1 := q.1; omega), if_neg (fun q => by have q1 := q.1; omega), if_neg (fun q => by have q1 := q.1; omega), if_neg (fun q => by have q1 := q.1; omega), if_neg (fun q => by have q1 := q.1; omega), if_neg (fun q => by have q1 := q.1; omega)]
  rw [if_neg k1]
  by_cases k2 : tkK g N s.1 = 2
  · rw [if_pos k2]
    refine out ?_
    by_cases hlt : (s.2.2.2.1 0).length < 6
    · have hb : sBody (tkK g N) (tkP g N) (tkV g N) s = sThing (tkK g N) (tkP g N) (tkV g N) s := by
        unfold sBody
        rw [if_neg (fun q => by have q1 := q.1; omega), if_pos ⟨k2, hlt⟩]
      rw [hb]
      exact cl_thing (by omega) h k2 hlt
    · have hb : sBody (tkK g N) (tkP g N) (tkV g N) s = tErr (tkK g N) (tkP g N) s.1 2 := by
        unfold sBody
        rw [if_neg (fun q => by have q1 := q.1; omega), if_neg (fun q => hlt q.2), if_neg (fun q => by have q1 := q.1; omega), if_neg (fun q => by have q1 := q.1; omega), if_neg (fun q => by have q1 := q.1; omega), if_neg (fun q => by have q1 := q.1; omega), if_neg (fun q => by have q1 := q.1; omega), if_neg (fun q => by have q1 := q.1; omega)]
      rw [hb]
      obtain ⟨e, rfl⟩ := Nat.exists_eq_add_of_le' (show 1 ≤ d by omega)
      rw [xm_X5_readThing]
      exact cl_full (z := (s.1, s.2.1, 0, s.2.2.2.2.2)) (t := 0) (by omega) hz (by decide) (by omega) (fun F => rfl)
  rw [if_neg k2]
  by_cases k3 : tkK g N s.1 = 3
  · rw [if_pos k3]
    refine out (hbad ?_)
    unfold sBody
    rw [if_neg (fun q => by have q1 := q.1; omega), if_neg (fun q => by have q1 := q.1; omega), if_neg (fun q => by have q1 := q.1; omega), if_neg (fun q => by have q1 := q.1; omega), if_neg (fun q => by have q1 := q.1; omega), if_neg (fun q => by have q1 := q.1; omega), if_neg (fun q => by have q1 := q.1; omega), if_neg (fun q => by have q1 := q.1; omega)]
  rw [if_neg k3]
  by_cases k4 : tkK g N s.1 = 4
  · rw [if_pos k4]
    refine out ?_
    by_cases hlt : (s.2.2.2.1 1).length < 5
    · have hb : sBody (tkK g N) (tkP g N) (tkV g N) s = sLaw (tkK g N) (tkP g N) (tkV g N) s := by
        unfold sBody
        rw [if_neg (fun q => by have q1 := q.1; omega), if_neg (fun q => by have q1 := q.1; omega), if_pos ⟨k4, hlt⟩]
      rw [hb]
      exact cl_law (by omega) hN h k4 hlt
    · have hb : sBody (tkK g N) (tkP g N) (tkV g N) s = tErr (tkK g N) (tkP g N) s.1 2 := by
        unfold sBody
        rw [if_neg (fun q => by have q1 := q.1; omega), if_neg (fun q => by have q1 := q.1; omega), if_neg (fun q => hlt q.2), if_neg (fun q => by have q1 := q.1; omega), if_neg (fun q => by have q1 := q.1; omega), if_neg (fun q => by have q1 := q.1; omega), if_neg (fun q => by have q1 := q.1; omega), if_neg (fun q => by have q1 := q.1; omega)]
      rw [hb]
      obtain ⟨e, rfl⟩ := Nat.exists_eq_add_of_le' (show 1 ≤ d by omega)
      rw [xm_X5_readLaw]
      exact cl_full (z := (s.1, s.2.1, 0, s.2.2.2.2.2)) (t := 1) (by omega) hz (by decide) (by omega) (fun F => rfl)
  rw [if_neg k4]
  by_cases k5 : tkK g N s.1 = 5
  · rw [if_pos k5]
    refine out (hbad ?_)
    unfold sBody
    rw [if_neg (fun q => by have q1 := q.1; omega), if_neg (fun q => by have q1 := q.1; omega), if_neg (fun q => by have q1 := q.1; omega), if_neg (fun q => by have q1 := q.1; omega), if_neg (fun q => by have q1 := q.1; omega), if_neg (fun q => by have q1 := q.1; omega), if_neg (fun q => by have q1 := q.1; omega), if_neg (fun q => by have q1 := q.1; omega)]
  rw [if_neg k5]
  by_cases k6 : tkK g N s.1 = 6
  · rw [if_pos k6]
    refine out (hbad ?_)
    unfold sBody
    rw [if_neg (fun q => by have q1 := q.1; omega), if_neg (fun q => by have q1 := q.1; omega), if_neg (fun q => by have q1 := q.1; omega), if_neg (fun q => by have q1 := q.1; omega), if_neg (fun q => by have q1 := q.1; omega), if_neg (fun q => by have q1 := q.1; omega), if_neg (fun q => by have q1 := q.1; omega), if_neg (fun q => by have q1 := q.1; omega)]
  rw [if_neg k6]
  by_cases k7 : tkK g N s.1 = 7
  · rw [if_pos k7]
    refine out (hbad ?_)
    unfold sBody
    rw [if_neg (fun q => by have q1 := q.1; omega), if_neg (fun q => by have q1 := q.1; omega), if_neg (fun q => by have q1 := q.1; omega), if_neg (fun q => by have q1 := q.1; omega), if_neg (fun q => by have q1 := q.1; omega), if_neg (fun q => by have q1 := q.1; omega), if_neg (fun q => by have q1 := q.1; omega), if_neg (fun q => by have q1 := q.1; omega)]
  rw [if_neg k7]
  by_cases k8 : tkK g N s.1 = 8
  · rw [if_pos k8]
    refine out (hbad ?_)
    unfold sBody
    rw [if_neg (fun q => by have q1 := q.1; omega), if_neg (fun q => by have q1 := q.1; omega), if_neg (fun q => by have q1 := q.1; omega), if_neg (fun q => by have q1 := q.1; omega), if_neg (fun q => by have q1 := q.1; omega), if_neg (fun q => by have q1 := q.1; omega), if_neg (fun q => by have q1 := q.1; omega), if_neg (fun q => by have q1 := q.1; omega)]
  rw [if_neg k8]
  by_cases k9 : tkK g N s.1 = 9
  · rw [if_pos k9]
    refine out ?_
    by_cases hlt : (s.2.2.2.1 2).length < 6
    · have hb : sBody (tkK g N) (tkP g N) (tkV g N) s = sDeed (tkK g N) (tkP g N) (tkV g N) s := by
        unfold sBody
        rw [if_neg (fun q => by have q1 := q.1; omega), if_neg (fun q => by have q1 := q.1; omega), if_neg (fun q => by have q1 := q.1; omega), if_pos ⟨k9, hlt⟩]
      rw [hb]
      exact cl_deed (by omega) hN h k9 hlt
    · have hb : sBody (tkK g N) (tkP g N) (tkV g N) s = tErr (tkK g N) (tkP g N) s.1 2 := by
        unfold sBody
        rw [if_neg (fun q => by have q1 := q.1; omega), if_neg (fun q => by have q1 := q.1; omega), if_neg (fun q => by have q1 := q.1; omega), if_neg (fun q => hlt q.2), if_neg (fun q => by have q1 := q.1; omega), if_neg (fun q => by have q1 := q.1; omega), if_neg (fun q => by have q1 := q.1; omega), if_neg (fun q => by have q1 := q.1; omega)]
      rw [hb]
      obtain ⟨e, rfl⟩ := Nat.exists_eq_add_of_le' (show 1 ≤ d by omega)
      rw [xm_X5_readDeed]
      exact cl_full (z := (s.1, s.2.1, 0, s.2.2.2.2.2)) (t := 2) (by omega) hz (by decide) (by omega) (fun F => rfl)
  rw [if_neg k9]
  by_cases k10 : tkK g N s.1 = 10
  · rw [if_pos k10]
    refine out ?_
    by_cases hlt : (s.2.2.2.1 3).length < 4
    · have hb : sBody (tkK g N) (tkP g N) (tkV g N) s = sBan (tkK g N) (tkP g N) (tkV g N) s := by
        unfold sBody
        rw [if_neg (fun q => by have q1 := q.1; omega), if_neg (fun q => by have q1 := q.1; omega), if_neg (fun q => by have q1 := q.1; omega), if_neg (fun q => by have q1 := q.1; omega), if_pos ⟨k10, hlt⟩]
      rw [hb]
      exact cl_ban (by omega) hN h k10 hlt
    · have hb : sBody (tkK g N) (tkP g N) (tkV g N) s = tErr (tkK g N) (tkP g N) s.1 2 := by
        unfold sBody
        rw [if_neg (fun q => by have q1 := q.1; omega), if_neg (fun q => by have q1 := q.1; omega), if_neg (fun q => by have q1 := q.1; omega), if_neg (fun q => by have q1 := q.1; omega), if_neg (fun q => hlt q.2), if_neg (fun q => by have q1 := q.1; omega), if_neg (fun q => by have q1 := q.1; omega), if_neg (fun q => by have q1 := q.1; omega)]
      rw [hb]
      obtain ⟨e, rfl⟩ := Nat.exists_eq_add_of_le' (show 1 ≤ d by omega)
      rw [xm_X5_readBan]
      exact cl_full (z := (s.1, s.2.1, 0, s.2.2.2.2.2)) (t := 3) (by omega) hz (by decide) (by omega) (fun F => rfl)
  rw [if_neg k10]
  by_cases k11 : tkK g N s.1 = 11
  · rw [if_pos k11]
    refine out ?_
    by_cases hfl2 : s.2.2.2.2.1 1 = false
    · have hb : sBody (tkK g N) (tkP g N) (tkV g N) s = sAim (tkK g N) (tkP g N) (tkV g N) 1 s := by
        unfold sBody
        rw [if_neg (fun q => by have q1 := q.1; omega), if_neg (fun q => by have q1 := q.1; omega), if_neg (fun q => by have q1 := q.1; omega), if_neg (fun q => by have q1 := q.1; omega), if_neg (fun q => by have q1 := q.1; omega), if_pos ⟨k11, hfl2⟩]
      rw [hb]
      exact cl_aim (f := 1) (by omega) hN h hk (by omega) hfl2
    · have hb : sBody (tkK g N) (tkP g N) (tkV g N) s = tErr (tkK g N) (tkP g N) s.1 2 := by
        unfold sBody
        rw [if_neg (fun q => by have q1 := q.1; omega), if_neg (fun q => by have q1 := q.1; omega), if_neg (fun q => by have q1 := q.1; omega), if_neg (fun q => by have q1 := q.1; omega), if_neg (fun q => by have q1 := q.1; omega), if_neg (fun q => hfl2 q.2), if_neg (fun q => by have q1 := q.1; omega), if_neg (fun q => by have q1 := q.1; omega)]
      rw [hb]
      exact cl_aim2 (f := 1) (by omega) h (by omega) hfl2
  rw [if_neg k11]
  by_cases k12 : tkK g N s.1 = 12
  · rw [if_pos k12]
    refine out ?_
    by_cases hfl2 : s.2.2.2.2.1 2 = false
    · have hb : sBody (tkK g N) (tkP g N) (tkV g N) s = sAim (tkK g N) (tkP g N) (tkV g N) 2 s := by
        unfold sBody
        rw [if_neg (fun q => by have q1 := q.1; omega), if_neg (fun q => by have q1 := q.1; omega), if_neg (fun q => by have q1 := q.1; omega), if_neg (fun q => by have q1 := q.1; omega), if_neg (fun q => by have q1 := q.1; omega), if_neg (fun q => by have q1 := q.1; omega), if_pos ⟨k12, hfl2⟩]
      rw [hb]
      exact cl_aim (f := 2) (by omega) hN h hk (by omega) hfl2
    · have hb : sBody (tkK g N) (tkP g N) (tkV g N) s = tErr (tkK g N) (tkP g N) s.1 2 := by
        unfold sBody
        rw [if_neg (fun q => by have q1 := q.1; omega), if_neg (fun q => by have q1 := q.1; omega), if_neg (fun q => by have q1 := q.1; omega), if_neg (fun q => by have q1 := q.1; omega), if_neg (fun q => by have q1 := q.1; omega), if_neg (fun q => by have q1 := q.1; omega), if_neg (fun q => hfl2 q.2), if_neg (fun q => by have q1 := q.1; omega)]
      rw [hb]
      exact cl_aim2 (f := 2) (by omega) h (by omega) hfl2
  rw [if_neg k12]
  by_cases k13 : tkK g N s.1 = 13
  · rw [if_pos k13]
    refine out ?_
    by_cases hlt : (s.2.2.2.1 4).length < 4
    · have hb : sBody (tkK g N) (tkP g N) (tkV g N) s = sGuild (tkK g N) (tkP g N) (tkV g N) s := by
        unfold sBody
        rw [if_neg (fun q => by have q1 := q.1; omega), if_neg (fun q => by have q1 := q.1; omega), if_neg (fun q => by have q1 := q.1; omega), if_neg (fun q => by have q1 := q.1; omega), if_neg (fun q => by have q1 := q.1; omega), if_neg (fun q => by have q1 := q.1; omega), if_neg (fun q => by have q1 := q.1; omega), if_pos ⟨k13, hlt⟩]
      rw [hb]
      exact cl_guild (by omega) hN h k13 hlt
    · have hb : sBody (tkK g N) (tkP g N) (tkV g N) s = tErr (tkK g N) (tkP g N) s.1 2 := by
        unfold sBody
        rw [if_neg (fun q => by have q1 := q.1; omega), if_neg (fun q => by have q1 := q.1; omega), if_neg (fun q => by have q1 := q.1; omega), if_neg (fun q => by have q1 := q.1; omega), if_neg (fun q => by have q1 := q.1; omega), if_neg (fun q => by have q1 := q.1; omega), if_neg (fun q => by have q1 := q.1; omega), if_neg (fun q => hlt q.2)]
      rw [hb]
      obtain ⟨e, rfl⟩ := Nat.exists_eq_add_of_le' (show 1 ≤ d by omega)
      rw [xm_X5_readGuild]
      exact cl_full (z := (s.1, s.2.1, 0, s.2.2.2.2.2)) (t := 4) (by omega) hz (by decide) (by omega) (fun F => rfl)
  rw [if_neg k13]
  refine out (hbad ?_)
  unfold sBody
  rw [if_neg (fun q => by have q1 := q.1; omega), if_neg (fun q => by have q1 := q.1; omega), if_neg (fun q => by have q1 := q.1; omega), if_neg (fun q => by have q1 := q.1; omega), if_neg (fun q => by have q1 := q.1; omega), if_neg (fun q => by have q1 := q.1; omega), if_neg (fun q => by have q1 := q.1; omega), if_neg (fun q => by have q1 := q.1; omega)]
theorem sLine_fl {k pl v : Nat → Int} {s s' : tS} (h : sLine k pl v s = .ok s') : s'.2.2.2.2.1 0 = true := by
  unfold sLine at h
  cases hq : sBody k pl v s with
  | error x => rw [hq] at h; cases h
  | ok q =>
    rw [hq] at h
    have h : ((zAcc k pl 59 q.1).bind fun z => (.ok (z.1, z.2.1, q.2.1, q.2.2.1, tTell s.2.2.2.2.1 q.2.2.2, z.2.2.2) : tX tS)) = .ok s' := h
    unfold zAcc at h
    split at h
    · cases h
      show tTell s.2.2.2.2.1 q.2.2.2 0 = true
      exact if_pos (Or.inl rfl)
    · cases h
theorem cl_lines (hd : 114 ≤ d) (hN : N ≤ 1700) {n2 : Int} {r2 : Nat} : ∀ (n l : Nat) (s : tS) (C : xC), l + n = 1701 → cLS oo g N c r s C → (s.2.2.2.2.1 0 = false ↔ l = 0) →
    ∃ (F : xC) (b : Int), xw_X5_reads d (41, [some pR, some (.inl n2), some (.inr (.inr (.inl (r2, 2)))), some (.inl (l : Int))], [], C) = some (b, F) ∧ (match sAll (tkK g N) (tkP g N) (tkV g N) n s with
      | .error x => b = 0 ∧ cFl oo x F
      | .ok s' => b = 1 ∧ cLS oo g N c r s' F) := by
  intro n
  induction n with
  | zero =>
    intro l s C hl h hfl
    have hk8 : C 24 8 = 0 := h.choose_spec.1.1.2.1.2.2.2.2
    refine ⟨C, 1, ?_, rfl, h⟩
    rw [xl_X5_reads_41]
    simp only [Bool.cond_decide]
    rw [if_pos (by omega), xl_X5_reads_229]
    simp only [Bool.cond_decide]
    rw [if_neg (fun q => q hk8)]
  | succ n ih =>
    intro l s C hl h hfl
    have hk4 : C 24 4 = tkK g N s.1 := h.choose_spec.1.1.2.1.2.1
    have hk8 : C 24 8 = 0 := h.choose_spec.1.1.2.1.2.2.2.2
    simp only [sAll]
    by_cases h24 : tkK g N s.1 = 24
    · rw [if_pos h24]
      refine ⟨C, 1, ?_, rfl, h⟩
      rw [xl_X5_reads_41]
      simp only [Bool.cond_decide]
      rw [if_neg (by omega), if_neg (fun q => q hk8), hk4, if_pos h24, xl_X5_reads_229]
      simp only [Bool.cond_decide]
      rw [if_neg (fun q => q hk8)]
    · rw [if_neg h24]
      obtain ⟨F, k1, k2⟩ := cl_line (n2 := n2) (r2 := r2) hd hN h h24 (l := l) (by omega) hfl
      rw [k1, xl_X5_reads_223, w32_s (by omega)]
      cases hq : sLine (tkK g N) (tkP g N) (tkV g N) s with
      | error x =>
        rw [hq] at k2
        obtain ⟨q1, q2, q3⟩ := k2
        have hne : F 24 8 ≠ 0 := by omega
        refine ⟨F, 0, ?_, rfl, q1, q2, q3⟩
        rw [xl_X5_reads_41]
        simp only [Bool.cond_decide]
        have h229 : xw_X5_reads d (229, [some pR, some (.inl n2), some (.inr (.inr (.inl (r2, 2)))), some (.inl ((l + 1 : Nat) : Int))], [], F) = some (0, F) := by
          rw [xl_X5_reads_229]
          simp only [Bool.cond_decide]
          rw [if_pos hne]
        rw [h229, if_pos hne]
        simp only [ite_self]
      | ok s1 =>
        rw [hq] at k2
        have hs1 := sLine_fl hq
        exact ih (l + 1) s1 F (by omega) k2 ⟨fun q => (by rw [hs1] at q; cases q), fun q => (by omega)⟩
/-- the first token -/
theorem cp_step0 (hd : 1 ≤ d) (h : pSt oo g N c r C) (h3 : C 24 3 = -1) (h8 : C 24 8 = 0) : ∃ F, xM d 49 [pR] C = some (0, F) ∧ pAt g N c 0 F ∧ xSm cS2 C F := by
  obtain ⟨d, rfl⟩ := Nat.exists_eq_add_of_le' hd
  obtain ⟨⟨a1, a2, a3, a4⟩, b, ⟨c1, c2⟩, ⟨e1, e2, e3⟩, f1, f2, f3, f4⟩ := h
  obtain ⟨q1, q2, q3⟩ := c2 0 (by omega)
  have e0 : (C 24 0).toNat = 26 := by rw [a1]; rfl
  have eix : xix (0 : Int) 1701 = true := rfl
  refine ⟨xst (xst (xst C 24 3 0) 24 4 (C 27 0)) 24 5 (C 29 0), ?_, ⟨?_, ?_, fun q => ?_, by omega, ?_⟩, xSm_st (xSm_st (xSm_st xSm_refl rfl) rfl) rfl⟩
  · have g3 : (xst C 24 3 0) 26 3 = 27 := by rw [xst_nn (by omega), e1]
    have g4 : (xst C 24 3 0) 27 0 = C 27 0 := by rw [xst_nn (by omega)]
    have g5 : (xst (xst C 24 3 0) 24 4 (C 27 0)) 24 0 = 26 := by rw [xst_nn (by omega), xst_nn (by omega), a1]
    have g6 : (xst (xst C 24 3 0) 24 4 (C 27 0)) 26 5 = 29 := by rw [xst_nn (by omega), xst_nn (by omega), e3]
    have g7 : (xst (xst C 24 3 0) 24 4 (C 27 0)) 29 0 = C 29 0 := by rw [xst_nn (by omega), xst_nn (by omega)]
    have g8 : (xst C 24 3 0) 24 0 = 26 := by rw [xst_nn (by omega), a1]
    have t26 : (26 : Int).toNat = 26 := rfl
    have t27 : (27 : Int).toNat = 27 := rfl
    have t29 : (29 : Int).toNat = 29 := rfl
    have t0 : (0 : Int).toNat = 0 := rfl
    have hc1 : ¬ (((c + 1 : Nat) : Int) ≤ 0) := by omega
    have w0 : w32 ((-1 : Int) + 1) = 0 := rfl
    rw [xm_X5_step, e0, h3, w0]
    simp only [c1, t0, eix, cond_true, Bool.cond_decide, g3, g4, g5, g6, g7, g8, t26, t27, t29, if_neg hc1]
  · rw [xst_nn (by omega), xst_nn (by omega), xst_at]; rfl
  · rw [xst_nn (by omega), xst_at, q1]
  · rw [xst_at, q3 q]
  · rw [xst_nn (by omega), xst_nn (by omega), xst_nn (by omega), h8]
/-- the class reads a text as it is told -/
theorem c_reads (hd : 115 ≤ d) (hN : N ≤ 1700) (h0 : C 26 0 = 1) (ht : C 26 3 = 27 ∧ C 26 4 = 28 ∧ C 26 5 = 29) (hg : ∀ j, j < N → C 1 j = g j) (hp : C 24 0 = 26 ∧ C 24 1 = 25) (hr : r = 2 ∨ r = 13) (hrow : ∀ k, k < 10 → C r (4 + k) = ((r + 1 + k : Nat) : Int)) :
    ∃ F, xM d 29 [pR, .inl (N : Int), .inr (.inr (.inl (r, 2)))] C = some (if (rdOut g N).1 = 0 then 1 else 0, F) ∧ F 24 8 = (rdOut g N).1 ∧ F 24 9 = (rdOut g N).2.1 ∧ ((rdOut g N).1 = 0 → F (r + 1) 0 = (rdOut g N).2.2 ∧ (rdOut g N).2.1 = -1) ∧ (∀ i j, 15 - r ≤ i → i ≤ 25 - r → F i j = C i j) ∧ ((rdOut g N).1 = 0 → ∃ s, sAll (tkK g N) (tkP g N) (tkV g N) 1701 tS0 = .ok s ∧ ∃ (oo : xC) (c : Nat), cLS oo g N c r s F) := by
  obtain ⟨d, rfl⟩ := Nat.exists_eq_add_of_le' (show 1 ≤ d by omega)
  have e0 : (C 24 0).toNat = 26 := by rw [hp.1]; rfl
  obtain ⟨F1, c, k1, k2, k3, k4, k5, k6, k7⟩ := ct_cut (d := d) (by omega) h0 ht hN hg
  have er : (Int.ofNat r).toNat = r := rfl
  rw [xm_X5_reads, e0, k1]
  simp only [Option.bind_some]
  rw [er]
  have g1 : ∀ i j, i ≠ 26 → i ≠ 27 → i ≠ 28 → i ≠ 29 → ¬ (i = 24 ∧ j = 2) → (xst F1 24 2 (Int.ofNat r)) i j = C i j := fun i j q1 q2 q3 q4 q5 => by rw [xst_nn q5, k6 i j q1 (by simp only [cS0, decide_eq_false_iff_not]; omega)]
  have g2 : ∀ i j, i ≠ 24 → (xst F1 24 2 (Int.ofNat r)) i j = F1 i j := fun i j q => xst_nn (by omega)
  have g3 : (xst F1 24 2 (Int.ofNat r)) 24 2 = (r : Int) := xst_at
  generalize (xst F1 24 2 (Int.ofNat r)) = E1 at *
  obtain ⟨F2, m1, ⟨m2, m3, m4, m5⟩, m6, m7, m8, m9⟩ := ct_empty (d := d) (r := r) (C := E1) (by omega) (fun k hk => by rw [g1 _ _ (by omega) (by omega) (by omega) (by omega) (by omega)]; exact hrow k hk)
  rw [m1]
  simp only [Option.bind_some]
  have g4 : ∀ i j, ¬ (i = r ∧ j < 4) → ¬ (r + 1 ≤ i ∧ i ≤ r + 9) → ¬ (i = 24 ∧ (j = 3 ∨ j = 8 ∨ j = 9)) → (xst (xst (xst F2 24 8 0) 24 9 (-1)) 24 3 (-1)) i j = E1 i j := fun i j q1 q2 q3 => by
    rw [xst_nn (by omega), xst_nn (by omega), xst_nn (by omega), m9 i j (by simp only [cSE, decide_eq_false_iff_not]; omega)]
  have g5 : ∀ i j, i ≠ 24 → (xst (xst (xst F2 24 8 0) 24 9 (-1)) 24 3 (-1)) i j = F2 i j := fun i j q => by rw [xst_nn (by omega), xst_nn (by omega), xst_nn (by omega)]
  have g6 : (xst (xst (xst F2 24 8 0) 24 9 (-1)) 24 3 (-1)) 24 3 = -1 := xst_at
  have g7 : (xst (xst (xst F2 24 8 0) 24 9 (-1)) 24 3 (-1)) 24 8 = 0 := by rw [xst_nn (by omega), xst_nn (by omega), xst_at]
  have g8 : (xst (xst (xst F2 24 8 0) 24 9 (-1)) 24 3 (-1)) 24 9 = -1 := by rw [xst_nn (by omega), xst_at]
  generalize (xst (xst (xst F2 24 8 0) 24 9 (-1)) 24 3 (-1)) = E2 at *
  have hSt : pSt E1 g N c r E2 := by
    refine ⟨⟨?_, ?_, ?_, hr⟩, fun k hk => ?_, ⟨?_, fun i hi => ?_⟩, ⟨?_, ?_, ?_⟩, k3, k4, k5, g3, fun i j q1 q2 => ?_⟩
    · rw [g4 _ _ (by omega) (by omega) (by omega), g1 _ _ (by omega) (by omega) (by omega) (by omega) (by omega)]; exact hp.1
    · rw [g4 _ _ (by omega) (by omega) (by omega), g1 _ _ (by omega) (by omega) (by omega) (by omega) (by omega)]; exact hp.2
    · rw [g4 _ _ (by omega) (by omega) (by omega)]; exact g3
    · rw [g4 _ _ (by omega) (by omega) (by omega), g1 _ _ (by omega) (by omega) (by omega) (by omega) (by omega)]; exact hrow k hk
    · rw [g4 _ _ (by omega) (by omega) (by omega), g2 _ _ (by omega)]; exact k2.1
    · rw [g4 27 i (by omega) (by omega) (by omega), g4 28 i (by omega) (by omega) (by omega), g4 29 i (by omega) (by omega) (by omega), g2 27 i (by omega), g2 28 i (by omega), g2 29 i (by omega)]; exact k2.2 i hi
    · rw [g4 _ _ (by omega) (by omega) (by omega), g2 _ _ (by omega)]; exact k7.1
    · rw [g4 _ _ (by omega) (by omega) (by omega), g2 _ _ (by omega)]; exact k7.2.1
    · rw [g4 _ _ (by omega) (by omega) (by omega), g2 _ _ (by omega)]; exact k7.2.2
    · rw [g4 _ _ (by omega) (by omega) (by omega)]
  obtain ⟨F3, n1, n2, n3⟩ := cp_step0 (d := d) (by omega) hSt g6 g7
  rw [n1]
  simp only [Option.bind_some]
  have hLS : cLS E1 g N c r tS0 F3 := by
    have kk : ∀ i j, i ≠ 24 → F3 i j = F2 i j := fun i j q => by rw [n3 i j (by simp only [cS2, decide_eq_false_iff_not]; omega), g5 i j q]
    refine ⟨[], ⟨⟨pSt_2 hSt n3, n2, ⟨by rw [kk r 2 (by omega)]; exact m4, Int.le_refl _, (show (0 : Int) ≤ 150 by decide)⟩, ⟨by rw [kk r 3 (by omega)]; exact m5, ?_⟩, ⟨by rw [kk r 0 (by omega)]; exact m2, (show (0 : Int) ≤ 7 by decide), (show (7 : Int) ≤ 9 by decide)⟩, fun t ht => ⟨⟨by rw [kk (r + 1) t (by omega)]; exact m6 t ht, fun j x hx => by cases hx⟩, Nat.zero_le _⟩⟩, (fun j x hx => by cases hx), ⟨(fun w l _ hw => by cases hw), (fun x hx => ?_), (fun j x => ⟨fun hx => (by cases hx), fun hx => (by cases hx), fun hx => (by cases hx), fun hx => by cases hx⟩)⟩, (fun t _ => List.nodup_nil)⟩, by rw [n3 _ _ rfl]; exact g8, fun f hf => Or.inr ⟨rfl, ?_, ?_⟩⟩
    · have := (tkP_le (g := g) 0 hN).1
      show 3 * ((0 : Nat) : Int) ≤ 6 * 0 + tkP g N 0
      omega
    · have hx : (some (4 : Int)) = some x := hx
      cases hx
      rw [kk r 1 (by omega)]
      exact m3
    · rw [kk (r + 8) _ (by omega)]; exact (m7 _ (by omega)).1
    · rw [kk (r + 9) _ (by omega)]; exact (m7 _ (by omega)).2
  obtain ⟨F, b, j1, j2⟩ := cl_lines (d := d) (n2 := (N : Int)) (r2 := r) (by omega) hN 1701 0 tS0 F3 (by omega) hLS ⟨fun _ => rfl, fun _ => rfl⟩
  refine ⟨F, ?_⟩
  have j1 : xw_X5_reads d (41, [some pR, some (.inl (N : Int)), some (.inr (.inr (.inl (r, 2)))), some (.inl 0)], [], F3) = some (b, F) := j1
  rw [j1]
  unfold rdOut
  cases hs : sAll (tkK g N) (tkP g N) (tkV g N) 1701 tS0 with
  | error x =>
    rw [hs] at j2
    obtain ⟨a1, a2, a3, a4, a5⟩ := j2
    have hne : ¬ x.1 = 0 := by omega
    show some (b, F) = some (if x.1 = 0 then 1 else 0, F) ∧ F 24 8 = x.1 ∧ F 24 9 = x.2 ∧ (x.1 = 0 → _) ∧ _ ∧ _
    rw [if_neg hne, a1]
    refine ⟨rfl, a2, a3, fun q => absurd q hne, fun i j u1 u2 => ?_, fun q => absurd q hne⟩
    rcases a5 with ⟨w1, w2, w3, w4⟩ | ⟨w1, w2, w3, w4⟩
    · have : r = 2 := by omega
      subst this
      rw [w4 i j (by omega) (by omega), g1 _ _ (by omega) (by omega) (by omega) (by omega) (by omega)]
    · have : r = 13 := by omega
      subst this
      rw [w4 i j (by omega) (by omega), g1 _ _ (by omega) (by omega) (by omega) (by omega) (by omega)]
  | ok s =>
    rw [hs] at j2
    obtain ⟨a1, cl, a2, a3⟩ := j2
    show some (b, F) = some (if (0 : Int) = 0 then 1 else 0, F) ∧ F 24 8 = 0 ∧ F 24 9 = -1 ∧ ((0 : Int) = 0 → F (r + 1) 0 = ((s.2.2.2.1 0).length : Int) ∧ (-1 : Int) = -1) ∧ _ ∧ _
    rw [if_pos rfl, a1]
    exact ⟨rfl, a2.1.2.1.2.2.2.2, a3.1, fun _ => ⟨(a2.1.2.2.2.2.2 0 (by decide)).1.1, rfl⟩, fun i j u1 u2 => by rw [a2.1.1.2.2.2.2.2.2.2.2 i j u1 u2, g1 _ _ (by omega) (by omega) (by omega) (by omega) (by omega)], fun _ => ⟨s, rfl, E1, c, cl, a2, a3⟩⟩
end cReads
