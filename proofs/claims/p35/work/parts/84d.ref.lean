/-! The reference works formulas so, and lives hours. -/
section rVal
variable {T d : Nat} {C F : xC} {t : eT} {c : tC} {f : Nat → Int} {nL : Nat} {D : Int}
/-- the reference's scene -/
def rScn (T : Nat) (t : eT) (C : xC) : Prop := (C 74 15 = 81 ∧ C 74 16 = 82 ∧ C 74 17 = 83 ∧ C 74 18 = 84 ∧ C 74 20 = 86) ∧ (C 74 62 = 101 ∧ C 74 63 = 102 ∧ C 74 67 = -1 ∧ C 74 68 = 0) ∧ C 74 64 = t.2.1 ∧ C 74 65 = t.2.2 ∧ (∀ j, j < T → C 101 j = t.1 j) ∧ C 74 36 = 95 ∧ C 74 40 = 99 ∧ C 74 41 = 100
theorem rScn_86 (h : rScn T t C) (hs : ∀ i j, i ≠ 86 → F i j = C i j) : rScn T t F := by
  obtain ⟨⟨a1, a2, a3, a4, a5⟩, ⟨b1, b2, b3, b4⟩, h1, h2, h3, h4, h5, h6⟩ := h
  exact ⟨⟨by rw [hs _ _ (by omega), a1], by rw [hs _ _ (by omega), a2], by rw [hs _ _ (by omega), a3], by rw [hs _ _ (by omega), a4], by rw [hs _ _ (by omega), a5]⟩, ⟨by rw [hs _ _ (by omega), b1], by rw [hs _ _ (by omega), b2], by rw [hs _ _ (by omega), b3], by rw [hs _ _ (by omega), b4]⟩, by rw [hs _ _ (by omega), h1], by rw [hs _ _ (by omega), h2], fun j hj => by rw [hs _ _ (by omega), h3 j hj], by rw [hs _ _ (by omega), h4], by rw [hs _ _ (by omega), h5], by rw [hs _ _ (by omega), h6]⟩
theorem rv_t0 : xM (d + 1) 180 [.inl 0] C = some (0, C) := by
  rw [xm_X12_truth, Bool.cond_decide, if_pos rfl]
theorem rv_t1 : xM (d + 1) 180 [.inl 1] C = some (1, C) := by
  rw [xm_X12_truth, Bool.cond_decide, if_neg (by decide)]
theorem rv_ask (hS : rScn T t C) {a : Int} (h0 : 0 ≤ a) (h7 : a ≤ 7 ∧ (a < T ∨ 6 ≤ a)) : xM (d + 1) 182 [mR, .inl a] C = some (eA t a, C) := by
  obtain ⟨-, ⟨b1, b2, b3, b4⟩, h1, h2, h3, -⟩ := hS
  have e62 : (C 74 62).toNat = 101 := by rw [b1]; rfl
  rw [xm_X12_askOf, b4, h1, h2, e62]
  simp only [Bool.cond_decide]
  unfold eA
  by_cases h6 : a = 6
  · rw [if_neg (show ¬ (a ≠ 6) from fun q => q h6), if_pos trivial, if_pos h6]
  · rw [if_pos h6, if_neg h6]
    by_cases h77 : a = 7
    · rw [if_neg (show ¬ (a ≠ 7) from fun q => q h77), if_pos h77]
    · have x6 : xix a 6 = true := xixz.mpr ⟨h0, by omega⟩
      rw [if_pos h77, if_neg h77, x6, cond_true, h3 a.toNat (by omega)]
/-- a sign's work -/
theorem rv_done {s a b : Int} (hs : s = 124 ∨ s = 38 ∨ s = 37 ∨ s = 42 ∨ s = 43 ∨ s = 45 ∨ s = 47 ∨ s = 60 ∨ s = 61 ∨ s = 62) : xM (d + 2) 181 [.inl s, .inl a, .inl b] C = some (eD s a b, C) := by
  rw [xm_X12_done]
  simp only [Bool.cond_decide]
  unfold eD
  rcases hs with rfl | rfl | rfl | rfl | rfl | rfl | rfl | rfl | rfl | rfl
  · rw [if_neg (show ¬ ((124 : Int) = 37) by decide), if_neg (show ¬ ((124 : Int) = 38) by decide), if_neg (show ¬ ((124 : Int) = 39) by decide), if_neg (show ¬ ((124 : Int) = 40) by decide), if_neg (show ¬ ((124 : Int) = 41) by decide), if_neg (show ¬ ((124 : Int) = 42) by decide), if_neg (show ¬ ((124 : Int) = 43) by decide), if_neg (show ¬ ((124 : Int) = 44) by decide), if_neg (show ¬ ((124 : Int) = 45) by decide), if_neg (show ¬ ((124 : Int) = 46) by decide), if_neg (show ¬ ((124 : Int) = 47) by decide), if_neg (show ¬ ((124 : Int) = 48) by decide), if_neg (show ¬ ((124 : Int) = 49) by decide), if_neg (show ¬ ((124 : Int) = 50) by decide), if_neg (show ¬ ((124 : Int) = 51) by decide), if_neg (show ¬ ((124 : Int) = 52) by decide), if_neg (show ¬ ((124 : Int) = 53) by decide), if_neg (show ¬ ((124 : Int) = 54) by decide), if_neg (show ¬ ((124 : Int) = 55) by decide), if_neg (show ¬ ((124 : Int) = 56) by decide), if_neg (show ¬ ((124 : Int) = 57) by decide), if_neg (show ¬ ((124 : Int) = 58) by decide), if_neg (show ¬ ((124 : Int) = 59) by decide), if_neg (show ¬ ((124 : Int) = 60) by decide), if_neg (show ¬ ((124 : Int) = 61) by decide), if_neg (show ¬ ((124 : Int) = 62) by decide), xl_X12_done_215]
    simp only [Bool.cond_decide, rv_t0, rv_t1, Option.bind_some]
    rw [if_neg (show ¬ ((124 : Int) = 43) by decide), if_neg (show ¬ ((124 : Int) = 45) by decide), if_neg (show ¬ ((124 : Int) = 42) by decide), if_neg (show ¬ ((124 : Int) = 47) by decide), if_neg (show ¬ ((124 : Int) = 37) by decide), if_neg (show ¬ ((124 : Int) = 60) by decide), if_neg (show ¬ ((124 : Int) = 62) by decide), if_neg (show ¬ ((124 : Int) = 61) by decide), if_neg (show ¬ ((124 : Int) = 38) by decide)]
    by_cases za : a = 0
    · by_cases zb : b = 0
      · rw [if_neg (show ¬ (a ≠ 0) from fun q => q za), if_pos zb, if_neg (show ¬ (a ≠ 0 ∨ b ≠ 0) from fun q => q.elim (fun w => w za) fun w => w zb)]
      · rw [if_neg (show ¬ (a ≠ 0) from fun q => q za), if_neg zb, if_pos (show a ≠ 0 ∨ b ≠ 0 from Or.inr zb)]
    · rw [if_pos (show a ≠ 0 from za), if_pos (show a ≠ 0 ∨ b ≠ 0 from Or.inl za)]
  · rw [if_neg (show ¬ ((38 : Int) = 37) by decide), if_pos (show (38 : Int) = 38 from rfl), xl_X12_done_198]
    simp only [Bool.cond_decide, rv_t0, rv_t1, Option.bind_some]
    rw [if_neg (show ¬ ((38 : Int) = 43) by decide), if_neg (show ¬ ((38 : Int) = 45) by decide), if_neg (show ¬ ((38 : Int) = 42) by decide), if_neg (show ¬ ((38 : Int) = 47) by decide), if_neg (show ¬ ((38 : Int) = 37) by decide), if_neg (show ¬ ((38 : Int) = 60) by decide), if_neg (show ¬ ((38 : Int) = 62) by decide), if_neg (show ¬ ((38 : Int) = 61) by decide), if_pos trivial]
    by_cases za : a = 0
    · rw [if_pos za, if_neg (show ¬ (a ≠ 0 ∧ b ≠ 0) from fun q => q.1 za)]
    · by_cases zb : b = 0
      · rw [if_neg za, if_pos zb, if_neg (show ¬ (a ≠ 0 ∧ b ≠ 0) from fun q => q.2 zb)]
      · rw [if_neg za, if_neg zb, if_pos (show a ≠ 0 ∧ b ≠ 0 from ⟨za, zb⟩)]
  · rw [if_pos (show (37 : Int) = 37 from rfl), xl_X12_done_144]
    simp only [Bool.cond_decide, rv_t0, rv_t1, Option.bind_some]
    rw [if_neg (show ¬ ((37 : Int) = 43) by decide), if_neg (show ¬ ((37 : Int) = 45) by decide), if_neg (show ¬ ((37 : Int) = 42) by decide), if_neg (show ¬ ((37 : Int) = 47) by decide), if_pos trivial]
    by_cases zb : b = 0
    · rw [if_neg (show ¬ (b ≠ 0) from fun q => q zb), if_pos zb]
    · rw [if_pos (show b ≠ 0 from zb), if_neg zb, if_neg zb]
  · rw [if_neg (show ¬ ((42 : Int) = 37) by decide), if_neg (show ¬ ((42 : Int) = 38) by decide), if_neg (show ¬ ((42 : Int) = 39) by decide), if_neg (show ¬ ((42 : Int) = 40) by decide), if_neg (show ¬ ((42 : Int) = 41) by decide), if_pos (show (42 : Int) = 42 from rfl), xl_X12_done_128]
    simp only [Bool.cond_decide, rv_t0, rv_t1, Option.bind_some]
    rw [if_neg (show ¬ ((42 : Int) = 43) by decide), if_neg (show ¬ ((42 : Int) = 45) by decide), if_pos trivial]
  · rw [if_neg (show ¬ ((43 : Int) = 37) by decide), if_neg (show ¬ ((43 : Int) = 38) by decide), if_neg (show ¬ ((43 : Int) = 39) by decide), if_neg (show ¬ ((43 : Int) = 40) by decide), if_neg (show ¬ ((43 : Int) = 41) by decide), if_neg (show ¬ ((43 : Int) = 42) by decide), if_pos (show (43 : Int) = 43 from rfl), xl_X12_done_120]
    simp only [Bool.cond_decide, rv_t0, rv_t1, Option.bind_some]
    rw [if_pos trivial]
  · rw [if_neg (show ¬ ((45 : Int) = 37) by decide), if_neg (show ¬ ((45 : Int) = 38) by decide), if_neg (show ¬ ((45 : Int) = 39) by decide), if_neg (show ¬ ((45 : Int) = 40) by decide), if_neg (show ¬ ((45 : Int) = 41) by decide), if_neg (show ¬ ((45 : Int) = 42) by decide), if_neg (show ¬ ((45 : Int) = 43) by decide), if_neg (show ¬ ((45 : Int) = 44) by decide), if_pos (show (45 : Int) = 45 from rfl), xl_X12_done_124]
    simp only [Bool.cond_decide, rv_t0, rv_t1, Option.bind_some]
    rw [if_neg (show ¬ ((45 : Int) = 43) by decide), if_pos trivial]
  · rw [if_neg (show ¬ ((47 : Int) = 37) by decide), if_neg (show ¬ ((47 : Int) = 38) by decide), if_neg (show ¬ ((47 : Int) = 39) by decide), if_neg (show ¬ ((47 : Int) = 40) by decide), if_neg (show ¬ ((47 : Int) = 41) by decide), if_neg (show ¬ ((47 : Int) = 42) by decide), if_neg (show ¬ ((47 : Int) = 43) by decide), if_neg (show ¬ ((47 : Int) = 44) by decide), if_neg (show ¬ ((47 : Int) = 45) by decide), if_neg (show ¬ ((47 : Int) = 46) by decide), if_pos (show (47 : Int) = 47 from rfl), xl_X12_done_132]
    simp only [Bool.cond_decide, rv_t0, rv_t1, Option.bind_some]
    rw [if_neg (show ¬ ((47 : Int) = 43) by decide), if_neg (show ¬ ((47 : Int) = 45) by decide), if_neg (show ¬ ((47 : Int) = 42) by decide), if_pos trivial]
    by_cases zb : b = 0
    · rw [if_neg (show ¬ (b ≠ 0) from fun q => q zb), if_pos zb]
    · rw [if_pos (show b ≠ 0 from zb), if_neg zb, if_neg zb]
  · rw [if_neg (show ¬ ((60 : Int) = 37) by decide), if_neg (show ¬ ((60 : Int) = 38) by decide), if_neg (show ¬ ((60 : Int) = 39) by decide), if_neg (show ¬ ((60 : Int) = 40) by decide), if_neg (show ¬ ((60 : Int) = 41) by decide), if_neg (show ¬ ((60 : Int) = 42) by decide), if_neg (show ¬ ((60 : Int) = 43) by decide), if_neg (show ¬ ((60 : Int) = 44) by decide), if_neg (show ¬ ((60 : Int) = 45) by decide), if_neg (show ¬ ((60 : Int) = 46) by decide), if_neg (show ¬ ((60 : Int) = 47) by decide), if_neg (show ¬ ((60 : Int) = 48) by decide), if_neg (show ¬ ((60 : Int) = 49) by decide), if_neg (show ¬ ((60 : Int) = 50) by decide), if_neg (show ¬ ((60 : Int) = 51) by decide), if_neg (show ¬ ((60 : Int) = 52) by decide), if_neg (show ¬ ((60 : Int) = 53) by decide), if_neg (show ¬ ((60 : Int) = 54) by decide), if_neg (show ¬ ((60 : Int) = 55) by decide), if_neg (show ¬ ((60 : Int) = 56) by decide), if_neg (show ¬ ((60 : Int) = 57) by decide), if_neg (show ¬ ((60 : Int) = 58) by decide), if_neg (show ¬ ((60 : Int) = 59) by decide), if_pos (show (60 : Int) = 60 from rfl), xl_X12_done_156]
    simp only [Bool.cond_decide, rv_t0, rv_t1, Option.bind_some]
    rw [if_neg (show ¬ ((60 : Int) = 43) by decide), if_neg (show ¬ ((60 : Int) = 45) by decide), if_neg (show ¬ ((60 : Int) = 42) by decide), if_neg (show ¬ ((60 : Int) = 47) by decide), if_neg (show ¬ ((60 : Int) = 37) by decide), if_pos trivial]
    by_cases z : a < b
    · rw [if_neg (show ¬ (b ≤ a) by omega), if_pos z]
    · rw [if_pos (show b ≤ a by omega), if_neg z]
  · rw [if_neg (show ¬ ((61 : Int) = 37) by decide), if_neg (show ¬ ((61 : Int) = 38) by decide), if_neg (show ¬ ((61 : Int) = 39) by decide), if_neg (show ¬ ((61 : Int) = 40) by decide), if_neg (show ¬ ((61 : Int) = 41) by decide), if_neg (show ¬ ((61 : Int) = 42) by decide), if_neg (show ¬ ((61 : Int) = 43) by decide), if_neg (show ¬ ((61 : Int) = 44) by decide), if_neg (show ¬ ((61 : Int) = 45) by decide), if_neg (show ¬ ((61 : Int) = 46) by decide), if_neg (show ¬ ((61 : Int) = 47) by decide), if_neg (show ¬ ((61 : Int) = 48) by decide), if_neg (show ¬ ((61 : Int) = 49) by decide), if_neg (show ¬ ((61 : Int) = 50) by decide), if_neg (show ¬ ((61 : Int) = 51) by decide), if_neg (show ¬ ((61 : Int) = 52) by decide), if_neg (show ¬ ((61 : Int) = 53) by decide), if_neg (show ¬ ((61 : Int) = 54) by decide), if_neg (show ¬ ((61 : Int) = 55) by decide), if_neg (show ¬ ((61 : Int) = 56) by decide), if_neg (show ¬ ((61 : Int) = 57) by decide), if_neg (show ¬ ((61 : Int) = 58) by decide), if_neg (show ¬ ((61 : Int) = 59) by decide), if_neg (show ¬ ((61 : Int) = 60) by decide), if_pos (show (61 : Int) = 61 from rfl), xl_X12_done_184]
    simp only [Bool.cond_decide, rv_t0, rv_t1, Option.bind_some]
    rw [if_neg (show ¬ ((61 : Int) = 43) by decide), if_neg (show ¬ ((61 : Int) = 45) by decide), if_neg (show ¬ ((61 : Int) = 42) by decide), if_neg (show ¬ ((61 : Int) = 47) by decide), if_neg (show ¬ ((61 : Int) = 37) by decide), if_neg (show ¬ ((61 : Int) = 60) by decide), if_neg (show ¬ ((61 : Int) = 62) by decide), if_pos trivial]
    by_cases z : a = b
    · rw [if_neg (show ¬ (a ≠ b) from fun q => q z), if_pos z]
    · rw [if_pos (show a ≠ b from z), if_neg z]
  · rw [if_neg (show ¬ ((62 : Int) = 37) by decide), if_neg (show ¬ ((62 : Int) = 38) by decide), if_neg (show ¬ ((62 : Int) = 39) by decide), if_neg (show ¬ ((62 : Int) = 40) by decide), if_neg (show ¬ ((62 : Int) = 41) by decide), if_neg (show ¬ ((62 : Int) = 42) by decide), if_neg (show ¬ ((62 : Int) = 43) by decide), if_neg (show ¬ ((62 : Int) = 44) by decide), if_neg (show ¬ ((62 : Int) = 45) by decide), if_neg (show ¬ ((62 : Int) = 46) by decide), if_neg (show ¬ ((62 : Int) = 47) by decide), if_neg (show ¬ ((62 : Int) = 48) by decide), if_neg (show ¬ ((62 : Int) = 49) by decide), if_neg (show ¬ ((62 : Int) = 50) by decide), if_neg (show ¬ ((62 : Int) = 51) by decide), if_neg (show ¬ ((62 : Int) = 52) by decide), if_neg (show ¬ ((62 : Int) = 53) by decide), if_neg (show ¬ ((62 : Int) = 54) by decide), if_neg (show ¬ ((62 : Int) = 55) by decide), if_neg (show ¬ ((62 : Int) = 56) by decide), if_neg (show ¬ ((62 : Int) = 57) by decide), if_neg (show ¬ ((62 : Int) = 58) by decide), if_neg (show ¬ ((62 : Int) = 59) by decide), if_neg (show ¬ ((62 : Int) = 60) by decide), if_neg (show ¬ ((62 : Int) = 61) by decide), if_pos (show (62 : Int) = 62 from rfl), xl_X12_done_170]
    simp only [Bool.cond_decide, rv_t0, rv_t1, Option.bind_some]
    rw [if_neg (show ¬ ((62 : Int) = 43) by decide), if_neg (show ¬ ((62 : Int) = 45) by decide), if_neg (show ¬ ((62 : Int) = 42) by decide), if_neg (show ¬ ((62 : Int) = 47) by decide), if_neg (show ¬ ((62 : Int) = 37) by decide), if_neg (show ¬ ((62 : Int) = 60) by decide), if_pos trivial]
    by_cases z : b < a
    · rw [if_neg (show ¬ (a ≤ b) by omega), if_pos z]
    · rw [if_pos (show a ≤ b by omega), if_neg z]
/-- a formula that the reference's land has -/
def rFo (T w : Nat) (es : List tE) (C : xC) : Prop := ∃ b : Nat, C 83 w = (b : Int) ∧ C 84 w = (es.length : Int) ∧ b + es.length ≤ 2400 ∧ (∀ i x, es[i]? = some x → (C 81 (b + i) = x.1 ∧ C 82 (b + i) = x.2) ∧ eOk T x) ∧ rpOk 31 es 0 = some 1
/-- one step of a formula is worked -/
theorem rv_step (hS : rScn T t C) {e : tE} {k n b m w : Nat} {st : List Int} (he : eOk T e) (hc : C 81 k = e.1 ∧ C 82 k = e.2) (hw : w < 70) (hb : C 83 w = (b : Int)) (hm : C 84 w = (m : Int)) (hbm : b + m = n) (hk : k < n) (hn : n ≤ 2400) (hst : cStk 86 st C) (hl : (eS t e st).length ≤ 31) (hl0 : st.length ≤ 31) (hlow : (e.1 = 2 → 1 ≤ st.length) ∧ (e.1 = 3 → 2 ≤ st.length)) :
    ∃ F : xC, xw_X12_worked (d + 2) (9, [some mR, some (.inl (w : Int)), some (.inl (st.length : Int)), some (.inl (k : Int))], [], C) = xw_X12_worked (d + 2) (9, [some mR, some (.inl (w : Int)), some (.inl ((eS t e st).length : Int)), some (.inl ((k + 1 : Nat) : Int))], [], F) ∧ cStk 86 (eS t e st) F ∧ ∀ i j, i ≠ 86 → F i j = C i j := by
  have fin : ∀ (x : Int) (s0 : List Int), eS t e st = x :: s0 → cStk 86 s0 C → xw_X12_worked (d + 2) (9, [some mR, some (.inl (w : Int)), some (.inl (st.length : Int)), some (.inl (k : Int))], [], C) = xw_X12_worked (d + 2) (9, [some mR, some (.inl (w : Int)), some (.inl ((s0.length + 1 : Nat) : Int)), some (.inl ((k + 1 : Nat) : Int))], [], xst C 86 s0.length x) →
      ∃ F : xC, xw_X12_worked (d + 2) (9, [some mR, some (.inl (w : Int)), some (.inl (st.length : Int)), some (.inl (k : Int))], [], C) = xw_X12_worked (d + 2) (9, [some mR, some (.inl (w : Int)), some (.inl ((eS t e st).length : Int)), some (.inl ((k + 1 : Nat) : Int))], [], F) ∧ cStk 86 (eS t e st) F ∧ ∀ i j, i ≠ 86 → F i j = C i j := by
    intro x s0 hE hs0 hq
    rw [hE, List.length_cons]
    exact ⟨_, hq, cStk_put hs0, fun i j hi => xst_nn (by omega)⟩
  have xk : xix (k : Int) 2400 = true := xixn (by omega)
  have wn : w32 ((b : Int) + (m : Int)) = (n : Int) := by rw [w32_id (by omega) (by omega)]; omega
  have wk : w32 ((k : Int) + 1) = ((k + 1 : Nat) : Int) := w32_s (Nat.lt_of_lt_of_le (Nat.lt_of_lt_of_le hk hn) (by decide))
  obtain ⟨⟨a1, a2, a3, a4, a5⟩, -⟩ := id hS
  have e15 : (C 74 15).toNat = 81 := by rw [a1]; rfl
  have e16 : (C 74 16).toNat = 82 := by rw [a2]; rfl
  have e17 : (C 74 17).toNat = 83 := by rw [a3]; rfl
  have e18 : (C 74 18).toNat = 84 := by rw [a4]; rfl
  have e20 : (C 74 20).toNat = 86 := by rw [a5]; rfl
  have x70 : xix (w : Int) 70 = true := xixn hw
  have pre := xl_X12_worked_9 (d + 2) (w : Int) (st.length : Int) (k : Int) C
  rw [x70, e15, e16, e17, e18, e20, Int.toNat_natCast, Int.toNat_natCast, hb, hm, wn, xk, hc.1, hc.2, wk] at pre
  simp only [cond_true, Bool.cond_decide] at pre
  rw [if_neg (show ¬ ((n : Int) ≤ (k : Int)) from Int.not_le.mpr (Int.ofNat_lt.mpr hk))] at pre
  have he0 := he
  rcases he0 with ⟨q, z0, z1⟩ | ⟨q, z0, z1, z2⟩ | q | ⟨q, z⟩
  · have hE : eS t e st = e.2 :: st := by unfold eS; rw [if_pos q]
    rw [hE, List.length_cons] at hl
    have x1 : xix (st.length : Int) 64 = true := xixn (by omega)
    refine fin _ _ hE hst ?_
    rw [if_pos q, if_neg (show ¬ (e.1 ≠ 0) from fun w => w q), x1, w32_s (i := st.length) (by omega), Int.toNat_natCast] at pre
    simp only [xna, Bool.and_true, cond_true] at pre
    exact pre
  · have hE : eS t e st = eA t e.2 :: st := by unfold eS; rw [if_neg (by omega), if_pos q]
    rw [hE, List.length_cons] at hl
    have x1 : xix (st.length : Int) 64 = true := xixn (by omega)
    refine fin _ _ hE hst ?_
    rw [if_neg (show ¬ (e.1 = 0) by omega), if_neg (show ¬ (e.1 ≠ 1) from fun w => w q), if_pos (show e.1 ≠ 0 by omega), rv_ask (d := d + 1) hS z0 ⟨z1, z2⟩, x1, w32_s (i := st.length) (by omega), Int.toNat_natCast] at pre
    simp only [xna, Bool.and_true, cond_true, Option.bind_some] at pre
    exact pre
  · obtain ⟨a0, s0, rfl⟩ : ∃ a0 s0, st = a0 :: s0 := by
      cases st with
      | nil => exact absurd (hlow.1 q) (by decide)
      | cons x y => exact ⟨x, y, rfl⟩
    have hE : eS t e (a0 :: s0) = (if a0 = 0 then 1 else 0) :: s0 := by unfold eS; rw [if_neg (by omega), if_neg (by omega), if_pos q]
    rw [List.length_cons] at hl0
    have w1 : w32 ((((a0 :: s0).length : Nat) : Int) - 1) = (s0.length : Int) := by rw [List.length_cons, w32_id (by omega) (by omega)]; omega
    have x1 : xix (s0.length : Int) 64 = true := xixn (by omega)
    have ha : C 86 s0.length = a0 := cStk_top hst
    refine fin _ _ hE (cStk_tl hst) ?_
    rw [if_neg (show ¬ (e.1 = 0) by omega), if_pos (show e.1 ≠ 1 by omega), if_neg (show ¬ (e.1 ≠ 2) from fun w => w q), w1, x1, Int.toNat_natCast, ha, rv_t0 (d := d + 1), rv_t1 (d := d + 1)] at pre
    simp only [xna, Bool.and_true, cond_true, Option.bind_some, Int.toNat_natCast] at pre
    rw [pre]
    by_cases za : a0 = 0
    · rw [if_neg (show ¬ (a0 ≠ 0) from fun w => w za), if_pos za, List.length_cons]
    · rw [if_pos (show a0 ≠ 0 from za), if_neg za, List.length_cons]
  · obtain ⟨b0, a0, s0, rfl⟩ : ∃ b0 a0 s0, st = b0 :: a0 :: s0 := by
      match st, hlow.2 q with
      | b :: a :: s, _ => exact ⟨b, a, s, rfl⟩
      | [], w => exact absurd w (by decide)
      | [_], w => exact absurd w (by simp)
    have hE : eS t e (b0 :: a0 :: s0) = eD e.2 a0 b0 :: s0 := by unfold eS; rw [if_neg (by omega), if_neg (by omega), if_neg (by omega)]
    rw [List.length_cons, List.length_cons] at hl0
    have w1 : w32 ((((b0 :: a0 :: s0).length : Nat) : Int) + (-1)) = ((s0.length + 1 : Nat) : Int) := by rw [List.length_cons, List.length_cons, w32_id (by omega) (by omega)]; omega
    have w2 : w32 (((s0.length + 1 : Nat) : Int) - 1) = (s0.length : Int) := by rw [w32_id (by omega) (by omega)]; omega
    have x1 : xix (s0.length : Int) 64 = true := xixn (by omega)
    have x2 : xix ((s0.length + 1 : Nat) : Int) 64 = true := xixn (by omega)
    have ha : C 86 s0.length = a0 := cStk_top (cStk_tl hst)
    have hb2 : C 86 (s0.length + 1) = b0 := cStk_top hst
    refine fin _ _ hE (cStk_tl (cStk_tl hst)) ?_
    rw [if_neg (show ¬ (e.1 = 0) by omega), if_pos (show e.1 ≠ 1 by omega), if_pos (show e.1 ≠ 2 by omega), w1, w2, x1, x2, Int.toNat_natCast, Int.toNat_natCast, ha, hb2, rv_done z] at pre
    simp only [xna, Bool.and_true, cond_true, Option.bind_some] at pre
    exact pre
theorem rv_loop {w b m n : Nat} (hw : w < 70) (hbm : b + m = n) (hn : n ≤ 2400) : ∀ (es : List tE) (k : Nat) (st : List Int) (C : xC), rScn T t C → C 83 w = (b : Int) → C 84 w = (m : Int) → k + es.length = n → (∀ i x, es[i]? = some x → (C 81 (k + i) = x.1 ∧ C 82 (k + i) = x.2) ∧ eOk T x) → cStk 86 st C → st.length ≤ 31 → rpOk 31 es st.length = some 1 →
    ∃ F, xw_X12_worked (d + 2) (9, [some mR, some (.inl (w : Int)), some (.inl (st.length : Int)), some (.inl (k : Int))], [], C) = some ((eR t es st).headD 0, F) ∧ ∀ i j, i ≠ 86 → F i j = C i j := by
  intro es
  induction es with
  | nil =>
    intro k st C hS hb hm hk hc hst hl hr
    have h1 : st.length = 1 := Option.some.inj hr
    obtain ⟨x, rfl⟩ : ∃ x, st = [x] := by
      match st, h1 with
      | [x], _ => exact ⟨x, rfl⟩
    obtain ⟨⟨a1, a2, a3, a4, a5⟩, -⟩ := id hS
    have e17 : (C 74 17).toNat = 83 := by rw [a3]; rfl
    have e18 : (C 74 18).toNat = 84 := by rw [a4]; rfl
    have e20 : (C 74 20).toNat = 86 := by rw [a5]; rfl
    have x70 : xix (w : Int) 70 = true := xixn hw
    have wn : w32 ((b : Int) + (m : Int)) = (n : Int) := by rw [w32_id (by omega) (by omega)]; omega
    have hx : C 86 0 = x := cStk_top hst
    have hk : k = n := hk
    refine ⟨C, ?_, fun _ _ _ => rfl⟩
    rw [xl_X12_worked_9, x70, e17, e18, e20, Int.toNat_natCast, hb, hm, wn]
    simp only [cond_true, Bool.cond_decide]
    rw [if_pos (show (n : Int) ≤ (k : Int) by omega), hx]
    rfl
  | cons e es ih =>
    intro k st C hS hb hm hk hc hst hl hr
    rw [List.length_cons] at hk
    obtain ⟨c1, c2⟩ := hc 0 e rfl
    rw [Nat.add_zero] at c1
    obtain ⟨l1, l2, l3⟩ := eS_len (t := t) hr hl c2
    obtain ⟨F, q1, q2, q3⟩ := rv_step (d := d) hS c2 c1 hw hb hm hbm (show k < n by omega) hn hst l2 hl l3
    rw [q1]
    obtain ⟨G, g1, g2⟩ := ih (k + 1) (eS t e st) F (rScn_86 hS q3) (by rw [q3 _ _ (by omega), hb]) (by rw [q3 _ _ (by omega), hm]) (by omega) (fun i x hx => by
      obtain ⟨w1, w2⟩ := hc (i + 1) x (by rw [List.getElem?_cons_succ]; exact hx)
      exact ⟨by rw [q3 _ _ (by omega), q3 _ _ (by omega), show k + 1 + i = k + (i + 1) by omega]; exact w1, w2⟩) q2 l2 l1
    exact ⟨G, g1, fun i j hi => (g2 i j hi).trans (q3 i j hi)⟩
theorem rv_worked (hd : 3 ≤ d) (hS : rScn T t C) {w : Nat} (hw : w < 70) {es : List tE} (h : rFo T w es C) : ∃ F, xM d 183 [mR, .inl (w : Int)] C = some (eV t es, F) ∧ ∀ i j, i ≠ 86 → F i j = C i j := by
  obtain ⟨d, rfl⟩ := Nat.exists_eq_add_of_le' hd
  obtain ⟨b, b1, b2, b3, b4, b5⟩ := h
  have e17 : (C 74 17).toNat = 83 := by rw [hS.1.2.2.1]; rfl
  have hx : xix (w : Int) 70 = true := xixn hw
  rw [xm_X12_worked, hx, e17, Int.toNat_natCast, b1]
  simp only [cond_true]
  exact rv_loop (d := d) (t := t) hw rfl b3 es b [] C hS b1 b2 rfl b4 (fun j x hj _ => absurd hj (by simp)) (by simp) b5
end rVal
section rHour
variable {T d : Nat} {C F : xC} {t : eT} {c : tC} {f : Nat → Int} {nL : Nat} {D : Int}
/-- the cells that an hour of the reference's changes -/
def rSM (i j : Nat) : Bool := decide (i = 86 ∨ i = 101 ∨ (i = 74 ∧ (j = 64 ∨ j = 65 ∨ j = 68)))
theorem rLd_same (h : rLd c C) (hs : ∀ i j, i = 81 ∨ i = 82 ∨ i = 83 ∨ i = 84 ∨ (i = 74 ∧ j = 55) ∨ i = 94 ∨ i = 95 ∨ i = 99 ∨ i = 100 → F i j = C i j) : rLd c F := by
  obtain ⟨es, h1, h2, h3, h4, h5⟩ := h
  refine ⟨es, fun j x hx => by rw [hs _ _ (by omega), hs _ _ (by omega)]; exact h1 j x hx, h2, fun w l hw hl => ?_, fun x hx => (hs _ _ (by omega)).trans (h4 x hx), fun j x => ⟨fun hj q => (hs _ _ (by omega)).trans ((h5 j x).1 hj q), fun hj q => (hs _ _ (by omega)).trans ((h5 j x).2.1 hj q), fun hj q => (hs _ _ (by omega)).trans ((h5 j x).2.2.1 hj q), fun hj q => (hs _ _ (by omega)).trans ((h5 j x).2.2.2 hj q)⟩⟩
  obtain ⟨b, b1, b2, b3⟩ := h3 w l hw hl
  exact ⟨b, (hs _ _ (by omega)).trans b1, (hs _ _ (by omega)).trans b2, b3⟩
theorem rLd_fo (h : rLd c C) {w : Nat} (hw : w < 65) {es : List tE} (he : c.1 w = some es) (hok : fOk T es) : rFo T w es C := by
  obtain ⟨all, h1, h2, h3, -⟩ := h
  obtain ⟨b, b1, b2, b3⟩ := h3 w es hw he
  have hne : 0 < es.length := by
    cases es with
    | nil => exact absurd hok.2 (by simp [rpOk])
    | cons x y => simp
  refine ⟨b, b1, b2, ?_, fun i x hx => ⟨h1 (b + i) x (b3 i x hx), hok.1 x (List.mem_of_getElem? hx)⟩, hok.2⟩
  have hl := b3 (es.length - 1) _ (List.getElem?_eq_getElem (show es.length - 1 < es.length by omega))
  have := (List.getElem?_eq_some_iff.mp hl).1
  omega
/-- the reference's scene in its land -/
def rG (T : Nat) (c : tC) (f : Nat → Int) (nL : Nat) (D : Int) (t : eT) (C : xC) : Prop := rScn T t C ∧ rLd c C ∧ C 74 50 = (nL : Int) ∧ C 74 66 = D ∧ ∀ l, l < nL → C 102 l = f l
theorem rG_86 (h : rG T c f nL D t C) (hs : ∀ i j, i ≠ 86 → F i j = C i j) : rG T c f nL D t F :=
  ⟨rScn_86 h.1 hs, rLd_same h.2.1 fun i j q => hs i j (by omega), by rw [hs _ _ (by omega), h.2.2.1], by rw [hs _ _ (by omega), h.2.2.2.1], fun l hl => by rw [hs _ _ (by omega), h.2.2.2.2 l hl]⟩
/-- the sets of a law -/
theorem rv_sets (hd : 3 ≤ d) {a : Nat} (ha : a < 11) {m : Nat} (hm : m ≤ 4) (h92 : c.2 92 a = some (m : Int)) (hok : ∀ n, n < m → eSok T c a n) : ∀ (k n : Nat) (t : eT) (C : xC) (o3 o4 : Option xV), n + k = m → rG T c f nL D t C →
    ∃ F, xw_X12_doSets d (2, [some mR, some (.inl (a : Int)), some (.inl (n : Int)), o3, o4], [], C) = some (0, F) ∧ rG T c f nL D (eSets c a n k t) F ∧ xSm rSM C F := by
  intro k
  induction k with
  | zero =>
    intro n t C o3 o4 hk hE
    have e40 : (C 74 40).toNat = 99 := by rw [hE.1.2.2.2.2.2.2.1]; rfl
    obtain ⟨es, z1, z2, z3, z4, z5⟩ := id hE.2.1
    have k92 : C 99 a = (m : Int) := (z5 a (m : Int)).2.2.1 ha h92
    have x11 : xix (a : Int) 11 = true := xixn ha
    refine ⟨C, ?_, hE, xSm_refl⟩
    rw [xl_X12_doSets_2, x11, e40, Int.toNat_natCast, k92]
    simp only [Bool.cond_decide, cond_true]
    rw [if_pos (by omega)]
  | succ k ih =>
    intro n t C o3 o4 hk hE
    have hmn : ¬ ((m : Int) ≤ (n : Int)) := by omega
    have ws : w32 ((n : Int) + 1) = ((n + 1 : Nat) : Int) := w32_s (by omega)
    have i1 : w32 (w32 (4 * (a : Int)) + (n : Int)) = ((4 * a + n : Nat) : Int) := by rw [w32_id (z := 4 * (a : Int)) (by omega) (by omega), w32_id (by omega) (by omega)]; omega
    have i2 : w32 (w32 (w32 (5 * (a : Int)) + 1) + (n : Int)) = ((5 * a + 1 + n : Nat) : Int) := by rw [w32_id (z := 5 * (a : Int)) (by omega) (by omega), w32_id (z := 5 * (a : Int) + 1) (by omega) (by omega), w32_id (by omega) (by omega)]; omega
    have x44 : xix ((4 * a + n : Nat) : Int) 44 = true := xixn (by omega)
    obtain ⟨⟨es, e1, e2⟩, q, ⟨qT, q1⟩, q2, top, q3, q4, q5⟩ := hok n (by omega)
    have hfo := rLd_fo hE.2.1 (w := 5 * a + 1 + n) (by omega) e1 e2
    obtain ⟨F1, v1, v2⟩ := rv_worked (d := d) hd hE.1 (w := 5 * a + 1 + n) (by omega) hfo
    have hE1 := rG_86 hE v2
    have e40 : (C 74 40).toNat = 99 := by rw [hE.1.2.2.2.2.2.2.1]; rfl
    have e41 : (C 74 41).toNat = 100 := by rw [hE.1.2.2.2.2.2.2.2]; rfl
    obtain ⟨es1, z1, z2, z3, z4, z5⟩ := id hE.2.1
    have k92 : C 99 a = (m : Int) := (z5 a (m : Int)).2.2.1 ha h92
    have x11 : xix (a : Int) 11 = true := xixn ha
    have k93 : C 100 (4 * a + n) = (q : Int) := (z5 (4 * a + n) (q : Int)).2.2.2 (by omega) q2
    have f36 : (F1 74 36).toNat = 95 := by rw [hE1.1.2.2.2.2.2.1]; rfl
    have f62 : (F1 74 62).toNat = 101 := by rw [hE1.1.2.1.1]; rfl
    obtain ⟨es2, y1, y2, y3, y4, y5⟩ := id hE1.2.1
    have k88 : F1 95 q = top := (y5 q top).2.1 q1 q3
    have x6 : xix (q : Int) 6 = true := xixn q1
    have hset : eSet c a n t = ePut top q (eV t es) t := by
      unfold eSet
      rw [eN_of q2, Int.toNat_natCast, eN_of q3, eF_of e1]
    have next : ∀ x : Int, x = (if eV t es < 0 then 0 else if top < eV t es then top else eV t es) → ∃ F, xw_X12_doSets d (2, [some mR, some (.inl (a : Int)), some (.inl ((n + 1 : Nat) : Int)), some (.inl (q : Int)), some (.inl (eV t es))], [], xst F1 101 q x) = some (0, F) ∧ rG T c f nL D (eSets c a n (k + 1) t) F ∧ xSm rSM C F := by
      intro x hx
      have hE2 : rG T c f nL D (eSet c a n t) (xst F1 101 q x) := by
        obtain ⟨⟨⟨a1, a2, a3, a4, a5⟩, ⟨b1, b2, b3, b4⟩, h1, h2, h3, h4, h5, h6⟩, l1, l2, l3, l4⟩ := hE1
        rw [hset]
        refine ⟨⟨⟨by rw [xst_nn (by omega), a1], by rw [xst_nn (by omega), a2], by rw [xst_nn (by omega), a3], by rw [xst_nn (by omega), a4], by rw [xst_nn (by omega), a5]⟩, ⟨by rw [xst_nn (by omega), b1], by rw [xst_nn (by omega), b2], by rw [xst_nn (by omega), b3], by rw [xst_nn (by omega), b4]⟩, by rw [xst_nn (by omega), h1]; rfl, by rw [xst_nn (by omega), h2]; rfl, fun j hj => ?_, by rw [xst_nn (by omega), h4], by rw [xst_nn (by omega), h5], by rw [xst_nn (by omega), h6]⟩, rLd_same l1 fun i j w => xst_nn (by omega), by rw [xst_nn (by omega), l2], by rw [xst_nn (by omega), l3], fun l hl => by rw [xst_nn (by omega), l4 l hl]⟩
        show _ = if j = q then _ else t.1 j
        by_cases hjq : j = q
        · rw [if_pos hjq, hjq, xst_at, hx]
        · rw [if_neg hjq, xst_nn (by omega), h3 j hj]
      obtain ⟨G, g1, g2, g3⟩ := ih (n + 1) (eSet c a n t) _ (some (.inl (q : Int))) (some (.inl (eV t es))) (by omega) hE2
      exact ⟨G, g1, g2, xSm_trans (fun i j hS => by
        simp only [rSM, decide_eq_false_iff_not] at hS
        rw [xst_nn (by omega), v2 i j (by omega)]) g3⟩
    rw [xl_X12_doSets_2, x11, e40, Int.toNat_natCast, k92, i1, x44, i2, v1]
    simp only [Bool.cond_decide, cond_true, Option.bind_some]
    rw [if_neg hmn, e41, Int.toNat_natCast, k93, x6, f36, f62, Int.toNat_natCast, k88, ws]
    simp only [xna, Bool.and_true, cond_true]
    by_cases hv : eV t es < 0
    · rw [if_neg (show ¬ (0 ≤ eV t es) by omega)]
      exact next 0 (by rw [if_pos hv])
    · rw [if_pos (show 0 ≤ eV t es by omega)]
      by_cases hv2 : top < eV t es
      · rw [if_neg (show ¬ (eV t es ≤ top) by omega)]
        exact next top (by rw [if_neg hv, if_pos hv2])
      · rw [if_pos (show eV t es ≤ top by omega)]
        exact next (eV t es) (by rw [if_neg hv, if_neg hv2])
theorem rv_doesNow (hd : 4 ≤ d) {l : Nat} (hl : l < nL) (hc : eLok T c nL) (hE : rG T c f nL D t C) :
    ∃ F, xM d 205 [mR, .inl (l : Int)] C = some (if f l = t.2.1 then 0 else if eV t (eF c (5 * l)) = 0 then 0 else 1, F) ∧ rG T c f nL D t F ∧ xSm rSM C F := by
  obtain ⟨d, rfl⟩ := Nat.exists_eq_add_of_le' (show 1 ≤ d by omega)
  obtain ⟨d, rfl⟩ := Nat.exists_eq_add_of_le' (show 1 ≤ d by omega)
  obtain ⟨h5, -, hlaw⟩ := hc
  obtain ⟨⟨es, e1, e2⟩, -⟩ := hlaw l hl
  obtain ⟨-, ⟨b1, b2, b3, b4⟩, h1, -⟩ := id hE.1
  have e63 : (C 74 63).toNat = 102 := by rw [b2]; rfl
  have x5 : xix (l : Int) 5 = true := xixn (by omega)
  have hrest : xM (d + 1) 203 [mR, .inl (l : Int)] C = some (if f l = t.2.1 then 1 else 0, C) := by
    rw [xm_X12_doesRest, x5, e63, Int.toNat_natCast, hE.2.2.2.2 l hl, b3, b4, h1]
    simp only [Bool.cond_decide, cond_true]
    rw [if_pos (show (-1 : Int) < 0 by decide), if_neg (show ¬ ((0 : Int) ≠ 0) from fun q => q rfl)]
    by_cases q : f l = t.2.1
    · rw [if_neg (show ¬ (f l ≠ t.2.1) from fun w => w q), if_pos q]
    · rw [if_pos (show f l ≠ t.2.1 from q), if_neg q]
  rw [xm_X12_doesNow, hrest]
  simp only [Option.bind_some, Bool.cond_decide]
  by_cases q : f l = t.2.1
  · rw [if_pos q, if_pos (show (1 : Int) ≠ 0 by decide), if_pos q]
    exact ⟨C, rfl, hE, xSm_refl⟩
  · rw [if_neg q, if_neg (show ¬ ((0 : Int) ≠ 0) from fun w => w rfl), if_neg q]
    have hfo := rLd_fo hE.2.1 (w := 5 * l) (by omega) e1 e2
    obtain ⟨F1, v1, v2⟩ := rv_worked (d := d + 1) (by omega) hE.1 (w := 5 * l) (by omega) hfo
    have w0 : w32 (5 * (l : Int)) = ((5 * l : Nat) : Int) := by rw [w32_id (by omega) (by omega)]; omega
    rw [w0, v1, eF_of e1]
    simp only [Option.bind_some]
    refine ⟨F1, ?_, rG_86 hE v2, fun i j hS => v2 i j (by simp only [rSM, decide_eq_false_iff_not] at hS; omega)⟩
    by_cases z : eV t es = 0
    · rw [if_pos z, if_pos z]
    · rw [if_neg z, if_neg z]
theorem rv_laws (hd : 4 ≤ d) (hc : eLok T c nL) : ∀ (k l : Nat) (t : eT) (C : xC), l + k = nL → rG T c f nL D t C →
    ∃ F, xw_X12_doLaws d (2, [some mR, some (.inl (l : Int))], [], C) = some (0, F) ∧ rG T c f nL D (eLaws c f l k t) F ∧ xSm rSM C F := by
  intro k
  induction k with
  | zero =>
    intro l t C hk hE
    refine ⟨C, ?_, hE, xSm_refl⟩
    rw [xl_X12_doLaws_2, hE.2.2.1]
    simp only [Bool.cond_decide]
    rw [if_pos (by omega)]
  | succ k ih =>
    intro l t C hk hE
    have h5 := hc.1
    obtain ⟨F1, k1, k2, k3⟩ := rv_doesNow (d := d) hd (show l < nL by omega) hc hE
    rw [xl_X12_doLaws_2, hE.2.2.1, k1, w32_s (by omega)]
    simp only [Bool.cond_decide, Option.bind_some]
    rw [if_neg (show ¬ ((nL : Int) ≤ (l : Int)) by omega)]
    have hls : eLaws c f l (k + 1) t = eLaws c f (l + 1) k (eLaw c f l t) := rfl
    rw [hls]
    by_cases q : f l = t.2.1
    · have e : eLaw c f l t = t := by unfold eLaw; rw [if_pos q]
      rw [if_pos q, if_pos rfl, e]
      obtain ⟨G, g1, g2, g3⟩ := ih (l + 1) t F1 (by omega) k2
      exact ⟨G, g1, g2, xSm_trans k3 g3⟩
    · by_cases z : eV t (eF c (5 * l)) = 0
      · have e : eLaw c f l t = t := by unfold eLaw; rw [if_neg q, if_pos z]
        rw [if_neg q, if_pos z, if_pos rfl, e]
        obtain ⟨G, g1, g2, g3⟩ := ih (l + 1) t F1 (by omega) k2
        exact ⟨G, g1, g2, xSm_trans k3 g3⟩
      · have e : eLaw c f l t = eSets c l 0 (eN c 92 l).toNat t := by unfold eLaw; rw [if_neg q, if_neg z]
        rw [if_neg q, if_neg z, if_neg (show ¬ ((1 : Int) = 0) by decide), e]
        obtain ⟨-, m, m1, m2, m3⟩ := hc.2.2 l (by omega)
        obtain ⟨d', rfl⟩ := Nat.exists_eq_add_of_le' (show 1 ≤ d by omega)
        obtain ⟨F2, p1, p2, p3⟩ := rv_sets (d := d') (by omega) (a := l) (by omega) m1 m2 m3 m 0 t F1 none none (by omega) k2
        rw [show ((0 : Nat) : Int) = 0 from rfl] at p1
        rw [xm_X12_doSets, p1, eN_of m2, Int.toNat_natCast]
        simp only [Option.bind_some]
        obtain ⟨G, g1, g2, g3⟩ := ih (l + 1) _ F2 (by omega) p2
        exact ⟨G, g1, g2, xSm_trans k3 (xSm_trans p3 g3)⟩
theorem x32_rem {z y : Int} (h1 : 0 ≤ z) (h2 : z ≤ 100000) (h3 : 1 ≤ y) (h4 : y ≤ 100000) : x32 (fun x y => x - x / y * y) z y = z % y := by
  have e1 : (Int32.ofInt z).toInt = z := Int32.toInt_ofInt_of_le (by simpa using (by omega : (-2147483648 : Int) ≤ z)) (by omega)
  have e2 : (Int32.ofInt y).toInt = y := Int32.toInt_ofInt_of_le (by simpa using (by omega : (-2147483648 : Int) ≤ y)) (by omega)
  have q1 : z / y * y ≤ z := Int.ediv_mul_le z (by omega)
  have q0 : 0 ≤ z / y := Int.ediv_nonneg h1 (by omega)
  have q2 : z / y ≤ z := Int.ediv_le_self y h1
  have q3 : 0 ≤ z / y * y := Int.mul_nonneg q0 (by omega)
  have ed : (Int32.ofInt z / Int32.ofInt y).toInt = z / y := by
    rw [Int32.toInt_div, e1, e2, Int.tdiv_eq_ediv_of_nonneg h1]
    exact Int.bmod_eq_of_le (by omega) (by omega)
  show (Int32.ofInt z - Int32.ofInt z / Int32.ofInt y * Int32.ofInt y).toInt = _
  rw [Int32.toInt_sub, Int32.toInt_mul, ed, e1, e2]
  have em : (z / y * y).bmod (2 ^ 32) = z / y * y := Int.bmod_eq_of_le (by omega) (by omega)
  rw [em, Int.emod_def, Int.mul_comm y]
  exact Int.bmod_eq_of_le (by omega) (by omega)
theorem x32_div {z y : Int} (h1 : 0 ≤ z) (h2 : z ≤ 100000) (h3 : 1 ≤ y) (h4 : y ≤ 100000) : x32 (· / ·) z y = z / y := by
  have e1 : (Int32.ofInt z).toInt = z := Int32.toInt_ofInt_of_le (by simpa using (by omega : (-2147483648 : Int) ≤ z)) (by omega)
  have e2 : (Int32.ofInt y).toInt = y := Int32.toInt_ofInt_of_le (by simpa using (by omega : (-2147483648 : Int) ≤ y)) (by omega)
  have q0 : 0 ≤ z / y := Int.ediv_nonneg h1 (by omega)
  have q2 : z / y ≤ z := Int.ediv_le_self y h1
  show (Int32.ofInt z / Int32.ofInt y).toInt = _
  rw [Int32.toInt_div, e1, e2, Int.tdiv_eq_ediv_of_nonneg h1]
  exact Int.bmod_eq_of_le (by omega) (by omega)
theorem rv_tick (hd : 1 ≤ d) (hc : eLok T c nL) (hD : 2 ≤ D) (hD9 : D ≤ 9) (ht : eTok D t) (hE : rG T c f nL D t C) :
    ∃ F, xM d 208 [mR] C = some (0, F) ∧ rG T c f nL D (eTick D (eN c 0 0) t) F ∧ xSm rSM C F := by
  obtain ⟨d, rfl⟩ := Nat.exists_eq_add_of_le' hd
  obtain ⟨t1, t2, t3, t4⟩ := ht
  obtain ⟨H, q1, q2, q3⟩ := hc.2.1
  obtain ⟨⟨⟨a1, a2, a3, a4, a5⟩, ⟨b1, b2, b3, b4⟩, h1, h2, h3, h4, h5, h6⟩, l1, l2, l3, l4⟩ := hE
  obtain ⟨es, z1, z2, z3, z4, z5⟩ := id l1
  have kH : C 74 55 = H := z4 H q1
  have w1 : w32 (t.2.2 + 1) = t.2.2 + 1 := w32_id (by omega) (by omega)
  have w2 : w32 (t.2.1 + 1) = t.2.1 + 1 := w32_id (by omega) (by omega)
  have same : ∀ (G : xC) (t' : eT), t'.1 = t.1 → G 74 64 = t'.2.1 → G 74 65 = t'.2.2 → G 74 68 = 0 → xSm rSM C G → (∀ i j, i ≠ 74 → G i j = C i j) → rG T c f nL D t' G := by
    intro G t' g1 g2 g3 g6 g4 g5
    have k : ∀ j, j ≠ 64 → j ≠ 65 → j ≠ 68 → G 74 j = C 74 j := fun j a b e => g4 74 j (by simp only [rSM, decide_eq_false_iff_not]; omega)
    refine ⟨⟨⟨?_, ?_, ?_, ?_, ?_⟩, ⟨?_, ?_, ?_, g6⟩, g2, g3, fun j hj => by rw [g5 _ _ (by omega), h3 j hj, g1], ?_, ?_, ?_⟩, rLd_same l1 fun i j q => ?_, ?_, ?_, fun l hl => by rw [g5 _ _ (by omega), l4 l hl]⟩
    · rw [k _ (by decide) (by decide) (by decide), a1]
    · rw [k _ (by decide) (by decide) (by decide), a2]
    · rw [k _ (by decide) (by decide) (by decide), a3]
    · rw [k _ (by decide) (by decide) (by decide), a4]
    · rw [k _ (by decide) (by decide) (by decide), a5]
    · rw [k _ (by decide) (by decide) (by decide), b1]
    · rw [k _ (by decide) (by decide) (by decide), b2]
    · rw [k _ (by decide) (by decide) (by decide), b3]
    · rw [k _ (by decide) (by decide) (by decide), h4]
    · rw [k _ (by decide) (by decide) (by decide), h5]
    · rw [k _ (by decide) (by decide) (by decide), h6]
    · exact g4 i j (by simp only [rSM, decide_eq_false_iff_not]; omega)
    · rw [k _ (by decide) (by decide) (by decide), l2]
    · rw [k _ (by decide) (by decide) (by decide), l3]
  rw [xm_X12_tick, h2, w1, kH, b4, h1, w2, l3, x32_rem (by omega) (by omega) (by omega) (by omega), eN_of q1]
  simp only [Bool.cond_decide]
  unfold eTick
  by_cases hh : t.2.2 + 1 < H
  · rw [if_neg (show ¬ (H ≤ t.2.2 + 1) by omega), if_pos hh]
    refine ⟨_, rfl, same _ _ rfl ?_ xst_at ?_ (xSm_st xSm_refl rfl) fun i j hi => xst_nn (by omega), xSm_st xSm_refl rfl⟩
    · rw [xst_nn (by omega), h1]
    · rw [xst_nn (by omega), b4]
  · rw [if_pos (show H ≤ t.2.2 + 1 by omega), if_neg hh, if_neg (show ¬ ((0 : Int) ≠ 0) from fun w => w rfl), if_neg (show ¬ (D = 0) by omega)]
    have hrem : (t.2.1 + 1) % D = if t.2.1 + 1 < D then t.2.1 + 1 else 0 := by
      split
      · exact Int.emod_eq_of_lt (by omega) (by omega)
      · rw [show t.2.1 + 1 = D by omega, Int.emod_self]
    refine ⟨_, rfl, same _ _ rfl ?_ ?_ xst_at (xSm_st (xSm_st (xSm_st (xSm_st xSm_refl rfl) rfl) rfl) rfl) fun i j hi => (by rw [xst_nn (by omega), xst_nn (by omega), xst_nn (by omega), xst_nn (by omega)]), xSm_st (xSm_st (xSm_st (xSm_st xSm_refl rfl) rfl) rfl) rfl⟩
    · rw [xst_nn (by omega), xst_at, hrem]
    · rw [xst_nn (by omega), xst_nn (by omega), xst_at]
/-- an hour of the reference's -/
theorem rv_hour (hd : 6 ≤ d) (hc : eLok T c nL) (hD : 2 ≤ D) (hD9 : D ≤ 9) (ht : eTok D t) (hE : rG T c f nL D t C) :
    ∃ F, xM d 209 [mR, .inl 1] C = some (0, F) ∧ rG T c f nL D (eHour c f D nL t) F ∧ xSm rSM C F := by
  obtain ⟨d, rfl⟩ := Nat.exists_eq_add_of_le' (show 1 ≤ d by omega)
  obtain ⟨d, rfl⟩ := Nat.exists_eq_add_of_le' (show 1 ≤ d by omega)
  obtain ⟨F1, k1, k2, k3⟩ := rv_laws (d := d) (by omega) hc nL 0 t C (by omega) hE
  have kt : xM (d + 1) 206 [mR] C = some (0, F1) := by
    rw [xm_X12_doLaws]
    exact k1
  have ht1 : eTok D (eLaws c f 0 nL t) := by
    unfold eTok
    rw [eLaws_2]
    exact ht
  obtain ⟨F2, p1, p2, p3⟩ := rv_tick (d := d + 1) (by omega) hc hD hD9 ht1 k2
  have w1 : w32 (0 + 1) = 1 := rfl
  refine ⟨F2, ?_, p2, xSm_trans k3 p3⟩
  rw [xm_X12_goHours, xl_X12_goHours_2]
  simp only [Bool.cond_decide]
  rw [if_neg (by decide), kt]
  simp only [Option.bind_some]
  rw [p1]
  simp only [Option.bind_some]
  rw [w1, xl_X12_goHours_2]
  simp only [Bool.cond_decide]
  rw [if_pos (by decide)]
end rHour
