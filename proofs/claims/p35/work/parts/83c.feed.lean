/-! What feed does, whole. -/
section fFeed2
variable {d n : Nat} {C : xC}
abbrev xR0 : xV := .inr (.inr (.inl (0, 0)))
def fIn (v : Int) : Prop := -2147483648 ≤ v ∧ v ≤ 2147483647
theorem fx_feed (hd : 2 ≤ d) (h00 : C 0 0 = 1) (h01 : C 0 1 = (n : Int)) (hn : n + 20 ≤ 1700) {a1 a2 a3 a4 a5 : Int} (i1 : fIn a1) (i2 : fIn a2) (i3 : fIn a3) (i4 : fIn a4) (i5 : fIn a5) :
    ∃ F, xM d 108 [xR0, .inl a1, .inl a2, .inl a3, .inl a4, .inl a5] C = some (((n + 20 : Nat) : Int), F) ∧ (∀ k, k < 4 → F 1 (n + k) = fBy a1 k ∧ F 1 (n + 4 + k) = fBy a2 k ∧ F 1 (n + 8 + k) = fBy a3 k ∧ F 1 (n + 12 + k) = fBy a4 k ∧ F 1 (n + 16 + k) = fBy a5 k) ∧ (∀ j, j < n → F 1 j = C 1 j) ∧ F 0 1 = ((n + 20 : Nat) : Int) := by
  obtain ⟨d, rfl⟩ := Nat.exists_eq_add_of_le' (show 1 ≤ d by omega)
  rw [xm_X11_feed, h01, w32_id (by omega) (by omega)]
  simp only [Bool.cond_decide]
  rw [if_pos (by omega)]
  obtain ⟨F1, k1, l1, m1, n1⟩ := fx_put (d := d) (n := n) (by omega) h00 h01 (by omega) i1.1 i1.2
  rw [k1]
  simp only [Option.bind_some]
  obtain ⟨F2, k2, l2, m2, n2⟩ := fx_put (d := d) (n := n + 4) (C := F1) (by omega) (by rw [n1 0 0 (by unfold fS0; omega), h00]) l1 (by omega) i2.1 i2.2
  rw [k2]
  simp only [Option.bind_some]
  obtain ⟨F3, k3, l3, m3, n3⟩ := fx_put (d := d) (n := n + 4 + 4) (C := F2) (by omega) (by rw [n2 0 0 (by unfold fS0; omega), n1 0 0 (by unfold fS0; omega), h00]) l2 (by omega) i3.1 i3.2
  rw [k3]
  simp only [Option.bind_some]
  obtain ⟨F4, k4, l4, m4, n4⟩ := fx_put (d := d) (n := n + 4 + 4 + 4) (C := F3) (by omega) (by rw [n3 0 0 (by unfold fS0; omega), n2 0 0 (by unfold fS0; omega), n1 0 0 (by unfold fS0; omega), h00]) l3 (by omega) i4.1 i4.2
  rw [k4]
  simp only [Option.bind_some]
  obtain ⟨F5, k5, l5, m5, n5⟩ := fx_put (d := d) (n := n + 4 + 4 + 4 + 4) (C := F4) (by omega) (by rw [n4 0 0 (by unfold fS0; omega), n3 0 0 (by unfold fS0; omega), n2 0 0 (by unfold fS0; omega), n1 0 0 (by unfold fS0; omega), h00]) l4 (by omega) i5.1 i5.2
  rw [k5]
  simp only [Option.bind_some]
  rw [l5, show n + 4 + 4 + 4 + 4 + 4 = n + 20 by omega]
  refine ⟨F5, rfl, fun k hk => ⟨?_, ?_, ?_, ?_, ?_⟩, fun j hj => ?_, by rw [l5]⟩
  · rw [n5 1 _ (by unfold fS0; omega), n4 1 _ (by unfold fS0; omega), n3 1 _ (by unfold fS0; omega), n2 1 _ (by unfold fS0; omega)]; exact m1 k hk
  · rw [n5 1 _ (by unfold fS0; omega), n4 1 _ (by unfold fS0; omega), n3 1 _ (by unfold fS0; omega)]; exact m2 k hk
  · rw [n5 1 _ (by unfold fS0; omega), n4 1 _ (by unfold fS0; omega)]; exact m3 k hk
  · rw [n5 1 _ (by unfold fS0; omega)]; exact m4 k hk
  · exact m5 k hk
  · rw [n5 1 _ (by unfold fS0; omega), n4 1 _ (by unfold fS0; omega), n3 1 _ (by unfold fS0; omega), n2 1 _ (by unfold fS0; omega), n1 1 _ (by unfold fS0; omega)]
theorem fx_full (hd : 1 ≤ d) (h01 : C 0 1 = (n : Int)) (hn : n ≤ 1700) (h2 : 1700 < n + 20) {a1 a2 a3 a4 a5 : Int} : xM d 108 [xR0, .inl a1, .inl a2, .inl a3, .inl a4, .inl a5] C = some (-1, C) := by
  obtain ⟨d, rfl⟩ := Nat.exists_eq_add_of_le' hd
  rw [xm_X11_feed, h01, w32_id (by omega) (by omega)]
  simp only [Bool.cond_decide]
  rw [if_neg (by omega)]
def fBu (v : Int) (k : Nat) : Int := (v / (2 : Int) ^ (24 - 8 * k)) % 256
theorem fm_feed (hd : 2 ≤ d) (h00 : C 74 0 = 75) (h01 : C 74 1 = (n : Int)) (hn : n + 20 ≤ 1700) {a1 a2 a3 a4 a5 : Int} (i1 : fIn a1) (i2 : fIn a2) (i3 : fIn a3) (i4 : fIn a4) (i5 : fIn a5) :
    ∃ F, xM d 150 [mR, .inl a1, .inl a2, .inl a3, .inl a4, .inl a5] C = some (((n + 20 : Nat) : Int), F) ∧ (∀ k, k < 4 → F 75 (n + k) = fBu a1 k ∧ F 75 (n + 4 + k) = fBu a2 k ∧ F 75 (n + 8 + k) = fBu a3 k ∧ F 75 (n + 12 + k) = fBu a4 k ∧ F 75 (n + 16 + k) = fBu a5 k) ∧ (∀ j, j < n → F 75 j = C 75 j) ∧ F 74 1 = ((n + 20 : Nat) : Int) := by
  obtain ⟨d, rfl⟩ := Nat.exists_eq_add_of_le' (show 1 ≤ d by omega)
  rw [xm_X12_feed, h01, w32_id (by omega) (by omega)]
  simp only [Bool.cond_decide]
  rw [if_pos (by omega)]
  obtain ⟨F1, k1, l1, m1, n1⟩ := fm_four (d := d) (n := n) (by omega) h00 h01 (by omega) i1.1 i1.2
  rw [k1]
  simp only [Option.bind_some]
  obtain ⟨F2, k2, l2, m2, n2⟩ := fm_four (d := d) (n := n + 4) (C := F1) (by omega) (by rw [n1 74 0 (by unfold fS0; omega), h00]) l1 (by omega) i2.1 i2.2
  rw [k2]
  simp only [Option.bind_some]
  obtain ⟨F3, k3, l3, m3, n3⟩ := fm_four (d := d) (n := n + 4 + 4) (C := F2) (by omega) (by rw [n2 74 0 (by unfold fS0; omega), n1 74 0 (by unfold fS0; omega), h00]) l2 (by omega) i3.1 i3.2
  rw [k3]
  simp only [Option.bind_some]
  obtain ⟨F4, k4, l4, m4, n4⟩ := fm_four (d := d) (n := n + 4 + 4 + 4) (C := F3) (by omega) (by rw [n3 74 0 (by unfold fS0; omega), n2 74 0 (by unfold fS0; omega), n1 74 0 (by unfold fS0; omega), h00]) l3 (by omega) i4.1 i4.2
  rw [k4]
  simp only [Option.bind_some]
  obtain ⟨F5, k5, l5, m5, n5⟩ := fm_four (d := d) (n := n + 4 + 4 + 4 + 4) (C := F4) (by omega) (by rw [n4 74 0 (by unfold fS0; omega), n3 74 0 (by unfold fS0; omega), n2 74 0 (by unfold fS0; omega), n1 74 0 (by unfold fS0; omega), h00]) l4 (by omega) i5.1 i5.2
  rw [k5]
  simp only [Option.bind_some]
  rw [l5, show n + 4 + 4 + 4 + 4 + 4 = n + 20 by omega]
  refine ⟨F5, rfl, fun k hk => ⟨?_, ?_, ?_, ?_, ?_⟩, fun j hj => ?_, by rw [l5]⟩
  · rw [n5 75 _ (by unfold fS0; omega), n4 75 _ (by unfold fS0; omega), n3 75 _ (by unfold fS0; omega), n2 75 _ (by unfold fS0; omega)]; exact m1 k hk
  · rw [n5 75 _ (by unfold fS0; omega), n4 75 _ (by unfold fS0; omega), n3 75 _ (by unfold fS0; omega)]; exact m2 k hk
  · rw [n5 75 _ (by unfold fS0; omega), n4 75 _ (by unfold fS0; omega)]; exact m3 k hk
  · rw [n5 75 _ (by unfold fS0; omega)]; exact m4 k hk
  · exact m5 k hk
  · rw [n5 75 _ (by unfold fS0; omega), n4 75 _ (by unfold fS0; omega), n3 75 _ (by unfold fS0; omega), n2 75 _ (by unfold fS0; omega), n1 75 _ (by unfold fS0; omega)]
end fFeed2
