/-! The reference's small methods at a token of the text. -/
section rSmall
variable {g : Nat → Int} {N d i : Nat} {D : xC} {th : List Int}
abbrev rAtI (g : Nat → Int) (N i : Nat) (D : xC) : Prop := rTk g N (rdP g N i) D
theorem rTk_same {p : Nat} {S : Nat → Nat → Bool} {E : xC} (h : rTk g N p D) (hs : xSm S D E) (h4 : S 74 4 = false) (h6 : S 74 6 = false) (h7 : S 74 7 = false) (h8 : S 74 8 = false) (h9 : S 74 9 = false) : rTk g N p E := by
  obtain ⟨a, b, c, e, f⟩ := h
  exact ⟨(hs _ _ h6).trans a, (hs _ _ h7).trans b, fun q => (hs _ _ h9).trans (c q), fun q => (hs _ _ h8).trans (e q), fun q => (hs _ _ h4).trans (f q)⟩
theorem rt_next (hd : 2 ≤ d) (hT : rTx g N D) (hk : rAtI g N i D) (h25 : tkK g N i ≠ 25) : ∃ F, xM d 157 [mR] D = some (0, F) ∧ rAtI g N (i + 1) F ∧ xSm rS0 D F :=
  rt_token hd hT (hk.2.2.2.2 h25) (rdE_le (rdP_le i))
theorem rt_word (hk : rAtI g N i D) {j : Nat} {c : Int} (hc : rdW[j]? = some c) : (D 74 6 = 1 ∧ D 74 9 = c) ↔ tkK g N i = (j : Int) := by
  obtain ⟨k6, k7, k9, k8, k4⟩ := hk
  obtain ⟨o1, o2, -⟩ := rdK_ok (g := g) (N := N) (rdP g N i)
  have hj : j < 22 := by
    rcases Nat.lt_or_ge j rdW.length with h | h
    · exact h
    · rw [List.getElem?_eq_none h] at hc; cases hc
  show (_ ∧ _) ↔ rdK g N (rdP g N i) = (j : Int)
  constructor
  · rintro ⟨h1, h2⟩
    have hle : rdK g N (rdP g N i) ≤ 22 := by
      rw [k6, rdS] at h1
      rcases o1 with o1 | o1
      · by_cases h : rdK g N (rdP g N i) ≤ 22
        · exact h
        · rw [if_neg h] at h1
          split at h1
          · omega
          · split at h1
            · omega
            · split at h1 <;> omega
      · have o1 := rdSg_iff.mp o1
        rw [if_neg (by omega), if_neg (by omega), if_neg (by omega), if_neg (by omega)] at h1
        omega
    obtain ⟨q1, -, -, q4⟩ := o2 hle
    rw [q1, rdKw_iff _ hc, q4, ← k9 hle, h2]
  · intro h
    have hle : rdK g N (rdP g N i) ≤ 22 := by omega
    obtain ⟨q1, -, -, q4⟩ := o2 hle
    refine ⟨by rw [k6, rdS, if_pos hle], ?_⟩
    rw [k9 hle, ← q4]
    exact (rdKw_iff _ hc).mp (q1.symm.trans h)
theorem rt_isWord (hd : 1 ≤ d) (hk : rAtI g N i D) {j : Nat} {c : Int} (hc : rdW[j]? = some c) : xM d 159 [mR, .inr (.inl c)] D = some (if tkK g N i = (j : Int) then 1 else 0, D) := by
  rw [xn_isWord hd]
  congr 2
  by_cases h : D 74 6 = 1 ∧ D 74 9 = c
  · rw [if_pos h, if_pos ((rt_word hk hc).mp h)]
  · rw [if_neg h, if_neg (fun q => h ((rt_word hk hc).mpr q))]
theorem rt_isOwn (hd : 1 ≤ d) : xM d 160 [mR] D = some (if D 74 9 ∈ rdW then 1 else 0, D) := by
  obtain ⟨d, rfl⟩ := Nat.exists_eq_add_of_le' hd
  have key : ∀ a b : Int, ((if b < a then (1 : Int) else (if a = b then 0 else -1)) = 0) = (a = b) := by
    intro a b
    by_cases h : a = b
    · simp [h]
    · by_cases h2 : b < a <;> simp [h, h2]
  rw [xm_X12_isOwn, xl_X12_isOwn_66, xl_X12_isOwn_121, xl_X12_isOwn_176, xl_X12_isOwn_231]
  simp only [Bool.cond_decide, key, ne_eq]
  by_cases h : D 74 9 ∈ rdW
  · rw [if_pos h]
    simp only [rdW, List.mem_cons, List.not_mem_nil, or_false] at h
    rcases h with h | h | h | h | h | h | h | h | h | h | h | h | h | h | h | h | h | h | h | h | h | h <;> simp [h]
  · rw [if_neg h]
    simp only [rdW, List.mem_cons, List.not_mem_nil, or_false, not_or] at h
    simp [h]
theorem rt_isName (hd : 2 ≤ d) (hk : rAtI g N i D) : xM d 161 [mR] D = some (if tkK g N i = 22 then 1 else 0, D) := by
  obtain ⟨d, rfl⟩ := Nat.exists_eq_add_of_le' (show 1 ≤ d by omega)
  rw [xm_X12_isName, rt_isOwn (by omega)]
  simp only [Option.bind_some, Bool.cond_decide]
  obtain ⟨k6, k7, k9, k8, k4⟩ := hk
  obtain ⟨o1, o2, -⟩ := rdK_ok (g := g) (N := N) (rdP g N i)
  show _ = some ((if rdK g N (rdP g N i) = 22 then (1 : Int) else 0), D)
  have hS : D 74 6 = 1 ↔ rdK g N (rdP g N i) ≤ 22 := by
    rw [k6, rdS]
    constructor
    · intro h1
      rcases o1 with o1 | o1
      · by_cases h : rdK g N (rdP g N i) ≤ 22
        · exact h
        · rw [if_neg h] at h1
          split at h1
          · omega
          · split at h1
            · omega
            · split at h1 <;> omega
      · have o1 := rdSg_iff.mp o1
        rw [if_neg (by omega), if_neg (by omega), if_neg (by omega), if_neg (by omega)] at h1
        omega
    · intro h; rw [if_pos h]
  by_cases h1 : D 74 6 = 1
  · have hle := hS.mp h1
    obtain ⟨q1, -, -, q4⟩ := o2 hle
    rw [if_neg (fun h => h h1)]
    have hm : D 74 9 ∈ rdW ↔ ¬ rdK g N (rdP g N i) = 22 := by
      rw [q1, k9 hle, q4]
      unfold rdKw
      generalize rdV 256 0 g (rdP g N i) (rdEnd rdLet g N (rdP g N i) - rdP g N i) = w
      have e : rdW.length = 22 := rfl
      rw [← List.idxOf_lt_length_iff, e]
      have : rdW.idxOf w ≤ rdW.length := List.idxOf_le_length
      omega
    by_cases h2 : D 74 9 ∈ rdW
    · rw [if_pos h2, if_pos (by decide), if_neg (hm.mp h2)]
    · have h3 : rdK g N (rdP g N i) = 22 := by
        by_cases h4 : rdK g N (rdP g N i) = 22
        · exact h4
        · exact absurd (hm.mpr h4) h2
      rw [if_neg h2, if_neg (by decide), if_pos h3]
  · rw [if_pos h1, if_neg (fun h => h1 (hS.mpr (by omega)))]
/-- a word by 256 against its number by 27 -/
def rdWd (a x : Int) : Prop := a = rdC 8 x
/-- names told, from a place on -/
def rNm (b : Nat) (nm : List Int) (D : xC) : Prop := (∀ (j : Nat) (x : Int), nm[j]? = some x → rdWd (D 76 (b + j)) x) ∧ (∀ x, x ∈ nm → 0 ≤ x ∧ x < 282429536481) ∧ nm.Nodup
theorem rt_find (hd : 1 ≤ d) {b : Nat} {nm : List Int} {x : Int} (h10 : D 74 10 = 76) (hn : rNm b nm D) (hb : b + nm.length ≤ 28) (h9 : rdWd (D 74 9) x) (hx0 : 0 ≤ x) (hx : x < 282429536481) :
    ∃ r : Int, xM d 165 [mR, .inl (b : Int), .inl (nm.length : Int)] D = some (r, D) ∧ ((0 ≤ r ∧ r < nm.length ∧ nm[r.toNat]? = some x ∧ x ∈ nm) ∨ (r = -1 ∧ x ∉ nm)) := by
  obtain ⟨d, rfl⟩ := Nat.exists_eq_add_of_le' hd
  rw [xm_X12_find]
  have key : ∀ (m k : Nat) (f : Int), k + m = nm.length → ((0 ≤ f ∧ f < nm.length ∧ nm[f.toNat]? = some x ∧ x ∈ nm) ∨ (f = -1 ∧ ∀ j, j < k → nm[j]? ≠ some x)) →
      ∃ r : Int, xw_X12_find d (5, [some mR, some (.inl (b : Int)), some (.inl (nm.length : Int)), some (.inl f), some (.inl (k : Int))], [], D) = some (r, D) ∧ ((0 ≤ r ∧ r < nm.length ∧ nm[r.toNat]? = some x ∧ x ∈ nm) ∨ (r = -1 ∧ x ∉ nm)) := by
    intro m
    induction m with
    | zero =>
      intro k f hk hf
      refine ⟨f, ?_, ?_⟩
      · rw [xl_X12_find_5]
        simp only [Bool.cond_decide]
        rw [if_pos (by omega)]
      · rcases hf with hf | ⟨hf, hall⟩
        · exact Or.inl hf
        · refine Or.inr ⟨hf, fun hm => ?_⟩
          obtain ⟨j, hj, e⟩ := List.mem_iff_getElem.mp hm
          exact hall j (by omega) (by rw [List.getElem?_eq_getElem hj, e])
    | succ m ih =>
      intro k f hk hf
      have hkl : k < nm.length := by omega
      have hg : nm[k]? = some nm[k] := List.getElem?_eq_getElem hkl
      have hmem : nm[k] ∈ nm := List.getElem_mem hkl
      have hc := hn.1 k _ hg
      have hbd := hn.2.1 _ hmem
      have ew : w32 ((b : Int) + (k : Int)) = ((b + k : Nat) : Int) := by rw [w32_id (by omega) (by omega)]; omega
      have ew2 : w32 ((k : Int) + 1) = ((k + 1 : Nat) : Int) := by rw [w32_id (by omega) (by omega)]; omega
      have eix : xix ((b + k : Nat) : Int) 28 = true := xixz.mpr ⟨by omega, by omega⟩
      have e10 : (D 74 10).toNat = 76 := by rw [h10]; rfl
      by_cases hq : nm[k] = x
      · obtain ⟨r, r1, r2⟩ := ih (k + 1) (k : Int) (by omega) (Or.inl ⟨by omega, by omega, by rw [Int.toNat_natCast, hg, hq], by rw [← hq]; exact hmem⟩)
        refine ⟨r, ?_, r2⟩
        rw [← r1, xl_X12_find_5]
        simp only [Bool.cond_decide]
        rw [if_neg (by omega), ew, eix, ew2, e10, Int.toNat_natCast, show D 76 (b + k) = rdC 8 nm[k] from hc, show D 74 9 = rdC 8 x from h9, hq]
        simp
      · have hne : ¬ (rdC 8 nm[k] = rdC 8 x) := fun e => hq (rdC_inj8 hbd.1 hbd.2 hx0 hx e)
        obtain ⟨r, r1, r2⟩ := ih (k + 1) f (by omega) (by
          rcases hf with hf | ⟨hf, hall⟩
          · exact Or.inl hf
          · refine Or.inr ⟨hf, fun j hj => ?_⟩
            by_cases hj2 : j = k
            · rw [hj2, hg]
              exact fun e => hq (Option.some.inj e)
            · exact hall j (by omega))
        refine ⟨r, ?_, r2⟩
        rw [← r1, xl_X12_find_5]
        simp only [Bool.cond_decide]
        rw [if_neg (show ¬ (nm.length : Int) ≤ (k : Int) by clear hne; omega), ew, eix, ew2, e10, Int.toNat_natCast, show D 76 (b + k) = rdC 8 nm[k] from hc, show D 74 9 = rdC 8 x from h9, if_neg (show ¬ rdC 8 nm[k] = rdC 8 x from hne)]
        by_cases h2 : rdC 8 x < rdC 8 nm[k]
        · rw [if_pos h2]; rfl
        · rw [if_neg h2]; rfl
  exact key nm.length 0 (-1) (by omega) (Or.inr ⟨rfl, fun j hj => by omega⟩)
end rSmall
