/-! The class's tokens: signs, words. -/
section cWords
variable {g : Nat → Int} {N d : Nat} {C : xC}
/-- the class's tokens, its reader -/
abbrev kR : xV := .inr (.inr (.inl (26, 15)))
abbrev pR : xV := .inr (.inr (.inl (24, 13)))
/-- the class's text -/
def cTx (g : Nat → Int) (N : Nat) (C : xC) : Prop := C 26 0 = 1 ∧ C 26 1 = (N : Int) ∧ (C 26 3 = 27 ∧ C 26 4 = 28 ∧ C 26 5 = 29) ∧ N ≤ 1700 ∧ ∀ j, j < N → C 1 j = g j
theorem w32_s {i : Nat} (h : i < 2147483647) : w32 ((i : Int) + 1) = ((i + 1 : Nat) : Int) := by rw [w32_id (by omega) (by omega)]; omega
theorem w32_a {i j : Nat} (h : i + j ≤ 2147483647) : w32 ((i : Int) + (j : Int)) = ((i + j : Nat) : Int) := by rw [w32_id (by omega) (by omega)]; omega
theorem w32_8 {i : Nat} (h : 8 * i ≤ 2147483647) : w32 ((i : Int) * 8) = ((8 * i : Nat) : Int) := by rw [w32_id (by omega) (by omega)]; omega
theorem w32_d {i j : Nat} (h : i ≤ 2147483647) (hj : j ≤ i) : w32 ((i : Int) - (j : Int)) = ((i - j : Nat) : Int) := by rw [w32_id (by omega) (by omega)]; omega
theorem xixn {m n : Nat} (h : m < n) : xix (m : Int) n = true := xixz.mpr ⟨by omega, by omega⟩
theorem ct_isLetter (hd : 1 ≤ d) {c : Int} : xM d 92 [.inl c] C = some (if rdLet c = true then 1 else 0, C) := by
  obtain ⟨d, rfl⟩ := Nat.exists_eq_add_of_le' hd
  rw [xm_X9_isLetter]
  simp only [Bool.cond_decide, rdLet_iff]
  repeat' split
  all_goals first | rfl | (exfalso; omega)
theorem ct_isDigit (hd : 1 ≤ d) {c : Int} : xM d 93 [.inl c] C = some (if rdDig c = true then 1 else 0, C) := by
  obtain ⟨d, rfl⟩ := Nat.exists_eq_add_of_le' hd
  rw [xm_X9_isDigit]
  simp only [Bool.cond_decide, rdDig_iff]
  repeat' split
  all_goals first | rfl | (exfalso; omega)
theorem ct_isBlank (hd : 1 ≤ d) {c : Int} : xM d 91 [.inl c] C = some (if rdBlk c = true then 1 else 0, C) := by
  obtain ⟨d, rfl⟩ := Nat.exists_eq_add_of_le' hd
  rw [xm_X9_isBlank]
  simp only [Bool.cond_decide, rdBlk_iff]
  repeat' split
  all_goals first | rfl | (exfalso; omega)
theorem ct_isSign (hd : 1 ≤ d) {c : Int} : xM d 94 [.inl c] C = some (if rdSgn c = true then 1 else 0, C) := by
  obtain ⟨d, rfl⟩ := Nat.exists_eq_add_of_le' hd
  rw [xm_X9_isSign]
  simp only [Bool.cond_decide, rdSgn_iff, rdSg_iff]
  by_cases h : c = 59 ∨ c = 40 ∨ c = 41 ∨ c = 60 ∨ c = 62 ∨ c = 61 ∨ c = 43 ∨ c = 45 ∨ c = 42 ∨ c = 47 ∨ c = 37
  · rw [if_pos h]
    rcases h with h | h | h | h | h | h | h | h | h | h | h <;> subst h <;> rfl
  · rw [if_neg h]
    simp only [not_or] at h
    simp [h]
/-- a letter of a constant, blanks behind -/
def wch (k i : Nat) : Int := (sCh (yWb.getD (8 * k + i) 0)).toInt
def wLn : List Nat := [4, 5, 5, 2, 3, 5, 2, 4, 3, 4, 3, 4, 4, 5, 2, 5, 7, 2, 4, 3, 3, 4]
theorem wch_all : ((List.range 22).all fun k => ((List.range 8).all fun i => if i < wLn.getD k 0 then decide (97 ≤ wch k i ∧ wch k i ≤ 122) else decide (wch k i = 32)) && (decide (rdW[k]? = some (rdV 256 0 (wch k) 0 (wLn.getD k 0))) && decide (wLn.getD k 0 ≤ 8))) = true := by decide +kernel
theorem wch_ok {k : Nat} (hk : k < 22) : ∃ n, n ≤ 8 ∧ (∀ i, i < n → rdLet (wch k i) = true) ∧ (∀ i, n ≤ i → i < 8 → wch k i = 32) ∧ rdW[k]? = some (rdV 256 0 (wch k) 0 n) := by
  have h := List.all_eq_true.mp wch_all k (List.mem_range.mpr hk)
  rw [Bool.and_eq_true, Bool.and_eq_true, decide_eq_true_eq, decide_eq_true_eq] at h
  obtain ⟨h1, h2, h3⟩ := h
  refine ⟨wLn.getD k 0, h3, fun i hi => ?_, fun i hi hi8 => ?_, h2⟩
  · have := List.all_eq_true.mp h1 i (List.mem_range.mpr (by omega))
    rw [if_pos hi, decide_eq_true_eq] at this
    exact rdLet_iff.mpr this
  · have := List.all_eq_true.mp h1 i (List.mem_range.mpr hi8)
    rw [if_neg (by omega), decide_eq_true_eq] at this
    exact this
/-- letters are told by their number -/
theorem rdV_inj {f h : Nat → Int} {p q : Nat} : ∀ m n : Nat, (∀ j, j < m → rdLet (f (p + j)) = true) → (∀ j, j < n → rdLet (h (q + j)) = true) → rdV 256 0 f p m = rdV 256 0 h q n → m = n ∧ ∀ j, j < m → f (p + j) = h (q + j) := by
  intro m
  induction m with
  | zero =>
    intro n hf hh he
    cases n with
    | zero => exact ⟨rfl, fun j hj => by omega⟩
    | succ n =>
      have h1 := (rdV_256 (g := h) (p := q) n (fun j hj => hh j (by omega))).1
      have h2 := rdLet_iff.mp (hh n (by omega))
      have e1 : rdV 256 0 h q (n + 1) = rdV 256 0 h q n * 256 + (h (q + n) - 0) := rfl
      have e2 : rdV 256 0 f p 0 = 0 := rfl
      omega
  | succ m ih =>
    intro n hf hh he
    have f1 := (rdV_256 (g := f) (p := p) m (fun j hj => hf j (by omega))).1
    have f2 := rdLet_iff.mp (hf m (by omega))
    have e1 : rdV 256 0 f p (m + 1) = rdV 256 0 f p m * 256 + (f (p + m) - 0) := rfl
    cases n with
    | zero =>
      have e2 : rdV 256 0 h q 0 = 0 := rfl
      omega
    | succ n =>
      have h1 := (rdV_256 (g := h) (p := q) n (fun j hj => hh j (by omega))).1
      have h2 := rdLet_iff.mp (hh n (by omega))
      have e2 : rdV 256 0 h q (n + 1) = rdV 256 0 h q n * 256 + (h (q + n) - 0) := rfl
      obtain ⟨a1, a2⟩ := ih n (fun j hj => hf j (by omega)) (fun j hj => hh j (by omega)) (by omega)
      refine ⟨by omega, fun j hj => ?_⟩
      by_cases hjm : j = m
      · subst a1
        rw [hjm]
        omega
      · exact a2 j (by omega)
theorem rdV_congr {f h : Nat → Int} {p q : Nat} : ∀ m : Nat, (∀ j, j < m → f (p + j) = h (q + j)) → rdV 256 0 f p m = rdV 256 0 h q m := by
  intro m
  induction m with
  | zero => intro _; rfl
  | succ m ih =>
    intro hj
    simp only [rdV]
    rw [ih (fun j h => hj j (by omega)), hj m (by omega)]
/-- is a text's word the k-th constant, sign by sign -/
theorem ct_word {k p e : Nat} (hk : k < 22) (hpe : p ≤ e) (he : e - p ≤ 8) (hl : ∀ j, p ≤ j → j < e → rdLet (g j) = true) : (∀ i, i < 8 → wch k i = if p + i < e then g (p + i) else 32) ↔ rdW[k]? = some (rdV 256 0 g p (e - p)) := by
  obtain ⟨n, n8, nl, nb, nv⟩ := wch_ok hk
  rw [nv]
  have hlj : ∀ j, j < e - p → rdLet (g (p + j)) = true := fun j hj => hl (p + j) (by omega) (by omega)
  have nl' : ∀ i, i < n → rdLet (wch k (0 + i)) = true := fun i hi => by rw [Nat.zero_add]; exact nl i hi
  constructor
  · intro h
    have hn : n = e - p := by
      rcases Nat.lt_trichotomy n (e - p) with hlt | heq | hgt
      · have h1 := h n (by omega)
        rw [nb n (Nat.le_refl n) (by omega), if_pos (by omega)] at h1
        have h2 := rdLet_iff.mp (hlj n hlt)
        omega
      · exact heq
      · have h1 := h (e - p) (by omega)
        rw [if_neg (by omega)] at h1
        have h2 := rdLet_iff.mp (nl (e - p) hgt)
        omega
    rw [hn]
    congr 1
    refine rdV_congr (e - p) fun j hj => ?_
    rw [Nat.zero_add, h j (by omega), if_pos (by omega)]
  · intro h i hi
    have h := Option.some.inj h
    obtain ⟨a1, a2⟩ := rdV_inj n (e - p) nl' hlj h
    by_cases hin : i < n
    · have := a2 i hin
      rw [Nat.zero_add] at this
      rw [this, if_pos (by omega)]
    · rw [nb i (by omega) hi, if_neg (by omega)]
theorem ct_isWord (hd : 1 ≤ d) (hT : cTx g N C) {k p e : Nat} (hk : k < 22) (hpe : p ≤ e) (heN : e ≤ N) :
    ∃ r : Int, xM d 90 [kR, .inl ((8 * k : Nat) : Int), .inl (p : Int), .inl (e : Int)] C = some (r, C) ∧ ((r = 1 ∧ ∀ i, i < 8 → wch k i = if p + i < e then g (p + i) else 32) ∨ (r = 0 ∧ ¬ ∀ i, i < 8 → wch k i = if p + i < e then g (p + i) else 32)) := by
  obtain ⟨d, rfl⟩ := Nat.exists_eq_add_of_le' hd
  obtain ⟨h0, h1, -, hN, hg⟩ := hT
  have e0 : (C 26 0).toNat = 1 := by rw [h0]; rfl
  rw [xm_X9_isWord]
  have key : ∀ (m i : Nat) (o : Option xV), i + m = 8 → (∀ j, j < i → wch k j = if p + j < e then g (p + j) else 32) →
      ∃ r : Int, xw_X9_isWord d (3, [some kR, some (.inl ((8 * k : Nat) : Int)), some (.inl (p : Int)), some (.inl (e : Int)), some (.inl (i : Int)), o], [], C) = some (r, C) ∧ ((r = 1 ∧ ∀ i, i < 8 → wch k i = if p + i < e then g (p + i) else 32) ∨ (r = 0 ∧ ¬ ∀ i, i < 8 → wch k i = if p + i < e then g (p + i) else 32)) := by
    intro m
    induction m with
    | zero =>
      intro i o hi hall
      have : i = 8 := by omega
      subst this
      refine ⟨1, ?_, Or.inl ⟨rfl, hall⟩⟩
      rw [xl_X9_isWord_3]
      rfl
    | succ m ih =>
      intro i o hi hall
      have ek : ((8 * k : Nat) : Int) + (i : Int) = ((8 * k + i : Nat) : Int) := by omega
      have ew : (sCh (yWb.getD (8 * k + i) 0)).toInt = wch k i := rfl
      have eb : (decide (0 ≤ ((8 * k + i : Nat) : Int)) && decide (((8 * k + i : Nat) : Int) < 176)) = true := by
        rw [Bool.and_eq_true, decide_eq_true_eq, decide_eq_true_eq]; omega
      rw [xl_X9_isWord_3]
      simp only [Bool.cond_decide]
      rw [if_neg (show ¬ (8 ≤ (i : Int)) by omega), w32_a (i := p) (j := i) (by omega), ek, eb, Int.toNat_natCast, ew, w32_s (i := i) (by omega)]
      simp only [cond_true]
      by_cases hin : p + i < e
      · have eix : xix ((p + i : Nat) : Int) 1700 = true := xixz.mpr ⟨by omega, by omega⟩
        rw [if_neg (show ¬ ((e : Int) ≤ ((p + i : Nat) : Int)) by omega), eix, e0, Int.toNat_natCast, hg (p + i) (by omega)]
        simp only [cond_true]
        by_cases hc : wch k i = g (p + i)
        · rw [if_pos hc]
          refine ih (i + 1) _ (by omega) fun j hj => ?_
          by_cases hji : j = i
          · rw [hji, hc, if_pos hin]
          · exact hall j (by omega)
        · rw [if_neg hc]
          refine ⟨0, rfl, Or.inr ⟨rfl, fun hh => hc ?_⟩⟩
          have := hh i (by omega)
          rwa [if_pos hin] at this
      · rw [if_pos (show (e : Int) ≤ ((p + i : Nat) : Int) by omega)]
        by_cases hc : wch k i = 32
        · rw [if_pos hc]
          refine ih (i + 1) _ (by omega) fun j hj => ?_
          by_cases hji : j = i
          · rw [hji, hc, if_neg hin]
          · exact hall j (by omega)
        · rw [if_neg hc]
          refine ⟨0, rfl, Or.inr ⟨rfl, fun hh => hc ?_⟩⟩
          have := hh i (by omega)
          rwa [if_neg hin] at this
  exact key 8 0 none (by omega) (fun j hj => by omega)
theorem ct_wordKind (hd : 2 ≤ d) (hT : cTx g N C) {p e : Nat} (hpe : p ≤ e) (heN : e ≤ N) (he : e - p ≤ 8) (hl : ∀ j, p ≤ j → j < e → rdLet (g j) = true) :
    xM d 89 [kR, .inl (p : Int), .inl (e : Int)] C = some (rdKw (rdV 256 0 g p (e - p)), C) := by
  obtain ⟨d, rfl⟩ := Nat.exists_eq_add_of_le' (show 1 ≤ d by omega)
  rw [xm_X9_wordKind]
  have hle := rdKw_le (rdV 256 0 g p (e - p))
  have key : ∀ (m k : Nat), k + m = 22 → (∀ j, j < k → rdKw (rdV 256 0 g p (e - p)) ≠ (j : Int)) →
      xw_X9_wordKind d (2, [some kR, some (.inl (p : Int)), some (.inl (e : Int)), some (.inl (k : Int))], [], C) = some (rdKw (rdV 256 0 g p (e - p)), C) := by
    intro m
    induction m with
    | zero =>
      intro k hk hall
      have : k = 22 := by omega
      subst this
      have h22 : rdKw (rdV 256 0 g p (e - p)) = 22 := by
        rcases Int.lt_or_le (rdKw (rdV 256 0 g p (e - p))) 22 with h | h
        · exact absurd (show rdKw (rdV 256 0 g p (e - p)) = (((rdKw (rdV 256 0 g p (e - p))).toNat : Nat) : Int) by omega) (hall _ (by omega))
        · omega
      rw [xl_X9_wordKind_2, h22]
      rfl
    | succ m ih =>
      intro k hk hall
      have hk22 : k < 22 := by omega
      have hkk : ¬ (22 ≤ (k : Int)) := by omega
      obtain ⟨r, r1, r2⟩ := ct_isWord (d := d) (by omega) hT hk22 hpe heN
      rw [ct_word hk22 hpe he hl] at r2
      rw [xl_X9_wordKind_2]
      simp only [Bool.cond_decide]
      rw [if_neg hkk, w32_8 (i := k) (by omega), r1]
      simp only [Option.bind_some]
      have hgk : rdW[k]? = some (rdW[k]'(by exact hk22)) := List.getElem?_eq_getElem _
      rcases r2 with ⟨r2, r3⟩ | ⟨r2, r3⟩
      · rw [r2, if_neg (by decide)]
        rw [(rdKw_iff _ r3).mpr rfl]
      · rw [r2, if_pos rfl, w32_s (i := k) (by omega)]
        refine ih (k + 1) (by omega) fun j hj => ?_
        by_cases hjk : j = k
        · rw [hjk]
          intro hh
          have := (rdKw_iff _ hgk).mp hh
          exact r3 (by rw [hgk, this])
        · exact hall j (by omega)
  exact key 22 0 (by omega) (fun j hj => by omega)
end cWords
