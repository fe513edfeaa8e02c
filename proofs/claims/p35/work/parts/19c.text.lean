/-! What a text tells, written without a machine: runs, numbers, words, tokens. -/
section rdText
def rdLet (c : Int) : Bool := decide (97 ≤ c) && decide (c ≤ 122)
def rdDig (c : Int) : Bool := decide (48 ≤ c) && decide (c ≤ 57)
def rdBlk (c : Int) : Bool := decide (c = 32) || decide (c = 10)
def rdSg : List Int := [59, 40, 41, 60, 62, 61, 43, 45, 42, 47, 37]
def rdSgn (c : Int) : Bool := decide (c ∈ rdSg)
theorem rdLet_iff {c : Int} : rdLet c = true ↔ 97 ≤ c ∧ c ≤ 122 := by simp [rdLet]
theorem rdDig_iff {c : Int} : rdDig c = true ↔ 48 ≤ c ∧ c ≤ 57 := by simp [rdDig]
theorem rdBlk_iff {c : Int} : rdBlk c = true ↔ c = 32 ∨ c = 10 := by simp [rdBlk]
theorem rdSgn_iff {c : Int} : rdSgn c = true ↔ c ∈ rdSg := by simp [rdSgn]
theorem rdSg_iff {c : Int} : c ∈ rdSg ↔ c = 59 ∨ c = 40 ∨ c = 41 ∨ c = 60 ∨ c = 62 ∨ c = 61 ∨ c = 43 ∨ c = 45 ∨ c = 42 ∨ c = 47 ∨ c = 37 := by simp [rdSg]
/-- the end of a run -/
def rdRun (P : Int → Bool) (g : Nat → Int) (N : Nat) : Nat → Nat → Nat
  | 0, p => p
  | n + 1, p => match decide (p < N) && P (g p) with
    | true => rdRun P g N n (p + 1)
    | false => p
def rdEnd (P : Int → Bool) (g : Nat → Int) (N p : Nat) : Nat := rdRun P g N (N - p) p
variable {P : Int → Bool} {g : Nat → Int} {N : Nat}
theorem rdEnd_on {p : Nat} (h : p < N) (hp : P (g p) = true) : rdEnd P g N p = rdEnd P g N (p + 1) := by
  unfold rdEnd
  have e : N - p = (N - (p + 1)) + 1 := by omega
  rw [e]
  simp only [rdRun, decide_eq_true h, hp, Bool.and_self]
theorem rdEnd_off {p : Nat} (h : ¬ (p < N ∧ P (g p) = true)) : rdEnd P g N p = p := by
  unfold rdEnd
  cases N - p with
  | zero => rfl
  | succ n =>
    have e : (decide (p < N) && P (g p)) = false := by
      cases hb : (decide (p < N) && P (g p)) with
      | false => rfl
      | true =>
        rw [Bool.and_eq_true, decide_eq_true_eq] at hb
        exact absurd hb h
    simp only [rdRun, e]
theorem rdRun_spec : ∀ (n p : Nat), N ≤ p + n → p ≤ rdRun P g N n p ∧ (p ≤ N → rdRun P g N n p ≤ N) ∧ (∀ j, p ≤ j → j < rdRun P g N n p → P (g j) = true) ∧ ¬ (rdRun P g N n p < N ∧ P (g (rdRun P g N n p)) = true) := by
  intro n
  induction n with
  | zero =>
    intro p h
    refine ⟨Nat.le_refl _, fun h => h, fun j h1 h2 => ?_, fun h1 => ?_⟩
    · have h2 : j < p := h2
      omega
    · have h2 : p < N := h1.1
      omega
  | succ n ih =>
    intro p h
    cases hb : (decide (p < N) && P (g p)) with
    | false =>
      have e : rdRun P g N (n + 1) p = p := by simp only [rdRun, hb]
      rw [e]
      refine ⟨Nat.le_refl _, fun h => h, fun j h1 h2 => by omega, fun h1 => ?_⟩
      have : (decide (p < N) && P (g p)) = true := by rw [Bool.and_eq_true, decide_eq_true_eq]; exact h1
      rw [hb] at this
      cases this
    | true =>
      have e : rdRun P g N (n + 1) p = rdRun P g N n (p + 1) := by simp only [rdRun, hb]
      rw [Bool.and_eq_true, decide_eq_true_eq] at hb
      obtain ⟨a1, a2, a3, a4⟩ := ih (p + 1) (by omega)
      rw [e]
      refine ⟨by omega, fun _ => a2 (by omega), fun j h1 h2 => ?_, a4⟩
      by_cases hj : j = p
      · rw [hj]; exact hb.2
      · exact a3 j (by omega) h2
theorem rdEnd_spec (p : Nat) : p ≤ rdEnd P g N p ∧ (p ≤ N → rdEnd P g N p ≤ N) ∧ (∀ j, p ≤ j → j < rdEnd P g N p → P (g j) = true) ∧ ¬ (rdEnd P g N p < N ∧ P (g (rdEnd P g N p)) = true) := rdRun_spec (N - p) p (by omega)
/-- a run that is as long as can be -/
theorem rdEnd_eq {p : Nat} : ∀ (n : Nat), (∀ j, j < n → p + j < N ∧ P (g (p + j)) = true) → ¬ (p + n < N ∧ P (g (p + n)) = true) → rdEnd P g N p = p + n := by
  intro n
  induction n generalizing p with
  | zero => intro _ h; exact rdEnd_off h
  | succ n ih =>
    intro h1 h2
    have h0 := h1 0 (by omega)
    rw [Nat.add_zero] at h0
    rw [rdEnd_on h0.1 h0.2, ih (p := p + 1) (fun j hj => by have := h1 (j + 1) (by omega); rwa [show p + (j + 1) = p + 1 + j by omega] at this) (by rwa [show p + (n + 1) = p + 1 + n by omega] at h2)]
    omega
/-- the number that so many signs are -/
def rdV (b o : Int) (g : Nat → Int) (p : Nat) : Nat → Int
  | 0 => 0
  | n + 1 => rdV b o g p n * b + (g (p + n) - o)
def rdW : List Int := [2003133803, 448546566771, 499967946343, 29807, 7102839, 491328337011, 26982, 1952998766, 6385252, 1684366692, 6447470, 1735352684, 1734437230, 444351474788, 28518, 512735736947, 27696025463252339, 28530, 1634497391, 7237492, 6578553, 1752135026]
def rdKw (w : Int) : Int := ((rdW.idxOf w : Nat) : Int)
theorem rdKw_le (w : Int) : 0 ≤ rdKw w ∧ rdKw w ≤ 22 := by
  unfold rdKw
  have h : rdW.idxOf w ≤ rdW.length := List.idxOf_le_length
  have e : rdW.length = 22 := rfl
  omega
theorem rdKw_iff (w : Int) {j : Nat} {c : Int} (hc : rdW[j]? = some c) : rdKw w = (j : Int) ↔ w = c := by
  unfold rdKw
  have hj : j < rdW.length := by
    rcases Nat.lt_or_ge j rdW.length with h | h
    · exact h
    · rw [List.getElem?_eq_none h] at hc; cases hc
  have hg : rdW[j] = c := by
    rw [List.getElem?_eq_getElem hj] at hc
    exact Option.some.inj hc
  have hn : rdW.Nodup := by decide
  constructor
  · intro h
    have h : rdW.idxOf w = j := by omega
    have hlt : rdW.idxOf w < rdW.length := by omega
    have := List.getElem_idxOf hlt
    rw [← this, ← hg]
    simp only [h]
  · intro h
    have h2 : rdW.idxOf w = j := by
      rw [h, ← hg]
      exact hn.idxOf_getElem j hj
    omega
/-- what token stands at a place that is no blank: its kind, its end, its number -/
def rdK (g : Nat → Int) (N p : Nat) : Int := if N ≤ p then 24 else if rdLet (g p) = true then (if 8 < rdEnd rdLet g N p - p then 25 else rdKw (rdV 256 0 g p (rdEnd rdLet g N p - p))) else if rdDig (g p) = true then (if 4 < rdEnd rdDig g N p - p ∨ (rdEnd rdDig g N p < N ∧ rdLet (g (rdEnd rdDig g N p)) = true) then 25 else 23) else if rdSgn (g p) = true then g p else 25
def rdE (g : Nat → Int) (N p : Nat) : Nat := if N ≤ p then p else if rdLet (g p) = true then rdEnd rdLet g N p else if rdDig (g p) = true then rdEnd rdDig g N p else p + 1
def rdVal (g : Nat → Int) (N p : Nat) : Int := if N ≤ p then 0 else if rdLet (g p) = true then rdV 27 96 g p (rdEnd rdLet g N p - p) else if rdDig (g p) = true then rdV 10 48 g p (rdEnd rdDig g N p - p) else 0
/-- the places of the tokens -/
def rdP (g : Nat → Int) (N : Nat) : Nat → Nat
  | 0 => rdEnd rdBlk g N 0
  | i + 1 => rdEnd rdBlk g N (rdE g N (rdP g N i))
theorem rdPow {b n m : Nat} (hb : 0 < b) (h : n ≤ m) : (b : Int) ^ n ≤ (b : Int) ^ m := by
  rw [← Int.natCast_pow, ← Int.natCast_pow]
  exact Int.ofNat_le.mpr (Nat.pow_le_pow_right hb h)
theorem rdPow256 {n m : Nat} (h : n ≤ m) : (256 : Int) ^ n ≤ 256 ^ m := rdPow (b := 256) (by decide) h
theorem rdPow27 {n m : Nat} (h : n ≤ m) : (27 : Int) ^ n ≤ 27 ^ m := rdPow (b := 27) (by decide) h
theorem rdPow10 {n m : Nat} (h : n ≤ m) : (10 : Int) ^ n ≤ 10 ^ m := rdPow (b := 10) (by decide) h
/-- a word by 27 read by 256 -/
def rdC : Nat → Int → Int
  | 0, _ => 0
  | n + 1, v => if v ≤ 0 then 0 else rdC n (v / 27) * 256 + (v % 27 + 96)
theorem rdC_nn : ∀ (n : Nat) (v : Int), 0 ≤ rdC n v := by
  intro n
  induction n with
  | zero => intro v; exact Int.le_refl 0
  | succ n ih =>
    intro v
    simp only [rdC]
    split
    · omega
    · have := ih (v / 27)
      have := Int.emod_nonneg v (show (27 : Int) ≠ 0 by decide)
      omega
theorem rdC_inj : ∀ (n : Nat) (v w : Int), 0 ≤ v → v < 27 ^ n → 0 ≤ w → w < 27 ^ n → rdC n v = rdC n w → v = w := by
  intro n
  induction n with
  | zero => intro v w h1 h2 h3 h4 _; simp only [Int.pow_zero] at h2 h4; omega
  | succ n ih =>
    intro v w h1 h2 h3 h4 h
    rw [Int.pow_succ] at h2 h4
    simp only [rdC] at h
    have n1 := rdC_nn n (v / 27)
    have n2 := rdC_nn n (w / 27)
    have m1 := Int.emod_nonneg v (show (27 : Int) ≠ 0 by decide)
    have m2 := Int.emod_nonneg w (show (27 : Int) ≠ 0 by decide)
    have m3 := Int.emod_lt_of_pos v (show (0 : Int) < 27 by decide)
    have m4 := Int.emod_lt_of_pos w (show (0 : Int) < 27 by decide)
    split at h
    · split at h
      · omega
      · omega
    · split at h
      · omega
      · have q : rdC n (v / 27) = rdC n (w / 27) := by omega
        have := ih (v / 27) (w / 27) (by omega) (by omega) (by omega) (by omega) q
        omega
theorem rd27 : (27 : Int) ^ 8 = 282429536481 := rfl
theorem rdC_inj8 {v w : Int} (h1 : 0 ≤ v) (h2 : v < 282429536481) (h3 : 0 ≤ w) (h4 : w < 282429536481) (h : rdC 8 v = rdC 8 w) : v = w := rdC_inj 8 v w h1 (by rw [rd27]; exact h2) h3 (by rw [rd27]; exact h4) h
theorem rdC_V {p : Nat} : ∀ (m n : Nat), m ≤ n → (∀ j, j < m → rdLet (g (p + j)) = true) → 0 ≤ rdV 27 96 g p m ∧ rdV 27 96 g p m < 27 ^ m ∧ rdC n (rdV 27 96 g p m) = rdV 256 0 g p m := by
  intro m
  induction m with
  | zero =>
    intro n _ _
    refine ⟨Int.le_refl 0, by simp [rdV], ?_⟩
    cases n with
    | zero => rfl
    | succ n => simp [rdC, rdV]
  | succ m ih =>
    intro n hn hl
    obtain ⟨n, rfl⟩ : ∃ n', n = n' + 1 := ⟨n - 1, by omega⟩
    obtain ⟨h1, h2, h3⟩ := ih n (by omega) (fun j hj => hl j (by omega))
    have hm := rdLet_iff.mp (hl m (by omega))
    rw [Int.pow_succ]
    have hv : rdV 27 96 g p (m + 1) = rdV 27 96 g p m * 27 + (g (p + m) - 96) := rfl
    have hw : rdV 256 0 g p (m + 1) = rdV 256 0 g p m * 256 + (g (p + m) - 0) := rfl
    rw [hv, hw]
    refine ⟨by omega, by omega, ?_⟩
    rw [rdC, if_neg (by omega)]
    have e1 : (rdV 27 96 g p m * 27 + (g (p + m) - 96)) / 27 = rdV 27 96 g p m := by omega
    have e2 : (rdV 27 96 g p m * 27 + (g (p + m) - 96)) % 27 = g (p + m) - 96 := by omega
    rw [e1, e2, h3]
    omega
/-- a word's bounds by 256 -/
theorem rdV_256 {p : Nat} : ∀ (m : Nat), (∀ j, j < m → rdLet (g (p + j)) = true) → 0 ≤ rdV 256 0 g p m ∧ 2 * rdV 256 0 g p m < 256 ^ m := by
  intro m
  induction m with
  | zero => intro _; exact ⟨Int.le_refl 0, by simp [rdV]⟩
  | succ m ih =>
    intro hl
    obtain ⟨h1, h2⟩ := ih (fun j hj => hl j (by omega))
    have hm := rdLet_iff.mp (hl m (by omega))
    rw [Int.pow_succ]
    simp only [rdV]
    exact ⟨by omega, by omega⟩
theorem rdV_10 {p : Nat} : ∀ (m : Nat), (∀ j, j < m → rdDig (g (p + j)) = true) → 0 ≤ rdV 10 48 g p m ∧ rdV 10 48 g p m < 10 ^ m := by
  intro m
  induction m with
  | zero => intro _; exact ⟨Int.le_refl 0, by simp [rdV]⟩
  | succ m ih =>
    intro hl
    obtain ⟨h1, h2⟩ := ih (fun j hj => hl j (by omega))
    have hm := rdDig_iff.mp (hl m (by omega))
    rw [Int.pow_succ]
    simp only [rdV]
    exact ⟨by omega, by omega⟩
end rdText
