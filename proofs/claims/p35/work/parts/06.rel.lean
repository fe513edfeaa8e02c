/-! What the kernel's machine says of the real one: values, cells, locals, stack; and that each of its instructions is the real one's. -/
def zG (b sz : Nat) (xs : Nat → Int32) : zAV → Value → Prop
  | .inl (.ref i), v => v = .ref (sz + i)
  | .inl (.retAddr _), v => v = .ref b
  | .inl (.int x), v => v = .int x
  | .inl (.long x), v => v = .long x
  | .inl w, v => v = w
  | .inr (k, lo, hi), v => ∃ x : Int32, v = .int x ∧ lo ≤ x.toInt ∧ x.toInt ≤ hi ∧ (k = 0 ∨ x = xs (k - 1))
def zty (kd : Nat) : FieldType := match kd with
  | 0 => .byte
  | 1 => .boolean
  | 2 => .int
  | _ => .long
def zCR (b sz : Nat) (xs : Nat → Int32) (ca : Nat → ClassId) : zAC → va_E → Prop
  | .inl (ci, fs), .inr (cj, vs) => ci = cj ∧ (∃ r, vwCl[ci]? = some r ∧ vs.length = r.2.2) ∧ ∀ (k : Nat) (v : Value), vs[k]? = some v → ∃ a, fget fs k = some a ∧ zG b sz xs a v
  | .inr (kd, len, ct), .inl (cA, ln, .inl f) => kd < 3 ∧ cA = ca kd ∧ len = ln ∧ ∀ N, ct = some N → ∀ j, j < len → f j = Int32.ofNat (zdig 32 N j)
  | .inr (kd, len, ct), .inl (cA, ln, .inr (.inl f)) => kd = 3 ∧ cA = ca 3 ∧ len = ln ∧ ∀ N, ct = some N → ∀ j, j < len → f j = Int64.ofNat (zdig 64 N j)
  | _, _ => False
def zWd (b sz : Nat) (xs : Nat → Int32) (ca : Nat → ClassId) (hp : zHp) (n : Nat) (ws : va_W) : Prop :=
  ws.length = n ∧ (∀ (i : Nat) (c : zAC), hget hp i = some c → i < n) ∧ ∀ (i : Nat) (q : Nat × va_E), ws[i]? = some q → q.1 = sz + i ∧ ∃ c, hget hp i = some c ∧ zCR b sz xs ca c q.2
abbrev zA (sz : Nat) : Nat → Prop := fun q => sz ≤ q
def zTys (ca : Nat → ClassId) : List (ClassId × FieldType) := [(ca 0, .byte), (ca 1, .boolean), (ca 2, .int), (ca 3, .long)]
def zHeap (b sz : Nat) (xs : Nat → Int32) (D : va_G) (ca : Nat → ClassId) (s : State) (hp : zHp) (n : Nat) (H : Heap) (locs : List Loc) : Prop :=
  ∃ ws, zWd b sz xs ca hp n ws ∧ va_P D vwCl ws H ∧ va_D (zA sz) ws ∧ va_S (zA sz) s.heap H locs
def zLR (b sz : Nat) (xs : Nat → Int32) (ls : Array Slot) (nL : Nat) (L : List (Option zAV)) : Prop :=
  L.length = nL ∧ ∃ lv, lv_has ls nL lv ∧ ∀ (i : Nat) (a : zAV), zget L i = some (some a) → ∃ v, zG b sz xs a v ∧ (i, v) ∈ lv
def zSR (b sz : Nat) (xs : Nat → Int32) : List zAV → List Value → Prop
  | [], [] => True
  | a :: S, v :: st => zG b sz xs a v ∧ zSR b sz xs S st
  | _, _ => False
section zVal
variable {b sz : Nat} {xs : Nat → Int32} {a a' : zAV} {v w : Value}
theorem zG_con {x : Int32} (h : zG b sz xs a v) (hc : zcon a = some x) : v = .int x := by
  rcases a with a | a
  · cases a <;> simp [zcon] at hc
    subst hc
    exact h
  · simp [zcon] at hc
theorem zG_lon {x : Int64} (h : zG b sz xs a v) (hc : zlon a = some x) : v = .long x := by
  rcases a with a | a
  · cases a <;> simp [zlon] at hc
    subst hc
    exact h
  · simp [zlon] at hc
theorem zG_rf {i : Nat} (h : zG b sz xs a v) (hc : zrf a = some i) : v = .ref (sz + i) := by
  rcases a with a | a
  · cases a <;> simp [zrf] at hc
    subst hc
    exact h
  · simp [zrf] at hc
theorem zG_scr (h : zG b sz xs a v) (hc : zscr a = true) : v = .ref b := by
  rcases a with a | a
  · cases a <;> simp [zscr] at hc
    exact h
  · simp [zscr] at hc
theorem zG_int (h : zG b sz xs a v) (hc : zii a = true) : ∃ x : Int32, v = .int x := by
  rcases a with a | ⟨k, lo, hi⟩
  · cases a <;> simp [zii] at hc
    exact ⟨_, h⟩
  · obtain ⟨x, h1, -⟩ := h
    exact ⟨x, h1⟩
theorem zG_rng {x : Int32} {lo hi : Int} (h : zG b sz xs a (.int x)) (hc : zrng a = some (lo, hi)) : lo ≤ x.toInt ∧ x.toInt ≤ hi := by
  rcases a with a | ⟨k, l, u⟩
  · cases a <;> simp [zrng] at hc
    obtain ⟨rfl, rfl⟩ := hc
    have : Value.int x = .int _ := h
    cases this
    exact ⟨Int.le_refl _, Int.le_refl _⟩
  · simp [zrng] at hc
    obtain ⟨rfl, rfl⟩ := hc
    obtain ⟨y, h1, h2, h3, -⟩ := h
    cases h1
    exact ⟨h2, h3⟩
theorem zG_isint {r : Int × Int} (h : zG b sz xs a v) (hc : zrng a = some r) : ∃ x : Int32, v = .int x := by
  rcases a with a | ⟨k, l, u⟩
  · cases a <;> simp [zrng] at hc
    exact ⟨_, h⟩
  · obtain ⟨y, h1, -⟩ := h
    exact ⟨y, h1⟩
theorem zG_cat (h : zG b sz xs a v) : v.category = zcat a := by
  rcases a with a | ⟨k, l, u⟩
  · cases a <;> first | (have h1 : v = _ := h; rw [h1]; rfl) | exact h.elim
  · obtain ⟨y, h1, -⟩ := h
    rw [h1]; rfl
theorem zG_top (x : Int32) : zG b sz xs ztop (.int x) := ⟨x, rfl, by have := x.le_toInt; simpa using this, by have := x.toInt_lt; omega, Or.inl rfl⟩
theorem zG_self (x : Int32) : zG b sz xs (.inl (.int x)) (.int x) := rfl
theorem zG_conv {x : Int32} (hc : zcon a = some x) : a = .inl (.int x) := by
  rcases a with a | a
  · cases a <;> simp [zcon] at hc
    rw [hc]
  · simp [zcon] at hc
theorem zcmp_ok {cd : ClassFile.Cond} {r : Bool} (h : zcmp cd a a' = some r) (h1 : zG b sz xs a v) (h2 : zG b sz xs a' w) : ∃ x y : Int32, v = .int x ∧ w = .int y ∧ (r = true ↔ zholds cd x y) := by
  unfold zcmp at h
  cases ha : zcon a with
  | some x =>
    rw [ha] at h
    have e1 := zG_con h1 ha
    subst e1
    dsimp only at h
    cases hb : zcon a' with
    | some y =>
      rw [hb] at h
      have e2 := zG_con h2 hb
      cases h
      exact ⟨x, y, rfl, e2, zcc_iff cd x y⟩
    | none =>
      rw [hb] at h
      dsimp only at h
      cases hr : zrng a' with
      | none => rw [hr] at h; cases h
      | some q =>
        obtain ⟨l2, u2⟩ := q
        rw [hr] at h
        obtain ⟨y, rfl⟩ := zG_isint h2 hr
        obtain ⟨g1, g2⟩ := zG_rng h2 hr
        exact ⟨x, y, rfl, rfl, zci_ok h (Int.le_refl _) (Int.le_refl _) g1 g2⟩
  | none =>
    rw [ha] at h
    dsimp only at h
    split at h
    · rename_i hid
      simp only [Bool.and_eq_true, Nat.blt_eq] at hid
      obtain ⟨i1, i2⟩ := hid
      have i2 := Nat.eq_of_beq_eq_true i2
      rcases a with a | ⟨k, lo, hi⟩
      · simp [zid] at i1
      · rcases a' with a' | ⟨k', lo', hi'⟩
        · rw [i2] at i1; simp [zid] at i1
        · simp only [zid] at i1 i2
          subst i2
          obtain ⟨x, e1, -, -, e2⟩ := h1
          obtain ⟨y, e3, -, -, e4⟩ := h2
          have hx : x = xs (k - 1) := e2.resolve_left (by omega)
          have hy : y = xs (k - 1) := e4.resolve_left (by omega)
          refine ⟨x, y, e1, e3, ?_⟩
          have hxy : x = y := hx.trans hy.symm
          subst hxy
          cases h
          cases cd <;> simp [zrefl, zholds]
    · cases hr : zrng a with
      | none => rw [hr] at h; cases h
      | some q =>
        obtain ⟨l1, u1⟩ := q
        rw [hr] at h
        dsimp only at h
        cases hs : zrng a' with
        | none => rw [hs] at h; cases h
        | some q2 =>
          obtain ⟨l2, u2⟩ := q2
          rw [hs] at h
          obtain ⟨x, rfl⟩ := zG_isint h1 hr
          obtain ⟨y, rfl⟩ := zG_isint h2 hs
          obtain ⟨f1, f2⟩ := zG_rng h1 hr
          obtain ⟨g1, g2⟩ := zG_rng h2 hs
          exact ⟨x, y, rfl, rfl, zci_ok h f1 f2 g1 g2⟩
/-- what an operation of two ints gives -/
def zOp (b sz : Nat) (xs : Nat → Int32) (op : zAV → zAV → (zAV → zOut) → zOut) (f : Int32 → Int32 → Int32) : Prop :=
  ∀ (x y : zAV) (k : zAV → zOut) (r : Bool × zCfg), op x y k = some r → ∃ z, k z = some r ∧ ∀ vx vy, zG b sz xs x vx → zG b sz xs y vy → ∃ p q : Int32, vx = .int p ∧ vy = .int q ∧ zG b sz xs z (.int (f p q))
theorem zbin_ok (f : Int32 → Int32 → Int32) : zOp b sz xs (zbin f) f := by
  intro x y k r h
  unfold zbin at h
  try unfold zif at h
  cases hx : zcon x with
  | some p =>
    rw [hx] at h
    dsimp only at h
    cases hy : zcon y with
    | some q =>
      rw [hy] at h
      dsimp only at h
      rw [zint_eq] at h
      exact ⟨_, h, fun vx vy h1 h2 => ⟨p, q, zG_con h1 hx, zG_con h2 hy, rfl⟩⟩
    | none =>
      rw [hy] at h
      dsimp only at h
      split at h
      · rename_i hb
        refine ⟨_, h, fun vx vy h1 h2 => ?_⟩
        obtain ⟨q, e⟩ := zG_int h2 hb
        exact ⟨p, q, zG_con h1 hx, e, zG_top _⟩
      · cases h
  | none =>
    rw [hx] at h
    dsimp only at h
    split at h
    · rename_i hb
      rw [Bool.and_eq_true] at hb
      refine ⟨_, h, fun vx vy h1 h2 => ?_⟩
      obtain ⟨p, e1⟩ := zG_int h1 hb.1
      obtain ⟨q, e⟩ := zG_int h2 hb.2
      exact ⟨p, q, e1, e, zG_top _⟩
    · cases h
theorem z_is0 {x : Int32} (h : Nat.beq x.toUInt32.toNat 0 = true) : x = 0 := by
  rw [← z_i32 x, Nat.eq_of_beq_eq_true h]; rfl
theorem zadd_ok : zOp b sz xs zadd (· + ·) := by
  intro x y k r h
  unfold zadd at h
  try unfold zif at h
  cases hx : zcon x with
  | some p =>
    rw [hx] at h
    dsimp only at h
    cases hy : zcon y with
    | some q =>
      rw [hy] at h
      dsimp only at h
      rw [zint_eq] at h
      exact ⟨_, h, fun vx vy h1 h2 => ⟨p, q, zG_con h1 hx, zG_con h2 hy, rfl⟩⟩
    | none =>
      rw [hy] at h
      dsimp only at h
      split at h
      · rename_i hb
        split at h
        · rename_i h0
          have e0 := z_is0 h0
          subst e0
          refine ⟨_, h, fun vx vy h1 h2 => ?_⟩
          obtain ⟨q, e⟩ := zG_int h2 hb
          subst e
          exact ⟨0, q, zG_con h1 hx, rfl, by simpa using h2⟩
        · refine ⟨_, h, fun vx vy h1 h2 => ?_⟩
          obtain ⟨q, e⟩ := zG_int h2 hb
          exact ⟨p, q, zG_con h1 hx, e, zG_top _⟩
      · cases h
  | none =>
    rw [hx] at h
    dsimp only at h
    cases hy : zcon y with
    | some q =>
      rw [hy] at h
      dsimp only at h
      split at h
      · rename_i hb
        split at h
        · rename_i h0
          have e0 := z_is0 h0
          subst e0
          refine ⟨_, h, fun vx vy h1 h2 => ?_⟩
          obtain ⟨p, e⟩ := zG_int h1 hb
          subst e
          exact ⟨p, 0, rfl, zG_con h2 hy, by simpa using h1⟩
        · refine ⟨_, h, fun vx vy h1 h2 => ?_⟩
          obtain ⟨p, e⟩ := zG_int h1 hb
          exact ⟨p, q, e, zG_con h2 hy, zG_top _⟩
      · cases h
    | none =>
      rw [hy] at h
      dsimp only at h
      split at h
      · rename_i hb
        rw [Bool.and_eq_true] at hb
        refine ⟨_, h, fun vx vy h1 h2 => ?_⟩
        obtain ⟨p, e1⟩ := zG_int h1 hb.1
        obtain ⟨q, e⟩ := zG_int h2 hb.2
        exact ⟨p, q, e1, e, zG_top _⟩
      · cases h
theorem zand_ok {kc : Option Nat} (hkc : ∀ z, kc = some z → xs 0 &&& 63 = Int32.ofNat z) : zOp b sz xs (zand kc) (· &&& ·) := by
  intro x y k r h
  unfold zand at h
  try unfold zif at h
  split at h
  · rename_i lo hi
    split at h
    · rename_i c
      split at h
      · rename_i q hq
        split at h
        · rename_i h63
          refine ⟨_, h, fun vx vy h1 h2 => ?_⟩
          have e63 : q = 63 := by rw [← z_i32 q, Nat.eq_of_beq_eq_true h63]; rfl
          subst e63
          obtain ⟨p, e1, -, -, e2⟩ := h1
          have hp : p = xs 0 := e2.resolve_left (by decide)
          refine ⟨p, 63, e1, zG_con h2 hq, ?_⟩
          show Value.int (p &&& 63) = .int _
          rw [hp, hkc c rfl]
        · cases h
      · cases h
    · cases h
  · exact zbin_ok (· &&& ·) _ _ k r h
end zVal
