/-! The third machine's instructions that only take and give values are the real ones. -/
section xRel
def xRv (b sz : Nat) (sr : List Nat) : xV → Value → Prop
  | .inl z, w => ∃ x : Int32, w = .int x ∧ x.toInt = z
  | .inr (.inl z), w => ∃ x : Int64, w = .long x ∧ x.toInt = z
  | .inr (.inr (.inl (i, t))), w => w = .ref (sz + i) ∧ sr[i]? = some t
  | .inr (.inr (.inr _)), w => w = .ref b
/-- what C says of a value that lies at a place -/
def xCv (sz : Nat) (z : Int) : Value → Prop
  | .int x => z = x.toInt
  | .long x => z = x.toInt
  | .ref a => ∃ k : Nat, a = sz + k ∧ z = (k : Int)
  | _ => True
/-- the cells hold what C says -/
def xCt (sz : Nat) (C : xC) (ws : va_W) : Prop := ∀ (i j : Nat) (c : Nat × va_E) (w : Value), ws[i]? = some c → yct c.2 j = some w → xCv sz (C i j) w
def xHp (sz : Nat) (sr : List Nat) (tt : List yKd) (D : va_G) (ca : Nat → ClassId) (s : State) (C : xC) (H : Heap) (locs : List Loc) : Prop :=
  ∃ ws, yWd sz sr tt ca ws ∧ va_P D vwCl ws H ∧ va_D (zA sz) ws ∧ va_S (zA sz) s.heap H locs ∧ xCt sz C ws
def xLR (b sz : Nat) (sr : List Nat) (ls : Array Slot) (nL : Nat) (L : List (Option xV)) : Prop :=
  L.length = nL ∧ ∃ lv, lv_has ls nL lv ∧ ∀ (i : Nat) (a : xV), zget L i = some (some a) → ∃ w, xRv b sz sr a w ∧ (i, w) ∈ lv
def xSR (b sz : Nat) (sr : List Nat) : List xV → List Value → Prop
  | [], [] => True
  | a :: S, w :: st => xRv b sz sr a w ∧ xSR b sz sr S st
  | _, _ => False
def xAt (p : Program) (l : Launch) (e : Env) (R : Room) (s : State) (m : MethodId) (args : Array Value) (below : List Frame) (meth : Method) (c : Code) (Q : State → Prop) (b sz : Nat) (sr : List Nat) (tt : List yKd) (D : va_G) (ca : Nat → ClassId) (nL K0 S0 : Nat) (cf : xCf) : Prop :=
  ∀ (H : Heap) (ls : Array Slot) (stk : List Value) (locs : List Loc), xHp sz sr tt D ca s cf.2.2.2 H locs → xLR b sz sr ls nL cf.2.1 → xSR b sz sr cf.2.2.1 stk → W p l e R s m args below meth c H locs K0 S0 Q (F0 m cf.1 ls stk)
variable {p : Program} {l : Launch} {e : Env} {R : Room} {s : State} {m : MethodId} {args : Array Value} {below : List Frame} {meth : Method} {c : Code} {Q : State → Prop}
variable {b sz nL K0 S0 : Nat} {sr : List Nat} {tt : List yKd} {D : va_G} {ca : Nat → ClassId} {ws : va_W} {cc : ByteArray}
variable {pc : Nat} {L : List (Option xV)} {S : List xV} {C : xC} {E : Type} {k : xCf → Option E} {r : E} {H : Heap} {locs : List Loc} {ls : Array Slot} {stk : List Value}
theorem xSR_cons {a : xV} (h : xSR b sz sr (a :: S) stk) : ∃ w st1, stk = w :: st1 ∧ xRv b sz sr a w ∧ xSR b sz sr S st1 := by
  cases stk with
  | nil => exact h.elim
  | cons w t => exact ⟨w, t, rfl, h.1, h.2⟩
theorem xSR_nil (h : xSR b sz sr [] stk) : stk = [] := by
  cases stk with
  | nil => rfl
  | cons w t => exact h.elim
theorem xRv_cat {a : xV} {w : Value} (h : xRv b sz sr a w) : w.category = xcat a := by
  rcases a with z | z | ⟨i, t⟩ | u
  · obtain ⟨x, rfl, -⟩ := h; rfl
  · obtain ⟨x, rfl, -⟩ := h; rfl
  · obtain ⟨rfl, -⟩ := h; rfl
  · have h : w = .ref b := h
    rw [h]; rfl
theorem xSR_sum (h : xSR b sz sr S stk) : (stk.map fun w => w.category).sum = xsum S := by
  induction S generalizing stk with
  | nil => rw [xSR_nil h]; rfl
  | cons a S ih =>
    obtain ⟨w, t, rfl, h1, h2⟩ := xSR_cons h
    simp only [List.map_cons, List.sum_cons, xsum, ih h2, xRv_cat h1]
theorem xg_some {q : Bool} {o : Option E} (h : xg q o = some r) : q = true ∧ o = some r := by
  cases q with
  | true => exact ⟨rfl, h⟩
  | false => cases h
/-- an instruction goes on at one place, and what holds there holds here -/
def xGo (p : Program) (l : Launch) (e : Env) (R : Room) (s : State) (m : MethodId) (args : Array Value) (below : List Frame) (meth : Method) (c : Code) (Q : State → Prop) (b sz : Nat) (sr : List Nat) (tt : List yKd) (D : va_G) (ca : Nat → ClassId) (nL K0 S0 : Nat) {E : Type} (k : xCf → Option E) (r : E) (cf : xCf) : Prop := ∃ cf', k cf' = some r ∧ (xAt p l e R s m args below meth c Q b sz sr tt D ca nL K0 S0 cf' → xAt p l e R s m args below meth c Q b sz sr tt D ca nL K0 S0 cf)
theorem xs_push_ok {len : Nat} {a : xV} {w : Value} (h : xs_push len a pc L S C k = some r) (hv : xRv b sz sr a w)
    (row : ∀ (H : Heap) (ls : Array Slot) (stk : List Value) (locs : List Loc), W p l e R s m args below meth c H locs K0 S0 Q (F0 m (pc + len) ls (w :: stk)) → W p l e R s m args below meth c H locs K0 S0 Q (F0 m pc ls stk)) : xGo p l e R s m args below meth c Q b sz sr tt D ca nL K0 S0 k r (pc, L, S, C) :=
  ⟨_, h, fun hc H ls stk locs hH hL hS => row H ls stk locs (hc H ls (w :: stk) locs hH hL ⟨hv, hS⟩)⟩
theorem xisI_ok {x : xV} {w : Value} (h : xisI x = true) (hv : xRv b sz sr x w) : ∃ z : Int32, w = .int z := by
  rcases x with z | z
  · obtain ⟨y, h1, -⟩ := hv; exact ⟨y, h1⟩
  · cases h
theorem xisJ_ok {x : xV} {w : Value} (h : xisJ x = true) (hv : xRv b sz sr x w) : ∃ z : Int64, w = .long z := by
  rcases x with z | z | z
  · cases h
  · obtain ⟨y, h1, -⟩ := hv; exact ⟨y, h1⟩
  · cases h
theorem xisR_ok {x : xV} {w : Value} (h : xisR x = true) (hv : xRv b sz sr x w) : ∃ z : Nat, w = .ref z := by
  rcases x with z | z | ⟨i, t⟩ | z
  · cases h
  · cases h
  · obtain ⟨h1, -⟩ := hv; exact ⟨_, h1⟩
  · exact ⟨b, hv⟩
theorem xs_load_ok {ok : xV → Bool} {len a : Nat} (h : xs_load ok len a pc L S C k = some r)
    (row : ∀ (H : Heap) (ls : Array Slot) (stk : List Value) (locs : List Loc) (x : xV) (w : Value), ok x = true → xRv b sz sr x w → ls[a]? = some (.val w) → W p l e R s m args below meth c H locs K0 S0 Q (F0 m (pc + len) ls (w :: stk)) → W p l e R s m args below meth c H locs K0 S0 Q (F0 m pc ls stk)) : xGo p l e R s m args below meth c Q b sz sr tt D ca nL K0 S0 k r (pc, L, S, C) := by
  unfold xs_load at h
  split at h
  · rename_i x hg
    obtain ⟨h1, h2⟩ := xg_some h
    refine ⟨_, h2, fun hc H ls stk locs hH hL hS => ?_⟩
    obtain ⟨hlen, lv, hlv, hall⟩ := id hL
    obtain ⟨w, hw, hm⟩ := hall a x hg
    exact row H ls stk locs x w h1 hw (hlv.2.2 (a, w) hm) (hc H ls (w :: stk) locs hH hL ⟨hw, hS⟩)
  · cases h
/-- the locals behind a store of one slot -/
theorem xLR_put {ls' : Array Slot} {a : Nat} {x : xV} {w : Value} {lv : List (Nat × Value)} (hlen : L.length = nL) (hall : ∀ (i : Nat) (y : xV), zget L i = some (some y) → ∃ w, xRv b sz sr y w ∧ (i, w) ∈ lv) (hh : xhalf L a = false) (ha : a < L.length) (hv : xRv b sz sr x w)
    (h' : lv_has ls' nL ((a, w) :: lv.filter (fun q => !(q.1 == a) && !(q.1 + 1 == a && q.2.category == 2)))) : xLR b sz sr ls' nL (L.set a (some x)) := by
  refine ⟨by simp [hlen], _, h', fun i y hi => ?_⟩
  rw [zget_eq] at hi
  by_cases hia : i = a
  · subst hia
    rw [List.getElem?_set_self ha] at hi
    cases hi
    exact ⟨w, hv, List.mem_cons_self⟩
  · rw [List.getElem?_set_ne (Ne.symm hia)] at hi
    obtain ⟨z, hz, hm⟩ := hall i y (by rw [zget_eq]; exact hi)
    refine ⟨z, hz, List.mem_cons_of_mem _ (List.mem_filter.mpr ⟨hm, ?_⟩)⟩
    have h1 : (i == a) = false := by simpa using hia
    by_cases h2 : i + 1 = a
    · subst h2
      have h4 : (z.category == 2) = false := by
        rw [xRv_cat hz]
        simp only [xhalf] at hh
        rw [zget_eq, hi] at hh
        rcases y with y | y | y <;> first | rfl | (simp at hh)
      simp [h1, h4]
    · have h3 : (i + 1 == a) = false := by simpa using h2
      simp [h1, h3]
theorem xs_store_ok {ok : xV → Bool} {len a : Nat} (h : xs_store ok len a pc L S C k = some r)
    (row : ∀ (H : Heap) (ls : Array Slot) (stk : List Value) (locs : List Loc) (x : xV) (w : Value) (lv : List (Nat × Value)), ok x = true → xRv b sz sr x w → lv_has ls nL lv → a < nL → (∀ ls' : Array Slot, lv_has ls' nL ((a, w) :: lv.filter (fun q => !(q.1 == a) && !(q.1 + 1 == a && q.2.category == 2))) → W p l e R s m args below meth c H locs K0 S0 Q (F0 m (pc + len) ls' stk)) → W p l e R s m args below meth c H locs K0 S0 Q (F0 m pc ls (w :: stk))) : xGo p l e R s m args below meth c Q b sz sr tt D ca nL K0 S0 k r (pc, L, S, C) := by
  unfold xs_store at h
  split at h
  · rename_i x r0
    obtain ⟨h1, h2⟩ := xg_some h
    simp only [Bool.and_eq_true, Bool.not_eq_true', Nat.blt_eq] at h1
    obtain ⟨g1, g2, g3⟩ := h1
    refine ⟨_, h2, fun hc H ls stk locs hH hL hS => ?_⟩
    obtain ⟨hlen, lv, hlv, hall⟩ := id hL
    have hlen : L.length = nL := hlen
    obtain ⟨w, st1, rfl, hw, hS1⟩ := xSR_cons hS
    exact row H ls st1 locs x w lv g1 hw hlv (by omega) fun ls' h' => hc H ls' st1 locs hH (xLR_put hlen hall g2 g3 hw h') hS1
  · cases h
theorem xs_lstore_ok {len a : Nat} (h : xs_lstore len a pc L S C k = some r)
    (row : ∀ (H : Heap) (ls : Array Slot) (stk : List Value) (locs : List Loc) (x : Int64) (lv : List (Nat × Value)), lv_has ls nL lv → a + 1 < nL → (∀ ls' : Array Slot, lv_has ls' nL ((a, .long x) :: lv.filter (fun q => !(q.1 == a) && (!(q.1 == a + 1) && !(q.1 + 1 == a && q.2.category == 2)))) → W p l e R s m args below meth c H locs K0 S0 Q (F0 m (pc + len) ls' stk)) → W p l e R s m args below meth c H locs K0 S0 Q (F0 m pc ls (.long x :: stk))) : xGo p l e R s m args below meth c Q b sz sr tt D ca nL K0 S0 k r (pc, L, S, C) := by
  unfold xs_lstore at h
  split at h
  · rename_i x r0
    obtain ⟨h1, h2⟩ := xg_some h
    simp only [Bool.and_eq_true, Bool.not_eq_true', Nat.blt_eq] at h1
    obtain ⟨g1, g2, g3⟩ := h1
    refine ⟨_, h2, fun hc H ls stk locs hH hL hS => ?_⟩
    obtain ⟨hlen, lv, hlv, hall⟩ := id hL
    have hlen : L.length = nL := hlen
    obtain ⟨w, st1, rfl, hw, hS1⟩ := xSR_cons hS
    rcases x with x | x | x
    · cases g1
    · obtain ⟨z, rfl, hz⟩ := hw
      refine row H ls st1 locs z lv hlv (by omega) fun ls' h' => hc H ls' st1 locs hH ⟨by simp [hlen], _, h', fun i y hi => ?_⟩ hS1
      rw [zget_eq] at hi
      by_cases hi1 : i = a + 1
      · subst hi1
        rw [List.getElem?_set_self (by simpa using g3)] at hi
        cases hi
      · rw [List.getElem?_set_ne (Ne.symm hi1)] at hi
        by_cases hia : i = a
        · subst hia
          rw [List.getElem?_set_self (by omega)] at hi
          cases hi
          exact ⟨_, ⟨z, rfl, hz⟩, List.mem_cons_self⟩
        · rw [List.getElem?_set_ne (Ne.symm hia)] at hi
          obtain ⟨w, hw, hm⟩ := hall i y (by rw [zget_eq]; exact hi)
          refine ⟨w, hw, List.mem_cons_of_mem _ (List.mem_filter.mpr ⟨hm, ?_⟩)⟩
          have h1 : (i == a) = false := by simpa using hia
          have h0 : (i == a + 1) = false := by simpa using hi1
          by_cases h2' : i + 1 = a
          · subst h2'
            have h4 : (w.category == 2) = false := by
              rw [xRv_cat hw]
              simp only [xhalf] at g2
              rw [zget_eq, hi] at g2
              rcases y with y | y | y <;> first | rfl | (simp at g2)
            simp [h1, h0, h4]
          · have h3 : (i + 1 == a) = false := by simpa using h2'
            simp [h1, h0, h3]
    · cases g1
  · cases h
theorem w32_add (x y : Int32) : (x + y).toInt = w32 (x.toInt + y.toInt) := Int32.toInt_add x y
theorem w32_sub (x y : Int32) : (x - y).toInt = w32 (x.toInt - y.toInt) := Int32.toInt_sub x y
theorem w32_mul (x y : Int32) : (x * y).toInt = w32 (x.toInt * y.toInt) := Int32.toInt_mul x y
theorem w64_add (x y : Int64) : (x + y).toInt = w64 (x.toInt + y.toInt) := Int64.toInt_add x y
theorem w64_mul (x y : Int64) : (x * y).toInt = w64 (x.toInt * y.toInt) := Int64.toInt_mul x y
theorem x32_op (f : Int32 → Int32 → Int32) (x y : Int32) : (f x y).toInt = x32 f x.toInt y.toInt := by unfold x32; rw [Int32.ofInt_toInt, Int32.ofInt_toInt]
theorem x64_op (f : Int64 → Int64 → Int64) (x y : Int64) : (f x y).toInt = x64 f x.toInt y.toInt := by unfold x64; rw [Int64.ofInt_toInt, Int64.ofInt_toInt]
theorem xsh_op (f : Int64 → Int64 → Int64) (x : Int64) (y : Int32) : (f x y.toInt64).toInt = xsh f x.toInt y.toInt := by unfold xsh; rw [Int64.ofInt_toInt, Int32.ofInt_toInt]
theorem xs_iinc_ok {a b0 : Nat} (h : xs_iinc a b0 pc L S C k = some r)
    (row : ∀ (H : Heap) (ls : Array Slot) (stk : List Value) (locs : List Loc) (y : Int32) (lv : List (Nat × Value)) (j : Nat), lv_has ls nL lv → lv[j]? = some (a, .int y) → a < nL → (∀ ls' : Array Slot, lv_has ls' nL ((a, .int (y + Int32.ofNat b0)) :: lv.filter (fun q => !(q.1 == a) && !(q.1 + 1 == a && q.2.category == 2))) → W p l e R s m args below meth c H locs K0 S0 Q (F0 m (pc + 3) ls' stk)) → W p l e R s m args below meth c H locs K0 S0 Q (F0 m pc ls stk)) : xGo p l e R s m args below meth c Q b sz sr tt D ca nL K0 S0 k r (pc, L, S, C) := by
  unfold xs_iinc at h
  split at h
  · rename_i z hg
    obtain ⟨h1, h2⟩ := xg_some h
    rw [Bool.not_eq_true'] at h1
    refine ⟨_, h2, fun hc H ls stk locs hH hL hS => ?_⟩
    obtain ⟨hlen, lv, hlv, hall⟩ := id hL
    have hlen : L.length = nL := hlen
    obtain ⟨w, hw, hm⟩ := hall a _ hg
    obtain ⟨y, rfl, hy⟩ := hw
    obtain ⟨j, hj⟩ := List.getElem?_of_mem hm
    have ha : a < L.length := by
      rw [zget_eq] at hg
      exact (List.getElem?_eq_some_iff.mp hg).1
    exact row H ls stk locs y lv j hlv hj (by omega) fun ls' h' => hc H ls' stk locs hH (xLR_put hlen hall h1 ha ⟨_, rfl, by rw [w32_add, hy]⟩ h') hS
  · cases h
theorem xs_bin_ok {f : Int → Int → Int} {F : Int32 → Int32 → Int32} (hop : ∀ x y : Int32, (F x y).toInt = f x.toInt y.toInt) (h : xs_bin f pc L S C k = some r)
    (row : ∀ (H : Heap) (ls : Array Slot) (stk : List Value) (locs : List Loc) (x y : Int32), W p l e R s m args below meth c H locs K0 S0 Q (F0 m (pc + 1) ls (.int (F x y) :: stk)) → W p l e R s m args below meth c H locs K0 S0 Q (F0 m pc ls (.int y :: .int x :: stk))) : xGo p l e R s m args below meth c Q b sz sr tt D ca nL K0 S0 k r (pc, L, S, C) := by
  unfold xs_bin at h
  split at h
  · rename_i y x r0
    refine ⟨_, h, fun hc H ls stk locs hH hL hS => ?_⟩
    obtain ⟨w1, s1, rfl, hw1, hS1⟩ := xSR_cons hS
    obtain ⟨w2, s2, rfl, hw2, hS2⟩ := xSR_cons hS1
    obtain ⟨y1, rfl, hy⟩ := hw1
    obtain ⟨x1, rfl, hx⟩ := hw2
    exact row H ls s2 locs x1 y1 (hc H ls _ locs hH hL ⟨⟨_, rfl, by rw [hop, hx, hy]⟩, hS2⟩)
  · cases h
theorem xs_mm_ok {f : Int → Int → Int} {F : Int32 → Int32 → Int32} (hop : ∀ x y : Int32, (F x y).toInt = f x.toInt y.toInt) (h : xs_mm f pc L S C k = some r)
    (row : ∀ (H : Heap) (ls : Array Slot) (stk : List Value) (locs : List Loc) (x y : Int32), ls.size = nL → (stk.map fun w => w.category).sum ≤ 8 → W p l e R s m args below meth c H locs K0 S0 Q (F0 m (pc + 3) ls (.int (F x y) :: stk)) → W p l e R s m args below meth c H locs K0 S0 Q (F0 m pc ls (.int y :: .int x :: stk))) : xGo p l e R s m args below meth c Q b sz sr tt D ca nL K0 S0 k r (pc, L, S, C) := by
  unfold xs_mm at h
  split at h
  · rename_i y x r0
    obtain ⟨h8, h⟩ := xg_some h
    refine ⟨_, h, fun hc H ls stk locs hH hL hS => ?_⟩
    obtain ⟨w1, s1, rfl, hw1, hS1⟩ := xSR_cons hS
    obtain ⟨w2, s2, rfl, hw2, hS2⟩ := xSR_cons hS1
    obtain ⟨y1, rfl, hy⟩ := hw1
    obtain ⟨x1, rfl, hx⟩ := hw2
    exact row H ls s2 locs x1 y1 hL.2.choose_spec.1.1 (by rw [xSR_sum hS2]; exact Nat.le_of_ble_eq_true h8) (hc H ls _ locs hH hL ⟨⟨_, rfl, by rw [hop, hx, hy]⟩, hS2⟩)
  · cases h
theorem xs_div_ok {f : Int → Int → Int} {F : Int32 → Int32 → Int32} (hop : ∀ x y : Int32, (F x y).toInt = f x.toInt y.toInt) (h : xs_div f pc L S C k = some r)
    (row : ∀ (H : Heap) (ls : Array Slot) (stk : List Value) (locs : List Loc) (x y : Int32), y ≠ 0 → W p l e R s m args below meth c H locs K0 S0 Q (F0 m (pc + 1) ls (.int (F x y) :: stk)) → W p l e R s m args below meth c H locs K0 S0 Q (F0 m pc ls (.int y :: .int x :: stk))) : xGo p l e R s m args below meth c Q b sz sr tt D ca nL K0 S0 k r (pc, L, S, C) := by
  unfold xs_div at h
  split at h
  · rename_i y x r0
    cases hd : decide (y = 0) with
    | true => rw [hd] at h; cases h
    | false =>
      rw [hd] at h
      refine ⟨_, h, fun hc H ls stk locs hH hL hS => ?_⟩
      obtain ⟨w1, s1, rfl, hw1, hS1⟩ := xSR_cons hS
      obtain ⟨w2, s2, rfl, hw2, hS2⟩ := xSR_cons hS1
      obtain ⟨y1, rfl, hy⟩ := hw1
      obtain ⟨x1, rfl, hx⟩ := hw2
      refine row H ls s2 locs x1 y1 (fun z => ?_) (hc H ls _ locs hH hL ⟨⟨_, rfl, by rw [hop, hx, hy]⟩, hS2⟩)
      have : y = 0 := by rw [← hy, z]; rfl
      exact absurd this (of_decide_eq_false hd)
  · cases h
theorem xs_un_ok {f : Int → Int} {F : Int32 → Int32} (hop : ∀ x : Int32, (F x).toInt = f x.toInt) (h : xs_un f pc L S C k = some r)
    (row : ∀ (H : Heap) (ls : Array Slot) (stk : List Value) (locs : List Loc) (x : Int32), W p l e R s m args below meth c H locs K0 S0 Q (F0 m (pc + 1) ls (.int (F x) :: stk)) → W p l e R s m args below meth c H locs K0 S0 Q (F0 m pc ls (.int x :: stk))) : xGo p l e R s m args below meth c Q b sz sr tt D ca nL K0 S0 k r (pc, L, S, C) := by
  unfold xs_un at h
  split at h
  · rename_i x r0
    refine ⟨_, h, fun hc H ls stk locs hH hL hS => ?_⟩
    obtain ⟨w1, s1, rfl, hw1, hS1⟩ := xSR_cons hS
    obtain ⟨x1, rfl, hx⟩ := hw1
    exact row H ls s1 locs x1 (hc H ls _ locs hH hL ⟨⟨_, rfl, by rw [hop, hx]⟩, hS1⟩)
  · cases h
theorem xs_lbin_ok {f : Int → Int → Int} {F : Int64 → Int64 → Int64} (hop : ∀ x y : Int64, (F x y).toInt = f x.toInt y.toInt) (h : xs_lbin f pc L S C k = some r)
    (row : ∀ (H : Heap) (ls : Array Slot) (stk : List Value) (locs : List Loc) (x y : Int64), W p l e R s m args below meth c H locs K0 S0 Q (F0 m (pc + 1) ls (.long (F x y) :: stk)) → W p l e R s m args below meth c H locs K0 S0 Q (F0 m pc ls (.long y :: .long x :: stk))) : xGo p l e R s m args below meth c Q b sz sr tt D ca nL K0 S0 k r (pc, L, S, C) := by
  unfold xs_lbin at h
  split at h
  · rename_i y x r0
    refine ⟨_, h, fun hc H ls stk locs hH hL hS => ?_⟩
    obtain ⟨w1, s1, rfl, hw1, hS1⟩ := xSR_cons hS
    obtain ⟨w2, s2, rfl, hw2, hS2⟩ := xSR_cons hS1
    obtain ⟨y1, rfl, hy⟩ := hw1
    obtain ⟨x1, rfl, hx⟩ := hw2
    exact row H ls s2 locs x1 y1 (hc H ls _ locs hH hL ⟨⟨_, rfl, by rw [hop, hx, hy]⟩, hS2⟩)
  · cases h
theorem xs_lsh_ok {f : Int → Int → Int} {F : Int64 → Int32 → Int64} (hop : ∀ (x : Int64) (y : Int32), (F x y).toInt = f x.toInt y.toInt) (h : xs_lsh f pc L S C k = some r)
    (row : ∀ (H : Heap) (ls : Array Slot) (stk : List Value) (locs : List Loc) (x : Int64) (y : Int32), W p l e R s m args below meth c H locs K0 S0 Q (F0 m (pc + 1) ls (.long (F x y) :: stk)) → W p l e R s m args below meth c H locs K0 S0 Q (F0 m pc ls (.int y :: .long x :: stk))) : xGo p l e R s m args below meth c Q b sz sr tt D ca nL K0 S0 k r (pc, L, S, C) := by
  unfold xs_lsh at h
  split at h
  · rename_i y x r0
    refine ⟨_, h, fun hc H ls stk locs hH hL hS => ?_⟩
    obtain ⟨w1, s1, rfl, hw1, hS1⟩ := xSR_cons hS
    obtain ⟨w2, s2, rfl, hw2, hS2⟩ := xSR_cons hS1
    obtain ⟨y1, rfl, hy⟩ := hw1
    obtain ⟨x1, rfl, hx⟩ := hw2
    exact row H ls s2 locs x1 y1 (hc H ls _ locs hH hL ⟨⟨_, rfl, by rw [hop, hx, hy]⟩, hS2⟩)
  · cases h
theorem x_lcmp (x y : Int64) : (lg_cmp x y).toInt = cond (decide (y.toInt < x.toInt)) 1 (cond (decide (x.toInt = y.toInt)) 0 (-1)) := by
  unfold lg_cmp
  have he : x = y ↔ x.toInt = y.toInt := Int64.toInt_inj.symm
  have hl2 : y < x ↔ y.toInt < x.toInt := Int64.lt_iff_toInt_lt
  have a1 : (-1 : Int32).toInt = -1 := by decide
  have a0 : (0 : Int32).toInt = 0 := by decide
  have a2 : (1 : Int32).toInt = 1 := by decide
  split
  · rename_i q
    rw [decide_eq_true (hl2.mp q), a2]; rfl
  · rename_i q
    rw [decide_eq_false (fun z => q (hl2.mpr z))]
    split
    · rename_i q1
      rw [decide_eq_true (he.mp q1), a0]; rfl
    · rename_i q1
      rw [decide_eq_false (fun z => q1 (he.mpr z)), a1]; rfl
theorem xs_lcmp_ok (h : xs_lcmp pc L S C k = some r)
    (row : ∀ (H : Heap) (ls : Array Slot) (stk : List Value) (locs : List Loc) (x y : Int64), W p l e R s m args below meth c H locs K0 S0 Q (F0 m (pc + 1) ls (.int (lg_cmp x y) :: stk)) → W p l e R s m args below meth c H locs K0 S0 Q (F0 m pc ls (.long y :: .long x :: stk))) : xGo p l e R s m args below meth c Q b sz sr tt D ca nL K0 S0 k r (pc, L, S, C) := by
  unfold xs_lcmp at h
  split at h
  · rename_i y x r0
    refine ⟨_, h, fun hc H ls stk locs hH hL hS => ?_⟩
    obtain ⟨w1, s1, rfl, hw1, hS1⟩ := xSR_cons hS
    obtain ⟨w2, s2, rfl, hw2, hS2⟩ := xSR_cons hS1
    obtain ⟨y1, rfl, hy⟩ := hw1
    obtain ⟨x1, rfl, hx⟩ := hw2
    exact row H ls s2 locs x1 y1 (hc H ls _ locs hH hL ⟨⟨_, rfl, by rw [x_lcmp, hx, hy]⟩, hS2⟩)
  · cases h
theorem xs_i2l_ok (h : xs_i2l pc L S C k = some r)
    (row : ∀ (H : Heap) (ls : Array Slot) (stk : List Value) (locs : List Loc) (x : Int32), W p l e R s m args below meth c H locs K0 S0 Q (F0 m (pc + 1) ls (.long x.toInt64 :: stk)) → W p l e R s m args below meth c H locs K0 S0 Q (F0 m pc ls (.int x :: stk))) : xGo p l e R s m args below meth c Q b sz sr tt D ca nL K0 S0 k r (pc, L, S, C) := by
  unfold xs_i2l at h
  split at h
  · rename_i x r0
    refine ⟨_, h, fun hc H ls stk locs hH hL hS => ?_⟩
    obtain ⟨w1, s1, rfl, hw1, hS1⟩ := xSR_cons hS
    obtain ⟨x1, rfl, hx⟩ := hw1
    exact row H ls s1 locs x1 (hc H ls _ locs hH hL ⟨⟨_, rfl, by rw [Int32.toInt_toInt64]; exact hx⟩, hS1⟩)
  · cases h
theorem xs_l2i_ok (h : xs_l2i pc L S C k = some r)
    (row : ∀ (H : Heap) (ls : Array Slot) (stk : List Value) (locs : List Loc) (x : Int64), W p l e R s m args below meth c H locs K0 S0 Q (F0 m (pc + 1) ls (.int x.toInt32 :: stk)) → W p l e R s m args below meth c H locs K0 S0 Q (F0 m pc ls (.long x :: stk))) : xGo p l e R s m args below meth c Q b sz sr tt D ca nL K0 S0 k r (pc, L, S, C) := by
  unfold xs_l2i at h
  split at h
  · rename_i x r0
    refine ⟨_, h, fun hc H ls stk locs hH hL hS => ?_⟩
    obtain ⟨w1, s1, rfl, hw1, hS1⟩ := xSR_cons hS
    obtain ⟨x1, rfl, hx⟩ := hw1
    exact row H ls s1 locs x1 (hc H ls _ locs hH hL ⟨⟨_, rfl, by rw [Int64.toInt_toInt32, hx]; rfl⟩, hS1⟩)
  · cases h
theorem xcb_holds (cd : ClassFile.Cond) (x y : Int32) : zholds cd x y ↔ xcb cd x.toInt y.toInt = true := by
  have he : x = y ↔ x.toInt = y.toInt := Int32.toInt_inj.symm
  cases cd <;> simp only [zholds, xcb, Int32.lt_iff_toInt_lt, Int32.le_iff_toInt_le, he, decide_eq_true_eq, ne_eq]
theorem xcond {q : Bool} {o1 o2 : Option E} (h : cond q o1 o2 = some r) : (q = true ∧ o1 = some r) ∨ (q = false ∧ o2 = some r) := by
  cases q with
  | true => exact Or.inl ⟨rfl, h⟩
  | false => exact Or.inr ⟨rfl, h⟩
theorem xs_icmp_ok {cd : ClassFile.Cond} {a : Nat} (h : xs_icmp cd a pc L S C k = some r)
    (row : ∀ (H : Heap) (ls : Array Slot) (stk : List Value) (locs : List Loc) (x y : Int32), (zholds cd x y → W p l e R s m args below meth c H locs K0 S0 Q (F0 m a ls stk)) → (¬ zholds cd x y → W p l e R s m args below meth c H locs K0 S0 Q (F0 m (pc + 3) ls stk)) → W p l e R s m args below meth c H locs K0 S0 Q (F0 m pc ls (.int y :: .int x :: stk))) : xGo p l e R s m args below meth c Q b sz sr tt D ca nL K0 S0 k r (pc, L, S, C) := by
  unfold xs_icmp at h
  split at h
  · rename_i y x r0
    rcases xcond h with ⟨hq, h⟩ | ⟨hq, h⟩
    · refine ⟨_, h, fun hc H ls stk locs hH hL hS => ?_⟩
      obtain ⟨w1, s1, rfl, hw1, hS1⟩ := xSR_cons hS
      obtain ⟨w2, s2, rfl, hw2, hS2⟩ := xSR_cons hS1
      obtain ⟨y1, rfl, hy⟩ := hw1
      obtain ⟨x1, rfl, hx⟩ := hw2
      exact row H ls s2 locs x1 y1 (fun _ => hc H ls s2 locs hH hL hS2) fun z => absurd ((xcb_holds cd x1 y1).mpr (by rw [hx, hy]; exact hq)) z
    · refine ⟨_, h, fun hc H ls stk locs hH hL hS => ?_⟩
      obtain ⟨w1, s1, rfl, hw1, hS1⟩ := xSR_cons hS
      obtain ⟨w2, s2, rfl, hw2, hS2⟩ := xSR_cons hS1
      obtain ⟨y1, rfl, hy⟩ := hw1
      obtain ⟨x1, rfl, hx⟩ := hw2
      refine row H ls s2 locs x1 y1 (fun z => ?_) fun _ => hc H ls s2 locs hH hL hS2
      have := (xcb_holds cd x1 y1).mp z
      rw [hx, hy, hq] at this
      cases this
  · cases h
theorem xs_if_ok {cd : ClassFile.Cond} {a : Nat} (h : xs_if cd a pc L S C k = some r)
    (row : ∀ (H : Heap) (ls : Array Slot) (stk : List Value) (locs : List Loc) (x : Int32), (zholds cd x 0 → W p l e R s m args below meth c H locs K0 S0 Q (F0 m a ls stk)) → (¬ zholds cd x 0 → W p l e R s m args below meth c H locs K0 S0 Q (F0 m (pc + 3) ls stk)) → W p l e R s m args below meth c H locs K0 S0 Q (F0 m pc ls (.int x :: stk))) : xGo p l e R s m args below meth c Q b sz sr tt D ca nL K0 S0 k r (pc, L, S, C) := by
  have a0 : (0 : Int32).toInt = 0 := by decide
  unfold xs_if at h
  split at h
  · rename_i x r0
    rcases xcond h with ⟨hq, h⟩ | ⟨hq, h⟩
    · refine ⟨_, h, fun hc H ls stk locs hH hL hS => ?_⟩
      obtain ⟨w1, s1, rfl, hw1, hS1⟩ := xSR_cons hS
      obtain ⟨x1, rfl, hx⟩ := hw1
      exact row H ls s1 locs x1 (fun _ => hc H ls s1 locs hH hL hS1) fun z => absurd ((xcb_holds cd x1 0).mpr (by rw [hx, a0]; exact hq)) z
    · refine ⟨_, h, fun hc H ls stk locs hH hL hS => ?_⟩
      obtain ⟨w1, s1, rfl, hw1, hS1⟩ := xSR_cons hS
      obtain ⟨x1, rfl, hx⟩ := hw1
      refine row H ls s1 locs x1 (fun z => ?_) fun _ => hc H ls s1 locs hH hL hS1
      have := (xcb_holds cd x1 0).mp z
      rw [hx, a0, hq] at this
      cases this
  · cases h
theorem xs_dup_ok (h : xs_dup pc L S C k = some r)
    (row : ∀ (H : Heap) (ls : Array Slot) (stk : List Value) (locs : List Loc) (x : Value), x.category = 1 → W p l e R s m args below meth c H locs K0 S0 Q (F0 m (pc + 1) ls (x :: x :: stk)) → W p l e R s m args below meth c H locs K0 S0 Q (F0 m pc ls (x :: stk))) : xGo p l e R s m args below meth c Q b sz sr tt D ca nL K0 S0 k r (pc, L, S, C) := by
  unfold xs_dup at h
  split at h
  · rename_i x r0
    obtain ⟨h1, h2⟩ := xg_some h
    refine ⟨_, h2, fun hc H ls stk locs hH hL hS => ?_⟩
    obtain ⟨w1, s1, rfl, hw1, hS1⟩ := xSR_cons hS
    exact row H ls s1 locs w1 (by rw [xRv_cat hw1]; exact Nat.eq_of_beq_eq_true h1) (hc H ls _ locs hH hL ⟨hw1, hw1, hS1⟩)
  · cases h
theorem xs_pop_ok (h : xs_pop pc L S C k = some r)
    (row : ∀ (H : Heap) (ls : Array Slot) (stk : List Value) (locs : List Loc) (x : Value), x.category = 1 → W p l e R s m args below meth c H locs K0 S0 Q (F0 m (pc + 1) ls stk) → W p l e R s m args below meth c H locs K0 S0 Q (F0 m pc ls (x :: stk))) : xGo p l e R s m args below meth c Q b sz sr tt D ca nL K0 S0 k r (pc, L, S, C) := by
  unfold xs_pop at h
  split at h
  · rename_i x r0
    obtain ⟨h1, h2⟩ := xg_some h
    refine ⟨_, h2, fun hc H ls stk locs hH hL hS => ?_⟩
    obtain ⟨w1, s1, rfl, hw1, hS1⟩ := xSR_cons hS
    exact row H ls s1 locs w1 (by rw [xRv_cat hw1]; exact Nat.eq_of_beq_eq_true h1) (hc H ls _ locs hH hL hS1)
  · cases h
theorem xs_dup_x1_ok (h : xs_dup_x1 pc L S C k = some r)
    (row : ∀ (H : Heap) (ls : Array Slot) (stk : List Value) (locs : List Loc) (x y : Value), x.category = 1 → y.category = 1 → W p l e R s m args below meth c H locs K0 S0 Q (F0 m (pc + 1) ls (x :: y :: x :: stk)) → W p l e R s m args below meth c H locs K0 S0 Q (F0 m pc ls (x :: y :: stk))) : xGo p l e R s m args below meth c Q b sz sr tt D ca nL K0 S0 k r (pc, L, S, C) := by
  unfold xs_dup_x1 at h
  split at h
  · rename_i x y r0
    obtain ⟨h1, h2⟩ := xg_some h
    rw [Bool.and_eq_true] at h1
    refine ⟨_, h2, fun hc H ls stk locs hH hL hS => ?_⟩
    obtain ⟨w1, s1, rfl, hw1, hS1⟩ := xSR_cons hS
    obtain ⟨w2, s2, rfl, hw2, hS2⟩ := xSR_cons hS1
    exact row H ls s2 locs w1 w2 (by rw [xRv_cat hw1]; exact Nat.eq_of_beq_eq_true h1.1) (by rw [xRv_cat hw2]; exact Nat.eq_of_beq_eq_true h1.2) (hc H ls _ locs hH hL ⟨hw1, hw2, hw1, hS2⟩)
  · cases h
theorem xs_dup2_ok (h : xs_dup2 pc L S C k = some r)
    (row : ∀ (H : Heap) (ls : Array Slot) (stk : List Value) (locs : List Loc) (x y : Value), x.category = 1 → y.category = 1 → W p l e R s m args below meth c H locs K0 S0 Q (F0 m (pc + 1) ls (x :: y :: x :: y :: stk)) → W p l e R s m args below meth c H locs K0 S0 Q (F0 m pc ls (x :: y :: stk))) : xGo p l e R s m args below meth c Q b sz sr tt D ca nL K0 S0 k r (pc, L, S, C) := by
  unfold xs_dup2 at h
  split at h
  · rename_i x y r0
    obtain ⟨h1, h2⟩ := xg_some h
    rw [Bool.and_eq_true] at h1
    refine ⟨_, h2, fun hc H ls stk locs hH hL hS => ?_⟩
    obtain ⟨w1, s1, rfl, hw1, hS1⟩ := xSR_cons hS
    obtain ⟨w2, s2, rfl, hw2, hS2⟩ := xSR_cons hS1
    exact row H ls s2 locs w1 w2 (by rw [xRv_cat hw1]; exact Nat.eq_of_beq_eq_true h1.1) (by rw [xRv_cat hw2]; exact Nat.eq_of_beq_eq_true h1.2) (hc H ls _ locs hH hL ⟨hw1, hw2, hw1, hw2, hS2⟩)
  · cases h
theorem xtgt_some {off : Int} {kk : Nat → Option E} (h : xtgt pc off kk = some r) : ∃ tg : Nat, (pc : Int) + off = (tg : Int) ∧ kk tg = some r := by
  unfold xtgt at h
  split at h
  · rename_i n hn
    exact ⟨n, hn, h⟩
  · cases h
theorem xs_table_ok {dflt lo hi : Int} {offs : Array Int} (h : xs_table dflt lo hi offs pc L S C k = some r)
    (rowO : ∀ (H : Heap) (ls : Array Slot) (stk : List Value) (locs : List Loc) (x : Int32) (tgt : Nat), (x.toInt < lo ∨ hi < x.toInt) → (pc : Int) + dflt = (tgt : Int) → W p l e R s m args below meth c H locs K0 S0 Q (F0 m tgt ls stk) → W p l e R s m args below meth c H locs K0 S0 Q (F0 m pc ls (.int x :: stk)))
    (rowI : ∀ (H : Heap) (ls : Array Slot) (stk : List Value) (locs : List Loc) (x : Int32) (tgt : Nat) (off : Int), ¬ x.toInt < lo → ¬ hi < x.toInt → offs[(x.toInt - lo).toNat]? = some off → (pc : Int) + off = (tgt : Int) → W p l e R s m args below meth c H locs K0 S0 Q (F0 m tgt ls stk) → W p l e R s m args below meth c H locs K0 S0 Q (F0 m pc ls (.int x :: stk))) : xGo p l e R s m args below meth c Q b sz sr tt D ca nL K0 S0 k r (pc, L, S, C) := by
  unfold xs_table at h
  split at h
  · rename_i x r0
    obtain ⟨h1, h⟩ := xg_some h
    rw [yeqI_iff] at h1
    have hlo : Int.ofNat offs.toList.length = ((offs.toList.length : Nat) : Int) := rfl
    have key : ∀ (os : List Int) (t : Int), List.rec (motive := fun _ => Int → Option E) (fun _ => xtgt pc dflt fun tg => k (tg, L, r0, C)) (fun off _ ih v => cond (decide (x = v)) (xtgt pc off fun tg => k (tg, L, r0, C)) (ih (v + 1))) os t = some r →
        ∃ tg : Nat, k (tg, L, r0, C) = some r ∧ ((∃ (j : Nat) (off : Int), os[j]? = some off ∧ x = t + j ∧ (pc : Int) + off = (tg : Int)) ∨ ((x < t ∨ t + os.length ≤ x) ∧ (pc : Int) + dflt = (tg : Int))) := by
      intro os
      induction os with
      | nil =>
        intro t ht
        obtain ⟨tg, g1, g2⟩ := xtgt_some ht
        refine ⟨tg, g2, Or.inr ⟨?_, g1⟩⟩
        simp only [List.length_nil]
        omega
      | cons o os ih =>
        intro t ht
        rcases xcond ht with ⟨q, ht⟩ | ⟨q, ht⟩
        · obtain ⟨tg, g1, g2⟩ := xtgt_some ht
          have q := of_decide_eq_true q
          exact ⟨tg, g2, Or.inl ⟨0, o, rfl, by omega, g1⟩⟩
        · have q := of_decide_eq_false q
          obtain ⟨tg, g1, g2⟩ := ih _ ht
          refine ⟨tg, g1, ?_⟩
          rcases g2 with ⟨j, off, a1, a2, a3⟩ | ⟨a1, a2⟩
          · exact Or.inl ⟨j + 1, off, a1, by omega, a3⟩
          · refine Or.inr ⟨?_, a2⟩
            simp only [List.length_cons]
            omega
    obtain ⟨tg, g1, g2⟩ := key _ _ h
    refine ⟨_, g1, fun hc H ls stk locs hH hL hS => ?_⟩
    obtain ⟨w1, s1, rfl, hw1, hS1⟩ := xSR_cons hS
    obtain ⟨x1, rfl, hx⟩ := hw1
    rcases g2 with ⟨j, off, a1, a2, a3⟩ | ⟨a1, a2⟩
    · have hj : j < offs.toList.length := (List.getElem?_eq_some_iff.mp a1).1
      refine rowI H ls s1 locs x1 tg off (by omega) (by omega) ?_ a3 (hc H ls s1 locs hH hL hS1)
      rw [← Array.getElem?_toList, show (x1.toInt - lo).toNat = j by omega]
      exact a1
    · exact rowO H ls s1 locs x1 tg (by omega) a2 (hc H ls s1 locs hH hL hS1)
  · cases h
theorem xs_lookup_ok {dflt : Int} {ps : Array (Int × Int)} (h : xs_lookup dflt ps pc L S C k = some r)
    (row : ∀ (H : Heap) (ls : Array Slot) (stk : List Value) (locs : List Loc) (x : Int32) (tgt : Nat) (off : Int), Op.lookupswitch.offset ps.toList dflt x.toInt = off → (pc : Int) + off = (tgt : Int) → W p l e R s m args below meth c H locs K0 S0 Q (F0 m tgt ls stk) → W p l e R s m args below meth c H locs K0 S0 Q (F0 m pc ls (.int x :: stk))) : xGo p l e R s m args below meth c Q b sz sr tt D ca nL K0 S0 k r (pc, L, S, C) := by
  unfold xs_lookup at h
  split at h
  · rename_i x r0
    have key : ∀ (qs : List (Int × Int)), List.rec (motive := fun _ => Option E) (xtgt pc dflt fun tg => k (tg, L, r0, C)) (fun p _ ih => cond (decide (x = p.1)) (xtgt pc p.2 fun tg => k (tg, L, r0, C)) ih) qs = some r → ∃ (tg : Nat) (off : Int), k (tg, L, r0, C) = some r ∧ Op.lookupswitch.offset qs dflt x = off ∧ (pc : Int) + off = (tg : Int) := by
      intro qs
      induction qs with
      | nil =>
        intro ht
        obtain ⟨tg, g1, g2⟩ := xtgt_some ht
        exact ⟨tg, dflt, g2, rfl, g1⟩
      | cons o os ih =>
        intro ht
        obtain ⟨key, off⟩ := o
        rcases xcond ht with ⟨q, ht⟩ | ⟨q, ht⟩
        · obtain ⟨tg, g1, g2⟩ := xtgt_some ht
          have q : x = key := of_decide_eq_true q
          exact ⟨tg, off, g2, by rw [Op.lookupswitch.offset_cons, if_pos q.symm], g1⟩
        · have q : ¬ x = key := of_decide_eq_false q
          obtain ⟨tg, off2, g1, g2, g3⟩ := ih ht
          exact ⟨tg, off2, g1, by rw [Op.lookupswitch.offset_cons, if_neg (fun w => q w.symm)]; exact g2, g3⟩
    obtain ⟨tg, off, g1, g2, g3⟩ := key _ h
    refine ⟨_, g1, fun hc H ls stk locs hH hL hS => ?_⟩
    obtain ⟨w1, s1, rfl, hw1, hS1⟩ := xSR_cons hS
    obtain ⟨x1, rfl, hx⟩ := hw1
    exact row H ls s1 locs x1 tg off (by rw [hx]; exact g2) g3 (hc H ls s1 locs hH hL hS1)
  · cases h
end xRel
