/-! One instruction of the kernel's machine is one of the real one. -/
section zSteps
variable {p : Program} {l : Launch} {e : Env} {R : Room} {s : State} {m : MethodId} {args : Array Value} {below : List Frame} {meth : Method} {c : Code} {Q : State → Prop}
variable {b sz L0 nL nb sb : Nat} {xs : Nat → Int32} {D : va_G} {ca : Nat → ClassId} {cc : ByteArray}
def zJ (p : Program) (l : Launch) (e : Env) (R : Room) (s : State) (m : MethodId) (args : Array Value) (below : List Frame) (meth : Method) (c : Code) (Q : State → Prop) (b sz : Nat) (xs : Nat → Int32) (D : va_G) (ca : Nat → ClassId) (nL nb sb : Nat) (cf : zCfg) : Prop :=
  ∀ (H : Heap) (ls : Array Slot) (st : List Value) (locs : List Loc), zHeap b sz xs D ca s cf.2.2.2.1 cf.2.2.2.2.1 H locs → zLR b sz xs ls nL cf.2.1 → zSR b sz xs cf.2.2.1 st →
    W p l e R s m args below meth c H locs (cf.2.2.2.2.1 - nb) (cf.2.2.2.2.2 - sb) Q (F0 m cf.1 ls st)
def zSt (p : Program) (l : Launch) (e : Env) (R : Room) (s : State) (m : MethodId) (args : Array Value) (below : List Frame) (meth : Method) (c : Code) (Q : State → Prop) (b sz : Nat) (xs : Nat → Int32) (D : va_G) (ca : Nat → ClassId) (nL nb sb : Nat) (cf c1 : zCfg) : Prop :=
  (cf.2.2.2.2.1 ≤ c1.2.2.2.2.1 ∧ cf.2.2.2.2.2 ≤ c1.2.2.2.2.2) ∧ (nb ≤ cf.2.2.2.2.1 → sb ≤ cf.2.2.2.2.2 → c1.2.2.2.2.1 - nb ≤ R.cells → c1.2.2.2.2.2 - sb ≤ R.slots → zJ p l e R s m args below meth c Q b sz xs D ca nL nb sb c1 → zJ p l e R s m args below meth c Q b sz xs D ca nL nb sb cf)
variable {pc : Nat} {L : List (Option zAV)} {S : List zAV} {H : zHp} {n sl : Nat} {r : Bool × zCfg}
theorem zgo_some {pc1 : Nat} (h : zgo pc1 L S H n sl = some r) : r.2 = (pc1, L, S, H, n, sl) := by
  unfold zgo at h
  rw [zst_eq] at h
  cases h
  rfl
theorem zSR_cons {a : zAV} {st : List Value} (h : zSR b sz xs (a :: S) st) : ∃ v st1, st = v :: st1 ∧ zG b sz xs a v ∧ zSR b sz xs S st1 := by
  cases st with
  | nil => exact h.elim
  | cons v t => exact ⟨v, t, rfl, h.1, h.2⟩
theorem zSR_nil {st : List Value} (h : zSR b sz xs [] st) : st = [] := by
  cases st with
  | nil => rfl
  | cons v t => exact h.elim
theorem zSR_sum {st : List Value} (h : zSR b sz xs S st) : (st.map fun v => v.category).sum = zsum S := by
  induction S generalizing st with
  | nil => rw [zSR_nil h]; rfl
  | cons a S ih =>
    obtain ⟨v, t, rfl, h1, h2⟩ := zSR_cons h
    simp only [List.map_cons, List.sum_cons, zsum, ih h2, zG_cat h1]
/-- an instruction that leaves the cells as they are -/
theorem zSt_pure {pc1 : Nat} {L1 : List (Option zAV)} {S1 : List zAV} (h : ∀ (Hh : Heap) (ls : Array Slot) (st : List Value) (locs : List Loc) (k q : Nat), zHeap b sz xs D ca s H n Hh locs → zLR b sz xs ls nL L → zSR b sz xs S st → (∀ ls1 st1, zLR b sz xs ls1 nL L1 → zSR b sz xs S1 st1 → W p l e R s m args below meth c Hh locs k q Q (F0 m pc1 ls1 st1)) → W p l e R s m args below meth c Hh locs k q Q (F0 m pc ls st)) :
    zSt p l e R s m args below meth c Q b sz xs D ca nL nb sb (pc, L, S, H, n, sl) (pc1, L1, S1, H, n, sl) :=
  ⟨⟨Nat.le_refl _, Nat.le_refl _⟩, fun _ _ _ _ k Hh ls st locs hH hL hS => h Hh ls st locs _ _ hH hL hS fun ls1 st1 h1 h2 => k Hh ls1 st1 locs hH h1 h2⟩
/-- the same, where the room is asked -/
theorem zSt_pureR {pc1 : Nat} {L1 : List (Option zAV)} {S1 : List zAV} (h : ∀ (Hh : Heap) (ls : Array Slot) (st : List Value) (locs : List Loc) (k q : Nat), k ≤ R.cells → q ≤ R.slots → zLR b sz xs ls nL L → zSR b sz xs S st → (∀ ls1 st1, zLR b sz xs ls1 nL L1 → zSR b sz xs S1 st1 → W p l e R s m args below meth c Hh locs k q Q (F0 m pc1 ls1 st1)) → W p l e R s m args below meth c Hh locs k q Q (F0 m pc ls st)) :
    zSt p l e R s m args below meth c Q b sz xs D ca nL nb sb (pc, L, S, H, n, sl) (pc1, L1, S1, H, n, sl) :=
  ⟨⟨Nat.le_refl _, Nat.le_refl _⟩, fun _ _ g3 g4 k Hh ls st locs hH hL hS => h Hh ls st locs _ _ g3 g4 hL hS fun ls1 st1 h1 h2 => k Hh ls1 st1 locs hH h1 h2⟩
theorem zs_load {ok : zAV → Bool} {len a : Nat} (h : zx_load ok len a pc L S H n sl = some r)
    (row : ∀ (Hh : Heap) (ls : Array Slot) (st : List Value) (locs : List Loc) (k q : Nat) (av : zAV) (v : Value), ok av = true → zG b sz xs av v → ls[a]? = some (.val v) → W p l e R s m args below meth c Hh locs k q Q (F0 m (pc + len) ls (v :: st)) → W p l e R s m args below meth c Hh locs k q Q (F0 m pc ls st)) :
    zSt p l e R s m args below meth c Q b sz xs D ca nL nb sb (pc, L, S, H, n, sl) r.2 := by
  unfold zx_load at h
  try unfold zif at h
  split at h
  · rename_i av hg
    split at h
    · rename_i hok
      rw [zgo_some h]
      refine zSt_pure fun Hh ls st locs k q hH hL hS kk => ?_
      obtain ⟨hlen, lv, hlv, hall⟩ := hL
      obtain ⟨v, hv, hm⟩ := hall a av hg
      exact row Hh ls st locs k q av v hok hv (hlv.2.2 (a, v) hm) (kk ls (v :: st) ⟨hlen, lv, hlv, hall⟩ ⟨hv, hS⟩)
    · cases h
  · cases h
/-- the locals behind a store of one slot -/
theorem zLR_put {ls' : Array Slot} {a nL : Nat} {x : zAV} {v : Value} {L : List (Option zAV)} {lv : List (Nat × Value)} (hlen : L.length = nL) (hall : ∀ (i : Nat) (y : zAV), zget L i = some (some y) → ∃ w, zG b sz xs y w ∧ (i, w) ∈ lv) (hh : zhalf L a = false) (ha : a < L.length) (hv : zG b sz xs x v)
    (h' : lv_has ls' nL ((a, v) :: lv.filter (fun q => !(q.1 == a) && !(q.1 + 1 == a && q.2.category == 2)))) : zLR b sz xs ls' nL (L.set a (some x)) := by
  refine ⟨by simp [hlen], _, h', fun i y hi => ?_⟩
  rw [zget_eq] at hi
  by_cases hia : i = a
  · subst hia
    rw [List.getElem?_set_self ha] at hi
    cases hi
    exact ⟨v, hv, List.mem_cons_self⟩
  · rw [List.getElem?_set_ne (Ne.symm hia)] at hi
    obtain ⟨w, hw, hm⟩ := hall i y (by rw [zget_eq]; exact hi)
    refine ⟨w, hw, List.mem_cons_of_mem _ (List.mem_filter.mpr ⟨hm, ?_⟩)⟩
    have h1 : (i == a) = false := by simpa using hia
    by_cases h2 : i + 1 = a
    · subst h2
      simp only [zhalf] at hh
      rw [zget_eq, hi] at hh
      have h3 : ¬ zcat y = 2 := fun q => by simp [q] at hh
      have h4 : (w.category == 2) = false := by rw [zG_cat hw]; simpa using h3
      simp [h1, h4]
    · have h3 : (i + 1 == a) = false := by simpa using h2
      simp [h1, h3]
theorem zs_store {ok : zAV → Bool} {len a : Nat} (h : zx_store ok len a pc L S H n sl = some r)
    (row : ∀ (Hh : Heap) (ls : Array Slot) (st : List Value) (locs : List Loc) (k q : Nat) (av : zAV) (v : Value) (lv : List (Nat × Value)), ok av = true → zG b sz xs av v → lv_has ls nL lv → a < nL → (∀ ls' : Array Slot, lv_has ls' nL ((a, v) :: lv.filter (fun q => !(q.1 == a) && !(q.1 + 1 == a && q.2.category == 2))) → W p l e R s m args below meth c Hh locs k q Q (F0 m (pc + len) ls' st)) → W p l e R s m args below meth c Hh locs k q Q (F0 m pc ls (v :: st))) :
    zSt p l e R s m args below meth c Q b sz xs D ca nL nb sb (pc, L, S, H, n, sl) r.2 := by
  unfold zx_store at h
  try unfold zif at h
  split at h
  · rename_i x r0
    split at h
    · rename_i hok
      simp only [Bool.and_eq_true, Bool.not_eq_true'] at hok
      obtain ⟨ha, h⟩ := zset_some h
      rw [zgo_some h]
      refine zSt_pure fun Hh ls st locs k q hH hL hS kk => ?_
      obtain ⟨hlen, lv, hlv, hall⟩ := hL
      obtain ⟨v, st1, rfl, hv, hS1⟩ := zSR_cons hS
      exact row Hh ls st1 locs k q x v lv hok.1 hv hlv (by omega) fun ls' h' => kk ls' st1 (zLR_put hlen hall hok.2 ha hv h') hS1
    · cases h
  · cases h
theorem zs_lstore {len a : Nat} (h : zx_lstore len a pc L S H n sl = some r)
    (row : ∀ (Hh : Heap) (ls : Array Slot) (st : List Value) (locs : List Loc) (k q : Nat) (x : Int64) (lv : List (Nat × Value)), lv_has ls nL lv → a + 1 < nL → (∀ ls' : Array Slot, lv_has ls' nL ((a, .long x) :: lv.filter (fun q => !(q.1 == a) && (!(q.1 == a + 1) && !(q.1 + 1 == a && q.2.category == 2)))) → W p l e R s m args below meth c Hh locs k q Q (F0 m (pc + len) ls' st)) → W p l e R s m args below meth c Hh locs k q Q (F0 m pc ls (.long x :: st))) :
    zSt p l e R s m args below meth c Q b sz xs D ca nL nb sb (pc, L, S, H, n, sl) r.2 := by
  unfold zx_lstore at h
  try unfold zif at h
  split at h
  · rename_i x r0
    split at h
    · rename_i hok
      simp only [Bool.and_eq_true, Bool.not_eq_true'] at hok
      obtain ⟨ha, h⟩ := zset_some h
      obtain ⟨ha1, h⟩ := zset_some h
      rw [zgo_some h]
      refine zSt_pure fun Hh ls st locs k q hH hL hS kk => ?_
      obtain ⟨hlen, lv, hlv, hall⟩ := hL
      obtain ⟨v, st1, rfl, hv, hS1⟩ := zSR_cons hS
      obtain ⟨z, hz⟩ := Option.isSome_iff_exists.mp hok.1
      have e := zG_lon hv hz
      subst e
      have ha1' : a + 1 < L.length := by simpa using ha1
      refine row Hh ls st1 locs k q z lv hlv (by omega) fun ls' h' => kk ls' st1 ⟨by simp [hlen], _, h', fun i y hi => ?_⟩ hS1
      rw [zget_eq] at hi
      by_cases hi1 : i = a + 1
      · subst hi1
        rw [List.getElem?_set_self (by simpa using ha1)] at hi
        cases hi
      · rw [List.getElem?_set_ne (Ne.symm hi1)] at hi
        by_cases hia : i = a
        · subst hia
          rw [List.getElem?_set_self ha] at hi
          cases hi
          exact ⟨_, hv, List.mem_cons_self⟩
        · rw [List.getElem?_set_ne (Ne.symm hia)] at hi
          obtain ⟨w, hw, hm⟩ := hall i y (by rw [zget_eq]; exact hi)
          refine ⟨w, hw, List.mem_cons_of_mem _ (List.mem_filter.mpr ⟨hm, ?_⟩)⟩
          have h1 : (i == a) = false := by simpa using hia
          have h0 : (i == a + 1) = false := by simpa using hi1
          by_cases h2 : i + 1 = a
          · have hh := hok.2
            subst h2
            simp only [zhalf] at hh
            rw [zget_eq, hi] at hh
            have h3 : ¬ zcat y = 2 := fun q => by simp [q] at hh
            have h4 : (w.category == 2) = false := by rw [zG_cat hw]; simpa using h3
            simp [h1, h0, h4]
          · have h3 : (i + 1 == a) = false := by simpa using h2
            simp [h1, h0, h3]
    · cases h
  · cases h
theorem zs_iinc {a b0 : Nat} (h : zx_iinc a b0 pc L S H n sl = some r)
    (row : ∀ (Hh : Heap) (ls : Array Slot) (st : List Value) (locs : List Loc) (k q : Nat) (x : Int32) (lv : List (Nat × Value)) (j : Nat), lv_has ls nL lv → lv[j]? = some (a, .int x) → a < nL → (∀ ls' : Array Slot, lv_has ls' nL ((a, .int (x + Int32.ofNat b0)) :: lv.filter (fun q => !(q.1 == a) && !(q.1 + 1 == a && q.2.category == 2))) → W p l e R s m args below meth c Hh locs k q Q (F0 m (pc + 3) ls' st)) → W p l e R s m args below meth c Hh locs k q Q (F0 m pc ls st)) :
    zSt p l e R s m args below meth c Q b sz xs D ca nL nb sb (pc, L, S, H, n, sl) r.2 := by
  unfold zx_iinc at h
  try unfold zif at h
  split at h
  · rename_i x hg
    split at h
    · cases h
    · rename_i hh
      obtain ⟨z, h, hz⟩ := zbin_ok (b := b) (sz := sz) (xs := xs) _ _ _ _ _ h
      obtain ⟨ha, h⟩ := zset_some h
      rw [zgo_some h]
      refine zSt_pure fun Hh ls st locs k q hH hL hS kk => ?_
      obtain ⟨hlen, lv, hlv, hall⟩ := hL
      obtain ⟨v, hv, hm⟩ := hall a x hg
      obtain ⟨p1, q1, rfl, e2, hz1⟩ := hz v (.int (Int32.ofNat b0)) hv rfl
      cases e2
      obtain ⟨j, hj⟩ := List.getElem?_of_mem hm
      exact row Hh ls st locs k q p1 lv j hlv hj (by omega) fun ls' h' => kk ls' st (zLR_put hlen hall (by simpa using hh) ha hz1 h') hS
  · cases h
/-- a value on the stack, of itself -/
theorem zs_push {pc1 : Nat} {x : zAV} (h : zgo pc1 L (x :: S) H n sl = some r) {v : Value} (hv : zG b sz xs x v)
    (row : ∀ (Hh : Heap) (ls : Array Slot) (st : List Value) (locs : List Loc) (k q : Nat), W p l e R s m args below meth c Hh locs k q Q (F0 m pc1 ls (v :: st)) → W p l e R s m args below meth c Hh locs k q Q (F0 m pc ls st)) :
    zSt p l e R s m args below meth c Q b sz xs D ca nL nb sb (pc, L, S, H, n, sl) r.2 := by
  rw [zgo_some h]
  exact zSt_pure fun Hh ls st locs k q hH hL hS kk => row Hh ls st locs k q (kk ls (v :: st) hL ⟨hv, hS⟩)
theorem zs_bin {op : zAV → zAV → (zAV → zOut) → zOut} {f : Int32 → Int32 → Int32} (hop : zOp b sz xs op f) (h : zx_bin op pc L S H n sl = some r)
    (row : ∀ (Hh : Heap) (ls : Array Slot) (st : List Value) (locs : List Loc) (k q : Nat) (x y : Int32), W p l e R s m args below meth c Hh locs k q Q (F0 m (pc + 1) ls (.int (f x y) :: st)) → W p l e R s m args below meth c Hh locs k q Q (F0 m pc ls (.int y :: .int x :: st))) :
    zSt p l e R s m args below meth c Q b sz xs D ca nL nb sb (pc, L, S, H, n, sl) r.2 := by
  unfold zx_bin at h
  try unfold zif at h
  split at h
  · rename_i y x r0
    obtain ⟨z, h, hz⟩ := hop _ _ _ _ h
    rw [zgo_some h]
    refine zSt_pure fun Hh ls st locs k q hH hL hS kk => ?_
    obtain ⟨vy, st1, rfl, hy, hS1⟩ := zSR_cons hS
    obtain ⟨vx, st2, rfl, hx, hS2⟩ := zSR_cons hS1
    obtain ⟨p1, q1, rfl, rfl, hz1⟩ := hz vx vy hx hy
    exact row Hh ls st2 locs k q p1 q1 (kk ls _ hL ⟨hz1, hS2⟩)
  · cases h
theorem zs_div {f : Int32 → Int32 → Int32} (h : zx_div f pc L S H n sl = some r)
    (row : ∀ (Hh : Heap) (ls : Array Slot) (st : List Value) (locs : List Loc) (k q : Nat) (x y : Int32), ¬ y = 0 → W p l e R s m args below meth c Hh locs k q Q (F0 m (pc + 1) ls (.int (f x y) :: st)) → W p l e R s m args below meth c Hh locs k q Q (F0 m pc ls (.int y :: .int x :: st))) :
    zSt p l e R s m args below meth c Q b sz xs D ca nL nb sb (pc, L, S, H, n, sl) r.2 := by
  unfold zx_div at h
  try unfold zif at h
  split at h
  · rename_i y x r0
    split at h
    · rename_i p1 q1 hp hq
      split at h
      · cases h
      · rename_i h0
        rw [zint_eq] at h
        rw [zgo_some h]
        refine zSt_pure fun Hh ls st locs k q hH hL hS kk => ?_
        obtain ⟨vy, st1, rfl, hy, hS1⟩ := zSR_cons hS
        obtain ⟨vx, st2, rfl, hx, hS2⟩ := zSR_cons hS1
        have e1 := zG_con hx hp
        have e2 := zG_con hy hq
        subst e1; subst e2
        exact row Hh ls st2 locs k q p1 q1 (fun z => h0 (by rw [z]; rfl)) (kk ls _ hL ⟨rfl, hS2⟩)
    · cases h
  · cases h
theorem zs_un {f : Int32 → Int32} (h : zx_un f pc L S H n sl = some r)
    (row : ∀ (Hh : Heap) (ls : Array Slot) (st : List Value) (locs : List Loc) (k q : Nat) (x : Int32), W p l e R s m args below meth c Hh locs k q Q (F0 m (pc + 1) ls (.int (f x) :: st)) → W p l e R s m args below meth c Hh locs k q Q (F0 m pc ls (.int x :: st))) :
    zSt p l e R s m args below meth c Q b sz xs D ca nL nb sb (pc, L, S, H, n, sl) r.2 := by
  unfold zx_un at h
  try unfold zif at h
  split at h
  · rename_i x r0
    split at h
    · rename_i p1 hp
      rw [zint_eq] at h
      rw [zgo_some h]
      refine zSt_pure fun Hh ls st locs k q hH hL hS kk => ?_
      obtain ⟨vx, st2, rfl, hx, hS2⟩ := zSR_cons hS
      have e1 := zG_con hx hp
      subst e1
      exact row Hh ls st2 locs k q p1 (kk ls _ hL ⟨rfl, hS2⟩)
    · split at h
      · rename_i hi
        rw [zgo_some h]
        refine zSt_pure fun Hh ls st locs k q hH hL hS kk => ?_
        obtain ⟨vx, st2, rfl, hx, hS2⟩ := zSR_cons hS
        obtain ⟨p1, rfl⟩ := zG_int hx hi
        exact row Hh ls st2 locs k q p1 (kk ls _ hL ⟨zG_top _, hS2⟩)
      · cases h
  · cases h
theorem zs_lbin {f : Int64 → Int64 → Int64} (h : zx_lbin f pc L S H n sl = some r)
    (row : ∀ (Hh : Heap) (ls : Array Slot) (st : List Value) (locs : List Loc) (k q : Nat) (x y : Int64), W p l e R s m args below meth c Hh locs k q Q (F0 m (pc + 1) ls (.long (f x y) :: st)) → W p l e R s m args below meth c Hh locs k q Q (F0 m pc ls (.long y :: .long x :: st))) :
    zSt p l e R s m args below meth c Q b sz xs D ca nL nb sb (pc, L, S, H, n, sl) r.2 := by
  unfold zx_lbin at h
  try unfold zif at h
  split at h
  · rename_i y x r0
    split at h
    · rename_i p1 q1 hp hq
      rw [zlng_eq] at h
      rw [zgo_some h]
      refine zSt_pure fun Hh ls st locs k q hH hL hS kk => ?_
      obtain ⟨vy, st1, rfl, hy, hS1⟩ := zSR_cons hS
      obtain ⟨vx, st2, rfl, hx, hS2⟩ := zSR_cons hS1
      have e1 := zG_lon hx hp
      have e2 := zG_lon hy hq
      subst e1; subst e2
      exact row Hh ls st2 locs k q p1 q1 (kk ls _ hL ⟨rfl, hS2⟩)
    · cases h
  · cases h
theorem zs_lsh {f : Int64 → Int32 → Int64} (h : zx_lsh f pc L S H n sl = some r)
    (row : ∀ (Hh : Heap) (ls : Array Slot) (st : List Value) (locs : List Loc) (k q : Nat) (x : Int64) (y : Int32), W p l e R s m args below meth c Hh locs k q Q (F0 m (pc + 1) ls (.long (f x y) :: st)) → W p l e R s m args below meth c Hh locs k q Q (F0 m pc ls (.int y :: .long x :: st))) :
    zSt p l e R s m args below meth c Q b sz xs D ca nL nb sb (pc, L, S, H, n, sl) r.2 := by
  unfold zx_lsh at h
  try unfold zif at h
  split at h
  · rename_i y x r0
    split at h
    · rename_i p1 q1 hp hq
      rw [zlng_eq] at h
      rw [zgo_some h]
      refine zSt_pure fun Hh ls st locs k q hH hL hS kk => ?_
      obtain ⟨vy, st1, rfl, hy, hS1⟩ := zSR_cons hS
      obtain ⟨vx, st2, rfl, hx, hS2⟩ := zSR_cons hS1
      have e1 := zG_lon hx hp
      have e2 := zG_con hy hq
      subst e1; subst e2
      exact row Hh ls st2 locs k q p1 q1 (kk ls _ hL ⟨rfl, hS2⟩)
    · cases h
  · cases h
theorem zs_lcmp (h : zx_lcmp pc L S H n sl = some r)
    (row : ∀ (Hh : Heap) (ls : Array Slot) (st : List Value) (locs : List Loc) (k q : Nat) (x y : Int64), W p l e R s m args below meth c Hh locs k q Q (F0 m (pc + 1) ls (.int (lg_cmp x y) :: st)) → W p l e R s m args below meth c Hh locs k q Q (F0 m pc ls (.long y :: .long x :: st))) :
    zSt p l e R s m args below meth c Q b sz xs D ca nL nb sb (pc, L, S, H, n, sl) r.2 := by
  unfold zx_lcmp at h
  try unfold zif at h
  split at h
  · rename_i y x r0
    split at h
    · rename_i p1 q1 hp hq
      rw [zint_eq] at h
      rw [zgo_some h]
      refine zSt_pure fun Hh ls st locs k q hH hL hS kk => ?_
      obtain ⟨vy, st1, rfl, hy, hS1⟩ := zSR_cons hS
      obtain ⟨vx, st2, rfl, hx, hS2⟩ := zSR_cons hS1
      have e1 := zG_lon hx hp
      have e2 := zG_lon hy hq
      subst e1; subst e2
      exact row Hh ls st2 locs k q p1 q1 (kk ls _ hL ⟨rfl, hS2⟩)
    · cases h
  · cases h
theorem zs_i2l (h : zx_i2l pc L S H n sl = some r)
    (row : ∀ (Hh : Heap) (ls : Array Slot) (st : List Value) (locs : List Loc) (k q : Nat) (x : Int32), W p l e R s m args below meth c Hh locs k q Q (F0 m (pc + 1) ls (.long x.toInt64 :: st)) → W p l e R s m args below meth c Hh locs k q Q (F0 m pc ls (.int x :: st))) :
    zSt p l e R s m args below meth c Q b sz xs D ca nL nb sb (pc, L, S, H, n, sl) r.2 := by
  unfold zx_i2l at h
  try unfold zif at h
  split at h
  · rename_i x r0
    split at h
    · rename_i p1 hp
      rw [zlng_eq] at h
      rw [zgo_some h]
      refine zSt_pure fun Hh ls st locs k q hH hL hS kk => ?_
      obtain ⟨vx, st2, rfl, hx, hS2⟩ := zSR_cons hS
      have e1 := zG_con hx hp
      subst e1
      exact row Hh ls st2 locs k q p1 (kk ls _ hL ⟨rfl, hS2⟩)
    · cases h
  · cases h
theorem zs_l2i (h : zx_l2i pc L S H n sl = some r)
    (row : ∀ (Hh : Heap) (ls : Array Slot) (st : List Value) (locs : List Loc) (k q : Nat) (x : Int64), W p l e R s m args below meth c Hh locs k q Q (F0 m (pc + 1) ls (.int x.toInt32 :: st)) → W p l e R s m args below meth c Hh locs k q Q (F0 m pc ls (.long x :: st))) :
    zSt p l e R s m args below meth c Q b sz xs D ca nL nb sb (pc, L, S, H, n, sl) r.2 := by
  unfold zx_l2i at h
  try unfold zif at h
  split at h
  · rename_i x r0
    split at h
    · rename_i p1 hp
      rw [zint_eq] at h
      rw [zgo_some h]
      refine zSt_pure fun Hh ls st locs k q hH hL hS kk => ?_
      obtain ⟨vx, st2, rfl, hx, hS2⟩ := zSR_cons hS
      have e1 := zG_lon hx hp
      subst e1
      exact row Hh ls st2 locs k q p1 (kk ls _ hL ⟨rfl, hS2⟩)
    · cases h
  · cases h
theorem zs_icmp {cd : ClassFile.Cond} {a : Nat} (h : zx_icmp cd a pc L S H n sl = some r)
    (row : ∀ (Hh : Heap) (ls : Array Slot) (st : List Value) (locs : List Loc) (k q : Nat) (x y : Int32), (zholds cd x y → W p l e R s m args below meth c Hh locs k q Q (F0 m a ls st)) → (¬ zholds cd x y → W p l e R s m args below meth c Hh locs k q Q (F0 m (pc + 3) ls st)) → W p l e R s m args below meth c Hh locs k q Q (F0 m pc ls (.int y :: .int x :: st))) :
    zSt p l e R s m args below meth c Q b sz xs D ca nL nb sb (pc, L, S, H, n, sl) r.2 := by
  unfold zx_icmp at h
  try unfold zif at h
  split at h
  · rename_i y x r0
    split at h
    · rename_i hc
      rw [zgo_some h]
      refine zSt_pure fun Hh ls st locs k q hH hL hS kk => ?_
      obtain ⟨vy, st1, rfl, hy, hS1⟩ := zSR_cons hS
      obtain ⟨vx, st2, rfl, hx, hS2⟩ := zSR_cons hS1
      obtain ⟨p1, q1, rfl, rfl, hz⟩ := zcmp_ok hc hx hy
      exact row Hh ls st2 locs k q p1 q1 (fun _ => kk ls _ hL hS2) (fun w => absurd (hz.mp rfl) w)
    · rename_i hc
      rw [zgo_some h]
      refine zSt_pure fun Hh ls st locs k q hH hL hS kk => ?_
      obtain ⟨vy, st1, rfl, hy, hS1⟩ := zSR_cons hS
      obtain ⟨vx, st2, rfl, hx, hS2⟩ := zSR_cons hS1
      obtain ⟨p1, q1, rfl, rfl, hz⟩ := zcmp_ok hc hx hy
      exact row Hh ls st2 locs k q p1 q1 (fun w => by have := hz.mpr w; cases this) (fun _ => kk ls _ hL hS2)
    · cases h
  · cases h
theorem zs_if {cd : ClassFile.Cond} {a : Nat} (h : zx_if cd a pc L S H n sl = some r)
    (row : ∀ (Hh : Heap) (ls : Array Slot) (st : List Value) (locs : List Loc) (k q : Nat) (x : Int32), (zholds cd x 0 → W p l e R s m args below meth c Hh locs k q Q (F0 m a ls st)) → (¬ zholds cd x 0 → W p l e R s m args below meth c Hh locs k q Q (F0 m (pc + 3) ls st)) → W p l e R s m args below meth c Hh locs k q Q (F0 m pc ls (.int x :: st))) :
    zSt p l e R s m args below meth c Q b sz xs D ca nL nb sb (pc, L, S, H, n, sl) r.2 := by
  unfold zx_if at h
  try unfold zif at h
  split at h
  · rename_i x r0
    split at h
    · rename_i hc
      rw [zgo_some h]
      refine zSt_pure fun Hh ls st locs k q hH hL hS kk => ?_
      obtain ⟨vx, st2, rfl, hx, hS2⟩ := zSR_cons hS
      obtain ⟨p1, q1, rfl, e0, hz⟩ := zcmp_ok hc hx (show zG b sz xs (.inl (.int 0)) (.int 0) from rfl)
      cases e0
      exact row Hh ls st2 locs k q p1 (fun _ => kk ls _ hL hS2) (fun w => absurd (hz.mp rfl) w)
    · rename_i hc
      rw [zgo_some h]
      refine zSt_pure fun Hh ls st locs k q hH hL hS kk => ?_
      obtain ⟨vx, st2, rfl, hx, hS2⟩ := zSR_cons hS
      obtain ⟨p1, q1, rfl, e0, hz⟩ := zcmp_ok hc hx (show zG b sz xs (.inl (.int 0)) (.int 0) from rfl)
      cases e0
      exact row Hh ls st2 locs k q p1 (fun w => by have := hz.mpr w; cases this) (fun _ => kk ls _ hL hS2)
    · cases h
  · cases h
theorem zs_dup (h : zx_dup pc L S H n sl = some r)
    (row : ∀ (Hh : Heap) (ls : Array Slot) (st : List Value) (locs : List Loc) (k q : Nat) (x : Value), x.category = 1 → W p l e R s m args below meth c Hh locs k q Q (F0 m (pc + 1) ls (x :: x :: st)) → W p l e R s m args below meth c Hh locs k q Q (F0 m pc ls (x :: st))) :
    zSt p l e R s m args below meth c Q b sz xs D ca nL nb sb (pc, L, S, H, n, sl) r.2 := by
  unfold zx_dup at h
  try unfold zif at h
  split at h
  · rename_i x r0
    split at h
    · rename_i hc
      rw [zgo_some h]
      refine zSt_pure fun Hh ls st locs k q hH hL hS kk => ?_
      obtain ⟨vx, st2, rfl, hx, hS2⟩ := zSR_cons hS
      exact row Hh ls st2 locs k q vx (by rw [zG_cat hx]; exact Nat.eq_of_beq_eq_true hc) (kk ls _ hL ⟨hx, hx, hS2⟩)
    · cases h
  · cases h
theorem zs_pop (h : zx_pop pc L S H n sl = some r)
    (row : ∀ (Hh : Heap) (ls : Array Slot) (st : List Value) (locs : List Loc) (k q : Nat) (x : Value), x.category = 1 → W p l e R s m args below meth c Hh locs k q Q (F0 m (pc + 1) ls st) → W p l e R s m args below meth c Hh locs k q Q (F0 m pc ls (x :: st))) :
    zSt p l e R s m args below meth c Q b sz xs D ca nL nb sb (pc, L, S, H, n, sl) r.2 := by
  unfold zx_pop at h
  try unfold zif at h
  split at h
  · rename_i x r0
    split at h
    · rename_i hc
      rw [zgo_some h]
      refine zSt_pure fun Hh ls st locs k q hH hL hS kk => ?_
      obtain ⟨vx, st2, rfl, hx, hS2⟩ := zSR_cons hS
      exact row Hh ls st2 locs k q vx (by rw [zG_cat hx]; exact Nat.eq_of_beq_eq_true hc) (kk ls _ hL hS2)
    · cases h
  · cases h
theorem zs_dup_x1 (h : zx_dup_x1 pc L S H n sl = some r)
    (row : ∀ (Hh : Heap) (ls : Array Slot) (st : List Value) (locs : List Loc) (k q : Nat) (x y : Value), x.category = 1 → y.category = 1 → W p l e R s m args below meth c Hh locs k q Q (F0 m (pc + 1) ls (x :: y :: x :: st)) → W p l e R s m args below meth c Hh locs k q Q (F0 m pc ls (x :: y :: st))) :
    zSt p l e R s m args below meth c Q b sz xs D ca nL nb sb (pc, L, S, H, n, sl) r.2 := by
  unfold zx_dup_x1 at h
  try unfold zif at h
  split at h
  · rename_i x y r0
    split at h
    · rename_i hc
      rw [Bool.and_eq_true] at hc
      rw [zgo_some h]
      refine zSt_pure fun Hh ls st locs k q hH hL hS kk => ?_
      obtain ⟨vx, st1, rfl, hx, hS1⟩ := zSR_cons hS
      obtain ⟨vy, st2, rfl, hy, hS2⟩ := zSR_cons hS1
      exact row Hh ls st2 locs k q vx vy (by rw [zG_cat hx]; exact Nat.eq_of_beq_eq_true hc.1) (by rw [zG_cat hy]; exact Nat.eq_of_beq_eq_true hc.2) (kk ls _ hL ⟨hx, hy, hx, hS2⟩)
    · cases h
  · cases h
theorem zs_dup_x2 (h : zx_dup_x2 pc L S H n sl = some r)
    (row : ∀ (Hh : Heap) (ls : Array Slot) (st : List Value) (locs : List Loc) (k q : Nat) (x y z : Value), x.category = 1 → y.category = 1 → z.category = 1 → W p l e R s m args below meth c Hh locs k q Q (F0 m (pc + 1) ls (x :: y :: z :: x :: st)) → W p l e R s m args below meth c Hh locs k q Q (F0 m pc ls (x :: y :: z :: st))) :
    zSt p l e R s m args below meth c Q b sz xs D ca nL nb sb (pc, L, S, H, n, sl) r.2 := by
  unfold zx_dup_x2 at h
  try unfold zif at h
  split at h
  · rename_i x y z r0
    split at h
    · rename_i hc
      simp only [Bool.and_eq_true] at hc
      rw [zgo_some h]
      refine zSt_pure fun Hh ls st locs k q hH hL hS kk => ?_
      obtain ⟨vx, st1, rfl, hx, hS1⟩ := zSR_cons hS
      obtain ⟨vy, st2, rfl, hy, hS2⟩ := zSR_cons hS1
      obtain ⟨vz, st3, rfl, hz, hS3⟩ := zSR_cons hS2
      exact row Hh ls st3 locs k q vx vy vz (by rw [zG_cat hx]; exact Nat.eq_of_beq_eq_true hc.1.1) (by rw [zG_cat hy]; exact Nat.eq_of_beq_eq_true hc.1.2) (by rw [zG_cat hz]; exact Nat.eq_of_beq_eq_true hc.2) (kk ls _ hL ⟨hx, hy, hz, hx, hS3⟩)
    · cases h
  · cases h
theorem zs_dup2 (h : zx_dup2 pc L S H n sl = some r)
    (row : ∀ (Hh : Heap) (ls : Array Slot) (st : List Value) (locs : List Loc) (k q : Nat) (x y : Value), x.category = 1 → y.category = 1 → W p l e R s m args below meth c Hh locs k q Q (F0 m (pc + 1) ls (x :: y :: x :: y :: st)) → W p l e R s m args below meth c Hh locs k q Q (F0 m pc ls (x :: y :: st))) :
    zSt p l e R s m args below meth c Q b sz xs D ca nL nb sb (pc, L, S, H, n, sl) r.2 := by
  unfold zx_dup2 at h
  try unfold zif at h
  split at h
  · rename_i x y r0
    split at h
    · rename_i hc
      rw [Bool.and_eq_true] at hc
      rw [zgo_some h]
      refine zSt_pure fun Hh ls st locs k q hH hL hS kk => ?_
      obtain ⟨vx, st1, rfl, hx, hS1⟩ := zSR_cons hS
      obtain ⟨vy, st2, rfl, hy, hS2⟩ := zSR_cons hS1
      exact row Hh ls st2 locs k q vx vy (by rw [zG_cat hx]; exact Nat.eq_of_beq_eq_true hc.1) (by rw [zG_cat hy]; exact Nat.eq_of_beq_eq_true hc.2) (kk ls _ hL ⟨hx, hy, hx, hy, hS2⟩)
    · cases h
  · cases h
theorem zs_mm {isMax : Bool} (h : zx_mm isMax pc L S H n sl = some r)
    (row : ∀ (Hh : Heap) (ls : Array Slot) (st : List Value) (locs : List Loc) (k q : Nat) (x y : Int32), k ≤ R.cells → q ≤ R.slots → ls.size = nL → (st.map fun v => v.category).sum ≤ 8 → W p l e R s m args below meth c Hh locs k q Q (F0 m (pc + 3) ls (.int (if (x < y) = (isMax = true) then y else x) :: st)) → W p l e R s m args below meth c Hh locs k q Q (F0 m pc ls (.int y :: .int x :: st))) :
    zSt p l e R s m args below meth c Q b sz xs D ca nL nb sb (pc, L, S, H, n, sl) r.2 := by
  unfold zx_mm at h
  try unfold zif at h
  split at h
  · rename_i y x r0
    split at h
    · rename_i p1 q1 hp hq
      split at h
      · rename_i h8
        have h8 := Nat.le_of_ble_eq_true h8
        have hlt := zcc_iff .lt p1 q1
        simp only [zholds] at hlt
        split at h
        · rename_i hm
          rw [zgo_some h]
          refine zSt_pureR fun Hh ls st locs k q hk hq2 hL hS kk => ?_
          obtain ⟨vy, st1, rfl, hy, hS1⟩ := zSR_cons hS
          obtain ⟨vx, st2, rfl, hx, hS2⟩ := zSR_cons hS1
          have e1 := zG_con hx hp
          have e2 := zG_con hy hq
          subst e1; subst e2
          have hm := eq_of_beq hm
          refine row Hh ls st2 locs k q p1 q1 hk hq2 hL.2.choose_spec.1.1 (by rw [zSR_sum hS2]; exact h8) ?_
          rw [if_pos (by rw [← hlt, hm])]
          exact kk ls _ hL ⟨hy, hS2⟩
        · rename_i hm
          rw [zgo_some h]
          refine zSt_pureR fun Hh ls st locs k q hk hq2 hL hS kk => ?_
          obtain ⟨vy, st1, rfl, hy, hS1⟩ := zSR_cons hS
          obtain ⟨vx, st2, rfl, hx, hS2⟩ := zSR_cons hS1
          have e1 := zG_con hx hp
          have e2 := zG_con hy hq
          subst e1; subst e2
          refine row Hh ls st2 locs k q p1 q1 hk hq2 hL.2.choose_spec.1.1 (by rw [zSR_sum hS2]; exact h8) ?_
          rw [if_neg (fun w => hm (by
            have w2 : (zcc .lt p1 q1 = true) = (isMax = true) := by rw [← w]; exact propext hlt
            cases h1 : zcc .lt p1 q1 <;> cases isMax <;> simp [h1] at w2 ⊢))]
          exact kk ls _ hL ⟨hx, hS2⟩
      · cases h
    · cases h
  · cases h
theorem zs_table {dflt lo hi : Int} {offs : Array Int} (h : zx_table dflt lo hi offs pc L S H n sl = some r)
    (rowO : ∀ (Hh : Heap) (ls : Array Slot) (st : List Value) (locs : List Loc) (k q : Nat) (x : Int32) (tgt : Nat), (x.toInt < lo ∨ hi < x.toInt) → (pc : Int) + dflt = (tgt : Int) → W p l e R s m args below meth c Hh locs k q Q (F0 m tgt ls st) → W p l e R s m args below meth c Hh locs k q Q (F0 m pc ls (.int x :: st)))
    (rowI : ∀ (Hh : Heap) (ls : Array Slot) (st : List Value) (locs : List Loc) (k q : Nat) (x : Int32) (tgt : Nat) (off : Int), ¬ x.toInt < lo → ¬ hi < x.toInt → offs[(x.toInt - lo).toNat]? = some off → (pc : Int) + off = (tgt : Int) → W p l e R s m args below meth c Hh locs k q Q (F0 m tgt ls st) → W p l e R s m args below meth c Hh locs k q Q (F0 m pc ls (.int x :: st))) :
    zSt p l e R s m args below meth c Q b sz xs D ca nL nb sb (pc, L, S, H, n, sl) r.2 := by
  unfold zx_table at h
  try unfold zif at h
  split at h
  · rename_i x r0
    split at h
    · rename_i lo1 hi1 hr
      split at h
      · rename_i ho
        split at h
        · rename_i ht
          rw [zgo_some h]
          refine zSt_pure fun Hh ls st locs k q hH hL hS kk => ?_
          obtain ⟨vx, st2, rfl, hx, hS2⟩ := zSR_cons hS
          obtain ⟨p1, rfl⟩ := zG_isint hx hr
          obtain ⟨g1, g2⟩ := zG_rng hx hr
          exact rowO Hh ls st2 locs k q p1 _ (by omega) ht.symm (kk ls _ hL hS2)
        · cases h
      · split at h
        · rename_i p1 hp
          split at h
          · cases h
          · rename_i hin
            split at h
            · rename_i off hoff
              split at h
              · rename_i ht
                rw [zgo_some h]
                refine zSt_pure fun Hh ls st locs k q hH hL hS kk => ?_
                obtain ⟨vx, st2, rfl, hx, hS2⟩ := zSR_cons hS
                have e1 := zG_con hx hp
                subst e1
                exact rowI Hh ls st2 locs k q p1 _ off (fun w => hin (Or.inl w)) (fun w => hin (Or.inr w)) hoff ht.symm (kk ls _ hL hS2)
              · cases h
            · cases h
        · cases h
    · cases h
  · cases h
end zSteps
