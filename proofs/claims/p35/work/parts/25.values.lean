/-! Instructions that only take and give values, the ways of branches and switches. -/
section yStep1
variable {p : Program} {l : Launch} {e : Env} {R : Room} {s : State} {m : MethodId} {args : Array Value} {below : List Frame} {meth : Method} {c : Code} {Q : State → Prop}
variable {b sz nL K0 S0 : Nat} {sr : List Nat} {tt : List yKd} {D : va_G} {ca : Nat → ClassId} {ms : Option (List (Nat × Nat))} {ws0 ws : va_W} {cc : ByteArray}
variable {v u : List Int} {pc : Nat} {L : List (Option yA)} {S : List yA} {st : yS} {k : yCfg → Bool} {MP : yM × yP} {H : Heap} {locs : List Loc} {ls : Array Slot} {stk : List Value}
theorem ys_bin {op : yE → yE → yS → yK → Bool} {f : Int32 → Int32 → Int32} (hop : yOp b sz sr op f) (h : yx_bin op pc L S st k = true) (hk : ∀ cf, k cf = true → yJ p l e R s m args below meth c Q b sz sr tt D ca ms ws0 nL K0 S0 v cf)
    (row : ∀ (H : Heap) (ls : Array Slot) (stk : List Value) (locs : List Loc) (x y : Int32), W p l e R s m args below meth c H locs K0 S0 Q (F0 m (pc + 1) ls (.int (f x y) :: stk)) → W p l e R s m args below meth c H locs K0 S0 Q (F0 m pc ls (.int y :: .int x :: stk))) : yJat p l e R s m args below meth c Q b sz sr tt D ca ms ws0 nL K0 S0 v (pc, L, S, st) := by
  unfold yx_bin at h
  split at h
  · rename_i y x r
    intro H ls stk locs hR hH hL hS
    obtain ⟨w1, s1, rfl, hw1, hS1⟩ := ySR_cons hS
    obtain ⟨w2, s2, rfl, hw2, hS2⟩ := ySR_cons hS1
    obtain ⟨q, rfl, hy⟩ := hw1
    obtain ⟨p1, rfl, hx⟩ := hw2
    exact row H ls s2 locs p1 q (yon hk (hop v x y st _ p1 q h hR hx hy) hH hL hS2)
  · cases h
theorem ys_div {f : Int32 → Int32 → Int32} (h : yx_bin ydiv pc L S st k = true) (hk : ∀ cf, k cf = true → yJ p l e R s m args below meth c Q b sz sr tt D ca ms ws0 nL K0 S0 v cf)
    (row : ∀ (H : Heap) (ls : Array Slot) (stk : List Value) (locs : List Loc) (x y : Int32), y ≠ 0 → W p l e R s m args below meth c H locs K0 S0 Q (F0 m (pc + 1) ls (.int (f x y) :: stk)) → W p l e R s m args below meth c H locs K0 S0 Q (F0 m pc ls (.int y :: .int x :: stk))) : yJat p l e R s m args below meth c Q b sz sr tt D ca ms ws0 nL K0 S0 v (pc, L, S, st) := by
  unfold yx_bin at h
  split at h
  · rename_i y x r
    intro H ls stk locs hR hH hL hS
    obtain ⟨w1, s1, rfl, hw1, hS1⟩ := ySR_cons hS
    obtain ⟨w2, s2, rfl, hw2, hS2⟩ := ySR_cons hS1
    obtain ⟨q, rfl, hy⟩ := hw1
    obtain ⟨p1, rfl, hx⟩ := hw2
    obtain ⟨g1, g2⟩ := ydiv_ok (b := b) (sz := sz) (sr := sr) f h hR hx hy
    exact row H ls s2 locs p1 q g1 (yon hk g2 hH hL hS2)
  · cases h
theorem ys_i2b (h : yx_un yi2b pc L S st k = true) (hk : ∀ cf, k cf = true → yJ p l e R s m args below meth c Q b sz sr tt D ca ms ws0 nL K0 S0 v cf)
    (row : ∀ (H : Heap) (ls : Array Slot) (stk : List Value) (locs : List Loc) (x : Int32), W p l e R s m args below meth c H locs K0 S0 Q (F0 m (pc + 1) ls (.int x.toInt8.toInt32 :: stk)) → W p l e R s m args below meth c H locs K0 S0 Q (F0 m pc ls (.int x :: stk))) : yJat p l e R s m args below meth c Q b sz sr tt D ca ms ws0 nL K0 S0 v (pc, L, S, st) := by
  unfold yx_un at h
  split at h
  · rename_i x r
    intro H ls stk locs hR hH hL hS
    obtain ⟨w1, s1, rfl, hw1, hS1⟩ := ySR_cons hS
    obtain ⟨q, rfl, hy⟩ := hw1
    exact row H ls s1 locs q (yon hk (yi2b_ok h hR hy) hH hL hS1)
  · cases h
theorem ys_lbin {f : Int64 → Int64 → Int64} (h : yx_lbin (fun _ _ => ytl) pc L S st k = true) (hk : ∀ cf, k cf = true → yJ p l e R s m args below meth c Q b sz sr tt D ca ms ws0 nL K0 S0 v cf)
    (row : ∀ (H : Heap) (ls : Array Slot) (stk : List Value) (locs : List Loc) (x y : Int64), W p l e R s m args below meth c H locs K0 S0 Q (F0 m (pc + 1) ls (.long (f x y) :: stk)) → W p l e R s m args below meth c H locs K0 S0 Q (F0 m pc ls (.long y :: .long x :: stk))) : yJat p l e R s m args below meth c Q b sz sr tt D ca ms ws0 nL K0 S0 v (pc, L, S, st) := by
  unfold yx_lbin at h
  split at h
  · rename_i y x r
    intro H ls stk locs hR hH hL hS
    obtain ⟨w1, s1, rfl, hw1, hS1⟩ := ySR_cons hS
    obtain ⟨w2, s2, rfl, hw2, hS2⟩ := ySR_cons hS1
    obtain ⟨q, rfl, hy⟩ := hw1
    obtain ⟨p1, rfl, hx⟩ := hw2
    exact row H ls s2 locs p1 q (yon hk (ytl_ok h hR) hH hL hS2)
  · cases h
theorem ys_lsh {f : Int64 → Int32 → Int64} (h : yx_lsh pc L S st k = true) (hk : ∀ cf, k cf = true → yJ p l e R s m args below meth c Q b sz sr tt D ca ms ws0 nL K0 S0 v cf)
    (row : ∀ (H : Heap) (ls : Array Slot) (stk : List Value) (locs : List Loc) (x : Int64) (y : Int32), W p l e R s m args below meth c H locs K0 S0 Q (F0 m (pc + 1) ls (.long (f x y) :: stk)) → W p l e R s m args below meth c H locs K0 S0 Q (F0 m pc ls (.int y :: .long x :: stk))) : yJat p l e R s m args below meth c Q b sz sr tt D ca ms ws0 nL K0 S0 v (pc, L, S, st) := by
  unfold yx_lsh at h
  split at h
  · rename_i y x r
    intro H ls stk locs hR hH hL hS
    obtain ⟨w1, s1, rfl, hw1, hS1⟩ := ySR_cons hS
    obtain ⟨w2, s2, rfl, hw2, hS2⟩ := ySR_cons hS1
    obtain ⟨q, rfl, hy⟩ := hw1
    obtain ⟨p1, rfl, hx⟩ := hw2
    exact row H ls s2 locs p1 q (yon hk (ytl_ok h hR) hH hL hS2)
  · cases h
theorem y_lcmp (x y : Int64) : ((lg_cmp x y).toInt < 0 ↔ x.toInt - y.toInt < 0) ∧ ((lg_cmp x y).toInt = 0 ↔ x.toInt - y.toInt = 0) := by
  unfold lg_cmp
  have hl : x < y ↔ x.toInt < y.toInt := Int64.lt_iff_toInt_lt
  have he : x = y ↔ x.toInt = y.toInt := Int64.toInt_inj.symm
  have hl2 : y < x ↔ y.toInt < x.toInt := Int64.lt_iff_toInt_lt
  have a1 : (-1 : Int32).toInt = -1 := by decide
  have a0 : (0 : Int32).toInt = 0 := by decide
  have a2 : (1 : Int32).toInt = 1 := by decide
  split
  · rename_i q
    have := hl2.mp q
    rw [a2]; omega
  · split
    · rename_i q0 q
      have := he.mp q
      rw [a0]; omega
    · rename_i q0 q
      have : ¬ y.toInt < x.toInt := fun w => q0 (hl2.mpr w)
      have : ¬ x.toInt = y.toInt := fun w => q (he.mpr w)
      rw [a1]; omega
theorem ys_lcmp (h : yx_lcmp pc L S st k = true) (hk : ∀ cf, k cf = true → yJ p l e R s m args below meth c Q b sz sr tt D ca ms ws0 nL K0 S0 v cf)
    (row : ∀ (H : Heap) (ls : Array Slot) (stk : List Value) (locs : List Loc) (x y : Int64), W p l e R s m args below meth c H locs K0 S0 Q (F0 m (pc + 1) ls (.int (lg_cmp x y) :: stk)) → W p l e R s m args below meth c H locs K0 S0 Q (F0 m pc ls (.long y :: .long x :: stk))) : yJat p l e R s m args below meth c Q b sz sr tt D ca ms ws0 nL K0 S0 v (pc, L, S, st) := by
  unfold yx_lcmp at h
  split at h
  · rename_i y x r
    intro H ls stk locs hR hH hL hS
    obtain ⟨w1, s1, rfl, hw1, hS1⟩ := ySR_cons hS
    obtain ⟨w2, s2, rfl, hw2, hS2⟩ := ySR_cons hS1
    obtain ⟨q, rfl, hy⟩ := hw1
    obtain ⟨p1, rfl, hx⟩ := hw2
    rw [yfE_eq] at h
    obtain ⟨g1, g2⟩ := y_lcmp p1 q
    exact row H ls s2 locs p1 q (yon0 hk h hR hH hL ⟨⟨_, _, rfl, ysu_ok hx hy, g1, g2⟩, hS2⟩)
  · cases h
theorem ys_i2l (h : yx_i2l pc L S st k = true) (hk : ∀ cf, k cf = true → yJ p l e R s m args below meth c Q b sz sr tt D ca ms ws0 nL K0 S0 v cf)
    (row : ∀ (H : Heap) (ls : Array Slot) (stk : List Value) (locs : List Loc) (x : Int32), W p l e R s m args below meth c H locs K0 S0 Q (F0 m (pc + 1) ls (.long x.toInt64 :: stk)) → W p l e R s m args below meth c H locs K0 S0 Q (F0 m pc ls (.int x :: stk))) : yJat p l e R s m args below meth c Q b sz sr tt D ca ms ws0 nL K0 S0 v (pc, L, S, st) := by
  unfold yx_i2l at h
  split at h
  · rename_i x r
    intro H ls stk locs hR hH hL hS
    obtain ⟨w1, s1, rfl, hw1, hS1⟩ := ySR_cons hS
    obtain ⟨q, rfl, hy⟩ := hw1
    exact row H ls s1 locs q (yon0 hk h hR hH hL ⟨⟨_, rfl, by rw [Int32.toInt_toInt64]; exact hy⟩, hS1⟩)
  · cases h
theorem ys_l2i (h : yx_l2i pc L S st k = true) (hk : ∀ cf, k cf = true → yJ p l e R s m args below meth c Q b sz sr tt D ca ms ws0 nL K0 S0 v cf)
    (row : ∀ (H : Heap) (ls : Array Slot) (stk : List Value) (locs : List Loc) (x : Int64), W p l e R s m args below meth c H locs K0 S0 Q (F0 m (pc + 1) ls (.int x.toInt32 :: stk)) → W p l e R s m args below meth c H locs K0 S0 Q (F0 m pc ls (.long x :: stk))) : yJat p l e R s m args below meth c Q b sz sr tt D ca ms ws0 nL K0 S0 v (pc, L, S, st) := by
  unfold yx_l2i at h
  split at h
  · rename_i x r
    intro H ls stk locs hR hH hL hS
    obtain ⟨w1, s1, rfl, hw1, hS1⟩ := ySR_cons hS
    obtain ⟨q, rfl, hy⟩ := hw1
    refine row H ls s1 locs q ?_
    split at h
    · rename_i hin
      obtain ⟨g1, g2⟩ := yin_ok hR.2.1 hin hy
      have e : q.toInt32.toInt = q.toInt := by rw [Int64.toInt_toInt32, yz_bm g1 g2]
      exact yon0 hk h hR hH hL ⟨⟨_, rfl, by rw [e]; exact hy⟩, hS1⟩
    · exact yon hk (ytp_ok h hR) hH hL hS1
  · cases h
theorem yholds_cmp (cd : ClassFile.Cond) (x y : Int32) : yholds cd (x.toInt - y.toInt) ↔ zholds cd x y := by
  have he : x = y ↔ x.toInt = y.toInt := Int32.toInt_inj.symm
  cases cd <;> simp only [yholds, zholds, Int32.lt_iff_toInt_lt, Int32.le_iff_toInt_le, he] <;> omega
theorem yholds_0 (cd : ClassFile.Cond) (x : Int32) {z : Int} (h1 : x.toInt < 0 ↔ z < 0) (h2 : x.toInt = 0 ↔ z = 0) : yholds cd z ↔ zholds cd x 0 := by
  have a0 : (0 : Int32).toInt = 0 := by decide
  have he : x = 0 ↔ x.toInt = 0 := by rw [← a0]; exact Int32.toInt_inj.symm
  cases cd <;> simp only [yholds, zholds, Int32.lt_iff_toInt_lt, Int32.le_iff_toInt_le, he, a0] <;> omega
theorem ys_icmp {cd : ClassFile.Cond} {a : Nat} (h : yx_icmp cd a pc L S st k = true) (hk : ∀ cf, k cf = true → yJ p l e R s m args below meth c Q b sz sr tt D ca ms ws0 nL K0 S0 v cf)
    (row : ∀ (H : Heap) (ls : Array Slot) (stk : List Value) (locs : List Loc) (x y : Int32), (zholds cd x y → W p l e R s m args below meth c H locs K0 S0 Q (F0 m a ls stk)) → (¬ zholds cd x y → W p l e R s m args below meth c H locs K0 S0 Q (F0 m (pc + 3) ls stk)) → W p l e R s m args below meth c H locs K0 S0 Q (F0 m pc ls (.int y :: .int x :: stk))) : yJat p l e R s m args below meth c Q b sz sr tt D ca ms ws0 nL K0 S0 v (pc, L, S, st) := by
  unfold yx_icmp at h
  split at h
  · rename_i y x r
    intro H ls stk locs hR hH hL hS
    obtain ⟨w1, s1, rfl, hw1, hS1⟩ := ySR_cons hS
    obtain ⟨w2, s2, rfl, hw2, hS2⟩ := ySR_cons hS1
    obtain ⟨q, rfl, hy⟩ := hw1
    obtain ⟨p1, rfl, hx⟩ := hw2
    obtain ⟨g1, g2⟩ := ybr_ok h hR (ysu_ok hx hy)
    rw [yholds_cmp] at g1 g2
    exact row H ls s2 locs p1 q (fun w => yonS hk (g1 w) hH hL hS2) (fun w => yonS hk (g2 w) hH hL hS2)
  · cases h
theorem ys_if {cd : ClassFile.Cond} {a : Nat} (h : yx_if cd a pc L S st k = true) (hk : ∀ cf, k cf = true → yJ p l e R s m args below meth c Q b sz sr tt D ca ms ws0 nL K0 S0 v cf)
    (row : ∀ (H : Heap) (ls : Array Slot) (stk : List Value) (locs : List Loc) (x : Int32), (zholds cd x 0 → W p l e R s m args below meth c H locs K0 S0 Q (F0 m a ls stk)) → (¬ zholds cd x 0 → W p l e R s m args below meth c H locs K0 S0 Q (F0 m (pc + 3) ls stk)) → W p l e R s m args below meth c H locs K0 S0 Q (F0 m pc ls (.int x :: stk))) : yJat p l e R s m args below meth c Q b sz sr tt D ca ms ws0 nL K0 S0 v (pc, L, S, st) := by
  unfold yx_if at h
  split at h
  · rename_i x r
    intro H ls stk locs hR hH hL hS
    obtain ⟨w1, s1, rfl, hw1, hS1⟩ := ySR_cons hS
    obtain ⟨q, rfl, hy⟩ := hw1
    obtain ⟨g1, g2⟩ := ybr_ok h hR hy
    rw [yholds_0 cd q Iff.rfl Iff.rfl] at g1 g2
    exact row H ls s1 locs q (fun w => yonS hk (g1 w) hH hL hS1) (fun w => yonS hk (g2 w) hH hL hS1)
  · rename_i x r
    intro H ls stk locs hR hH hL hS
    obtain ⟨w1, s1, rfl, hw1, hS1⟩ := ySR_cons hS
    obtain ⟨q, z, rfl, hy, e1, e2⟩ := hw1
    obtain ⟨g1, g2⟩ := ybr_ok h hR hy
    rw [yholds_0 cd q e1 e2] at g1 g2
    exact row H ls s1 locs q (fun w => yonS hk (g1 w) hH hL hS1) (fun w => yonS hk (g2 w) hH hL hS1)
  · cases h
theorem ys_dup (h : yx_dup pc L S st k = true) (hk : ∀ cf, k cf = true → yJ p l e R s m args below meth c Q b sz sr tt D ca ms ws0 nL K0 S0 v cf)
    (row : ∀ (H : Heap) (ls : Array Slot) (stk : List Value) (locs : List Loc) (x : Value), x.category = 1 → W p l e R s m args below meth c H locs K0 S0 Q (F0 m (pc + 1) ls (x :: x :: stk)) → W p l e R s m args below meth c H locs K0 S0 Q (F0 m pc ls (x :: stk))) : yJat p l e R s m args below meth c Q b sz sr tt D ca ms ws0 nL K0 S0 v (pc, L, S, st) := by
  unfold yx_dup at h
  split at h
  · rename_i x r
    rw [Bool.and_eq_true] at h
    intro H ls stk locs hR hH hL hS
    obtain ⟨w1, s1, rfl, hw1, hS1⟩ := ySR_cons hS
    exact row H ls s1 locs w1 (by rw [yV_cat hw1]; exact Nat.eq_of_beq_eq_true h.1) (yon0 hk h.2 hR hH hL ⟨hw1, hw1, hS1⟩)
  · cases h
theorem ys_pop (h : yx_pop pc L S st k = true) (hk : ∀ cf, k cf = true → yJ p l e R s m args below meth c Q b sz sr tt D ca ms ws0 nL K0 S0 v cf)
    (row : ∀ (H : Heap) (ls : Array Slot) (stk : List Value) (locs : List Loc) (x : Value), x.category = 1 → W p l e R s m args below meth c H locs K0 S0 Q (F0 m (pc + 1) ls stk) → W p l e R s m args below meth c H locs K0 S0 Q (F0 m pc ls (x :: stk))) : yJat p l e R s m args below meth c Q b sz sr tt D ca ms ws0 nL K0 S0 v (pc, L, S, st) := by
  unfold yx_pop at h
  split at h
  · rename_i x r
    rw [Bool.and_eq_true] at h
    intro H ls stk locs hR hH hL hS
    obtain ⟨w1, s1, rfl, hw1, hS1⟩ := ySR_cons hS
    exact row H ls s1 locs w1 (by rw [yV_cat hw1]; exact Nat.eq_of_beq_eq_true h.1) (yon0 hk h.2 hR hH hL hS1)
  · cases h
theorem ys_dup_x1 (h : yx_dup_x1 pc L S st k = true) (hk : ∀ cf, k cf = true → yJ p l e R s m args below meth c Q b sz sr tt D ca ms ws0 nL K0 S0 v cf)
    (row : ∀ (H : Heap) (ls : Array Slot) (stk : List Value) (locs : List Loc) (x y : Value), x.category = 1 → y.category = 1 → W p l e R s m args below meth c H locs K0 S0 Q (F0 m (pc + 1) ls (x :: y :: x :: stk)) → W p l e R s m args below meth c H locs K0 S0 Q (F0 m pc ls (x :: y :: stk))) : yJat p l e R s m args below meth c Q b sz sr tt D ca ms ws0 nL K0 S0 v (pc, L, S, st) := by
  unfold yx_dup_x1 at h
  split at h
  · rename_i x y r
    simp only [Bool.and_eq_true] at h
    intro H ls stk locs hR hH hL hS
    obtain ⟨w1, s1, rfl, hw1, hS1⟩ := ySR_cons hS
    obtain ⟨w2, s2, rfl, hw2, hS2⟩ := ySR_cons hS1
    exact row H ls s2 locs w1 w2 (by rw [yV_cat hw1]; exact Nat.eq_of_beq_eq_true h.1) (by rw [yV_cat hw2]; exact Nat.eq_of_beq_eq_true h.2.1) (yon0 hk h.2.2 hR hH hL ⟨hw1, hw2, hw1, hS2⟩)
  · cases h
theorem ys_dup_x2 (h : yx_dup_x2 pc L S st k = true) (hk : ∀ cf, k cf = true → yJ p l e R s m args below meth c Q b sz sr tt D ca ms ws0 nL K0 S0 v cf)
    (row : ∀ (H : Heap) (ls : Array Slot) (stk : List Value) (locs : List Loc) (x y z : Value), x.category = 1 → y.category = 1 → z.category = 1 → W p l e R s m args below meth c H locs K0 S0 Q (F0 m (pc + 1) ls (x :: y :: z :: x :: stk)) → W p l e R s m args below meth c H locs K0 S0 Q (F0 m pc ls (x :: y :: z :: stk))) : yJat p l e R s m args below meth c Q b sz sr tt D ca ms ws0 nL K0 S0 v (pc, L, S, st) := by
  unfold yx_dup_x2 at h
  split at h
  · rename_i x y z r
    simp only [Bool.and_eq_true] at h
    intro H ls stk locs hR hH hL hS
    obtain ⟨w1, s1, rfl, hw1, hS1⟩ := ySR_cons hS
    obtain ⟨w2, s2, rfl, hw2, hS2⟩ := ySR_cons hS1
    obtain ⟨w3, s3, rfl, hw3, hS3⟩ := ySR_cons hS2
    exact row H ls s3 locs w1 w2 w3 (by rw [yV_cat hw1]; exact Nat.eq_of_beq_eq_true h.1) (by rw [yV_cat hw2]; exact Nat.eq_of_beq_eq_true h.2.1) (by rw [yV_cat hw3]; exact Nat.eq_of_beq_eq_true h.2.2.1) (yon0 hk h.2.2.2 hR hH hL ⟨hw1, hw2, hw3, hw1, hS3⟩)
  · cases h
theorem ys_dup2 (h : yx_dup2 pc L S st k = true) (hk : ∀ cf, k cf = true → yJ p l e R s m args below meth c Q b sz sr tt D ca ms ws0 nL K0 S0 v cf)
    (row : ∀ (H : Heap) (ls : Array Slot) (stk : List Value) (locs : List Loc) (x y : Value), x.category = 1 → y.category = 1 → W p l e R s m args below meth c H locs K0 S0 Q (F0 m (pc + 1) ls (x :: y :: x :: y :: stk)) → W p l e R s m args below meth c H locs K0 S0 Q (F0 m pc ls (x :: y :: stk))) : yJat p l e R s m args below meth c Q b sz sr tt D ca ms ws0 nL K0 S0 v (pc, L, S, st) := by
  unfold yx_dup2 at h
  split at h
  · rename_i x y r
    simp only [Bool.and_eq_true] at h
    intro H ls stk locs hR hH hL hS
    obtain ⟨w1, s1, rfl, hw1, hS1⟩ := ySR_cons hS
    obtain ⟨w2, s2, rfl, hw2, hS2⟩ := ySR_cons hS1
    exact row H ls s2 locs w1 w2 (by rw [yV_cat hw1]; exact Nat.eq_of_beq_eq_true h.1) (by rw [yV_cat hw2]; exact Nat.eq_of_beq_eq_true h.2.1) (yon0 hk h.2.2 hR hH hL ⟨hw1, hw2, hw1, hw2, hS2⟩)
  · cases h
theorem ymm_ok {isMax : Bool} {x y : yE} {kk : yK} {p1 q1 : Int32} (h : ymm isMax x y st kk = true) (hR : yRS v st) (hx : yev v x = some p1.toInt) (hy : yev v y = some q1.toInt) : yG b sz sr v st kk (.int (if (p1 < q1) = (isMax = true) then q1 else p1)) := by
  have hlt : p1 < q1 ↔ p1.toInt < q1.toInt := Int32.lt_iff_toInt_lt
  have hmax : ∀ t : Int, isMax = true → t = (if (p1 < q1) = (isMax = true) then q1 else p1).toInt → (t = p1.toInt ∧ q1.toInt ≤ p1.toInt) ∨ (t = q1.toInt ∧ p1.toInt < q1.toInt) := by
    intro t hm ht
    subst hm
    by_cases hq : p1 < q1
    · rw [if_pos (by simp [hq])] at ht; exact Or.inr ⟨ht, hlt.mp hq⟩
    · rw [if_neg (by simp [hq])] at ht; exact Or.inl ⟨ht, Int.not_lt.mp (fun w => hq (hlt.mpr w))⟩
  have hmin : ∀ t : Int, isMax = false → t = (if (p1 < q1) = (isMax = true) then q1 else p1).toInt → (t = q1.toInt ∧ q1.toInt ≤ p1.toInt) ∨ (t = p1.toInt ∧ p1.toInt < q1.toInt) := by
    intro t hm ht
    subst hm
    by_cases hq : p1 < q1
    · rw [if_neg (by simp [hq])] at ht; exact Or.inr ⟨ht, hlt.mp hq⟩
    · rw [if_pos (by simp [hq])] at ht; exact Or.inl ⟨ht, Int.not_lt.mp (fun w => hq (hlt.mpr w))⟩
  generalize (if (p1 < q1) = (isMax = true) then q1 else p1) = g at hmax hmin ⊢
  unfold ymm at h
  split at h
  · rename_i c1
    have := ylS_ok c1 hR (ysu_ok hx hy)
    refine yG_now h hR ⟨g, rfl, ?_⟩
    cases isMax
    · have := hmin _ rfl rfl
      show yev v x = _
      rw [hx]; congr 1; omega
    · have := hmax _ rfl rfl
      show yev v y = _
      rw [hy]; congr 1; omega
  · split at h
    · rename_i c2
      have := ylS_ok c2 hR (ysu_ok hy hx)
      refine yG_now h hR ⟨g, rfl, ?_⟩
      cases isMax
      · have := hmin _ rfl rfl
        show yev v y = _
        rw [hy]; congr 1; omega
      · have := hmax _ rfl rfl
        show yev v x = _
        rw [hx]; congr 1; omega
    · split at h
      · rename_i r1 hr1
        split at h
        · rename_i r2 hr2
          obtain ⟨a1, a2⟩ := yrg_ok hR.2.1 hr1 hx
          obtain ⟨b1, b2⟩ := yrg_ok hR.2.1 hr2 hy
          have i1 := ile_iff r1.1 r2.1
          have i2 := ile_iff r1.2 r2.2
          cases isMax
          · have hg := hmin _ rfl rfl
            refine yGi_fr h hR ?_ ?_
            · split <;> rename_i w <;> rw [w] at i1 <;> simp at i1 <;> omega
            · split <;> rename_i w <;> rw [w] at i2 <;> simp at i2 <;> omega
          · have hg := hmax _ rfl rfl
            refine yGi_fr h hR ?_ ?_
            · split <;> rename_i w <;> rw [w] at i1 <;> simp at i1 <;> omega
            · split <;> rename_i w <;> rw [w] at i2 <;> simp at i2 <;> omega
        · cases h
      · cases h
theorem ys_mm {isMax : Bool} (h : yx_mm isMax pc L S st k = true) (hk : ∀ cf, k cf = true → yJ p l e R s m args below meth c Q b sz sr tt D ca ms ws0 nL K0 S0 v cf)
    (row : ∀ (H : Heap) (ls : Array Slot) (stk : List Value) (locs : List Loc) (x y : Int32), ls.size = nL → (stk.map fun w => w.category).sum ≤ 8 → W p l e R s m args below meth c H locs K0 S0 Q (F0 m (pc + 3) ls (.int (if (x < y) = (isMax = true) then y else x) :: stk)) → W p l e R s m args below meth c H locs K0 S0 Q (F0 m pc ls (.int y :: .int x :: stk))) : yJat p l e R s m args below meth c Q b sz sr tt D ca ms ws0 nL K0 S0 v (pc, L, S, st) := by
  unfold yx_mm at h
  split at h
  · rename_i y x r
    rw [Bool.and_eq_true] at h
    intro H ls stk locs hR hH hL hS
    obtain ⟨w1, s1, rfl, hw1, hS1⟩ := ySR_cons hS
    obtain ⟨w2, s2, rfl, hw2, hS2⟩ := ySR_cons hS1
    obtain ⟨q, rfl, hy⟩ := hw1
    obtain ⟨p1, rfl, hx⟩ := hw2
    exact row H ls s2 locs p1 q hL.2.choose_spec.1.1 (by rw [ySR_sum hS2]; exact Nat.le_of_ble_eq_true h.1) (yon hk (ymm_ok h.2 hR hx hy) hH hL hS2)
  · cases h
theorem yway_ok {e : yE} {t z : Int} {kk : yS → Bool} {rest : Bool} (h : yway e t st kk rest = true) (hR : yRS v st) (hz : yev v e = some z) : (z = t → yGs v st kk) ∧ rest = true := by
  unfold yway at h
  split at h
  · rw [Bool.and_eq_true] at h
    exact ⟨fun _ => yGs_now h.1 hR, h.2⟩
  · rw [Bool.and_eq_true] at h
    exact ⟨fun w => yasS_gs2 h.1 hR (yoff_ok hz) (by omega) (yoff_ok (y_neg hz)) (by omega), h.2⟩
theorem ytgt_ok {off : Int} {kk : Nat → Bool} (h : ytgt pc off kk = true) : ∃ tg : Nat, (pc : Int) + off = (tg : Int) ∧ kk tg = true := by
  unfold ytgt at h
  split at h
  · rename_i n hn
    rw [zst_eq] at h
    exact ⟨n, hn, h⟩
  · cases h
theorem ys_table {dflt lo hi : Int} {offs : Array Int} (h : yx_table dflt lo hi offs pc L S st k = true) (hk : ∀ cf, k cf = true → yJ p l e R s m args below meth c Q b sz sr tt D ca ms ws0 nL K0 S0 v cf)
    (rowO : ∀ (H : Heap) (ls : Array Slot) (stk : List Value) (locs : List Loc) (x : Int32) (tgt : Nat), (x.toInt < lo ∨ hi < x.toInt) → (pc : Int) + dflt = (tgt : Int) → W p l e R s m args below meth c H locs K0 S0 Q (F0 m tgt ls stk) → W p l e R s m args below meth c H locs K0 S0 Q (F0 m pc ls (.int x :: stk)))
    (rowI : ∀ (H : Heap) (ls : Array Slot) (stk : List Value) (locs : List Loc) (x : Int32) (tgt : Nat) (off : Int), ¬ x.toInt < lo → ¬ hi < x.toInt → offs[(x.toInt - lo).toNat]? = some off → (pc : Int) + off = (tgt : Int) → W p l e R s m args below meth c H locs K0 S0 Q (F0 m tgt ls stk) → W p l e R s m args below meth c H locs K0 S0 Q (F0 m pc ls (.int x :: stk))) : yJat p l e R s m args below meth c Q b sz sr tt D ca ms ws0 nL K0 S0 v (pc, L, S, st) := by
  unfold yx_table at h
  split at h
  · rename_i x r
    rw [Bool.and_eq_true, yeqI_iff] at h
    obtain ⟨hsz, h⟩ := h
    intro H ls stk locs hR hH hL hS
    obtain ⟨w1, s1, rfl, hw1, hS1⟩ := ySR_cons hS
    obtain ⟨q, rfl, hx⟩ := hw1
    have key : ∀ (os : List Int) (t : Int), List.rec (motive := fun _ => Int → Bool) (fun _ => ytgt pc dflt fun tg => yasS (yoff x (1 - lo)) st (fun st => ygo tg L r st k) && yasS (yoff (ysu ([], 0) x) (hi + 1)) st (fun st => ygo tg L r st k)) (fun off _ ih v => yint v fun v => ytgt pc off fun tg => yway x v st (fun st => ygo tg L r st k) (ih (v + 1))) os t = true →
        (∃ tg : Nat, (pc : Int) + dflt = (tg : Int) ∧ ((q.toInt < lo ∨ hi < q.toInt) → W p l e R s m args below meth c H locs K0 S0 Q (F0 m tg ls s1))) ∧ ∀ (j : Nat) (off : Int), os[j]? = some off → ∃ tg : Nat, (pc : Int) + off = (tg : Int) ∧ (q.toInt = t + j → W p l e R s m args below meth c H locs K0 S0 Q (F0 m tg ls s1)) := by
      intro os
      induction os with
      | nil =>
        intro t ht
        obtain ⟨tg, g1, g2⟩ := ytgt_ok ht
        rw [Bool.and_eq_true] at g2
        refine ⟨⟨tg, g1, fun w => ?_⟩, fun j off hj => by simp at hj⟩
        rcases w with w | w
        · exact yonS hk (yasS_gs g2.1 hR (yoff_ok hx) (by omega)) hH hL hS1
        · exact yonS hk (yasS_gs g2.2 hR (yoff_ok (y_neg hx)) (by omega)) hH hL hS1
      | cons o os ih =>
        intro t ht
        have ht : yint t (fun v => ytgt pc o fun tg => yway x v st (fun st => ygo tg L r st k) (List.rec (motive := fun _ => Int → Bool) (fun _ => ytgt pc dflt fun tg => yasS (yoff x (1 - lo)) st (fun st => ygo tg L r st k) && yasS (yoff (ysu ([], 0) x) (hi + 1)) st (fun st => ygo tg L r st k)) (fun off _ ih v => yint v fun v => ytgt pc off fun tg => yway x v st (fun st => ygo tg L r st k) (ih (v + 1))) os (v + 1))) = true := ht
        rw [yint_eq] at ht
        obtain ⟨tg, g1, g2⟩ := ytgt_ok ht
        obtain ⟨g3, g4⟩ := yway_ok g2 hR hx
        obtain ⟨i1, i2⟩ := ih _ g4
        refine ⟨i1, fun j off hj => ?_⟩
        cases j with
        | zero =>
          cases hj
          exact ⟨tg, g1, fun w => yonS hk (g3 (by simpa using w)) hH hL hS1⟩
        | succ j =>
          obtain ⟨tg2, k1, k2⟩ := i2 j off (by simpa using hj)
          exact ⟨tg2, k1, fun w => k2 (by rw [w]; omega)⟩
    obtain ⟨⟨tg, d1, d2⟩, hin⟩ := key _ _ h
    by_cases ho : q.toInt < lo ∨ hi < q.toInt
    · exact rowO H ls s1 locs q tg ho d1 (d2 ho)
    · have hj : (q.toInt - lo).toNat < offs.toList.length := by
        have : (Int.ofNat offs.toList.length) = ((offs.toList.length : Nat) : Int) := rfl
        omega
      obtain ⟨tg2, k1, k2⟩ := hin (q.toInt - lo).toNat _ (List.getElem?_eq_getElem hj)
      exact rowI H ls s1 locs q tg2 _ (by omega) (by omega) (by rw [← Array.getElem?_toList]; exact List.getElem?_eq_getElem hj) k1 (k2 (by omega))
  · cases h
theorem ys_lookup {dflt : Int} {ps : Array (Int × Int)} (h : yx_lookup dflt ps pc L S st k = true) (hk : ∀ cf, k cf = true → yJ p l e R s m args below meth c Q b sz sr tt D ca ms ws0 nL K0 S0 v cf)
    (row : ∀ (H : Heap) (ls : Array Slot) (stk : List Value) (locs : List Loc) (x : Int32) (tgt : Nat) (off : Int), Op.lookupswitch.offset ps.toList dflt x.toInt = off → (pc : Int) + off = (tgt : Int) → W p l e R s m args below meth c H locs K0 S0 Q (F0 m tgt ls stk) → W p l e R s m args below meth c H locs K0 S0 Q (F0 m pc ls (.int x :: stk))) : yJat p l e R s m args below meth c Q b sz sr tt D ca ms ws0 nL K0 S0 v (pc, L, S, st) := by
  unfold yx_lookup at h
  split at h
  · rename_i x r
    intro H ls stk locs hR hH hL hS
    obtain ⟨w1, s1, rfl, hw1, hS1⟩ := ySR_cons hS
    obtain ⟨q, rfl, hx⟩ := hw1
    have key : ∀ (qs : List (Int × Int)), List.rec (motive := fun _ => Bool) (ytgt pc dflt fun tg => ygo tg L r st k) (fun p _ ih => yint p.1 fun v => ytgt pc p.2 fun tg => yway x v st (fun st => ygo tg L r st k) ih) qs = true → ∃ (tg : Nat) (off : Int), Op.lookupswitch.offset qs dflt q.toInt = off ∧ (pc : Int) + off = (tg : Int) ∧ W p l e R s m args below meth c H locs K0 S0 Q (F0 m tg ls s1) := by
      intro qs
      induction qs with
      | nil =>
        intro ht
        obtain ⟨tg, g1, g2⟩ := ytgt_ok ht
        exact ⟨tg, dflt, rfl, g1, yon0 hk g2 hR hH hL hS1⟩
      | cons o os ih =>
        intro ht
        have ht : yint o.1 (fun v => ytgt pc o.2 fun tg => yway x v st (fun st => ygo tg L r st k) (List.rec (motive := fun _ => Bool) (ytgt pc dflt fun tg => ygo tg L r st k) (fun p _ ih => yint p.1 fun v => ytgt pc p.2 fun tg => yway x v st (fun st => ygo tg L r st k) ih) os)) = true := ht
        rw [yint_eq] at ht
        obtain ⟨tg, g1, g2⟩ := ytgt_ok ht
        obtain ⟨g3, g4⟩ := yway_ok g2 hR hx
        obtain ⟨key, off⟩ := o
        by_cases hq : q.toInt = key
        · exact ⟨tg, off, by rw [Op.lookupswitch.offset_cons, if_pos hq.symm], g1, yonS hk (g3 hq) hH hL hS1⟩
        · obtain ⟨tg2, off2, e1, e2, e3⟩ := ih g4
          exact ⟨tg2, off2, by rw [Op.lookupswitch.offset_cons, if_neg (fun w => hq w.symm)]; exact e1, e2, e3⟩
    obtain ⟨tg, off, e1, e2, e3⟩ := key _ h
    exact row H ls s1 locs q tg off e1 e2 e3
  · cases h
end yStep1
