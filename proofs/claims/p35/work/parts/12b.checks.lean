/-! The tables hold what is wanted of the classes and of the methods. -/
noncomputable section
def zisT (w : Nat) (c : Cond) : Bool := decide (zword w = some c)
theorem zisT_mem {w : Nat} {c : Cond} (h : zword w = some c) : c ∈ lw_tbl := by
  unfold zword at h
  cases hc : zget zWc (w / 256) with
  | none => rw [hc] at h; cases h
  | some ch =>
    rw [hc] at h
    rw [zget_eq] at hc
    dsimp only at h
    rw [zget_eq] at h
    rw [zWc_all]
    exact List.mem_flatten.mpr ⟨ch, List.mem_of_getElem? hc, List.mem_of_getElem? h⟩
/-- a method's words by their places, its code's apart -/
def zmiB (e : zMInfo) (p : Nat × Nat × Nat) : Bool := match e with
  | (y, _, maxL, ret, kind, na) => match p with
    | (pi, pm, ps) => zisw pi (.initialized y.cls) && decide (y.cls ≠ "java/lang/invoke/MethodHandle") && decide (y.cls ≠ "java/lang/invoke/VarHandle") && decide ((parseMethodDescriptor y.desc).map (fun d => d.parameters.length) = some na) && decide (maxL ≤ 41) && plainName y.cls &&
      (match kind with
        | 0 => zisw pm (.instanceMethod y) && zisw ps (.selects y.cls y y)
        | 1 => zisw pm (.instanceMethod y) && decide (y.name = "<init>") && decide (ret = none)
        | 2 => zisw pm (.static y)
        | _ => false)
def zmiAll : List zMInfo → List (Nat × Nat × Nat) → Bool
  | [], _ => true
  | e :: t, p :: q => zmiB e p && zmiAll t q
  | _ :: _, [] => false
theorem zmiAll_at {es : List zMInfo} {ps : List (Nat × Nat × Nat)} (h : zmiAll es ps = true) {j : Nat} {e : zMInfo} (he : es[j]? = some e) : ∃ p, zmiB e p = true := by
  induction es generalizing ps j with
  | nil => simp at he
  | cons x t ih =>
    cases ps with
    | nil => simp [zmiAll] at h
    | cons p q =>
      simp only [zmiAll, Bool.and_eq_true] at h
      cases j with
      | zero => simp at he; subst he; exact ⟨p, h.1⟩
      | succ j => exact ih h.2 (by simpa using he)
set_option maxRecDepth 100000 in
theorem zmi_ok : zmiAll zMi zMp = true := by decide +kernel
def zcdB (own nm : String) (ret : Option FieldType) (cc : ByteArray) (cd : zCode) : Bool := (List.range (64 * cd.length)).all fun pc => match zfetch cd pc with
  | none => true
  | some (i, a, b0, w) => zgood zMi own nm ret cc pc i a b0 w
theorem zcdB_ok {own nm : String} {ret : Option FieldType} {cc : ByteArray} {cd : zCode} (h : zcdB own nm ret cc cd = true) : ∀ (pc : Nat) (i : Instr) (a b0 w : Nat), zfetch cd pc = some (i, a, b0, w) → zgood zMi own nm ret cc pc i a b0 w = true := by
  intro pc i a b0 w hf
  have hl : pc < 64 * cd.length := by
    unfold zfetch at hf
    split at hf
    · cases hf
    · rename_i r hr
      rw [zget_eq] at hr
      have := (List.getElem?_eq_some_iff.mp hr).1
      omega
  have h1 := List.all_eq_true.mp h pc (List.mem_range.mpr hl)
  rw [hf] at h1
  exact h1
/-- the same, a stretch of a long one -/
def zcdR (own nm : String) (ret : Option FieldType) (cc : ByteArray) (cd : zCode) (lo k : Nat) : Bool := (List.range k).all fun q => match zfetch cd (lo + q) with
  | none => true
  | some (i, a, b0, w) => zgood zMi own nm ret cc (lo + q) i a b0 w
theorem zcdR_ok {own nm : String} {ret : Option FieldType} {cc : ByteArray} {cd : zCode} {lo k : Nat} (h : zcdR own nm ret cc cd lo k = true) : ∀ (pc : Nat) (i : Instr) (a b0 w : Nat), lo ≤ pc → pc < lo + k → zfetch cd pc = some (i, a, b0, w) → zgood zMi own nm ret cc pc i a b0 w = true := by
  intro pc i a b0 w h1 h2 hf
  have h3 := List.all_eq_true.mp h (pc - lo) (List.mem_range.mpr (by omega))
  rw [show lo + (pc - lo) = pc by omega, hf] at h3
  exact h3
end
