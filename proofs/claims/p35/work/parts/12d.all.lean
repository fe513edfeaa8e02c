/-! All methods, all kinds of objects. -/
noncomputable section
set_option maxRecDepth 100000 in
theorem zmc : zMcp.map zword = zMi.map (fun e => some (Cond.code e.1 e.2.1 e.2.2.1 e.2.2.2.1)) := by rfl
theorem zGoodCode (y : MethodName) (cc : ByteArray) (n : Nat) (r : Option FieldType) : goodWord (Cond.code y cc n r) = true := rfl
theorem z_inW {w : Nat} {c : Cond} (h : zword w = some c) (hg : goodWord c = true) : c ∈ zW := List.mem_filter.mpr ⟨zisT_mem h, hg⟩
theorem zMiOK_all : zMiOK zMi := by
  intro j y cc maxL ret kind na h
  rw [zget_eq] at h
  obtain ⟨⟨pi, pm, ps⟩, hB⟩ := zmiAll_at zmi_ok h
  have hcode : Cond.code y cc maxL ret ∈ zW := by
    have h1 : (zMcp.map zword)[j]? = some (some (Cond.code y cc maxL ret)) := by rw [zmc, List.getElem?_map, h]; rfl
    rw [List.getElem?_map] at h1
    cases h2 : zMcp[j]? with
    | none => rw [h2] at h1; cases h1
    | some w => rw [h2] at h1; exact z_inW (Option.some.inj h1) (zGoodCode _ _ _ _)
  simp only [zmiB, Bool.and_eq_true, decide_eq_true_eq] at hB
  obtain ⟨⟨⟨⟨⟨⟨b1, b2⟩, b3⟩, b4⟩, b5⟩, b6⟩, b7⟩ := hB
  refine ⟨⟨hcode, zisw_mem b1, ⟨b2, b3, b4⟩, b5⟩, b6, fun hk => ?_, fun hk => ?_, fun hk => ?_⟩
  · subst hk
    have b7 : (zisw pm (.instanceMethod y) && zisw ps (.selects y.cls y y)) = true := b7
    rw [Bool.and_eq_true] at b7
    exact ⟨zisw_mem b7.1, zisw_mem b7.2⟩
  · subst hk
    have b7 : (zisw pm (.instanceMethod y) && decide (y.name = "<init>") && decide (ret = none)) = true := b7
    simp only [Bool.and_eq_true, decide_eq_true_eq] at b7
    exact ⟨zisw_mem b7.1.1, b7.1.2, b7.2⟩
  · subst hk
    exact zisw_mem b7
/-- of objects of one kind: their fields' words, their kinds, what a new one holds -/
def zclB (df : List (List zAV)) (C : String) (T : u_T) (N : Nat) (p : List Nat × Nat × Nat) : Bool :=
  ((List.range N).all fun k => zisw (p.1.getD k 0) (u_lay C T k) && (match parseFieldDescriptor (T k).2.2.1 with
    | some ty => (match fget df k with
      | some (.inl w) => decide (w = defaultValue ty)
      | _ => false)
    | none => false)) && zisw p.2.1 (.instantiable C N) && zisw p.2.2 (.initialized C)
def zclAll : List vw_C → List (List (List zAV)) → List (List Nat × Nat × Nat) → Bool
  | [], _, _ => true
  | c :: t, d :: u, p :: q => zclB d c.1 c.2.1 c.2.2 p && zclAll t u q
  | _, _, _ => false
theorem zclAll_at {cs : List vw_C} {ds : List (List (List zAV))} {ps : List (List Nat × Nat × Nat)} (h : zclAll cs ds ps = true) {j : Nat} {c : vw_C} (hc : cs[j]? = some c) : ∃ d p, ds[j]? = some d ∧ zclB d c.1 c.2.1 c.2.2 p = true := by
  induction cs generalizing ds ps j with
  | nil => simp at hc
  | cons x t ih =>
    cases ds with
    | nil => simp [zclAll] at h
    | cons d u =>
      cases ps with
      | nil => simp [zclAll] at h
      | cons p q =>
        simp only [zclAll, Bool.and_eq_true] at h
        cases j with
        | zero => simp at hc; subst hc; exact ⟨d, p, rfl, h.1⟩
        | succ j =>
          obtain ⟨d1, p1, e1, e2⟩ := ih h.2 (by simpa using hc)
          exact ⟨d1, p1, by simpa using e1, e2⟩
set_option maxRecDepth 100000 in
theorem zcl_ok : zclAll vwCl zDef zLp = true := by decide +kernel
theorem zcl_nm : ∀ (ci : Nat) (C : String) (T : u_T) (N : Nat), vwCl[ci]? = some (C, T, N) → ∀ a, a < N → ∀ b, b < N → a ≠ b → (T a).2.1 ≠ (T b).2.1 := by
  intro ci C T N h
  match ci, h with
  | 0, h => cases h; exact nmX0
  | 1, h => cases h; exact nmX1
  | 2, h => cases h; exact nmX2
  | 3, h => cases h; exact nmX3
  | 4, h => cases h; exact nmX4
  | 5, h => cases h; exact nmX5
  | 6, h => cases h; exact nmX6
  | 7, h => cases h; exact nmX7
  | 8, h => cases h; exact nmX8
  | 9, h => cases h; exact nmX9
  | 10, h => cases h; exact nmX10
  | 11, h => cases h; exact nmX11
  | 12, h => cases h; exact nmX12
  | ci + 13, h => simp [vwCl] at h
theorem zClsOK_all : zClsOK zDef := by
  intro ci C T N h
  obtain ⟨d, p, hd, hB⟩ := zclAll_at zcl_ok h
  simp only [zclB, Bool.and_eq_true] at hB
  obtain ⟨⟨b1, b2⟩, b3⟩ := hB
  have hall : ∀ k, k < N → _ := fun k hk => List.all_eq_true.mp b1 k (List.mem_range.mpr hk)
  simp only [Bool.and_eq_true] at hall
  refine ⟨fun w hw => ?_, ⟨fun k => (parseFieldDescriptor (T k).2.2.1).getD .int, fun k hk => ?_, fun fs hfs k hk => ?_⟩, zcl_nm ci C T N h, zisw_mem b2, zisw_mem b3⟩
  · obtain ⟨k, hk, rfl⟩ := List.mem_map.mp hw
    exact zisw_mem (hall k (List.mem_range.mp hk)).1
  · have h2 := (hall k hk).2
    split at h2
    · rename_i ty ht
      dsimp only
      rw [ht]; rfl
    · cases h2
  · have h2 := (hall k hk).2
    rw [zget_eq, hd] at hfs
    cases hfs
    split at h2
    · rename_i ty ht
      split at h2
      · rename_i w hw
        refine ⟨w, hw, ?_⟩
        have := of_decide_eq_true h2
        dsimp only
        rw [ht]
        exact this
      · cases h2
    · cases h2
theorem zgc_4 : zword (zGp.getD 4 0) = some (Cond.code objectInit ⟨#[0xb1]⟩ 1 none) := by rfl
theorem zgc_7 : zword (zGp.getD 7 0) = some (Cond.code Lib.Math.max.name Lib.Math.max.code 2 (some .int)) := by rfl
theorem zgc_9 : zword (zGp.getD 9 0) = some (Cond.code Lib.Math.min.name Lib.Math.min.code 2 (some .int)) := by rfl
theorem zg_rest : zisw (zGp.getD 0 0) (.native arraycopyName) = true ∧ zisw (zGp.getD 1 0) (.static arraycopyName) = true ∧ zisw (zGp.getD 2 0) (.initialized "java/lang/System") = true ∧ zisw (zGp.getD 3 0) (.instanceMethod objectInit) = true ∧ zisw (zGp.getD 5 0) (.static Lib.Math.max.name) = true ∧ zisw (zGp.getD 6 0) (.initialized "java/lang/Math") = true ∧ zisw (zGp.getD 8 0) (.static Lib.Math.min.name) = true := by decide +kernel
theorem zGen_all : ∀ w ∈ zGenW, w ∈ zW := by
  obtain ⟨h0, h1, h2, h3, h5, h6, h8⟩ := zg_rest
  intro w hw
  simp only [zGenW, List.mem_cons, List.not_mem_nil, or_false] at hw
  rcases hw with rfl | rfl | rfl | rfl | rfl | rfl | rfl | rfl | rfl | rfl
  · exact zisw_mem h0
  · exact zisw_mem h1
  · exact zisw_mem h2
  · exact zisw_mem h3
  · exact z_inW zgc_4 (zGoodCode _ _ _ _)
  · exact zisw_mem h5
  · exact zisw_mem h6
  · exact z_inW zgc_7 (zGoodCode _ _ _ _)
  · exact zisw_mem h8
  · exact z_inW zgc_9 (zGoodCode _ _ _ _)
end
