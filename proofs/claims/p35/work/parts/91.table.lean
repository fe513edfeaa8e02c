/-! Each contract of the table has been looked through, or is by hand. -/
def yPd (j : Nat) (ct : yCt) : Prop := (∃ nL cd hs, zget zMt j = some (nL, cd) ∧ yver0 yTt zMt yTb nL cd ct hs = true ∧ yverA yTt zMt yTb cd ct hs hs = true) ∨ yX j ct
def yAllP : Nat → List (List yCt) → Prop
  | _, [] => True
  | j, cs :: t => (∀ c ∈ cs, yrkB c = true ∧ yPd j c) ∧ yAllP (j + 1) t
theorem yAllP_at : ∀ {l : List (List yCt)} {j0 : Nat}, yAllP j0 l → ∀ (j : Nat) (cs : List yCt), l[j]? = some cs → ∀ c ∈ cs, yrkB c = true ∧ yPd (j0 + j) c := by
  intro l
  induction l with
  | nil => intro j0 _ j cs h; simp at h
  | cons x t ih =>
    intro j0 h j cs hj c hc
    cases j with
    | zero => cases hj; exact h.1 c hc
    | succ j =>
      have := ih h.2 j cs (by simpa using hj) c hc
      rw [show j0 + (j + 1) = j0 + 1 + j by omega]
      exact this
theorem yp_0 : yrkB yc_0 = true ∧ yPd 108 yc_0 := by
  have h := yv_0
  rw [Bool.and_eq_true, Bool.and_eq_true] at h
  exact ⟨h.1, Or.inl ⟨6, zC_X11_feed, yh_0, rfl, h.2.1, h.2.2⟩⟩
theorem yp_1 : yrkB yc_1 = true ∧ yPd 87 yc_1 := by
  have h := yv_1
  rw [Bool.and_eq_true, Bool.and_eq_true] at h
  exact ⟨h.1, Or.inl ⟨6, zC_X9_cutNumber, yh_1, rfl, h.2.1, h.2.2⟩⟩
theorem yp_2 : yrkB yc_2 = true ∧ yPd 90 yc_2 := by
  have h := yv_2
  rw [Bool.and_eq_true, Bool.and_eq_true] at h
  exact ⟨h.1, Or.inl ⟨6, zC_X9_isWord, yh_2, rfl, h.2.1, h.2.2⟩⟩
theorem yp_3 : yrkB yc_3 = true ∧ yPd 89 yc_3 := by
  have h := yv_3
  rw [Bool.and_eq_true, Bool.and_eq_true] at h
  exact ⟨h.1, Or.inl ⟨4, zC_X9_wordKind, yh_3, rfl, h.2.1, h.2.2⟩⟩
theorem yp_4 : yrkB yc_4 = true ∧ yPd 86 yc_4 := by
  have h := yv_4
  rw [Bool.and_eq_true, Bool.and_eq_true] at h
  exact ⟨h.1, Or.inl ⟨6, zC_X9_cutWord, yh_4, rfl, h.2.1, h.2.2⟩⟩
theorem yp_5 : yrkB yc_5 = true ∧ yPd 84 yc_5 := by
  have h := yv_5
  rw [Bool.and_eq_true, Bool.and_eq_true] at h
  exact ⟨h.1, Or.inl ⟨4, zC_X9_cut, yh_5, rfl, h.2.1, h.2.2⟩⟩
theorem yp_6 : yrkB yc_6 = true ∧ yPd 272 yc_6 := by
  have h := yv_6
  rw [Bool.and_eq_true, Bool.and_eq_true] at h
  exact ⟨h.1, Or.inl ⟨4, zC_J7_fill_53178, yh_6, rfl, h.2.1, h.2.2⟩⟩
theorem yp_7 : yrkB yc_7 = true ∧ yPd 272 yc_7 := by
  have h := yv_7
  rw [Bool.and_eq_true, Bool.and_eq_true] at h
  exact ⟨h.1, Or.inl ⟨4, zC_J7_fill_53178, yh_7, rfl, h.2.1, h.2.2⟩⟩
theorem yp_8 : yrkB yc_8 = true ∧ yPd 272 yc_8 := by
  have h := yv_8
  rw [Bool.and_eq_true, Bool.and_eq_true] at h
  exact ⟨h.1, Or.inl ⟨4, zC_J7_fill_53178, yh_8, rfl, h.2.1, h.2.2⟩⟩
theorem yp_9 : yrkB yc_9 = true ∧ yPd 272 yc_9 := by
  have h := yv_9
  rw [Bool.and_eq_true, Bool.and_eq_true] at h
  exact ⟨h.1, Or.inl ⟨4, zC_J7_fill_53178, yh_9, rfl, h.2.1, h.2.2⟩⟩
theorem yp_10 : yrkB yc_10 = true ∧ yPd 272 yc_10 := by
  have h := yv_10
  rw [Bool.and_eq_true, Bool.and_eq_true] at h
  exact ⟨h.1, Or.inl ⟨4, zC_J7_fill_53178, yh_10, rfl, h.2.1, h.2.2⟩⟩
theorem yp_11 : yrkB yc_11 = true ∧ yPd 272 yc_11 := by
  have h := yv_11
  rw [Bool.and_eq_true, Bool.and_eq_true] at h
  exact ⟨h.1, Or.inl ⟨4, zC_J7_fill_53178, yh_11, rfl, h.2.1, h.2.2⟩⟩
theorem yp_12 : yrkB yc_12 = true ∧ yPd 272 yc_12 := by
  have h := yv_12
  rw [Bool.and_eq_true, Bool.and_eq_true] at h
  exact ⟨h.1, Or.inl ⟨4, zC_J7_fill_53178, yh_12, rfl, h.2.1, h.2.2⟩⟩
theorem yp_13 : yrkB yc_13 = true ∧ yPd 46 yc_13 := by
  have h := yv_13
  rw [Bool.and_eq_true, Bool.and_eq_true] at h
  exact ⟨h.1, Or.inl ⟨3, zC_X5_find, yh_13, rfl, h.2.1, h.2.2⟩⟩
theorem yp_14 : yrkB yc_14 = true ∧ yPd 46 yc_14 := by
  have h := yv_14
  rw [Bool.and_eq_true, Bool.and_eq_true] at h
  exact ⟨h.1, Or.inl ⟨3, zC_X5_find, yh_14, rfl, h.2.1, h.2.2⟩⟩
theorem yp_15 : yrkB yc_15 = true ∧ yPd 40 yc_15 := by
  have h := yv_15
  rw [Bool.and_eq_true, Bool.and_eq_true] at h
  exact ⟨h.1, Or.inl ⟨6, zC_X5_readLevel, yh_15, rfl, h.2.1, h.2.2⟩⟩
theorem yp_16 : yrkB yc_16 = true ∧ yPd 36 yc_16 := by
  have h := yv_16
  rw [Bool.and_eq_true, Bool.and_eq_true] at h
  exact ⟨h.1, Or.inl ⟨2, zC_X5_readGuild, yh_16, rfl, h.2.1, h.2.2⟩⟩
theorem yp_17 : yrkB yc_17 = true ∧ yPd 46 yc_17 := by
  have h := yv_17
  rw [Bool.and_eq_true, Bool.and_eq_true] at h
  exact ⟨h.1, Or.inl ⟨3, zC_X5_find, yh_17, rfl, h.2.1, h.2.2⟩⟩
theorem yp_18 : yrkB yc_18 = true ∧ yPd 34 yc_18 := by
  have h := yv_18
  rw [Bool.and_eq_true, Bool.and_eq_true] at h
  exact ⟨h.1, Or.inl ⟨2, zC_X5_readBan, yh_18, rfl, h.2.1, h.2.2⟩⟩
theorem yp_19 : yrkB yc_19 = true ∧ yPd 46 yc_19 := by
  have h := yv_19
  rw [Bool.and_eq_true, Bool.and_eq_true] at h
  exact ⟨h.1, Or.inl ⟨3, zC_X5_find, yh_19, rfl, h.2.1, h.2.2⟩⟩
theorem yp_20 : yrkB yc_20 = true ∧ yPd 46 yc_20 := by
  have h := yv_20
  rw [Bool.and_eq_true, Bool.and_eq_true] at h
  exact ⟨h.1, Or.inl ⟨3, zC_X5_find, yh_20, rfl, h.2.1, h.2.2⟩⟩
theorem yp_21 : yrkB yc_21 = true ∧ yPd 38 yc_21 := by
  have h := yv_21
  rw [Bool.and_eq_true, Bool.and_eq_true] at h
  exact ⟨h.1, Or.inl ⟨4, zC_X5_readActor, yh_21, rfl, h.2.1, h.2.2⟩⟩
theorem yp_22 : yrkB yc_22 = true ∧ yPd 31 yc_22 := by
  have h := yv_22
  rw [Bool.and_eq_true, Bool.and_eq_true] at h
  exact ⟨h.1, Or.inl ⟨2, zC_X5_readThing, yh_22, rfl, h.2.1, h.2.2⟩⟩
theorem yp_23 : yrkB yc_23 = true ∧ yPd 29 yc_23 := by
  have h := yv_23
  rw [Bool.and_eq_true, Bool.and_eq_true] at h
  exact ⟨h.1, Or.inl ⟨4, zC_X5_reads, yh_23, rfl, h.2.1, h.2.2⟩⟩
theorem yp_25 : yrkB yc_25 = true ∧ yPd 55 yc_25 := by
  have h := yv_25
  rw [Bool.and_eq_true, Bool.and_eq_true] at h
  exact ⟨h.1, Or.inl ⟨3, zC_X7_begin, yh_25, rfl, h.2.1, h.2.2⟩⟩
theorem yp_26 : yrkB yc_26 = true ∧ yPd 8 yc_26 := by
  have h := yv_26
  rw [Bool.and_eq_true, Bool.and_eq_true] at h
  exact ⟨h.1, Or.inl ⟨3, zC_X1_save, yh_26, rfl, h.2.1, h.2.2⟩⟩
theorem yp_27 : yrkB yc_27 = true ∧ yPd 107 yc_27 := by
  have h := yv_27
  rw [Bool.and_eq_true, Bool.and_eq_true] at h
  exact ⟨h.1, Or.inl ⟨2, zC_X11_beginAnew, yh_27, rfl, h.2.1, h.2.2⟩⟩
theorem yp_28 : yrkB yc_28 = true ∧ yPd 111 yc_28 := by
  have h := yv_28
  rw [Bool.and_eq_true, Bool.and_eq_true] at h
  exact ⟨h.1, Or.inl ⟨3, zC_X11_land, yh_28, rfl, h.2.1, h.2.2⟩⟩
theorem yp_29 : yrkB yc_29 = true ∧ yPd 42 yc_29 := by
  have h := yv_29
  rw [Bool.and_eq_true, Bool.and_eq_true] at h
  exact ⟨h.1, Or.inl ⟨3, zC_X5_readUnit, yh_29, rfl, h.2.1, h.2.2⟩⟩
theorem yp_30 : yrkB yc_30 = true ∧ yPd 43 yc_30 := by
  have h := yv_30
  rw [Bool.and_eq_true, Bool.and_eq_true] at h
  exact ⟨h.1, Or.inl ⟨2, zC_X5_joint, yh_30, rfl, h.2.1, h.2.2⟩⟩
theorem yp_31 : yrkB yc_31 = true ∧ yPd 113 yc_31 := by
  have h := yv_31
  rw [Bool.and_eq_true, Bool.and_eq_true] at h
  exact ⟨h.1, Or.inl ⟨2, zC_X11_thing, yh_31, rfl, h.2.1, h.2.2⟩⟩
theorem yp_32 : yrkB yc_32 = true ∧ yPd 114 yc_32 := by
  have h := yv_32
  rw [Bool.and_eq_true, Bool.and_eq_true] at h
  exact ⟨h.1, Or.inl ⟨2, zC_X11_feast, yh_32, rfl, h.2.1, h.2.2⟩⟩
theorem yp_33 : yrkB yc_33 = true ∧ yPd 61 yc_33 := by
  have h := yv_33
  rw [Bool.and_eq_true, Bool.and_eq_true] at h
  exact ⟨h.1, Or.inl ⟨9, zC_X7_value, yh_33, rfl, h.2.1, h.2.2⟩⟩
theorem yp_34 : yrkB yc_34 = true ∧ yPd 62 yc_34 := by
  have h := yv_34
  rw [Bool.and_eq_true, Bool.and_eq_true] at h
  exact ⟨h.1, Or.inl ⟨7, zC_X7_perform, yh_34, rfl, h.2.1, h.2.2⟩⟩
theorem yp_35 : yrkB yc_35 = true ∧ yPd 120 yc_35 := by
  have h := yv_35
  rw [Bool.and_eq_true, Bool.and_eq_true] at h
  exact ⟨h.1, Or.inl ⟨2, zC_X11_deed, yh_35, rfl, h.2.1, h.2.2⟩⟩
theorem yp_36 : yrkB yc_36 = true ∧ yPd 121 yc_36 := by
  have h := yv_36
  rw [Bool.and_eq_true, Bool.and_eq_true] at h
  exact ⟨h.1, Or.inl ⟨4, zC_X11_shift, yh_36, rfl, h.2.1, h.2.2⟩⟩
theorem yp_37 : yrkB yc_37 = true ∧ yPd 122 yc_37 := by
  have h := yv_37
  rw [Bool.and_eq_true, Bool.and_eq_true] at h
  exact ⟨h.1, Or.inl ⟨1, zC_X11_leap, yh_37, rfl, h.2.1, h.2.2⟩⟩
theorem yp_38 : yrkB yc_38 = true ∧ yPd 9 yc_38 := by
  have h := yv_38
  rw [Bool.and_eq_true, Bool.and_eq_true] at h
  exact ⟨h.1, Or.inl ⟨3, zC_X1_load, yh_38, rfl, h.2.1, h.2.2⟩⟩
theorem yp_39 : yrkB yc_39 = true ∧ yPd 123 yc_39 := by
  have h := yv_39
  rw [Bool.and_eq_true, Bool.and_eq_true] at h
  exact ⟨h.1, Or.inl ⟨1, zC_X11_undo, yh_39, rfl, h.2.1, h.2.2⟩⟩
theorem yp_40 : yrkB yc_40 = true ∧ yPd 124 yc_40 := by
  have h := yv_40
  rw [Bool.and_eq_true, Bool.and_eq_true] at h
  exact ⟨h.1, Or.inl ⟨1, zC_X11_redo, yh_40, rfl, h.2.1, h.2.2⟩⟩
theorem yp_41 : yrkB yc_41 = true ∧ yPd 125 yc_41 := by
  have h := yv_41
  rw [Bool.and_eq_true, Bool.and_eq_true] at h
  exact ⟨h.1, Or.inl ⟨3, zC_X11_crime, yh_41, rfl, h.2.1, h.2.2⟩⟩
theorem yp_42 : yrkB yc_42 = true ∧ yPd 68 yc_42 := by
  have h := yv_42
  rw [Bool.and_eq_true, Bool.and_eq_true] at h
  exact ⟨h.1, Or.inl ⟨4, zC_X7_packed, yh_42, rfl, h.2.1, h.2.2⟩⟩
theorem yp_43 : yrkB yc_43 = true ∧ yPd 272 yc_43 := by
  have h := yv_43
  rw [Bool.and_eq_true, Bool.and_eq_true] at h
  exact ⟨h.1, Or.inl ⟨4, zC_J7_fill_53178, yh_43, rfl, h.2.1, h.2.2⟩⟩
theorem yp_44 : yrkB yc_44 = true ∧ yPd 69 yc_44 := by
  have h := yv_44
  rw [Bool.and_eq_true, Bool.and_eq_true] at h
  exact ⟨h.1, Or.inl ⟨6, zC_X7_unpack, yh_44, rfl, h.2.1, h.2.2⟩⟩
theorem yp_45 : yrkB yc_45 = true ∧ yPd 61 yc_45 := by
  have h := yv_45
  rw [Bool.and_eq_true, Bool.and_eq_true] at h
  exact ⟨h.1, Or.inl ⟨9, zC_X7_value, yh_45, rfl, h.2.1, h.2.2⟩⟩
theorem yp_46 : yrkB yc_46 = true ∧ yPd 76 yc_46 := by
  have h := yv_46
  rw [Bool.and_eq_true, Bool.and_eq_true] at h
  exact ⟨h.1, Or.inl ⟨2, zC_X8_findGoal, yh_46, rfl, h.2.1, h.2.2⟩⟩
theorem yp_47 : yrkB yc_47 = true ∧ yPd 62 yc_47 := by
  have h := yv_47
  rw [Bool.and_eq_true, Bool.and_eq_true] at h
  exact ⟨h.1, Or.inl ⟨7, zC_X7_perform, yh_47, rfl, h.2.1, h.2.2⟩⟩
theorem yp_48 : yrkB yc_48 = true ∧ yPd 64 yc_48 := by
  have h := yv_48
  rw [Bool.and_eq_true, Bool.and_eq_true] at h
  exact ⟨h.1, Or.inl ⟨3, zC_X7_takeTurns, yh_48, rfl, h.2.1, h.2.2⟩⟩
theorem yp_49 : yrkB yc_49 = true ∧ yPd 65 yc_49 := by
  have h := yv_49
  rw [Bool.and_eq_true, Bool.and_eq_true] at h
  exact ⟨h.1, Or.inl ⟨4, zC_X7_brokenBans, yh_49, rfl, h.2.1, h.2.2⟩⟩
theorem yp_50 : yrkB yc_50 = true ∧ yPd 79 yc_50 := by
  have h := yv_50
  rw [Bool.and_eq_true, Bool.and_eq_true] at h
  exact ⟨h.1, Or.inl ⟨8, zC_X8_keep, yh_50, rfl, h.2.1, h.2.2⟩⟩
theorem yp_51 : yrkB yc_51 = true ∧ yPd 77 yc_51 := by
  have h := yv_51
  rw [Bool.and_eq_true, Bool.and_eq_true] at h
  exact ⟨h.1, Or.inl ⟨6, zC_X8_widen, yh_51, rfl, h.2.1, h.2.2⟩⟩
theorem yp_52 : yrkB yc_52 = true ∧ yPd 73 yc_52 := by
  have h := yv_52
  rw [Bool.and_eq_true, Bool.and_eq_true] at h
  exact ⟨h.1, Or.inl ⟨3, zC_X8_fewestHours, yh_52, rfl, h.2.1, h.2.2⟩⟩
theorem yp_53 : yrkB yc_53 = true ∧ yPd 82 yc_53 := by
  have h := yv_53
  rw [Bool.and_eq_true, Bool.and_eq_true] at h
  exact ⟨h.1, Or.inl ⟨5, zC_X8_layDeeds, yh_53, rfl, h.2.1, h.2.2⟩⟩
theorem yp_54 : yrkB yc_54 = true ∧ yPd 130 yc_54 := by
  have h := yv_54
  rw [Bool.and_eq_true, Bool.and_eq_true] at h
  exact ⟨h.1, Or.inl ⟨3, zC_X11_plan, yh_54, rfl, h.2.1, h.2.2⟩⟩
theorem yp_55 : yrkB yc_55 = true ∧ yPd 57 yc_55 := by
  have h := yv_55
  rw [Bool.and_eq_true, Bool.and_eq_true] at h
  exact ⟨h.1, Or.inl ⟨4, zC_X7_goToRest, yh_55, rfl, h.2.1, h.2.2⟩⟩
theorem yp_56 : yrkB yc_56 = true ∧ yPd 74 yc_56 := by
  have h := yv_56
  rw [Bool.and_eq_true, Bool.and_eq_true] at h
  exact ⟨h.1, Or.inl ⟨4, zC_X8_seekGain, yh_56, rfl, h.2.1, h.2.2⟩⟩
theorem yp_57 : yrkB yc_57 = true ∧ yPd 132 yc_57 := by
  have h := yv_57
  rw [Bool.and_eq_true, Bool.and_eq_true] at h
  exact ⟨h.1, Or.inl ⟨8, zC_X11_loophole, yh_57, rfl, h.2.1, h.2.2⟩⟩
theorem yp_58 : yrkB yc_58 = true ∧ yPd 67 yc_58 := by
  have h := yv_58
  rw [Bool.and_eq_true, Bool.and_eq_true] at h
  exact ⟨h.1, Or.inl ⟨3, zC_X7_pass, yh_58, rfl, h.2.1, h.2.2⟩⟩
theorem yp_59 : yrkB yc_59 = true ∧ yPd 99 yc_59 := by
  have h := yv_59
  rw [Bool.and_eq_true, Bool.and_eq_true] at h
  exact ⟨h.1, Or.inl ⟨3, zC_X10_oneShiftWill, yh_59, rfl, h.2.1, h.2.2⟩⟩
theorem yp_60 : yrkB yc_60 = true ∧ yPd 98 yc_60 := by
  have h := yv_60
  rw [Bool.and_eq_true, Bool.and_eq_true] at h
  exact ⟨h.1, Or.inl ⟨6, zC_X10_fewestShifts, yh_60, rfl, h.2.1, h.2.2⟩⟩
theorem yp_61 : yrkB yc_61 = true ∧ yPd 134 yc_61 := by
  have h := yv_61
  rw [Bool.and_eq_true, Bool.and_eq_true] at h
  exact ⟨h.1, Or.inl ⟨6, zC_X11_amend, yh_61, rfl, h.2.1, h.2.2⟩⟩
theorem yp_62 : yrkB yc_62 = true ∧ yPd 70 yc_62 := by
  have h := yv_62
  rw [Bool.and_eq_true, Bool.and_eq_true] at h
  exact ⟨h.1, Or.inl ⟨3, zC_X7_startCalendars, yh_62, rfl, h.2.1, h.2.2⟩⟩
theorem yp_63 : yrkB yc_63 = true ∧ yPd 71 yc_63 := by
  have h := yv_63
  rw [Bool.and_eq_true, Bool.and_eq_true] at h
  exact ⟨h.1, Or.inl ⟨2, zC_X7_nextCalendar, yh_63, rfl, h.2.1, h.2.2⟩⟩
theorem yp_64 : yrkB yc_64 = true ∧ yPd 102 yc_64 := by
  have h := yv_64
  rw [Bool.and_eq_true, Bool.and_eq_true] at h
  exact ⟨h.1, Or.inl ⟨5, zC_X10_countCalendars, yh_64, rfl, h.2.1, h.2.2⟩⟩
theorem yp_65 : yrkB yc_65 = true ∧ yPd 135 yc_65 := by
  have h := yv_65
  rw [Bool.and_eq_true, Bool.and_eq_true] at h
  exact ⟨h.1, Or.inl ⟨6, zC_X11_all, yh_65, rfl, h.2.1, h.2.2⟩⟩
theorem yp_66 : yrkB yc_66 = true ∧ yPd 104 yc_66 := by
  have h := yv_66
  rw [Bool.and_eq_true, Bool.and_eq_true] at h
  exact ⟨h.1, Or.inl ⟨8, zC_X10_bestDay, yh_66, rfl, h.2.1, h.2.2⟩⟩
theorem yp_67 : yrkB yc_67 = true ∧ yPd 103 yc_67 := by
  have h := yv_67
  rw [Bool.and_eq_true, Bool.and_eq_true] at h
  exact ⟨h.1, Or.inl ⟨8, zC_X10_turnsToRest, yh_67, rfl, h.2.1, h.2.2⟩⟩
theorem yp_68 : yrkB yc_68 = true ∧ yPd 137 yc_68 := by
  have h := yv_68
  rw [Bool.and_eq_true, Bool.and_eq_true] at h
  exact ⟨h.1, Or.inl ⟨3, zC_X11_guilds, yh_68, rfl, h.2.1, h.2.2⟩⟩
theorem yp_69 : yrkB yc_69 = true ∧ yPd 138 yc_69 := by
  have h := yv_69
  rw [Bool.and_eq_true, Bool.and_eq_true] at h
  exact ⟨h.1, Or.inl ⟨4, zC_X11_more, yh_69, rfl, h.2.1, h.2.2⟩⟩
theorem yp_70 : yrkB yc_70 = true ∧ yPd 139 yc_70 := by
  have h := yv_70
  rw [Bool.and_eq_true, Bool.and_eq_true] at h
  exact ⟨h.1, Or.inl ⟨2, zC_X11_lies, yh_70, rfl, h.2.1, h.2.2⟩⟩
theorem yp_71 : yrkB yc_71 = true ∧ yPd 272 yc_71 := by
  have h := yv_71
  rw [Bool.and_eq_true, Bool.and_eq_true] at h
  exact ⟨h.1, Or.inl ⟨4, zC_J7_fill_53178, yh_71, rfl, h.2.1, h.2.2⟩⟩
theorem yp_72 : yrkB yc_72 = true ∧ yPd 55 yc_72 := by
  have h := yv_72
  rw [Bool.and_eq_true, Bool.and_eq_true] at h
  exact ⟨h.1, Or.inl ⟨3, zC_X7_begin, yh_72, rfl, h.2.1, h.2.2⟩⟩
theorem yp_73 : yrkB yc_73 = true ∧ yPd 70 yc_73 := by
  have h := yv_73
  rw [Bool.and_eq_true, Bool.and_eq_true] at h
  exact ⟨h.1, Or.inl ⟨3, zC_X7_startCalendars, yh_73, rfl, h.2.1, h.2.2⟩⟩
theorem yp_74 : yrkB yc_74 = true ∧ yPd 272 yc_74 := by
  have h := yv_74
  rw [Bool.and_eq_true, Bool.and_eq_true] at h
  exact ⟨h.1, Or.inl ⟨4, zC_J7_fill_53178, yh_74, rfl, h.2.1, h.2.2⟩⟩
theorem yp_75 : yrkB yc_75 = true ∧ yPd 27 yc_75 := by
  have h := yv_75
  rw [Bool.and_eq_true, Bool.and_eq_true] at h
  exact ⟨h.1, Or.inl ⟨6, zC_X4_lastKnown, yh_75, rfl, h.2.1, h.2.2⟩⟩
theorem yp_76 : yrkB yc_76 = true ∧ yPd 62 yc_76 := by
  have h := yv_76
  rw [Bool.and_eq_true, Bool.and_eq_true] at h
  exact ⟨h.1, Or.inl ⟨7, zC_X7_perform, yh_76, rfl, h.2.1, h.2.2⟩⟩
theorem yp_77 : yrkB yc_77 = true ∧ yPd 64 yc_77 := by
  have h := yv_77
  rw [Bool.and_eq_true, Bool.and_eq_true] at h
  exact ⟨h.1, Or.inl ⟨3, zC_X7_takeTurns, yh_77, rfl, h.2.1, h.2.2⟩⟩
theorem yp_78 : yrkB yc_78 = true ∧ yPd 67 yc_78 := by
  have h := yv_78
  rw [Bool.and_eq_true, Bool.and_eq_true] at h
  exact ⟨h.1, Or.inl ⟨3, zC_X7_pass, yh_78, rfl, h.2.1, h.2.2⟩⟩
theorem yp_79 : yrkB yc_79 = true ∧ yPd 13 yc_79 := by
  have h := yv_79
  rw [Bool.and_eq_true, Bool.and_eq_true] at h
  exact ⟨h.1, Or.inl ⟨4, zC_X2_asKnown, yh_79, rfl, h.2.1, h.2.2⟩⟩
theorem yp_80 : yrkB yc_80 = true ∧ yPd 71 yc_80 := by
  have h := yv_80
  rw [Bool.and_eq_true, Bool.and_eq_true] at h
  exact ⟨h.1, Or.inl ⟨2, zC_X7_nextCalendar, yh_80, rfl, h.2.1, h.2.2⟩⟩
theorem yp_81 : yrkB yc_81 = true ∧ yPd 272 yc_81 := by
  have h := yv_81
  rw [Bool.and_eq_true, Bool.and_eq_true] at h
  exact ⟨h.1, Or.inl ⟨4, zC_J7_fill_53178, yh_81, rfl, h.2.1, h.2.2⟩⟩
theorem yp_82 : yrkB yc_82 = true ∧ yPd 12 yc_82 := by
  have h := yv_82
  rw [Bool.and_eq_true, Bool.and_eq_true] at h
  exact ⟨h.1, Or.inl ⟨4, zC_X2_fitting, yh_82, rfl, h.2.1, h.2.2⟩⟩
theorem yp_83 : yrkB yc_83 = true ∧ yPd 14 yc_83 := by
  have h := yv_83
  rw [Bool.and_eq_true, Bool.and_eq_true] at h
  exact ⟨h.1, Or.inl ⟨3, zC_X2_noteFit, yh_83, rfl, h.2.1, h.2.2⟩⟩
theorem yp_84 : yrkB yc_84 = true ∧ yPd 11 yc_84 := by
  have h := yv_84
  rw [Bool.and_eq_true, Bool.and_eq_true] at h
  exact ⟨h.1, Or.inl ⟨8, zC_X2_sift, yh_84, rfl, h.2.1, h.2.2⟩⟩
theorem yp_85 : yrkB yc_85 = true ∧ yPd 16 yc_85 := by
  have h := yv_85
  rw [Bool.and_eq_true, Bool.and_eq_true] at h
  exact ⟨h.1, Or.inl ⟨4, zC_X2_leftAtMost, yh_85, rfl, h.2.1, h.2.2⟩⟩
theorem yp_86 : yrkB yc_86 = true ∧ yPd 15 yc_86 := by
  have h := yv_86
  rw [Bool.and_eq_true, Bool.and_eq_true] at h
  exact ⟨h.1, Or.inl ⟨4, zC_X2_tellingMost, yh_86, rfl, h.2.1, h.2.2⟩⟩
theorem yp_87 : yrkB yc_87 = true ∧ yPd 145 yc_87 := by
  have h := yv_87
  rw [Bool.and_eq_true, Bool.and_eq_true] at h
  exact ⟨h.1, Or.inl ⟨6, zC_X11_ask, yh_87, rfl, h.2.1, h.2.2⟩⟩
theorem yp_88 : yrkB yc_88 = true ∧ yPd 8 yc_88 := by
  have h := yv_88
  rw [Bool.and_eq_true, Bool.and_eq_true] at h
  exact ⟨h.1, Or.inl ⟨3, zC_X1_save, yh_88, rfl, h.2.1, h.2.2⟩⟩
theorem yp_89 : yrkB yc_89 = true ∧ yPd 146 yc_89 := by
  have h := yv_89
  rw [Bool.and_eq_true, Bool.and_eq_true] at h
  exact ⟨h.1, Or.inl ⟨2, zC_X11_image, yh_89, rfl, h.2.1, h.2.2⟩⟩
theorem yp_90 : yrkB yc_90 = true ∧ yPd 9 yc_90 := by
  have h := yv_90
  rw [Bool.and_eq_true, Bool.and_eq_true] at h
  exact ⟨h.1, Or.inl ⟨3, zC_X1_load, yh_90, rfl, h.2.1, h.2.2⟩⟩
theorem yp_91 : yrkB yc_91 = true ∧ yPd 147 yc_91 := by
  have h := yv_91
  rw [Bool.and_eq_true, Bool.and_eq_true] at h
  exact ⟨h.1, Or.inl ⟨2, zC_X11_back, yh_91, rfl, h.2.1, h.2.2⟩⟩
theorem yp_92 : yrkB yc_92 = true ∧ yPd 148 yc_92 := by
  have h := yv_92
  rw [Bool.and_eq_true, Bool.and_eq_true] at h
  exact ⟨h.1, Or.inl ⟨2, zC_X11_about, yh_92, rfl, h.2.1, h.2.2⟩⟩
theorem yp_93 : yrkB yc_93 = true ∧ yPd 150 yc_93 := by
  have h := yv_93
  rw [Bool.and_eq_true, Bool.and_eq_true] at h
  exact ⟨h.1, Or.inl ⟨6, zC_X12_feed, yh_93, rfl, h.2.1, h.2.2⟩⟩
theorem yp_94 : yrkB yc_94 = true ∧ yPd 157 yc_94 := by
  have h := yv_94
  rw [Bool.and_eq_true, Bool.and_eq_true] at h
  exact ⟨h.1, Or.inl ⟨3, zC_X12_token, yh_94, rfl, h.2.1, h.2.2⟩⟩
theorem yp_95 : yrkB yc_95 = true ∧ yPd 160 yc_95 := by
  have h := yv_95
  rw [Bool.and_eq_true, Bool.and_eq_true] at h
  exact ⟨h.1, Or.inl ⟨1, zC_X12_isOwn, yh_95, rfl, h.2.1, h.2.2⟩⟩
theorem yp_96 : yrkB yc_96 = true ∧ yPd 161 yc_96 := by
  have h := yv_96
  rw [Bool.and_eq_true, Bool.and_eq_true] at h
  exact ⟨h.1, Or.inl ⟨1, zC_X12_isName, yh_96, rfl, h.2.1, h.2.2⟩⟩
theorem yp_97 : yrkB yc_97 = true ∧ yPd 165 yc_97 := by
  have h := yv_97
  rw [Bool.and_eq_true, Bool.and_eq_true] at h
  exact ⟨h.1, Or.inl ⟨5, zC_X12_find, yh_97, rfl, h.2.1, h.2.2⟩⟩
theorem yp_98 : yrkB yc_98 = true ∧ yPd 165 yc_98 := by
  have h := yv_98
  rw [Bool.and_eq_true, Bool.and_eq_true] at h
  exact ⟨h.1, Or.inl ⟨5, zC_X12_find, yh_98, rfl, h.2.1, h.2.2⟩⟩
theorem yp_99 : yrkB yc_99 = true ∧ yPd 165 yc_99 := by
  have h := yv_99
  rw [Bool.and_eq_true, Bool.and_eq_true] at h
  exact ⟨h.1, Or.inl ⟨5, zC_X12_find, yh_99, rfl, h.2.1, h.2.2⟩⟩
theorem yp_100 : yrkB yc_100 = true ∧ yPd 167 yc_100 := by
  have h := yv_100
  rw [Bool.and_eq_true, Bool.and_eq_true] at h
  exact ⟨h.1, Or.inl ⟨4, zC_X12_oldName, yh_100, rfl, h.2.1, h.2.2⟩⟩
theorem yp_101 : yrkB yc_101 = true ∧ yPd 169 yc_101 := by
  have h := yv_101
  rw [Bool.and_eq_true, Bool.and_eq_true] at h
  exact ⟨h.1, Or.inl ⟨1, zC_X12_tight, yh_101, rfl, h.2.1, h.2.2⟩⟩
theorem yp_102 : yrkB yc_102 = true ∧ yPd 165 yc_102 := by
  have h := yv_102
  rw [Bool.and_eq_true, Bool.and_eq_true] at h
  exact ⟨h.1, Or.inl ⟨5, zC_X12_find, yh_102, rfl, h.2.1, h.2.2⟩⟩
theorem yp_103 : yrkB yc_103 = true ∧ yPd 176 yc_103 := by
  have h := yv_103
  rw [Bool.and_eq_true, Bool.and_eq_true] at h
  exact ⟨h.1, Or.inl ⟨3, zC_X12_unit, yh_103, rfl, h.2.1, h.2.2⟩⟩
theorem yp_104 : yrkB yc_104 = true ∧ yPd 171 yc_104 := by
  have h := yv_104
  rw [Bool.and_eq_true, Bool.and_eq_true] at h
  exact ⟨h.1, Or.inl ⟨2, zC_X12_hasRelation, yh_104, rfl, h.2.1, h.2.2⟩⟩
theorem yp_105 : yrkB yc_105 = true ∧ yPd 170 yc_105 := by
  have h := yv_105
  rw [Bool.and_eq_true, Bool.and_eq_true] at h
  exact ⟨h.1, Or.inl ⟨2, zC_X12_close, yh_105, rfl, h.2.1, h.2.2⟩⟩
theorem yp_106 : yrkB yc_106 = true ∧ yPd 178 yc_106 := by
  have h := yv_106
  rw [Bool.and_eq_true, Bool.and_eq_true] at h
  exact ⟨h.1, Or.inl ⟨3, zC_X12_hasBracket, yh_106, rfl, h.2.1, h.2.2⟩⟩
theorem yp_107 : yrkB yc_107 = true ∧ yPd 170 yc_107 := by
  have h := yv_107
  rw [Bool.and_eq_true, Bool.and_eq_true] at h
  exact ⟨h.1, Or.inl ⟨2, zC_X12_close, yh_107, rfl, h.2.1, h.2.2⟩⟩
theorem yp_108 : yrkB yc_108 = true ∧ yPd 165 yc_108 := by
  have h := yv_108
  rw [Bool.and_eq_true, Bool.and_eq_true] at h
  exact ⟨h.1, Or.inl ⟨5, zC_X12_find, yh_108, rfl, h.2.1, h.2.2⟩⟩
theorem yp_109 : yrkB yc_109 = true ∧ yPd 179 yc_109 := by
  have h := yv_109
  rw [Bool.and_eq_true, Bool.and_eq_true] at h
  exact ⟨h.1, Or.inl ⟨4, zC_X12_formula, yh_109, rfl, h.2.1, h.2.2⟩⟩
theorem yp_110 : yrkB yc_110 = true ∧ yPd 165 yc_110 := by
  have h := yv_110
  rw [Bool.and_eq_true, Bool.and_eq_true] at h
  exact ⟨h.1, Or.inl ⟨5, zC_X12_find, yh_110, rfl, h.2.1, h.2.2⟩⟩
theorem yp_111 : yrkB yc_111 = true ∧ yPd 165 yc_111 := by
  have h := yv_111
  rw [Bool.and_eq_true, Bool.and_eq_true] at h
  exact ⟨h.1, Or.inl ⟨5, zC_X12_find, yh_111, rfl, h.2.1, h.2.2⟩⟩
theorem yp_112 : yrkB yc_112 = true ∧ yPd 167 yc_112 := by
  have h := yv_112
  rw [Bool.and_eq_true, Bool.and_eq_true] at h
  exact ⟨h.1, Or.inl ⟨4, zC_X12_oldName, yh_112, rfl, h.2.1, h.2.2⟩⟩
theorem yp_113 : yrkB yc_113 = true ∧ yPd 179 yc_113 := by
  have h := yv_113
  rw [Bool.and_eq_true, Bool.and_eq_true] at h
  exact ⟨h.1, Or.inl ⟨4, zC_X12_formula, yh_113, rfl, h.2.1, h.2.2⟩⟩
theorem yp_114 : yrkB yc_114 = true ∧ yPd 186 yc_114 := by
  have h := yv_114
  rw [Bool.and_eq_true, Bool.and_eq_true] at h
  exact ⟨h.1, Or.inl ⟨2, zC_X12_readSets, yh_114, rfl, h.2.1, h.2.2⟩⟩
theorem yp_115 : yrkB yc_115 = true ∧ yPd 192 yc_115 := by
  have h := yv_115
  rw [Bool.and_eq_true, Bool.and_eq_true] at h
  exact ⟨h.1, Or.inl ⟨1, zC_X12_readLine, yh_115, rfl, h.2.1, h.2.2⟩⟩
theorem yp_116 : yrkB yc_116 = true ∧ yPd 193 yc_116 := by
  have h := yv_116
  rw [Bool.and_eq_true, Bool.and_eq_true] at h
  exact ⟨h.1, Or.inl ⟨1, zC_X12_readAll, yh_116, rfl, h.2.1, h.2.2⟩⟩
theorem yp_118 : yrkB yc_118 = true ∧ yPd 202 yc_118 := by
  have h := yv_118
  rw [Bool.and_eq_true, Bool.and_eq_true] at h
  exact ⟨h.1, Or.inl ⟨2, zC_X12_loadTold, yh_118, rfl, h.2.1, h.2.2⟩⟩
theorem yp_119 : yrkB yc_119 = true ∧ yPd 201 yc_119 := by
  have h := yv_119
  rw [Bool.and_eq_true, Bool.and_eq_true] at h
  exact ⟨h.1, Or.inl ⟨2, zC_X12_keep, yh_119, rfl, h.2.1, h.2.2⟩⟩
theorem yp_120 : yrkB yc_120 = true ∧ yPd 194 yc_120 := by
  have h := yv_120
  rw [Bool.and_eq_true, Bool.and_eq_true] at h
  exact ⟨h.1, Or.inl ⟨2, zC_X12_land, yh_120, rfl, h.2.1, h.2.2⟩⟩
theorem yp_121 : yrkB yc_121 = true ∧ yPd 210 yc_121 := by
  have h := yv_121
  rw [Bool.and_eq_true, Bool.and_eq_true] at h
  exact ⟨h.1, Or.inl ⟨2, zC_X12_thing, yh_121, rfl, h.2.1, h.2.2⟩⟩
theorem yp_122 : yrkB yc_122 = true ∧ yPd 211 yc_122 := by
  have h := yv_122
  rw [Bool.and_eq_true, Bool.and_eq_true] at h
  exact ⟨h.1, Or.inl ⟨2, zC_X12_feast, yh_122, rfl, h.2.1, h.2.2⟩⟩
theorem yp_123 : yrkB yc_123 = true ∧ yPd 200 yc_123 := by
  have h := yv_123
  rw [Bool.and_eq_true, Bool.and_eq_true] at h
  exact ⟨h.1, Or.inl ⟨2, zC_X12_load, yh_123, rfl, h.2.1, h.2.2⟩⟩
theorem yp_124 : yrkB yc_124 = true ∧ yPd 181 yc_124 := by
  have h := yv_124
  rw [Bool.and_eq_true, Bool.and_eq_true] at h
  exact ⟨h.1, Or.inl ⟨3, zC_X12_done, yh_124, rfl, h.2.1, h.2.2⟩⟩
theorem yp_125 : yrkB yc_125 = true ∧ yPd 218 yc_125 := by
  have h := yv_125
  rw [Bool.and_eq_true, Bool.and_eq_true] at h
  exact ⟨h.1, Or.inl ⟨2, zC_X12_act, yh_125, rfl, h.2.1, h.2.2⟩⟩
theorem yp_126 : yrkB yc_126 = true ∧ yPd 223 yc_126 := by
  have h := yv_126
  rw [Bool.and_eq_true, Bool.and_eq_true] at h
  exact ⟨h.1, Or.inl ⟨4, zC_X12_shift, yh_126, rfl, h.2.1, h.2.2⟩⟩
theorem yp_127 : yrkB yc_127 = true ∧ yPd 224 yc_127 := by
  have h := yv_127
  rw [Bool.and_eq_true, Bool.and_eq_true] at h
  exact ⟨h.1, Or.inl ⟨1, zC_X12_leap, yh_127, rfl, h.2.1, h.2.2⟩⟩
theorem yp_128 : yrkB yc_128 = true ∧ yPd 219 yc_128 := by
  have h := yv_128
  rw [Bool.and_eq_true, Bool.and_eq_true] at h
  exact ⟨h.1, Or.inl ⟨4, zC_X12_exchange, yh_128, rfl, h.2.1, h.2.2⟩⟩
theorem yp_129 : yrkB yc_129 = true ∧ yPd 225 yc_129 := by
  have h := yv_129
  rw [Bool.and_eq_true, Bool.and_eq_true] at h
  exact ⟨h.1, Or.inl ⟨1, zC_X12_undo, yh_129, rfl, h.2.1, h.2.2⟩⟩
theorem yp_130 : yrkB yc_130 = true ∧ yPd 226 yc_130 := by
  have h := yv_130
  rw [Bool.and_eq_true, Bool.and_eq_true] at h
  exact ⟨h.1, Or.inl ⟨1, zC_X12_redo, yh_130, rfl, h.2.1, h.2.2⟩⟩
theorem yp_131 : yrkB yc_131 = true ∧ yPd 227 yc_131 := by
  have h := yv_131
  rw [Bool.and_eq_true, Bool.and_eq_true] at h
  exact ⟨h.1, Or.inl ⟨3, zC_X12_crime, yh_131, rfl, h.2.1, h.2.2⟩⟩
theorem yp_132 : yrkB yc_132 = true ∧ yPd 229 yc_132 := by
  have h := yv_132
  rw [Bool.and_eq_true, Bool.and_eq_true] at h
  exact ⟨h.1, Or.inl ⟨3, zC_X12_putTrail, yh_132, rfl, h.2.1, h.2.2⟩⟩
theorem yp_133 : yrkB yc_133 = true ∧ yPd 230 yc_133 := by
  have h := yv_133
  rw [Bool.and_eq_true, Bool.and_eq_true] at h
  exact ⟨h.1, Or.inl ⟨5, zC_X12_isTrail, yh_133, rfl, h.2.1, h.2.2⟩⟩
theorem yp_134 : yrkB yc_134 = true ∧ yPd 236 yc_134 := by
  have h := yv_134
  rw [Bool.and_eq_true, Bool.and_eq_true] at h
  exact ⟨h.1, Or.inl ⟨3, zC_X12_chainOf, yh_134, rfl, h.2.1, h.2.2⟩⟩
theorem yp_135 : yrkB yc_135 = true ∧ yPd 237 yc_135 := by
  have h := yv_135
  rw [Bool.and_eq_true, Bool.and_eq_true] at h
  exact ⟨h.1, Or.inl ⟨5, zC_X12_put, yh_135, rfl, h.2.1, h.2.2⟩⟩
theorem yp_136 : yrkB yc_136 = true ∧ yPd 238 yc_136 := by
  have h := yv_136
  rw [Bool.and_eq_true, Bool.and_eq_true] at h
  exact ⟨h.1, Or.inl ⟨2, zC_X12_beginCome, yh_136, rfl, h.2.1, h.2.2⟩⟩
theorem yp_137 : yrkB yc_137 = true ∧ yPd 235 yc_137 := by
  have h := yv_137
  rw [Bool.and_eq_true, Bool.and_eq_true] at h
  exact ⟨h.1, Or.inl ⟨4, zC_X12_isCome, yh_137, rfl, h.2.1, h.2.2⟩⟩
theorem yp_138 : yrkB yc_138 = true ∧ yPd 237 yc_138 := by
  have h := yv_138
  rw [Bool.and_eq_true, Bool.and_eq_true] at h
  exact ⟨h.1, Or.inl ⟨5, zC_X12_put, yh_138, rfl, h.2.1, h.2.2⟩⟩
theorem yp_139 : yrkB yc_139 = true ∧ yPd 240 yc_139 := by
  have h := yv_139
  rw [Bool.and_eq_true, Bool.and_eq_true] at h
  exact ⟨h.1, Or.inl ⟨5, zC_X12_putWay, yh_139, rfl, h.2.1, h.2.2⟩⟩
theorem yp_140 : yrkB yc_140 = true ∧ yPd 234 yc_140 := by
  have h := yv_140
  rw [Bool.and_eq_true, Bool.and_eq_true] at h
  exact ⟨h.1, Or.inl ⟨3, zC_X12_loadCome, yh_140, rfl, h.2.1, h.2.2⟩⟩
theorem yp_141 : yrkB yc_141 = true ∧ yPd 250 yc_141 := by
  have h := yv_141
  rw [Bool.and_eq_true, Bool.and_eq_true] at h
  exact ⟨h.1, Or.inl ⟨3, zC_X12_calendars, yh_141, rfl, h.2.1, h.2.2⟩⟩
theorem yp_142 : yrkB yc_142 = true ∧ yPd 251 yc_142 := by
  have h := yv_142
  rw [Bool.and_eq_true, Bool.and_eq_true] at h
  exact ⟨h.1, Or.inl ⟨4, zC_X12_layCalendar, yh_142, rfl, h.2.1, h.2.2⟩⟩
theorem yp_143 : yrkB yc_143 = true ∧ yPd 183 yc_143 := by
  have h := yv_143
  rw [Bool.and_eq_true, Bool.and_eq_true] at h
  exact ⟨h.1, Or.inl ⟨4, zC_X12_worked, yh_143, rfl, h.2.1, h.2.2⟩⟩
theorem yp_144 : yrkB yc_144 = true ∧ yPd 204 yc_144 := by
  have h := yv_144
  rw [Bool.and_eq_true, Bool.and_eq_true] at h
  exact ⟨h.1, Or.inl ⟨5, zC_X12_doSets, yh_144, rfl, h.2.1, h.2.2⟩⟩
theorem yp_145 : yrkB yc_145 = true ∧ yPd 206 yc_145 := by
  have h := yv_145
  rw [Bool.and_eq_true, Bool.and_eq_true] at h
  exact ⟨h.1, Or.inl ⟨2, zC_X12_doLaws, yh_145, rfl, h.2.1, h.2.2⟩⟩
theorem yp_146 : yrkB yc_146 = true ∧ yPd 209 yc_146 := by
  have h := yv_146
  rw [Bool.and_eq_true, Bool.and_eq_true] at h
  exact ⟨h.1, Or.inl ⟨3, zC_X12_goHours, yh_146, rfl, h.2.1, h.2.2⟩⟩
theorem yp_147 : yrkB yc_147 = true ∧ yPd 253 yc_147 := by
  have h := yv_147
  rw [Bool.and_eq_true, Bool.and_eq_true] at h
  exact ⟨h.1, Or.inl ⟨5, zC_X12_wanted, yh_147, rfl, h.2.1, h.2.2⟩⟩
theorem yp_148 : yrkB yc_148 = true ∧ yPd 254 yc_148 := by
  have h := yv_148
  rw [Bool.and_eq_true, Bool.and_eq_true] at h
  exact ⟨h.1, Or.inl ⟨8, zC_X12_shifts, yh_148, rfl, h.2.1, h.2.2⟩⟩
theorem yp_149 : yrkB yc_149 = true ∧ yPd 256 yc_149 := by
  have h := yv_149
  rw [Bool.and_eq_true, Bool.and_eq_true] at h
  exact ⟨h.1, Or.inl ⟨4, zC_X12_more, yh_149, rfl, h.2.1, h.2.2⟩⟩
theorem yp_150 : yrkB yc_150 = true ∧ yPd 257 yc_150 := by
  have h := yv_150
  rw [Bool.and_eq_true, Bool.and_eq_true] at h
  exact ⟨h.1, Or.inl ⟨2, zC_X12_lies, yh_150, rfl, h.2.1, h.2.2⟩⟩
theorem yp_151 : yrkB yc_151 = true ∧ yPd 258 yc_151 := by
  have h := yv_151
  rw [Bool.and_eq_true, Bool.and_eq_true] at h
  exact ⟨h.1, Or.inl ⟨4, zC_X12_look, yh_151, rfl, h.2.1, h.2.2⟩⟩
theorem yp_152 : yrkB yc_152 = true ∧ yPd 259 yc_152 := by
  have h := yv_152
  rw [Bool.and_eq_true, Bool.and_eq_true] at h
  exact ⟨h.1, Or.inl ⟨2, zC_X12_untell, yh_152, rfl, h.2.1, h.2.2⟩⟩
theorem yp_153 : yrkB yc_153 = true ∧ yPd 262 yc_153 := by
  have h := yv_153
  rw [Bool.and_eq_true, Bool.and_eq_true] at h
  exact ⟨h.1, Or.inl ⟨4, zC_X12_lastHour, yh_153, rfl, h.2.1, h.2.2⟩⟩
theorem yp_154 : yrkB yc_154 = true ∧ yPd 202 yc_154 := by
  have h := yv_154
  rw [Bool.and_eq_true, Bool.and_eq_true] at h
  exact ⟨h.1, Or.inl ⟨2, zC_X12_loadTold, yh_154, rfl, h.2.1, h.2.2⟩⟩
theorem yp_155 : yrkB yc_155 = true ∧ yPd 263 yc_155 := by
  have h := yv_155
  rw [Bool.and_eq_true, Bool.and_eq_true] at h
  exact ⟨h.1, Or.inl ⟨6, zC_X12_fits, yh_155, rfl, h.2.1, h.2.2⟩⟩
theorem yp_156 : yrkB yc_156 = true ∧ yPd 264 yc_156 := by
  have h := yv_156
  rw [Bool.and_eq_true, Bool.and_eq_true] at h
  exact ⟨h.1, Or.inl ⟨4, zC_X12_fit, yh_156, rfl, h.2.1, h.2.2⟩⟩
theorem yp_157 : yrkB yc_157 = true ∧ yPd 204 yc_157 := by
  have h := yv_157
  rw [Bool.and_eq_true, Bool.and_eq_true] at h
  exact ⟨h.1, Or.inl ⟨5, zC_X12_doSets, yh_157, rfl, h.2.1, h.2.2⟩⟩
theorem yp_158 : yrkB yc_158 = true ∧ yPd 206 yc_158 := by
  have h := yv_158
  rw [Bool.and_eq_true, Bool.and_eq_true] at h
  exact ⟨h.1, Or.inl ⟨2, zC_X12_doLaws, yh_158, rfl, h.2.1, h.2.2⟩⟩
theorem yp_159 : yrkB yc_159 = true ∧ yPd 209 yc_159 := by
  have h := yv_159
  rw [Bool.and_eq_true, Bool.and_eq_true] at h
  exact ⟨h.1, Or.inl ⟨3, zC_X12_goHours, yh_159, rfl, h.2.1, h.2.2⟩⟩
theorem yp_160 : yrkB yc_160 = true ∧ yPd 266 yc_160 := by
  have h := yv_160
  rw [Bool.and_eq_true, Bool.and_eq_true] at h
  exact ⟨h.1, Or.inl ⟨4, zC_X12_fullest, yh_160, rfl, h.2.1, h.2.2⟩⟩
theorem yp_161 : yrkB yc_161 = true ∧ yPd 267 yc_161 := by
  have h := yv_161
  rw [Bool.and_eq_true, Bool.and_eq_true] at h
  exact ⟨h.1, Or.inl ⟨7, zC_X12_ask, yh_161, rfl, h.2.1, h.2.2⟩⟩
theorem yp_162 : yrkB yc_162 = true ∧ yPd 271 yc_162 := by
  have h := yv_162
  rw [Bool.and_eq_true, Bool.and_eq_true] at h
  exact ⟨h.1, Or.inl ⟨2, zC_X12_about, yh_162, rfl, h.2.1, h.2.2⟩⟩
theorem yp_163 : yrkB yc_163 = true ∧ yPd 270 yc_163 := by
  have h := yv_163
  rw [Bool.and_eq_true, Bool.and_eq_true] at h
  exact ⟨h.1, Or.inl ⟨3, zC_X12_back, yh_163, rfl, h.2.1, h.2.2⟩⟩
theorem yp_164 : yrkB yc_164 = true ∧ yPd 269 yc_164 := by
  have h := yv_164
  rw [Bool.and_eq_true, Bool.and_eq_true] at h
  exact ⟨h.1, Or.inl ⟨3, zC_X12_image, yh_164, rfl, h.2.1, h.2.2⟩⟩
theorem yp_167 : yrkB yc_167 = true ∧ yPd 265 yc_167 := by
  have h := yv_167
  rw [Bool.and_eq_true, Bool.and_eq_true] at h
  exact ⟨h.1, Or.inl ⟨5, zC_X12_rests, yh_167, rfl, h.2.1, h.2.2⟩⟩
theorem yp_168 : yrkB yc_168 = true ∧ yPd 24 yc_168 := by
  have h := yv_168
  rw [Bool.and_eq_true, Bool.and_eq_true] at h
  exact ⟨h.1, Or.inl ⟨2, zC_X4_takeBack, yh_168, rfl, h.2.1, h.2.2⟩⟩
theorem yp_172 : yrkB yc_172 = true ∧ yPd 23 yc_172 := by
  have h := yv_172
  rw [Bool.and_eq_true, Bool.and_eq_true] at h
  exact ⟨h.1, Or.inl ⟨4, zC_X4_tell, yh_172, rfl, h.2.1, h.2.2⟩⟩
theorem yp_174 : yrkB yc_174 = true ∧ yPd 258 yc_174 := by
  have h := yv_174
  rw [Bool.and_eq_true, Bool.and_eq_true] at h
  exact ⟨h.1, Or.inl ⟨4, zC_X12_look, yh_174, rfl, h.2.1, h.2.2⟩⟩
theorem yp_175 : yrkB yc_175 = true ∧ yPd 258 yc_175 := by
  have h := yv_175
  rw [Bool.and_eq_true, Bool.and_eq_true] at h
  exact ⟨h.1, Or.inl ⟨4, zC_X12_look, yh_175, rfl, h.2.1, h.2.2⟩⟩
theorem yp_176 : yrkB yc_176 = true ∧ yPd 258 yc_176 := by
  have h := yv_176
  rw [Bool.and_eq_true, Bool.and_eq_true] at h
  exact ⟨h.1, Or.inl ⟨4, zC_X12_look, yh_176, rfl, h.2.1, h.2.2⟩⟩
theorem yp_177 : yrkB yc_177 = true ∧ yPd 258 yc_177 := by
  have h := yv_177
  rw [Bool.and_eq_true, Bool.and_eq_true] at h
  exact ⟨h.1, Or.inl ⟨4, zC_X12_look, yh_177, rfl, h.2.1, h.2.2⟩⟩
theorem yp_179 : yrkB yc_179 = true ∧ yPd 258 yc_179 := by
  have h := yv_179
  rw [Bool.and_eq_true, Bool.and_eq_true] at h
  exact ⟨h.1, Or.inl ⟨4, zC_X12_look, yh_179, rfl, h.2.1, h.2.2⟩⟩
theorem yp_180 : yrkB yc_180 = true ∧ yPd 258 yc_180 := by
  have h := yv_180
  rw [Bool.and_eq_true, Bool.and_eq_true] at h
  exact ⟨h.1, Or.inl ⟨4, zC_X12_look, yh_180, rfl, h.2.1, h.2.2⟩⟩
theorem yp_181 : yrkB yc_181 = true ∧ yPd 258 yc_181 := by
  have h := yv_181
  rw [Bool.and_eq_true, Bool.and_eq_true] at h
  exact ⟨h.1, Or.inl ⟨4, zC_X12_look, yh_181, rfl, h.2.1, h.2.2⟩⟩
theorem yp_182 : yrkB yc_182 = true ∧ yPd 255 yc_182 := by
  have h := yv_182
  rw [Bool.and_eq_true, Bool.and_eq_true] at h
  exact ⟨h.1, Or.inl ⟨5, zC_X12_guilds, yh_182, rfl, h.2.1, h.2.2⟩⟩
theorem yp_183 : yrkB yc_183 = true ∧ yPd 252 yc_183 := by
  have h := yv_183
  rw [Bool.and_eq_true, Bool.and_eq_true] at h
  exact ⟨h.1, Or.inl ⟨8, zC_X12_all, yh_183, rfl, h.2.1, h.2.2⟩⟩
theorem yp_184 : yrkB yc_184 = true ∧ yPd 249 yc_184 := by
  have h := yv_184
  rw [Bool.and_eq_true, Bool.and_eq_true] at h
  exact ⟨h.1, Or.inl ⟨5, zC_X12_amendsTwo, yh_184, rfl, h.2.1, h.2.2⟩⟩
theorem yp_185 : yrkB yc_185 = true ∧ yPd 248 yc_185 := by
  have h := yv_185
  rw [Bool.and_eq_true, Bool.and_eq_true] at h
  exact ⟨h.1, Or.inl ⟨7, zC_X12_amend, yh_185, rfl, h.2.1, h.2.2⟩⟩
theorem yp_186 : yrkB yc_186 = true ∧ yPd 207 yc_186 := by
  have h := yv_186
  rw [Bool.and_eq_true, Bool.and_eq_true] at h
  exact ⟨h.1, Or.inl ⟨3, zC_X12_brokenNow, yh_186, rfl, h.2.1, h.2.2⟩⟩
theorem yp_187 : yrkB yc_187 = true ∧ yPd 239 yc_187 := by
  have h := yv_187
  rw [Bool.and_eq_true, Bool.and_eq_true] at h
  exact ⟨h.1, Or.inl ⟨5, zC_X12_goOn, yh_187, rfl, h.2.1, h.2.2⟩⟩
theorem yp_188 : yrkB yc_188 = true ∧ yPd 242 yc_188 := by
  have h := yv_188
  rw [Bool.and_eq_true, Bool.and_eq_true] at h
  exact ⟨h.1, Or.inl ⟨4, zC_X12_layMost, yh_188, rfl, h.2.1, h.2.2⟩⟩
theorem yp_189 : yrkB yc_189 = true ∧ yPd 245 yc_189 := by
  have h := yv_189
  rw [Bool.and_eq_true, Bool.and_eq_true] at h
  exact ⟨h.1, Or.inl ⟨7, zC_X12_loophole, yh_189, rfl, h.2.1, h.2.2⟩⟩
theorem yp_190 : yrkB yc_190 = true ∧ yPd 131 yc_190 := by
  have h := yv_190
  rw [Bool.and_eq_true, Bool.and_eq_true] at h
  exact ⟨h.1, Or.inl ⟨2, zC_X11_most, yh_190, rfl, h.2.1, h.2.2⟩⟩
theorem yp_191 : yrkB yc_191 = true ∧ yPd 241 yc_191 := by
  have h := yv_191
  rw [Bool.and_eq_true, Bool.and_eq_true] at h
  exact ⟨h.1, Or.inl ⟨4, zC_X12_plan, yh_191, rfl, h.2.1, h.2.2⟩⟩
theorem yp_192 : yrkB yc_192 = true ∧ yPd 233 yc_192 := by
  have h := yv_192
  rw [Bool.and_eq_true, Bool.and_eq_true] at h
  exact ⟨h.1, Or.inl ⟨5, zC_X12_clash, yh_192, rfl, h.2.1, h.2.2⟩⟩
theorem yp_193 : yrkB yc_193 = true ∧ yPd 52 yc_193 := by
  have h := yv_193
  rw [Bool.and_eq_true, Bool.and_eq_true] at h
  exact ⟨h.1, Or.inl ⟨4, zC_X6_comesRound, yh_193, rfl, h.2.1, h.2.2⟩⟩
theorem yp_194 : yrkB yc_194 = true ∧ yPd 231 yc_194 := by
  have h := yv_194
  rw [Bool.and_eq_true, Bool.and_eq_true] at h
  exact ⟨h.1, Or.inl ⟨4, zC_X12_round, yh_194, rfl, h.2.1, h.2.2⟩⟩
theorem yp_195 : yrkB yc_195 = true ∧ yPd 64 yc_195 := by
  have h := yv_195
  rw [Bool.and_eq_true, Bool.and_eq_true] at h
  exact ⟨h.1, Or.inl ⟨3, zC_X7_takeTurns, yh_195, rfl, h.2.1, h.2.2⟩⟩
theorem yp_196 : yrkB yc_196 = true ∧ yPd 65 yc_196 := by
  have h := yv_196
  rw [Bool.and_eq_true, Bool.and_eq_true] at h
  exact ⟨h.1, Or.inl ⟨4, zC_X7_brokenBans, yh_196, rfl, h.2.1, h.2.2⟩⟩
theorem yp_197 : yrkB yc_197 = true ∧ yPd 6 yc_197 := by
  have h := yv_197
  rw [Bool.and_eq_true, Bool.and_eq_true] at h
  exact ⟨h.1, Or.inl ⟨3, zC_X1_passHours, yh_197, rfl, h.2.1, h.2.2⟩⟩
theorem yp_198 : yrkB yc_198 = true ∧ yPd 221 yc_198 := by
  have h := yv_198
  rw [Bool.and_eq_true, Bool.and_eq_true] at h
  exact ⟨h.1, Or.inl ⟨3, zC_X12_hours, yh_198, rfl, h.2.1, h.2.2⟩⟩
theorem yp_200 : yrkB yc_200 = true ∧ yPd 194 yc_200 := by
  have h := yv_200
  rw [Bool.and_eq_true, Bool.and_eq_true] at h
  exact ⟨h.1, Or.inl ⟨2, zC_X12_land, yh_200, rfl, h.2.1, h.2.2⟩⟩
theorem yp_203 : yrkB yc_203 = true ∧ yPd 150 yc_203 := by
  have h := yv_203
  rw [Bool.and_eq_true, Bool.and_eq_true] at h
  exact ⟨h.1, Or.inl ⟨6, zC_X12_feed, yh_203, rfl, h.2.1, h.2.2⟩⟩
theorem yp_204 : yrkB yc_204 = true ∧ yPd 242 yc_204 := by
  have h := yv_204
  rw [Bool.and_eq_true, Bool.and_eq_true] at h
  exact ⟨h.1, Or.inl ⟨4, zC_X12_layMost, yh_204, rfl, h.2.1, h.2.2⟩⟩
theorem yp_24 : yrkB yc_24 = true ∧ yPd 29 yc_24 := ⟨by decide +kernel, Or.inr yXs_X5_reads⟩
theorem yp_117 : yrkB yc_117 = true ∧ yPd 193 yc_117 := ⟨by decide +kernel, Or.inr yXs_X12_readAll⟩
theorem yp_165 : yrkB yc_165 = true ∧ yPd 145 yc_165 := ⟨by decide +kernel, Or.inr yXs_X11_ask⟩
theorem yp_166 : yrkB yc_166 = true ∧ yPd 267 yc_166 := ⟨by decide +kernel, Or.inr yXs_X12_ask⟩
theorem yp_169 : yrkB yc_169 = true ∧ yPd 24 yc_169 := ⟨by decide +kernel, Or.inr yXs_X4_takeBack⟩
theorem yp_170 : yrkB yc_170 = true ∧ yPd 259 yc_170 := ⟨by decide +kernel, Or.inr yXs_X12_untell2⟩
theorem yp_171 : yrkB yc_171 = true ∧ yPd 259 yc_171 := ⟨by decide +kernel, Or.inr yXs_X12_untell⟩
theorem yp_173 : yrkB yc_173 = true ∧ yPd 23 yc_173 := ⟨by decide +kernel, Or.inr yXs_X4_tell⟩
theorem yp_178 : yrkB yc_178 = true ∧ yPd 258 yc_178 := ⟨by decide +kernel, Or.inr yXs_X12_look⟩
theorem yp_199 : yrkB yc_199 = true ∧ yPd 194 yc_199 := ⟨by decide +kernel, Or.inr yXs_X12_land⟩
theorem yp_201 : yrkB yc_201 = true ∧ yPd 108 yc_201 := ⟨by decide +kernel, Or.inr yXs_X11_feed⟩
theorem yp_202 : yrkB yc_202 = true ∧ yPd 150 yc_202 := ⟨by decide +kernel, Or.inr yXs_X12_feed⟩
set_option maxRecDepth 100000 in
theorem yAll_tb : yAllP 0 yTb := ⟨fun _ h => absurd h List.not_mem_nil, ⟨fun _ h => absurd h List.not_mem_nil, ⟨fun _ h => absurd h List.not_mem_nil, ⟨fun _ h => absurd h List.not_mem_nil, ⟨fun _ h => absurd h List.not_mem_nil, ⟨fun _ h => absurd h List.not_mem_nil, ⟨List.forall_mem_cons.mpr ⟨yp_197, fun _ h => absurd h List.not_mem_nil⟩, ⟨fun _ h => absurd h List.not_mem_nil, ⟨List.forall_mem_cons.mpr ⟨yp_26, List.forall_mem_cons.mpr ⟨yp_88, fun _ h => absurd h List.not_mem_nil⟩⟩, ⟨List.forall_mem_cons.mpr ⟨yp_38, List.forall_mem_cons.mpr ⟨yp_90, fun _ h => absurd h List.not_mem_nil⟩⟩, ⟨fun _ h => absurd h List.not_mem_nil, ⟨List.forall_mem_cons.mpr ⟨yp_84, fun _ h => absurd h List.not_mem_nil⟩, ⟨List.forall_mem_cons.mpr ⟨yp_82, fun _ h => absurd h List.not_mem_nil⟩, ⟨List.forall_mem_cons.mpr ⟨yp_79, fun _ h => absurd h List.not_mem_nil⟩, ⟨List.forall_mem_cons.mpr ⟨yp_83, fun _ h => absurd h List.not_mem_nil⟩, ⟨List.forall_mem_cons.mpr ⟨yp_86, fun _ h => absurd h List.not_mem_nil⟩, ⟨List.forall_mem_cons.mpr ⟨yp_85, fun _ h => absurd h List.not_mem_nil⟩, ⟨fun _ h => absurd h List.not_mem_nil, ⟨fun _ h => absurd h List.not_mem_nil, ⟨fun _ h => absurd h List.not_mem_nil, ⟨fun _ h => absurd h List.not_mem_nil, ⟨fun _ h => absurd h List.not_mem_nil, ⟨fun _ h => absurd h List.not_mem_nil, ⟨List.forall_mem_cons.mpr ⟨yp_173, List.forall_mem_cons.mpr ⟨yp_172, fun _ h => absurd h List.not_mem_nil⟩⟩, ⟨List.forall_mem_cons.mpr ⟨yp_169, List.forall_mem_cons.mpr ⟨yp_168, fun _ h => absurd h List.not_mem_nil⟩⟩, ⟨fun _ h => absurd h List.not_mem_nil, ⟨fun _ h => absurd h List.not_mem_nil, ⟨List.forall_mem_cons.mpr ⟨yp_75, fun _ h => absurd h List.not_mem_nil⟩, ⟨fun _ h => absurd h List.not_mem_nil, ⟨List.forall_mem_cons.mpr ⟨yp_24, List.forall_mem_cons.mpr ⟨yp_23, fun _ h => absurd h List.not_mem_nil⟩⟩, ⟨fun _ h => absurd h List.not_mem_nil, ⟨List.forall_mem_cons.mpr ⟨yp_22, fun _ h => absurd h List.not_mem_nil⟩, ⟨fun _ h => absurd h List.not_mem_nil, ⟨fun _ h => absurd h List.not_mem_nil, ⟨List.forall_mem_cons.mpr ⟨yp_18, fun _ h => absurd h List.not_mem_nil⟩, ⟨fun _ h => absurd h List.not_mem_nil, ⟨List.forall_mem_cons.mpr ⟨yp_16, fun _ h => absurd h List.not_mem_nil⟩, ⟨fun _ h => absurd h List.not_mem_nil, ⟨List.forall_mem_cons.mpr ⟨yp_21, fun _ h => absurd h List.not_mem_nil⟩, ⟨fun _ h => absurd h List.not_mem_nil, ⟨List.forall_mem_cons.mpr ⟨yp_15, fun _ h => absurd h List.not_mem_nil⟩, ⟨fun _ h => absurd h List.not_mem_nil, ⟨List.forall_mem_cons.mpr ⟨yp_29, fun _ h => absurd h List.not_mem_nil⟩, ⟨List.forall_mem_cons.mpr ⟨yp_30, fun _ h => absurd h List.not_mem_nil⟩, ⟨fun _ h => absurd h List.not_mem_nil, ⟨fun _ h => absurd h List.not_mem_nil, ⟨List.forall_mem_cons.mpr ⟨yp_13, List.forall_mem_cons.mpr ⟨yp_14, List.forall_mem_cons.mpr ⟨yp_17, List.forall_mem_cons.mpr ⟨yp_19, List.forall_mem_cons.mpr ⟨yp_20, fun _ h => absurd h List.not_mem_nil⟩⟩⟩⟩⟩, ⟨fun _ h => absurd h List.not_mem_nil, ⟨fun _ h => absurd h List.not_mem_nil, ⟨fun _ h => absurd h List.not_mem_nil, ⟨fun _ h => absurd h List.not_mem_nil, ⟨fun _ h => absurd h List.not_mem_nil, ⟨List.forall_mem_cons.mpr ⟨yp_193, fun _ h => absurd h List.not_mem_nil⟩, ⟨fun _ h => absurd h List.not_mem_nil, ⟨fun _ h => absurd h List.not_mem_nil, ⟨List.forall_mem_cons.mpr ⟨yp_25, List.forall_mem_cons.mpr ⟨yp_72, fun _ h => absurd h List.not_mem_nil⟩⟩, ⟨fun _ h => absurd h List.not_mem_nil, ⟨List.forall_mem_cons.mpr ⟨yp_55, fun _ h => absurd h List.not_mem_nil⟩, ⟨fun _ h => absurd h List.not_mem_nil, ⟨fun _ h => absurd h List.not_mem_nil, ⟨fun _ h => absurd h List.not_mem_nil, ⟨List.forall_mem_cons.mpr ⟨yp_33, List.forall_mem_cons.mpr ⟨yp_45, fun _ h => absurd h List.not_mem_nil⟩⟩, ⟨List.forall_mem_cons.mpr ⟨yp_76, List.forall_mem_cons.mpr ⟨yp_34, List.forall_mem_cons.mpr ⟨yp_47, fun _ h => absurd h List.not_mem_nil⟩⟩⟩, ⟨fun _ h => absurd h List.not_mem_nil, ⟨List.forall_mem_cons.mpr ⟨yp_77, List.forall_mem_cons.mpr ⟨yp_195, List.forall_mem_cons.mpr ⟨yp_48, fun _ h => absurd h List.not_mem_nil⟩⟩⟩, ⟨List.forall_mem_cons.mpr ⟨yp_196, List.forall_mem_cons.mpr ⟨yp_49, fun _ h => absurd h List.not_mem_nil⟩⟩, ⟨fun _ h => absurd h List.not_mem_nil, ⟨List.forall_mem_cons.mpr ⟨yp_78, List.forall_mem_cons.mpr ⟨yp_58, fun _ h => absurd h List.not_mem_nil⟩⟩, ⟨List.forall_mem_cons.mpr ⟨yp_42, fun _ h => absurd h List.not_mem_nil⟩, ⟨List.forall_mem_cons.mpr ⟨yp_44, fun _ h => absurd h List.not_mem_nil⟩, ⟨List.forall_mem_cons.mpr ⟨yp_62, List.forall_mem_cons.mpr ⟨yp_73, fun _ h => absurd h List.not_mem_nil⟩⟩, ⟨List.forall_mem_cons.mpr ⟨yp_63, List.forall_mem_cons.mpr ⟨yp_80, fun _ h => absurd h List.not_mem_nil⟩⟩, ⟨fun _ h => absurd h List.not_mem_nil, ⟨List.forall_mem_cons.mpr ⟨yp_52, fun _ h => absurd h List.not_mem_nil⟩, ⟨List.forall_mem_cons.mpr ⟨yp_56, fun _ h => absurd h List.not_mem_nil⟩, ⟨fun _ h => absurd h List.not_mem_nil, ⟨List.forall_mem_cons.mpr ⟨yp_46, fun _ h => absurd h List.not_mem_nil⟩, ⟨List.forall_mem_cons.mpr ⟨yp_51, fun _ h => absurd h List.not_mem_nil⟩, ⟨fun _ h => absurd h List.not_mem_nil, ⟨List.forall_mem_cons.mpr ⟨yp_50, fun _ h => absurd h List.not_mem_nil⟩, ⟨fun _ h => absurd h List.not_mem_nil, ⟨fun _ h => absurd h List.not_mem_nil, ⟨List.forall_mem_cons.mpr ⟨yp_53, fun _ h => absurd h List.not_mem_nil⟩, ⟨fun _ h => absurd h List.not_mem_nil, ⟨List.forall_mem_cons.mpr ⟨yp_5, fun _ h => absurd h List.not_mem_nil⟩, ⟨fun _ h => absurd h List.not_mem_nil, ⟨List.forall_mem_cons.mpr ⟨yp_4, fun _ h => absurd h List.not_mem_nil⟩, ⟨List.forall_mem_cons.mpr ⟨yp_1, fun _ h => absurd h List.not_mem_nil⟩, ⟨fun _ h => absurd h List.not_mem_nil, ⟨List.forall_mem_cons.mpr ⟨yp_3, fun _ h => absurd h List.not_mem_nil⟩, ⟨List.forall_mem_cons.mpr ⟨yp_2, fun _ h => absurd h List.not_mem_nil⟩, ⟨fun _ h => absurd h List.not_mem_nil, ⟨fun _ h => absurd h List.not_mem_nil, ⟨fun _ h => absurd h List.not_mem_nil, ⟨fun _ h => absurd h List.not_mem_nil, ⟨fun _ h => absurd h List.not_mem_nil, ⟨fun _ h => absurd h List.not_mem_nil, ⟨fun _ h => absurd h List.not_mem_nil, ⟨List.forall_mem_cons.mpr ⟨yp_60, fun _ h => absurd h List.not_mem_nil⟩, ⟨List.forall_mem_cons.mpr ⟨yp_59, fun _ h => absurd h List.not_mem_nil⟩, ⟨fun _ h => absurd h List.not_mem_nil, ⟨fun _ h => absurd h List.not_mem_nil, ⟨List.forall_mem_cons.mpr ⟨yp_64, fun _ h => absurd h List.not_mem_nil⟩, ⟨List.forall_mem_cons.mpr ⟨yp_67, fun _ h => absurd h List.not_mem_nil⟩, ⟨List.forall_mem_cons.mpr ⟨yp_66, fun _ h => absurd h List.not_mem_nil⟩, ⟨fun _ h => absurd h List.not_mem_nil, ⟨fun _ h => absurd h List.not_mem_nil, ⟨List.forall_mem_cons.mpr ⟨yp_27, fun _ h => absurd h List.not_mem_nil⟩, ⟨List.forall_mem_cons.mpr ⟨yp_201, List.forall_mem_cons.mpr ⟨yp_0, fun _ h => absurd h List.not_mem_nil⟩⟩, ⟨fun _ h => absurd h List.not_mem_nil, ⟨fun _ h => absurd h List.not_mem_nil, ⟨List.forall_mem_cons.mpr ⟨yp_28, fun _ h => absurd h List.not_mem_nil⟩, ⟨fun _ h => absurd h List.not_mem_nil, ⟨List.forall_mem_cons.mpr ⟨yp_31, fun _ h => absurd h List.not_mem_nil⟩, ⟨List.forall_mem_cons.mpr ⟨yp_32, fun _ h => absurd h List.not_mem_nil⟩, ⟨fun _ h => absurd h List.not_mem_nil, ⟨fun _ h => absurd h List.not_mem_nil, ⟨fun _ h => absurd h List.not_mem_nil, ⟨fun _ h => absurd h List.not_mem_nil, ⟨fun _ h => absurd h List.not_mem_nil, ⟨List.forall_mem_cons.mpr ⟨yp_35, fun _ h => absurd h List.not_mem_nil⟩, ⟨List.forall_mem_cons.mpr ⟨yp_36, fun _ h => absurd h List.not_mem_nil⟩, ⟨List.forall_mem_cons.mpr ⟨yp_37, fun _ h => absurd h List.not_mem_nil⟩, ⟨List.forall_mem_cons.mpr ⟨yp_39, fun _ h => absurd h List.not_mem_nil⟩, ⟨List.forall_mem_cons.mpr ⟨yp_40, fun _ h => absurd h List.not_mem_nil⟩, ⟨List.forall_mem_cons.mpr ⟨yp_41, fun _ h => absurd h List.not_mem_nil⟩, ⟨fun _ h => absurd h List.not_mem_nil, ⟨fun _ h => absurd h List.not_mem_nil, ⟨fun _ h => absurd h List.not_mem_nil, ⟨fun _ h => absurd h List.not_mem_nil, ⟨List.forall_mem_cons.mpr ⟨yp_54, fun _ h => absurd h List.not_mem_nil⟩, ⟨List.forall_mem_cons.mpr ⟨yp_190, fun _ h => absurd h List.not_mem_nil⟩, ⟨List.forall_mem_cons.mpr ⟨yp_57, fun _ h => absurd h List.not_mem_nil⟩, ⟨fun _ h => absurd h List.not_mem_nil, ⟨List.forall_mem_cons.mpr ⟨yp_61, fun _ h => absurd h List.not_mem_nil⟩, ⟨List.forall_mem_cons.mpr ⟨yp_65, fun _ h => absurd h List.not_mem_nil⟩, ⟨fun _ h => absurd h List.not_mem_nil, ⟨List.forall_mem_cons.mpr ⟨yp_68, fun _ h => absurd h List.not_mem_nil⟩, ⟨List.forall_mem_cons.mpr ⟨yp_69, fun _ h => absurd h List.not_mem_nil⟩, ⟨List.forall_mem_cons.mpr ⟨yp_70, fun _ h => absurd h List.not_mem_nil⟩, ⟨fun _ h => absurd h List.not_mem_nil, ⟨fun _ h => absurd h List.not_mem_nil, ⟨fun _ h => absurd h List.not_mem_nil, ⟨fun _ h => absurd h List.not_mem_nil, ⟨fun _ h => absurd h List.not_mem_nil, ⟨List.forall_mem_cons.mpr ⟨yp_165, List.forall_mem_cons.mpr ⟨yp_87, fun _ h => absurd h List.not_mem_nil⟩⟩, ⟨List.forall_mem_cons.mpr ⟨yp_89, fun _ h => absurd h List.not_mem_nil⟩, ⟨List.forall_mem_cons.mpr ⟨yp_91, fun _ h => absurd h List.not_mem_nil⟩, ⟨List.forall_mem_cons.mpr ⟨yp_92, fun _ h => absurd h List.not_mem_nil⟩, ⟨fun _ h => absurd h List.not_mem_nil, ⟨List.forall_mem_cons.mpr ⟨yp_202, List.forall_mem_cons.mpr ⟨yp_203, List.forall_mem_cons.mpr ⟨yp_93, fun _ h => absurd h List.not_mem_nil⟩⟩⟩, ⟨fun _ h => absurd h List.not_mem_nil, ⟨fun _ h => absurd h List.not_mem_nil, ⟨fun _ h => absurd h List.not_mem_nil, ⟨fun _ h => absurd h List.not_mem_nil, ⟨fun _ h => absurd h List.not_mem_nil, ⟨fun _ h => absurd h List.not_mem_nil, ⟨List.forall_mem_cons.mpr ⟨yp_94, fun _ h => absurd h List.not_mem_nil⟩, ⟨fun _ h => absurd h List.not_mem_nil, ⟨fun _ h => absurd h List.not_mem_nil, ⟨List.forall_mem_cons.mpr ⟨yp_95, fun _ h => absurd h List.not_mem_nil⟩, ⟨List.forall_mem_cons.mpr ⟨yp_96, fun _ h => absurd h List.not_mem_nil⟩, ⟨fun _ h => absurd h List.not_mem_nil, ⟨fun _ h => absurd h List.not_mem_nil, ⟨fun _ h => absurd h List.not_mem_nil, ⟨List.forall_mem_cons.mpr ⟨yp_111, List.forall_mem_cons.mpr ⟨yp_99, List.forall_mem_cons.mpr ⟨yp_102, List.forall_mem_cons.mpr ⟨yp_108, List.forall_mem_cons.mpr ⟨yp_110, List.forall_mem_cons.mpr ⟨yp_97, List.forall_mem_cons.mpr ⟨yp_98, fun _ h => absurd h List.not_mem_nil⟩⟩⟩⟩⟩⟩⟩, ⟨fun _ h => absurd h List.not_mem_nil, ⟨List.forall_mem_cons.mpr ⟨yp_100, List.forall_mem_cons.mpr ⟨yp_112, fun _ h => absurd h List.not_mem_nil⟩⟩, ⟨fun _ h => absurd h List.not_mem_nil, ⟨List.forall_mem_cons.mpr ⟨yp_101, fun _ h => absurd h List.not_mem_nil⟩, ⟨List.forall_mem_cons.mpr ⟨yp_107, List.forall_mem_cons.mpr ⟨yp_105, fun _ h => absurd h List.not_mem_nil⟩⟩, ⟨List.forall_mem_cons.mpr ⟨yp_104, fun _ h => absurd h List.not_mem_nil⟩, ⟨fun _ h => absurd h List.not_mem_nil, ⟨fun _ h => absurd h List.not_mem_nil, ⟨fun _ h => absurd h List.not_mem_nil, ⟨fun _ h => absurd h List.not_mem_nil, ⟨List.forall_mem_cons.mpr ⟨yp_103, fun _ h => absurd h List.not_mem_nil⟩, ⟨fun _ h => absurd h List.not_mem_nil, ⟨List.forall_mem_cons.mpr ⟨yp_106, fun _ h => absurd h List.not_mem_nil⟩, ⟨List.forall_mem_cons.mpr ⟨yp_113, List.forall_mem_cons.mpr ⟨yp_109, fun _ h => absurd h List.not_mem_nil⟩⟩, ⟨fun _ h => absurd h List.not_mem_nil, ⟨List.forall_mem_cons.mpr ⟨yp_124, fun _ h => absurd h List.not_mem_nil⟩, ⟨fun _ h => absurd h List.not_mem_nil, ⟨List.forall_mem_cons.mpr ⟨yp_143, fun _ h => absurd h List.not_mem_nil⟩, ⟨fun _ h => absurd h List.not_mem_nil, ⟨fun _ h => absurd h List.not_mem_nil, ⟨List.forall_mem_cons.mpr ⟨yp_114, fun _ h => absurd h List.not_mem_nil⟩, ⟨fun _ h => absurd h List.not_mem_nil, ⟨fun _ h => absurd h List.not_mem_nil, ⟨fun _ h => absurd h List.not_mem_nil, ⟨fun _ h => absurd h List.not_mem_nil, ⟨fun _ h => absurd h List.not_mem_nil, ⟨List.forall_mem_cons.mpr ⟨yp_115, fun _ h => absurd h List.not_mem_nil⟩, ⟨List.forall_mem_cons.mpr ⟨yp_117, List.forall_mem_cons.mpr ⟨yp_116, fun _ h => absurd h List.not_mem_nil⟩⟩, ⟨List.forall_mem_cons.mpr ⟨yp_199, List.forall_mem_cons.mpr ⟨yp_200, List.forall_mem_cons.mpr ⟨yp_120, fun _ h => absurd h List.not_mem_nil⟩⟩⟩, ⟨fun _ h => absurd h List.not_mem_nil, ⟨fun _ h => absurd h List.not_mem_nil, ⟨fun _ h => absurd h List.not_mem_nil, ⟨fun _ h => absurd h List.not_mem_nil, ⟨fun _ h => absurd h List.not_mem_nil, ⟨List.forall_mem_cons.mpr ⟨yp_123, fun _ h => absurd h List.not_mem_nil⟩, ⟨List.forall_mem_cons.mpr ⟨yp_119, fun _ h => absurd h List.not_mem_nil⟩, ⟨List.forall_mem_cons.mpr ⟨yp_118, List.forall_mem_cons.mpr ⟨yp_154, fun _ h => absurd h List.not_mem_nil⟩⟩, ⟨fun _ h => absurd h List.not_mem_nil, ⟨List.forall_mem_cons.mpr ⟨yp_157, List.forall_mem_cons.mpr ⟨yp_144, fun _ h => absurd h List.not_mem_nil⟩⟩, ⟨fun _ h => absurd h List.not_mem_nil, ⟨List.forall_mem_cons.mpr ⟨yp_158, List.forall_mem_cons.mpr ⟨yp_145, fun _ h => absurd h List.not_mem_nil⟩⟩, ⟨List.forall_mem_cons.mpr ⟨yp_186, fun _ h => absurd h List.not_mem_nil⟩, ⟨fun _ h => absurd h List.not_mem_nil, ⟨List.forall_mem_cons.mpr ⟨yp_159, List.forall_mem_cons.mpr ⟨yp_146, fun _ h => absurd h List.not_mem_nil⟩⟩, ⟨List.forall_mem_cons.mpr ⟨yp_121, fun _ h => absurd h List.not_mem_nil⟩, ⟨List.forall_mem_cons.mpr ⟨yp_122, fun _ h => absurd h List.not_mem_nil⟩, ⟨fun _ h => absurd h List.not_mem_nil, ⟨fun _ h => absurd h List.not_mem_nil, ⟨fun _ h => absurd h List.not_mem_nil, ⟨fun _ h => absurd h List.not_mem_nil, ⟨fun _ h => absurd h List.not_mem_nil, ⟨fun _ h => absurd h List.not_mem_nil, ⟨List.forall_mem_cons.mpr ⟨yp_125, fun _ h => absurd h List.not_mem_nil⟩, ⟨List.forall_mem_cons.mpr ⟨yp_128, fun _ h => absurd h List.not_mem_nil⟩, ⟨fun _ h => absurd h List.not_mem_nil, ⟨List.forall_mem_cons.mpr ⟨yp_198, fun _ h => absurd h List.not_mem_nil⟩, ⟨fun _ h => absurd h List.not_mem_nil, ⟨List.forall_mem_cons.mpr ⟨yp_126, fun _ h => absurd h List.not_mem_nil⟩, ⟨List.forall_mem_cons.mpr ⟨yp_127, fun _ h => absurd h List.not_mem_nil⟩, ⟨List.forall_mem_cons.mpr ⟨yp_129, fun _ h => absurd h List.not_mem_nil⟩, ⟨List.forall_mem_cons.mpr ⟨yp_130, fun _ h => absurd h List.not_mem_nil⟩, ⟨List.forall_mem_cons.mpr ⟨yp_131, fun _ h => absurd h List.not_mem_nil⟩, ⟨fun _ h => absurd h List.not_mem_nil, ⟨List.forall_mem_cons.mpr ⟨yp_132, fun _ h => absurd h List.not_mem_nil⟩, ⟨List.forall_mem_cons.mpr ⟨yp_133, fun _ h => absurd h List.not_mem_nil⟩, ⟨List.forall_mem_cons.mpr ⟨yp_194, fun _ h => absurd h List.not_mem_nil⟩, ⟨fun _ h => absurd h List.not_mem_nil, ⟨List.forall_mem_cons.mpr ⟨yp_192, fun _ h => absurd h List.not_mem_nil⟩, ⟨List.forall_mem_cons.mpr ⟨yp_140, fun _ h => absurd h List.not_mem_nil⟩, ⟨List.forall_mem_cons.mpr ⟨yp_137, fun _ h => absurd h List.not_mem_nil⟩, ⟨List.forall_mem_cons.mpr ⟨yp_134, fun _ h => absurd h List.not_mem_nil⟩, ⟨List.forall_mem_cons.mpr ⟨yp_135, List.forall_mem_cons.mpr ⟨yp_138, fun _ h => absurd h List.not_mem_nil⟩⟩, ⟨List.forall_mem_cons.mpr ⟨yp_136, fun _ h => absurd h List.not_mem_nil⟩, ⟨List.forall_mem_cons.mpr ⟨yp_187, fun _ h => absurd h List.not_mem_nil⟩, ⟨List.forall_mem_cons.mpr ⟨yp_139, fun _ h => absurd h List.not_mem_nil⟩, ⟨List.forall_mem_cons.mpr ⟨yp_191, fun _ h => absurd h List.not_mem_nil⟩, ⟨List.forall_mem_cons.mpr ⟨yp_204, List.forall_mem_cons.mpr ⟨yp_188, fun _ h => absurd h List.not_mem_nil⟩⟩, ⟨fun _ h => absurd h List.not_mem_nil, ⟨fun _ h => absurd h List.not_mem_nil, ⟨List.forall_mem_cons.mpr ⟨yp_189, fun _ h => absurd h List.not_mem_nil⟩, ⟨fun _ h => absurd h List.not_mem_nil, ⟨fun _ h => absurd h List.not_mem_nil, ⟨List.forall_mem_cons.mpr ⟨yp_185, fun _ h => absurd h List.not_mem_nil⟩, ⟨List.forall_mem_cons.mpr ⟨yp_184, fun _ h => absurd h List.not_mem_nil⟩, ⟨List.forall_mem_cons.mpr ⟨yp_141, fun _ h => absurd h List.not_mem_nil⟩, ⟨List.forall_mem_cons.mpr ⟨yp_142, fun _ h => absurd h List.not_mem_nil⟩, ⟨List.forall_mem_cons.mpr ⟨yp_183, fun _ h => absurd h List.not_mem_nil⟩, ⟨List.forall_mem_cons.mpr ⟨yp_147, fun _ h => absurd h List.not_mem_nil⟩, ⟨List.forall_mem_cons.mpr ⟨yp_148, fun _ h => absurd h List.not_mem_nil⟩, ⟨List.forall_mem_cons.mpr ⟨yp_182, fun _ h => absurd h List.not_mem_nil⟩, ⟨List.forall_mem_cons.mpr ⟨yp_149, fun _ h => absurd h List.not_mem_nil⟩, ⟨List.forall_mem_cons.mpr ⟨yp_150, fun _ h => absurd h List.not_mem_nil⟩, ⟨List.forall_mem_cons.mpr ⟨yp_174, List.forall_mem_cons.mpr ⟨yp_175, List.forall_mem_cons.mpr ⟨yp_176, List.forall_mem_cons.mpr ⟨yp_177, List.forall_mem_cons.mpr ⟨yp_178, List.forall_mem_cons.mpr ⟨yp_179, List.forall_mem_cons.mpr ⟨yp_180, List.forall_mem_cons.mpr ⟨yp_181, List.forall_mem_cons.mpr ⟨yp_151, fun _ h => absurd h List.not_mem_nil⟩⟩⟩⟩⟩⟩⟩⟩⟩, ⟨List.forall_mem_cons.mpr ⟨yp_170, List.forall_mem_cons.mpr ⟨yp_171, List.forall_mem_cons.mpr ⟨yp_152, fun _ h => absurd h List.not_mem_nil⟩⟩⟩, ⟨fun _ h => absurd h List.not_mem_nil, ⟨fun _ h => absurd h List.not_mem_nil, ⟨List.forall_mem_cons.mpr ⟨yp_153, fun _ h => absurd h List.not_mem_nil⟩, ⟨List.forall_mem_cons.mpr ⟨yp_155, fun _ h => absurd h List.not_mem_nil⟩, ⟨List.forall_mem_cons.mpr ⟨yp_156, fun _ h => absurd h List.not_mem_nil⟩, ⟨List.forall_mem_cons.mpr ⟨yp_167, fun _ h => absurd h List.not_mem_nil⟩, ⟨List.forall_mem_cons.mpr ⟨yp_160, fun _ h => absurd h List.not_mem_nil⟩, ⟨List.forall_mem_cons.mpr ⟨yp_166, List.forall_mem_cons.mpr ⟨yp_161, fun _ h => absurd h List.not_mem_nil⟩⟩, ⟨fun _ h => absurd h List.not_mem_nil, ⟨List.forall_mem_cons.mpr ⟨yp_164, fun _ h => absurd h List.not_mem_nil⟩, ⟨List.forall_mem_cons.mpr ⟨yp_163, fun _ h => absurd h List.not_mem_nil⟩, ⟨List.forall_mem_cons.mpr ⟨yp_162, fun _ h => absurd h List.not_mem_nil⟩, ⟨List.forall_mem_cons.mpr ⟨yp_10, List.forall_mem_cons.mpr ⟨yp_11, List.forall_mem_cons.mpr ⟨yp_12, List.forall_mem_cons.mpr ⟨yp_43, List.forall_mem_cons.mpr ⟨yp_6, List.forall_mem_cons.mpr ⟨yp_7, List.forall_mem_cons.mpr ⟨yp_71, List.forall_mem_cons.mpr ⟨yp_74, List.forall_mem_cons.mpr ⟨yp_8, List.forall_mem_cons.mpr ⟨yp_81, List.forall_mem_cons.mpr ⟨yp_9, fun _ h => absurd h List.not_mem_nil⟩⟩⟩⟩⟩⟩⟩⟩⟩⟩⟩, trivial⟩⟩⟩⟩⟩⟩⟩⟩⟩⟩⟩⟩⟩⟩⟩⟩⟩⟩⟩⟩⟩⟩⟩⟩⟩⟩⟩⟩⟩⟩⟩⟩⟩⟩⟩⟩⟩⟩⟩⟩⟩⟩⟩⟩⟩⟩⟩⟩⟩⟩⟩⟩⟩⟩⟩⟩⟩⟩⟩⟩⟩⟩⟩⟩⟩⟩⟩⟩⟩⟩⟩⟩⟩⟩⟩⟩⟩⟩⟩⟩⟩⟩⟩⟩⟩⟩⟩⟩⟩⟩⟩⟩⟩⟩⟩⟩⟩⟩⟩⟩⟩⟩⟩⟩⟩⟩⟩⟩⟩⟩⟩⟩⟩⟩⟩⟩⟩⟩⟩⟩⟩⟩⟩⟩⟩⟩⟩⟩⟩⟩⟩⟩⟩⟩⟩⟩⟩⟩⟩⟩⟩⟩⟩⟩⟩⟩⟩⟩⟩⟩⟩⟩⟩⟩⟩⟩⟩⟩⟩⟩⟩⟩⟩⟩⟩⟩⟩⟩⟩⟩⟩⟩⟩⟩⟩⟩⟩⟩⟩⟩⟩⟩⟩⟩⟩⟩⟩⟩⟩⟩⟩⟩⟩⟩⟩⟩⟩⟩⟩⟩⟩⟩⟩⟩⟩⟩⟩⟩⟩⟩⟩⟩⟩⟩⟩⟩⟩⟩⟩⟩⟩⟩⟩⟩⟩⟩⟩⟩⟩⟩⟩⟩⟩⟩⟩⟩⟩⟩⟩⟩⟩⟩⟩⟩⟩⟩⟩⟩⟩⟩⟩⟩⟩⟩⟩⟩⟩⟩⟩⟩⟩⟩⟩⟩⟩⟩⟩⟩⟩⟩⟩⟩⟩
theorem yHold {l : Launch} (h : yAllP 0 yTb) (hT : yTOk ySr yTt) (B : Nat) : ∀ j cs c, zget yTb j = some cs → c ∈ cs → yCtT l ySr yTt zMi (B : Int) j c := by
  have key : ∀ j cs c, zget yTb j = some cs → c ∈ cs → yrkB c = true ∧ yPd j c := fun j cs c h1 h2 => by
    have := yAllP_at h j cs (by rw [← zget_eq]; exact h1) c h2
    rwa [Nat.zero_add] at this
  refine yall (fun j cs c h1 h2 => yrkB_ok (key j cs c h1 h2).1) (fun j cs c h1 h2 B hB => ?_) B
  obtain ⟨g1, g2⟩ := key j cs c h1 h2
  rcases g2 with ⟨nL, cd, hs, a1, a2, a3⟩ | g2
  · exact yver_ok hT zClsOK_all zMiOK_all zCdOK_all zGen_all hB a1 (yrkB_ok g1) a2 a3
  · exact g2 l hT B hB
