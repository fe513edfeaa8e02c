/-! All methods' codes are what their rows say. -/
def zcdAll : List zMInfo → List (Nat × zCode) → Prop
  | [], [] => True
  | e :: t, c :: u => (c.1 = e.2.2.1 ∧ zcdB e.1.cls e.1.name e.2.2.2.1 e.2.1 c.2 = true) ∧ zcdAll t u
  | _, _ => False
theorem zcdAll_at {es : List zMInfo} {cs : List (Nat × zCode)} (h : zcdAll es cs) {j : Nat} {e : zMInfo} {c : Nat × zCode} (he : es[j]? = some e) (hc : cs[j]? = some c) : c.1 = e.2.2.1 ∧ zcdB e.1.cls e.1.name e.2.2.2.1 e.2.1 c.2 = true := by
  induction es generalizing cs j with
  | nil => simp at he
  | cons x t ih =>
    cases cs with
    | nil => exact h.elim
    | cons d u =>
      cases j with
      | zero => simp at he hc; subst he; subst hc; exact h.1
      | succ j => exact ih h.2 (by simpa using he) (by simpa using hc)
theorem zcdAll_len {es : List zMInfo} {cs : List (Nat × zCode)} (h : zcdAll es cs) : es.length = cs.length := by
  induction es generalizing cs with
  | nil => cases cs with
    | nil => rfl
    | cons d u => exact h.elim
  | cons x t ih => cases cs with
    | nil => exact h.elim
    | cons d u => simp [ih h.2]
set_option maxRecDepth 100000 in
theorem zcdAll_all : zcdAll zMi zMt :=
  ⟨⟨rfl, zcd_X0_init⟩, ⟨⟨rfl, zcd_X0_forget⟩, ⟨⟨rfl, zcd_X0_note⟩, ⟨⟨rfl, zcd_X0_goTo⟩, ⟨⟨rfl, zcd_X1_init⟩, ⟨⟨rfl, zcd_X1_begin⟩, ⟨⟨rfl, zcd_X1_passHours⟩, ⟨⟨rfl, zcd_X1_noteCrime⟩, ⟨⟨rfl, zcd_X1_save⟩, ⟨⟨rfl, zcd_X1_load⟩, ⟨⟨rfl, zcd_X2_init⟩, ⟨⟨rfl, zcd_X2_sift⟩, ⟨⟨rfl, zcd_X2_fitting⟩, ⟨⟨rfl, zcd_X2_asKnown⟩, ⟨⟨rfl, zcd_X2_noteFit⟩, ⟨⟨rfl, zcd_X2_tellingMost⟩, ⟨⟨rfl, zcd_X2_leftAtMost⟩, ⟨⟨rfl, zcd_X3_init⟩, ⟨⟨rfl, zcd_X3_empty⟩, ⟨⟨rfl, zcd_X3_has⟩, ⟨⟨rfl, zcd_X3_tells⟩, ⟨⟨rfl, zcd_X3_addCode⟩, ⟨⟨rfl, zcd_X4_init⟩, ⟨⟨rfl, zcd_X4_tell⟩, ⟨⟨rfl, zcd_X4_takeBack⟩, ⟨⟨rfl, zcd_X4_passTime⟩, ⟨⟨rfl, zcd_X4_counts⟩, ⟨⟨rfl, zcd_X4_lastKnown⟩, ⟨⟨rfl, zcd_X5_init⟩, ⟨⟨rfl, zcd_X5_reads⟩, ⟨⟨rfl, zcd_X5_readWeek⟩, ⟨⟨rfl, zcd_X5_readThing⟩, ⟨⟨rfl, zcd_X5_readLaw⟩, ⟨⟨rfl, zcd_X5_readDeed⟩, ⟨⟨rfl, zcd_X5_readBan⟩, ⟨⟨rfl, zcd_X5_readAim⟩, ⟨⟨rfl, zcd_X5_readGuild⟩, ⟨⟨rfl, zcd_X5_readFeast⟩, ⟨⟨rfl, zcd_X5_readActor⟩, ⟨⟨rfl, zcd_X5_readFormula⟩, ⟨⟨rfl, zcd_X5_readLevel⟩, ⟨⟨rfl, zcd_X5_readNot⟩, ⟨⟨rfl, zcd_X5_readUnit⟩, ⟨⟨rfl, zcd_X5_joint⟩, ⟨⟨rfl, zcd_X5_readNewName⟩, ⟨⟨rfl, zcd_X5_readKnownName⟩, ⟨⟨rfl, zcd_X5_find⟩, ⟨⟨rfl, zcd_X5_readNumber⟩, ⟨⟨rfl, zcd_X5_accept⟩, ⟨⟨rfl, zcd_X5_step⟩, ⟨⟨rfl, zcd_X5_refuse⟩, ⟨⟨rfl, zcd_X6_init⟩, ⟨⟨rfl, zcd_X6_comesRound⟩, ⟨⟨rfl, zcd_X6_note⟩, ⟨⟨rfl, zcd_X7_init⟩, ⟨⟨rfl, zcd_X7_begin⟩, ⟨⟨rfl, zcd_X7_copy⟩, ⟨⟨rfl, zcd_X7_goToRest⟩, ⟨⟨rfl, zcd_X7_dayNumber⟩, ⟨⟨rfl, zcd_X7_resting⟩, ⟨⟨rfl, zcd_X7_acting⟩, ⟨⟨rfl, zcd_X7_value⟩, ⟨⟨rfl, zcd_X7_perform⟩, ⟨⟨rfl, zcd_X7_takeTurn⟩, ⟨⟨rfl, zcd_X7_takeTurns⟩, ⟨⟨rfl, zcd_X7_brokenBans⟩, ⟨⟨rfl, zcd_X7_tick⟩, ⟨⟨rfl, zcd_X7_pass⟩, ⟨⟨rfl, zcd_X7_packed⟩, ⟨⟨rfl, zcd_X7_unpack⟩, ⟨⟨rfl, zcd_X7_startCalendars⟩, ⟨⟨rfl, zcd_X7_nextCalendar⟩, ⟨⟨rfl, zcd_X8_init⟩, ⟨⟨rfl, zcd_X8_fewestHours⟩, ⟨⟨rfl, zcd_X8_seekGain⟩, ⟨⟨rfl, zcd_X8_start⟩, ⟨⟨rfl, zcd_X8_findGoal⟩, ⟨⟨rfl, zcd_X8_widen⟩, ⟨⟨rfl, zcd_X8_tryDeed⟩, ⟨⟨rfl, zcd_X8_keep⟩, ⟨⟨rfl, zcd_X8_slotOf⟩, ⟨⟨rfl, zcd_X8_add⟩, ⟨⟨rfl, zcd_X8_layDeeds⟩, ⟨⟨rfl, zcd_X9_init⟩, ⟨⟨rfl, zcd_X9_cut⟩, ⟨⟨rfl, zcd_X9_cutOne⟩, ⟨⟨rfl, zcd_X9_cutWord⟩, ⟨⟨rfl, zcd_X9_cutNumber⟩, ⟨⟨rfl, zcd_X9_put⟩, ⟨⟨rfl, zcd_X9_wordKind⟩, ⟨⟨rfl, zcd_X9_isWord⟩, ⟨⟨rfl, zcd_X9_isBlank⟩, ⟨⟨rfl, zcd_X9_isLetter⟩, ⟨⟨rfl, zcd_X9_isDigit⟩, ⟨⟨rfl, zcd_X9_isSign⟩, ⟨⟨rfl, zcd_X10_init⟩, ⟨⟨rfl, zcd_X10_aim⟩, ⟨⟨rfl, zcd_X10_comesTrue⟩, ⟨⟨rfl, zcd_X10_fewestShifts⟩, ⟨⟨rfl, zcd_X10_oneShiftWill⟩, ⟨⟨rfl, zcd_X10_shiftOf⟩, ⟨⟨rfl, zcd_X10_layFeasts⟩, ⟨⟨rfl, zcd_X10_countCalendars⟩, ⟨⟨rfl, zcd_X10_turnsToRest⟩, ⟨⟨rfl, zcd_X10_bestDay⟩, ⟨⟨rfl, zcd_X10_wantedBy⟩, ⟨⟨rfl, zcd_X11_init⟩, ⟨⟨rfl, zcd_X11_beginAnew⟩, ⟨⟨rfl, zcd_X11_feed⟩, ⟨⟨rfl, zcd_X11_putBytes⟩, ⟨⟨rfl, zcd_X11_end⟩, ⟨⟨rfl, zcd_X11_land⟩, ⟨⟨rfl, zcd_X11_fault⟩, ⟨⟨rfl, zcd_X11_thing⟩, ⟨⟨rfl, zcd_X11_feast⟩, ⟨⟨rfl, zcd_X11_does⟩, ⟨⟨rfl, zcd_X11_can⟩, ⟨⟨rfl, zcd_X11_broken⟩, ⟨⟨rfl, zcd_X11_says⟩, ⟨⟨rfl, zcd_X11_hours⟩, ⟨⟨rfl, zcd_X11_deed⟩, ⟨⟨rfl, zcd_X11_shift⟩, ⟨⟨rfl, zcd_X11_leap⟩, ⟨⟨rfl, zcd_X11_undo⟩, ⟨⟨rfl, zcd_X11_redo⟩, ⟨⟨rfl, zcd_X11_crime⟩, ⟨⟨rfl, zcd_X11_will⟩, ⟨⟨rfl, zcd_X11_round⟩, ⟨⟨rfl, zcd_X11_clash⟩, ⟨⟨rfl, zcd_X11_outcome⟩, ⟨⟨rfl, zcd_X11_plan⟩, ⟨⟨rfl, zcd_X11_most⟩, ⟨⟨rfl, zcd_X11_loophole⟩, ⟨⟨rfl, zcd_X11_gainOfRest⟩, ⟨⟨rfl, zcd_X11_amend⟩, ⟨⟨rfl, zcd_X11_all⟩, ⟨⟨rfl, zcd_X11_canWish⟩, ⟨⟨rfl, zcd_X11_guilds⟩, ⟨⟨rfl, zcd_X11_more⟩, ⟨⟨rfl, zcd_X11_lies⟩, ⟨⟨rfl, zcd_X11_look⟩, ⟨⟨rfl, zcd_X11_untell⟩, ⟨⟨rfl, zcd_X11_later⟩, ⟨⟨rfl, zcd_X11_fit⟩, ⟨⟨rfl, zcd_X11_rests⟩, ⟨⟨rfl, zcd_X11_ask⟩, ⟨⟨rfl, zcd_X11_image⟩, ⟨⟨rfl, zcd_X11_back⟩, ⟨⟨rfl, zcd_X11_about⟩, ⟨⟨rfl, zcd_X12_init⟩, ⟨⟨rfl, zcd_X12_feed⟩, ⟨⟨rfl, zcd_X12_four⟩, ⟨⟨rfl, zcd_X12_end⟩, ⟨⟨rfl, zcd_X12_here⟩, ⟨⟨rfl, zcd_X12_isLetter⟩, ⟨⟨rfl, zcd_X12_isDigit⟩, ⟨⟨rfl, zcd_X12_isSign⟩, ⟨⟨rfl, zcd_X12_token⟩, ⟨⟨rfl, zcd_X12_wrong⟩, ⟨⟨rfl, zcd_X12_isWord⟩, ⟨⟨rfl, zcd_X12_isOwn⟩, ⟨⟨rfl, zcd_X12_isName⟩, ⟨⟨rfl, zcd_X12_want⟩, ⟨⟨rfl, zcd_X12_toldNumber⟩, ⟨⟨rfl, zcd_X12_told⟩, ⟨⟨rfl, zcd_X12_find⟩, ⟨⟨rfl, zcd_X12_newName⟩, ⟨⟨rfl, zcd_X12_oldName⟩, ⟨⟨rfl, zcd_X12_add⟩, ⟨⟨rfl, zcd_X12_tight⟩, ⟨⟨rfl, zcd_X12_close⟩, ⟨⟨rfl, zcd_X12_hasRelation⟩, ⟨⟨rfl, zcd_X12_mayNot⟩, ⟨⟨rfl, zcd_X12_isFull⟩, ⟨⟨rfl, zcd_X12_countUnit⟩, ⟨⟨rfl, zcd_X12_openUp⟩, ⟨⟨rfl, zcd_X12_unit⟩, ⟨⟨rfl, zcd_X12_sign⟩, ⟨⟨rfl, zcd_X12_hasBracket⟩, ⟨⟨rfl, zcd_X12_formula⟩, ⟨⟨rfl, zcd_X12_truth⟩, ⟨⟨rfl, zcd_X12_done⟩, ⟨⟨rfl, zcd_X12_askOf⟩, ⟨⟨rfl, zcd_X12_worked⟩, ⟨⟨rfl, zcd_X12_readWeek⟩, ⟨⟨rfl, zcd_X12_readThing⟩, ⟨⟨rfl, zcd_X12_readSets⟩, ⟨⟨rfl, zcd_X12_readSet⟩, ⟨⟨rfl, zcd_X12_readLaw⟩, ⟨⟨rfl, zcd_X12_readDeed⟩, ⟨⟨rfl, zcd_X12_readBan⟩, ⟨⟨rfl, zcd_X12_readGuild⟩, ⟨⟨rfl, zcd_X12_readLine⟩, ⟨⟨rfl, zcd_X12_readAll⟩, ⟨⟨rfl, zcd_X12_land⟩, ⟨⟨rfl, zcd_X12_fault⟩, ⟨⟨rfl, zcd_X12_isIn⟩, ⟨⟨rfl, zcd_X12_isThing⟩, ⟨⟨rfl, zcd_X12_isLaw⟩, ⟨⟨rfl, zcd_X12_isDeed⟩, ⟨⟨rfl, zcd_X12_load⟩, ⟨⟨rfl, zcd_X12_keep⟩, ⟨⟨rfl, zcd_X12_loadTold⟩, ⟨⟨rfl, zcd_X12_doesRest⟩, ⟨⟨rfl, zcd_X12_doSets⟩, ⟨⟨rfl, zcd_X12_doesNow⟩, ⟨⟨rfl, zcd_X12_doLaws⟩, ⟨⟨rfl, zcd_X12_brokenNow⟩, ⟨⟨rfl, zcd_X12_tick⟩, ⟨⟨rfl, zcd_X12_goHours⟩, ⟨⟨rfl, zcd_X12_thing⟩, ⟨⟨rfl, zcd_X12_feast⟩, ⟨⟨rfl, zcd_X12_does⟩, ⟨⟨rfl, zcd_X12_can⟩, ⟨⟨rfl, zcd_X12_broken⟩, ⟨⟨rfl, zcd_X12_goalNow⟩, ⟨⟨rfl, zcd_X12_gainNow⟩, ⟨⟨rfl, zcd_X12_says⟩, ⟨⟨rfl, zcd_X12_act⟩, ⟨⟨rfl, zcd_X12_exchange⟩, ⟨⟨rfl, zcd_X12_note⟩, ⟨⟨rfl, zcd_X12_hours⟩, ⟨⟨rfl, zcd_X12_deed⟩, ⟨⟨rfl, zcd_X12_shift⟩, ⟨⟨rfl, zcd_X12_leap⟩, ⟨⟨rfl, zcd_X12_undo⟩, ⟨⟨rfl, zcd_X12_redo⟩, ⟨⟨rfl, zcd_X12_crime⟩, ⟨⟨rfl, zcd_X12_will⟩, ⟨⟨rfl, zcd_X12_putTrail⟩, ⟨⟨rfl, zcd_X12_isTrail⟩, ⟨⟨rfl, zcd_X12_round⟩, ⟨⟨rfl, zcd_X12_doTwo⟩, ⟨⟨rfl, zcd_X12_clash⟩, ⟨⟨rfl, zcd_X12_loadCome⟩, ⟨⟨rfl, zcd_X12_isCome⟩, ⟨⟨rfl, zcd_X12_chainOf⟩, ⟨⟨rfl, zcd_X12_put⟩, ⟨⟨rfl, zcd_X12_beginCome⟩, ⟨⟨rfl, zcd_X12_goOn⟩, ⟨⟨rfl, zcd_X12_putWay⟩, ⟨⟨rfl, zcd_X12_plan⟩, ⟨⟨rfl, zcd_X12_layMost⟩, ⟨⟨rfl, zcd_X12_most⟩, ⟨⟨rfl, zcd_X12_layRested⟩, ⟨⟨rfl, zcd_X12_loophole⟩, ⟨⟨rfl, zcd_X12_comesTrue⟩, ⟨⟨rfl, zcd_X12_layWish⟩, ⟨⟨rfl, zcd_X12_amend⟩, ⟨⟨rfl, zcd_X12_amendsTwo⟩, ⟨⟨rfl, zcd_X12_calendars⟩, ⟨⟨rfl, zcd_X12_layCalendar⟩, ⟨⟨rfl, zcd_X12_all⟩, ⟨⟨rfl, zcd_X12_wanted⟩, ⟨⟨rfl, zcd_X12_shifts⟩, ⟨⟨rfl, zcd_X12_guilds⟩, ⟨⟨rfl, zcd_X12_more⟩, ⟨⟨rfl, zcd_X12_lies⟩, ⟨⟨rfl, zcd_X12_look⟩, ⟨⟨rfl, zcd_X12_untell⟩, ⟨⟨rfl, zcd_X12_later⟩, ⟨⟨rfl, zcd_X12_counts⟩, ⟨⟨rfl, zcd_X12_lastHour⟩, ⟨⟨rfl, zcd_X12_fits⟩, ⟨⟨rfl, zcd_X12_fit⟩, ⟨⟨rfl, zcd_X12_rests⟩, ⟨⟨rfl, zcd_X12_fullest⟩, ⟨⟨rfl, zcd_X12_ask⟩, ⟨⟨rfl, zcd_X12_isBox⟩, ⟨⟨rfl, zcd_X12_image⟩, ⟨⟨rfl, zcd_X12_back⟩, ⟨⟨rfl, zcd_X12_about⟩, ⟨⟨rfl, zcd_J7_fill_53178⟩, trivial⟩⟩⟩⟩⟩⟩⟩⟩⟩⟩⟩⟩⟩⟩⟩⟩⟩⟩⟩⟩⟩⟩⟩⟩⟩⟩⟩⟩⟩⟩⟩⟩⟩⟩⟩⟩⟩⟩⟩⟩⟩⟩⟩⟩⟩⟩⟩⟩⟩⟩⟩⟩⟩⟩⟩⟩⟩⟩⟩⟩⟩⟩⟩⟩⟩⟩⟩⟩⟩⟩⟩⟩⟩⟩⟩⟩⟩⟩⟩⟩⟩⟩⟩⟩⟩⟩⟩⟩⟩⟩⟩⟩⟩⟩⟩⟩⟩⟩⟩⟩⟩⟩⟩⟩⟩⟩⟩⟩⟩⟩⟩⟩⟩⟩⟩⟩⟩⟩⟩⟩⟩⟩⟩⟩⟩⟩⟩⟩⟩⟩⟩⟩⟩⟩⟩⟩⟩⟩⟩⟩⟩⟩⟩⟩⟩⟩⟩⟩⟩⟩⟩⟩⟩⟩⟩⟩⟩⟩⟩⟩⟩⟩⟩⟩⟩⟩⟩⟩⟩⟩⟩⟩⟩⟩⟩⟩⟩⟩⟩⟩⟩⟩⟩⟩⟩⟩⟩⟩⟩⟩⟩⟩⟩⟩⟩⟩⟩⟩⟩⟩⟩⟩⟩⟩⟩⟩⟩⟩⟩⟩⟩⟩⟩⟩⟩⟩⟩⟩⟩⟩⟩⟩⟩⟩⟩⟩⟩⟩⟩⟩⟩⟩⟩⟩⟩⟩⟩⟩⟩⟩⟩⟩⟩⟩⟩⟩⟩⟩⟩⟩⟩⟩⟩⟩⟩⟩⟩⟩⟩⟩⟩⟩⟩⟩⟩⟩⟩⟩⟩⟩⟩⟩⟩
theorem zCdOK_all : zCdOK zMt zMi := by
  refine ⟨fun j h => ?_, fun j y cc maxL ret kind na h nL cd hm => ?_⟩
  · rw [zget_eq, List.getElem?_eq_none_iff] at h ⊢
    rw [← zcdAll_len zcdAll_all]
    exact h
  · rw [zget_eq] at h hm
    obtain ⟨h1, h2⟩ := zcdAll_at zcdAll_all h hm
    exact ⟨h1, zcdB_ok h2⟩
theorem zcdL_len : zC_L_law.length ≤ 20 := by decide +kernel
theorem zcdL_all : ∀ (pc : Nat) (i : Instr) (a b0 w : Nat), zfetch zC_L_law pc = some (i, a, b0, w) → zgood zMi "RestDaysLaw" "" (some .boolean) code pc i a b0 w = true := by
  intro pc i a b0 w hf
  have hl : pc < 64 * 20 := by
    unfold zfetch at hf
    split at hf
    · cases hf
    · rename_i r hr
      rw [zget_eq] at hr
      have := (List.getElem?_eq_some_iff.mp hr).1
      have := zcdL_len
      omega
  rcases Nat.lt_or_ge pc 640 with q | q
  · rcases Nat.lt_or_ge pc 320 with q | q
    · rcases Nat.lt_or_ge pc 128 with q | q
      · rcases Nat.lt_or_ge pc 64 with q | q
        · exact zcdR_ok zcdL_0 pc i a b0 w (by omega) (by omega) hf
        · exact zcdR_ok zcdL_1 pc i a b0 w (by omega) (by omega) hf
      · rcases Nat.lt_or_ge pc 192 with q | q
        · exact zcdR_ok zcdL_2 pc i a b0 w (by omega) (by omega) hf
        · rcases Nat.lt_or_ge pc 256 with q | q
          · exact zcdR_ok zcdL_3 pc i a b0 w (by omega) (by omega) hf
          · exact zcdR_ok zcdL_4 pc i a b0 w (by omega) (by omega) hf
    · rcases Nat.lt_or_ge pc 448 with q | q
      · rcases Nat.lt_or_ge pc 384 with q | q
        · exact zcdR_ok zcdL_5 pc i a b0 w (by omega) (by omega) hf
        · exact zcdR_ok zcdL_6 pc i a b0 w (by omega) (by omega) hf
      · rcases Nat.lt_or_ge pc 512 with q | q
        · exact zcdR_ok zcdL_7 pc i a b0 w (by omega) (by omega) hf
        · rcases Nat.lt_or_ge pc 576 with q | q
          · exact zcdR_ok zcdL_8 pc i a b0 w (by omega) (by omega) hf
          · exact zcdR_ok zcdL_9 pc i a b0 w (by omega) (by omega) hf
  · rcases Nat.lt_or_ge pc 960 with q | q
    · rcases Nat.lt_or_ge pc 768 with q | q
      · rcases Nat.lt_or_ge pc 704 with q | q
        · exact zcdR_ok zcdL_10 pc i a b0 w (by omega) (by omega) hf
        · exact zcdR_ok zcdL_11 pc i a b0 w (by omega) (by omega) hf
      · rcases Nat.lt_or_ge pc 832 with q | q
        · exact zcdR_ok zcdL_12 pc i a b0 w (by omega) (by omega) hf
        · rcases Nat.lt_or_ge pc 896 with q | q
          · exact zcdR_ok zcdL_13 pc i a b0 w (by omega) (by omega) hf
          · exact zcdR_ok zcdL_14 pc i a b0 w (by omega) (by omega) hf
    · rcases Nat.lt_or_ge pc 1088 with q | q
      · rcases Nat.lt_or_ge pc 1024 with q | q
        · exact zcdR_ok zcdL_15 pc i a b0 w (by omega) (by omega) hf
        · exact zcdR_ok zcdL_16 pc i a b0 w (by omega) (by omega) hf
      · rcases Nat.lt_or_ge pc 1152 with q | q
        · exact zcdR_ok zcdL_17 pc i a b0 w (by omega) (by omega) hf
        · rcases Nat.lt_or_ge pc 1216 with q | q
          · exact zcdR_ok zcdL_18 pc i a b0 w (by omega) (by omega) hf
          · exact zcdR_ok zcdL_19 pc i a b0 w (by omega) (by omega) hf
