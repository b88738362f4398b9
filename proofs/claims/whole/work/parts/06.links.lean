/-! the methods as data; what each place of a constant pool names, by the tables -/
abbrev m_X0_init : ax_M := (yX0_init, cX0_init, 1, (Option.none : Option FieldType))
abbrev m_X0_clear : ax_M := (yX0_clear, cX0_clear, 1, (Option.none : Option FieldType))
abbrev m_X0_copyFrom : ax_M := (yX0_copyFrom, cX0_copyFrom, 2, (Option.none : Option FieldType))
abbrev m_X0_addStatement : ax_M := (yX0_addStatement, cX0_addStatement, 4, (Option.some FieldType.boolean))
abbrev m_X0_addVerdict : ax_M := (yX0_addVerdict, cX0_addVerdict, 2, (Option.some FieldType.boolean))
abbrev m_X0_addHang : ax_M := (yX0_addHang, cX0_addHang, 3, (Option.some FieldType.boolean))
abbrev m_X0_addPerson : ax_M := (yX0_addPerson, cX0_addPerson, 3, (Option.some FieldType.boolean))
abbrev m_X0_isStatement : ax_M := (yX0_isStatement, cX0_isStatement, 2, (Option.some FieldType.boolean))
abbrev m_X0_isNight : ax_M := (yX0_isNight, cX0_isNight, 2, (Option.some FieldType.boolean))
abbrev m_X0_isVerdict : ax_M := (yX0_isVerdict, cX0_isVerdict, 2, (Option.some FieldType.boolean))
abbrev m_X0_all : ax_M := (yX0_all, cX0_all, 1, (Option.some FieldType.int))
abbrev m_X0_doers : ax_M := (yX0_doers, cX0_doers, 4, (Option.some FieldType.int))
abbrev m_X0_costOf : ax_M := (yX0_costOf, cX0_costOf, 8, (Option.some FieldType.int))
abbrev m_X0_daysOf : ax_M := (yX0_daysOf, cX0_daysOf, 5, (Option.some FieldType.int))
abbrev m_X1_init : ax_M := (yX1_init, cX1_init, 1, (Option.none : Option FieldType))
abbrev m_X1_clear : ax_M := (yX1_clear, cX1_clear, 1, (Option.none : Option FieldType))
abbrev m_X1_copyFrom : ax_M := (yX1_copyFrom, cX1_copyFrom, 2, (Option.none : Option FieldType))
abbrev m_X1_add : ax_M := (yX1_add, cX1_add, 2, (Option.none : Option FieldType))
abbrev m_X1_members : ax_M := (yX1_members, cX1_members, 3, (Option.some FieldType.int))
abbrev m_X1_open : ax_M := (yX1_open, cX1_open, 2, (Option.some FieldType.int))
abbrev m_X1_isEnded : ax_M := (yX1_isEnded, cX1_isEnded, 2, (Option.some FieldType.boolean))
abbrev m_X1_isStuck : ax_M := (yX1_isStuck, cX1_isStuck, 2, (Option.some FieldType.boolean))
abbrev m_X2_init : ax_M := (yX2_init, cX2_init, 1, (Option.none : Option FieldType))
abbrev m_X2_readAll : ax_M := (yX2_readAll, cX2_readAll, 6, (Option.some FieldType.int))
abbrev m_X2_readNumbers : ax_M := (yX2_readNumbers, cX2_readNumbers, 7, (Option.some FieldType.int))
abbrev m_X2_figuresFrom : ax_M := (yX2_figuresFrom, cX2_figuresFrom, 2, (Option.some FieldType.int))
abbrev m_X2_numberFrom : ax_M := (yX2_numberFrom, cX2_numberFrom, 5, (Option.some FieldType.int))
abbrev m_X2_isFigure : ax_M := (yX2_isFigure, cX2_isFigure, 1, (Option.some FieldType.boolean))
abbrev m_X2_tell : ax_M := (yX2_tell, cX2_tell, 6, (Option.some FieldType.boolean))
abbrev m_X3_init : ax_M := (yX3_init, cX3_init, 1, (Option.none : Option FieldType))
abbrev m_X3_add : ax_M := (yX3_add, cX3_add, 2, (Option.some FieldType.boolean))
abbrev m_X3_addAll : ax_M := (yX3_addAll, cX3_addAll, 3, (Option.none : Option FieldType))
abbrev m_X3_clear : ax_M := (yX3_clear, cX3_clear, 1, (Option.none : Option FieldType))
abbrev m_X3_letterAt : ax_M := (yX3_letterAt, cX3_letterAt, 2, (Option.some FieldType.int))
abbrev m_X4_init : ax_M := (yX4_init, cX4_init, 3, (Option.none : Option FieldType))
abbrev m_X4_clear : ax_M := (yX4_clear, cX4_clear, 1, (Option.none : Option FieldType))
abbrev m_X4_add : ax_M := (yX4_add, cX4_add, 3, (Option.none : Option FieldType))
abbrev m_X4_takeLatest : ax_M := (yX4_takeLatest, cX4_takeLatest, 4, (Option.some FieldType.boolean))
abbrev m_X4_placeAt : ax_M := (yX4_placeAt, cX4_placeAt, 2, (Option.some (FieldType.object "HeardBackward$Hearing")))
abbrev m_X5_init : ax_M := (yX5_init, cX5_init, 1, (Option.none : Option FieldType))
abbrev m_X5_walkAll : ax_M := (yX5_walkAll, cX5_walkAll, 4, (Option.none : Option FieldType))
abbrev m_X5_walk : ax_M := (yX5_walk, cX5_walk, 8, (Option.none : Option FieldType))
abbrev m_X5_note : ax_M := (yX5_note, cX5_note, 8, (Option.none : Option FieldType))
abbrev m_X6_init : ax_M := (yX6_init, cX6_init, 1, (Option.none : Option FieldType))
abbrev m_X6_write : ax_M := (yX6_write, cX6_write, 2, (Option.some FieldType.int))
abbrev m_X6_wipe : ax_M := (yX6_wipe, cX6_wipe, 2, (Option.some FieldType.int))
abbrev m_X6_fault : ax_M := (yX6_fault, cX6_fault, 1, (Option.some FieldType.int))
abbrev m_X6_lay : ax_M := (yX6_lay, cX6_lay, 1, (Option.some FieldType.int))
abbrev m_X6_statement : ax_M := (yX6_statement, cX6_statement, 3, (Option.some FieldType.int))
abbrev m_X6_argue : ax_M := (yX6_argue, cX6_argue, 2, (Option.some FieldType.int))
abbrev m_X6_drop : ax_M := (yX6_drop, cX6_drop, 2, (Option.some FieldType.int))
abbrev m_X6_strike : ax_M := (yX6_strike, cX6_strike, 2, (Option.some FieldType.int))
abbrev m_X6_undo : ax_M := (yX6_undo, cX6_undo, 1, (Option.some FieldType.int))
abbrev m_X6_argued : ax_M := (yX6_argued, cX6_argued, 2, (Option.some FieldType.int))
abbrev m_X6_next : ax_M := (yX6_next, cX6_next, 1, (Option.some FieldType.int))
abbrev m_X6_trial : ax_M := (yX6_trial, cX6_trial, 2, (Option.some FieldType.int))
abbrev m_X6_chains : ax_M := (yX6_chains, cX6_chains, 2, (Option.some FieldType.int))
abbrev m_X6_shortest : ax_M := (yX6_shortest, cX6_shortest, 3, (Option.some FieldType.int))
abbrev m_X6_nights : ax_M := (yX6_nights, cX6_nights, 2, (Option.some FieldType.int))
abbrev m_X6_needed : ax_M := (yX6_needed, cX6_needed, 2, (Option.some FieldType.int))
abbrev m_X6_forgotten : ax_M := (yX6_forgotten, cX6_forgotten, 3, (Option.some FieldType.int))
abbrev m_X6_both : ax_M := (yX6_both, cX6_both, 8, (Option.some FieldType.int))
abbrev m_X6_byTurns : ax_M := (yX6_byTurns, cX6_byTurns, 4, (Option.some FieldType.int))
abbrev m_X6_days : ax_M := (yX6_days, cX6_days, 2, (Option.some FieldType.int))
abbrev m_X6_who : ax_M := (yX6_who, cX6_who, 2, (Option.some FieldType.int))
abbrev m_X6_fits : ax_M := (yX6_fits, cX6_fits, 2, (Option.some FieldType.int))
abbrev m_X6_look : ax_M := (yX6_look, cX6_look, 7, (Option.some FieldType.int))
abbrev m_X6_laid : ax_M := (yX6_laid, cX6_laid, 3, (Option.some FieldType.int))
abbrev m_X6_odds : ax_M := (yX6_odds, cX6_odds, 9, (Option.some FieldType.int))
abbrev m_X6_trialBy : ax_M := (yX6_trialBy, cX6_trialBy, 10, (Option.some FieldType.int))
abbrev m_X6_keep : ax_M := (yX6_keep, cX6_keep, 1, (Option.some FieldType.int))
abbrev m_X6_back : ax_M := (yX6_back, cX6_back, 1, (Option.some FieldType.int))
abbrev m_X6_count : ax_M := (yX6_count, cX6_count, 2, (Option.some FieldType.int))
abbrev m_X6_fittingPeople : ax_M := (yX6_fittingPeople, cX6_fittingPeople, 4, (Option.some FieldType.int))
abbrev m_X6_winningOpening : ax_M := (yX6_winningOpening, cX6_winningOpening, 4, (Option.some FieldType.int))
abbrev m_X6_isWon : ax_M := (yX6_isWon, cX6_isWon, 8, (Option.some FieldType.boolean))
abbrev m_X6_openBehind : ax_M := (yX6_openBehind, cX6_openBehind, 4, (Option.some FieldType.int))
abbrev m_X6_draw : ax_M := (yX6_draw, cX6_draw, 4, (Option.some FieldType.int))
abbrev m_X6_bitByRank : ax_M := (yX6_bitByRank, cX6_bitByRank, 4, (Option.some FieldType.int))
abbrev m_X6_commonDivisor : ax_M := (yX6_commonDivisor, cX6_commonDivisor, 6, (Option.some FieldType.int))
abbrev m_X6_outside : ax_M := (yX6_outside, cX6_outside, 3, (Option.some FieldType.boolean))
abbrev m_X6_asNumber : ax_M := (yX6_asNumber, cX6_asNumber, 1, (Option.some FieldType.int))
abbrev m_X6_bit : ax_M := (yX6_bit, cX6_bit, 1, (Option.some FieldType.int))
abbrev m_X6_has : ax_M := (yX6_has, cX6_has, 2, (Option.some FieldType.boolean))
abbrev m_X6_at : ax_M := (yX6_at, cX6_at, 2, (Option.some FieldType.int))
abbrev m_X6_put : ax_M := (yX6_put, cX6_put, 3, (Option.none : Option FieldType))
abbrev m_X7_init : ax_M := (yX7_init, cX7_init, 1, (Option.none : Option FieldType))
abbrev m_X7_firstOf : ax_M := (yX7_firstOf, cX7_firstOf, 5, (Option.none : Option FieldType))
abbrev m_X7_firstPerson : ax_M := (yX7_firstPerson, cX7_firstPerson, 3, (Option.none : Option FieldType))
abbrev m_X7_in : ax_M := (yX7_in, cX7_in, 3, (Option.some FieldType.boolean))
abbrev m_X7_write : ax_M := (yX7_write, cX7_write, 2, (Option.some FieldType.int))
abbrev m_X7_wipe : ax_M := (yX7_wipe, cX7_wipe, 2, (Option.some FieldType.int))
abbrev m_X7_here : ax_M := (yX7_here, cX7_here, 1, (Option.some FieldType.int))
abbrev m_X7_number : ax_M := (yX7_number, cX7_number, 6, (Option.some FieldType.int))
abbrev m_X7_statementAt : ax_M := (yX7_statementAt, cX7_statementAt, 2, (Option.some FieldType.int))
abbrev m_X7_readItem : ax_M := (yX7_readItem, cX7_readItem, 5, (Option.none : Option FieldType))
abbrev m_X7_fault : ax_M := (yX7_fault, cX7_fault, 2, (Option.some FieldType.int))
abbrev m_X7_takeDraft : ax_M := (yX7_takeDraft, cX7_takeDraft, 2, (Option.none : Option FieldType))
abbrev m_X7_lay : ax_M := (yX7_lay, cX7_lay, 1, (Option.some FieldType.int))
abbrev m_X7_copy : ax_M := (yX7_copy, cX7_copy, 4, (Option.none : Option FieldType))
abbrev m_X7_know : ax_M := (yX7_know, cX7_know, 2, (Option.none : Option FieldType))
abbrev m_X7_isStatement : ax_M := (yX7_isStatement, cX7_isStatement, 2, (Option.some FieldType.boolean))
abbrev m_X7_isVerdict : ax_M := (yX7_isVerdict, cX7_isVerdict, 2, (Option.some FieldType.boolean))
abbrev m_X7_isStruck : ax_M := (yX7_isStruck, cX7_isStruck, 2, (Option.some FieldType.boolean))
abbrev m_X7_statement : ax_M := (yX7_statement, cX7_statement, 3, (Option.some FieldType.int))
abbrev m_X7_behind : ax_M := (yX7_behind, cX7_behind, 3, (Option.some FieldType.int))
abbrev m_X7_said : ax_M := (yX7_said, cX7_said, 3, (Option.some FieldType.int))
abbrev m_X7_next : ax_M := (yX7_next, cX7_next, 1, (Option.some FieldType.int))
abbrev m_X7_argue : ax_M := (yX7_argue, cX7_argue, 2, (Option.some FieldType.int))
abbrev m_X7_drop : ax_M := (yX7_drop, cX7_drop, 2, (Option.some FieldType.int))
abbrev m_X7_strike : ax_M := (yX7_strike, cX7_strike, 2, (Option.some FieldType.int))
abbrev m_X7_undo : ax_M := (yX7_undo, cX7_undo, 1, (Option.some FieldType.int))
abbrev m_X7_argued : ax_M := (yX7_argued, cX7_argued, 2, (Option.some FieldType.int))
abbrev m_X7_cost : ax_M := (yX7_cost, cX7_cost, 5, (Option.some FieldType.int))
abbrev m_X7_trial : ax_M := (yX7_trial, cX7_trial, 5, (Option.some FieldType.int))
abbrev m_X7_manyOf : ax_M := (yX7_manyOf, cX7_manyOf, 3, (Option.some FieldType.int))
abbrev m_X7_couldHave : ax_M := (yX7_couldHave, cX7_couldHave, 4, (Option.some FieldType.int))
abbrev m_X7_endAt : ax_M := (yX7_endAt, cX7_endAt, 5, (Option.none : Option FieldType))
abbrev m_X7_goOn : ax_M := (yX7_goOn, cX7_goOn, 11, (Option.none : Option FieldType))
abbrev m_X7_solve : ax_M := (yX7_solve, cX7_solve, 4, (Option.none : Option FieldType))
abbrev m_X7_rowOf : ax_M := (yX7_rowOf, cX7_rowOf, 1, (Option.some FieldType.int))
abbrev m_X7_hasWhole : ax_M := (yX7_hasWhole, cX7_hasWhole, 2, (Option.some FieldType.boolean))
abbrev m_X7_chains : ax_M := (yX7_chains, cX7_chains, 2, (Option.some FieldType.int))
abbrev m_X7_followFrom : ax_M := (yX7_followFrom, cX7_followFrom, 4, (Option.none : Option FieldType))
abbrev m_X7_shortest : ax_M := (yX7_shortest, cX7_shortest, 3, (Option.some FieldType.int))
abbrev m_X7_nights : ax_M := (yX7_nights, cX7_nights, 2, (Option.some FieldType.int))
abbrev m_X7_needed : ax_M := (yX7_needed, cX7_needed, 2, (Option.some FieldType.int))
abbrev m_X7_forgotten : ax_M := (yX7_forgotten, cX7_forgotten, 4, (Option.some FieldType.int))
abbrev m_X7_costTo : ax_M := (yX7_costTo, cX7_costTo, 2, (Option.some FieldType.int))
abbrev m_X7_both : ax_M := (yX7_both, cX7_both, 8, (Option.some FieldType.int))
abbrev m_X7_byTurns : ax_M := (yX7_byTurns, cX7_byTurns, 8, (Option.some FieldType.int))
abbrev m_X7_days : ax_M := (yX7_days, cX7_days, 2, (Option.some FieldType.int))
abbrev m_X7_who : ax_M := (yX7_who, cX7_who, 2, (Option.some FieldType.int))
abbrev m_X7_fitting : ax_M := (yX7_fitting, cX7_fitting, 5, (Option.some FieldType.int))
abbrev m_X7_fits : ax_M := (yX7_fits, cX7_fits, 2, (Option.some FieldType.int))
abbrev m_X7_look : ax_M := (yX7_look, cX7_look, 8, (Option.some FieldType.int))
abbrev m_X7_laid : ax_M := (yX7_laid, cX7_laid, 5, (Option.some FieldType.int))
abbrev m_X7_odds : ax_M := (yX7_odds, cX7_odds, 10, (Option.some FieldType.int))
abbrev m_X7_trialBy : ax_M := (yX7_trialBy, cX7_trialBy, 12, (Option.some FieldType.int))
abbrev m_X7_keep : ax_M := (yX7_keep, cX7_keep, 1, (Option.some FieldType.int))
abbrev m_X7_back : ax_M := (yX7_back, cX7_back, 1, (Option.some FieldType.int))
abbrev m_X7_count : ax_M := (yX7_count, cX7_count, 2, (Option.some FieldType.int))
abbrev m_J6_bitCount_0f7a4 : ax_M := (yJ6_bitCount_0f7a4, cJ6_bitCount_0f7a4, 1, (Option.some FieldType.int))
abbrev m_J9_max_7cf53 : ax_M := (yJ9_max_7cf53, cJ9_max_7cf53, 2, (Option.some FieldType.int))
abbrev m_J9_min_7cf53 : ax_M := (yJ9_min_7cf53, cJ9_min_7cf53, 2, (Option.some FieldType.int))
abbrev m_J0_length_8abf5 : ax_M := (yJ0_length_8abf5, cJ0_length_8abf5, 1, (Option.some FieldType.int))
abbrev m_J0_charAt_5068e : ax_M := (yJ0_charAt_5068e, cJ0_charAt_5068e, 2, (Option.some FieldType.char))
abbrev m_J0_coder_7d493 : ax_M := (yJ0_coder_7d493, cJ0_coder_7d493, 1, (Option.some FieldType.byte))
abbrev m_J0_isLatin1_aae02 : ax_M := (yJ0_isLatin1_aae02, cJ0_isLatin1_aae02, 1, (Option.some FieldType.boolean))
abbrev m_J0_checkIndex_df160 : ax_M := (yJ0_checkIndex_df160, cJ0_checkIndex_df160, 2, (Option.none : Option FieldType))
abbrev m_J1_charAt_3b067 : ax_M := (yJ1_charAt_3b067, cJ1_charAt_3b067, 2, (Option.some FieldType.char))
abbrev m_J2_getChar_3b067 : ax_M := (yJ2_getChar_3b067, cJ2_getChar_3b067, 2, (Option.some FieldType.char))
abbrev m_J2_length_9d52b : ax_M := (yJ2_length_9d52b, cJ2_length_9d52b, 1, (Option.some FieldType.int))
abbrev m_J2_charAt_3b067 : ax_M := (yJ2_charAt_3b067, cJ2_charAt_3b067, 2, (Option.some FieldType.char))
abbrev m_J2_checkIndex_2214a : ax_M := (yJ2_checkIndex_2214a, cJ2_checkIndex_2214a, 2, (Option.none : Option FieldType))
abbrev m_J3_checkIndex_8e157 : ax_M := (yJ3_checkIndex_8e157, cJ3_checkIndex_8e157, 3, (Option.some FieldType.int))
theorem kI_L : Cond.initialized RL ∈ TB := TB_in (List.mem_of_getElem? (i := 58) (by decide +kernel)) rfl
theorem kI_X6 : Cond.initialized RX6 ∈ TB := TB_in (List.mem_of_getElem? (i := 59) (by decide +kernel)) rfl
theorem kI_X3 : Cond.initialized RX3 ∈ TB := TB_in (List.mem_of_getElem? (i := 60) (by decide +kernel)) rfl
theorem kI_X2 : Cond.initialized RX2 ∈ TB := TB_in (List.mem_of_getElem? (i := 61) (by decide +kernel)) rfl
theorem kI_X0 : Cond.initialized RX0 ∈ TB := TB_in (List.mem_of_getElem? (i := 62) (by decide +kernel)) rfl
theorem kI_X1 : Cond.initialized RX1 ∈ TB := TB_in (List.mem_of_getElem? (i := 63) (by decide +kernel)) rfl
theorem kI_X4 : Cond.initialized RX4 ∈ TB := TB_in (List.mem_of_getElem? (i := 64) (by decide +kernel)) rfl
theorem kI_J9 : Cond.initialized RJ9 ∈ TB := TB_in (List.mem_of_getElem? (i := 65) (by decide +kernel)) rfl
theorem kI_X5 : Cond.initialized RX5 ∈ TB := TB_in (List.mem_of_getElem? (i := 66) (by decide +kernel)) rfl
theorem kI_J0 : Cond.initialized RJ0 ∈ TB := TB_in (List.mem_of_getElem? (i := 67) (by decide +kernel)) rfl
theorem kI_J1 : Cond.initialized RJ1 ∈ TB := TB_in (List.mem_of_getElem? (i := 68) (by decide +kernel)) rfl
theorem kI_J3 : Cond.initialized RJ3 ∈ TB := TB_in (List.mem_of_getElem? (i := 69) (by decide +kernel)) rfl
theorem kI_J2 : Cond.initialized RJ2 ∈ TB := TB_in (List.mem_of_getElem? (i := 70) (by decide +kernel)) rfl
theorem kI_X7 : Cond.initialized RX7 ∈ TB := TB_in (List.mem_of_getElem? (i := 71) (by decide +kernel)) rfl
theorem kI_J10 : Cond.initialized RJ10 ∈ TB := TB_in (List.mem_of_getElem? (i := 72) (by decide +kernel)) rfl
theorem kI_J6 : Cond.initialized RJ6 ∈ TB := TB_in (List.mem_of_getElem? (i := 73) (by decide +kernel)) rfl
theorem k0_X0_init : Lk0 m_X0_init 0 := ⟨TB_in (List.mem_of_getElem? (i := 115) (by decide +kernel)) rfl, kI_X0, ⟨by decide +kernel, by decide +kernel, by decide +kernel⟩, by decide +kernel, by decide +kernel⟩
theorem kM_X0_init : Cond.instanceMethod yX0_init ∈ TB := TB_in (List.mem_of_getElem? (i := 114) (by decide +kernel)) rfl
theorem k0_X0_clear : Lk0 m_X0_clear 0 := ⟨TB_in (List.mem_of_getElem? (i := 305) (by decide +kernel)) rfl, kI_X0, ⟨by decide +kernel, by decide +kernel, by decide +kernel⟩, by decide +kernel, by decide +kernel⟩
theorem kM_X0_clear : Cond.instanceMethod yX0_clear ∈ TB := TB_in (List.mem_of_getElem? (i := 304) (by decide +kernel)) rfl
theorem kE_X0_clear : Cond.selects yX0_clear.cls yX0_clear yX0_clear ∈ TB := TB_in (List.mem_of_getElem? (i := 3) (by decide +kernel)) rfl
theorem k0_X0_copyFrom : Lk0 m_X0_copyFrom 1 := ⟨TB_in (List.mem_of_getElem? (i := 418) (by decide +kernel)) rfl, kI_X0, ⟨by decide +kernel, by decide +kernel, by decide +kernel⟩, by decide +kernel, by decide +kernel⟩
theorem kM_X0_copyFrom : Cond.instanceMethod yX0_copyFrom ∈ TB := TB_in (List.mem_of_getElem? (i := 417) (by decide +kernel)) rfl
theorem kE_X0_copyFrom : Cond.selects yX0_copyFrom.cls yX0_copyFrom yX0_copyFrom ∈ TB := TB_in (List.mem_of_getElem? (i := 14) (by decide +kernel)) rfl
theorem k0_X0_addStatement : Lk0 m_X0_addStatement 3 := ⟨TB_in (List.mem_of_getElem? (i := 335) (by decide +kernel)) rfl, kI_X0, ⟨by decide +kernel, by decide +kernel, by decide +kernel⟩, by decide +kernel, by decide +kernel⟩
theorem kM_X0_addStatement : Cond.instanceMethod yX0_addStatement ∈ TB := TB_in (List.mem_of_getElem? (i := 334) (by decide +kernel)) rfl
theorem kE_X0_addStatement : Cond.selects yX0_addStatement.cls yX0_addStatement yX0_addStatement ∈ TB := TB_in (List.mem_of_getElem? (i := 7) (by decide +kernel)) rfl
theorem k0_X0_addVerdict : Lk0 m_X0_addVerdict 1 := ⟨TB_in (List.mem_of_getElem? (i := 343) (by decide +kernel)) rfl, kI_X0, ⟨by decide +kernel, by decide +kernel, by decide +kernel⟩, by decide +kernel, by decide +kernel⟩
theorem kM_X0_addVerdict : Cond.instanceMethod yX0_addVerdict ∈ TB := TB_in (List.mem_of_getElem? (i := 342) (by decide +kernel)) rfl
theorem kE_X0_addVerdict : Cond.selects yX0_addVerdict.cls yX0_addVerdict yX0_addVerdict ∈ TB := TB_in (List.mem_of_getElem? (i := 8) (by decide +kernel)) rfl
theorem k0_X0_addHang : Lk0 m_X0_addHang 2 := ⟨TB_in (List.mem_of_getElem? (i := 359) (by decide +kernel)) rfl, kI_X0, ⟨by decide +kernel, by decide +kernel, by decide +kernel⟩, by decide +kernel, by decide +kernel⟩
theorem kM_X0_addHang : Cond.instanceMethod yX0_addHang ∈ TB := TB_in (List.mem_of_getElem? (i := 358) (by decide +kernel)) rfl
theorem kE_X0_addHang : Cond.selects yX0_addHang.cls yX0_addHang yX0_addHang ∈ TB := TB_in (List.mem_of_getElem? (i := 11) (by decide +kernel)) rfl
theorem k0_X0_addPerson : Lk0 m_X0_addPerson 2 := ⟨TB_in (List.mem_of_getElem? (i := 363) (by decide +kernel)) rfl, kI_X0, ⟨by decide +kernel, by decide +kernel, by decide +kernel⟩, by decide +kernel, by decide +kernel⟩
theorem kM_X0_addPerson : Cond.instanceMethod yX0_addPerson ∈ TB := TB_in (List.mem_of_getElem? (i := 362) (by decide +kernel)) rfl
theorem kE_X0_addPerson : Cond.selects yX0_addPerson.cls yX0_addPerson yX0_addPerson ∈ TB := TB_in (List.mem_of_getElem? (i := 12) (by decide +kernel)) rfl
theorem k0_X0_isStatement : Lk0 m_X0_isStatement 1 := ⟨TB_in (List.mem_of_getElem? (i := 347) (by decide +kernel)) rfl, kI_X0, ⟨by decide +kernel, by decide +kernel, by decide +kernel⟩, by decide +kernel, by decide +kernel⟩
theorem kM_X0_isStatement : Cond.instanceMethod yX0_isStatement ∈ TB := TB_in (List.mem_of_getElem? (i := 346) (by decide +kernel)) rfl
theorem kE_X0_isStatement : Cond.selects yX0_isStatement.cls yX0_isStatement yX0_isStatement ∈ TB := TB_in (List.mem_of_getElem? (i := 9) (by decide +kernel)) rfl
theorem k0_X0_isNight : Lk0 m_X0_isNight 1 := ⟨TB_in (List.mem_of_getElem? (i := 351) (by decide +kernel)) rfl, kI_X0, ⟨by decide +kernel, by decide +kernel, by decide +kernel⟩, by decide +kernel, by decide +kernel⟩
theorem kM_X0_isNight : Cond.instanceMethod yX0_isNight ∈ TB := TB_in (List.mem_of_getElem? (i := 350) (by decide +kernel)) rfl
theorem kE_X0_isNight : Cond.selects yX0_isNight.cls yX0_isNight yX0_isNight ∈ TB := TB_in (List.mem_of_getElem? (i := 10) (by decide +kernel)) rfl
theorem k0_X0_isVerdict : Lk0 m_X0_isVerdict 1 := ⟨TB_in (List.mem_of_getElem? (i := 439) (by decide +kernel)) rfl, kI_X0, ⟨by decide +kernel, by decide +kernel, by decide +kernel⟩, by decide +kernel, by decide +kernel⟩
theorem kM_X0_isVerdict : Cond.instanceMethod yX0_isVerdict ∈ TB := TB_in (List.mem_of_getElem? (i := 438) (by decide +kernel)) rfl
theorem kE_X0_isVerdict : Cond.selects yX0_isVerdict.cls yX0_isVerdict yX0_isVerdict ∈ TB := TB_in (List.mem_of_getElem? (i := 17) (by decide +kernel)) rfl
theorem k0_X0_all : Lk0 m_X0_all 0 := ⟨TB_in (List.mem_of_getElem? (i := 577) (by decide +kernel)) rfl, kI_X0, ⟨by decide +kernel, by decide +kernel, by decide +kernel⟩, by decide +kernel, by decide +kernel⟩
theorem kM_X0_all : Cond.instanceMethod yX0_all ∈ TB := TB_in (List.mem_of_getElem? (i := 576) (by decide +kernel)) rfl
theorem kE_X0_all : Cond.selects yX0_all.cls yX0_all yX0_all ∈ TB := TB_in (List.mem_of_getElem? (i := 31) (by decide +kernel)) rfl
theorem k0_X0_doers : Lk0 m_X0_doers 1 := ⟨TB_in (List.mem_of_getElem? (i := 598) (by decide +kernel)) rfl, kI_X0, ⟨by decide +kernel, by decide +kernel, by decide +kernel⟩, by decide +kernel, by decide +kernel⟩
theorem kM_X0_doers : Cond.instanceMethod yX0_doers ∈ TB := TB_in (List.mem_of_getElem? (i := 597) (by decide +kernel)) rfl
theorem kE_X0_doers : Cond.selects yX0_doers.cls yX0_doers yX0_doers ∈ TB := TB_in (List.mem_of_getElem? (i := 33) (by decide +kernel)) rfl
theorem k0_X0_costOf : Lk0 m_X0_costOf 2 := ⟨TB_in (List.mem_of_getElem? (i := 518) (by decide +kernel)) rfl, kI_X0, ⟨by decide +kernel, by decide +kernel, by decide +kernel⟩, by decide +kernel, by decide +kernel⟩
theorem kM_X0_costOf : Cond.instanceMethod yX0_costOf ∈ TB := TB_in (List.mem_of_getElem? (i := 517) (by decide +kernel)) rfl
theorem kE_X0_costOf : Cond.selects yX0_costOf.cls yX0_costOf yX0_costOf ∈ TB := TB_in (List.mem_of_getElem? (i := 25) (by decide +kernel)) rfl
theorem k0_X0_daysOf : Lk0 m_X0_daysOf 2 := ⟨TB_in (List.mem_of_getElem? (i := 554) (by decide +kernel)) rfl, kI_X0, ⟨by decide +kernel, by decide +kernel, by decide +kernel⟩, by decide +kernel, by decide +kernel⟩
theorem kM_X0_daysOf : Cond.instanceMethod yX0_daysOf ∈ TB := TB_in (List.mem_of_getElem? (i := 553) (by decide +kernel)) rfl
theorem kE_X0_daysOf : Cond.selects yX0_daysOf.cls yX0_daysOf yX0_daysOf ∈ TB := TB_in (List.mem_of_getElem? (i := 30) (by decide +kernel)) rfl
theorem k0_X1_init : Lk0 m_X1_init 0 := ⟨TB_in (List.mem_of_getElem? (i := 154) (by decide +kernel)) rfl, kI_X1, ⟨by decide +kernel, by decide +kernel, by decide +kernel⟩, by decide +kernel, by decide +kernel⟩
theorem kM_X1_init : Cond.instanceMethod yX1_init ∈ TB := TB_in (List.mem_of_getElem? (i := 153) (by decide +kernel)) rfl
theorem k0_X1_clear : Lk0 m_X1_clear 0 := ⟨TB_in (List.mem_of_getElem? (i := 425) (by decide +kernel)) rfl, kI_X1, ⟨by decide +kernel, by decide +kernel, by decide +kernel⟩, by decide +kernel, by decide +kernel⟩
theorem kM_X1_clear : Cond.instanceMethod yX1_clear ∈ TB := TB_in (List.mem_of_getElem? (i := 424) (by decide +kernel)) rfl
theorem kE_X1_clear : Cond.selects yX1_clear.cls yX1_clear yX1_clear ∈ TB := TB_in (List.mem_of_getElem? (i := 15) (by decide +kernel)) rfl
theorem k0_X1_copyFrom : Lk0 m_X1_copyFrom 1 := ⟨TB_in (List.mem_of_getElem? (i := 475) (by decide +kernel)) rfl, kI_X1, ⟨by decide +kernel, by decide +kernel, by decide +kernel⟩, by decide +kernel, by decide +kernel⟩
theorem kM_X1_copyFrom : Cond.instanceMethod yX1_copyFrom ∈ TB := TB_in (List.mem_of_getElem? (i := 474) (by decide +kernel)) rfl
theorem kE_X1_copyFrom : Cond.selects yX1_copyFrom.cls yX1_copyFrom yX1_copyFrom ∈ TB := TB_in (List.mem_of_getElem? (i := 22) (by decide +kernel)) rfl
theorem k0_X1_add : Lk0 m_X1_add 1 := ⟨TB_in (List.mem_of_getElem? (i := 483) (by decide +kernel)) rfl, kI_X1, ⟨by decide +kernel, by decide +kernel, by decide +kernel⟩, by decide +kernel, by decide +kernel⟩
theorem kM_X1_add : Cond.instanceMethod yX1_add ∈ TB := TB_in (List.mem_of_getElem? (i := 482) (by decide +kernel)) rfl
theorem kE_X1_add : Cond.selects yX1_add.cls yX1_add yX1_add ∈ TB := TB_in (List.mem_of_getElem? (i := 23) (by decide +kernel)) rfl
theorem k0_X1_members : Lk0 m_X1_members 0 := ⟨TB_in (List.mem_of_getElem? (i := 459) (by decide +kernel)) rfl, kI_X1, ⟨by decide +kernel, by decide +kernel, by decide +kernel⟩, by decide +kernel, by decide +kernel⟩
theorem kM_X1_members : Cond.instanceMethod yX1_members ∈ TB := TB_in (List.mem_of_getElem? (i := 458) (by decide +kernel)) rfl
theorem kE_X1_members : Cond.selects yX1_members.cls yX1_members yX1_members ∈ TB := TB_in (List.mem_of_getElem? (i := 19) (by decide +kernel)) rfl
theorem k0_X1_open : Lk0 m_X1_open 1 := ⟨TB_in (List.mem_of_getElem? (i := 454) (by decide +kernel)) rfl, kI_X1, ⟨by decide +kernel, by decide +kernel, by decide +kernel⟩, by decide +kernel, by decide +kernel⟩
theorem kM_X1_open : Cond.instanceMethod yX1_open ∈ TB := TB_in (List.mem_of_getElem? (i := 453) (by decide +kernel)) rfl
theorem kE_X1_open : Cond.selects yX1_open.cls yX1_open yX1_open ∈ TB := TB_in (List.mem_of_getElem? (i := 18) (by decide +kernel)) rfl
theorem k0_X1_isEnded : Lk0 m_X1_isEnded 1 := ⟨TB_in (List.mem_of_getElem? (i := 522) (by decide +kernel)) rfl, kI_X1, ⟨by decide +kernel, by decide +kernel, by decide +kernel⟩, by decide +kernel, by decide +kernel⟩
theorem kM_X1_isEnded : Cond.instanceMethod yX1_isEnded ∈ TB := TB_in (List.mem_of_getElem? (i := 521) (by decide +kernel)) rfl
theorem kE_X1_isEnded : Cond.selects yX1_isEnded.cls yX1_isEnded yX1_isEnded ∈ TB := TB_in (List.mem_of_getElem? (i := 26) (by decide +kernel)) rfl
theorem k0_X1_isStuck : Lk0 m_X1_isStuck 1 := ⟨TB_in (List.mem_of_getElem? (i := 527) (by decide +kernel)) rfl, kI_X1, ⟨by decide +kernel, by decide +kernel, by decide +kernel⟩, by decide +kernel, by decide +kernel⟩
theorem kM_X1_isStuck : Cond.instanceMethod yX1_isStuck ∈ TB := TB_in (List.mem_of_getElem? (i := 526) (by decide +kernel)) rfl
theorem kE_X1_isStuck : Cond.selects yX1_isStuck.cls yX1_isStuck yX1_isStuck ∈ TB := TB_in (List.mem_of_getElem? (i := 27) (by decide +kernel)) rfl
theorem k0_X2_init : Lk0 m_X2_init 0 := ⟨TB_in (List.mem_of_getElem? (i := 102) (by decide +kernel)) rfl, kI_X2, ⟨by decide +kernel, by decide +kernel, by decide +kernel⟩, by decide +kernel, by decide +kernel⟩
theorem kM_X2_init : Cond.instanceMethod yX2_init ∈ TB := TB_in (List.mem_of_getElem? (i := 101) (by decide +kernel)) rfl
theorem k0_X2_readAll : Lk0 m_X2_readAll 2 := ⟨TB_in (List.mem_of_getElem? (i := 301) (by decide +kernel)) rfl, kI_X2, ⟨by decide +kernel, by decide +kernel, by decide +kernel⟩, by decide +kernel, by decide +kernel⟩
theorem kM_X2_readAll : Cond.instanceMethod yX2_readAll ∈ TB := TB_in (List.mem_of_getElem? (i := 300) (by decide +kernel)) rfl
theorem kE_X2_readAll : Cond.selects yX2_readAll.cls yX2_readAll yX2_readAll ∈ TB := TB_in (List.mem_of_getElem? (i := 2) (by decide +kernel)) rfl
theorem k0_X2_readNumbers : Lk0 m_X2_readNumbers 2 := ⟨TB_in (List.mem_of_getElem? (i := 309) (by decide +kernel)) rfl, kI_X2, ⟨by decide +kernel, by decide +kernel, by decide +kernel⟩, by decide +kernel, by decide +kernel⟩
theorem kM_X2_readNumbers : Cond.instanceMethod yX2_readNumbers ∈ TB := TB_in (List.mem_of_getElem? (i := 308) (by decide +kernel)) rfl
theorem kE_X2_readNumbers : Cond.selects yX2_readNumbers.cls yX2_readNumbers yX2_readNumbers ∈ TB := TB_in (List.mem_of_getElem? (i := 4) (by decide +kernel)) rfl
theorem k0_X2_figuresFrom : Lk0 m_X2_figuresFrom 2 := ⟨TB_in (List.mem_of_getElem? (i := 312) (by decide +kernel)) rfl, kI_X2, ⟨by decide +kernel, by decide +kernel, by decide +kernel⟩, by decide +kernel, by decide +kernel⟩
theorem kS_X2_figuresFrom : Cond.static yX2_figuresFrom ∈ TB := TB_in (List.mem_of_getElem? (i := 311) (by decide +kernel)) rfl
theorem k0_X2_numberFrom : Lk0 m_X2_numberFrom 3 := ⟨TB_in (List.mem_of_getElem? (i := 325) (by decide +kernel)) rfl, kI_X2, ⟨by decide +kernel, by decide +kernel, by decide +kernel⟩, by decide +kernel, by decide +kernel⟩
theorem kS_X2_numberFrom : Cond.static yX2_numberFrom ∈ TB := TB_in (List.mem_of_getElem? (i := 324) (by decide +kernel)) rfl
theorem k0_X2_isFigure : Lk0 m_X2_isFigure 1 := ⟨TB_in (List.mem_of_getElem? (i := 322) (by decide +kernel)) rfl, kI_X2, ⟨by decide +kernel, by decide +kernel, by decide +kernel⟩, by decide +kernel, by decide +kernel⟩
theorem kS_X2_isFigure : Cond.static yX2_isFigure ∈ TB := TB_in (List.mem_of_getElem? (i := 321) (by decide +kernel)) rfl
theorem k0_X2_tell : Lk0 m_X2_tell 2 := ⟨TB_in (List.mem_of_getElem? (i := 330) (by decide +kernel)) rfl, kI_X2, ⟨by decide +kernel, by decide +kernel, by decide +kernel⟩, by decide +kernel, by decide +kernel⟩
theorem kM_X2_tell : Cond.instanceMethod yX2_tell ∈ TB := TB_in (List.mem_of_getElem? (i := 329) (by decide +kernel)) rfl
theorem kE_X2_tell : Cond.selects yX2_tell.cls yX2_tell yX2_tell ∈ TB := TB_in (List.mem_of_getElem? (i := 6) (by decide +kernel)) rfl
theorem k0_X3_init : Lk0 m_X3_init 0 := ⟨TB_in (List.mem_of_getElem? (i := 86) (by decide +kernel)) rfl, kI_X3, ⟨by decide +kernel, by decide +kernel, by decide +kernel⟩, by decide +kernel, by decide +kernel⟩
theorem kM_X3_init : Cond.instanceMethod yX3_init ∈ TB := TB_in (List.mem_of_getElem? (i := 85) (by decide +kernel)) rfl
theorem k0_X3_add : Lk0 m_X3_add 1 := ⟨TB_in (List.mem_of_getElem? (i := 294) (by decide +kernel)) rfl, kI_X3, ⟨by decide +kernel, by decide +kernel, by decide +kernel⟩, by decide +kernel, by decide +kernel⟩
theorem kM_X3_add : Cond.instanceMethod yX3_add ∈ TB := TB_in (List.mem_of_getElem? (i := 293) (by decide +kernel)) rfl
theorem kE_X3_add : Cond.selects yX3_add.cls yX3_add yX3_add ∈ TB := TB_in (List.mem_of_getElem? (i := 1) (by decide +kernel)) rfl
theorem k0_X3_addAll : Lk0 m_X3_addAll 1 := ⟨TB_in (List.mem_of_getElem? (i := 242) (by decide +kernel)) rfl, kI_X3, ⟨by decide +kernel, by decide +kernel, by decide +kernel⟩, by decide +kernel, by decide +kernel⟩
theorem kM_X3_addAll : Cond.instanceMethod yX3_addAll ∈ TB := TB_in (List.mem_of_getElem? (i := 241) (by decide +kernel)) rfl
theorem kE_X3_addAll : Cond.selects yX3_addAll.cls yX3_addAll yX3_addAll ∈ TB := TB_in (List.mem_of_getElem? (i := 0) (by decide +kernel)) rfl
theorem k0_X3_clear : Lk0 m_X3_clear 0 := ⟨TB_in (List.mem_of_getElem? (i := 367) (by decide +kernel)) rfl, kI_X3, ⟨by decide +kernel, by decide +kernel, by decide +kernel⟩, by decide +kernel, by decide +kernel⟩
theorem kM_X3_clear : Cond.instanceMethod yX3_clear ∈ TB := TB_in (List.mem_of_getElem? (i := 366) (by decide +kernel)) rfl
theorem kE_X3_clear : Cond.selects yX3_clear.cls yX3_clear yX3_clear ∈ TB := TB_in (List.mem_of_getElem? (i := 13) (by decide +kernel)) rfl
theorem k0_X3_letterAt : Lk0 m_X3_letterAt 1 := ⟨TB_in (List.mem_of_getElem? (i := 316) (by decide +kernel)) rfl, kI_X3, ⟨by decide +kernel, by decide +kernel, by decide +kernel⟩, by decide +kernel, by decide +kernel⟩
theorem kM_X3_letterAt : Cond.instanceMethod yX3_letterAt ∈ TB := TB_in (List.mem_of_getElem? (i := 315) (by decide +kernel)) rfl
theorem kE_X3_letterAt : Cond.selects yX3_letterAt.cls yX3_letterAt yX3_letterAt ∈ TB := TB_in (List.mem_of_getElem? (i := 5) (by decide +kernel)) rfl
theorem k0_X4_init : Lk0 m_X4_init 1 := ⟨TB_in (List.mem_of_getElem? (i := 173) (by decide +kernel)) rfl, kI_X4, ⟨by decide +kernel, by decide +kernel, by decide +kernel⟩, by decide +kernel, by decide +kernel⟩
theorem kM_X4_init : Cond.instanceMethod yX4_init ∈ TB := TB_in (List.mem_of_getElem? (i := 172) (by decide +kernel)) rfl
theorem k0_X4_clear : Lk0 m_X4_clear 0 := ⟨TB_in (List.mem_of_getElem? (i := 429) (by decide +kernel)) rfl, kI_X4, ⟨by decide +kernel, by decide +kernel, by decide +kernel⟩, by decide +kernel, by decide +kernel⟩
theorem kM_X4_clear : Cond.instanceMethod yX4_clear ∈ TB := TB_in (List.mem_of_getElem? (i := 428) (by decide +kernel)) rfl
theorem kE_X4_clear : Cond.selects yX4_clear.cls yX4_clear yX4_clear ∈ TB := TB_in (List.mem_of_getElem? (i := 16) (by decide +kernel)) rfl
theorem k0_X4_add : Lk0 m_X4_add 1 := ⟨TB_in (List.mem_of_getElem? (i := 467) (by decide +kernel)) rfl, kI_X4, ⟨by decide +kernel, by decide +kernel, by decide +kernel⟩, by decide +kernel, by decide +kernel⟩
theorem kM_X4_add : Cond.instanceMethod yX4_add ∈ TB := TB_in (List.mem_of_getElem? (i := 466) (by decide +kernel)) rfl
theorem kE_X4_add : Cond.selects yX4_add.cls yX4_add yX4_add ∈ TB := TB_in (List.mem_of_getElem? (i := 20) (by decide +kernel)) rfl
theorem k0_X4_takeLatest : Lk0 m_X4_takeLatest 1 := ⟨TB_in (List.mem_of_getElem? (i := 502) (by decide +kernel)) rfl, kI_X4, ⟨by decide +kernel, by decide +kernel, by decide +kernel⟩, by decide +kernel, by decide +kernel⟩
theorem kM_X4_takeLatest : Cond.instanceMethod yX4_takeLatest ∈ TB := TB_in (List.mem_of_getElem? (i := 501) (by decide +kernel)) rfl
theorem kE_X4_takeLatest : Cond.selects yX4_takeLatest.cls yX4_takeLatest yX4_takeLatest ∈ TB := TB_in (List.mem_of_getElem? (i := 24) (by decide +kernel)) rfl
theorem k0_X4_placeAt : Lk0 m_X4_placeAt 1 := ⟨TB_in (List.mem_of_getElem? (i := 471) (by decide +kernel)) rfl, kI_X4, ⟨by decide +kernel, by decide +kernel, by decide +kernel⟩, by decide +kernel, by decide +kernel⟩
theorem kM_X4_placeAt : Cond.instanceMethod yX4_placeAt ∈ TB := TB_in (List.mem_of_getElem? (i := 470) (by decide +kernel)) rfl
theorem kE_X4_placeAt : Cond.selects yX4_placeAt.cls yX4_placeAt yX4_placeAt ∈ TB := TB_in (List.mem_of_getElem? (i := 21) (by decide +kernel)) rfl
theorem k0_X5_init : Lk0 m_X5_init 0 := ⟨TB_in (List.mem_of_getElem? (i := 196) (by decide +kernel)) rfl, kI_X5, ⟨by decide +kernel, by decide +kernel, by decide +kernel⟩, by decide +kernel, by decide +kernel⟩
theorem kM_X5_init : Cond.instanceMethod yX5_init ∈ TB := TB_in (List.mem_of_getElem? (i := 195) (by decide +kernel)) rfl
theorem k0_X5_walkAll : Lk0 m_X5_walkAll 3 := ⟨TB_in (List.mem_of_getElem? (i := 537) (by decide +kernel)) rfl, kI_X5, ⟨by decide +kernel, by decide +kernel, by decide +kernel⟩, by decide +kernel, by decide +kernel⟩
theorem kM_X5_walkAll : Cond.instanceMethod yX5_walkAll ∈ TB := TB_in (List.mem_of_getElem? (i := 536) (by decide +kernel)) rfl
theorem kE_X5_walkAll : Cond.selects yX5_walkAll.cls yX5_walkAll yX5_walkAll ∈ TB := TB_in (List.mem_of_getElem? (i := 28) (by decide +kernel)) rfl
theorem k0_X5_walk : Lk0 m_X5_walk 5 := ⟨TB_in (List.mem_of_getElem? (i := 543) (by decide +kernel)) rfl, kI_X5, ⟨by decide +kernel, by decide +kernel, by decide +kernel⟩, by decide +kernel, by decide +kernel⟩
theorem kS_X5_walk : Cond.static yX5_walk ∈ TB := TB_in (List.mem_of_getElem? (i := 542) (by decide +kernel)) rfl
theorem k0_X5_note : Lk0 m_X5_note 3 := ⟨TB_in (List.mem_of_getElem? (i := 549) (by decide +kernel)) rfl, kI_X5, ⟨by decide +kernel, by decide +kernel, by decide +kernel⟩, by decide +kernel, by decide +kernel⟩
theorem kM_X5_note : Cond.instanceMethod yX5_note ∈ TB := TB_in (List.mem_of_getElem? (i := 548) (by decide +kernel)) rfl
theorem kE_X5_note : Cond.selects yX5_note.cls yX5_note yX5_note ∈ TB := TB_in (List.mem_of_getElem? (i := 29) (by decide +kernel)) rfl
theorem k0_X6_init : Lk0 m_X6_init 0 := ⟨TB_in (List.mem_of_getElem? (i := 78) (by decide +kernel)) rfl, kI_X6, ⟨by decide +kernel, by decide +kernel, by decide +kernel⟩, by decide +kernel, by decide +kernel⟩
theorem kM_X6_init : Cond.instanceMethod yX6_init ∈ TB := TB_in (List.mem_of_getElem? (i := 77) (by decide +kernel)) rfl
theorem k0_X6_write : Lk0 m_X6_write 1 := ⟨TB_in (List.mem_of_getElem? (i := 400) (by decide +kernel)) rfl, kI_X6, ⟨by decide +kernel, by decide +kernel, by decide +kernel⟩, by decide +kernel, by decide +kernel⟩
theorem kM_X6_write : Cond.instanceMethod yX6_write ∈ TB := TB_in (List.mem_of_getElem? (i := 398) (by decide +kernel)) rfl
theorem kE_X6_write : Cond.selects yX6_write.cls yX6_write yX6_write ∈ TB := TB_in (List.mem_of_getElem? (i := 399) (by decide +kernel)) rfl
theorem k0_X6_wipe : Lk0 m_X6_wipe 0 := ⟨TB_in (List.mem_of_getElem? (i := 406) (by decide +kernel)) rfl, kI_X6, ⟨by decide +kernel, by decide +kernel, by decide +kernel⟩, by decide +kernel, by decide +kernel⟩
theorem kM_X6_wipe : Cond.instanceMethod yX6_wipe ∈ TB := TB_in (List.mem_of_getElem? (i := 404) (by decide +kernel)) rfl
theorem kE_X6_wipe : Cond.selects yX6_wipe.cls yX6_wipe yX6_wipe ∈ TB := TB_in (List.mem_of_getElem? (i := 405) (by decide +kernel)) rfl
theorem k0_X6_fault : Lk0 m_X6_fault 0 := ⟨TB_in (List.mem_of_getElem? (i := 410) (by decide +kernel)) rfl, kI_X6, ⟨by decide +kernel, by decide +kernel, by decide +kernel⟩, by decide +kernel, by decide +kernel⟩
theorem kM_X6_fault : Cond.instanceMethod yX6_fault ∈ TB := TB_in (List.mem_of_getElem? (i := 408) (by decide +kernel)) rfl
theorem kE_X6_fault : Cond.selects yX6_fault.cls yX6_fault yX6_fault ∈ TB := TB_in (List.mem_of_getElem? (i := 409) (by decide +kernel)) rfl
theorem k0_X6_lay : Lk0 m_X6_lay 0 := ⟨TB_in (List.mem_of_getElem? (i := 414) (by decide +kernel)) rfl, kI_X6, ⟨by decide +kernel, by decide +kernel, by decide +kernel⟩, by decide +kernel, by decide +kernel⟩
theorem kM_X6_lay : Cond.instanceMethod yX6_lay ∈ TB := TB_in (List.mem_of_getElem? (i := 412) (by decide +kernel)) rfl
theorem kE_X6_lay : Cond.selects yX6_lay.cls yX6_lay yX6_lay ∈ TB := TB_in (List.mem_of_getElem? (i := 413) (by decide +kernel)) rfl
theorem k0_X6_statement : Lk0 m_X6_statement 2 := ⟨TB_in (List.mem_of_getElem? (i := 433) (by decide +kernel)) rfl, kI_X6, ⟨by decide +kernel, by decide +kernel, by decide +kernel⟩, by decide +kernel, by decide +kernel⟩
theorem kM_X6_statement : Cond.instanceMethod yX6_statement ∈ TB := TB_in (List.mem_of_getElem? (i := 431) (by decide +kernel)) rfl
theorem kE_X6_statement : Cond.selects yX6_statement.cls yX6_statement yX6_statement ∈ TB := TB_in (List.mem_of_getElem? (i := 432) (by decide +kernel)) rfl
theorem k0_X6_argue : Lk0 m_X6_argue 1 := ⟨TB_in (List.mem_of_getElem? (i := 450) (by decide +kernel)) rfl, kI_X6, ⟨by decide +kernel, by decide +kernel, by decide +kernel⟩, by decide +kernel, by decide +kernel⟩
theorem kM_X6_argue : Cond.instanceMethod yX6_argue ∈ TB := TB_in (List.mem_of_getElem? (i := 448) (by decide +kernel)) rfl
theorem kE_X6_argue : Cond.selects yX6_argue.cls yX6_argue yX6_argue ∈ TB := TB_in (List.mem_of_getElem? (i := 449) (by decide +kernel)) rfl
theorem k0_X6_drop : Lk0 m_X6_drop 0 := ⟨TB_in (List.mem_of_getElem? (i := 488) (by decide +kernel)) rfl, kI_X6, ⟨by decide +kernel, by decide +kernel, by decide +kernel⟩, by decide +kernel, by decide +kernel⟩
theorem kM_X6_drop : Cond.instanceMethod yX6_drop ∈ TB := TB_in (List.mem_of_getElem? (i := 486) (by decide +kernel)) rfl
theorem kE_X6_drop : Cond.selects yX6_drop.cls yX6_drop yX6_drop ∈ TB := TB_in (List.mem_of_getElem? (i := 487) (by decide +kernel)) rfl
theorem k0_X6_strike : Lk0 m_X6_strike 1 := ⟨TB_in (List.mem_of_getElem? (i := 492) (by decide +kernel)) rfl, kI_X6, ⟨by decide +kernel, by decide +kernel, by decide +kernel⟩, by decide +kernel, by decide +kernel⟩
theorem kM_X6_strike : Cond.instanceMethod yX6_strike ∈ TB := TB_in (List.mem_of_getElem? (i := 490) (by decide +kernel)) rfl
theorem kE_X6_strike : Cond.selects yX6_strike.cls yX6_strike yX6_strike ∈ TB := TB_in (List.mem_of_getElem? (i := 491) (by decide +kernel)) rfl
theorem k0_X6_undo : Lk0 m_X6_undo 0 := ⟨TB_in (List.mem_of_getElem? (i := 498) (by decide +kernel)) rfl, kI_X6, ⟨by decide +kernel, by decide +kernel, by decide +kernel⟩, by decide +kernel, by decide +kernel⟩
theorem kM_X6_undo : Cond.instanceMethod yX6_undo ∈ TB := TB_in (List.mem_of_getElem? (i := 496) (by decide +kernel)) rfl
theorem kE_X6_undo : Cond.selects yX6_undo.cls yX6_undo yX6_undo ∈ TB := TB_in (List.mem_of_getElem? (i := 497) (by decide +kernel)) rfl
theorem k0_X6_argued : Lk0 m_X6_argued 1 := ⟨TB_in (List.mem_of_getElem? (i := 506) (by decide +kernel)) rfl, kI_X6, ⟨by decide +kernel, by decide +kernel, by decide +kernel⟩, by decide +kernel, by decide +kernel⟩
theorem kM_X6_argued : Cond.instanceMethod yX6_argued ∈ TB := TB_in (List.mem_of_getElem? (i := 504) (by decide +kernel)) rfl
theorem kE_X6_argued : Cond.selects yX6_argued.cls yX6_argued yX6_argued ∈ TB := TB_in (List.mem_of_getElem? (i := 505) (by decide +kernel)) rfl
theorem k0_X6_next : Lk0 m_X6_next 0 := ⟨TB_in (List.mem_of_getElem? (i := 510) (by decide +kernel)) rfl, kI_X6, ⟨by decide +kernel, by decide +kernel, by decide +kernel⟩, by decide +kernel, by decide +kernel⟩
theorem kM_X6_next : Cond.instanceMethod yX6_next ∈ TB := TB_in (List.mem_of_getElem? (i := 508) (by decide +kernel)) rfl
theorem kE_X6_next : Cond.selects yX6_next.cls yX6_next yX6_next ∈ TB := TB_in (List.mem_of_getElem? (i := 509) (by decide +kernel)) rfl
theorem k0_X6_trial : Lk0 m_X6_trial 1 := ⟨TB_in (List.mem_of_getElem? (i := 514) (by decide +kernel)) rfl, kI_X6, ⟨by decide +kernel, by decide +kernel, by decide +kernel⟩, by decide +kernel, by decide +kernel⟩
theorem kM_X6_trial : Cond.instanceMethod yX6_trial ∈ TB := TB_in (List.mem_of_getElem? (i := 512) (by decide +kernel)) rfl
theorem kE_X6_trial : Cond.selects yX6_trial.cls yX6_trial yX6_trial ∈ TB := TB_in (List.mem_of_getElem? (i := 513) (by decide +kernel)) rfl
theorem k0_X6_chains : Lk0 m_X6_chains 1 := ⟨TB_in (List.mem_of_getElem? (i := 533) (by decide +kernel)) rfl, kI_X6, ⟨by decide +kernel, by decide +kernel, by decide +kernel⟩, by decide +kernel, by decide +kernel⟩
theorem kM_X6_chains : Cond.instanceMethod yX6_chains ∈ TB := TB_in (List.mem_of_getElem? (i := 531) (by decide +kernel)) rfl
theorem kE_X6_chains : Cond.selects yX6_chains.cls yX6_chains yX6_chains ∈ TB := TB_in (List.mem_of_getElem? (i := 532) (by decide +kernel)) rfl
theorem k0_X6_shortest : Lk0 m_X6_shortest 2 := ⟨TB_in (List.mem_of_getElem? (i := 561) (by decide +kernel)) rfl, kI_X6, ⟨by decide +kernel, by decide +kernel, by decide +kernel⟩, by decide +kernel, by decide +kernel⟩
theorem kM_X6_shortest : Cond.instanceMethod yX6_shortest ∈ TB := TB_in (List.mem_of_getElem? (i := 559) (by decide +kernel)) rfl
theorem kE_X6_shortest : Cond.selects yX6_shortest.cls yX6_shortest yX6_shortest ∈ TB := TB_in (List.mem_of_getElem? (i := 560) (by decide +kernel)) rfl
theorem k0_X6_nights : Lk0 m_X6_nights 1 := ⟨TB_in (List.mem_of_getElem? (i := 565) (by decide +kernel)) rfl, kI_X6, ⟨by decide +kernel, by decide +kernel, by decide +kernel⟩, by decide +kernel, by decide +kernel⟩
theorem kM_X6_nights : Cond.instanceMethod yX6_nights ∈ TB := TB_in (List.mem_of_getElem? (i := 563) (by decide +kernel)) rfl
theorem kE_X6_nights : Cond.selects yX6_nights.cls yX6_nights yX6_nights ∈ TB := TB_in (List.mem_of_getElem? (i := 564) (by decide +kernel)) rfl
theorem k0_X6_needed : Lk0 m_X6_needed 1 := ⟨TB_in (List.mem_of_getElem? (i := 569) (by decide +kernel)) rfl, kI_X6, ⟨by decide +kernel, by decide +kernel, by decide +kernel⟩, by decide +kernel, by decide +kernel⟩
theorem kM_X6_needed : Cond.instanceMethod yX6_needed ∈ TB := TB_in (List.mem_of_getElem? (i := 567) (by decide +kernel)) rfl
theorem kE_X6_needed : Cond.selects yX6_needed.cls yX6_needed yX6_needed ∈ TB := TB_in (List.mem_of_getElem? (i := 568) (by decide +kernel)) rfl
theorem k0_X6_forgotten : Lk0 m_X6_forgotten 0 := ⟨TB_in (List.mem_of_getElem? (i := 573) (by decide +kernel)) rfl, kI_X6, ⟨by decide +kernel, by decide +kernel, by decide +kernel⟩, by decide +kernel, by decide +kernel⟩
theorem kM_X6_forgotten : Cond.instanceMethod yX6_forgotten ∈ TB := TB_in (List.mem_of_getElem? (i := 571) (by decide +kernel)) rfl
theorem kE_X6_forgotten : Cond.selects yX6_forgotten.cls yX6_forgotten yX6_forgotten ∈ TB := TB_in (List.mem_of_getElem? (i := 572) (by decide +kernel)) rfl
theorem k0_X6_both : Lk0 m_X6_both 3 := ⟨TB_in (List.mem_of_getElem? (i := 581) (by decide +kernel)) rfl, kI_X6, ⟨by decide +kernel, by decide +kernel, by decide +kernel⟩, by decide +kernel, by decide +kernel⟩
theorem kM_X6_both : Cond.instanceMethod yX6_both ∈ TB := TB_in (List.mem_of_getElem? (i := 579) (by decide +kernel)) rfl
theorem kE_X6_both : Cond.selects yX6_both.cls yX6_both yX6_both ∈ TB := TB_in (List.mem_of_getElem? (i := 580) (by decide +kernel)) rfl
theorem k0_X6_byTurns : Lk0 m_X6_byTurns 2 := ⟨TB_in (List.mem_of_getElem? (i := 585) (by decide +kernel)) rfl, kI_X6, ⟨by decide +kernel, by decide +kernel, by decide +kernel⟩, by decide +kernel, by decide +kernel⟩
theorem kM_X6_byTurns : Cond.instanceMethod yX6_byTurns ∈ TB := TB_in (List.mem_of_getElem? (i := 583) (by decide +kernel)) rfl
theorem kE_X6_byTurns : Cond.selects yX6_byTurns.cls yX6_byTurns yX6_byTurns ∈ TB := TB_in (List.mem_of_getElem? (i := 584) (by decide +kernel)) rfl
theorem k0_X6_days : Lk0 m_X6_days 1 := ⟨TB_in (List.mem_of_getElem? (i := 602) (by decide +kernel)) rfl, kI_X6, ⟨by decide +kernel, by decide +kernel, by decide +kernel⟩, by decide +kernel, by decide +kernel⟩
theorem kM_X6_days : Cond.instanceMethod yX6_days ∈ TB := TB_in (List.mem_of_getElem? (i := 600) (by decide +kernel)) rfl
theorem kE_X6_days : Cond.selects yX6_days.cls yX6_days yX6_days ∈ TB := TB_in (List.mem_of_getElem? (i := 601) (by decide +kernel)) rfl
theorem k0_X6_who : Lk0 m_X6_who 1 := ⟨TB_in (List.mem_of_getElem? (i := 606) (by decide +kernel)) rfl, kI_X6, ⟨by decide +kernel, by decide +kernel, by decide +kernel⟩, by decide +kernel, by decide +kernel⟩
theorem kM_X6_who : Cond.instanceMethod yX6_who ∈ TB := TB_in (List.mem_of_getElem? (i := 604) (by decide +kernel)) rfl
theorem kE_X6_who : Cond.selects yX6_who.cls yX6_who yX6_who ∈ TB := TB_in (List.mem_of_getElem? (i := 605) (by decide +kernel)) rfl
theorem k0_X6_fits : Lk0 m_X6_fits 1 := ⟨TB_in (List.mem_of_getElem? (i := 610) (by decide +kernel)) rfl, kI_X6, ⟨by decide +kernel, by decide +kernel, by decide +kernel⟩, by decide +kernel, by decide +kernel⟩
theorem kM_X6_fits : Cond.instanceMethod yX6_fits ∈ TB := TB_in (List.mem_of_getElem? (i := 608) (by decide +kernel)) rfl
theorem kE_X6_fits : Cond.selects yX6_fits.cls yX6_fits yX6_fits ∈ TB := TB_in (List.mem_of_getElem? (i := 609) (by decide +kernel)) rfl
theorem k0_X6_look : Lk0 m_X6_look 2 := ⟨TB_in (List.mem_of_getElem? (i := 618) (by decide +kernel)) rfl, kI_X6, ⟨by decide +kernel, by decide +kernel, by decide +kernel⟩, by decide +kernel, by decide +kernel⟩
theorem kM_X6_look : Cond.instanceMethod yX6_look ∈ TB := TB_in (List.mem_of_getElem? (i := 616) (by decide +kernel)) rfl
theorem kE_X6_look : Cond.selects yX6_look.cls yX6_look yX6_look ∈ TB := TB_in (List.mem_of_getElem? (i := 617) (by decide +kernel)) rfl
theorem k0_X6_laid : Lk0 m_X6_laid 2 := ⟨TB_in (List.mem_of_getElem? (i := 628) (by decide +kernel)) rfl, kI_X6, ⟨by decide +kernel, by decide +kernel, by decide +kernel⟩, by decide +kernel, by decide +kernel⟩
theorem kM_X6_laid : Cond.instanceMethod yX6_laid ∈ TB := TB_in (List.mem_of_getElem? (i := 626) (by decide +kernel)) rfl
theorem kE_X6_laid : Cond.selects yX6_laid.cls yX6_laid yX6_laid ∈ TB := TB_in (List.mem_of_getElem? (i := 627) (by decide +kernel)) rfl
theorem k0_X6_odds : Lk0 m_X6_odds 3 := ⟨TB_in (List.mem_of_getElem? (i := 633) (by decide +kernel)) rfl, kI_X6, ⟨by decide +kernel, by decide +kernel, by decide +kernel⟩, by decide +kernel, by decide +kernel⟩
theorem kM_X6_odds : Cond.instanceMethod yX6_odds ∈ TB := TB_in (List.mem_of_getElem? (i := 631) (by decide +kernel)) rfl
theorem kE_X6_odds : Cond.selects yX6_odds.cls yX6_odds yX6_odds ∈ TB := TB_in (List.mem_of_getElem? (i := 632) (by decide +kernel)) rfl
theorem k0_X6_trialBy : Lk0 m_X6_trialBy 3 := ⟨TB_in (List.mem_of_getElem? (i := 642) (by decide +kernel)) rfl, kI_X6, ⟨by decide +kernel, by decide +kernel, by decide +kernel⟩, by decide +kernel, by decide +kernel⟩
theorem kM_X6_trialBy : Cond.instanceMethod yX6_trialBy ∈ TB := TB_in (List.mem_of_getElem? (i := 640) (by decide +kernel)) rfl
theorem kE_X6_trialBy : Cond.selects yX6_trialBy.cls yX6_trialBy yX6_trialBy ∈ TB := TB_in (List.mem_of_getElem? (i := 641) (by decide +kernel)) rfl
theorem k0_X6_keep : Lk0 m_X6_keep 0 := ⟨TB_in (List.mem_of_getElem? (i := 656) (by decide +kernel)) rfl, kI_X6, ⟨by decide +kernel, by decide +kernel, by decide +kernel⟩, by decide +kernel, by decide +kernel⟩
theorem kM_X6_keep : Cond.instanceMethod yX6_keep ∈ TB := TB_in (List.mem_of_getElem? (i := 654) (by decide +kernel)) rfl
theorem kE_X6_keep : Cond.selects yX6_keep.cls yX6_keep yX6_keep ∈ TB := TB_in (List.mem_of_getElem? (i := 655) (by decide +kernel)) rfl
theorem k0_X6_back : Lk0 m_X6_back 0 := ⟨TB_in (List.mem_of_getElem? (i := 660) (by decide +kernel)) rfl, kI_X6, ⟨by decide +kernel, by decide +kernel, by decide +kernel⟩, by decide +kernel, by decide +kernel⟩
theorem kM_X6_back : Cond.instanceMethod yX6_back ∈ TB := TB_in (List.mem_of_getElem? (i := 658) (by decide +kernel)) rfl
theorem kE_X6_back : Cond.selects yX6_back.cls yX6_back yX6_back ∈ TB := TB_in (List.mem_of_getElem? (i := 659) (by decide +kernel)) rfl
theorem k0_X6_count : Lk0 m_X6_count 1 := ⟨TB_in (List.mem_of_getElem? (i := 664) (by decide +kernel)) rfl, kI_X6, ⟨by decide +kernel, by decide +kernel, by decide +kernel⟩, by decide +kernel, by decide +kernel⟩
theorem kM_X6_count : Cond.instanceMethod yX6_count ∈ TB := TB_in (List.mem_of_getElem? (i := 662) (by decide +kernel)) rfl
theorem kE_X6_count : Cond.selects yX6_count.cls yX6_count yX6_count ∈ TB := TB_in (List.mem_of_getElem? (i := 663) (by decide +kernel)) rfl
theorem k0_X6_fittingPeople : Lk0 m_X6_fittingPeople 1 := ⟨TB_in (List.mem_of_getElem? (i := 614) (by decide +kernel)) rfl, kI_X6, ⟨by decide +kernel, by decide +kernel, by decide +kernel⟩, by decide +kernel, by decide +kernel⟩
theorem kM_X6_fittingPeople : Cond.instanceMethod yX6_fittingPeople ∈ TB := TB_in (List.mem_of_getElem? (i := 613) (by decide +kernel)) rfl
theorem kE_X6_fittingPeople : Cond.selects yX6_fittingPeople.cls yX6_fittingPeople yX6_fittingPeople ∈ TB := TB_in (List.mem_of_getElem? (i := 34) (by decide +kernel)) rfl
theorem k0_X6_winningOpening : Lk0 m_X6_winningOpening 1 := ⟨TB_in (List.mem_of_getElem? (i := 589) (by decide +kernel)) rfl, kI_X6, ⟨by decide +kernel, by decide +kernel, by decide +kernel⟩, by decide +kernel, by decide +kernel⟩
theorem kM_X6_winningOpening : Cond.instanceMethod yX6_winningOpening ∈ TB := TB_in (List.mem_of_getElem? (i := 588) (by decide +kernel)) rfl
theorem kE_X6_winningOpening : Cond.selects yX6_winningOpening.cls yX6_winningOpening yX6_winningOpening ∈ TB := TB_in (List.mem_of_getElem? (i := 32) (by decide +kernel)) rfl
theorem k0_X6_isWon : Lk0 m_X6_isWon 5 := ⟨TB_in (List.mem_of_getElem? (i := 593) (by decide +kernel)) rfl, kI_X6, ⟨by decide +kernel, by decide +kernel, by decide +kernel⟩, by decide +kernel, by decide +kernel⟩
theorem kS_X6_isWon : Cond.static yX6_isWon ∈ TB := TB_in (List.mem_of_getElem? (i := 592) (by decide +kernel)) rfl
theorem k0_X6_openBehind : Lk0 m_X6_openBehind 4 := ⟨TB_in (List.mem_of_getElem? (i := 463) (by decide +kernel)) rfl, kI_X6, ⟨by decide +kernel, by decide +kernel, by decide +kernel⟩, by decide +kernel, by decide +kernel⟩
theorem kS_X6_openBehind : Cond.static yX6_openBehind ∈ TB := TB_in (List.mem_of_getElem? (i := 462) (by decide +kernel)) rfl
theorem k0_X6_draw : Lk0 m_X6_draw 2 := ⟨TB_in (List.mem_of_getElem? (i := 645) (by decide +kernel)) rfl, kI_X6, ⟨by decide +kernel, by decide +kernel, by decide +kernel⟩, by decide +kernel, by decide +kernel⟩
theorem kS_X6_draw : Cond.static yX6_draw ∈ TB := TB_in (List.mem_of_getElem? (i := 644) (by decide +kernel)) rfl
theorem k0_X6_bitByRank : Lk0 m_X6_bitByRank 2 := ⟨TB_in (List.mem_of_getElem? (i := 652) (by decide +kernel)) rfl, kI_X6, ⟨by decide +kernel, by decide +kernel, by decide +kernel⟩, by decide +kernel, by decide +kernel⟩
theorem kS_X6_bitByRank : Cond.static yX6_bitByRank ∈ TB := TB_in (List.mem_of_getElem? (i := 651) (by decide +kernel)) rfl
theorem k0_X6_commonDivisor : Lk0 m_X6_commonDivisor 2 := ⟨TB_in (List.mem_of_getElem? (i := 636) (by decide +kernel)) rfl, kI_X6, ⟨by decide +kernel, by decide +kernel, by decide +kernel⟩, by decide +kernel, by decide +kernel⟩
theorem kS_X6_commonDivisor : Cond.static yX6_commonDivisor ∈ TB := TB_in (List.mem_of_getElem? (i := 635) (by decide +kernel)) rfl
theorem k0_X6_outside : Lk0 m_X6_outside 3 := ⟨TB_in (List.mem_of_getElem? (i := 338) (by decide +kernel)) rfl, kI_X6, ⟨by decide +kernel, by decide +kernel, by decide +kernel⟩, by decide +kernel, by decide +kernel⟩
theorem kS_X6_outside : Cond.static yX6_outside ∈ TB := TB_in (List.mem_of_getElem? (i := 337) (by decide +kernel)) rfl
theorem k0_X6_asNumber : Lk0 m_X6_asNumber 1 := ⟨TB_in (List.mem_of_getElem? (i := 445) (by decide +kernel)) rfl, kI_X6, ⟨by decide +kernel, by decide +kernel, by decide +kernel⟩, by decide +kernel, by decide +kernel⟩
theorem kS_X6_asNumber : Cond.static yX6_asNumber ∈ TB := TB_in (List.mem_of_getElem? (i := 444) (by decide +kernel)) rfl
theorem k0_X6_bit : Lk0 m_X6_bit 1 := ⟨TB_in (List.mem_of_getElem? (i := 355) (by decide +kernel)) rfl, kI_X6, ⟨by decide +kernel, by decide +kernel, by decide +kernel⟩, by decide +kernel, by decide +kernel⟩
theorem kS_X6_bit : Cond.static yX6_bit ∈ TB := TB_in (List.mem_of_getElem? (i := 354) (by decide +kernel)) rfl
theorem k0_X6_has : Lk0 m_X6_has 2 := ⟨TB_in (List.mem_of_getElem? (i := 442) (by decide +kernel)) rfl, kI_X6, ⟨by decide +kernel, by decide +kernel, by decide +kernel⟩, by decide +kernel, by decide +kernel⟩
theorem kS_X6_has : Cond.static yX6_has ∈ TB := TB_in (List.mem_of_getElem? (i := 441) (by decide +kernel)) rfl
theorem k0_X6_at : Lk0 m_X6_at 2 := ⟨TB_in (List.mem_of_getElem? (i := 319) (by decide +kernel)) rfl, kI_X6, ⟨by decide +kernel, by decide +kernel, by decide +kernel⟩, by decide +kernel, by decide +kernel⟩
theorem kS_X6_at : Cond.static yX6_at ∈ TB := TB_in (List.mem_of_getElem? (i := 318) (by decide +kernel)) rfl
theorem k0_X6_put : Lk0 m_X6_put 3 := ⟨TB_in (List.mem_of_getElem? (i := 297) (by decide +kernel)) rfl, kI_X6, ⟨by decide +kernel, by decide +kernel, by decide +kernel⟩, by decide +kernel, by decide +kernel⟩
theorem kS_X6_put : Cond.static yX6_put ∈ TB := TB_in (List.mem_of_getElem? (i := 296) (by decide +kernel)) rfl
theorem k0_X7_init : Lk0 m_X7_init 0 := ⟨TB_in (List.mem_of_getElem? (i := 669) (by decide +kernel)) rfl, kI_X7, ⟨by decide +kernel, by decide +kernel, by decide +kernel⟩, by decide +kernel, by decide +kernel⟩
theorem kM_X7_init : Cond.instanceMethod yX7_init ∈ TB := TB_in (List.mem_of_getElem? (i := 668) (by decide +kernel)) rfl
theorem k0_X7_firstOf : Lk0 m_X7_firstOf 3 := ⟨TB_in (List.mem_of_getElem? (i := 674) (by decide +kernel)) rfl, kI_X7, ⟨by decide +kernel, by decide +kernel, by decide +kernel⟩, by decide +kernel, by decide +kernel⟩
theorem kM_X7_firstOf : Cond.instanceMethod yX7_firstOf ∈ TB := TB_in (List.mem_of_getElem? (i := 673) (by decide +kernel)) rfl
theorem kE_X7_firstOf : Cond.selects yX7_firstOf.cls yX7_firstOf yX7_firstOf ∈ TB := TB_in (List.mem_of_getElem? (i := 35) (by decide +kernel)) rfl
theorem k0_X7_firstPerson : Lk0 m_X7_firstPerson 2 := ⟨TB_in (List.mem_of_getElem? (i := 678) (by decide +kernel)) rfl, kI_X7, ⟨by decide +kernel, by decide +kernel, by decide +kernel⟩, by decide +kernel, by decide +kernel⟩
theorem kM_X7_firstPerson : Cond.instanceMethod yX7_firstPerson ∈ TB := TB_in (List.mem_of_getElem? (i := 677) (by decide +kernel)) rfl
theorem kE_X7_firstPerson : Cond.selects yX7_firstPerson.cls yX7_firstPerson yX7_firstPerson ∈ TB := TB_in (List.mem_of_getElem? (i := 36) (by decide +kernel)) rfl
theorem k0_X7_in : Lk0 m_X7_in 3 := ⟨TB_in (List.mem_of_getElem? (i := 768) (by decide +kernel)) rfl, kI_X7, ⟨by decide +kernel, by decide +kernel, by decide +kernel⟩, by decide +kernel, by decide +kernel⟩
theorem kS_X7_in : Cond.static yX7_in ∈ TB := TB_in (List.mem_of_getElem? (i := 767) (by decide +kernel)) rfl
theorem k0_X7_write : Lk0 m_X7_write 1 := ⟨TB_in (List.mem_of_getElem? (i := 765) (by decide +kernel)) rfl, kI_X7, ⟨by decide +kernel, by decide +kernel, by decide +kernel⟩, by decide +kernel, by decide +kernel⟩
theorem kM_X7_write : Cond.instanceMethod yX7_write ∈ TB := TB_in (List.mem_of_getElem? (i := 763) (by decide +kernel)) rfl
theorem kE_X7_write : Cond.selects yX7_write.cls yX7_write yX7_write ∈ TB := TB_in (List.mem_of_getElem? (i := 764) (by decide +kernel)) rfl
theorem k0_X7_wipe : Lk0 m_X7_wipe 0 := ⟨TB_in (List.mem_of_getElem? (i := 772) (by decide +kernel)) rfl, kI_X7, ⟨by decide +kernel, by decide +kernel, by decide +kernel⟩, by decide +kernel, by decide +kernel⟩
theorem kM_X7_wipe : Cond.instanceMethod yX7_wipe ∈ TB := TB_in (List.mem_of_getElem? (i := 770) (by decide +kernel)) rfl
theorem kE_X7_wipe : Cond.selects yX7_wipe.cls yX7_wipe yX7_wipe ∈ TB := TB_in (List.mem_of_getElem? (i := 771) (by decide +kernel)) rfl
theorem k0_X7_here : Lk0 m_X7_here 0 := ⟨TB_in (List.mem_of_getElem? (i := 784) (by decide +kernel)) rfl, kI_X7, ⟨by decide +kernel, by decide +kernel, by decide +kernel⟩, by decide +kernel, by decide +kernel⟩
theorem kM_X7_here : Cond.instanceMethod yX7_here ∈ TB := TB_in (List.mem_of_getElem? (i := 783) (by decide +kernel)) rfl
theorem kE_X7_here : Cond.selects yX7_here.cls yX7_here yX7_here ∈ TB := TB_in (List.mem_of_getElem? (i := 39) (by decide +kernel)) rfl
theorem k0_X7_number : Lk0 m_X7_number 3 := ⟨TB_in (List.mem_of_getElem? (i := 788) (by decide +kernel)) rfl, kI_X7, ⟨by decide +kernel, by decide +kernel, by decide +kernel⟩, by decide +kernel, by decide +kernel⟩
theorem kM_X7_number : Cond.instanceMethod yX7_number ∈ TB := TB_in (List.mem_of_getElem? (i := 787) (by decide +kernel)) rfl
theorem kE_X7_number : Cond.selects yX7_number.cls yX7_number yX7_number ∈ TB := TB_in (List.mem_of_getElem? (i := 40) (by decide +kernel)) rfl
theorem k0_X7_statementAt : Lk0 m_X7_statementAt 1 := ⟨TB_in (List.mem_of_getElem? (i := 792) (by decide +kernel)) rfl, kI_X7, ⟨by decide +kernel, by decide +kernel, by decide +kernel⟩, by decide +kernel, by decide +kernel⟩
theorem kM_X7_statementAt : Cond.instanceMethod yX7_statementAt ∈ TB := TB_in (List.mem_of_getElem? (i := 791) (by decide +kernel)) rfl
theorem kE_X7_statementAt : Cond.selects yX7_statementAt.cls yX7_statementAt yX7_statementAt ∈ TB := TB_in (List.mem_of_getElem? (i := 41) (by decide +kernel)) rfl
theorem k0_X7_readItem : Lk0 m_X7_readItem 0 := ⟨TB_in (List.mem_of_getElem? (i := 780) (by decide +kernel)) rfl, kI_X7, ⟨by decide +kernel, by decide +kernel, by decide +kernel⟩, by decide +kernel, by decide +kernel⟩
theorem kM_X7_readItem : Cond.instanceMethod yX7_readItem ∈ TB := TB_in (List.mem_of_getElem? (i := 779) (by decide +kernel)) rfl
theorem kE_X7_readItem : Cond.selects yX7_readItem.cls yX7_readItem yX7_readItem ∈ TB := TB_in (List.mem_of_getElem? (i := 38) (by decide +kernel)) rfl
theorem k0_X7_fault : Lk0 m_X7_fault 0 := ⟨TB_in (List.mem_of_getElem? (i := 776) (by decide +kernel)) rfl, kI_X7, ⟨by decide +kernel, by decide +kernel, by decide +kernel⟩, by decide +kernel, by decide +kernel⟩
theorem kM_X7_fault : Cond.instanceMethod yX7_fault ∈ TB := TB_in (List.mem_of_getElem? (i := 774) (by decide +kernel)) rfl
theorem kE_X7_fault : Cond.selects yX7_fault.cls yX7_fault yX7_fault ∈ TB := TB_in (List.mem_of_getElem? (i := 775) (by decide +kernel)) rfl
theorem k0_X7_takeDraft : Lk0 m_X7_takeDraft 0 := ⟨TB_in (List.mem_of_getElem? (i := 682) (by decide +kernel)) rfl, kI_X7, ⟨by decide +kernel, by decide +kernel, by decide +kernel⟩, by decide +kernel, by decide +kernel⟩
theorem kM_X7_takeDraft : Cond.instanceMethod yX7_takeDraft ∈ TB := TB_in (List.mem_of_getElem? (i := 681) (by decide +kernel)) rfl
theorem kE_X7_takeDraft : Cond.selects yX7_takeDraft.cls yX7_takeDraft yX7_takeDraft ∈ TB := TB_in (List.mem_of_getElem? (i := 37) (by decide +kernel)) rfl
theorem k0_X7_lay : Lk0 m_X7_lay 0 := ⟨TB_in (List.mem_of_getElem? (i := 796) (by decide +kernel)) rfl, kI_X7, ⟨by decide +kernel, by decide +kernel, by decide +kernel⟩, by decide +kernel, by decide +kernel⟩
theorem kM_X7_lay : Cond.instanceMethod yX7_lay ∈ TB := TB_in (List.mem_of_getElem? (i := 794) (by decide +kernel)) rfl
theorem kE_X7_lay : Cond.selects yX7_lay.cls yX7_lay yX7_lay ∈ TB := TB_in (List.mem_of_getElem? (i := 795) (by decide +kernel)) rfl
theorem k0_X7_copy : Lk0 m_X7_copy 2 := ⟨TB_in (List.mem_of_getElem? (i := 830) (by decide +kernel)) rfl, kI_X7, ⟨by decide +kernel, by decide +kernel, by decide +kernel⟩, by decide +kernel, by decide +kernel⟩
theorem kM_X7_copy : Cond.instanceMethod yX7_copy ∈ TB := TB_in (List.mem_of_getElem? (i := 829) (by decide +kernel)) rfl
theorem kE_X7_copy : Cond.selects yX7_copy.cls yX7_copy yX7_copy ∈ TB := TB_in (List.mem_of_getElem? (i := 46) (by decide +kernel)) rfl
theorem k0_X7_know : Lk0 m_X7_know 0 := ⟨TB_in (List.mem_of_getElem? (i := 826) (by decide +kernel)) rfl, kI_X7, ⟨by decide +kernel, by decide +kernel, by decide +kernel⟩, by decide +kernel, by decide +kernel⟩
theorem kM_X7_know : Cond.instanceMethod yX7_know ∈ TB := TB_in (List.mem_of_getElem? (i := 825) (by decide +kernel)) rfl
theorem kE_X7_know : Cond.selects yX7_know.cls yX7_know yX7_know ∈ TB := TB_in (List.mem_of_getElem? (i := 45) (by decide +kernel)) rfl
theorem k0_X7_isStatement : Lk0 m_X7_isStatement 1 := ⟨TB_in (List.mem_of_getElem? (i := 805) (by decide +kernel)) rfl, kI_X7, ⟨by decide +kernel, by decide +kernel, by decide +kernel⟩, by decide +kernel, by decide +kernel⟩
theorem kM_X7_isStatement : Cond.instanceMethod yX7_isStatement ∈ TB := TB_in (List.mem_of_getElem? (i := 804) (by decide +kernel)) rfl
theorem kE_X7_isStatement : Cond.selects yX7_isStatement.cls yX7_isStatement yX7_isStatement ∈ TB := TB_in (List.mem_of_getElem? (i := 42) (by decide +kernel)) rfl
theorem k0_X7_isVerdict : Lk0 m_X7_isVerdict 1 := ⟨TB_in (List.mem_of_getElem? (i := 862) (by decide +kernel)) rfl, kI_X7, ⟨by decide +kernel, by decide +kernel, by decide +kernel⟩, by decide +kernel, by decide +kernel⟩
theorem kM_X7_isVerdict : Cond.instanceMethod yX7_isVerdict ∈ TB := TB_in (List.mem_of_getElem? (i := 861) (by decide +kernel)) rfl
theorem kE_X7_isVerdict : Cond.selects yX7_isVerdict.cls yX7_isVerdict yX7_isVerdict ∈ TB := TB_in (List.mem_of_getElem? (i := 48) (by decide +kernel)) rfl
theorem k0_X7_isStruck : Lk0 m_X7_isStruck 1 := ⟨TB_in (List.mem_of_getElem? (i := 890) (by decide +kernel)) rfl, kI_X7, ⟨by decide +kernel, by decide +kernel, by decide +kernel⟩, by decide +kernel, by decide +kernel⟩
theorem kM_X7_isStruck : Cond.instanceMethod yX7_isStruck ∈ TB := TB_in (List.mem_of_getElem? (i := 889) (by decide +kernel)) rfl
theorem kE_X7_isStruck : Cond.selects yX7_isStruck.cls yX7_isStruck yX7_isStruck ∈ TB := TB_in (List.mem_of_getElem? (i := 54) (by decide +kernel)) rfl
theorem k0_X7_statement : Lk0 m_X7_statement 2 := ⟨TB_in (List.mem_of_getElem? (i := 801) (by decide +kernel)) rfl, kI_X7, ⟨by decide +kernel, by decide +kernel, by decide +kernel⟩, by decide +kernel, by decide +kernel⟩
theorem kM_X7_statement : Cond.instanceMethod yX7_statement ∈ TB := TB_in (List.mem_of_getElem? (i := 799) (by decide +kernel)) rfl
theorem kE_X7_statement : Cond.selects yX7_statement.cls yX7_statement yX7_statement ∈ TB := TB_in (List.mem_of_getElem? (i := 800) (by decide +kernel)) rfl
theorem k0_X7_behind : Lk0 m_X7_behind 2 := ⟨TB_in (List.mem_of_getElem? (i := 817) (by decide +kernel)) rfl, kI_X7, ⟨by decide +kernel, by decide +kernel, by decide +kernel⟩, by decide +kernel, by decide +kernel⟩
theorem kM_X7_behind : Cond.instanceMethod yX7_behind ∈ TB := TB_in (List.mem_of_getElem? (i := 816) (by decide +kernel)) rfl
theorem kE_X7_behind : Cond.selects yX7_behind.cls yX7_behind yX7_behind ∈ TB := TB_in (List.mem_of_getElem? (i := 44) (by decide +kernel)) rfl
theorem k0_X7_said : Lk0 m_X7_said 0 := ⟨TB_in (List.mem_of_getElem? (i := 813) (by decide +kernel)) rfl, kI_X7, ⟨by decide +kernel, by decide +kernel, by decide +kernel⟩, by decide +kernel, by decide +kernel⟩
theorem kM_X7_said : Cond.instanceMethod yX7_said ∈ TB := TB_in (List.mem_of_getElem? (i := 812) (by decide +kernel)) rfl
theorem kE_X7_said : Cond.selects yX7_said.cls yX7_said yX7_said ∈ TB := TB_in (List.mem_of_getElem? (i := 43) (by decide +kernel)) rfl
theorem k0_X7_next : Lk0 m_X7_next 0 := ⟨TB_in (List.mem_of_getElem? (i := 809) (by decide +kernel)) rfl, kI_X7, ⟨by decide +kernel, by decide +kernel, by decide +kernel⟩, by decide +kernel, by decide +kernel⟩
theorem kM_X7_next : Cond.instanceMethod yX7_next ∈ TB := TB_in (List.mem_of_getElem? (i := 807) (by decide +kernel)) rfl
theorem kE_X7_next : Cond.selects yX7_next.cls yX7_next yX7_next ∈ TB := TB_in (List.mem_of_getElem? (i := 808) (by decide +kernel)) rfl
theorem k0_X7_argue : Lk0 m_X7_argue 1 := ⟨TB_in (List.mem_of_getElem? (i := 821) (by decide +kernel)) rfl, kI_X7, ⟨by decide +kernel, by decide +kernel, by decide +kernel⟩, by decide +kernel, by decide +kernel⟩
theorem kM_X7_argue : Cond.instanceMethod yX7_argue ∈ TB := TB_in (List.mem_of_getElem? (i := 819) (by decide +kernel)) rfl
theorem kE_X7_argue : Cond.selects yX7_argue.cls yX7_argue yX7_argue ∈ TB := TB_in (List.mem_of_getElem? (i := 820) (by decide +kernel)) rfl
theorem k0_X7_drop : Lk0 m_X7_drop 0 := ⟨TB_in (List.mem_of_getElem? (i := 834) (by decide +kernel)) rfl, kI_X7, ⟨by decide +kernel, by decide +kernel, by decide +kernel⟩, by decide +kernel, by decide +kernel⟩
theorem kM_X7_drop : Cond.instanceMethod yX7_drop ∈ TB := TB_in (List.mem_of_getElem? (i := 832) (by decide +kernel)) rfl
theorem kE_X7_drop : Cond.selects yX7_drop.cls yX7_drop yX7_drop ∈ TB := TB_in (List.mem_of_getElem? (i := 833) (by decide +kernel)) rfl
theorem k0_X7_strike : Lk0 m_X7_strike 1 := ⟨TB_in (List.mem_of_getElem? (i := 838) (by decide +kernel)) rfl, kI_X7, ⟨by decide +kernel, by decide +kernel, by decide +kernel⟩, by decide +kernel, by decide +kernel⟩
theorem kM_X7_strike : Cond.instanceMethod yX7_strike ∈ TB := TB_in (List.mem_of_getElem? (i := 836) (by decide +kernel)) rfl
theorem kE_X7_strike : Cond.selects yX7_strike.cls yX7_strike yX7_strike ∈ TB := TB_in (List.mem_of_getElem? (i := 837) (by decide +kernel)) rfl
theorem k0_X7_undo : Lk0 m_X7_undo 0 := ⟨TB_in (List.mem_of_getElem? (i := 842) (by decide +kernel)) rfl, kI_X7, ⟨by decide +kernel, by decide +kernel, by decide +kernel⟩, by decide +kernel, by decide +kernel⟩
theorem kM_X7_undo : Cond.instanceMethod yX7_undo ∈ TB := TB_in (List.mem_of_getElem? (i := 840) (by decide +kernel)) rfl
theorem kE_X7_undo : Cond.selects yX7_undo.cls yX7_undo yX7_undo ∈ TB := TB_in (List.mem_of_getElem? (i := 841) (by decide +kernel)) rfl
theorem k0_X7_argued : Lk0 m_X7_argued 1 := ⟨TB_in (List.mem_of_getElem? (i := 846) (by decide +kernel)) rfl, kI_X7, ⟨by decide +kernel, by decide +kernel, by decide +kernel⟩, by decide +kernel, by decide +kernel⟩
theorem kM_X7_argued : Cond.instanceMethod yX7_argued ∈ TB := TB_in (List.mem_of_getElem? (i := 844) (by decide +kernel)) rfl
theorem kE_X7_argued : Cond.selects yX7_argued.cls yX7_argued yX7_argued ∈ TB := TB_in (List.mem_of_getElem? (i := 845) (by decide +kernel)) rfl
theorem k0_X7_cost : Lk0 m_X7_cost 3 := ⟨TB_in (List.mem_of_getElem? (i := 854) (by decide +kernel)) rfl, kI_X7, ⟨by decide +kernel, by decide +kernel, by decide +kernel⟩, by decide +kernel, by decide +kernel⟩
theorem kM_X7_cost : Cond.instanceMethod yX7_cost ∈ TB := TB_in (List.mem_of_getElem? (i := 853) (by decide +kernel)) rfl
theorem kE_X7_cost : Cond.selects yX7_cost.cls yX7_cost yX7_cost ∈ TB := TB_in (List.mem_of_getElem? (i := 47) (by decide +kernel)) rfl
theorem k0_X7_trial : Lk0 m_X7_trial 1 := ⟨TB_in (List.mem_of_getElem? (i := 850) (by decide +kernel)) rfl, kI_X7, ⟨by decide +kernel, by decide +kernel, by decide +kernel⟩, by decide +kernel, by decide +kernel⟩
theorem kM_X7_trial : Cond.instanceMethod yX7_trial ∈ TB := TB_in (List.mem_of_getElem? (i := 848) (by decide +kernel)) rfl
theorem kE_X7_trial : Cond.selects yX7_trial.cls yX7_trial yX7_trial ∈ TB := TB_in (List.mem_of_getElem? (i := 849) (by decide +kernel)) rfl
theorem k0_X7_manyOf : Lk0 m_X7_manyOf 1 := ⟨TB_in (List.mem_of_getElem? (i := 886) (by decide +kernel)) rfl, kI_X7, ⟨by decide +kernel, by decide +kernel, by decide +kernel⟩, by decide +kernel, by decide +kernel⟩
theorem kS_X7_manyOf : Cond.static yX7_manyOf ∈ TB := TB_in (List.mem_of_getElem? (i := 885) (by decide +kernel)) rfl
theorem k0_X7_couldHave : Lk0 m_X7_couldHave 1 := ⟨TB_in (List.mem_of_getElem? (i := 879) (by decide +kernel)) rfl, kI_X7, ⟨by decide +kernel, by decide +kernel, by decide +kernel⟩, by decide +kernel, by decide +kernel⟩
theorem kM_X7_couldHave : Cond.instanceMethod yX7_couldHave ∈ TB := TB_in (List.mem_of_getElem? (i := 878) (by decide +kernel)) rfl
theorem kE_X7_couldHave : Cond.selects yX7_couldHave.cls yX7_couldHave yX7_couldHave ∈ TB := TB_in (List.mem_of_getElem? (i := 52) (by decide +kernel)) rfl
theorem k0_X7_endAt : Lk0 m_X7_endAt 3 := ⟨TB_in (List.mem_of_getElem? (i := 874) (by decide +kernel)) rfl, kI_X7, ⟨by decide +kernel, by decide +kernel, by decide +kernel⟩, by decide +kernel, by decide +kernel⟩
theorem kM_X7_endAt : Cond.instanceMethod yX7_endAt ∈ TB := TB_in (List.mem_of_getElem? (i := 873) (by decide +kernel)) rfl
theorem kE_X7_endAt : Cond.selects yX7_endAt.cls yX7_endAt yX7_endAt ∈ TB := TB_in (List.mem_of_getElem? (i := 51) (by decide +kernel)) rfl
theorem k0_X7_goOn : Lk0 m_X7_goOn 3 := ⟨TB_in (List.mem_of_getElem? (i := 883) (by decide +kernel)) rfl, kI_X7, ⟨by decide +kernel, by decide +kernel, by decide +kernel⟩, by decide +kernel, by decide +kernel⟩
theorem kM_X7_goOn : Cond.instanceMethod yX7_goOn ∈ TB := TB_in (List.mem_of_getElem? (i := 882) (by decide +kernel)) rfl
theorem kE_X7_goOn : Cond.selects yX7_goOn.cls yX7_goOn yX7_goOn ∈ TB := TB_in (List.mem_of_getElem? (i := 53) (by decide +kernel)) rfl
theorem k0_X7_solve : Lk0 m_X7_solve 1 := ⟨TB_in (List.mem_of_getElem? (i := 870) (by decide +kernel)) rfl, kI_X7, ⟨by decide +kernel, by decide +kernel, by decide +kernel⟩, by decide +kernel, by decide +kernel⟩
theorem kM_X7_solve : Cond.instanceMethod yX7_solve ∈ TB := TB_in (List.mem_of_getElem? (i := 869) (by decide +kernel)) rfl
theorem kE_X7_solve : Cond.selects yX7_solve.cls yX7_solve yX7_solve ∈ TB := TB_in (List.mem_of_getElem? (i := 50) (by decide +kernel)) rfl
theorem k0_X7_rowOf : Lk0 m_X7_rowOf 1 := ⟨TB_in (List.mem_of_getElem? (i := 893) (by decide +kernel)) rfl, kI_X7, ⟨by decide +kernel, by decide +kernel, by decide +kernel⟩, by decide +kernel, by decide +kernel⟩
theorem kS_X7_rowOf : Cond.static yX7_rowOf ∈ TB := TB_in (List.mem_of_getElem? (i := 892) (by decide +kernel)) rfl
theorem k0_X7_hasWhole : Lk0 m_X7_hasWhole 1 := ⟨TB_in (List.mem_of_getElem? (i := 866) (by decide +kernel)) rfl, kI_X7, ⟨by decide +kernel, by decide +kernel, by decide +kernel⟩, by decide +kernel, by decide +kernel⟩
theorem kM_X7_hasWhole : Cond.instanceMethod yX7_hasWhole ∈ TB := TB_in (List.mem_of_getElem? (i := 865) (by decide +kernel)) rfl
theorem kE_X7_hasWhole : Cond.selects yX7_hasWhole.cls yX7_hasWhole yX7_hasWhole ∈ TB := TB_in (List.mem_of_getElem? (i := 49) (by decide +kernel)) rfl
theorem k0_X7_chains : Lk0 m_X7_chains 1 := ⟨TB_in (List.mem_of_getElem? (i := 858) (by decide +kernel)) rfl, kI_X7, ⟨by decide +kernel, by decide +kernel, by decide +kernel⟩, by decide +kernel, by decide +kernel⟩
theorem kM_X7_chains : Cond.instanceMethod yX7_chains ∈ TB := TB_in (List.mem_of_getElem? (i := 856) (by decide +kernel)) rfl
theorem kE_X7_chains : Cond.selects yX7_chains.cls yX7_chains yX7_chains ∈ TB := TB_in (List.mem_of_getElem? (i := 857) (by decide +kernel)) rfl
theorem k0_X7_followFrom : Lk0 m_X7_followFrom 1 := ⟨TB_in (List.mem_of_getElem? (i := 901) (by decide +kernel)) rfl, kI_X7, ⟨by decide +kernel, by decide +kernel, by decide +kernel⟩, by decide +kernel, by decide +kernel⟩
theorem kM_X7_followFrom : Cond.instanceMethod yX7_followFrom ∈ TB := TB_in (List.mem_of_getElem? (i := 900) (by decide +kernel)) rfl
theorem kE_X7_followFrom : Cond.selects yX7_followFrom.cls yX7_followFrom yX7_followFrom ∈ TB := TB_in (List.mem_of_getElem? (i := 55) (by decide +kernel)) rfl
theorem k0_X7_shortest : Lk0 m_X7_shortest 2 := ⟨TB_in (List.mem_of_getElem? (i := 897) (by decide +kernel)) rfl, kI_X7, ⟨by decide +kernel, by decide +kernel, by decide +kernel⟩, by decide +kernel, by decide +kernel⟩
theorem kM_X7_shortest : Cond.instanceMethod yX7_shortest ∈ TB := TB_in (List.mem_of_getElem? (i := 895) (by decide +kernel)) rfl
theorem kE_X7_shortest : Cond.selects yX7_shortest.cls yX7_shortest yX7_shortest ∈ TB := TB_in (List.mem_of_getElem? (i := 896) (by decide +kernel)) rfl
theorem k0_X7_nights : Lk0 m_X7_nights 1 := ⟨TB_in (List.mem_of_getElem? (i := 905) (by decide +kernel)) rfl, kI_X7, ⟨by decide +kernel, by decide +kernel, by decide +kernel⟩, by decide +kernel, by decide +kernel⟩
theorem kM_X7_nights : Cond.instanceMethod yX7_nights ∈ TB := TB_in (List.mem_of_getElem? (i := 903) (by decide +kernel)) rfl
theorem kE_X7_nights : Cond.selects yX7_nights.cls yX7_nights yX7_nights ∈ TB := TB_in (List.mem_of_getElem? (i := 904) (by decide +kernel)) rfl
theorem k0_X7_needed : Lk0 m_X7_needed 1 := ⟨TB_in (List.mem_of_getElem? (i := 909) (by decide +kernel)) rfl, kI_X7, ⟨by decide +kernel, by decide +kernel, by decide +kernel⟩, by decide +kernel, by decide +kernel⟩
theorem kM_X7_needed : Cond.instanceMethod yX7_needed ∈ TB := TB_in (List.mem_of_getElem? (i := 907) (by decide +kernel)) rfl
theorem kE_X7_needed : Cond.selects yX7_needed.cls yX7_needed yX7_needed ∈ TB := TB_in (List.mem_of_getElem? (i := 908) (by decide +kernel)) rfl
theorem k0_X7_forgotten : Lk0 m_X7_forgotten 0 := ⟨TB_in (List.mem_of_getElem? (i := 913) (by decide +kernel)) rfl, kI_X7, ⟨by decide +kernel, by decide +kernel, by decide +kernel⟩, by decide +kernel, by decide +kernel⟩
theorem kM_X7_forgotten : Cond.instanceMethod yX7_forgotten ∈ TB := TB_in (List.mem_of_getElem? (i := 911) (by decide +kernel)) rfl
theorem kE_X7_forgotten : Cond.selects yX7_forgotten.cls yX7_forgotten yX7_forgotten ∈ TB := TB_in (List.mem_of_getElem? (i := 912) (by decide +kernel)) rfl
theorem k0_X7_costTo : Lk0 m_X7_costTo 1 := ⟨TB_in (List.mem_of_getElem? (i := 921) (by decide +kernel)) rfl, kI_X7, ⟨by decide +kernel, by decide +kernel, by decide +kernel⟩, by decide +kernel, by decide +kernel⟩
theorem kM_X7_costTo : Cond.instanceMethod yX7_costTo ∈ TB := TB_in (List.mem_of_getElem? (i := 920) (by decide +kernel)) rfl
theorem kE_X7_costTo : Cond.selects yX7_costTo.cls yX7_costTo yX7_costTo ∈ TB := TB_in (List.mem_of_getElem? (i := 56) (by decide +kernel)) rfl
theorem k0_X7_both : Lk0 m_X7_both 3 := ⟨TB_in (List.mem_of_getElem? (i := 917) (by decide +kernel)) rfl, kI_X7, ⟨by decide +kernel, by decide +kernel, by decide +kernel⟩, by decide +kernel, by decide +kernel⟩
theorem kM_X7_both : Cond.instanceMethod yX7_both ∈ TB := TB_in (List.mem_of_getElem? (i := 915) (by decide +kernel)) rfl
theorem kE_X7_both : Cond.selects yX7_both.cls yX7_both yX7_both ∈ TB := TB_in (List.mem_of_getElem? (i := 916) (by decide +kernel)) rfl
theorem k0_X7_byTurns : Lk0 m_X7_byTurns 2 := ⟨TB_in (List.mem_of_getElem? (i := 925) (by decide +kernel)) rfl, kI_X7, ⟨by decide +kernel, by decide +kernel, by decide +kernel⟩, by decide +kernel, by decide +kernel⟩
theorem kM_X7_byTurns : Cond.instanceMethod yX7_byTurns ∈ TB := TB_in (List.mem_of_getElem? (i := 923) (by decide +kernel)) rfl
theorem kE_X7_byTurns : Cond.selects yX7_byTurns.cls yX7_byTurns yX7_byTurns ∈ TB := TB_in (List.mem_of_getElem? (i := 924) (by decide +kernel)) rfl
theorem k0_X7_days : Lk0 m_X7_days 1 := ⟨TB_in (List.mem_of_getElem? (i := 929) (by decide +kernel)) rfl, kI_X7, ⟨by decide +kernel, by decide +kernel, by decide +kernel⟩, by decide +kernel, by decide +kernel⟩
theorem kM_X7_days : Cond.instanceMethod yX7_days ∈ TB := TB_in (List.mem_of_getElem? (i := 927) (by decide +kernel)) rfl
theorem kE_X7_days : Cond.selects yX7_days.cls yX7_days yX7_days ∈ TB := TB_in (List.mem_of_getElem? (i := 928) (by decide +kernel)) rfl
theorem k0_X7_who : Lk0 m_X7_who 1 := ⟨TB_in (List.mem_of_getElem? (i := 933) (by decide +kernel)) rfl, kI_X7, ⟨by decide +kernel, by decide +kernel, by decide +kernel⟩, by decide +kernel, by decide +kernel⟩
theorem kM_X7_who : Cond.instanceMethod yX7_who ∈ TB := TB_in (List.mem_of_getElem? (i := 931) (by decide +kernel)) rfl
theorem kE_X7_who : Cond.selects yX7_who.cls yX7_who yX7_who ∈ TB := TB_in (List.mem_of_getElem? (i := 932) (by decide +kernel)) rfl
theorem k0_X7_fitting : Lk0 m_X7_fitting 1 := ⟨TB_in (List.mem_of_getElem? (i := 941) (by decide +kernel)) rfl, kI_X7, ⟨by decide +kernel, by decide +kernel, by decide +kernel⟩, by decide +kernel, by decide +kernel⟩
theorem kM_X7_fitting : Cond.instanceMethod yX7_fitting ∈ TB := TB_in (List.mem_of_getElem? (i := 940) (by decide +kernel)) rfl
theorem kE_X7_fitting : Cond.selects yX7_fitting.cls yX7_fitting yX7_fitting ∈ TB := TB_in (List.mem_of_getElem? (i := 57) (by decide +kernel)) rfl
theorem k0_X7_fits : Lk0 m_X7_fits 1 := ⟨TB_in (List.mem_of_getElem? (i := 937) (by decide +kernel)) rfl, kI_X7, ⟨by decide +kernel, by decide +kernel, by decide +kernel⟩, by decide +kernel, by decide +kernel⟩
theorem kM_X7_fits : Cond.instanceMethod yX7_fits ∈ TB := TB_in (List.mem_of_getElem? (i := 935) (by decide +kernel)) rfl
theorem kE_X7_fits : Cond.selects yX7_fits.cls yX7_fits yX7_fits ∈ TB := TB_in (List.mem_of_getElem? (i := 936) (by decide +kernel)) rfl
theorem k0_X7_look : Lk0 m_X7_look 2 := ⟨TB_in (List.mem_of_getElem? (i := 945) (by decide +kernel)) rfl, kI_X7, ⟨by decide +kernel, by decide +kernel, by decide +kernel⟩, by decide +kernel, by decide +kernel⟩
theorem kM_X7_look : Cond.instanceMethod yX7_look ∈ TB := TB_in (List.mem_of_getElem? (i := 943) (by decide +kernel)) rfl
theorem kE_X7_look : Cond.selects yX7_look.cls yX7_look yX7_look ∈ TB := TB_in (List.mem_of_getElem? (i := 944) (by decide +kernel)) rfl
theorem k0_X7_laid : Lk0 m_X7_laid 2 := ⟨TB_in (List.mem_of_getElem? (i := 949) (by decide +kernel)) rfl, kI_X7, ⟨by decide +kernel, by decide +kernel, by decide +kernel⟩, by decide +kernel, by decide +kernel⟩
theorem kM_X7_laid : Cond.instanceMethod yX7_laid ∈ TB := TB_in (List.mem_of_getElem? (i := 947) (by decide +kernel)) rfl
theorem kE_X7_laid : Cond.selects yX7_laid.cls yX7_laid yX7_laid ∈ TB := TB_in (List.mem_of_getElem? (i := 948) (by decide +kernel)) rfl
theorem k0_X7_odds : Lk0 m_X7_odds 3 := ⟨TB_in (List.mem_of_getElem? (i := 953) (by decide +kernel)) rfl, kI_X7, ⟨by decide +kernel, by decide +kernel, by decide +kernel⟩, by decide +kernel, by decide +kernel⟩
theorem kM_X7_odds : Cond.instanceMethod yX7_odds ∈ TB := TB_in (List.mem_of_getElem? (i := 951) (by decide +kernel)) rfl
theorem kE_X7_odds : Cond.selects yX7_odds.cls yX7_odds yX7_odds ∈ TB := TB_in (List.mem_of_getElem? (i := 952) (by decide +kernel)) rfl
theorem k0_X7_trialBy : Lk0 m_X7_trialBy 3 := ⟨TB_in (List.mem_of_getElem? (i := 957) (by decide +kernel)) rfl, kI_X7, ⟨by decide +kernel, by decide +kernel, by decide +kernel⟩, by decide +kernel, by decide +kernel⟩
theorem kM_X7_trialBy : Cond.instanceMethod yX7_trialBy ∈ TB := TB_in (List.mem_of_getElem? (i := 955) (by decide +kernel)) rfl
theorem kE_X7_trialBy : Cond.selects yX7_trialBy.cls yX7_trialBy yX7_trialBy ∈ TB := TB_in (List.mem_of_getElem? (i := 956) (by decide +kernel)) rfl
theorem k0_X7_keep : Lk0 m_X7_keep 0 := ⟨TB_in (List.mem_of_getElem? (i := 964) (by decide +kernel)) rfl, kI_X7, ⟨by decide +kernel, by decide +kernel, by decide +kernel⟩, by decide +kernel, by decide +kernel⟩
theorem kM_X7_keep : Cond.instanceMethod yX7_keep ∈ TB := TB_in (List.mem_of_getElem? (i := 962) (by decide +kernel)) rfl
theorem kE_X7_keep : Cond.selects yX7_keep.cls yX7_keep yX7_keep ∈ TB := TB_in (List.mem_of_getElem? (i := 963) (by decide +kernel)) rfl
theorem k0_X7_back : Lk0 m_X7_back 0 := ⟨TB_in (List.mem_of_getElem? (i := 968) (by decide +kernel)) rfl, kI_X7, ⟨by decide +kernel, by decide +kernel, by decide +kernel⟩, by decide +kernel, by decide +kernel⟩
theorem kM_X7_back : Cond.instanceMethod yX7_back ∈ TB := TB_in (List.mem_of_getElem? (i := 966) (by decide +kernel)) rfl
theorem kE_X7_back : Cond.selects yX7_back.cls yX7_back yX7_back ∈ TB := TB_in (List.mem_of_getElem? (i := 967) (by decide +kernel)) rfl
theorem k0_X7_count : Lk0 m_X7_count 1 := ⟨TB_in (List.mem_of_getElem? (i := 972) (by decide +kernel)) rfl, kI_X7, ⟨by decide +kernel, by decide +kernel, by decide +kernel⟩, by decide +kernel, by decide +kernel⟩
theorem kM_X7_count : Cond.instanceMethod yX7_count ∈ TB := TB_in (List.mem_of_getElem? (i := 970) (by decide +kernel)) rfl
theorem kE_X7_count : Cond.selects yX7_count.cls yX7_count yX7_count ∈ TB := TB_in (List.mem_of_getElem? (i := 971) (by decide +kernel)) rfl
theorem k0_J6_bitCount_0f7a4 : Lk0 m_J6_bitCount_0f7a4 1 := ⟨TB_in (List.mem_of_getElem? (i := 621) (by decide +kernel)) rfl, kI_J6, ⟨by decide +kernel, by decide +kernel, by decide +kernel⟩, by decide +kernel, by decide +kernel⟩
theorem kS_J6_bitCount_0f7a4 : Cond.static yJ6_bitCount_0f7a4 ∈ TB := TB_in (List.mem_of_getElem? (i := 620) (by decide +kernel)) rfl
theorem k0_J0_length_8abf5 : Lk0 m_J0_length_8abf5 0 := ⟨TB_in (List.mem_of_getElem? (i := 246) (by decide +kernel)) rfl, kI_J0, ⟨by decide +kernel, by decide +kernel, by decide +kernel⟩, by decide +kernel, by decide +kernel⟩
theorem kM_J0_length_8abf5 : Cond.instanceMethod yJ0_length_8abf5 ∈ TB := TB_in (List.mem_of_getElem? (i := 244) (by decide +kernel)) rfl
theorem kE_J0_length_8abf5 : Cond.selects yJ0_length_8abf5.cls yJ0_length_8abf5 yJ0_length_8abf5 ∈ TB := TB_in (List.mem_of_getElem? (i := 245) (by decide +kernel)) rfl
theorem k0_J0_charAt_5068e : Lk0 m_J0_charAt_5068e 1 := ⟨TB_in (List.mem_of_getElem? (i := 256) (by decide +kernel)) rfl, kI_J0, ⟨by decide +kernel, by decide +kernel, by decide +kernel⟩, by decide +kernel, by decide +kernel⟩
theorem kM_J0_charAt_5068e : Cond.instanceMethod yJ0_charAt_5068e ∈ TB := TB_in (List.mem_of_getElem? (i := 254) (by decide +kernel)) rfl
theorem kE_J0_charAt_5068e : Cond.selects yJ0_charAt_5068e.cls yJ0_charAt_5068e yJ0_charAt_5068e ∈ TB := TB_in (List.mem_of_getElem? (i := 255) (by decide +kernel)) rfl
theorem k0_J0_coder_7d493 : Lk0 m_J0_coder_7d493 0 := ⟨TB_in (List.mem_of_getElem? (i := 250) (by decide +kernel)) rfl, kI_J0, ⟨by decide +kernel, by decide +kernel, by decide +kernel⟩, by decide +kernel, by decide +kernel⟩
theorem kM_J0_coder_7d493 : Cond.instanceMethod yJ0_coder_7d493 ∈ TB := TB_in (List.mem_of_getElem? (i := 248) (by decide +kernel)) rfl
theorem kE_J0_coder_7d493 : Cond.selects yJ0_coder_7d493.cls yJ0_coder_7d493 yJ0_coder_7d493 ∈ TB := TB_in (List.mem_of_getElem? (i := 249) (by decide +kernel)) rfl
theorem k0_J0_isLatin1_aae02 : Lk0 m_J0_isLatin1_aae02 0 := ⟨TB_in (List.mem_of_getElem? (i := 260) (by decide +kernel)) rfl, kI_J0, ⟨by decide +kernel, by decide +kernel, by decide +kernel⟩, by decide +kernel, by decide +kernel⟩
theorem kM_J0_isLatin1_aae02 : Cond.instanceMethod yJ0_isLatin1_aae02 ∈ TB := TB_in (List.mem_of_getElem? (i := 258) (by decide +kernel)) rfl
theorem kE_J0_isLatin1_aae02 : Cond.selects yJ0_isLatin1_aae02.cls yJ0_isLatin1_aae02 yJ0_isLatin1_aae02 ∈ TB := TB_in (List.mem_of_getElem? (i := 259) (by decide +kernel)) rfl
theorem k0_J0_checkIndex_df160 : Lk0 m_J0_checkIndex_df160 2 := ⟨TB_in (List.mem_of_getElem? (i := 266) (by decide +kernel)) rfl, kI_J0, ⟨by decide +kernel, by decide +kernel, by decide +kernel⟩, by decide +kernel, by decide +kernel⟩
theorem kS_J0_checkIndex_df160 : Cond.static yJ0_checkIndex_df160 ∈ TB := TB_in (List.mem_of_getElem? (i := 265) (by decide +kernel)) rfl
theorem k0_J1_charAt_3b067 : Lk0 m_J1_charAt_3b067 2 := ⟨TB_in (List.mem_of_getElem? (i := 263) (by decide +kernel)) rfl, kI_J1, ⟨by decide +kernel, by decide +kernel, by decide +kernel⟩, by decide +kernel, by decide +kernel⟩
theorem kS_J1_charAt_3b067 : Cond.static yJ1_charAt_3b067 ∈ TB := TB_in (List.mem_of_getElem? (i := 262) (by decide +kernel)) rfl
theorem k0_J2_getChar_3b067 : Lk0 m_J2_getChar_3b067 2 := ⟨TB_in (List.mem_of_getElem? (i := 284) (by decide +kernel)) rfl, kI_J2, ⟨by decide +kernel, by decide +kernel, by decide +kernel⟩, by decide +kernel, by decide +kernel⟩
theorem kS_J2_getChar_3b067 : Cond.static yJ2_getChar_3b067 ∈ TB := TB_in (List.mem_of_getElem? (i := 283) (by decide +kernel)) rfl
theorem k0_J2_length_9d52b : Lk0 m_J2_length_9d52b 1 := ⟨TB_in (List.mem_of_getElem? (i := 280) (by decide +kernel)) rfl, kI_J2, ⟨by decide +kernel, by decide +kernel, by decide +kernel⟩, by decide +kernel, by decide +kernel⟩
theorem kS_J2_length_9d52b : Cond.static yJ2_length_9d52b ∈ TB := TB_in (List.mem_of_getElem? (i := 279) (by decide +kernel)) rfl
theorem k0_J2_charAt_3b067 : Lk0 m_J2_charAt_3b067 2 := ⟨TB_in (List.mem_of_getElem? (i := 274) (by decide +kernel)) rfl, kI_J2, ⟨by decide +kernel, by decide +kernel, by decide +kernel⟩, by decide +kernel, by decide +kernel⟩
theorem kS_J2_charAt_3b067 : Cond.static yJ2_charAt_3b067 ∈ TB := TB_in (List.mem_of_getElem? (i := 273) (by decide +kernel)) rfl
theorem k0_J2_checkIndex_2214a : Lk0 m_J2_checkIndex_2214a 2 := ⟨TB_in (List.mem_of_getElem? (i := 277) (by decide +kernel)) rfl, kI_J2, ⟨by decide +kernel, by decide +kernel, by decide +kernel⟩, by decide +kernel, by decide +kernel⟩
theorem kS_J2_checkIndex_2214a : Cond.static yJ2_checkIndex_2214a ∈ TB := TB_in (List.mem_of_getElem? (i := 276) (by decide +kernel)) rfl
theorem k0_J3_checkIndex_8e157 : Lk0 m_J3_checkIndex_8e157 3 := ⟨TB_in (List.mem_of_getElem? (i := 271) (by decide +kernel)) rfl, kI_J3, ⟨by decide +kernel, by decide +kernel, by decide +kernel⟩, by decide +kernel, by decide +kernel⟩
theorem kS_J3_checkIndex_8e157 : Cond.static yJ3_checkIndex_8e157 ∈ TB := TB_in (List.mem_of_getElem? (i := 270) (by decide +kernel)) rfl
theorem kO_X6_1 : Cond.methodLink RX6 1 objectInit ∈ TB := TB_in (List.mem_of_getElem? (i := 79) (by decide +kernel)) rfl
theorem ks_X6_9 : LkN RX6 9 m_X3_init 0 := ⟨k0_X3_init, Or.inr ⟨"HeardBackward", NB_in (List.mem_of_getElem? (i := 84) (by decide +kernel)) rfl⟩, rfl, rfl, kM_X3_init⟩
theorem ks_X6_18 : LkN RX6 18 m_X2_init 0 := ⟨k0_X2_init, Or.inr ⟨"HeardBackward", NB_in (List.mem_of_getElem? (i := 100) (by decide +kernel)) rfl⟩, rfl, rfl, kM_X2_init⟩
theorem ks_X6_25 : LkN RX6 25 m_X0_init 0 := ⟨k0_X0_init, Or.inr ⟨"HeardBackward", NB_in (List.mem_of_getElem? (i := 113) (by decide +kernel)) rfl⟩, rfl, rfl, kM_X0_init⟩
theorem ks_X6_35 : LkN RX6 35 m_X1_init 0 := ⟨k0_X1_init, Or.inr ⟨"HeardBackward", NB_in (List.mem_of_getElem? (i := 152) (by decide +kernel)) rfl⟩, rfl, rfl, kM_X1_init⟩
theorem ks_X6_42 : LkN RX6 42 m_X4_init 1 := ⟨k0_X4_init, Or.inr ⟨"HeardBackward", NB_in (List.mem_of_getElem? (i := 171) (by decide +kernel)) rfl⟩, rfl, rfl, kM_X4_init⟩
theorem ks_X6_54 : LkN RX6 54 m_X5_init 0 := ⟨k0_X5_init, Or.inr ⟨"HeardBackward", NB_in (List.mem_of_getElem? (i := 194) (by decide +kernel)) rfl⟩, rfl, rfl, kM_X5_init⟩
theorem ks_X6_64 : LkV RX6 64 m_X3_addAll 1 := ⟨k0_X3_addAll, Or.inr ⟨"HeardBackward", NB_in (List.mem_of_getElem? (i := 239) (by decide +kernel)) rfl⟩, kM_X3_addAll, kE_X3_addAll⟩
theorem ks_X6_68 : LkV RX6 68 m_X2_readAll 2 := ⟨k0_X2_readAll, Or.inr ⟨"HeardBackward", NB_in (List.mem_of_getElem? (i := 298) (by decide +kernel)) rfl⟩, kM_X2_readAll, kE_X2_readAll⟩
theorem ks_X6_72 : LkV RX6 72 m_X3_clear 0 := ⟨k0_X3_clear, Or.inr ⟨"HeardBackward", NB_in (List.mem_of_getElem? (i := 364) (by decide +kernel)) rfl⟩, kM_X3_clear, kE_X3_clear⟩
theorem ks_X6_75 : LkS RX6 75 m_X6_outside 3 := ⟨k0_X6_outside, Or.inl (TB_in (List.mem_of_getElem? (i := 401) (by decide +kernel)) rfl), kS_X6_outside⟩
theorem ks_X6_79 : LkV RX6 79 m_X3_add 1 := ⟨k0_X3_add, Or.inr ⟨"HeardBackward", NB_in (List.mem_of_getElem? (i := 402) (by decide +kernel)) rfl⟩, kM_X3_add, kE_X3_add⟩
theorem ks_X6_90 : LkV RX6 90 m_X0_copyFrom 1 := ⟨k0_X0_copyFrom, Or.inr ⟨"HeardBackward", NB_in (List.mem_of_getElem? (i := 415) (by decide +kernel)) rfl⟩, kM_X0_copyFrom, kE_X0_copyFrom⟩
theorem ks_X6_94 : LkV RX6 94 m_X1_clear 0 := ⟨k0_X1_clear, Or.inr ⟨"HeardBackward", NB_in (List.mem_of_getElem? (i := 422) (by decide +kernel)) rfl⟩, kM_X1_clear, kE_X1_clear⟩
theorem ks_X6_95 : LkV RX6 95 m_X4_clear 0 := ⟨k0_X4_clear, Or.inr ⟨"HeardBackward", NB_in (List.mem_of_getElem? (i := 426) (by decide +kernel)) rfl⟩, kM_X4_clear, kE_X4_clear⟩
theorem ks_X6_99 : LkV RX6 99 m_X0_isStatement 1 := ⟨k0_X0_isStatement, Or.inr ⟨"HeardBackward", NB_in (List.mem_of_getElem? (i := 434) (by decide +kernel)) rfl⟩, kM_X0_isStatement, kE_X0_isStatement⟩
theorem ks_X6_106 : LkS RX6 106 m_X6_at 2 := ⟨k0_X6_at, Or.inl (TB_in (List.mem_of_getElem? (i := 435) (by decide +kernel)) rfl), kS_X6_at⟩
theorem ks_X6_116 : LkV RX6 116 m_X0_isVerdict 1 := ⟨k0_X0_isVerdict, Or.inr ⟨"HeardBackward", NB_in (List.mem_of_getElem? (i := 436) (by decide +kernel)) rfl⟩, kM_X0_isVerdict, kE_X0_isVerdict⟩
theorem ks_X6_119 : LkS RX6 119 m_X6_asNumber 1 := ⟨k0_X6_asNumber, Or.inl (TB_in (List.mem_of_getElem? (i := 443) (by decide +kernel)) rfl), kS_X6_asNumber⟩
theorem ks_X6_129 : LkS RX6 129 m_X6_has 2 := ⟨k0_X6_has, Or.inl (TB_in (List.mem_of_getElem? (i := 446) (by decide +kernel)) rfl), kS_X6_has⟩
theorem ks_X6_133 : LkV RX6 133 m_X1_open 1 := ⟨k0_X1_open, Or.inr ⟨"HeardBackward", NB_in (List.mem_of_getElem? (i := 451) (by decide +kernel)) rfl⟩, kM_X1_open, kE_X1_open⟩
theorem ks_X6_137 : LkV RX6 137 m_X4_add 1 := ⟨k0_X4_add, Or.inr ⟨"HeardBackward", NB_in (List.mem_of_getElem? (i := 464) (by decide +kernel)) rfl⟩, kM_X4_add, kE_X4_add⟩
theorem ks_X6_140 : LkV RX6 140 m_X1_add 1 := ⟨k0_X1_add, Or.inr ⟨"HeardBackward", NB_in (List.mem_of_getElem? (i := 480) (by decide +kernel)) rfl⟩, kM_X1_add, kE_X1_add⟩
theorem ks_X6_143 : LkV RX6 143 m_X1_members 0 := ⟨k0_X1_members, Or.inr ⟨"HeardBackward", NB_in (List.mem_of_getElem? (i := 493) (by decide +kernel)) rfl⟩, kM_X1_members, kE_X1_members⟩
theorem ks_X6_147 : LkS RX6 147 m_X6_bit 1 := ⟨k0_X6_bit, Or.inl (TB_in (List.mem_of_getElem? (i := 494) (by decide +kernel)) rfl), kS_X6_bit⟩
theorem ks_X6_151 : LkV RX6 151 m_X4_takeLatest 1 := ⟨k0_X4_takeLatest, Or.inr ⟨"HeardBackward", NB_in (List.mem_of_getElem? (i := 499) (by decide +kernel)) rfl⟩, kM_X4_takeLatest, kE_X4_takeLatest⟩
theorem ks_X6_159 : LkV RX6 159 m_X0_costOf 2 := ⟨k0_X0_costOf, Or.inr ⟨"HeardBackward", NB_in (List.mem_of_getElem? (i := 515) (by decide +kernel)) rfl⟩, kM_X0_costOf, kE_X0_costOf⟩
theorem ks_X6_162 : LkV RX6 162 m_X1_isEnded 1 := ⟨k0_X1_isEnded, Or.inr ⟨"HeardBackward", NB_in (List.mem_of_getElem? (i := 519) (by decide +kernel)) rfl⟩, kM_X1_isEnded, kE_X1_isEnded⟩
theorem ks_X6_166 : LkV RX6 166 m_X1_isStuck 1 := ⟨k0_X1_isStuck, Or.inr ⟨"HeardBackward", NB_in (List.mem_of_getElem? (i := 524) (by decide +kernel)) rfl⟩, kM_X1_isStuck, kE_X1_isStuck⟩
theorem ks_X6_169 : LkV RX6 169 m_X5_walkAll 3 := ⟨k0_X5_walkAll, Or.inr ⟨"HeardBackward", NB_in (List.mem_of_getElem? (i := 534) (by decide +kernel)) rfl⟩, kM_X5_walkAll, kE_X5_walkAll⟩
theorem ks_X6_194 : LkV RX6 194 m_X0_all 0 := ⟨k0_X0_all, Or.inr ⟨"HeardBackward", NB_in (List.mem_of_getElem? (i := 574) (by decide +kernel)) rfl⟩, kM_X0_all, kE_X0_all⟩
theorem ks_X6_200 : LkV RX6 200 m_X6_winningOpening 1 := ⟨k0_X6_winningOpening, Or.inl (TB_in (List.mem_of_getElem? (i := 586) (by decide +kernel)) rfl), kM_X6_winningOpening, kE_X6_winningOpening⟩
theorem ks_X6_206 : LkV RX6 206 m_X0_isNight 1 := ⟨k0_X0_isNight, Or.inr ⟨"HeardBackward", NB_in (List.mem_of_getElem? (i := 594) (by decide +kernel)) rfl⟩, kM_X0_isNight, kE_X0_isNight⟩
theorem ks_X6_209 : LkV RX6 209 m_X0_doers 1 := ⟨k0_X0_doers, Or.inr ⟨"HeardBackward", NB_in (List.mem_of_getElem? (i := 595) (by decide +kernel)) rfl⟩, kM_X0_doers, kE_X0_doers⟩
theorem ks_X6_212 : LkV RX6 212 m_X6_fittingPeople 1 := ⟨k0_X6_fittingPeople, Or.inl (TB_in (List.mem_of_getElem? (i := 611) (by decide +kernel)) rfl), kM_X6_fittingPeople, kE_X6_fittingPeople⟩
theorem ks_X6_215 : LkS RX6 215 m_J6_bitCount_0f7a4 1 := ⟨k0_J6_bitCount_0f7a4, Or.inl (TB_in (List.mem_of_getElem? (i := 619) (by decide +kernel)) rfl), kS_J6_bitCount_0f7a4⟩
theorem ks_X6_220 : LkV RX6 220 m_X0_daysOf 2 := ⟨k0_X0_daysOf, Or.inr ⟨"HeardBackward", NB_in (List.mem_of_getElem? (i := 629) (by decide +kernel)) rfl⟩, kM_X0_daysOf, kE_X0_daysOf⟩
theorem ks_X6_223 : LkS RX6 223 m_X6_commonDivisor 2 := ⟨k0_X6_commonDivisor, Or.inl (TB_in (List.mem_of_getElem? (i := 634) (by decide +kernel)) rfl), kS_X6_commonDivisor⟩
theorem ks_X6_227 : LkS RX6 227 m_X6_openBehind 4 := ⟨k0_X6_openBehind, Or.inl (TB_in (List.mem_of_getElem? (i := 590) (by decide +kernel)) rfl), kS_X6_openBehind⟩
theorem ks_X6_231 : LkS RX6 231 m_X6_draw 2 := ⟨k0_X6_draw, Or.inl (TB_in (List.mem_of_getElem? (i := 643) (by decide +kernel)) rfl), kS_X6_draw⟩
theorem ks_X6_234 : LkS RX6 234 m_X6_bitByRank 2 := ⟨k0_X6_bitByRank, Or.inl (TB_in (List.mem_of_getElem? (i := 650) (by decide +kernel)) rfl), kS_X6_bitByRank⟩
theorem ks_X6_240 : LkS RX6 240 m_X6_isWon 5 := ⟨k0_X6_isWon, Or.inl (TB_in (List.mem_of_getElem? (i := 591) (by decide +kernel)) rfl), kS_X6_isWon⟩
theorem kX_max_X6_252 : Cond.methodLink RX6 252 Lib.Math.max.name ∈ TB := TB_in (List.mem_of_getElem? (i := 637) (by decide +kernel)) rfl
theorem kX_min_X6_257 : Cond.methodLink RX6 257 Lib.Math.min.name ∈ TB := TB_in (List.mem_of_getElem? (i := 638) (by decide +kernel)) rfl
theorem kO_X0_3 : Cond.methodLink RX0 3 objectInit ∈ TB := TB_in (List.mem_of_getElem? (i := 116) (by decide +kernel)) rfl
theorem kA_X0_37 : Cond.methodLink RX0 37 arraycopyName ∈ TB := TB_in (List.mem_of_getElem? (i := 419) (by decide +kernel)) rfl
theorem ks_X0_43 : LkS RX0 43 m_X6_outside 3 := ⟨k0_X6_outside, Or.inr ⟨"HeardBackward", NB_in (List.mem_of_getElem? (i := 336) (by decide +kernel)) rfl⟩, kS_X6_outside⟩
theorem ks_X0_47 : LkS RX0 47 m_X6_put 3 := ⟨k0_X6_put, Or.inr ⟨"HeardBackward", NB_in (List.mem_of_getElem? (i := 339) (by decide +kernel)) rfl⟩, kS_X6_put⟩
theorem ks_X0_51 : LkV RX0 51 m_X0_isStatement 1 := ⟨k0_X0_isStatement, Or.inl (TB_in (List.mem_of_getElem? (i := 344) (by decide +kernel)) rfl), kM_X0_isStatement, kE_X0_isStatement⟩
theorem ks_X0_55 : LkV RX0 55 m_X0_isNight 1 := ⟨k0_X0_isNight, Or.inl (TB_in (List.mem_of_getElem? (i := 348) (by decide +kernel)) rfl), kM_X0_isNight, kE_X0_isNight⟩
theorem ks_X0_58 : LkS RX0 58 m_X6_bit 1 := ⟨k0_X6_bit, Or.inr ⟨"HeardBackward", NB_in (List.mem_of_getElem? (i := 353) (by decide +kernel)) rfl⟩, kS_X6_bit⟩
theorem ks_X0_62 : LkS RX0 62 m_X6_at 2 := ⟨k0_X6_at, Or.inr ⟨"HeardBackward", NB_in (List.mem_of_getElem? (i := 352) (by decide +kernel)) rfl⟩, kS_X6_at⟩
theorem ks_X0_66 : LkS RX0 66 m_X6_has 2 := ⟨k0_X6_has, Or.inr ⟨"HeardBackward", NB_in (List.mem_of_getElem? (i := 440) (by decide +kernel)) rfl⟩, kS_X6_has⟩
theorem kO_X1_3 : Cond.methodLink RX1 3 objectInit ∈ TB := TB_in (List.mem_of_getElem? (i := 155) (by decide +kernel)) rfl
theorem kA_X1_22 : Cond.methodLink RX1 22 arraycopyName ∈ TB := TB_in (List.mem_of_getElem? (i := 476) (by decide +kernel)) rfl
theorem ks_X1_28 : LkS RX1 28 m_X6_put 3 := ⟨k0_X6_put, Or.inr ⟨"HeardBackward", NB_in (List.mem_of_getElem? (i := 484) (by decide +kernel)) rfl⟩, kS_X6_put⟩
theorem ks_X1_32 : LkS RX1 32 m_X6_at 2 := ⟨k0_X6_at, Or.inr ⟨"HeardBackward", NB_in (List.mem_of_getElem? (i := 455) (by decide +kernel)) rfl⟩, kS_X6_at⟩
theorem ks_X1_36 : LkS RX1 36 m_X6_bit 1 := ⟨k0_X6_bit, Or.inr ⟨"HeardBackward", NB_in (List.mem_of_getElem? (i := 460) (by decide +kernel)) rfl⟩, kS_X6_bit⟩
theorem ks_X1_45 : LkV RX1 45 m_X1_members 0 := ⟨k0_X1_members, Or.inl (TB_in (List.mem_of_getElem? (i := 456) (by decide +kernel)) rfl), kM_X1_members, kE_X1_members⟩
theorem ks_X1_49 : LkS RX1 49 m_X6_openBehind 4 := ⟨k0_X6_openBehind, Or.inr ⟨"HeardBackward", NB_in (List.mem_of_getElem? (i := 461) (by decide +kernel)) rfl⟩, kS_X6_openBehind⟩
theorem ks_X1_53 : LkV RX1 53 m_X0_isNight 1 := ⟨k0_X0_isNight, Or.inr ⟨"HeardBackward", NB_in (List.mem_of_getElem? (i := 523) (by decide +kernel)) rfl⟩, kM_X0_isNight, kE_X0_isNight⟩
theorem ks_X1_57 : LkV RX1 57 m_X1_isEnded 1 := ⟨k0_X1_isEnded, Or.inl (TB_in (List.mem_of_getElem? (i := 528) (by decide +kernel)) rfl), kM_X1_isEnded, kE_X1_isEnded⟩
theorem ks_X1_61 : LkV RX1 61 m_X1_open 1 := ⟨k0_X1_open, Or.inl (TB_in (List.mem_of_getElem? (i := 529) (by decide +kernel)) rfl), kM_X1_open, kE_X1_open⟩
theorem kO_X2_3 : Cond.methodLink RX2 3 objectInit ∈ TB := TB_in (List.mem_of_getElem? (i := 103) (by decide +kernel)) rfl
theorem ks_X2_15 : LkV RX2 15 m_X0_clear 0 := ⟨k0_X0_clear, Or.inr ⟨"HeardBackward", NB_in (List.mem_of_getElem? (i := 302) (by decide +kernel)) rfl⟩, kM_X0_clear, kE_X0_clear⟩
theorem ks_X2_26 : LkV RX2 26 m_X2_readNumbers 2 := ⟨k0_X2_readNumbers, Or.inl (TB_in (List.mem_of_getElem? (i := 306) (by decide +kernel)) rfl), kM_X2_readNumbers, kE_X2_readNumbers⟩
theorem ks_X2_30 : LkV RX2 30 m_X3_letterAt 1 := ⟨k0_X3_letterAt, Or.inr ⟨"HeardBackward", NB_in (List.mem_of_getElem? (i := 313) (by decide +kernel)) rfl⟩, kM_X3_letterAt, kE_X3_letterAt⟩
theorem ks_X2_34 : LkV RX2 34 m_X2_tell 2 := ⟨k0_X2_tell, Or.inl (TB_in (List.mem_of_getElem? (i := 327) (by decide +kernel)) rfl), kM_X2_tell, kE_X2_tell⟩
theorem ks_X2_38 : LkS RX2 38 m_X2_figuresFrom 2 := ⟨k0_X2_figuresFrom, Or.inl (TB_in (List.mem_of_getElem? (i := 310) (by decide +kernel)) rfl), kS_X2_figuresFrom⟩
theorem ks_X2_41 : LkS RX2 41 m_X2_numberFrom 3 := ⟨k0_X2_numberFrom, Or.inl (TB_in (List.mem_of_getElem? (i := 323) (by decide +kernel)) rfl), kS_X2_numberFrom⟩
theorem ks_X2_45 : LkS RX2 45 m_X6_put 3 := ⟨k0_X6_put, Or.inr ⟨"HeardBackward", NB_in (List.mem_of_getElem? (i := 326) (by decide +kernel)) rfl⟩, kS_X6_put⟩
theorem ks_X2_52 : LkS RX2 52 m_X2_isFigure 1 := ⟨k0_X2_isFigure, Or.inl (TB_in (List.mem_of_getElem? (i := 320) (by decide +kernel)) rfl), kS_X2_isFigure⟩
theorem ks_X2_56 : LkS RX2 56 m_X6_at 2 := ⟨k0_X6_at, Or.inr ⟨"HeardBackward", NB_in (List.mem_of_getElem? (i := 331) (by decide +kernel)) rfl⟩, kS_X6_at⟩
theorem ks_X2_60 : LkV RX2 60 m_X0_addStatement 3 := ⟨k0_X0_addStatement, Or.inr ⟨"HeardBackward", NB_in (List.mem_of_getElem? (i := 332) (by decide +kernel)) rfl⟩, kM_X0_addStatement, kE_X0_addStatement⟩
theorem ks_X2_64 : LkV RX2 64 m_X0_addVerdict 1 := ⟨k0_X0_addVerdict, Or.inr ⟨"HeardBackward", NB_in (List.mem_of_getElem? (i := 340) (by decide +kernel)) rfl⟩, kM_X0_addVerdict, kE_X0_addVerdict⟩
theorem ks_X2_67 : LkV RX2 67 m_X0_addHang 2 := ⟨k0_X0_addHang, Or.inr ⟨"HeardBackward", NB_in (List.mem_of_getElem? (i := 356) (by decide +kernel)) rfl⟩, kM_X0_addHang, kE_X0_addHang⟩
theorem ks_X2_71 : LkV RX2 71 m_X0_addPerson 2 := ⟨k0_X0_addPerson, Or.inr ⟨"HeardBackward", NB_in (List.mem_of_getElem? (i := 360) (by decide +kernel)) rfl⟩, kM_X0_addPerson, kE_X0_addPerson⟩
theorem kO_X3_3 : Cond.methodLink RX3 3 objectInit ∈ TB := TB_in (List.mem_of_getElem? (i := 87) (by decide +kernel)) rfl
theorem ks_X3_19 : LkS RX3 19 m_X6_put 3 := ⟨k0_X6_put, Or.inr ⟨"HeardBackward", NB_in (List.mem_of_getElem? (i := 295) (by decide +kernel)) rfl⟩, kS_X6_put⟩
theorem ks_X3_23 : LkV RX3 23 m_J0_length_8abf5 0 := ⟨k0_J0_length_8abf5, Or.inl (TB_in (List.mem_of_getElem? (i := 243) (by decide +kernel)) rfl), kM_J0_length_8abf5, kE_J0_length_8abf5⟩
theorem ks_X3_28 : LkV RX3 28 m_J0_charAt_5068e 1 := ⟨k0_J0_charAt_5068e, Or.inl (TB_in (List.mem_of_getElem? (i := 253) (by decide +kernel)) rfl), kM_J0_charAt_5068e, kE_J0_charAt_5068e⟩
theorem ks_X3_32 : LkV RX3 32 m_X3_add 1 := ⟨k0_X3_add, Or.inl (TB_in (List.mem_of_getElem? (i := 291) (by decide +kernel)) rfl), kM_X3_add, kE_X3_add⟩
theorem ks_X3_36 : LkS RX3 36 m_X6_at 2 := ⟨k0_X6_at, Or.inr ⟨"HeardBackward", NB_in (List.mem_of_getElem? (i := 317) (by decide +kernel)) rfl⟩, kS_X6_at⟩
theorem kO_X4_1 : Cond.methodLink RX4 1 objectInit ∈ TB := TB_in (List.mem_of_getElem? (i := 174) (by decide +kernel)) rfl
theorem kX_max_X4_7 : Cond.methodLink RX4 7 Lib.Math.max.name ∈ TB := TB_in (List.mem_of_getElem? (i := 175) (by decide +kernel)) rfl
theorem ks_X4_21 : LkN RX4 21 m_X1_init 0 := ⟨k0_X1_init, Or.inr ⟨"HeardBackward", NB_in (List.mem_of_getElem? (i := 180) (by decide +kernel)) rfl⟩, rfl, rfl, kM_X1_init⟩
theorem ks_X4_29 : LkV RX4 29 m_X4_placeAt 1 := ⟨k0_X4_placeAt, Or.inl (TB_in (List.mem_of_getElem? (i := 468) (by decide +kernel)) rfl), kM_X4_placeAt, kE_X4_placeAt⟩
theorem ks_X4_33 : LkV RX4 33 m_X1_copyFrom 1 := ⟨k0_X1_copyFrom, Or.inr ⟨"HeardBackward", NB_in (List.mem_of_getElem? (i := 472) (by decide +kernel)) rfl⟩, kM_X1_copyFrom, kE_X1_copyFrom⟩
theorem kX_min_X4_37 : Cond.methodLink RX4 37 Lib.Math.min.name ∈ TB := TB_in (List.mem_of_getElem? (i := 477) (by decide +kernel)) rfl
theorem kO_X5_3 : Cond.methodLink RX5 3 objectInit ∈ TB := TB_in (List.mem_of_getElem? (i := 197) (by decide +kernel)) rfl
theorem ks_X5_34 : LkS RX5 34 m_X6_has 2 := ⟨k0_X6_has, Or.inr ⟨"HeardBackward", NB_in (List.mem_of_getElem? (i := 538) (by decide +kernel)) rfl⟩, kS_X6_has⟩
theorem ks_X5_38 : LkS RX5 38 m_X6_put 3 := ⟨k0_X6_put, Or.inr ⟨"HeardBackward", NB_in (List.mem_of_getElem? (i := 539) (by decide +kernel)) rfl⟩, kS_X6_put⟩
theorem ks_X5_42 : LkS RX5 42 m_X6_bit 1 := ⟨k0_X6_bit, Or.inr ⟨"HeardBackward", NB_in (List.mem_of_getElem? (i := 540) (by decide +kernel)) rfl⟩, kS_X6_bit⟩
theorem ks_X5_46 : LkS RX5 46 m_X5_walk 5 := ⟨k0_X5_walk, Or.inl (TB_in (List.mem_of_getElem? (i := 541) (by decide +kernel)) rfl), kS_X5_walk⟩
theorem ks_X5_50 : LkS RX5 50 m_X6_at 2 := ⟨k0_X6_at, Or.inr ⟨"HeardBackward", NB_in (List.mem_of_getElem? (i := 544) (by decide +kernel)) rfl⟩, kS_X6_at⟩
theorem ks_X5_54 : LkV RX5 54 m_X0_isNight 1 := ⟨k0_X0_isNight, Or.inr ⟨"HeardBackward", NB_in (List.mem_of_getElem? (i := 545) (by decide +kernel)) rfl⟩, kM_X0_isNight, kE_X0_isNight⟩
theorem ks_X5_60 : LkV RX5 60 m_X5_note 3 := ⟨k0_X5_note, Or.inl (TB_in (List.mem_of_getElem? (i := 546) (by decide +kernel)) rfl), kM_X5_note, kE_X5_note⟩
theorem ks_X5_64 : LkS RX5 64 m_X6_openBehind 4 := ⟨k0_X6_openBehind, Or.inr ⟨"HeardBackward", NB_in (List.mem_of_getElem? (i := 557) (by decide +kernel)) rfl⟩, kS_X6_openBehind⟩
theorem ks_X5_68 : LkV RX5 68 m_X0_costOf 2 := ⟨k0_X0_costOf, Or.inr ⟨"HeardBackward", NB_in (List.mem_of_getElem? (i := 550) (by decide +kernel)) rfl⟩, kM_X0_costOf, kE_X0_costOf⟩
theorem ks_X5_71 : LkV RX5 71 m_X0_daysOf 2 := ⟨k0_X0_daysOf, Or.inr ⟨"HeardBackward", NB_in (List.mem_of_getElem? (i := 551) (by decide +kernel)) rfl⟩, kM_X0_daysOf, kE_X0_daysOf⟩
theorem kA_X5_80 : Cond.methodLink RX5 80 arraycopyName ∈ TB := TB_in (List.mem_of_getElem? (i := 555) (by decide +kernel)) rfl
theorem kX_min_X5_89 : Cond.methodLink RX5 89 Lib.Math.min.name ∈ TB := TB_in (List.mem_of_getElem? (i := 556) (by decide +kernel)) rfl
theorem ks_L_9 : LkN RL 9 m_X6_init 0 := ⟨k0_X6_init, Or.inl (TB_in (List.mem_of_getElem? (i := 76) (by decide +kernel)) rfl), rfl, rfl, kM_X6_init⟩
theorem ks_L_12 : LkN RL 12 m_X7_init 0 := ⟨k0_X7_init, Or.inl (TB_in (List.mem_of_getElem? (i := 667) (by decide +kernel)) rfl), rfl, rfl, kM_X7_init⟩
theorem ks_L_13 : LkV RL 13 m_X6_write 1 := ⟨k0_X6_write, Or.inl (TB_in (List.mem_of_getElem? (i := 397) (by decide +kernel)) rfl), kM_X6_write, kE_X6_write⟩
theorem ks_L_17 : LkV RL 17 m_X7_write 1 := ⟨k0_X7_write, Or.inl (TB_in (List.mem_of_getElem? (i := 762) (by decide +kernel)) rfl), kM_X7_write, kE_X7_write⟩
theorem ks_L_18 : LkV RL 18 m_X6_wipe 0 := ⟨k0_X6_wipe, Or.inl (TB_in (List.mem_of_getElem? (i := 403) (by decide +kernel)) rfl), kM_X6_wipe, kE_X6_wipe⟩
theorem ks_L_22 : LkV RL 22 m_X7_wipe 0 := ⟨k0_X7_wipe, Or.inl (TB_in (List.mem_of_getElem? (i := 769) (by decide +kernel)) rfl), kM_X7_wipe, kE_X7_wipe⟩
theorem ks_L_23 : LkV RL 23 m_X6_fault 0 := ⟨k0_X6_fault, Or.inl (TB_in (List.mem_of_getElem? (i := 407) (by decide +kernel)) rfl), kM_X6_fault, kE_X6_fault⟩
theorem ks_L_26 : LkV RL 26 m_X7_fault 0 := ⟨k0_X7_fault, Or.inl (TB_in (List.mem_of_getElem? (i := 773) (by decide +kernel)) rfl), kM_X7_fault, kE_X7_fault⟩
theorem ks_L_27 : LkV RL 27 m_X6_lay 0 := ⟨k0_X6_lay, Or.inl (TB_in (List.mem_of_getElem? (i := 411) (by decide +kernel)) rfl), kM_X6_lay, kE_X6_lay⟩
theorem ks_L_30 : LkV RL 30 m_X7_lay 0 := ⟨k0_X7_lay, Or.inl (TB_in (List.mem_of_getElem? (i := 793) (by decide +kernel)) rfl), kM_X7_lay, kE_X7_lay⟩
theorem ks_L_31 : LkV RL 31 m_X6_statement 2 := ⟨k0_X6_statement, Or.inl (TB_in (List.mem_of_getElem? (i := 430) (by decide +kernel)) rfl), kM_X6_statement, kE_X6_statement⟩
theorem ks_L_35 : LkV RL 35 m_X7_statement 2 := ⟨k0_X7_statement, Or.inl (TB_in (List.mem_of_getElem? (i := 798) (by decide +kernel)) rfl), kM_X7_statement, kE_X7_statement⟩
theorem ks_L_36 : LkV RL 36 m_X6_argue 1 := ⟨k0_X6_argue, Or.inl (TB_in (List.mem_of_getElem? (i := 447) (by decide +kernel)) rfl), kM_X6_argue, kE_X6_argue⟩
theorem ks_L_39 : LkV RL 39 m_X7_argue 1 := ⟨k0_X7_argue, Or.inl (TB_in (List.mem_of_getElem? (i := 818) (by decide +kernel)) rfl), kM_X7_argue, kE_X7_argue⟩
theorem ks_L_40 : LkV RL 40 m_X6_drop 0 := ⟨k0_X6_drop, Or.inl (TB_in (List.mem_of_getElem? (i := 485) (by decide +kernel)) rfl), kM_X6_drop, kE_X6_drop⟩
theorem ks_L_43 : LkV RL 43 m_X7_drop 0 := ⟨k0_X7_drop, Or.inl (TB_in (List.mem_of_getElem? (i := 831) (by decide +kernel)) rfl), kM_X7_drop, kE_X7_drop⟩
theorem ks_L_44 : LkV RL 44 m_X6_strike 1 := ⟨k0_X6_strike, Or.inl (TB_in (List.mem_of_getElem? (i := 489) (by decide +kernel)) rfl), kM_X6_strike, kE_X6_strike⟩
theorem ks_L_47 : LkV RL 47 m_X7_strike 1 := ⟨k0_X7_strike, Or.inl (TB_in (List.mem_of_getElem? (i := 835) (by decide +kernel)) rfl), kM_X7_strike, kE_X7_strike⟩
theorem ks_L_48 : LkV RL 48 m_X6_undo 0 := ⟨k0_X6_undo, Or.inl (TB_in (List.mem_of_getElem? (i := 495) (by decide +kernel)) rfl), kM_X6_undo, kE_X6_undo⟩
theorem ks_L_51 : LkV RL 51 m_X7_undo 0 := ⟨k0_X7_undo, Or.inl (TB_in (List.mem_of_getElem? (i := 839) (by decide +kernel)) rfl), kM_X7_undo, kE_X7_undo⟩
theorem ks_L_52 : LkV RL 52 m_X6_argued 1 := ⟨k0_X6_argued, Or.inl (TB_in (List.mem_of_getElem? (i := 503) (by decide +kernel)) rfl), kM_X6_argued, kE_X6_argued⟩
theorem ks_L_55 : LkV RL 55 m_X7_argued 1 := ⟨k0_X7_argued, Or.inl (TB_in (List.mem_of_getElem? (i := 843) (by decide +kernel)) rfl), kM_X7_argued, kE_X7_argued⟩
theorem ks_L_56 : LkV RL 56 m_X6_next 0 := ⟨k0_X6_next, Or.inl (TB_in (List.mem_of_getElem? (i := 507) (by decide +kernel)) rfl), kM_X6_next, kE_X6_next⟩
theorem ks_L_59 : LkV RL 59 m_X7_next 0 := ⟨k0_X7_next, Or.inl (TB_in (List.mem_of_getElem? (i := 806) (by decide +kernel)) rfl), kM_X7_next, kE_X7_next⟩
theorem ks_L_60 : LkV RL 60 m_X6_trial 1 := ⟨k0_X6_trial, Or.inl (TB_in (List.mem_of_getElem? (i := 511) (by decide +kernel)) rfl), kM_X6_trial, kE_X6_trial⟩
theorem ks_L_63 : LkV RL 63 m_X7_trial 1 := ⟨k0_X7_trial, Or.inl (TB_in (List.mem_of_getElem? (i := 847) (by decide +kernel)) rfl), kM_X7_trial, kE_X7_trial⟩
theorem ks_L_64 : LkV RL 64 m_X6_chains 1 := ⟨k0_X6_chains, Or.inl (TB_in (List.mem_of_getElem? (i := 530) (by decide +kernel)) rfl), kM_X6_chains, kE_X6_chains⟩
theorem ks_L_67 : LkV RL 67 m_X7_chains 1 := ⟨k0_X7_chains, Or.inl (TB_in (List.mem_of_getElem? (i := 855) (by decide +kernel)) rfl), kM_X7_chains, kE_X7_chains⟩
theorem ks_L_68 : LkV RL 68 m_X6_shortest 2 := ⟨k0_X6_shortest, Or.inl (TB_in (List.mem_of_getElem? (i := 558) (by decide +kernel)) rfl), kM_X6_shortest, kE_X6_shortest⟩
theorem ks_L_71 : LkV RL 71 m_X7_shortest 2 := ⟨k0_X7_shortest, Or.inl (TB_in (List.mem_of_getElem? (i := 894) (by decide +kernel)) rfl), kM_X7_shortest, kE_X7_shortest⟩
theorem ks_L_72 : LkV RL 72 m_X6_nights 1 := ⟨k0_X6_nights, Or.inl (TB_in (List.mem_of_getElem? (i := 562) (by decide +kernel)) rfl), kM_X6_nights, kE_X6_nights⟩
theorem ks_L_75 : LkV RL 75 m_X7_nights 1 := ⟨k0_X7_nights, Or.inl (TB_in (List.mem_of_getElem? (i := 902) (by decide +kernel)) rfl), kM_X7_nights, kE_X7_nights⟩
theorem ks_L_76 : LkV RL 76 m_X6_needed 1 := ⟨k0_X6_needed, Or.inl (TB_in (List.mem_of_getElem? (i := 566) (by decide +kernel)) rfl), kM_X6_needed, kE_X6_needed⟩
theorem ks_L_79 : LkV RL 79 m_X7_needed 1 := ⟨k0_X7_needed, Or.inl (TB_in (List.mem_of_getElem? (i := 906) (by decide +kernel)) rfl), kM_X7_needed, kE_X7_needed⟩
theorem ks_L_80 : LkV RL 80 m_X6_forgotten 0 := ⟨k0_X6_forgotten, Or.inl (TB_in (List.mem_of_getElem? (i := 570) (by decide +kernel)) rfl), kM_X6_forgotten, kE_X6_forgotten⟩
theorem ks_L_83 : LkV RL 83 m_X7_forgotten 0 := ⟨k0_X7_forgotten, Or.inl (TB_in (List.mem_of_getElem? (i := 910) (by decide +kernel)) rfl), kM_X7_forgotten, kE_X7_forgotten⟩
theorem ks_L_84 : LkV RL 84 m_X6_both 3 := ⟨k0_X6_both, Or.inl (TB_in (List.mem_of_getElem? (i := 578) (by decide +kernel)) rfl), kM_X6_both, kE_X6_both⟩
theorem ks_L_88 : LkV RL 88 m_X7_both 3 := ⟨k0_X7_both, Or.inl (TB_in (List.mem_of_getElem? (i := 914) (by decide +kernel)) rfl), kM_X7_both, kE_X7_both⟩
theorem ks_L_89 : LkV RL 89 m_X6_byTurns 2 := ⟨k0_X6_byTurns, Or.inl (TB_in (List.mem_of_getElem? (i := 582) (by decide +kernel)) rfl), kM_X6_byTurns, kE_X6_byTurns⟩
theorem ks_L_92 : LkV RL 92 m_X7_byTurns 2 := ⟨k0_X7_byTurns, Or.inl (TB_in (List.mem_of_getElem? (i := 922) (by decide +kernel)) rfl), kM_X7_byTurns, kE_X7_byTurns⟩
theorem ks_L_93 : LkV RL 93 m_X6_days 1 := ⟨k0_X6_days, Or.inl (TB_in (List.mem_of_getElem? (i := 599) (by decide +kernel)) rfl), kM_X6_days, kE_X6_days⟩
theorem ks_L_96 : LkV RL 96 m_X7_days 1 := ⟨k0_X7_days, Or.inl (TB_in (List.mem_of_getElem? (i := 926) (by decide +kernel)) rfl), kM_X7_days, kE_X7_days⟩
theorem ks_L_97 : LkV RL 97 m_X6_who 1 := ⟨k0_X6_who, Or.inl (TB_in (List.mem_of_getElem? (i := 603) (by decide +kernel)) rfl), kM_X6_who, kE_X6_who⟩
theorem ks_L_100 : LkV RL 100 m_X7_who 1 := ⟨k0_X7_who, Or.inl (TB_in (List.mem_of_getElem? (i := 930) (by decide +kernel)) rfl), kM_X7_who, kE_X7_who⟩
theorem ks_L_101 : LkV RL 101 m_X6_fits 1 := ⟨k0_X6_fits, Or.inl (TB_in (List.mem_of_getElem? (i := 607) (by decide +kernel)) rfl), kM_X6_fits, kE_X6_fits⟩
theorem ks_L_104 : LkV RL 104 m_X7_fits 1 := ⟨k0_X7_fits, Or.inl (TB_in (List.mem_of_getElem? (i := 934) (by decide +kernel)) rfl), kM_X7_fits, kE_X7_fits⟩
theorem ks_L_105 : LkV RL 105 m_X6_look 2 := ⟨k0_X6_look, Or.inl (TB_in (List.mem_of_getElem? (i := 615) (by decide +kernel)) rfl), kM_X6_look, kE_X6_look⟩
theorem ks_L_108 : LkV RL 108 m_X7_look 2 := ⟨k0_X7_look, Or.inl (TB_in (List.mem_of_getElem? (i := 942) (by decide +kernel)) rfl), kM_X7_look, kE_X7_look⟩
theorem ks_L_109 : LkV RL 109 m_X6_laid 2 := ⟨k0_X6_laid, Or.inl (TB_in (List.mem_of_getElem? (i := 625) (by decide +kernel)) rfl), kM_X6_laid, kE_X6_laid⟩
theorem ks_L_112 : LkV RL 112 m_X7_laid 2 := ⟨k0_X7_laid, Or.inl (TB_in (List.mem_of_getElem? (i := 946) (by decide +kernel)) rfl), kM_X7_laid, kE_X7_laid⟩
theorem ks_L_113 : LkV RL 113 m_X6_odds 3 := ⟨k0_X6_odds, Or.inl (TB_in (List.mem_of_getElem? (i := 630) (by decide +kernel)) rfl), kM_X6_odds, kE_X6_odds⟩
theorem ks_L_116 : LkV RL 116 m_X7_odds 3 := ⟨k0_X7_odds, Or.inl (TB_in (List.mem_of_getElem? (i := 950) (by decide +kernel)) rfl), kM_X7_odds, kE_X7_odds⟩
theorem ks_L_117 : LkV RL 117 m_X6_trialBy 3 := ⟨k0_X6_trialBy, Or.inl (TB_in (List.mem_of_getElem? (i := 639) (by decide +kernel)) rfl), kM_X6_trialBy, kE_X6_trialBy⟩
theorem ks_L_120 : LkV RL 120 m_X7_trialBy 3 := ⟨k0_X7_trialBy, Or.inl (TB_in (List.mem_of_getElem? (i := 954) (by decide +kernel)) rfl), kM_X7_trialBy, kE_X7_trialBy⟩
theorem ks_L_121 : LkV RL 121 m_X6_keep 0 := ⟨k0_X6_keep, Or.inl (TB_in (List.mem_of_getElem? (i := 653) (by decide +kernel)) rfl), kM_X6_keep, kE_X6_keep⟩
theorem ks_L_124 : LkV RL 124 m_X7_keep 0 := ⟨k0_X7_keep, Or.inl (TB_in (List.mem_of_getElem? (i := 961) (by decide +kernel)) rfl), kM_X7_keep, kE_X7_keep⟩
theorem ks_L_125 : LkV RL 125 m_X6_back 0 := ⟨k0_X6_back, Or.inl (TB_in (List.mem_of_getElem? (i := 657) (by decide +kernel)) rfl), kM_X6_back, kE_X6_back⟩
theorem ks_L_128 : LkV RL 128 m_X7_back 0 := ⟨k0_X7_back, Or.inl (TB_in (List.mem_of_getElem? (i := 965) (by decide +kernel)) rfl), kM_X7_back, kE_X7_back⟩
theorem ks_L_129 : LkV RL 129 m_X6_count 1 := ⟨k0_X6_count, Or.inl (TB_in (List.mem_of_getElem? (i := 661) (by decide +kernel)) rfl), kM_X6_count, kE_X6_count⟩
theorem ks_L_132 : LkV RL 132 m_X7_count 1 := ⟨k0_X7_count, Or.inl (TB_in (List.mem_of_getElem? (i := 969) (by decide +kernel)) rfl), kM_X7_count, kE_X7_count⟩
theorem kO_X7_1 : Cond.methodLink RX7 1 objectInit ∈ TB := TB_in (List.mem_of_getElem? (i := 670) (by decide +kernel)) rfl
theorem ks_X7_71 : LkV RX7 71 m_X7_firstOf 3 := ⟨k0_X7_firstOf, Or.inl (TB_in (List.mem_of_getElem? (i := 671) (by decide +kernel)) rfl), kM_X7_firstOf, kE_X7_firstOf⟩
theorem ks_X7_75 : LkV RX7 75 m_X7_firstPerson 2 := ⟨k0_X7_firstPerson, Or.inl (TB_in (List.mem_of_getElem? (i := 675) (by decide +kernel)) rfl), kM_X7_firstPerson, kE_X7_firstPerson⟩
theorem ks_X7_79 : LkV RX7 79 m_X7_takeDraft 0 := ⟨k0_X7_takeDraft, Or.inl (TB_in (List.mem_of_getElem? (i := 679) (by decide +kernel)) rfl), kM_X7_takeDraft, kE_X7_takeDraft⟩
theorem ks_X7_82 : LkS RX7 82 m_X7_in 3 := ⟨k0_X7_in, Or.inl (TB_in (List.mem_of_getElem? (i := 766) (by decide +kernel)) rfl), kS_X7_in⟩
theorem ks_X7_93 : LkV RX7 93 m_X7_here 0 := ⟨k0_X7_here, Or.inl (TB_in (List.mem_of_getElem? (i := 781) (by decide +kernel)) rfl), kM_X7_here, kE_X7_here⟩
theorem ks_X7_101 : LkV RX7 101 m_X7_number 3 := ⟨k0_X7_number, Or.inl (TB_in (List.mem_of_getElem? (i := 785) (by decide +kernel)) rfl), kM_X7_number, kE_X7_number⟩
theorem ks_X7_105 : LkV RX7 105 m_X7_statementAt 1 := ⟨k0_X7_statementAt, Or.inl (TB_in (List.mem_of_getElem? (i := 789) (by decide +kernel)) rfl), kM_X7_statementAt, kE_X7_statementAt⟩
theorem ks_X7_109 : LkV RX7 109 m_X7_readItem 0 := ⟨k0_X7_readItem, Or.inl (TB_in (List.mem_of_getElem? (i := 777) (by decide +kernel)) rfl), kM_X7_readItem, kE_X7_readItem⟩
theorem ks_X7_118 : LkV RX7 118 m_X7_fault 0 := ⟨k0_X7_fault, Or.inl (TB_in (List.mem_of_getElem? (i := 797) (by decide +kernel)) rfl), kM_X7_fault, kE_X7_fault⟩
theorem ks_X7_121 : LkV RX7 121 m_X7_copy 2 := ⟨k0_X7_copy, Or.inl (TB_in (List.mem_of_getElem? (i := 827) (by decide +kernel)) rfl), kM_X7_copy, kE_X7_copy⟩
theorem ks_X7_124 : LkV RX7 124 m_X7_isStatement 1 := ⟨k0_X7_isStatement, Or.inl (TB_in (List.mem_of_getElem? (i := 802) (by decide +kernel)) rfl), kM_X7_isStatement, kE_X7_isStatement⟩
theorem ks_X7_128 : LkV RX7 128 m_X7_said 0 := ⟨k0_X7_said, Or.inl (TB_in (List.mem_of_getElem? (i := 810) (by decide +kernel)) rfl), kM_X7_said, kE_X7_said⟩
theorem ks_X7_131 : LkV RX7 131 m_X7_behind 2 := ⟨k0_X7_behind, Or.inl (TB_in (List.mem_of_getElem? (i := 814) (by decide +kernel)) rfl), kM_X7_behind, kE_X7_behind⟩
theorem ks_X7_135 : LkV RX7 135 m_X7_next 0 := ⟨k0_X7_next, Or.inl (TB_in (List.mem_of_getElem? (i := 822) (by decide +kernel)) rfl), kM_X7_next, kE_X7_next⟩
theorem ks_X7_138 : LkV RX7 138 m_X7_know 0 := ⟨k0_X7_know, Or.inl (TB_in (List.mem_of_getElem? (i := 823) (by decide +kernel)) rfl), kM_X7_know, kE_X7_know⟩
theorem ks_X7_141 : LkV RX7 141 m_X7_cost 3 := ⟨k0_X7_cost, Or.inl (TB_in (List.mem_of_getElem? (i := 851) (by decide +kernel)) rfl), kM_X7_cost, kE_X7_cost⟩
theorem ks_X7_145 : LkV RX7 145 m_X7_couldHave 1 := ⟨k0_X7_couldHave, Or.inl (TB_in (List.mem_of_getElem? (i := 876) (by decide +kernel)) rfl), kM_X7_couldHave, kE_X7_couldHave⟩
theorem ks_X7_148 : LkS RX7 148 m_X7_manyOf 1 := ⟨k0_X7_manyOf, Or.inl (TB_in (List.mem_of_getElem? (i := 884) (by decide +kernel)) rfl), kS_X7_manyOf⟩
theorem ks_X7_151 : LkV RX7 151 m_X7_endAt 3 := ⟨k0_X7_endAt, Or.inl (TB_in (List.mem_of_getElem? (i := 871) (by decide +kernel)) rfl), kM_X7_endAt, kE_X7_endAt⟩
theorem ks_X7_154 : LkV RX7 154 m_X7_goOn 3 := ⟨k0_X7_goOn, Or.inl (TB_in (List.mem_of_getElem? (i := 880) (by decide +kernel)) rfl), kM_X7_goOn, kE_X7_goOn⟩
theorem ks_X7_157 : LkV RX7 157 m_X7_solve 1 := ⟨k0_X7_solve, Or.inl (TB_in (List.mem_of_getElem? (i := 867) (by decide +kernel)) rfl), kM_X7_solve, kE_X7_solve⟩
theorem ks_X7_161 : LkV RX7 161 m_X7_isStruck 1 := ⟨k0_X7_isStruck, Or.inl (TB_in (List.mem_of_getElem? (i := 887) (by decide +kernel)) rfl), kM_X7_isStruck, kE_X7_isStruck⟩
theorem ks_X7_164 : LkS RX7 164 m_X7_rowOf 1 := ⟨k0_X7_rowOf, Or.inl (TB_in (List.mem_of_getElem? (i := 891) (by decide +kernel)) rfl), kS_X7_rowOf⟩
theorem ks_X7_167 : LkV RX7 167 m_X7_isVerdict 1 := ⟨k0_X7_isVerdict, Or.inl (TB_in (List.mem_of_getElem? (i := 859) (by decide +kernel)) rfl), kM_X7_isVerdict, kE_X7_isVerdict⟩
theorem ks_X7_170 : LkV RX7 170 m_X7_hasWhole 1 := ⟨k0_X7_hasWhole, Or.inl (TB_in (List.mem_of_getElem? (i := 863) (by decide +kernel)) rfl), kM_X7_hasWhole, kE_X7_hasWhole⟩
theorem ks_X7_176 : LkV RX7 176 m_X7_followFrom 1 := ⟨k0_X7_followFrom, Or.inl (TB_in (List.mem_of_getElem? (i := 898) (by decide +kernel)) rfl), kM_X7_followFrom, kE_X7_followFrom⟩
theorem ks_X7_179 : LkV RX7 179 m_X7_costTo 1 := ⟨k0_X7_costTo, Or.inl (TB_in (List.mem_of_getElem? (i := 918) (by decide +kernel)) rfl), kM_X7_costTo, kE_X7_costTo⟩
theorem ks_X7_182 : LkV RX7 182 m_X7_fitting 1 := ⟨k0_X7_fitting, Or.inl (TB_in (List.mem_of_getElem? (i := 938) (by decide +kernel)) rfl), kM_X7_fitting, kE_X7_fitting⟩
theorem ks_J0_335 : LkV RJ0 335 m_J0_coder_7d493 0 := ⟨k0_J0_coder_7d493, Or.inl (TB_in (List.mem_of_getElem? (i := 247) (by decide +kernel)) rfl), kM_J0_coder_7d493, kE_J0_coder_7d493⟩
theorem ks_J0_492 : LkV RJ0 492 m_J0_isLatin1_aae02 0 := ⟨k0_J0_isLatin1_aae02, Or.inl (TB_in (List.mem_of_getElem? (i := 257) (by decide +kernel)) rfl), kM_J0_isLatin1_aae02, kE_J0_isLatin1_aae02⟩
theorem ks_J0_495 : LkS RJ0 495 m_J1_charAt_3b067 2 := ⟨k0_J1_charAt_3b067, Or.inl (TB_in (List.mem_of_getElem? (i := 261) (by decide +kernel)) rfl), kS_J1_charAt_3b067⟩
theorem ks_J0_498 : LkS RJ0 498 m_J2_charAt_3b067 2 := ⟨k0_J2_charAt_3b067, Or.inl (TB_in (List.mem_of_getElem? (i := 272) (by decide +kernel)) rfl), kS_J2_charAt_3b067⟩
theorem ks_J0_1059 : LkS RJ0 1059 m_J3_checkIndex_8e157 3 := ⟨k0_J3_checkIndex_8e157, Or.inl (TB_in (List.mem_of_getElem? (i := 269) (by decide +kernel)) rfl), kS_J3_checkIndex_8e157⟩
theorem ks_J1_9 : LkS RJ1 9 m_J0_checkIndex_df160 2 := ⟨k0_J0_checkIndex_df160, Or.inl (TB_in (List.mem_of_getElem? (i := 264) (by decide +kernel)) rfl), kS_J0_checkIndex_df160⟩
theorem ks_J2_48 : LkS RJ2 48 m_J2_length_9d52b 1 := ⟨k0_J2_length_9d52b, Or.inl (TB_in (List.mem_of_getElem? (i := 278) (by decide +kernel)) rfl), kS_J2_length_9d52b⟩
theorem ks_J2_67 : LkS RJ2 67 m_J2_checkIndex_2214a 2 := ⟨k0_J2_checkIndex_2214a, Or.inl (TB_in (List.mem_of_getElem? (i := 275) (by decide +kernel)) rfl), kS_J2_checkIndex_2214a⟩
theorem ks_J2_71 : LkS RJ2 71 m_J2_getChar_3b067 2 := ⟨k0_J2_getChar_3b067, Or.inl (TB_in (List.mem_of_getElem? (i := 282) (by decide +kernel)) rfl), kS_J2_getChar_3b067⟩
theorem ks_J2_414 : LkS RJ2 414 m_J0_checkIndex_df160 2 := ⟨k0_J0_checkIndex_df160, Or.inl (TB_in (List.mem_of_getElem? (i := 281) (by decide +kernel)) rfl), kS_J0_checkIndex_df160⟩
theorem kf_X3_9 : LkF RX3 9 3 0 := ⟨_, _, _, rfl, by decide, Or.inl (TB_in (List.mem_of_getElem? (i := 88) (by decide +kernel)) rfl)⟩
theorem kF_X3_9 : Cond.fieldLink RX3 9 (TX3 0).1 (TX3 0).2.1 (TX3 0).2.2.1 ∈ TB := TB_in (List.mem_of_getElem? (i := 88) (by decide +kernel)) rfl
theorem kf_X3_15 : LkF RX3 15 3 1 := ⟨_, _, _, rfl, by decide, Or.inl (TB_in (List.mem_of_getElem? (i := 89) (by decide +kernel)) rfl)⟩
theorem kf_X2_9 : LkF RX2 9 2 0 := ⟨_, _, _, rfl, by decide, Or.inl (TB_in (List.mem_of_getElem? (i := 104) (by decide +kernel)) rfl)⟩
theorem kF_X2_9 : Cond.fieldLink RX2 9 (TX2 0).1 (TX2 0).2.1 (TX2 0).2.2.1 ∈ TB := TB_in (List.mem_of_getElem? (i := 104) (by decide +kernel)) rfl
theorem kf_X2_49 : LkF RX2 49 2 1 := ⟨_, _, _, rfl, by decide, Or.inl (TB_in (List.mem_of_getElem? (i := 105) (by decide +kernel)) rfl)⟩
theorem kf_X0_9 : LkF RX0 9 0 0 := ⟨_, _, _, rfl, by decide, Or.inl (TB_in (List.mem_of_getElem? (i := 117) (by decide +kernel)) rfl)⟩
theorem kF_X0_9 : Cond.fieldLink RX0 9 (TX0 0).1 (TX0 0).2.1 (TX0 0).2.2.1 ∈ TB := TB_in (List.mem_of_getElem? (i := 117) (by decide +kernel)) rfl
theorem kf_X0_15 : LkF RX0 15 0 1 := ⟨_, _, _, rfl, by decide, Or.inl (TB_in (List.mem_of_getElem? (i := 119) (by decide +kernel)) rfl)⟩
theorem kF_X0_15 : Cond.fieldLink RX0 15 (TX0 1).1 (TX0 1).2.1 (TX0 1).2.2.1 ∈ TB := TB_in (List.mem_of_getElem? (i := 119) (by decide +kernel)) rfl
theorem kf_X0_18 : LkF RX0 18 0 2 := ⟨_, _, _, rfl, by decide, Or.inl (TB_in (List.mem_of_getElem? (i := 121) (by decide +kernel)) rfl)⟩
theorem kF_X0_18 : Cond.fieldLink RX0 18 (TX0 2).1 (TX0 2).2.1 (TX0 2).2.2.1 ∈ TB := TB_in (List.mem_of_getElem? (i := 121) (by decide +kernel)) rfl
theorem kf_X0_21 : LkF RX0 21 0 3 := ⟨_, _, _, rfl, by decide, Or.inl (TB_in (List.mem_of_getElem? (i := 123) (by decide +kernel)) rfl)⟩
theorem kF_X0_21 : Cond.fieldLink RX0 21 (TX0 3).1 (TX0 3).2.1 (TX0 3).2.2.1 ∈ TB := TB_in (List.mem_of_getElem? (i := 123) (by decide +kernel)) rfl
theorem kf_X0_24 : LkF RX0 24 0 4 := ⟨_, _, _, rfl, by decide, Or.inl (TB_in (List.mem_of_getElem? (i := 125) (by decide +kernel)) rfl)⟩
theorem kF_X0_24 : Cond.fieldLink RX0 24 (TX0 4).1 (TX0 4).2.1 (TX0 4).2.2.1 ∈ TB := TB_in (List.mem_of_getElem? (i := 125) (by decide +kernel)) rfl
theorem kf_X0_27 : LkF RX0 27 0 5 := ⟨_, _, _, rfl, by decide, Or.inl (TB_in (List.mem_of_getElem? (i := 126) (by decide +kernel)) rfl)⟩
theorem kf_X0_31 : LkF RX0 31 0 6 := ⟨_, _, _, rfl, by decide, Or.inl (TB_in (List.mem_of_getElem? (i := 128) (by decide +kernel)) rfl)⟩
theorem kf_X0_34 : LkF RX0 34 0 7 := ⟨_, _, _, rfl, by decide, Or.inl (TB_in (List.mem_of_getElem? (i := 131) (by decide +kernel)) rfl)⟩
theorem kf_X1_9 : LkF RX1 9 1 0 := ⟨_, _, _, rfl, by decide, Or.inl (TB_in (List.mem_of_getElem? (i := 156) (by decide +kernel)) rfl)⟩
theorem kF_X1_9 : Cond.fieldLink RX1 9 (TX1 0).1 (TX1 0).2.1 (TX1 0).2.2.1 ∈ TB := TB_in (List.mem_of_getElem? (i := 156) (by decide +kernel)) rfl
theorem kf_X1_15 : LkF RX1 15 1 1 := ⟨_, _, _, rfl, by decide, Or.inl (TB_in (List.mem_of_getElem? (i := 158) (by decide +kernel)) rfl)⟩
theorem kf_X1_19 : LkF RX1 19 1 2 := ⟨_, _, _, rfl, by decide, Or.inl (TB_in (List.mem_of_getElem? (i := 160) (by decide +kernel)) rfl)⟩
theorem kf_X4_15 : LkF RX4 15 4 0 := ⟨_, _, _, rfl, by decide, Or.inl (TB_in (List.mem_of_getElem? (i := 181) (by decide +kernel)) rfl)⟩
theorem kF_X4_15 : Cond.fieldLink RX4 15 (TX4 0).1 (TX4 0).2.1 (TX4 0).2.2.1 ∈ TB := TB_in (List.mem_of_getElem? (i := 181) (by decide +kernel)) rfl
theorem kf_X4_26 : LkF RX4 26 4 1 := ⟨_, _, _, rfl, by decide, Or.inl (TB_in (List.mem_of_getElem? (i := 182) (by decide +kernel)) rfl)⟩
theorem kf_X4_22 : LkF RX4 22 4 2 := ⟨_, _, _, rfl, by decide, Or.inl (TB_in (List.mem_of_getElem? (i := 183) (by decide +kernel)) rfl)⟩
theorem kf_X5_9 : LkF RX5 9 5 0 := ⟨_, _, _, rfl, by decide, Or.inl (TB_in (List.mem_of_getElem? (i := 198) (by decide +kernel)) rfl)⟩
theorem kF_X5_9 : Cond.fieldLink RX5 9 (TX5 0).1 (TX5 0).2.1 (TX5 0).2.2.1 ∈ TB := TB_in (List.mem_of_getElem? (i := 198) (by decide +kernel)) rfl
theorem kf_X5_15 : LkF RX5 15 5 1 := ⟨_, _, _, rfl, by decide, Or.inl (TB_in (List.mem_of_getElem? (i := 199) (by decide +kernel)) rfl)⟩
theorem kF_X5_15 : Cond.fieldLink RX5 15 (TX5 1).1 (TX5 1).2.1 (TX5 1).2.2.1 ∈ TB := TB_in (List.mem_of_getElem? (i := 199) (by decide +kernel)) rfl
theorem kf_X5_18 : LkF RX5 18 5 2 := ⟨_, _, _, rfl, by decide, Or.inl (TB_in (List.mem_of_getElem? (i := 201) (by decide +kernel)) rfl)⟩
theorem kF_X5_18 : Cond.fieldLink RX5 18 (TX5 2).1 (TX5 2).2.1 (TX5 2).2.2.1 ∈ TB := TB_in (List.mem_of_getElem? (i := 201) (by decide +kernel)) rfl
theorem kf_X5_21 : LkF RX5 21 5 3 := ⟨_, _, _, rfl, by decide, Or.inl (TB_in (List.mem_of_getElem? (i := 203) (by decide +kernel)) rfl)⟩
theorem kf_X5_74 : LkF RX5 74 5 4 := ⟨_, _, _, rfl, by decide, Or.inl (TB_in (List.mem_of_getElem? (i := 205) (by decide +kernel)) rfl)⟩
theorem kf_X5_77 : LkF RX5 77 5 5 := ⟨_, _, _, rfl, by decide, Or.inl (TB_in (List.mem_of_getElem? (i := 207) (by decide +kernel)) rfl)⟩
theorem kf_X5_86 : LkF RX5 86 5 6 := ⟨_, _, _, rfl, by decide, Or.inl (TB_in (List.mem_of_getElem? (i := 209) (by decide +kernel)) rfl)⟩
theorem kf_X5_25 : LkF RX5 25 5 7 := ⟨_, _, _, rfl, by decide, Or.inl (TB_in (List.mem_of_getElem? (i := 211) (by decide +kernel)) rfl)⟩
theorem kf_X5_28 : LkF RX5 28 5 8 := ⟨_, _, _, rfl, by decide, Or.inl (TB_in (List.mem_of_getElem? (i := 213) (by decide +kernel)) rfl)⟩
theorem kf_X5_31 : LkF RX5 31 5 9 := ⟨_, _, _, rfl, by decide, Or.inl (TB_in (List.mem_of_getElem? (i := 215) (by decide +kernel)) rfl)⟩
theorem kf_X6_10 : LkF RX6 10 6 0 := ⟨_, _, _, rfl, by decide, Or.inl (TB_in (List.mem_of_getElem? (i := 368) (by decide +kernel)) rfl)⟩
theorem kF_X6_10 : Cond.fieldLink RX6 10 (TX6 0).1 (TX6 0).2.1 (TX6 0).2.2.1 ∈ TB := TB_in (List.mem_of_getElem? (i := 368) (by decide +kernel)) rfl
theorem kf_X6_19 : LkF RX6 19 6 1 := ⟨_, _, _, rfl, by decide, Or.inl (TB_in (List.mem_of_getElem? (i := 369) (by decide +kernel)) rfl)⟩
theorem kF_X6_19 : Cond.fieldLink RX6 19 (TX6 1).1 (TX6 1).2.1 (TX6 1).2.2.1 ∈ TB := TB_in (List.mem_of_getElem? (i := 369) (by decide +kernel)) rfl
theorem kf_X6_26 : LkF RX6 26 6 2 := ⟨_, _, _, rfl, by decide, Or.inl (TB_in (List.mem_of_getElem? (i := 370) (by decide +kernel)) rfl)⟩
theorem kF_X6_26 : Cond.fieldLink RX6 26 (TX6 2).1 (TX6 2).2.1 (TX6 2).2.2.1 ∈ TB := TB_in (List.mem_of_getElem? (i := 370) (by decide +kernel)) rfl
theorem kf_X6_30 : LkF RX6 30 6 3 := ⟨_, _, _, rfl, by decide, Or.inl (TB_in (List.mem_of_getElem? (i := 371) (by decide +kernel)) rfl)⟩
theorem kF_X6_30 : Cond.fieldLink RX6 30 (TX6 3).1 (TX6 3).2.1 (TX6 3).2.2.1 ∈ TB := TB_in (List.mem_of_getElem? (i := 371) (by decide +kernel)) rfl
theorem kf_X6_36 : LkF RX6 36 6 4 := ⟨_, _, _, rfl, by decide, Or.inl (TB_in (List.mem_of_getElem? (i := 372) (by decide +kernel)) rfl)⟩
theorem kF_X6_36 : Cond.fieldLink RX6 36 (TX6 4).1 (TX6 4).2.1 (TX6 4).2.2.1 ∈ TB := TB_in (List.mem_of_getElem? (i := 372) (by decide +kernel)) rfl
theorem kf_X6_45 : LkF RX6 45 6 5 := ⟨_, _, _, rfl, by decide, Or.inl (TB_in (List.mem_of_getElem? (i := 373) (by decide +kernel)) rfl)⟩
theorem kF_X6_45 : Cond.fieldLink RX6 45 (TX6 5).1 (TX6 5).2.1 (TX6 5).2.2.1 ∈ TB := TB_in (List.mem_of_getElem? (i := 373) (by decide +kernel)) rfl
theorem kf_X6_49 : LkF RX6 49 6 6 := ⟨_, _, _, rfl, by decide, Or.inl (TB_in (List.mem_of_getElem? (i := 374) (by decide +kernel)) rfl)⟩
theorem kF_X6_49 : Cond.fieldLink RX6 49 (TX6 6).1 (TX6 6).2.1 (TX6 6).2.2.1 ∈ TB := TB_in (List.mem_of_getElem? (i := 374) (by decide +kernel)) rfl
theorem kf_X6_55 : LkF RX6 55 6 7 := ⟨_, _, _, rfl, by decide, Or.inl (TB_in (List.mem_of_getElem? (i := 375) (by decide +kernel)) rfl)⟩
theorem kF_X6_55 : Cond.fieldLink RX6 55 (TX6 7).1 (TX6 7).2.1 (TX6 7).2.2.1 ∈ TB := TB_in (List.mem_of_getElem? (i := 375) (by decide +kernel)) rfl
theorem kf_X6_59 : LkF RX6 59 6 8 := ⟨_, _, _, rfl, by decide, Or.inl (TB_in (List.mem_of_getElem? (i := 376) (by decide +kernel)) rfl)⟩
theorem kF_X6_59 : Cond.fieldLink RX6 59 (TX6 8).1 (TX6 8).2.1 (TX6 8).2.2.1 ∈ TB := TB_in (List.mem_of_getElem? (i := 376) (by decide +kernel)) rfl
theorem kf_X7_7 : LkF RX7 7 7 0 := ⟨_, _, _, rfl, by decide, Or.inl (TB_in (List.mem_of_getElem? (i := 683) (by decide +kernel)) rfl)⟩
theorem kF_X7_7 : Cond.fieldLink RX7 7 (TX7 0).1 (TX7 0).2.1 (TX7 0).2.2.1 ∈ TB := TB_in (List.mem_of_getElem? (i := 683) (by decide +kernel)) rfl
theorem kf_X7_86 : LkF RX7 86 7 1 := ⟨_, _, _, rfl, by decide, Or.inl (TB_in (List.mem_of_getElem? (i := 684) (by decide +kernel)) rfl)⟩
theorem kf_X7_13 : LkF RX7 13 7 2 := ⟨_, _, _, rfl, by decide, Or.inl (TB_in (List.mem_of_getElem? (i := 685) (by decide +kernel)) rfl)⟩
theorem kF_X7_13 : Cond.fieldLink RX7 13 (TX7 2).1 (TX7 2).2.1 (TX7 2).2.2.1 ∈ TB := TB_in (List.mem_of_getElem? (i := 685) (by decide +kernel)) rfl
theorem kf_X7_17 : LkF RX7 17 7 3 := ⟨_, _, _, rfl, by decide, Or.inl (TB_in (List.mem_of_getElem? (i := 686) (by decide +kernel)) rfl)⟩
theorem kF_X7_17 : Cond.fieldLink RX7 17 (TX7 3).1 (TX7 3).2.1 (TX7 3).2.2.1 ∈ TB := TB_in (List.mem_of_getElem? (i := 686) (by decide +kernel)) rfl
theorem kf_X7_20 : LkF RX7 20 7 4 := ⟨_, _, _, rfl, by decide, Or.inl (TB_in (List.mem_of_getElem? (i := 687) (by decide +kernel)) rfl)⟩
theorem kF_X7_20 : Cond.fieldLink RX7 20 (TX7 4).1 (TX7 4).2.1 (TX7 4).2.2.1 ∈ TB := TB_in (List.mem_of_getElem? (i := 687) (by decide +kernel)) rfl
theorem kf_X7_23 : LkF RX7 23 7 5 := ⟨_, _, _, rfl, by decide, Or.inl (TB_in (List.mem_of_getElem? (i := 688) (by decide +kernel)) rfl)⟩
theorem kF_X7_23 : Cond.fieldLink RX7 23 (TX7 5).1 (TX7 5).2.1 (TX7 5).2.2.1 ∈ TB := TB_in (List.mem_of_getElem? (i := 688) (by decide +kernel)) rfl
theorem kf_X7_26 : LkF RX7 26 7 6 := ⟨_, _, _, rfl, by decide, Or.inl (TB_in (List.mem_of_getElem? (i := 689) (by decide +kernel)) rfl)⟩
theorem kF_X7_26 : Cond.fieldLink RX7 26 (TX7 6).1 (TX7 6).2.1 (TX7 6).2.2.1 ∈ TB := TB_in (List.mem_of_getElem? (i := 689) (by decide +kernel)) rfl
theorem kf_X7_29 : LkF RX7 29 7 7 := ⟨_, _, _, rfl, by decide, Or.inl (TB_in (List.mem_of_getElem? (i := 690) (by decide +kernel)) rfl)⟩
theorem kF_X7_29 : Cond.fieldLink RX7 29 (TX7 7).1 (TX7 7).2.1 (TX7 7).2.2.1 ∈ TB := TB_in (List.mem_of_getElem? (i := 690) (by decide +kernel)) rfl
theorem kf_X7_32 : LkF RX7 32 7 8 := ⟨_, _, _, rfl, by decide, Or.inl (TB_in (List.mem_of_getElem? (i := 691) (by decide +kernel)) rfl)⟩
theorem kF_X7_32 : Cond.fieldLink RX7 32 (TX7 8).1 (TX7 8).2.1 (TX7 8).2.2.1 ∈ TB := TB_in (List.mem_of_getElem? (i := 691) (by decide +kernel)) rfl
theorem kf_X7_35 : LkF RX7 35 7 9 := ⟨_, _, _, rfl, by decide, Or.inl (TB_in (List.mem_of_getElem? (i := 692) (by decide +kernel)) rfl)⟩
theorem kF_X7_35 : Cond.fieldLink RX7 35 (TX7 9).1 (TX7 9).2.1 (TX7 9).2.2.1 ∈ TB := TB_in (List.mem_of_getElem? (i := 692) (by decide +kernel)) rfl
theorem kf_X7_90 : LkF RX7 90 7 10 := ⟨_, _, _, rfl, by decide, Or.inl (TB_in (List.mem_of_getElem? (i := 693) (by decide +kernel)) rfl)⟩
theorem kf_X7_97 : LkF RX7 97 7 11 := ⟨_, _, _, rfl, by decide, Or.inl (TB_in (List.mem_of_getElem? (i := 694) (by decide +kernel)) rfl)⟩
theorem kf_X7_38 : LkF RX7 38 7 12 := ⟨_, _, _, rfl, by decide, Or.inl (TB_in (List.mem_of_getElem? (i := 695) (by decide +kernel)) rfl)⟩
theorem kF_X7_38 : Cond.fieldLink RX7 38 (TX7 12).1 (TX7 12).2.1 (TX7 12).2.2.1 ∈ TB := TB_in (List.mem_of_getElem? (i := 695) (by decide +kernel)) rfl
theorem kf_X7_112 : LkF RX7 112 7 13 := ⟨_, _, _, rfl, by decide, Or.inl (TB_in (List.mem_of_getElem? (i := 696) (by decide +kernel)) rfl)⟩
theorem kf_X7_115 : LkF RX7 115 7 14 := ⟨_, _, _, rfl, by decide, Or.inl (TB_in (List.mem_of_getElem? (i := 697) (by decide +kernel)) rfl)⟩
theorem kf_X7_41 : LkF RX7 41 7 15 := ⟨_, _, _, rfl, by decide, Or.inl (TB_in (List.mem_of_getElem? (i := 698) (by decide +kernel)) rfl)⟩
theorem kF_X7_41 : Cond.fieldLink RX7 41 (TX7 15).1 (TX7 15).2.1 (TX7 15).2.2.1 ∈ TB := TB_in (List.mem_of_getElem? (i := 698) (by decide +kernel)) rfl
theorem kf_X7_44 : LkF RX7 44 7 16 := ⟨_, _, _, rfl, by decide, Or.inl (TB_in (List.mem_of_getElem? (i := 699) (by decide +kernel)) rfl)⟩
theorem kF_X7_44 : Cond.fieldLink RX7 44 (TX7 16).1 (TX7 16).2.1 (TX7 16).2.2.1 ∈ TB := TB_in (List.mem_of_getElem? (i := 699) (by decide +kernel)) rfl
theorem kf_X7_47 : LkF RX7 47 7 17 := ⟨_, _, _, rfl, by decide, Or.inl (TB_in (List.mem_of_getElem? (i := 700) (by decide +kernel)) rfl)⟩
theorem kF_X7_47 : Cond.fieldLink RX7 47 (TX7 17).1 (TX7 17).2.1 (TX7 17).2.2.1 ∈ TB := TB_in (List.mem_of_getElem? (i := 700) (by decide +kernel)) rfl
theorem kf_X7_50 : LkF RX7 50 7 18 := ⟨_, _, _, rfl, by decide, Or.inl (TB_in (List.mem_of_getElem? (i := 701) (by decide +kernel)) rfl)⟩
theorem kF_X7_50 : Cond.fieldLink RX7 50 (TX7 18).1 (TX7 18).2.1 (TX7 18).2.2.1 ∈ TB := TB_in (List.mem_of_getElem? (i := 701) (by decide +kernel)) rfl
theorem kf_X7_53 : LkF RX7 53 7 19 := ⟨_, _, _, rfl, by decide, Or.inl (TB_in (List.mem_of_getElem? (i := 702) (by decide +kernel)) rfl)⟩
theorem kF_X7_53 : Cond.fieldLink RX7 53 (TX7 19).1 (TX7 19).2.1 (TX7 19).2.2.1 ∈ TB := TB_in (List.mem_of_getElem? (i := 702) (by decide +kernel)) rfl
theorem kf_X7_56 : LkF RX7 56 7 20 := ⟨_, _, _, rfl, by decide, Or.inl (TB_in (List.mem_of_getElem? (i := 703) (by decide +kernel)) rfl)⟩
theorem kF_X7_56 : Cond.fieldLink RX7 56 (TX7 20).1 (TX7 20).2.1 (TX7 20).2.2.1 ∈ TB := TB_in (List.mem_of_getElem? (i := 703) (by decide +kernel)) rfl
theorem kf_X7_59 : LkF RX7 59 7 21 := ⟨_, _, _, rfl, by decide, Or.inl (TB_in (List.mem_of_getElem? (i := 704) (by decide +kernel)) rfl)⟩
theorem kF_X7_59 : Cond.fieldLink RX7 59 (TX7 21).1 (TX7 21).2.1 (TX7 21).2.2.1 ∈ TB := TB_in (List.mem_of_getElem? (i := 704) (by decide +kernel)) rfl
theorem kf_X7_62 : LkF RX7 62 7 22 := ⟨_, _, _, rfl, by decide, Or.inl (TB_in (List.mem_of_getElem? (i := 705) (by decide +kernel)) rfl)⟩
theorem kF_X7_62 : Cond.fieldLink RX7 62 (TX7 22).1 (TX7 22).2.1 (TX7 22).2.2.1 ∈ TB := TB_in (List.mem_of_getElem? (i := 705) (by decide +kernel)) rfl
theorem kf_X7_65 : LkF RX7 65 7 23 := ⟨_, _, _, rfl, by decide, Or.inl (TB_in (List.mem_of_getElem? (i := 706) (by decide +kernel)) rfl)⟩
theorem kF_X7_65 : Cond.fieldLink RX7 65 (TX7 23).1 (TX7 23).2.1 (TX7 23).2.2.1 ∈ TB := TB_in (List.mem_of_getElem? (i := 706) (by decide +kernel)) rfl
theorem kf_X7_68 : LkF RX7 68 7 24 := ⟨_, _, _, rfl, by decide, Or.inl (TB_in (List.mem_of_getElem? (i := 707) (by decide +kernel)) rfl)⟩
theorem kF_X7_68 : Cond.fieldLink RX7 68 (TX7 24).1 (TX7 24).2.1 (TX7 24).2.2.1 ∈ TB := TB_in (List.mem_of_getElem? (i := 707) (by decide +kernel)) rfl
theorem kf_X7_173 : LkF RX7 173 7 25 := ⟨_, _, _, rfl, by decide, Or.inl (TB_in (List.mem_of_getElem? (i := 708) (by decide +kernel)) rfl)⟩
theorem kf_X2_20 : LkF RX2 20 3 1 := ⟨_, _, _, rfl, by decide, Or.inr ⟨"HeardBackward", NB_in (List.mem_of_getElem? (i := 90) (by decide +kernel)) rfl⟩⟩
theorem kf_X6_83 : LkF RX6 83 3 1 := ⟨_, _, _, rfl, by decide, Or.inr ⟨"HeardBackward", NB_in (List.mem_of_getElem? (i := 91) (by decide +kernel)) rfl⟩⟩
theorem kf_X6_102 : LkF RX6 102 0 0 := ⟨_, _, _, rfl, by decide, Or.inr ⟨"HeardBackward", NB_in (List.mem_of_getElem? (i := 118) (by decide +kernel)) rfl⟩⟩
theorem kf_X6_110 : LkF RX6 110 0 1 := ⟨_, _, _, rfl, by decide, Or.inr ⟨"HeardBackward", NB_in (List.mem_of_getElem? (i := 120) (by decide +kernel)) rfl⟩⟩
theorem kf_X6_113 : LkF RX6 113 0 2 := ⟨_, _, _, rfl, by decide, Or.inr ⟨"HeardBackward", NB_in (List.mem_of_getElem? (i := 122) (by decide +kernel)) rfl⟩⟩
theorem kf_X6_123 : LkF RX6 123 0 3 := ⟨_, _, _, rfl, by decide, Or.inr ⟨"HeardBackward", NB_in (List.mem_of_getElem? (i := 124) (by decide +kernel)) rfl⟩⟩
theorem kf_X6_96 : LkF RX6 96 0 5 := ⟨_, _, _, rfl, by decide, Or.inr ⟨"HeardBackward", NB_in (List.mem_of_getElem? (i := 127) (by decide +kernel)) rfl⟩⟩
theorem kf_X6_87 : LkF RX6 87 0 6 := ⟨_, _, _, rfl, by decide, Or.inr ⟨"HeardBackward", NB_in (List.mem_of_getElem? (i := 129) (by decide +kernel)) rfl⟩⟩
theorem kf_X1_40 : LkF RX1 40 0 6 := ⟨_, _, _, rfl, by decide, Or.inr ⟨"HeardBackward", NB_in (List.mem_of_getElem? (i := 130) (by decide +kernel)) rfl⟩⟩
theorem kf_X6_237 : LkF RX6 237 0 7 := ⟨_, _, _, rfl, by decide, Or.inr ⟨"HeardBackward", NB_in (List.mem_of_getElem? (i := 132) (by decide +kernel)) rfl⟩⟩
theorem kf_X6_156 : LkF RX6 156 1 0 := ⟨_, _, _, rfl, by decide, Or.inr ⟨"HeardBackward", NB_in (List.mem_of_getElem? (i := 157) (by decide +kernel)) rfl⟩⟩
theorem kf_X6_142 : LkF RX6 142 1 1 := ⟨_, _, _, rfl, by decide, Or.inr ⟨"HeardBackward", NB_in (List.mem_of_getElem? (i := 159) (by decide +kernel)) rfl⟩⟩
theorem kf_X6_126 : LkF RX6 126 1 2 := ⟨_, _, _, rfl, by decide, Or.inr ⟨"HeardBackward", NB_in (List.mem_of_getElem? (i := 161) (by decide +kernel)) rfl⟩⟩
theorem kf_X6_155 : LkF RX6 155 4 2 := ⟨_, _, _, rfl, by decide, Or.inr ⟨"HeardBackward", NB_in (List.mem_of_getElem? (i := 184) (by decide +kernel)) rfl⟩⟩
theorem kf_X6_182 : LkF RX6 182 5 1 := ⟨_, _, _, rfl, by decide, Or.inr ⟨"HeardBackward", NB_in (List.mem_of_getElem? (i := 200) (by decide +kernel)) rfl⟩⟩
theorem kf_X6_197 : LkF RX6 197 5 2 := ⟨_, _, _, rfl, by decide, Or.inr ⟨"HeardBackward", NB_in (List.mem_of_getElem? (i := 202) (by decide +kernel)) rfl⟩⟩
theorem kf_X6_173 : LkF RX6 173 5 3 := ⟨_, _, _, rfl, by decide, Or.inr ⟨"HeardBackward", NB_in (List.mem_of_getElem? (i := 204) (by decide +kernel)) rfl⟩⟩
theorem kf_X6_176 : LkF RX6 176 5 4 := ⟨_, _, _, rfl, by decide, Or.inr ⟨"HeardBackward", NB_in (List.mem_of_getElem? (i := 206) (by decide +kernel)) rfl⟩⟩
theorem kf_X6_179 : LkF RX6 179 5 5 := ⟨_, _, _, rfl, by decide, Or.inr ⟨"HeardBackward", NB_in (List.mem_of_getElem? (i := 208) (by decide +kernel)) rfl⟩⟩
theorem kf_X6_203 : LkF RX6 203 5 6 := ⟨_, _, _, rfl, by decide, Or.inr ⟨"HeardBackward", NB_in (List.mem_of_getElem? (i := 210) (by decide +kernel)) rfl⟩⟩
theorem kf_X6_185 : LkF RX6 185 5 7 := ⟨_, _, _, rfl, by decide, Or.inr ⟨"HeardBackward", NB_in (List.mem_of_getElem? (i := 212) (by decide +kernel)) rfl⟩⟩
theorem kf_X6_188 : LkF RX6 188 5 8 := ⟨_, _, _, rfl, by decide, Or.inr ⟨"HeardBackward", NB_in (List.mem_of_getElem? (i := 214) (by decide +kernel)) rfl⟩⟩
theorem kf_X6_191 : LkF RX6 191 5 9 := ⟨_, _, _, rfl, by decide, Or.inr ⟨"HeardBackward", NB_in (List.mem_of_getElem? (i := 216) (by decide +kernel)) rfl⟩⟩
theorem kC_L_7 : Cond.classLink RL 7 RX6 ∈ TB := TB_in (List.mem_of_getElem? (i := 74) (by decide +kernel)) rfl
theorem kC_X6_7 : Cond.classLink RX6 7 RX3 ∈ TB := TB_in (List.mem_of_getElem? (i := 82) (by decide +kernel)) rfl
theorem kC_X6_16 : Cond.classLink RX6 16 RX2 ∈ TB := TB_in (List.mem_of_getElem? (i := 98) (by decide +kernel)) rfl
theorem kC_X6_23 : Cond.classLink RX6 23 RX0 ∈ TB := TB_in (List.mem_of_getElem? (i := 111) (by decide +kernel)) rfl
theorem kC_X6_33 : Cond.classLink RX6 33 RX1 ∈ TB := TB_in (List.mem_of_getElem? (i := 150) (by decide +kernel)) rfl
theorem kC_X6_40 : Cond.classLink RX6 40 RX4 ∈ TB := TB_in (List.mem_of_getElem? (i := 169) (by decide +kernel)) rfl
theorem kC_X4_13 : Cond.classLink RX4 13 RX1 ∈ TB := TB_in (List.mem_of_getElem? (i := 178) (by decide +kernel)) rfl
theorem kC_X6_52 : Cond.classLink RX6 52 RX5 ∈ TB := TB_in (List.mem_of_getElem? (i := 192) (by decide +kernel)) rfl
theorem kC_L_10 : Cond.classLink RL 10 RX7 ∈ TB := TB_in (List.mem_of_getElem? (i := 665) (by decide +kernel)) rfl
theorem kT_X6 : Cond.instantiable RX6 9 ∈ TB := TB_in (List.mem_of_getElem? (i := 75) (by decide +kernel)) rfl
theorem kT_X3 : Cond.instantiable RX3 2 ∈ TB := TB_in (List.mem_of_getElem? (i := 83) (by decide +kernel)) rfl
theorem kT_X2 : Cond.instantiable RX2 2 ∈ TB := TB_in (List.mem_of_getElem? (i := 99) (by decide +kernel)) rfl
theorem kT_X0 : Cond.instantiable RX0 8 ∈ TB := TB_in (List.mem_of_getElem? (i := 112) (by decide +kernel)) rfl
theorem kT_X1 : Cond.instantiable RX1 3 ∈ TB := TB_in (List.mem_of_getElem? (i := 151) (by decide +kernel)) rfl
theorem kT_X4 : Cond.instantiable RX4 3 ∈ TB := TB_in (List.mem_of_getElem? (i := 170) (by decide +kernel)) rfl
theorem kT_X5 : Cond.instantiable RX5 10 ∈ TB := TB_in (List.mem_of_getElem? (i := 193) (by decide +kernel)) rfl
theorem kT_X7 : Cond.instantiable RX7 26 ∈ TB := TB_in (List.mem_of_getElem? (i := 666) (by decide +kernel)) rfl
theorem kK_J6_265 : Cond.constant RJ6 265 (1431655765) ∈ TB := TB_in (List.mem_of_getElem? (i := 622) (by decide +kernel)) rfl
theorem kK_J6_266 : Cond.constant RJ6 266 (858993459) ∈ TB := TB_in (List.mem_of_getElem? (i := 623) (by decide +kernel)) rfl
theorem kK_J6_267 : Cond.constant RJ6 267 (252645135) ∈ TB := TB_in (List.mem_of_getElem? (i := 624) (by decide +kernel)) rfl
theorem kK_X7_144 : Cond.constant RX7 144 (100000) ∈ TB := TB_in (List.mem_of_getElem? (i := 875) (by decide +kernel)) rfl
theorem kK_X6_244 : Cond.constantLong RX6 244 (7919) ∈ TB := TB_in (List.mem_of_getElem? (i := 646) (by decide +kernel)) rfl
theorem kK_X6_246 : Cond.constantLong RX6 246 (6151) ∈ TB := TB_in (List.mem_of_getElem? (i := 647) (by decide +kernel)) rfl
theorem kK_X6_248 : Cond.constantLong RX6 248 (65521) ∈ TB := TB_in (List.mem_of_getElem? (i := 648) (by decide +kernel)) rfl
theorem kK_X6_250 : Cond.constantLong RX6 250 (4) ∈ TB := TB_in (List.mem_of_getElem? (i := 649) (by decide +kernel)) rfl
theorem kK_X7_185 : Cond.constantLong RX7 185 (7919) ∈ TB := TB_in (List.mem_of_getElem? (i := 958) (by decide +kernel)) rfl
theorem kK_X7_187 : Cond.constantLong RX7 187 (6151) ∈ TB := TB_in (List.mem_of_getElem? (i := 959) (by decide +kernel)) rfl
theorem kK_X7_189 : Cond.constantLong RX7 189 (65521) ∈ TB := TB_in (List.mem_of_getElem? (i := 960) (by decide +kernel)) rfl
theorem kY_I : Cond.arrayClass .int ∈ TB := TB_in (List.mem_of_getElem? (i := 97) (by decide +kernel)) rfl
theorem kY_B : Cond.arrayClass .byte ∈ TB := TB_in (List.mem_of_getElem? (i := 396) (by decide +kernel)) rfl
theorem kM_obj : Cond.instanceMethod objectInit ∈ TB := TB_in (List.mem_of_getElem? (i := 80) (by decide +kernel)) rfl
theorem kc_obj : Cond.code objectInit ⟨#[0xb1]⟩ 1 none ∈ TB := TB_in (List.mem_of_getElem? (i := 81) (by decide +kernel)) rfl
theorem kn_copy : Cond.native arraycopyName ∈ TB := TB_in (List.mem_of_getElem? (i := 421) (by decide +kernel)) rfl
theorem ks_copy : Cond.static arraycopyName ∈ TB := TB_in (List.mem_of_getElem? (i := 420) (by decide +kernel)) rfl
theorem kXs_max : Cond.static Lib.Math.max.name ∈ TB := TB_in (List.mem_of_getElem? (i := 176) (by decide +kernel)) rfl
theorem kXc_max : Cond.code Lib.Math.max.name Lib.Math.max.code 2 (some .int) ∈ TB := TB_in (List.mem_of_getElem? (i := 177) (by decide +kernel)) rfl
theorem kXs_min : Cond.static Lib.Math.min.name ∈ TB := TB_in (List.mem_of_getElem? (i := 478) (by decide +kernel)) rfl
theorem kXc_min : Cond.code Lib.Math.min.name Lib.Math.min.code 2 (some .int) ∈ TB := TB_in (List.mem_of_getElem? (i := 479) (by decide +kernel)) rfl
theorem ki_copy : Cond.initialized "java/lang/System" ∈ TB := TB_in (List.mem_of_getElem? (i := 72) (by decide +kernel)) rfl
