def yW_ordinal : MethodName := ⟨"SignalRoad$Word", "ordinal", "()I"⟩
theorem in_X1 : ∀ w ∈ u_ws RX1 TX1 3, w ∈ UW := by
  have h : (u_ws RX1 TX1 3).all (fun w => decide (w ∈ tables_1) && goodWord w) = true := by decide +kernel
  intro w hw
  have h2 := List.all_eq_true.mp h w hw
  simp only [Bool.and_eq_true, decide_eq_true_eq] at h2
  exact tbu h2.1 h2.2
theorem in_X2 : ∀ w ∈ u_ws RX2 TX2 18, w ∈ UW := by
  have h : (u_ws RX2 TX2 18).all (fun w => decide (w ∈ tables_1) && goodWord w) = true := by decide +kernel
  intro w hw
  have h2 := List.all_eq_true.mp h w hw
  simp only [Bool.and_eq_true, decide_eq_true_eq] at h2
  exact tbu h2.1 h2.2
theorem in_X3 : ∀ w ∈ u_ws RX3 TX3 5, w ∈ UW := by
  have h : (u_ws RX3 TX3 5).all (fun w => decide (w ∈ tables_1) && goodWord w) = true := by decide +kernel
  intro w hw
  have h2 := List.all_eq_true.mp h w hw
  simp only [Bool.and_eq_true, decide_eq_true_eq] at h2
  exact tbu h2.1 h2.2
theorem in_X4 : ∀ w ∈ u_ws RX4 TX4 2, w ∈ UW := by
  have h : (u_ws RX4 TX4 2).all (fun w => decide (w ∈ tables_1) && goodWord w) = true := by decide +kernel
  intro w hw
  have h2 := List.all_eq_true.mp h w hw
  simp only [Bool.and_eq_true, decide_eq_true_eq] at h2
  exact tbu h2.1 h2.2
theorem in_X5 : ∀ w ∈ u_ws RX5 TX5 8, w ∈ UW := by
  have h : (u_ws RX5 TX5 8).all (fun w => decide (w ∈ tables_1) && goodWord w) = true := by decide +kernel
  intro w hw
  have h2 := List.all_eq_true.mp h w hw
  simp only [Bool.and_eq_true, decide_eq_true_eq] at h2
  exact tbu h2.1 h2.2
theorem in_X6 : ∀ w ∈ u_ws RX6 TX6 5, w ∈ UW := by
  have h : (u_ws RX6 TX6 5).all (fun w => decide (w ∈ tables_1) && goodWord w) = true := by decide +kernel
  intro w hw
  have h2 := List.all_eq_true.mp h w hw
  simp only [Bool.and_eq_true, decide_eq_true_eq] at h2
  exact tbu h2.1 h2.2
theorem in_X7 : ∀ w ∈ u_ws RX7 TX7 1, w ∈ UW := by
  have h : (u_ws RX7 TX7 1).all (fun w => decide (w ∈ tables_1) && goodWord w) = true := by decide +kernel
  intro w hw
  have h2 := List.all_eq_true.mp h w hw
  simp only [Bool.and_eq_true, decide_eq_true_eq] at h2
  exact tbu h2.1 h2.2
theorem in_X9 : ∀ w ∈ u_ws RX9 TX9 11, w ∈ UW := by
  have h : (u_ws RX9 TX9 11).all (fun w => decide (w ∈ tables_1) && goodWord w) = true := by decide +kernel
  intro w hw
  have h2 := List.all_eq_true.mp h w hw
  simp only [Bool.and_eq_true, decide_eq_true_eq] at h2
  exact tbu h2.1 h2.2
theorem in_X10 : ∀ w ∈ u_ws RX10 TX10 22, w ∈ UW := by
  have h : (u_ws RX10 TX10 22).all (fun w => decide (w ∈ tables_1) && goodWord w) = true := by decide +kernel
  intro w hw
  have h2 := List.all_eq_true.mp h w hw
  simp only [Bool.and_eq_true, decide_eq_true_eq] at h2
  exact tbu h2.1 h2.2
theorem wc_J0_coder_7d493 : Cond.code yJ0_coder_7d493 cJ0_coder_7d493 1 (some .byte) ∈ UW := tbu (tb5 (List.mem_of_getElem? (i := 231) rfl)) rfl
theorem wi_J0_coder_7d493 : Cond.instanceMethod yJ0_coder_7d493 ∈ UW := tbu (tb5 (List.mem_of_getElem? (i := 229) rfl)) rfl
theorem wl_J0_coder_7d493 : Cond.selects RJ0 yJ0_coder_7d493 yJ0_coder_7d493 ∈ UW := tbu (tb5 (List.mem_of_getElem? (i := 230) rfl)) rfl
theorem wn_J0 : Cond.initialized RJ0 ∈ UW := tbu (tb1 (List.mem_of_getElem? (i := 22) rfl)) rfl
theorem wk_J0_335 : Cond.methodLink RJ0 335 yJ0_coder_7d493 ∈ UW := tbu (tb5 (List.mem_of_getElem? (i := 228) rfl)) rfl
theorem wc_J0_isLatin1_aae02 : Cond.code yJ0_isLatin1_aae02 cJ0_isLatin1_aae02 1 (some .boolean) ∈ UW := tbu (tb6 (List.mem_of_getElem? (i := 1) rfl)) rfl
theorem wi_J0_isLatin1_aae02 : Cond.instanceMethod yJ0_isLatin1_aae02 ∈ UW := tbu (tb5 (List.mem_of_getElem? (i := 239) rfl)) rfl
theorem wl_J0_isLatin1_aae02 : Cond.selects RJ0 yJ0_isLatin1_aae02 yJ0_isLatin1_aae02 ∈ UW := tbu (tb6 (List.mem_of_getElem? (i := 0) rfl)) rfl
theorem wk_J0_492 : Cond.methodLink RJ0 492 yJ0_isLatin1_aae02 ∈ UW := tbu (tb5 (List.mem_of_getElem? (i := 238) rfl)) rfl
theorem wc_J1_charAt_3b067 : Cond.code yJ1_charAt_3b067 cJ1_charAt_3b067 2 (some .char) ∈ UW := tbu (tb6 (List.mem_of_getElem? (i := 4) rfl)) rfl
theorem ws_J1_charAt_3b067 : Cond.static yJ1_charAt_3b067 ∈ UW := tbu (tb6 (List.mem_of_getElem? (i := 3) rfl)) rfl
theorem wn_J1 : Cond.initialized RJ1 ∈ UW := tbu (tb1 (List.mem_of_getElem? (i := 29) rfl)) rfl
theorem wk_J0_495 : Cond.methodLink RJ0 495 yJ1_charAt_3b067 ∈ UW := tbu (tb6 (List.mem_of_getElem? (i := 2) rfl)) rfl
theorem wc_J0_checkIndex_df160 : Cond.code yJ0_checkIndex_df160 cJ0_checkIndex_df160 2 none ∈ UW := tbu (tb6 (List.mem_of_getElem? (i := 7) rfl)) rfl
theorem ws_J0_checkIndex_df160 : Cond.static yJ0_checkIndex_df160 ∈ UW := tbu (tb6 (List.mem_of_getElem? (i := 6) rfl)) rfl
theorem wk_J1_9 : Cond.methodLink RJ1 9 yJ0_checkIndex_df160 ∈ UW := tbu (tb6 (List.mem_of_getElem? (i := 5) rfl)) rfl
theorem wc_J3_checkIndex_8e157 : Cond.code yJ3_checkIndex_8e157 cJ3_checkIndex_8e157 3 (some .int) ∈ UW := tbu (tb6 (List.mem_of_getElem? (i := 12) rfl)) rfl
theorem ws_J3_checkIndex_8e157 : Cond.static yJ3_checkIndex_8e157 ∈ UW := tbu (tb6 (List.mem_of_getElem? (i := 11) rfl)) rfl
theorem wn_J3 : Cond.initialized RJ3 ∈ UW := tbu (tb1 (List.mem_of_getElem? (i := 30) rfl)) rfl
theorem wk_J0_1059 : Cond.methodLink RJ0 1059 yJ3_checkIndex_8e157 ∈ UW := tbu (tb6 (List.mem_of_getElem? (i := 10) rfl)) rfl
theorem wf_J0_9 : Cond.fieldLink RJ0 9 "java/lang/String" "value" "[B" ∈ UW := tbu (tb8 (List.mem_of_getElem? (i := 162) rfl)) rfl
theorem wf_J0_15 : Cond.fieldLink RJ0 15 "java/lang/String" "coder" "B" ∈ UW := tbu (tb8 (List.mem_of_getElem? (i := 163) rfl)) rfl
theorem wf_J0_38 : Cond.fieldLink RJ0 38 "java/lang/String" "COMPACT_STRINGS" "Z" ∈ UW := tbu (tb5 (List.mem_of_getElem? (i := 232) rfl)) rfl
theorem wf_J0_1053 : Cond.fieldLink RJ0 1053 "jdk/internal/util/Preconditions" "SIOOBE_FORMATTER" "Ljava/util/function/BiFunction;" ∈ UW := tbu (tb6 (List.mem_of_getElem? (i := 8) rfl)) rfl
theorem wfn_X5_63 : Cond.fieldLinkNest RX5 63 "SignalRoad$Word" "ALL" "[LSignalRoad$Word;" "SignalRoad" ∈ NW := nw_mem (tb5 (List.mem_of_getElem? (i := 218) rfl)) rfl
theorem wf_X9_401 : Cond.fieldLink RX9 401 "SignalRoad$1" "$SwitchMap$SignalRoad$Word" "[I" ∈ UW := tbu (tb6 (List.mem_of_getElem? (i := 48) rfl)) rfl
theorem wf_X5_66 : Cond.fieldLink RX5 66 "SignalRoad$Word" "letters" "Ljava/lang/String;" ∈ UW := tbu (tb8 (List.mem_of_getElem? (i := 161) rfl)) rfl
theorem wf_X5_53 : Cond.fieldLink RX5 53 "SignalRoad$Word" "numbers" "I" ∈ UW := tbu (tb8 (List.mem_of_getElem? (i := 164) rfl)) rfl
theorem wf_Jx29ce0_7 : Cond.fieldLink RJx29ce0 7 "java/lang/Enum" "ordinal" "I" ∈ UW := tbu (tb8 (List.mem_of_getElem? (i := 165) rfl)) rfl
theorem wk_X9_406 : Cond.methodLink RX9 406 yW_ordinal ∈ UW := tbu (tb6 (List.mem_of_getElem? (i := 50) rfl)) rfl
theorem wsm_ord : Cond.sameMethod "SignalRoad$Word" "java/lang/Enum" "ordinal" "()I" ∈ UW := tbu (tb6 (List.mem_of_getElem? (i := 51) rfl)) rfl
theorem wsel_ord : Cond.selects "SignalRoad$Word" yW_ordinal yJx29ce0_ordinal_8abf5 ∈ UW := tbu (tb6 (List.mem_of_getElem? (i := 53) rfl)) rfl
theorem wi_ord : Cond.instanceMethod yJx29ce0_ordinal_8abf5 ∈ UW := tbu (tb6 (List.mem_of_getElem? (i := 54) rfl)) rfl
theorem wn_enum : Cond.initialized "java/lang/Enum" ∈ UW := tbu (tb1 (List.mem_of_getElem? (i := 27) rfl)) rfl
theorem wc_ord : Cond.code yJx29ce0_ordinal_8abf5 cJx29ce0_ordinal_8abf5 1 (some .int) ∈ UW := tbu (tb6 (List.mem_of_getElem? (i := 55) rfl)) rfl
theorem wf_X2_49 : Cond.fieldLink RX2 49 "SignalRoad$Junction" "position" "I" ∈ UW := tbu (tb1 (List.mem_of_getElem? (i := 57) rfl)) rfl
theorem wf_X2_52 : Cond.fieldLink RX2 52 "SignalRoad$Junction" "offset" "I" ∈ UW := tbu (tb1 (List.mem_of_getElem? (i := 62) rfl)) rfl
theorem wf_X2_55 : Cond.fieldLink RX2 55 "SignalRoad$Junction" "groupCount" "I" ∈ UW := tbu (tb1 (List.mem_of_getElem? (i := 67) rfl)) rfl
theorem wf_X2_58 : Cond.fieldLink RX2 58 "SignalRoad$Junction" "presentPlan" "I" ∈ UW := tbu (tb1 (List.mem_of_getElem? (i := 69) rfl)) rfl
theorem wf_X2_9 : Cond.fieldLink RX2 9 "SignalRoad$Junction" "plannedTime" "I" ∈ UW := tbu (tb1 (List.mem_of_getElem? (i := 73) rfl)) rfl
theorem wf_X2_61 : Cond.fieldLink RX2 61 "SignalRoad$Junction" "served" "I" ∈ UW := tbu (tb1 (List.mem_of_getElem? (i := 75) rfl)) rfl
theorem wf_X2_64 : Cond.fieldLink RX2 64 "SignalRoad$Junction" "waitedSeconds" "I" ∈ UW := tbu (tb1 (List.mem_of_getElem? (i := 76) rfl)) rfl
theorem wf_X2_67 : Cond.fieldLink RX2 67 "SignalRoad$Junction" "byRequestSet" "I" ∈ UW := tbu (tb1 (List.mem_of_getElem? (i := 77) rfl)) rfl
theorem wf_X2_70 : Cond.fieldLink RX2 70 "SignalRoad$Junction" "givenSet" "I" ∈ UW := tbu (tb1 (List.mem_of_getElem? (i := 78) rfl)) rfl
theorem wf_X2_15 : Cond.fieldLink RX2 15 "SignalRoad$Junction" "roadGroups" "[I" ∈ UW := tbu (tb1 (List.mem_of_getElem? (i := 79) rfl)) rfl
theorem wf_X2_19 : Cond.fieldLink RX2 19 "SignalRoad$Junction" "kinds" "[I" ∈ UW := tbu (tb1 (List.mem_of_getElem? (i := 82) rfl)) rfl
theorem wf_X2_22 : Cond.fieldLink RX2 22 "SignalRoad$Junction" "leasts" "[I" ∈ UW := tbu (tb1 (List.mem_of_getElem? (i := 84) rfl)) rfl
theorem wf_X2_25 : Cond.fieldLink RX2 25 "SignalRoad$Junction" "litSeconds" "[I" ∈ UW := tbu (tb1 (List.mem_of_getElem? (i := 87) rfl)) rfl
theorem wf_X2_28 : Cond.fieldLink RX2 28 "SignalRoad$Junction" "requestTimes" "[I" ∈ UW := tbu (tb1 (List.mem_of_getElem? (i := 89) rfl)) rfl
theorem wf_X2_31 : Cond.fieldLink RX2 31 "SignalRoad$Junction" "heads" "[I" ∈ UW := tbu (tb1 (List.mem_of_getElem? (i := 91) rfl)) rfl
theorem wf_X2_34 : Cond.fieldLink RX2 34 "SignalRoad$Junction" "clearances" "[I" ∈ UW := tbu (tb1 (List.mem_of_getElem? (i := 93) rfl)) rfl
theorem wf_X2_37 : Cond.fieldLink RX2 37 "SignalRoad$Junction" "firsts" "[I" ∈ UW := tbu (tb1 (List.mem_of_getElem? (i := 94) rfl)) rfl
theorem wf_X2_40 : Cond.fieldLink RX2 40 "SignalRoad$Junction" "lengths" "[I" ∈ UW := tbu (tb1 (List.mem_of_getElem? (i := 95) rfl)) rfl
theorem wk_X2_73 : Cond.methodLink RX2 73 arraycopyName ∈ UW := tbu (tb2 (List.mem_of_getElem? (i := 75) rfl)) rfl
theorem wna_copy : Cond.native arraycopyName ∈ UW := tbu (tb2 (List.mem_of_getElem? (i := 77) rfl)) rfl
theorem wst_copy : Cond.static arraycopyName ∈ UW := tbu (tb2 (List.mem_of_getElem? (i := 76) rfl)) rfl
theorem win_System : Cond.initialized "java/lang/System" ∈ UW := tbu (tb1 (List.mem_of_getElem? (i := 19) rfl)) rfl
theorem wc_X2_clearanceFrom : Cond.code yX2_clearanceFrom cX2_clearanceFrom 3 (some .int) ∈ UW := tbu (tb3 (List.mem_of_getElem? (i := 142) rfl)) rfl
theorem wi_X2_clearanceFrom : Cond.instanceMethod yX2_clearanceFrom ∈ UW := tbu (tb3 (List.mem_of_getElem? (i := 140) rfl)) rfl
theorem wl_X2_clearanceFrom : Cond.selects RX2 yX2_clearanceFrom yX2_clearanceFrom ∈ UW := tbu (tb3 (List.mem_of_getElem? (i := 141) rfl)) rfl
theorem wn_X2 : Cond.initialized RX2 ∈ UW := tbu (tb1 (List.mem_of_getElem? (i := 3) rfl)) rfl
theorem wk_X2_83 : Cond.methodLink RX2 83 yX2_clearanceFrom ∈ UW := tbu (tb3 (List.mem_of_getElem? (i := 139) rfl)) rfl
theorem wc_X2_lengthOf : Cond.code yX2_lengthOf cX2_lengthOf 3 (some .int) ∈ UW := tbu (tb3 (List.mem_of_getElem? (i := 7) rfl)) rfl
theorem wi_X2_lengthOf : Cond.instanceMethod yX2_lengthOf ∈ UW := tbu (tb3 (List.mem_of_getElem? (i := 5) rfl)) rfl
theorem wl_X2_lengthOf : Cond.selects RX2 yX2_lengthOf yX2_lengthOf ∈ UW := tbu (tb3 (List.mem_of_getElem? (i := 6) rfl)) rfl
theorem wk_X2_87 : Cond.methodLink RX2 87 yX2_lengthOf ∈ UW := tbu (tb3 (List.mem_of_getElem? (i := 4) rfl)) rfl
theorem wc_X2_areInConflict : Cond.code yX2_areInConflict cX2_areInConflict 3 (some .boolean) ∈ UW := tbu (tb3 (List.mem_of_getElem? (i := 138) rfl)) rfl
theorem wi_X2_areInConflict : Cond.instanceMethod yX2_areInConflict ∈ UW := tbu (tb3 (List.mem_of_getElem? (i := 136) rfl)) rfl
theorem wl_X2_areInConflict : Cond.selects RX2 yX2_areInConflict yX2_areInConflict ∈ UW := tbu (tb3 (List.mem_of_getElem? (i := 137) rfl)) rfl
theorem wk_X2_111 : Cond.methodLink RX2 111 yX2_areInConflict ∈ UW := tbu (tb3 (List.mem_of_getElem? (i := 135) rfl)) rfl
theorem wc_X2_hasGreen : Cond.code yX2_hasGreen cX2_hasGreen 3 (some .boolean) ∈ UW := tbu (tb3 (List.mem_of_getElem? (i := 3) rfl)) rfl
theorem wi_X2_hasGreen : Cond.instanceMethod yX2_hasGreen ∈ UW := tbu (tb3 (List.mem_of_getElem? (i := 1) rfl)) rfl
theorem wl_X2_hasGreen : Cond.selects RX2 yX2_hasGreen yX2_hasGreen ∈ UW := tbu (tb3 (List.mem_of_getElem? (i := 2) rfl)) rfl
theorem wk_X2_123 : Cond.methodLink RX2 123 yX2_hasGreen ∈ UW := tbu (tb3 (List.mem_of_getElem? (i := 0) rfl)) rfl
theorem wc_X2_isWaiting : Cond.code yX2_isWaiting cX2_isWaiting 2 (some .boolean) ∈ UW := tbu (tb3 (List.mem_of_getElem? (i := 161) rfl)) rfl
theorem wi_X2_isWaiting : Cond.instanceMethod yX2_isWaiting ∈ UW := tbu (tb3 (List.mem_of_getElem? (i := 159) rfl)) rfl
theorem wl_X2_isWaiting : Cond.selects RX2 yX2_isWaiting yX2_isWaiting ∈ UW := tbu (tb3 (List.mem_of_getElem? (i := 160) rfl)) rfl
theorem wk_X2_126 : Cond.methodLink RX2 126 yX2_isWaiting ∈ UW := tbu (tb3 (List.mem_of_getElem? (i := 158) rfl)) rfl
theorem wk_X3_47 : Cond.methodLink RX3 47 yX2_areInConflict ∈ UW := tbu (tb4 (List.mem_of_getElem? (i := 86) rfl)) rfl
theorem wf_X3_34 : Cond.fieldLink RX3 34 "SignalRoad$Phases" "count" "I" ∈ UW := tbu (tb1 (List.mem_of_getElem? (i := 184) rfl)) rfl
theorem wf_X3_18 : Cond.fieldLink RX3 18 "SignalRoad$Phases" "lengths" "[I" ∈ UW := tbu (tb1 (List.mem_of_getElem? (i := 189) rfl)) rfl
theorem wf_X3_15 : Cond.fieldLink RX3 15 "SignalRoad$Phases" "starts" "[I" ∈ UW := tbu (tb1 (List.mem_of_getElem? (i := 188) rfl)) rfl
theorem wf_X3_21 : Cond.fieldLink RX3 21 "SignalRoad$Phases" "pauses" "[I" ∈ UW := tbu (tb1 (List.mem_of_getElem? (i := 190) rfl)) rfl
theorem wf_X3_24 : Cond.fieldLink RX3 24 "SignalRoad$Junction" "groupCount" "I" ∈ UW := tbu (tb1 (List.mem_of_getElem? (i := 66) rfl)) rfl
theorem wf_X3_9 : Cond.fieldLink RX3 9 "SignalRoad$Phases" "phaseOf" "[I" ∈ UW := tbu (tb1 (List.mem_of_getElem? (i := 186) rfl)) rfl
theorem wc_X2_setGreen : Cond.code yX2_setGreen cX2_setGreen 5 none ∈ UW := tbu (tb4 (List.mem_of_getElem? (i := 48) rfl)) rfl
theorem wi_X2_setGreen : Cond.instanceMethod yX2_setGreen ∈ UW := tbu (tb4 (List.mem_of_getElem? (i := 46) rfl)) rfl
theorem wl_X2_setGreen : Cond.selects RX2 yX2_setGreen yX2_setGreen ∈ UW := tbu (tb4 (List.mem_of_getElem? (i := 47) rfl)) rfl
theorem wk_X3_89 : Cond.methodLink RX3 89 yX2_setGreen ∈ UW := tbu (tb4 (List.mem_of_getElem? (i := 115) rfl)) rfl
theorem wf_X4_21 : Cond.fieldLink RX4 21 "SignalRoad$Report" "length" "I" ∈ UW := tbu (tb2 (List.mem_of_getElem? (i := 16) rfl)) rfl
theorem wf_X4_9 : Cond.fieldLink RX4 9 "SignalRoad$Report" "signs" "[C" ∈ UW := tbu (tb2 (List.mem_of_getElem? (i := 18) rfl)) rfl
theorem wf_X5_28 : Cond.fieldLink RX5 28 "SignalRoad$Script" "length" "I" ∈ UW := tbu (tb1 (List.mem_of_getElem? (i := 220) rfl)) rfl
theorem wf_X5_9 : Cond.fieldLink RX5 9 "SignalRoad$Script" "signs" "[C" ∈ UW := tbu (tb1 (List.mem_of_getElem? (i := 226) rfl)) rfl
theorem wf_X5_25 : Cond.fieldLink RX5 25 "SignalRoad$Script" "numbers" "[I" ∈ UW := tbu (tb1 (List.mem_of_getElem? (i := 231) rfl)) rfl
theorem wf_X6_9 : Cond.fieldLink RX6 9 "SignalRoad$State" "cycle" "I" ∈ UW := tbu (tb1 (List.mem_of_getElem? (i := 134) rfl)) rfl
theorem wf_X6_15 : Cond.fieldLink RX6 15 "SignalRoad$State" "speed" "I" ∈ UW := tbu (tb1 (List.mem_of_getElem? (i := 137) rfl)) rfl
theorem wf_X6_25 : Cond.fieldLink RX6 25 "SignalRoad$State" "time" "I" ∈ UW := tbu (tb1 (List.mem_of_getElem? (i := 140) rfl)) rfl
theorem wf_X6_28 : Cond.fieldLink RX6 28 "SignalRoad$State" "junctionCount" "I" ∈ UW := tbu (tb1 (List.mem_of_getElem? (i := 143) rfl)) rfl
theorem wf_X6_20 : Cond.fieldLink RX6 20 "SignalRoad$State" "junctions" "[LSignalRoad$Junction;" ∈ UW := tbu (tb1 (List.mem_of_getElem? (i := 145) rfl)) rfl
theorem wc_X2_copyFrom : Cond.code yX2_copyFrom cX2_copyFrom 2 none ∈ UW := tbu (tb2 (List.mem_of_getElem? (i := 74) rfl)) rfl
theorem wi_X2_copyFrom : Cond.instanceMethod yX2_copyFrom ∈ UW := tbu (tb2 (List.mem_of_getElem? (i := 72) rfl)) rfl
theorem wl_X2_copyFrom : Cond.selects RX2 yX2_copyFrom yX2_copyFrom ∈ UW := tbu (tb2 (List.mem_of_getElem? (i := 73) rfl)) rfl
theorem wk_X6_31 : Cond.methodLink RX6 31 yX2_copyFrom ∈ UW := tbu (tb2 (List.mem_of_getElem? (i := 71) rfl)) rfl
theorem wf_X6_39 : Cond.fieldLink RX6 39 "SignalRoad$Junction" "position" "I" ∈ UW := tbu (tb1 (List.mem_of_getElem? (i := 59) rfl)) rfl
theorem wc_X2_greenCount : Cond.code yX2_greenCount cX2_greenCount 4 (some .int) ∈ UW := tbu (tb2 (List.mem_of_getElem? (i := 239) rfl)) rfl
theorem wi_X2_greenCount : Cond.instanceMethod yX2_greenCount ∈ UW := tbu (tb2 (List.mem_of_getElem? (i := 237) rfl)) rfl
theorem wl_X2_greenCount : Cond.selects RX2 yX2_greenCount yX2_greenCount ∈ UW := tbu (tb2 (List.mem_of_getElem? (i := 238) rfl)) rfl
theorem wk_X6_42 : Cond.methodLink RX6 42 yX2_greenCount ∈ UW := tbu (tb2 (List.mem_of_getElem? (i := 236) rfl)) rfl
theorem wf_X6_46 : Cond.fieldLink RX6 46 "SignalRoad$Junction" "offset" "I" ∈ UW := tbu (tb1 (List.mem_of_getElem? (i := 63) rfl)) rfl
theorem wc_X2_isChangePlanned : Cond.code yX2_isChangePlanned cX2_isChangePlanned 1 (some .boolean) ∈ UW := tbu (tb3 (List.mem_of_getElem? (i := 11) rfl)) rfl
theorem wi_X2_isChangePlanned : Cond.instanceMethod yX2_isChangePlanned ∈ UW := tbu (tb3 (List.mem_of_getElem? (i := 9) rfl)) rfl
theorem wl_X2_isChangePlanned : Cond.selects RX2 yX2_isChangePlanned yX2_isChangePlanned ∈ UW := tbu (tb3 (List.mem_of_getElem? (i := 10) rfl)) rfl
theorem wk_X6_49 : Cond.methodLink RX6 49 yX2_isChangePlanned ∈ UW := tbu (tb3 (List.mem_of_getElem? (i := 8) rfl)) rfl
theorem wf_X7_15 : Cond.fieldLink RX7 15 "SignalRoad$State" "junctionCount" "I" ∈ UW := tbu (tb1 (List.mem_of_getElem? (i := 142) rfl)) rfl
theorem wf_X7_21 : Cond.fieldLink RX7 21 "SignalRoad$State" "junctions" "[LSignalRoad$Junction;" ∈ UW := tbu (tb1 (List.mem_of_getElem? (i := 146) rfl)) rfl
theorem wc_X2_hasRoadGroup : Cond.code yX2_hasRoadGroup cX2_hasRoadGroup 2 (some .boolean) ∈ UW := tbu (tb3 (List.mem_of_getElem? (i := 112) rfl)) rfl
theorem wi_X2_hasRoadGroup : Cond.instanceMethod yX2_hasRoadGroup ∈ UW := tbu (tb3 (List.mem_of_getElem? (i := 110) rfl)) rfl
theorem wl_X2_hasRoadGroup : Cond.selects RX2 yX2_hasRoadGroup yX2_hasRoadGroup ∈ UW := tbu (tb3 (List.mem_of_getElem? (i := 111) rfl)) rfl
theorem wk_X7_25 : Cond.methodLink RX7 25 yX2_hasRoadGroup ∈ UW := tbu (tb4 (List.mem_of_getElem? (i := 178) rfl)) rfl
theorem wf_X7_31 : Cond.fieldLink RX7 31 "SignalRoad$Junction" "presentPlan" "I" ∈ UW := tbu (tb1 (List.mem_of_getElem? (i := 70) rfl)) rfl
theorem wf_X7_34 : Cond.fieldLink RX7 34 "SignalRoad$Junction" "roadGroups" "[I" ∈ UW := tbu (tb1 (List.mem_of_getElem? (i := 80) rfl)) rfl
theorem wk_X7_37 : Cond.methodLink RX7 37 yX2_hasGreen ∈ UW := tbu (tb4 (List.mem_of_getElem? (i := 179) rfl)) rfl
theorem wf_X9_61 : Cond.fieldLink RX9 61 "SignalRoad" "lastError" "I" ∈ UW := tbu (tb2 (List.mem_of_getElem? (i := 35) rfl)) rfl
theorem wf_X9_19 : Cond.fieldLink RX9 19 "SignalRoad" "saved" "LSignalRoad$State;" ∈ UW := tbu (tb2 (List.mem_of_getElem? (i := 27) rfl)) rfl
theorem wf_X9_12 : Cond.fieldLink RX9 12 "SignalRoad" "state" "LSignalRoad$State;" ∈ UW := tbu (tb2 (List.mem_of_getElem? (i := 25) rfl)) rfl
theorem wc_X6_copyFrom : Cond.code yX6_copyFrom cX6_copyFrom 3 none ∈ UW := tbu (tb2 (List.mem_of_getElem? (i := 70) rfl)) rfl
theorem wi_X6_copyFrom : Cond.instanceMethod yX6_copyFrom ∈ UW := tbu (tb2 (List.mem_of_getElem? (i := 68) rfl)) rfl
theorem wl_X6_copyFrom : Cond.selects RX6 yX6_copyFrom yX6_copyFrom ∈ UW := tbu (tb2 (List.mem_of_getElem? (i := 69) rfl)) rfl
theorem wn_X6 : Cond.initialized RX6 ∈ UW := tbu (tb1 (List.mem_of_getElem? (i := 2) rfl)) rfl
theorem wk_X9_345 : Cond.methodLink RX9 345 yX6_copyFrom ∈ UW := tbu (tb2 (List.mem_of_getElem? (i := 67) rfl)) rfl
theorem wf_X9_375 : Cond.fieldLink RX9 375 "SignalRoad" "isSaved" "Z" ∈ UW := tbu (tb2 (List.mem_of_getElem? (i := 33) rfl)) rfl
theorem wf_X9_90 : Cond.fieldLink RX9 90 "SignalRoad$State" "junctionCount" "I" ∈ UW := tbu (tb1 (List.mem_of_getElem? (i := 144) rfl)) rfl
theorem wf_X9_57 : Cond.fieldLink RX9 57 "SignalRoad" "lastReason" "I" ∈ UW := tbu (tb2 (List.mem_of_getElem? (i := 34) rfl)) rfl
theorem wj_X9_422 : Cond.classLink RX9 422 (exN 3) ∈ UW := tbu (tb2 (List.mem_of_getElem? (i := 200) rfl)) rfl
theorem wxi_3 : Cond.initialized (exN 3) ∈ UW := tbu (tb1 (List.mem_of_getElem? (i := 17) rfl)) rfl
theorem wj_X9_355 : Cond.classLink RX9 355 (exN 2) ∈ UW := tbu (tb2 (List.mem_of_getElem? (i := 184) rfl)) rfl
theorem wxi_2 : Cond.initialized (exN 2) ∈ UW := tbu (tb1 (List.mem_of_getElem? (i := 16) rfl)) rfl
theorem wj_X9_148 : Cond.classLink RX9 148 (exN 1) ∈ UW := tbu (tb2 (List.mem_of_getElem? (i := 168) rfl)) rfl
theorem wxi_1 : Cond.initialized (exN 1) ∈ UW := tbu (tb1 (List.mem_of_getElem? (i := 15) rfl)) rfl
theorem wj_X9_411 : Cond.classLink RX9 411 (exN 0) ∈ UW := tbu (tb2 (List.mem_of_getElem? (i := 96) rfl)) rfl
theorem wxi_0 : Cond.initialized (exN 0) ∈ UW := tbu (tb1 (List.mem_of_getElem? (i := 14) rfl)) rfl
theorem wc_X9_wrap : Cond.code yX9_wrap cX9_wrap 3 (some .int) ∈ UW := tbu (tb3 (List.mem_of_getElem? (i := 126) rfl)) rfl
theorem ws_X9_wrap : Cond.static yX9_wrap ∈ UW := tbu (tb3 (List.mem_of_getElem? (i := 125) rfl)) rfl
theorem wn_X9 : Cond.initialized RX9 ∈ UW := tbu (tb1 (List.mem_of_getElem? (i := 1) rfl)) rfl
theorem wk_X9_432 : Cond.methodLink RX9 432 yX9_wrap ∈ UW := tbu (tb3 (List.mem_of_getElem? (i := 226) rfl)) rfl
theorem wq_X9_443 : Cond.constant RX9 443 8388608 ∈ UW := tbu (tb5 (List.mem_of_getElem? (i := 174) rfl)) rfl
theorem wf_X10_47 : Cond.fieldLink RX10 47 "SignalRoadModel" "thrown" "I" ∈ UW := tbu (tb6 (List.mem_of_getElem? (i := 130) rfl)) rfl
theorem wf_X10_50 : Cond.fieldLink RX10 50 "SignalRoadModel" "refusal" "I" ∈ UW := tbu (tb6 (List.mem_of_getElem? (i := 141) rfl)) rfl
theorem wc_X10_raises : Cond.code yX10_raises cX10_raises 2 (some .int) ∈ UW := tbu (tb6 (List.mem_of_getElem? (i := 211) rfl)) rfl
theorem wi_X10_raises : Cond.instanceMethod yX10_raises ∈ UW := tbu (tb6 (List.mem_of_getElem? (i := 210) rfl)) rfl
theorem wl_X10_raises : Cond.selects RX10 yX10_raises yX10_raises ∈ UW := tbs (List.mem_of_getElem? (i := 46) rfl) rfl
theorem wn_X10 : Cond.initialized RX10 ∈ UW := tbu (tb1 (List.mem_of_getElem? (i := 10) rfl)) rfl
theorem wk_X10_53 : Cond.methodLink RX10 53 yX10_raises ∈ UW := tbu (tb6 (List.mem_of_getElem? (i := 208) rfl)) rfl
theorem wf_X10_19 : Cond.fieldLink RX10 19 "SignalRoadModel" "tried" "[I" ∈ UW := tbu (tb6 (List.mem_of_getElem? (i := 136) rfl)) rfl
theorem wf_X10_9 : Cond.fieldLink RX10 9 "SignalRoadModel" "now" "[I" ∈ UW := tbu (tb6 (List.mem_of_getElem? (i := 131) rfl)) rfl
theorem wf_X10_57 : Cond.fieldLink RX10 57 "SignalRoadModel" "undos" "I" ∈ UW := tbu (tb6 (List.mem_of_getElem? (i := 133) rfl)) rfl
theorem wf_X10_13 : Cond.fieldLink RX10 13 "SignalRoadModel" "kept" "[I" ∈ UW := tbu (tb6 (List.mem_of_getElem? (i := 132) rfl)) rfl
theorem wc_X10_keeps : Cond.code yX10_keeps cX10_keeps 2 none ∈ UW := tbu (tb6 (List.mem_of_getElem? (i := 237) rfl)) rfl
theorem wi_X10_keeps : Cond.instanceMethod yX10_keeps ∈ UW := tbu (tb6 (List.mem_of_getElem? (i := 236) rfl)) rfl
theorem wl_X10_keeps : Cond.selects RX10 yX10_keeps yX10_keeps ∈ UW := tbs (List.mem_of_getElem? (i := 51) rfl) rfl
theorem wk_X10_60 : Cond.methodLink RX10 60 yX10_keeps ∈ UW := tbu (tb6 (List.mem_of_getElem? (i := 234) rfl)) rfl
theorem wc_X10_at : Cond.code yX10_at cX10_at 1 (some .int) ∈ UW := tbu (tb6 (List.mem_of_getElem? (i := 218) rfl)) rfl
theorem ws_X10_at : Cond.static yX10_at ∈ UW := tbu (tb6 (List.mem_of_getElem? (i := 217) rfl)) rfl
theorem wk_X10_63 : Cond.methodLink RX10 63 yX10_at ∈ UW := tbu (tb6 (List.mem_of_getElem? (i := 216) rfl)) rfl
theorem wc_X10_groupAt : Cond.code yX10_groupAt cX10_groupAt 2 (some .int) ∈ UW := tbu (tb6 (List.mem_of_getElem? (i := 229) rfl)) rfl
theorem ws_X10_groupAt : Cond.static yX10_groupAt ∈ UW := tbu (tb6 (List.mem_of_getElem? (i := 228) rfl)) rfl
theorem wk_X10_66 : Cond.methodLink RX10 66 yX10_groupAt ∈ UW := tbu (tb6 (List.mem_of_getElem? (i := 227) rfl)) rfl
theorem wc_X10_in : Cond.code yX10_in cX10_in 3 (some .boolean) ∈ UW := tbu (tb6 (List.mem_of_getElem? (i := 207) rfl)) rfl
theorem ws_X10_in : Cond.static yX10_in ∈ UW := tbu (tb6 (List.mem_of_getElem? (i := 206) rfl)) rfl
theorem wk_X10_70 : Cond.methodLink RX10 70 yX10_in ∈ UW := tbu (tb6 (List.mem_of_getElem? (i := 205) rfl)) rfl
theorem wc_X10_isJunction : Cond.code yX10_isJunction cX10_isJunction 2 (some .boolean) ∈ UW := tbu (tb7 (List.mem_of_getElem? (i := 21) rfl)) rfl
theorem wi_X10_isJunction : Cond.instanceMethod yX10_isJunction ∈ UW := tbu (tb7 (List.mem_of_getElem? (i := 20) rfl)) rfl
theorem wl_X10_isJunction : Cond.selects RX10 yX10_isJunction yX10_isJunction ∈ UW := tbs (List.mem_of_getElem? (i := 54) rfl) rfl
theorem wk_X10_74 : Cond.methodLink RX10 74 yX10_isJunction ∈ UW := tbu (tb7 (List.mem_of_getElem? (i := 18) rfl)) rfl
theorem wc_X10_of : Cond.code yX10_of cX10_of 3 (some .int) ∈ UW := tbu (tb6 (List.mem_of_getElem? (i := 215) rfl)) rfl
theorem wi_X10_of : Cond.instanceMethod yX10_of ∈ UW := tbu (tb6 (List.mem_of_getElem? (i := 214) rfl)) rfl
theorem wl_X10_of : Cond.selects RX10 yX10_of yX10_of ∈ UW := tbs (List.mem_of_getElem? (i := 47) rfl) rfl
theorem wk_X10_78 : Cond.methodLink RX10 78 yX10_of ∈ UW := tbu (tb6 (List.mem_of_getElem? (i := 212) rfl)) rfl
theorem wc_X10_groupOf : Cond.code yX10_groupOf cX10_groupOf 4 (some .int) ∈ UW := tbu (tb6 (List.mem_of_getElem? (i := 226) rfl)) rfl
theorem wi_X10_groupOf : Cond.instanceMethod yX10_groupOf ∈ UW := tbu (tb6 (List.mem_of_getElem? (i := 225) rfl)) rfl
theorem wl_X10_groupOf : Cond.selects RX10 yX10_groupOf yX10_groupOf ∈ UW := tbs (List.mem_of_getElem? (i := 49) rfl) rfl
theorem wk_X10_89 : Cond.methodLink RX10 89 yX10_groupOf ∈ UW := tbu (tb6 (List.mem_of_getElem? (i := 223) rfl)) rfl
theorem wc_X10_changes : Cond.code yX10_changes cX10_changes 2 none ∈ UW := tbu (tb6 (List.mem_of_getElem? (i := 233) rfl)) rfl
theorem wi_X10_changes : Cond.instanceMethod yX10_changes ∈ UW := tbu (tb6 (List.mem_of_getElem? (i := 232) rfl)) rfl
theorem wl_X10_changes : Cond.selects RX10 yX10_changes yX10_changes ∈ UW := tbs (List.mem_of_getElem? (i := 50) rfl) rfl
theorem wk_X10_99 : Cond.methodLink RX10 99 yX10_changes ∈ UW := tbu (tb6 (List.mem_of_getElem? (i := 230) rfl)) rfl
theorem wc_X10_length : Cond.code yX10_length cX10_length 4 (some .int) ∈ UW := tbu (tb6 (List.mem_of_getElem? (i := 222) rfl)) rfl
theorem wi_X10_length : Cond.instanceMethod yX10_length ∈ UW := tbu (tb6 (List.mem_of_getElem? (i := 221) rfl)) rfl
theorem wl_X10_length : Cond.selects RX10 yX10_length yX10_length ∈ UW := tbs (List.mem_of_getElem? (i := 48) rfl) rfl
theorem wk_X10_96 : Cond.methodLink RX10 96 yX10_length ∈ UW := tbu (tb6 (List.mem_of_getElem? (i := 219) rfl)) rfl
theorem wf_X10_102 : Cond.fieldLink RX10 102 "SignalRoadModel" "answer" "I" ∈ UW := tbu (tb6 (List.mem_of_getElem? (i := 151) rfl)) rfl
theorem wc_X10_isGroup : Cond.code yX10_isGroup cX10_isGroup 3 (some .boolean) ∈ UW := tbu (tb7 (List.mem_of_getElem? (i := 37) rfl)) rfl
theorem wi_X10_isGroup : Cond.instanceMethod yX10_isGroup ∈ UW := tbu (tb7 (List.mem_of_getElem? (i := 36) rfl)) rfl
theorem wl_X10_isGroup : Cond.selects RX10 yX10_isGroup yX10_isGroup ∈ UW := tbs (List.mem_of_getElem? (i := 57) rfl) rfl
theorem wk_X10_105 : Cond.methodLink RX10 105 yX10_isGroup ∈ UW := tbu (tb7 (List.mem_of_getElem? (i := 34) rfl)) rfl
theorem wc_X10_tries : Cond.code yX10_tries cX10_tries 2 none ∈ UW := tbu (tb7 (List.mem_of_getElem? (i := 13) rfl)) rfl
theorem wi_X10_tries : Cond.instanceMethod yX10_tries ∈ UW := tbu (tb7 (List.mem_of_getElem? (i := 12) rfl)) rfl
theorem wl_X10_tries : Cond.selects RX10 yX10_tries yX10_tries ∈ UW := tbs (List.mem_of_getElem? (i := 52) rfl) rfl
theorem wk_X10_109 : Cond.methodLink RX10 109 yX10_tries ∈ UW := tbu (tb7 (List.mem_of_getElem? (i := 10) rfl)) rfl
theorem wc_X10_offsets : Cond.code yX10_offsets cX10_offsets 3 (some .int) ∈ UW := tbu (tb7 (List.mem_of_getElem? (i := 17) rfl)) rfl
theorem wi_X10_offsets : Cond.instanceMethod yX10_offsets ∈ UW := tbu (tb7 (List.mem_of_getElem? (i := 16) rfl)) rfl
theorem wl_X10_offsets : Cond.selects RX10 yX10_offsets yX10_offsets ∈ UW := tbs (List.mem_of_getElem? (i := 53) rfl) rfl
theorem wk_X10_112 : Cond.methodLink RX10 112 yX10_offsets ∈ UW := tbu (tb7 (List.mem_of_getElem? (i := 14) rfl)) rfl
theorem wc_X10_ends : Cond.code yX10_ends cX10_ends 3 (some .int) ∈ UW := tbu (tb7 (List.mem_of_getElem? (i := 25) rfl)) rfl
theorem wi_X10_ends : Cond.instanceMethod yX10_ends ∈ UW := tbu (tb7 (List.mem_of_getElem? (i := 24) rfl)) rfl
theorem wl_X10_ends : Cond.selects RX10 yX10_ends yX10_ends ∈ UW := tbs (List.mem_of_getElem? (i := 55) rfl) rfl
theorem wk_X10_115 : Cond.methodLink RX10 115 yX10_ends ∈ UW := tbu (tb7 (List.mem_of_getElem? (i := 22) rfl)) rfl
theorem wc_X10_roads : Cond.code yX10_roads cX10_roads 5 (some .int) ∈ UW := tbu (tb7 (List.mem_of_getElem? (i := 33) rfl)) rfl
theorem wi_X10_roads : Cond.instanceMethod yX10_roads ∈ UW := tbu (tb7 (List.mem_of_getElem? (i := 32) rfl)) rfl
theorem wl_X10_roads : Cond.selects RX10 yX10_roads yX10_roads ∈ UW := tbs (List.mem_of_getElem? (i := 56) rfl) rfl
theorem wk_X10_118 : Cond.methodLink RX10 118 yX10_roads ∈ UW := tbu (tb7 (List.mem_of_getElem? (i := 30) rfl)) rfl
theorem wc_X10_clear : Cond.code yX10_clear cX10_clear 4 (some .int) ∈ UW := tbu (tb7 (List.mem_of_getElem? (i := 60) rfl)) rfl
theorem wi_X10_clear : Cond.instanceMethod yX10_clear ∈ UW := tbu (tb7 (List.mem_of_getElem? (i := 59) rfl)) rfl
theorem wl_X10_clear : Cond.selects RX10 yX10_clear yX10_clear ∈ UW := tbs (List.mem_of_getElem? (i := 61) rfl) rfl
theorem wk_X10_121 : Cond.methodLink RX10 121 yX10_clear ∈ UW := tbu (tb7 (List.mem_of_getElem? (i := 57) rfl)) rfl
theorem wc_X10_heads : Cond.code yX10_heads cX10_heads 5 (some .int) ∈ UW := tbu (tb7 (List.mem_of_getElem? (i := 84) rfl)) rfl
theorem wi_X10_heads : Cond.instanceMethod yX10_heads ∈ UW := tbu (tb7 (List.mem_of_getElem? (i := 83) rfl)) rfl
theorem wl_X10_heads : Cond.selects RX10 yX10_heads yX10_heads ∈ UW := tbs (List.mem_of_getElem? (i := 65) rfl) rfl
theorem wk_X10_137 : Cond.methodLink RX10 137 yX10_heads ∈ UW := tbu (tb7 (List.mem_of_getElem? (i := 81) rfl)) rfl
theorem wc_X10_clears : Cond.code yX10_clears cX10_clears 5 none ∈ UW := tbu (tb7 (List.mem_of_getElem? (i := 92) rfl)) rfl
theorem wi_X10_clears : Cond.instanceMethod yX10_clears ∈ UW := tbu (tb7 (List.mem_of_getElem? (i := 91) rfl)) rfl
theorem wl_X10_clears : Cond.selects RX10 yX10_clears yX10_clears ∈ UW := tbs (List.mem_of_getElem? (i := 66) rfl) rfl
theorem wk_X10_151 : Cond.methodLink RX10 151 yX10_clears ∈ UW := tbu (tb7 (List.mem_of_getElem? (i := 89) rfl)) rfl
theorem wc_X10_isPlan : Cond.code yX10_isPlan cX10_isPlan 3 (some .boolean) ∈ UW := tbu (tb7 (List.mem_of_getElem? (i := 132) rfl)) rfl
theorem wi_X10_isPlan : Cond.instanceMethod yX10_isPlan ∈ UW := tbu (tb7 (List.mem_of_getElem? (i := 131) rfl)) rfl
theorem wl_X10_isPlan : Cond.selects RX10 yX10_isPlan yX10_isPlan ∈ UW := tbs (List.mem_of_getElem? (i := 73) rfl) rfl
theorem wk_X10_165 : Cond.methodLink RX10 165 yX10_isPlan ∈ UW := tbu (tb7 (List.mem_of_getElem? (i := 129) rfl)) rfl
theorem wc_X10_puts : Cond.code yX10_puts cX10_puts 7 none ∈ UW := tbu (tb7 (List.mem_of_getElem? (i := 144) rfl)) rfl
theorem wi_X10_puts : Cond.instanceMethod yX10_puts ∈ UW := tbu (tb7 (List.mem_of_getElem? (i := 143) rfl)) rfl
theorem wl_X10_puts : Cond.selects RX10 yX10_puts yX10_puts ∈ UW := tbs (List.mem_of_getElem? (i := 76) rfl) rfl
theorem wk_X10_161 : Cond.methodLink RX10 161 yX10_puts ∈ UW := tbu (tb7 (List.mem_of_getElem? (i := 141) rfl)) rfl
theorem wf_X10_35 : Cond.fieldLink RX10 35 "SignalRoadModel" "phase" "[I" ∈ UW := tbu (tb6 (List.mem_of_getElem? (i := 145) rfl)) rfl
theorem wc_X10_puts_ : Cond.code yX10_puts_ cX10_puts_ 7 (some .boolean) ∈ UW := tbu (tb7 (List.mem_of_getElem? (i := 168) rfl)) rfl
theorem wi_X10_puts_ : Cond.instanceMethod yX10_puts_ ∈ UW := tbu (tb7 (List.mem_of_getElem? (i := 167) rfl)) rfl
theorem wl_X10_puts_ : Cond.selects RX10 yX10_puts_ yX10_puts_ ∈ UW := tbs (List.mem_of_getElem? (i := 79) rfl) rfl
theorem wk_X10_180 : Cond.methodLink RX10 180 yX10_puts_ ∈ UW := tbu (tb7 (List.mem_of_getElem? (i := 165) rfl)) rfl
theorem wc_X10_phases : Cond.code yX10_phases cX10_phases 3 (some .int) ∈ UW := tbu (tb7 (List.mem_of_getElem? (i := 164) rfl)) rfl
theorem wi_X10_phases : Cond.instanceMethod yX10_phases ∈ UW := tbu (tb7 (List.mem_of_getElem? (i := 163) rfl)) rfl
theorem wl_X10_phases : Cond.selects RX10 yX10_phases yX10_phases ∈ UW := tbs (List.mem_of_getElem? (i := 78) rfl) rfl
theorem wk_X10_182 : Cond.methodLink RX10 182 yX10_phases ∈ UW := tbu (tb7 (List.mem_of_getElem? (i := 161) rfl)) rfl
theorem wc_X10_first : Cond.code yX10_first cX10_first 4 (some .int) ∈ UW := tbu (tb7 (List.mem_of_getElem? (i := 72) rfl)) rfl
theorem wi_X10_first : Cond.instanceMethod yX10_first ∈ UW := tbu (tb7 (List.mem_of_getElem? (i := 71) rfl)) rfl
theorem wl_X10_first : Cond.selects RX10 yX10_first yX10_first ∈ UW := tbs (List.mem_of_getElem? (i := 64) rfl) rfl
theorem wk_X10_93 : Cond.methodLink RX10 93 yX10_first ∈ UW := tbu (tb7 (List.mem_of_getElem? (i := 69) rfl)) rfl
theorem wc_X10_waiting : Cond.code yX10_waiting cX10_waiting 4 (some .int) ∈ UW := tbu (tb7 (List.mem_of_getElem? (i := 239) rfl)) rfl
theorem wi_X10_waiting : Cond.instanceMethod yX10_waiting ∈ UW := tbu (tb7 (List.mem_of_getElem? (i := 238) rfl)) rfl
theorem wl_X10_waiting : Cond.selects RX10 yX10_waiting yX10_waiting ∈ UW := tbs (List.mem_of_getElem? (i := 85) rfl) rfl
theorem wk_X10_210 : Cond.methodLink RX10 210 yX10_waiting ∈ UW := tbu (tb7 (List.mem_of_getElem? (i := 236) rfl)) rfl
theorem wc_X10_presses : Cond.code yX10_presses cX10_presses 3 (some .int) ∈ UW := tbu (tb7 (List.mem_of_getElem? (i := 235) rfl)) rfl
theorem wi_X10_presses : Cond.instanceMethod yX10_presses ∈ UW := tbu (tb7 (List.mem_of_getElem? (i := 234) rfl)) rfl
theorem wl_X10_presses : Cond.selects RX10 yX10_presses yX10_presses ∈ UW := tbs (List.mem_of_getElem? (i := 84) rfl) rfl
theorem wk_X10_213 : Cond.methodLink RX10 213 yX10_presses ∈ UW := tbu (tb7 (List.mem_of_getElem? (i := 232) rfl)) rfl
theorem wc_X10_refuses : Cond.code yX10_refuses cX10_refuses 3 (some .int) ∈ UW := tbu (tb7 (List.mem_of_getElem? (i := 112) rfl)) rfl
theorem wi_X10_refuses : Cond.instanceMethod yX10_refuses ∈ UW := tbu (tb7 (List.mem_of_getElem? (i := 111) rfl)) rfl
theorem wl_X10_refuses : Cond.selects RX10 yX10_refuses yX10_refuses ∈ UW := tbs (List.mem_of_getElem? (i := 71) rfl) rfl
theorem wk_X10_158 : Cond.methodLink RX10 158 yX10_refuses ∈ UW := tbu (tb7 (List.mem_of_getElem? (i := 109) rfl)) rfl
theorem wc_X10_greens : Cond.code yX10_greens cX10_greens 5 (some .int) ∈ UW := tbu (tb7 (List.mem_of_getElem? (i := 148) rfl)) rfl
theorem wi_X10_greens : Cond.instanceMethod yX10_greens ∈ UW := tbu (tb7 (List.mem_of_getElem? (i := 147) rfl)) rfl
theorem wl_X10_greens : Cond.selects RX10 yX10_greens yX10_greens ∈ UW := tbs (List.mem_of_getElem? (i := 77) rfl) rfl
theorem wk_X10_174 : Cond.methodLink RX10 174 yX10_greens ∈ UW := tbu (tb7 (List.mem_of_getElem? (i := 145) rfl)) rfl
theorem wc_X10_conflicts : Cond.code yX10_conflicts cX10_conflicts 5 (some .int) ∈ UW := tbu (tb7 (List.mem_of_getElem? (i := 56) rfl)) rfl
theorem wi_X10_conflicts : Cond.instanceMethod yX10_conflicts ∈ UW := tbu (tb7 (List.mem_of_getElem? (i := 55) rfl)) rfl
theorem wl_X10_conflicts : Cond.selects RX10 yX10_conflicts yX10_conflicts ∈ UW := tbs (List.mem_of_getElem? (i := 60) rfl) rfl
theorem wk_X10_127 : Cond.methodLink RX10 127 yX10_conflicts ∈ UW := tbu (tb7 (List.mem_of_getElem? (i := 53) rfl)) rfl
theorem wf_X10_232 : Cond.fieldLink RX10 232 "SignalRoadModel" "length" "I" ∈ UW := tbu (tb6 (List.mem_of_getElem? (i := 138) rfl)) rfl
theorem wf_X10_22 : Cond.fieldLink RX10 22 "SignalRoadModel" "buffer" "[I" ∈ UW := tbu (tb6 (List.mem_of_getElem? (i := 137) rfl)) rfl
theorem wf_X10_240 : Cond.fieldLink RX10 240 "SignalRoadModel" "at" "I" ∈ UW := tbu (tb6 (List.mem_of_getElem? (i := 139) rfl)) rfl
theorem wc_X10_here : Cond.code yX10_here cX10_here 1 (some .int) ∈ UW := tbu (tb8 (List.mem_of_getElem? (i := 73) rfl)) rfl
theorem wi_X10_here : Cond.instanceMethod yX10_here ∈ UW := tbu (tb8 (List.mem_of_getElem? (i := 72) rfl)) rfl
theorem wl_X10_here : Cond.selects RX10 yX10_here yX10_here ∈ UW := tbs (List.mem_of_getElem? (i := 92) rfl) rfl
theorem wk_X10_242 : Cond.methodLink RX10 242 yX10_here ∈ UW := tbu (tb8 (List.mem_of_getElem? (i := 70) rfl)) rfl
theorem wf_X10_32 : Cond.fieldLink RX10 32 "SignalRoadModel" "item" "[I" ∈ UW := tbu (tb6 (List.mem_of_getElem? (i := 144) rfl)) rfl
theorem wc_X10_takes : Cond.code yX10_takes cX10_takes 2 (some .boolean) ∈ UW := tbu (tb8 (List.mem_of_getElem? (i := 79) rfl)) rfl
theorem wi_X10_takes : Cond.instanceMethod yX10_takes ∈ UW := tbu (tb8 (List.mem_of_getElem? (i := 78) rfl)) rfl
theorem wl_X10_takes : Cond.selects RX10 yX10_takes yX10_takes ∈ UW := tbs (List.mem_of_getElem? (i := 93) rfl) rfl
theorem wk_X10_253 : Cond.methodLink RX10 253 yX10_takes ∈ UW := tbu (tb8 (List.mem_of_getElem? (i := 76) rfl)) rfl
theorem wc_X10_number : Cond.code yX10_number cX10_number 4 (some .boolean) ∈ UW := tbu (tb8 (List.mem_of_getElem? (i := 87) rfl)) rfl
theorem wi_X10_number : Cond.instanceMethod yX10_number ∈ UW := tbu (tb8 (List.mem_of_getElem? (i := 86) rfl)) rfl
theorem wl_X10_number : Cond.selects RX10 yX10_number yX10_number ∈ UW := tbs (List.mem_of_getElem? (i := 95) rfl) rfl
theorem wk_X10_256 : Cond.methodLink RX10 256 yX10_number ∈ UW := tbu (tb8 (List.mem_of_getElem? (i := 84) rfl)) rfl
theorem wf_X10_25 : Cond.fieldLink RX10 25 "SignalRoadModel" "error" "I" ∈ UW := tbu (tb6 (List.mem_of_getElem? (i := 140) rfl)) rfl
theorem wf_X10_29 : Cond.fieldLink RX10 29 "SignalRoadModel" "page" "[I" ∈ UW := tbu (tb6 (List.mem_of_getElem? (i := 142) rfl)) rfl
theorem wf_X10_270 : Cond.fieldLink RX10 270 "SignalRoadModel" "paged" "I" ∈ UW := tbu (tb6 (List.mem_of_getElem? (i := 143) rfl)) rfl
theorem wc_X10_writes_ : Cond.code yX10_writes_ cX10_writes_ 2 none ∈ UW := tbu (tb8 (List.mem_of_getElem? (i := 109) rfl)) rfl
theorem wi_X10_writes_ : Cond.instanceMethod yX10_writes_ ∈ UW := tbu (tb8 (List.mem_of_getElem? (i := 108) rfl)) rfl
theorem wl_X10_writes_ : Cond.selects RX10 yX10_writes_ yX10_writes_ ∈ UW := tbs (List.mem_of_getElem? (i := 98) rfl) rfl
theorem wk_X10_273 : Cond.methodLink RX10 273 yX10_writes_ ∈ UW := tbu (tb8 (List.mem_of_getElem? (i := 106) rfl)) rfl
theorem wf_X10_302 : Cond.fieldLink RX10 302 "SignalRoadModel" "isSaved" "Z" ∈ UW := tbu (tb6 (List.mem_of_getElem? (i := 135) rfl)) rfl
theorem wf_X10_16 : Cond.fieldLink RX10 16 "SignalRoadModel" "saved" "[I" ∈ UW := tbu (tb6 (List.mem_of_getElem? (i := 134) rfl)) rfl
theorem wc_Jxf58ca_isNaN_12338 : Cond.code yJxf58ca_isNaN_12338 cJxf58ca_isNaN_12338 1 (some .boolean) ∈ UW := tbu (tb8 (List.mem_of_getElem? (i := 49) rfl)) rfl
theorem ws_Jxf58ca_isNaN_12338 : Cond.static yJxf58ca_isNaN_12338 ∈ UW := tbu (tb8 (List.mem_of_getElem? (i := 48) rfl)) rfl
theorem wn_Jxf58ca : Cond.initialized RJxf58ca ∈ UW := tbu (tb1 (List.mem_of_getElem? (i := 26) rfl)) rfl
theorem wk_Jxf58ca_59 : Cond.methodLink RJxf58ca 59 yJxf58ca_isNaN_12338 ∈ UW := tbu (tb8 (List.mem_of_getElem? (i := 47) rfl)) rfl
theorem wq_Jxf58ca_77 : Cond.constant RJxf58ca 77 2143289344 ∈ UW := tbu (tb8 (List.mem_of_getElem? (i := 53) rfl)) rfl
theorem wraw_l : Cond.methodLink RJxf58ca 74 ⟨"java/lang/Float", "floatToRawIntBits", "(F)I"⟩ ∈ UW := tbu (tb8 (List.mem_of_getElem? (i := 50) rfl)) rfl
theorem wraw_n : Cond.native ⟨"java/lang/Float", "floatToRawIntBits", "(F)I"⟩ ∈ UW := tbu (tb8 (List.mem_of_getElem? (i := 52) rfl)) rfl
theorem wraw_s : Cond.static ⟨"java/lang/Float", "floatToRawIntBits", "(F)I"⟩ ∈ UW := tbu (tb8 (List.mem_of_getElem? (i := 51) rfl)) rfl
theorem wraw_i : Cond.initialized "java/lang/Float" ∈ UW := tbu (tb1 (List.mem_of_getElem? (i := 26) rfl)) rfl
theorem wq_J6_265 : Cond.constant RJ6 265 1431655765 ∈ UW := tbu (tb3 (List.mem_of_getElem? (i := 146) rfl)) rfl
theorem wq_J6_266 : Cond.constant RJ6 266 858993459 ∈ UW := tbu (tb3 (List.mem_of_getElem? (i := 147) rfl)) rfl
theorem wq_J6_267 : Cond.constant RJ6 267 252645135 ∈ UW := tbu (tb3 (List.mem_of_getElem? (i := 148) rfl)) rfl
theorem wf_X1_11 : Cond.fieldLink RX1 11 "SignalRoad$History" "states" "[LSignalRoad$State;" ∈ UW := tbu (tb1 (List.mem_of_getElem? (i := 170) rfl)) rfl
theorem wf_X1_18 : Cond.fieldLink RX1 18 "SignalRoad$History" "next" "I" ∈ UW := tbu (tb1 (List.mem_of_getElem? (i := 169) rfl)) rfl
theorem wk_X1_22 : Cond.methodLink RX1 22 yX6_copyFrom ∈ UW := tbu (tb3 (List.mem_of_getElem? (i := 16) rfl)) rfl
theorem wf_X1_26 : Cond.fieldLink RX1 26 "SignalRoad$History" "count" "I" ∈ UW := tbu (tb1 (List.mem_of_getElem? (i := 167) rfl)) rfl
theorem wc_J9_min_7cf53 : Cond.code yJ9_min_7cf53 cJ9_min_7cf53 2 (some .int) ∈ UW := tbu (tb3 (List.mem_of_getElem? (i := 19) rfl)) rfl
theorem ws_J9_min_7cf53 : Cond.static yJ9_min_7cf53 ∈ UW := tbu (tb3 (List.mem_of_getElem? (i := 18) rfl)) rfl
theorem wn_J9 : Cond.initialized RJ9 ∈ UW := tbu (tb1 (List.mem_of_getElem? (i := 20) rfl)) rfl
theorem wk_X1_29 : Cond.methodLink RX1 29 yJ9_min_7cf53 ∈ UW := tbu (tb3 (List.mem_of_getElem? (i := 17) rfl)) rfl
theorem wc_X9_isWithin : Cond.code yX9_isWithin cX9_isWithin 3 (some .boolean) ∈ UW := tbu (tb2 (List.mem_of_getElem? (i := 89) rfl)) rfl
theorem ws_X9_isWithin : Cond.static yX9_isWithin ∈ UW := tbu (tb2 (List.mem_of_getElem? (i := 88) rfl)) rfl
theorem wk_X2_79 : Cond.methodLinkNest RX2 79 yX9_isWithin "SignalRoad" ∈ NW := nw_mem (tb3 (List.mem_of_getElem? (i := 104) rfl)) rfl
theorem wc_X2_conflictSet : Cond.code yX2_conflictSet cX2_conflictSet 4 (some .int) ∈ UW := tbu (tb3 (List.mem_of_getElem? (i := 134) rfl)) rfl
theorem wi_X2_conflictSet : Cond.instanceMethod yX2_conflictSet ∈ UW := tbu (tb3 (List.mem_of_getElem? (i := 132) rfl)) rfl
theorem wl_X2_conflictSet : Cond.selects RX2 yX2_conflictSet yX2_conflictSet ∈ UW := tbu (tb3 (List.mem_of_getElem? (i := 133) rfl)) rfl
theorem wk_X2_115 : Cond.methodLink RX2 115 yX2_conflictSet ∈ UW := tbu (tb3 (List.mem_of_getElem? (i := 131) rfl)) rfl
theorem wc_J6_bitCount_0f7a4 : Cond.code yJ6_bitCount_0f7a4 cJ6_bitCount_0f7a4 1 (some .int) ∈ UW := tbu (tb3 (List.mem_of_getElem? (i := 145) rfl)) rfl
theorem ws_J6_bitCount_0f7a4 : Cond.static yJ6_bitCount_0f7a4 ∈ UW := tbu (tb3 (List.mem_of_getElem? (i := 144) rfl)) rfl
theorem wn_J6 : Cond.initialized RJ6 ∈ UW := tbu (tb1 (List.mem_of_getElem? (i := 24) rfl)) rfl
theorem wk_X2_118 : Cond.methodLink RX2 118 yJ6_bitCount_0f7a4 ∈ UW := tbu (tb3 (List.mem_of_getElem? (i := 143) rfl)) rfl
theorem wc_X2_headCount : Cond.code yX2_headCount cX2_headCount 4 (some .int) ∈ UW := tbu (tb3 (List.mem_of_getElem? (i := 203) rfl)) rfl
theorem wi_X2_headCount : Cond.instanceMethod yX2_headCount ∈ UW := tbu (tb3 (List.mem_of_getElem? (i := 201) rfl)) rfl
theorem wl_X2_headCount : Cond.selects RX2 yX2_headCount yX2_headCount ∈ UW := tbu (tb3 (List.mem_of_getElem? (i := 202) rfl)) rfl
theorem wk_X2_130 : Cond.methodLink RX2 130 yX2_headCount ∈ UW := tbu (tb5 (List.mem_of_getElem? (i := 146) rfl)) rfl
theorem wk_X2_133 : Cond.methodLinkNest RX2 133 yX9_wrap "SignalRoad" ∈ NW := nw_mem (tb3 (List.mem_of_getElem? (i := 124) rfl)) rfl
theorem wc_X2_firstOf : Cond.code yX2_firstOf cX2_firstOf 3 (some .int) ∈ UW := tbu (tb3 (List.mem_of_getElem? (i := 157) rfl)) rfl
theorem wi_X2_firstOf : Cond.instanceMethod yX2_firstOf ∈ UW := tbu (tb3 (List.mem_of_getElem? (i := 155) rfl)) rfl
theorem wl_X2_firstOf : Cond.selects RX2 yX2_firstOf yX2_firstOf ∈ UW := tbu (tb3 (List.mem_of_getElem? (i := 156) rfl)) rfl
theorem wk_X2_136 : Cond.methodLink RX2 136 yX2_firstOf ∈ UW := tbu (tb3 (List.mem_of_getElem? (i := 154) rfl)) rfl
theorem wc_X2_isOn : Cond.code yX2_isOn cX2_isOn 5 (some .boolean) ∈ UW := tbu (tb3 (List.mem_of_getElem? (i := 173) rfl)) rfl
theorem wi_X2_isOn : Cond.instanceMethod yX2_isOn ∈ UW := tbu (tb3 (List.mem_of_getElem? (i := 171) rfl)) rfl
theorem wl_X2_isOn : Cond.selects RX2 yX2_isOn yX2_isOn ∈ UW := tbu (tb3 (List.mem_of_getElem? (i := 172) rfl)) rfl
theorem wk_X2_139 : Cond.methodLink RX2 139 yX2_isOn ∈ UW := tbu (tb3 (List.mem_of_getElem? (i := 170) rfl)) rfl
theorem wc_X2_onSet : Cond.code yX2_onSet cX2_onSet 6 (some .int) ∈ UW := tbu (tb4 (List.mem_of_getElem? (i := 143) rfl)) rfl
theorem wi_X2_onSet : Cond.instanceMethod yX2_onSet ∈ UW := tbu (tb4 (List.mem_of_getElem? (i := 141) rfl)) rfl
theorem wl_X2_onSet : Cond.selects RX2 yX2_onSet yX2_onSet ∈ UW := tbu (tb4 (List.mem_of_getElem? (i := 142) rfl)) rfl
theorem wk_X2_143 : Cond.methodLink RX2 143 yX2_onSet ∈ UW := tbu (tb4 (List.mem_of_getElem? (i := 155) rfl)) rfl
theorem wc_X9_gap : Cond.code yX9_gap cX9_gap 4 (some .int) ∈ UW := tbu (tb3 (List.mem_of_getElem? (i := 225) rfl)) rfl
theorem ws_X9_gap : Cond.static yX9_gap ∈ UW := tbu (tb3 (List.mem_of_getElem? (i := 224) rfl)) rfl
theorem wk_X2_154 : Cond.methodLinkNest RX2 154 yX9_gap "SignalRoad" ∈ NW := nw_mem (tb3 (List.mem_of_getElem? (i := 223) rfl)) rfl
theorem wc_X2_isByRequest : Cond.code yX2_isByRequest cX2_isByRequest 2 (some .boolean) ∈ UW := tbu (tb3 (List.mem_of_getElem? (i := 169) rfl)) rfl
theorem wi_X2_isByRequest : Cond.instanceMethod yX2_isByRequest ∈ UW := tbu (tb3 (List.mem_of_getElem? (i := 167) rfl)) rfl
theorem wl_X2_isByRequest : Cond.selects RX2 yX2_isByRequest yX2_isByRequest ∈ UW := tbu (tb3 (List.mem_of_getElem? (i := 168) rfl)) rfl
theorem wk_X2_165 : Cond.methodLink RX2 165 yX2_isByRequest ∈ UW := tbu (tb3 (List.mem_of_getElem? (i := 166) rfl)) rfl
theorem wc_X2_isGiven : Cond.code yX2_isGiven cX2_isGiven 2 (some .boolean) ∈ UW := tbu (tb3 (List.mem_of_getElem? (i := 165) rfl)) rfl
theorem wi_X2_isGiven : Cond.instanceMethod yX2_isGiven ∈ UW := tbu (tb3 (List.mem_of_getElem? (i := 163) rfl)) rfl
theorem wl_X2_isGiven : Cond.selects RX2 yX2_isGiven yX2_isGiven ∈ UW := tbu (tb3 (List.mem_of_getElem? (i := 164) rfl)) rfl
theorem wk_X2_172 : Cond.methodLink RX2 172 yX2_isGiven ∈ UW := tbu (tb3 (List.mem_of_getElem? (i := 162) rfl)) rfl
theorem wc_X2_decideRequest : Cond.code yX2_decideRequest cX2_decideRequest 3 none ∈ UW := tbu (tb5 (List.mem_of_getElem? (i := 67) rfl)) rfl
theorem wi_X2_decideRequest : Cond.instanceMethod yX2_decideRequest ∈ UW := tbu (tb5 (List.mem_of_getElem? (i := 66) rfl)) rfl
theorem wl_X2_decideRequest : Cond.selects RX2 yX2_decideRequest yX2_decideRequest ∈ UW := tbs (List.mem_of_getElem? (i := 28) rfl) rfl
theorem wk_X2_168 : Cond.methodLink RX2 168 yX2_decideRequest ∈ UW := tbu (tb5 (List.mem_of_getElem? (i := 64) rfl)) rfl
theorem wc_X2_localSecond : Cond.code yX2_localSecond cX2_localSecond 3 (some .int) ∈ UW := tbu (tb3 (List.mem_of_getElem? (i := 123) rfl)) rfl
theorem wi_X2_localSecond : Cond.instanceMethod yX2_localSecond ∈ UW := tbu (tb3 (List.mem_of_getElem? (i := 121) rfl)) rfl
theorem wl_X2_localSecond : Cond.selects RX2 yX2_localSecond yX2_localSecond ∈ UW := tbu (tb3 (List.mem_of_getElem? (i := 122) rfl)) rfl
theorem wk_X2_158 : Cond.methodLink RX2 158 yX2_localSecond ∈ UW := tbu (tb3 (List.mem_of_getElem? (i := 153) rfl)) rfl
theorem wc_J9_max_7cf53 : Cond.code yJ9_max_7cf53 cJ9_max_7cf53 2 (some .int) ∈ UW := tbu (tb4 (List.mem_of_getElem? (i := 39) rfl)) rfl
theorem ws_J9_max_7cf53 : Cond.static yJ9_max_7cf53 ∈ UW := tbu (tb4 (List.mem_of_getElem? (i := 38) rfl)) rfl
theorem wk_X2_187 : Cond.methodLink RX2 187 yJ9_max_7cf53 ∈ UW := tbu (tb5 (List.mem_of_getElem? (i := 91) rfl)) rfl
theorem wc_X3_isPeaceful : Cond.code yX3_isPeaceful cX3_isPeaceful 5 (some .boolean) ∈ UW := tbu (tb4 (List.mem_of_getElem? (i := 85) rfl)) rfl
theorem ws_X3_isPeaceful : Cond.static yX3_isPeaceful ∈ UW := tbu (tb4 (List.mem_of_getElem? (i := 84) rfl)) rfl
theorem wn_X3 : Cond.initialized RX3 ∈ UW := tbu (tb1 (List.mem_of_getElem? (i := 6) rfl)) rfl
theorem wk_X3_37 : Cond.methodLink RX3 37 yX3_isPeaceful ∈ UW := tbu (tb4 (List.mem_of_getElem? (i := 83) rfl)) rfl
theorem wk_X3_41 : Cond.methodLink RX3 41 yJ9_max_7cf53 ∈ UW := tbu (tb4 (List.mem_of_getElem? (i := 87) rfl)) rfl
theorem wc_X3_isPlaced : Cond.code yX3_isPlaced cX3_isPlaced 6 (some .boolean) ∈ UW := tbu (tb4 (List.mem_of_getElem? (i := 82) rfl)) rfl
theorem ws_X3_isPlaced : Cond.static yX3_isPlaced ∈ UW := tbu (tb4 (List.mem_of_getElem? (i := 81) rfl)) rfl
theorem wk_X3_30 : Cond.methodLink RX3 30 yX3_isPlaced ∈ UW := tbu (tb4 (List.mem_of_getElem? (i := 80) rfl)) rfl
theorem wk_X3_82 : Cond.methodLink RX3 82 yX2_clearanceFrom ∈ UW := tbu (tb4 (List.mem_of_getElem? (i := 97) rfl)) rfl
theorem wk_X3_85 : Cond.methodLinkNest RX3 85 yX9_gap "SignalRoad" ∈ NW := nw_mem (tb4 (List.mem_of_getElem? (i := 110) rfl)) rfl
theorem wc_X4_addSign : Cond.code yX4_addSign cX4_addSign 2 none ∈ UW := tbu (tb6 (List.mem_of_getElem? (i := 82) rfl)) rfl
theorem wi_X4_addSign : Cond.instanceMethod yX4_addSign ∈ UW := tbu (tb6 (List.mem_of_getElem? (i := 81) rfl)) rfl
theorem wl_X4_addSign : Cond.selects RX4 yX4_addSign yX4_addSign ∈ UW := tbs (List.mem_of_getElem? (i := 43) rfl) rfl
theorem wn_X4 : Cond.initialized RX4 ∈ UW := tbu (tb1 (List.mem_of_getElem? (i := 9) rfl)) rfl
theorem wk_X4_69 : Cond.methodLink RX4 69 yX4_addSign ∈ UW := tbu (tb6 (List.mem_of_getElem? (i := 79) rfl)) rfl
theorem wf_X5_32 : Cond.fieldLink RX5 32 "SignalRoad$Script" "place" "I" ∈ UW := tbu (tb1 (List.mem_of_getElem? (i := 224) rfl)) rfl
theorem wk_X5_82 : Cond.methodLinkNest RX5 82 yX9_isWithin "SignalRoad" ∈ NW := nw_mem (tb5 (List.mem_of_getElem? (i := 217) rfl)) rfl
theorem wk_X6_35 : Cond.methodLinkNest RX6 35 yX9_isWithin "SignalRoad" ∈ NW := nw_mem (tb3 (List.mem_of_getElem? (i := 78) rfl)) rfl
theorem wc_X7_numberAt : Cond.code yX7_numberAt cX7_numberAt 4 (some .int) ∈ UW := tbu (tb4 (List.mem_of_getElem? (i := 195) rfl)) rfl
theorem wi_X7_numberAt : Cond.instanceMethod yX7_numberAt ∈ UW := tbu (tb4 (List.mem_of_getElem? (i := 194) rfl)) rfl
theorem wl_X7_numberAt : Cond.selects RX7 yX7_numberAt yX7_numberAt ∈ UW := tbs (List.mem_of_getElem? (i := 19) rfl) rfl
theorem wn_X7 : Cond.initialized RX7 ∈ UW := tbu (tb1 (List.mem_of_getElem? (i := 7) rfl)) rfl
theorem wk_X7_41 : Cond.methodLink RX7 41 yX7_numberAt ∈ UW := tbu (tb4 (List.mem_of_getElem? (i := 192) rfl)) rfl
theorem wf_X7_45 : Cond.fieldLink RX7 45 "SignalRoad$Junction" "position" "I" ∈ UW := tbu (tb1 (List.mem_of_getElem? (i := 60) rfl)) rfl
theorem wc_J9_abs_0f7a4 : Cond.code yJ9_abs_0f7a4 cJ9_abs_0f7a4 1 (some .int) ∈ UW := tbu (tb4 (List.mem_of_getElem? (i := 198) rfl)) rfl
theorem ws_J9_abs_0f7a4 : Cond.static yJ9_abs_0f7a4 ∈ UW := tbu (tb4 (List.mem_of_getElem? (i := 197) rfl)) rfl
theorem wk_X7_48 : Cond.methodLink RX7 48 yJ9_abs_0f7a4 ∈ UW := tbu (tb4 (List.mem_of_getElem? (i := 196) rfl)) rfl
theorem wc_X7_distanceTo : Cond.code yX7_distanceTo cX7_distanceTo 6 (some .int) ∈ UW := tbu (tb4 (List.mem_of_getElem? (i := 191) rfl)) rfl
theorem wi_X7_distanceTo : Cond.instanceMethod yX7_distanceTo ∈ UW := tbu (tb4 (List.mem_of_getElem? (i := 190) rfl)) rfl
theorem wl_X7_distanceTo : Cond.selects RX7 yX7_distanceTo yX7_distanceTo ∈ UW := tbs (List.mem_of_getElem? (i := 18) rfl) rfl
theorem wk_X7_54 : Cond.methodLink RX7 54 yX7_distanceTo ∈ UW := tbu (tb4 (List.mem_of_getElem? (i := 188) rfl)) rfl
theorem wf_X7_57 : Cond.fieldLink RX7 57 "SignalRoad$State" "speed" "I" ∈ UW := tbu (tb1 (List.mem_of_getElem? (i := 139) rfl)) rfl
theorem wf_X7_60 : Cond.fieldLink RX7 60 "SignalRoad$State" "cycle" "I" ∈ UW := tbu (tb1 (List.mem_of_getElem? (i := 136) rfl)) rfl
theorem wk_X7_63 : Cond.methodLink RX7 63 yX2_localSecond ∈ UW := tbu (tb4 (List.mem_of_getElem? (i := 203) rfl)) rfl
theorem wc_X2_secondsUntilOn : Cond.code yX2_secondsUntilOn cX2_secondsUntilOn 6 (some .int) ∈ UW := tbu (tb4 (List.mem_of_getElem? (i := 207) rfl)) rfl
theorem wi_X2_secondsUntilOn : Cond.instanceMethod yX2_secondsUntilOn ∈ UW := tbu (tb4 (List.mem_of_getElem? (i := 205) rfl)) rfl
theorem wl_X2_secondsUntilOn : Cond.selects RX2 yX2_secondsUntilOn yX2_secondsUntilOn ∈ UW := tbu (tb4 (List.mem_of_getElem? (i := 206) rfl)) rfl
theorem wk_X7_67 : Cond.methodLink RX7 67 yX2_secondsUntilOn ∈ UW := tbu (tb4 (List.mem_of_getElem? (i := 204) rfl)) rfl
theorem wc_X7_secondsTo : Cond.code yX7_secondsTo cX7_secondsTo 5 (some .int) ∈ UW := tbu (tb4 (List.mem_of_getElem? (i := 187) rfl)) rfl
theorem wi_X7_secondsTo : Cond.instanceMethod yX7_secondsTo ∈ UW := tbu (tb4 (List.mem_of_getElem? (i := 186) rfl)) rfl
theorem wl_X7_secondsTo : Cond.selects RX7 yX7_secondsTo yX7_secondsTo ∈ UW := tbs (List.mem_of_getElem? (i := 17) rfl) rfl
theorem wk_X7_71 : Cond.methodLink RX7 71 yX7_secondsTo ∈ UW := tbu (tb4 (List.mem_of_getElem? (i := 184) rfl)) rfl
theorem wc_X7_waitAt : Cond.code yX7_waitAt cX7_waitAt 7 (some .int) ∈ UW := tbu (tb4 (List.mem_of_getElem? (i := 202) rfl)) rfl
theorem wi_X7_waitAt : Cond.instanceMethod yX7_waitAt ∈ UW := tbu (tb4 (List.mem_of_getElem? (i := 201) rfl)) rfl
theorem wl_X7_waitAt : Cond.selects RX7 yX7_waitAt yX7_waitAt ∈ UW := tbs (List.mem_of_getElem? (i := 20) rfl) rfl
theorem wk_X7_74 : Cond.methodLink RX7 74 yX7_waitAt ∈ UW := tbu (tb4 (List.mem_of_getElem? (i := 199) rfl)) rfl
theorem wf_X7_9 : Cond.fieldLink RX7 9 "SignalRoad$Trips" "freeStarts" "[I" ∈ UW := tbu (tb1 (List.mem_of_getElem? (i := 208) rfl)) rfl
theorem wk_X7_89 : Cond.methodLink RX7 89 yX2_isOn ∈ UW := tbu (tb5 (List.mem_of_getElem? (i := 13) rfl)) rfl
theorem wc_X6_find : Cond.code yX6_find cX6_find 2 (some (.object "SignalRoad$Junction")) ∈ UW := tbu (tb3 (List.mem_of_getElem? (i := 77) rfl)) rfl
theorem wi_X6_find : Cond.instanceMethod yX6_find ∈ UW := tbu (tb3 (List.mem_of_getElem? (i := 75) rfl)) rfl
theorem wl_X6_find : Cond.selects RX6 yX6_find yX6_find ∈ UW := tbu (tb3 (List.mem_of_getElem? (i := 76) rfl)) rfl
theorem wk_X9_287 : Cond.methodLink RX9 287 yX6_find ∈ UW := tbu (tb3 (List.mem_of_getElem? (i := 74) rfl)) rfl
theorem wf_X9_80 : Cond.fieldLink RX9 80 "SignalRoad$State" "cycle" "I" ∈ UW := tbu (tb1 (List.mem_of_getElem? (i := 135) rfl)) rfl
theorem wk_X9_64 : Cond.methodLink RX9 64 yX9_isWithin ∈ UW := tbu (tb2 (List.mem_of_getElem? (i := 87) rfl)) rfl
theorem wk_X9_194 : Cond.methodLink RX9 194 yX2_isChangePlanned ∈ UW := tbu (tb3 (List.mem_of_getElem? (i := 79) rfl)) rfl
theorem wc_X2_hasGroup : Cond.code yX2_hasGroup cX2_hasGroup 2 (some .boolean) ∈ UW := tbu (tb3 (List.mem_of_getElem? (i := 103) rfl)) rfl
theorem wi_X2_hasGroup : Cond.instanceMethod yX2_hasGroup ∈ UW := tbu (tb3 (List.mem_of_getElem? (i := 101) rfl)) rfl
theorem wl_X2_hasGroup : Cond.selects RX2 yX2_hasGroup yX2_hasGroup ∈ UW := tbu (tb3 (List.mem_of_getElem? (i := 102) rfl)) rfl
theorem wk_X9_188 : Cond.methodLink RX9 188 yX2_hasGroup ∈ UW := tbu (tb3 (List.mem_of_getElem? (i := 100) rfl)) rfl
theorem wk_X9_170 : Cond.methodLink RX9 170 yX2_isByRequest ∈ UW := tbu (tb3 (List.mem_of_getElem? (i := 197) rfl)) rfl
theorem wf_X9_130 : Cond.fieldLink RX9 130 "SignalRoad$State" "time" "I" ∈ UW := tbu (tb1 (List.mem_of_getElem? (i := 141) rfl)) rfl
theorem wq_X9_270 : Cond.constant RX9 270 99999 ∈ UW := tbu (tb4 (List.mem_of_getElem? (i := 173) rfl)) rfl
theorem wc_X9_raise : Cond.code yX9_raise cX9_raise 1 none ∈ UW := tbu (tb2 (List.mem_of_getElem? (i := 95) rfl)) rfl
theorem ws_X9_raise : Cond.static yX9_raise ∈ UW := tbu (tb2 (List.mem_of_getElem? (i := 94) rfl)) rfl
theorem wk_X9_101 : Cond.methodLink RX9 101 yX9_raise ∈ UW := tbu (tb2 (List.mem_of_getElem? (i := 93) rfl)) rfl
theorem wk_X9_435 : Cond.methodLink RX9 435 yJ9_max_7cf53 ∈ UW := tbu (tb4 (List.mem_of_getElem? (i := 37) rfl)) rfl
theorem wk_X9_440 : Cond.methodLink RX9 440 yJ9_min_7cf53 ∈ UW := tbu (tb4 (List.mem_of_getElem? (i := 40) rfl)) rfl
theorem wc_J9_floorMod_7cf53 : Cond.code yJ9_floorMod_7cf53 cJ9_floorMod_7cf53 3 (some .int) ∈ UW := tbu (tb7 (List.mem_of_getElem? (i := 52) rfl)) rfl
theorem ws_J9_floorMod_7cf53 : Cond.static yJ9_floorMod_7cf53 ∈ UW := tbu (tb7 (List.mem_of_getElem? (i := 51) rfl)) rfl
theorem wk_X10_81 : Cond.methodLink RX10 81 yJ9_floorMod_7cf53 ∈ UW := tbu (tb7 (List.mem_of_getElem? (i := 50) rfl)) rfl
theorem wc_X10_mod : Cond.code yX10_mod cX10_mod 2 (some .int) ∈ UW := tbu (tb7 (List.mem_of_getElem? (i := 49) rfl)) rfl
theorem wi_X10_mod : Cond.instanceMethod yX10_mod ∈ UW := tbu (tb7 (List.mem_of_getElem? (i := 48) rfl)) rfl
theorem wl_X10_mod : Cond.selects RX10 yX10_mod yX10_mod ∈ UW := tbs (List.mem_of_getElem? (i := 59) rfl) rfl
theorem wk_X10_86 : Cond.methodLink RX10 86 yX10_mod ∈ UW := tbu (tb7 (List.mem_of_getElem? (i := 46) rfl)) rfl
theorem wc_X10_local : Cond.code yX10_local cX10_local 3 (some .int) ∈ UW := tbu (tb7 (List.mem_of_getElem? (i := 45) rfl)) rfl
theorem wi_X10_local : Cond.instanceMethod yX10_local ∈ UW := tbu (tb7 (List.mem_of_getElem? (i := 44) rfl)) rfl
theorem wl_X10_local : Cond.selects RX10 yX10_local yX10_local ∈ UW := tbs (List.mem_of_getElem? (i := 58) rfl) rfl
theorem wk_X10_124 : Cond.methodLink RX10 124 yX10_local ∈ UW := tbu (tb7 (List.mem_of_getElem? (i := 42) rfl)) rfl
theorem wc_X10_isOn : Cond.code yX10_isOn cX10_isOn 5 (some .boolean) ∈ UW := tbu (tb7 (List.mem_of_getElem? (i := 68) rfl)) rfl
theorem wi_X10_isOn : Cond.instanceMethod yX10_isOn ∈ UW := tbu (tb7 (List.mem_of_getElem? (i := 67) rfl)) rfl
theorem wl_X10_isOn : Cond.selects RX10 yX10_isOn yX10_isOn ∈ UW := tbs (List.mem_of_getElem? (i := 63) rfl) rfl
theorem wk_X10_133 : Cond.methodLink RX10 133 yX10_isOn ∈ UW := tbu (tb7 (List.mem_of_getElem? (i := 65) rfl)) rfl
theorem wc_X10_gap : Cond.code yX10_gap cX10_gap 5 (some .int) ∈ UW := tbu (tb7 (List.mem_of_getElem? (i := 108) rfl)) rfl
theorem wi_X10_gap : Cond.instanceMethod yX10_gap ∈ UW := tbu (tb7 (List.mem_of_getElem? (i := 107) rfl)) rfl
theorem wl_X10_gap : Cond.selects RX10 yX10_gap yX10_gap ∈ UW := tbs (List.mem_of_getElem? (i := 70) rfl) rfl
theorem wk_X10_143 : Cond.methodLink RX10 143 yX10_gap ∈ UW := tbu (tb7 (List.mem_of_getElem? (i := 105) rfl)) rfl
theorem wc_X10_meet : Cond.code yX10_meet cX10_meet 6 (some .boolean) ∈ UW := tbu (tb7 (List.mem_of_getElem? (i := 104) rfl)) rfl
theorem wi_X10_meet : Cond.instanceMethod yX10_meet ∈ UW := tbu (tb7 (List.mem_of_getElem? (i := 103) rfl)) rfl
theorem wl_X10_meet : Cond.selects RX10 yX10_meet yX10_meet ∈ UW := tbs (List.mem_of_getElem? (i := 69) rfl) rfl
theorem wk_X10_140 : Cond.methodLink RX10 140 yX10_meet ∈ UW := tbu (tb7 (List.mem_of_getElem? (i := 101) rfl)) rfl
theorem wc_X10_bars : Cond.code yX10_bars cX10_bars 6 (some .int) ∈ UW := tbu (tb7 (List.mem_of_getElem? (i := 100) rfl)) rfl
theorem wi_X10_bars : Cond.instanceMethod yX10_bars ∈ UW := tbu (tb7 (List.mem_of_getElem? (i := 99) rfl)) rfl
theorem wl_X10_bars : Cond.selects RX10 yX10_bars yX10_bars ∈ UW := tbs (List.mem_of_getElem? (i := 68) rfl) rfl
theorem wk_X10_147 : Cond.methodLink RX10 147 yX10_bars ∈ UW := tbu (tb7 (List.mem_of_getElem? (i := 97) rfl)) rfl
theorem wc_X10_barred : Cond.code yX10_barred cX10_barred 6 (some .int) ∈ UW := tbu (tb7 (List.mem_of_getElem? (i := 96) rfl)) rfl
theorem wi_X10_barred : Cond.instanceMethod yX10_barred ∈ UW := tbu (tb7 (List.mem_of_getElem? (i := 95) rfl)) rfl
theorem wl_X10_barred : Cond.selects RX10 yX10_barred yX10_barred ∈ UW := tbs (List.mem_of_getElem? (i := 67) rfl) rfl
theorem wk_X10_155 : Cond.methodLink RX10 155 yX10_barred ∈ UW := tbu (tb7 (List.mem_of_getElem? (i := 93) rfl)) rfl
theorem wc_X10_isGreen : Cond.code yX10_isGreen cX10_isGreen 3 (some .boolean) ∈ UW := tbu (tb7 (List.mem_of_getElem? (i := 136) rfl)) rfl
theorem wi_X10_isGreen : Cond.instanceMethod yX10_isGreen ∈ UW := tbu (tb7 (List.mem_of_getElem? (i := 135) rfl)) rfl
theorem wl_X10_isGreen : Cond.selects RX10 yX10_isGreen yX10_isGreen ∈ UW := tbs (List.mem_of_getElem? (i := 74) rfl) rfl
theorem wk_X10_168 : Cond.methodLink RX10 168 yX10_isGreen ∈ UW := tbu (tb7 (List.mem_of_getElem? (i := 133) rfl)) rfl
theorem wc_X10_hindered : Cond.code yX10_hindered cX10_hindered 6 (some .int) ∈ UW := tbu (tb7 (List.mem_of_getElem? (i := 140) rfl)) rfl
theorem wi_X10_hindered : Cond.instanceMethod yX10_hindered ∈ UW := tbu (tb7 (List.mem_of_getElem? (i := 139) rfl)) rfl
theorem wl_X10_hindered : Cond.selects RX10 yX10_hindered yX10_hindered ∈ UW := tbs (List.mem_of_getElem? (i := 75) rfl) rfl
theorem wk_X10_171 : Cond.methodLink RX10 171 yX10_hindered ∈ UW := tbu (tb7 (List.mem_of_getElem? (i := 137) rfl)) rfl
theorem wc_X10_greened : Cond.code yX10_greened cX10_greened 7 (some .int) ∈ UW := tbu (tb7 (List.mem_of_getElem? (i := 128) rfl)) rfl
theorem wi_X10_greened : Cond.instanceMethod yX10_greened ∈ UW := tbu (tb7 (List.mem_of_getElem? (i := 127) rfl)) rfl
theorem wl_X10_greened : Cond.selects RX10 yX10_greened yX10_greened ∈ UW := tbs (List.mem_of_getElem? (i := 72) rfl) rfl
theorem wk_X10_177 : Cond.methodLink RX10 177 yX10_greened ∈ UW := tbu (tb7 (List.mem_of_getElem? (i := 125) rfl)) rfl
theorem wf_X10_38 : Cond.fieldLink RX10 38 "SignalRoadModel" "phaseGreen" "[I" ∈ UW := tbu (tb6 (List.mem_of_getElem? (i := 146) rfl)) rfl
theorem wf_X10_41 : Cond.fieldLink RX10 41 "SignalRoadModel" "between" "[I" ∈ UW := tbu (tb6 (List.mem_of_getElem? (i := 147) rfl)) rfl
theorem wk_X10_185 : Cond.methodLink RX10 185 yJ9_max_7cf53 ∈ UW := tbu (tb7 (List.mem_of_getElem? (i := 169) rfl)) rfl
theorem wc_X10_shown : Cond.code yX10_shown cX10_shown 6 (some .int) ∈ UW := tbu (tb7 (List.mem_of_getElem? (i := 185) rfl)) rfl
theorem wi_X10_shown : Cond.instanceMethod yX10_shown ∈ UW := tbu (tb7 (List.mem_of_getElem? (i := 184) rfl)) rfl
theorem wl_X10_shown : Cond.selects RX10 yX10_shown yX10_shown ∈ UW := tbs (List.mem_of_getElem? (i := 80) rfl) rfl
theorem wk_X10_188 : Cond.methodLink RX10 188 yX10_shown ∈ UW := tbu (tb7 (List.mem_of_getElem? (i := 182) rfl)) rfl
theorem wf_X10_44 : Cond.fieldLink RX10 44 "SignalRoadModel" "sets" "[I" ∈ UW := tbu (tb6 (List.mem_of_getElem? (i := 148) rfl)) rfl
theorem wf_X10_191 : Cond.fieldLink RX10 191 "SignalRoadModel" "waits" "I" ∈ UW := tbu (tb6 (List.mem_of_getElem? (i := 149) rfl)) rfl
theorem wf_X10_194 : Cond.fieldLink RX10 194 "SignalRoadModel" "waitedFor" "I" ∈ UW := tbu (tb6 (List.mem_of_getElem? (i := 150) rfl)) rfl
theorem wk_X10_197 : Cond.methodLink RX10 197 yJ9_abs_0f7a4 ∈ UW := tbu (tb7 (List.mem_of_getElem? (i := 207) rfl)) rfl
theorem wq_X10_200 : Cond.constant RX10 200 99999 ∈ UW := tbu (tb7 (List.mem_of_getElem? (i := 198) rfl)) rfl
theorem wc_X10_isPossible : Cond.code yX10_isPossible cX10_isPossible 4 (some .boolean) ∈ UW := tbu (tb7 (List.mem_of_getElem? (i := 202) rfl)) rfl
theorem wi_X10_isPossible : Cond.instanceMethod yX10_isPossible ∈ UW := tbu (tb7 (List.mem_of_getElem? (i := 201) rfl)) rfl
theorem wl_X10_isPossible : Cond.selects RX10 yX10_isPossible yX10_isPossible ∈ UW := tbs (List.mem_of_getElem? (i := 81) rfl) rfl
theorem wk_X10_201 : Cond.methodLink RX10 201 yX10_isPossible ∈ UW := tbu (tb7 (List.mem_of_getElem? (i := 199) rfl)) rfl
theorem wc_X10_goes : Cond.code yX10_goes cX10_goes 10 (some .int) ∈ UW := tbu (tb7 (List.mem_of_getElem? (i := 206) rfl)) rfl
theorem wi_X10_goes : Cond.instanceMethod yX10_goes ∈ UW := tbu (tb7 (List.mem_of_getElem? (i := 205) rfl)) rfl
theorem wl_X10_goes : Cond.selects RX10 yX10_goes yX10_goes ∈ UW := tbs (List.mem_of_getElem? (i := 82) rfl) rfl
theorem wk_X10_204 : Cond.methodLink RX10 204 yX10_goes ∈ UW := tbu (tb7 (List.mem_of_getElem? (i := 203) rfl)) rfl
theorem wc_X10_bands : Cond.code yX10_bands cX10_bands 5 (some .int) ∈ UW := tbu (tb7 (List.mem_of_getElem? (i := 219) rfl)) rfl
theorem wi_X10_bands : Cond.instanceMethod yX10_bands ∈ UW := tbu (tb7 (List.mem_of_getElem? (i := 218) rfl)) rfl
theorem wl_X10_bands : Cond.selects RX10 yX10_bands yX10_bands ∈ UW := tbs (List.mem_of_getElem? (i := 83) rfl) rfl
theorem wk_X10_207 : Cond.methodLink RX10 207 yX10_bands ∈ UW := tbu (tb7 (List.mem_of_getElem? (i := 216) rfl)) rfl
theorem wc_X10_passes : Cond.code yX10_passes cX10_passes 7 (some .int) ∈ UW := tbu (tb8 (List.mem_of_getElem? (i := 11) rfl)) rfl
theorem wi_X10_passes : Cond.instanceMethod yX10_passes ∈ UW := tbu (tb8 (List.mem_of_getElem? (i := 10) rfl)) rfl
theorem wl_X10_passes : Cond.selects RX10 yX10_passes yX10_passes ∈ UW := tbs (List.mem_of_getElem? (i := 87) rfl) rfl
theorem wk_X10_216 : Cond.methodLink RX10 216 yX10_passes ∈ UW := tbu (tb8 (List.mem_of_getElem? (i := 8) rfl)) rfl
theorem wc_X10_runs : Cond.code yX10_runs cX10_runs 3 (some .int) ∈ UW := tbu (tb8 (List.mem_of_getElem? (i := 7) rfl)) rfl
theorem wi_X10_runs : Cond.instanceMethod yX10_runs ∈ UW := tbu (tb8 (List.mem_of_getElem? (i := 6) rfl)) rfl
theorem wl_X10_runs : Cond.selects RX10 yX10_runs yX10_runs ∈ UW := tbs (List.mem_of_getElem? (i := 86) rfl) rfl
theorem wk_X10_220 : Cond.methodLink RX10 220 yX10_runs ∈ UW := tbu (tb8 (List.mem_of_getElem? (i := 4) rfl)) rfl
theorem wc_X10_mayChange : Cond.code yX10_mayChange cX10_mayChange 11 (some .boolean) ∈ UW := tbu (tb8 (List.mem_of_getElem? (i := 23) rfl)) rfl
theorem wi_X10_mayChange : Cond.instanceMethod yX10_mayChange ∈ UW := tbu (tb8 (List.mem_of_getElem? (i := 22) rfl)) rfl
theorem wl_X10_mayChange : Cond.selects RX10 yX10_mayChange yX10_mayChange ∈ UW := tbs (List.mem_of_getElem? (i := 89) rfl) rfl
theorem wk_X10_223 : Cond.methodLink RX10 223 yX10_mayChange ∈ UW := tbu (tb8 (List.mem_of_getElem? (i := 20) rfl)) rfl
theorem wc_X10_soon : Cond.code yX10_soon cX10_soon 3 (some .int) ∈ UW := tbu (tb8 (List.mem_of_getElem? (i := 19) rfl)) rfl
theorem wi_X10_soon : Cond.instanceMethod yX10_soon ∈ UW := tbu (tb8 (List.mem_of_getElem? (i := 18) rfl)) rfl
theorem wl_X10_soon : Cond.selects RX10 yX10_soon yX10_soon ∈ UW := tbs (List.mem_of_getElem? (i := 88) rfl) rfl
theorem wk_X10_226 : Cond.methodLink RX10 226 yX10_soon ∈ UW := tbu (tb8 (List.mem_of_getElem? (i := 16) rfl)) rfl
theorem wc_X10_plans : Cond.code yX10_plans cX10_plans 2 (some .int) ∈ UW := tbu (tb8 (List.mem_of_getElem? (i := 31) rfl)) rfl
theorem wi_X10_plans : Cond.instanceMethod yX10_plans ∈ UW := tbu (tb8 (List.mem_of_getElem? (i := 30) rfl)) rfl
theorem wl_X10_plans : Cond.selects RX10 yX10_plans yX10_plans ∈ UW := tbs (List.mem_of_getElem? (i := 90) rfl) rfl
theorem wk_X10_229 : Cond.methodLink RX10 229 yX10_plans ∈ UW := tbu (tb8 (List.mem_of_getElem? (i := 28) rfl)) rfl
theorem wc_Jxf58ca_floatToIntBits_5c35a : Cond.code yJxf58ca_floatToIntBits_5c35a cJxf58ca_floatToIntBits_5c35a 1 (some .int) ∈ UW := tbu (tb8 (List.mem_of_getElem? (i := 46) rfl)) rfl
theorem ws_Jxf58ca_floatToIntBits_5c35a : Cond.static yJxf58ca_floatToIntBits_5c35a ∈ UW := tbu (tb8 (List.mem_of_getElem? (i := 45) rfl)) rfl
theorem wk_X10_234 : Cond.methodLink RX10 234 yJxf58ca_floatToIntBits_5c35a ∈ UW := tbu (tb8 (List.mem_of_getElem? (i := 44) rfl)) rfl
theorem wc_X2_headSum : Cond.code yX2_headSum cX2_headSum 3 (some .int) ∈ UW := tbu (tb5 (List.mem_of_getElem? (i := 145) rfl)) rfl
theorem wi_X2_headSum : Cond.instanceMethod yX2_headSum ∈ UW := tbu (tb5 (List.mem_of_getElem? (i := 143) rfl)) rfl
theorem wl_X2_headSum : Cond.selects RX2 yX2_headSum yX2_headSum ∈ UW := tbu (tb5 (List.mem_of_getElem? (i := 144) rfl)) rfl
theorem wk_X2_108 : Cond.methodLink RX2 108 yX2_headSum ∈ UW := tbu (tb5 (List.mem_of_getElem? (i := 142) rfl)) rfl
theorem wk_X2_104 : Cond.methodLink RX2 104 yX2_isChangePlanned ∈ UW := tbu (tb5 (List.mem_of_getElem? (i := 141) rfl)) rfl
theorem wc_X2_waitingCount : Cond.code yX2_waitingCount cX2_waitingCount 3 (some .int) ∈ UW := tbu (tb5 (List.mem_of_getElem? (i := 40) rfl)) rfl
theorem wi_X2_waitingCount : Cond.instanceMethod yX2_waitingCount ∈ UW := tbu (tb5 (List.mem_of_getElem? (i := 38) rfl)) rfl
theorem wl_X2_waitingCount : Cond.selects RX2 yX2_waitingCount yX2_waitingCount ∈ UW := tbu (tb5 (List.mem_of_getElem? (i := 39) rfl)) rfl
theorem wk_X2_101 : Cond.methodLink RX2 101 yX2_waitingCount ∈ UW := tbu (tb5 (List.mem_of_getElem? (i := 140) rfl)) rfl
theorem wc_X2_litSum : Cond.code yX2_litSum cX2_litSum 3 (some .int) ∈ UW := tbu (tb5 (List.mem_of_getElem? (i := 139) rfl)) rfl
theorem wi_X2_litSum : Cond.instanceMethod yX2_litSum ∈ UW := tbu (tb5 (List.mem_of_getElem? (i := 137) rfl)) rfl
theorem wl_X2_litSum : Cond.selects RX2 yX2_litSum yX2_litSum ∈ UW := tbu (tb5 (List.mem_of_getElem? (i := 138) rfl)) rfl
theorem wk_X2_98 : Cond.methodLink RX2 98 yX2_litSum ∈ UW := tbu (tb5 (List.mem_of_getElem? (i := 136) rfl)) rfl
theorem wk_X2_94 : Cond.methodLink RX2 94 yX2_greenCount ∈ UW := tbu (tb5 (List.mem_of_getElem? (i := 135) rfl)) rfl
theorem wc_X2_conflictCount : Cond.code yX2_conflictCount cX2_conflictCount 3 (some .int) ∈ UW := tbu (tb3 (List.mem_of_getElem? (i := 130) rfl)) rfl
theorem wi_X2_conflictCount : Cond.instanceMethod yX2_conflictCount ∈ UW := tbu (tb3 (List.mem_of_getElem? (i := 128) rfl)) rfl
theorem wl_X2_conflictCount : Cond.selects RX2 yX2_conflictCount yX2_conflictCount ∈ UW := tbu (tb3 (List.mem_of_getElem? (i := 129) rfl)) rfl
theorem wk_X2_90 : Cond.methodLink RX2 90 yX2_conflictCount ∈ UW := tbu (tb5 (List.mem_of_getElem? (i := 134) rfl)) rfl
theorem wc_X2_clashWith : Cond.code yX2_clashWith cX2_clashWith 11 (some .int) ∈ UW := tbu (tb3 (List.mem_of_getElem? (i := 222) rfl)) rfl
theorem wi_X2_clashWith : Cond.instanceMethod yX2_clashWith ∈ UW := tbu (tb3 (List.mem_of_getElem? (i := 221) rfl)) rfl
theorem wl_X2_clashWith : Cond.selects RX2 yX2_clashWith yX2_clashWith ∈ UW := tbs (List.mem_of_getElem? (i := 7) rfl) rfl
theorem wk_X2_147 : Cond.methodLink RX2 147 yX2_clashWith ∈ UW := tbu (tb3 (List.mem_of_getElem? (i := 219) rfl)) rfl
theorem wc_X9_earlierReason : Cond.code yX9_earlierReason cX9_earlierReason 2 (some .int) ∈ UW := tbu (tb4 (List.mem_of_getElem? (i := 36) rfl)) rfl
theorem ws_X9_earlierReason : Cond.static yX9_earlierReason ∈ UW := tbu (tb4 (List.mem_of_getElem? (i := 35) rfl)) rfl
theorem wk_X2_151 : Cond.methodLinkNest RX2 151 yX9_earlierReason "SignalRoad" ∈ NW := nw_mem (tb4 (List.mem_of_getElem? (i := 34) rfl)) rfl
theorem wc_X2_showGreen : Cond.code yX2_showGreen cX2_showGreen 4 none ∈ UW := tbu (tb5 (List.mem_of_getElem? (i := 63) rfl)) rfl
theorem wi_X2_showGreen : Cond.instanceMethod yX2_showGreen ∈ UW := tbu (tb5 (List.mem_of_getElem? (i := 62) rfl)) rfl
theorem wl_X2_showGreen : Cond.selects RX2 yX2_showGreen yX2_showGreen ∈ UW := tbs (List.mem_of_getElem? (i := 27) rfl) rfl
theorem wk_X2_161 : Cond.methodLink RX2 161 yX2_showGreen ∈ UW := tbu (tb5 (List.mem_of_getElem? (i := 60) rfl)) rfl
theorem wc_X2_secondsOff : Cond.code yX2_secondsOff cX2_secondsOff 5 (some .int) ∈ UW := tbu (tb5 (List.mem_of_getElem? (i := 90) rfl)) rfl
theorem wi_X2_secondsOff : Cond.instanceMethod yX2_secondsOff ∈ UW := tbu (tb5 (List.mem_of_getElem? (i := 89) rfl)) rfl
theorem wl_X2_secondsOff : Cond.selects RX2 yX2_secondsOff yX2_secondsOff ∈ UW := tbs (List.mem_of_getElem? (i := 31) rfl) rfl
theorem wk_X2_181 : Cond.methodLink RX2 181 yX2_secondsOff ∈ UW := tbu (tb5 (List.mem_of_getElem? (i := 87) rfl)) rfl
theorem wk_X2_184 : Cond.methodLink RX2 184 yX2_secondsUntilOn ∈ UW := tbu (tb5 (List.mem_of_getElem? (i := 92) rfl)) rfl
theorem wc_J7_fill_53178 : Cond.code yJ7_fill_53178 cJ7_fill_53178 4 none ∈ UW := tbu (tb1 (List.mem_of_getElem? (i := 56) rfl)) rfl
theorem ws_J7_fill_53178 : Cond.static yJ7_fill_53178 ∈ UW := tbu (tb1 (List.mem_of_getElem? (i := 55) rfl)) rfl
theorem wn_J7 : Cond.initialized RJ7 ∈ UW := tbu (tb1 (List.mem_of_getElem? (i := 4) rfl)) rfl
theorem wk_X3_69 : Cond.methodLink RX3 69 yJ7_fill_53178 ∈ UW := tbu (tb4 (List.mem_of_getElem? (i := 92) rfl)) rfl
theorem wf_X3_75 : Cond.fieldLink RX3 75 "SignalRoad$Junction" "leasts" "[I" ∈ UW := tbu (tb1 (List.mem_of_getElem? (i := 85) rfl)) rfl
theorem wc_X3_clearanceTo : Cond.code yX3_clearanceTo cX3_clearanceTo 6 (some .int) ∈ UW := tbu (tb4 (List.mem_of_getElem? (i := 96) rfl)) rfl
theorem wi_X3_clearanceTo : Cond.instanceMethod yX3_clearanceTo ∈ UW := tbu (tb4 (List.mem_of_getElem? (i := 95) rfl)) rfl
theorem wl_X3_clearanceTo : Cond.selects RX3 yX3_clearanceTo yX3_clearanceTo ∈ UW := tbs (List.mem_of_getElem? (i := 13) rfl) rfl
theorem wk_X3_78 : Cond.methodLink RX3 78 yX3_clearanceTo ∈ UW := tbu (tb4 (List.mem_of_getElem? (i := 93) rfl)) rfl
theorem wf_X5_38 : Cond.fieldLink RX5 38 "SignalRoad$Script" "error" "I" ∈ UW := tbu (tb1 (List.mem_of_getElem? (i := 225) rfl)) rfl
theorem wc_X5_isNextWithin : Cond.code yX5_isNextWithin cX5_isNextWithin 3 (some .boolean) ∈ UW := tbu (tb5 (List.mem_of_getElem? (i := 216) rfl)) rfl
theorem wi_X5_isNextWithin : Cond.instanceMethod yX5_isNextWithin ∈ UW := tbu (tb5 (List.mem_of_getElem? (i := 215) rfl)) rfl
theorem wl_X5_isNextWithin : Cond.selects RX5 yX5_isNextWithin yX5_isNextWithin ∈ UW := tbs (List.mem_of_getElem? (i := 36) rfl) rfl
theorem wn_X5 : Cond.initialized RX5 ∈ UW := tbu (tb1 (List.mem_of_getElem? (i := 8) rfl)) rfl
theorem wk_X5_59 : Cond.methodLink RX5 59 yX5_isNextWithin ∈ UW := tbu (tb5 (List.mem_of_getElem? (i := 213) rfl)) rfl
theorem wc_X2_letSecondPass : Cond.code yX2_letSecondPass cX2_letSecondPass 6 (some .int) ∈ UW := tbu (tb5 (List.mem_of_getElem? (i := 59) rfl)) rfl
theorem wi_X2_letSecondPass : Cond.instanceMethod yX2_letSecondPass ∈ UW := tbu (tb5 (List.mem_of_getElem? (i := 57) rfl)) rfl
theorem wl_X2_letSecondPass : Cond.selects RX2 yX2_letSecondPass yX2_letSecondPass ∈ UW := tbu (tb5 (List.mem_of_getElem? (i := 58) rfl)) rfl
theorem wk_X6_53 : Cond.methodLink RX6 53 yX2_letSecondPass ∈ UW := tbu (tb5 (List.mem_of_getElem? (i := 56) rfl)) rfl
theorem wc_X2_amountOf : Cond.code yX2_amountOf cX2_amountOf 2 (some .int) ∈ UW := tbu (tb5 (List.mem_of_getElem? (i := 133) rfl)) rfl
theorem wi_X2_amountOf : Cond.instanceMethod yX2_amountOf ∈ UW := tbu (tb5 (List.mem_of_getElem? (i := 131) rfl)) rfl
theorem wl_X2_amountOf : Cond.selects RX2 yX2_amountOf yX2_amountOf ∈ UW := tbu (tb5 (List.mem_of_getElem? (i := 132) rfl)) rfl
theorem wk_X6_57 : Cond.methodLink RX6 57 yX2_amountOf ∈ UW := tbu (tb5 (List.mem_of_getElem? (i := 130) rfl)) rfl
theorem wc_X7_isFree : Cond.code yX7_isFree cX7_isFree 8 (some .boolean) ∈ UW := tbu (tb4 (List.mem_of_getElem? (i := 233) rfl)) rfl
theorem wi_X7_isFree : Cond.instanceMethod yX7_isFree ∈ UW := tbu (tb4 (List.mem_of_getElem? (i := 232) rfl)) rfl
theorem wl_X7_isFree : Cond.selects RX7 yX7_isFree yX7_isFree ∈ UW := tbs (List.mem_of_getElem? (i := 21) rfl) rfl
theorem wk_X7_78 : Cond.methodLink RX7 78 yX7_isFree ∈ UW := tbu (tb4 (List.mem_of_getElem? (i := 230) rfl)) rfl
theorem wc_X7_secondsBefore : Cond.code yX7_secondsBefore cX7_secondsBefore 6 (some .int) ∈ UW := tbu (tb5 (List.mem_of_getElem? (i := 8) rfl)) rfl
theorem wi_X7_secondsBefore : Cond.instanceMethod yX7_secondsBefore ∈ UW := tbu (tb5 (List.mem_of_getElem? (i := 7) rfl)) rfl
theorem wl_X7_secondsBefore : Cond.selects RX7 yX7_secondsBefore yX7_secondsBefore ∈ UW := tbs (List.mem_of_getElem? (i := 22) rfl) rfl
theorem wk_X7_82 : Cond.methodLink RX7 82 yX7_secondsBefore ∈ UW := tbu (tb5 (List.mem_of_getElem? (i := 5) rfl)) rfl
theorem wc_X7_bandWith : Cond.code yX7_bandWith cX7_bandWith 10 (some .int) ∈ UW := tbu (tb5 (List.mem_of_getElem? (i := 12) rfl)) rfl
theorem wi_X7_bandWith : Cond.instanceMethod yX7_bandWith ∈ UW := tbu (tb5 (List.mem_of_getElem? (i := 11) rfl)) rfl
theorem wl_X7_bandWith : Cond.selects RX7 yX7_bandWith yX7_bandWith ∈ UW := tbs (List.mem_of_getElem? (i := 23) rfl) rfl
theorem wk_X7_85 : Cond.methodLink RX7 85 yX7_bandWith ∈ UW := tbu (tb5 (List.mem_of_getElem? (i := 9) rfl)) rfl
theorem wc_X9_need : Cond.code yX9_need cX9_need 2 none ∈ UW := tbu (tb2 (List.mem_of_getElem? (i := 92) rfl)) rfl
theorem ws_X9_need : Cond.static yX9_need ∈ UW := tbu (tb2 (List.mem_of_getElem? (i := 91) rfl)) rfl
theorem wk_X9_68 : Cond.methodLink RX9 68 yX9_need ∈ UW := tbu (tb2 (List.mem_of_getElem? (i := 90) rfl)) rfl
theorem wc_X6_canTakeCycle : Cond.code yX6_canTakeCycle cX6_canTakeCycle 5 (some .boolean) ∈ UW := tbu (tb2 (List.mem_of_getElem? (i := 235) rfl)) rfl
theorem wi_X6_canTakeCycle : Cond.instanceMethod yX6_canTakeCycle ∈ UW := tbu (tb2 (List.mem_of_getElem? (i := 233) rfl)) rfl
theorem wl_X6_canTakeCycle : Cond.selects RX6 yX6_canTakeCycle yX6_canTakeCycle ∈ UW := tbu (tb2 (List.mem_of_getElem? (i := 234) rfl)) rfl
theorem wk_X9_72 : Cond.methodLink RX9 72 yX6_canTakeCycle ∈ UW := tbu (tb2 (List.mem_of_getElem? (i := 232) rfl)) rfl
theorem wf_X9_25 : Cond.fieldLink RX9 25 "SignalRoad" "history" "LSignalRoad$History;" ∈ UW := tbu (tb2 (List.mem_of_getElem? (i := 28) rfl)) rfl
theorem wc_X1_push : Cond.code yX1_push cX1_push 2 none ∈ UW := tbu (tb3 (List.mem_of_getElem? (i := 15) rfl)) rfl
theorem wi_X1_push : Cond.instanceMethod yX1_push ∈ UW := tbu (tb3 (List.mem_of_getElem? (i := 13) rfl)) rfl
theorem wl_X1_push : Cond.selects RX1 yX1_push yX1_push ∈ UW := tbu (tb3 (List.mem_of_getElem? (i := 14) rfl)) rfl
theorem wn_X1 : Cond.initialized RX1 ∈ UW := tbu (tb1 (List.mem_of_getElem? (i := 5) rfl)) rfl
theorem wk_X9_76 : Cond.methodLink RX9 76 yX1_push ∈ UW := tbu (tb3 (List.mem_of_getElem? (i := 12) rfl)) rfl
theorem wf_X9_83 : Cond.fieldLink RX9 83 "SignalRoad$State" "speed" "I" ∈ UW := tbu (tb1 (List.mem_of_getElem? (i := 138) rfl)) rfl
theorem wc_X6_lastPosition : Cond.code yX6_lastPosition cX6_lastPosition 1 (some .int) ∈ UW := tbu (tb3 (List.mem_of_getElem? (i := 37) rfl)) rfl
theorem wi_X6_lastPosition : Cond.instanceMethod yX6_lastPosition ∈ UW := tbu (tb3 (List.mem_of_getElem? (i := 35) rfl)) rfl
theorem wl_X6_lastPosition : Cond.selects RX6 yX6_lastPosition yX6_lastPosition ∈ UW := tbu (tb3 (List.mem_of_getElem? (i := 36) rfl)) rfl
theorem wk_X9_86 : Cond.methodLink RX9 86 yX6_lastPosition ∈ UW := tbu (tb3 (List.mem_of_getElem? (i := 34) rfl)) rfl
theorem wc_X6_addJunction : Cond.code yX6_addJunction cX6_addJunction 2 (some .int) ∈ UW := tbu (tb3 (List.mem_of_getElem? (i := 41) rfl)) rfl
theorem wi_X6_addJunction : Cond.instanceMethod yX6_addJunction ∈ UW := tbu (tb3 (List.mem_of_getElem? (i := 39) rfl)) rfl
theorem wl_X6_addJunction : Cond.selects RX6 yX6_addJunction yX6_addJunction ∈ UW := tbu (tb3 (List.mem_of_getElem? (i := 40) rfl)) rfl
theorem wk_X9_93 : Cond.methodLink RX9 93 yX6_addJunction ∈ UW := tbu (tb3 (List.mem_of_getElem? (i := 38) rfl)) rfl
theorem wc_X9_found : Cond.code yX9_found cX9_found 3 (some (.object "SignalRoad$Junction")) ∈ UW := tbu (tb3 (List.mem_of_getElem? (i := 87) rfl)) rfl
theorem wi_X9_found : Cond.instanceMethod yX9_found ∈ UW := tbu (tb3 (List.mem_of_getElem? (i := 86) rfl)) rfl
theorem wl_X9_found : Cond.selects RX9 yX9_found yX9_found ∈ UW := tbs (List.mem_of_getElem? (i := 3) rfl) rfl
theorem wk_X9_115 : Cond.methodLink RX9 115 yX9_found ∈ UW := tbu (tb3 (List.mem_of_getElem? (i := 84) rfl)) rfl
theorem wc_X2_litSet : Cond.code yX2_litSet cX2_litSet 11 (some .int) ∈ UW := tbu (tb3 (List.mem_of_getElem? (i := 152) rfl)) rfl
theorem wi_X2_litSet : Cond.instanceMethod yX2_litSet ∈ UW := tbu (tb3 (List.mem_of_getElem? (i := 150) rfl)) rfl
theorem wl_X2_litSet : Cond.selects RX2 yX2_litSet yX2_litSet ∈ UW := tbu (tb3 (List.mem_of_getElem? (i := 151) rfl)) rfl
theorem wk_X9_145 : Cond.methodLink RX9 145 yX2_litSet ∈ UW := tbu (tb3 (List.mem_of_getElem? (i := 149) rfl)) rfl
theorem wk_X9_142 : Cond.methodLink RX9 142 yX2_conflictCount ∈ UW := tbu (tb3 (List.mem_of_getElem? (i := 127) rfl)) rfl
theorem wf_X9_139 : Cond.fieldLink RX9 139 "SignalRoad$Junction" "plannedTime" "I" ∈ UW := tbu (tb1 (List.mem_of_getElem? (i := 74) rfl)) rfl
theorem wf_X9_136 : Cond.fieldLink RX9 136 "SignalRoad$Junction" "presentPlan" "I" ∈ UW := tbu (tb1 (List.mem_of_getElem? (i := 72) rfl)) rfl
theorem wk_X9_133 : Cond.methodLink RX9 133 yX2_localSecond ∈ UW := tbu (tb3 (List.mem_of_getElem? (i := 120) rfl)) rfl
theorem wf_X9_127 : Cond.fieldLink RX9 127 "SignalRoad$Junction" "groupCount" "I" ∈ UW := tbu (tb1 (List.mem_of_getElem? (i := 68) rfl)) rfl
theorem wf_X9_124 : Cond.fieldLink RX9 124 "SignalRoad$Junction" "offset" "I" ∈ UW := tbu (tb1 (List.mem_of_getElem? (i := 64) rfl)) rfl
theorem wf_X9_119 : Cond.fieldLink RX9 119 "SignalRoad$Junction" "position" "I" ∈ UW := tbu (tb1 (List.mem_of_getElem? (i := 61) rfl)) rfl
theorem wc_X2_addGroup : Cond.code yX2_addGroup cX2_addGroup 5 (some .int) ∈ UW := tbu (tb3 (List.mem_of_getElem? (i := 185) rfl)) rfl
theorem wi_X2_addGroup : Cond.instanceMethod yX2_addGroup ∈ UW := tbu (tb3 (List.mem_of_getElem? (i := 183) rfl)) rfl
theorem wl_X2_addGroup : Cond.selects RX2 yX2_addGroup yX2_addGroup ∈ UW := tbu (tb3 (List.mem_of_getElem? (i := 184) rfl)) rfl
theorem wk_X9_155 : Cond.methodLink RX9 155 yX2_addGroup ∈ UW := tbu (tb3 (List.mem_of_getElem? (i := 182) rfl)) rfl
theorem wc_X9_isPlan : Cond.code yX9_isPlan cX9_isPlan 1 (some .boolean) ∈ UW := tbu (tb4 (List.mem_of_getElem? (i := 25) rfl)) rfl
theorem ws_X9_isPlan : Cond.static yX9_isPlan ∈ UW := tbu (tb4 (List.mem_of_getElem? (i := 24) rfl)) rfl
theorem wk_X9_222 : Cond.methodLink RX9 222 yX9_isPlan ∈ UW := tbu (tb4 (List.mem_of_getElem? (i := 23) rfl)) rfl
theorem wk_X9_261 : Cond.methodLink RX9 261 yX2_onSet ∈ UW := tbu (tb4 (List.mem_of_getElem? (i := 140) rfl)) rfl
theorem wc_X2_pictureAt : Cond.code yX2_pictureAt cX2_pictureAt 9 (some .int) ∈ UW := tbu (tb4 (List.mem_of_getElem? (i := 154) rfl)) rfl
theorem wi_X2_pictureAt : Cond.instanceMethod yX2_pictureAt ∈ UW := tbu (tb4 (List.mem_of_getElem? (i := 152) rfl)) rfl
theorem wl_X2_pictureAt : Cond.selects RX2 yX2_pictureAt yX2_pictureAt ∈ UW := tbu (tb4 (List.mem_of_getElem? (i := 153) rfl)) rfl
theorem wk_X9_264 : Cond.methodLink RX9 264 yX2_pictureAt ∈ UW := tbu (tb4 (List.mem_of_getElem? (i := 151) rfl)) rfl
theorem wc_X9_isDirection : Cond.code yX9_isDirection cX9_isDirection 1 (some .boolean) ∈ UW := tbu (tb4 (List.mem_of_getElem? (i := 172) rfl)) rfl
theorem ws_X9_isDirection : Cond.static yX9_isDirection ∈ UW := tbu (tb4 (List.mem_of_getElem? (i := 171) rfl)) rfl
theorem wk_X9_267 : Cond.methodLink RX9 267 yX9_isDirection ∈ UW := tbu (tb4 (List.mem_of_getElem? (i := 170) rfl)) rfl
theorem wf_X9_39 : Cond.fieldLink RX9 39 "SignalRoad" "trips" "LSignalRoad$Trips;" ∈ UW := tbu (tb2 (List.mem_of_getElem? (i := 30) rfl)) rfl
theorem wc_X7_arePossible : Cond.code yX7_arePossible cX7_arePossible 5 (some .boolean) ∈ UW := tbu (tb4 (List.mem_of_getElem? (i := 177) rfl)) rfl
theorem wi_X7_arePossible : Cond.instanceMethod yX7_arePossible ∈ UW := tbu (tb4 (List.mem_of_getElem? (i := 175) rfl)) rfl
theorem wl_X7_arePossible : Cond.selects RX7 yX7_arePossible yX7_arePossible ∈ UW := tbu (tb4 (List.mem_of_getElem? (i := 176) rfl)) rfl
theorem wk_X9_271 : Cond.methodLink RX9 271 yX7_arePossible ∈ UW := tbu (tb4 (List.mem_of_getElem? (i := 174) rfl)) rfl
theorem wc_X7_numberOf : Cond.code yX7_numberOf cX7_numberOf 10 (some .int) ∈ UW := tbu (tb4 (List.mem_of_getElem? (i := 183) rfl)) rfl
theorem wi_X7_numberOf : Cond.instanceMethod yX7_numberOf ∈ UW := tbu (tb4 (List.mem_of_getElem? (i := 181) rfl)) rfl
theorem wl_X7_numberOf : Cond.selects RX7 yX7_numberOf yX7_numberOf ∈ UW := tbu (tb4 (List.mem_of_getElem? (i := 182) rfl)) rfl
theorem wk_X9_275 : Cond.methodLink RX9 275 yX7_numberOf ∈ UW := tbu (tb4 (List.mem_of_getElem? (i := 180) rfl)) rfl
theorem wc_X7_secondsStepByStep : Cond.code yX7_secondsStepByStep cX7_secondsStepByStep 8 (some .int) ∈ UW := tbu (tb4 (List.mem_of_getElem? (i := 218) rfl)) rfl
theorem wi_X7_secondsStepByStep : Cond.instanceMethod yX7_secondsStepByStep ∈ UW := tbu (tb4 (List.mem_of_getElem? (i := 216) rfl)) rfl
theorem wl_X7_secondsStepByStep : Cond.selects RX7 yX7_secondsStepByStep yX7_secondsStepByStep ∈ UW := tbu (tb4 (List.mem_of_getElem? (i := 217) rfl)) rfl
theorem wk_X9_279 : Cond.methodLink RX9 279 yX7_secondsStepByStep ∈ UW := tbu (tb4 (List.mem_of_getElem? (i := 215) rfl)) rfl
theorem wc_X7_bandOf : Cond.code yX7_bandOf cX7_bandOf 5 (some .int) ∈ UW := tbu (tb4 (List.mem_of_getElem? (i := 229) rfl)) rfl
theorem wi_X7_bandOf : Cond.instanceMethod yX7_bandOf ∈ UW := tbu (tb4 (List.mem_of_getElem? (i := 227) rfl)) rfl
theorem wl_X7_bandOf : Cond.selects RX7 yX7_bandOf yX7_bandOf ∈ UW := tbu (tb4 (List.mem_of_getElem? (i := 228) rfl)) rfl
theorem wk_X9_283 : Cond.methodLink RX9 283 yX7_bandOf ∈ UW := tbu (tb4 (List.mem_of_getElem? (i := 226) rfl)) rfl
theorem wc_X7_bestOffsetFor : Cond.code yX7_bestOffsetFor cX7_bestOffsetFor 10 (some .int) ∈ UW := tbu (tb5 (List.mem_of_getElem? (i := 4) rfl)) rfl
theorem wi_X7_bestOffsetFor : Cond.instanceMethod yX7_bestOffsetFor ∈ UW := tbu (tb5 (List.mem_of_getElem? (i := 2) rfl)) rfl
theorem wl_X7_bestOffsetFor : Cond.selects RX7 yX7_bestOffsetFor yX7_bestOffsetFor ∈ UW := tbu (tb5 (List.mem_of_getElem? (i := 3) rfl)) rfl
theorem wk_X9_290 : Cond.methodLink RX9 290 yX7_bestOffsetFor ∈ UW := tbu (tb5 (List.mem_of_getElem? (i := 1) rfl)) rfl
theorem wc_X9_runFault : Cond.code yX9_runFault cX9_runFault 2 (some .int) ∈ UW := tbu (tb5 (List.mem_of_getElem? (i := 51) rfl)) rfl
theorem wi_X9_runFault : Cond.instanceMethod yX9_runFault ∈ UW := tbu (tb5 (List.mem_of_getElem? (i := 50) rfl)) rfl
theorem wl_X9_runFault : Cond.selects RX9 yX9_runFault yX9_runFault ∈ UW := tbs (List.mem_of_getElem? (i := 26) rfl) rfl
theorem wk_X9_299 : Cond.methodLink RX9 299 yX9_runFault ∈ UW := tbu (tb5 (List.mem_of_getElem? (i := 48) rfl)) rfl
theorem wc_X6_letPass : Cond.code yX6_letPass cX6_letPass 5 (some .int) ∈ UW := tbu (tb5 (List.mem_of_getElem? (i := 55) rfl)) rfl
theorem wi_X6_letPass : Cond.instanceMethod yX6_letPass ∈ UW := tbu (tb5 (List.mem_of_getElem? (i := 53) rfl)) rfl
theorem wl_X6_letPass : Cond.selects RX6 yX6_letPass yX6_letPass ∈ UW := tbu (tb5 (List.mem_of_getElem? (i := 54) rfl)) rfl
theorem wk_X9_302 : Cond.methodLink RX9 302 yX6_letPass ∈ UW := tbu (tb5 (List.mem_of_getElem? (i := 52) rfl)) rfl
theorem wc_X6_sumOf : Cond.code yX6_sumOf cX6_sumOf 4 (some .int) ∈ UW := tbu (tb5 (List.mem_of_getElem? (i := 129) rfl)) rfl
theorem wi_X6_sumOf : Cond.instanceMethod yX6_sumOf ∈ UW := tbu (tb5 (List.mem_of_getElem? (i := 127) rfl)) rfl
theorem wl_X6_sumOf : Cond.selects RX6 yX6_sumOf yX6_sumOf ∈ UW := tbu (tb5 (List.mem_of_getElem? (i := 128) rfl)) rfl
theorem wk_X9_324 : Cond.methodLink RX9 324 yX6_sumOf ∈ UW := tbu (tb5 (List.mem_of_getElem? (i := 126) rfl)) rfl
theorem wf_X9_46 : Cond.fieldLink RX9 46 "SignalRoad" "script" "LSignalRoad$Script;" ∈ UW := tbu (tb2 (List.mem_of_getElem? (i := 31) rfl)) rfl
theorem wf_X9_321 : Cond.fieldLink RX9 321 "SignalRoad$Script" "length" "I" ∈ UW := tbu (tb1 (List.mem_of_getElem? (i := 221) rfl)) rfl
theorem wf_X9_320 : Cond.fieldLink RX9 320 "SignalRoad$History" "count" "I" ∈ UW := tbu (tb1 (List.mem_of_getElem? (i := 168) rfl)) rfl
theorem wj_X9_327 : Cond.classLink RX9 327 (exN 5) ∈ UW := tbu (tb5 (List.mem_of_getElem? (i := 168) rfl)) rfl
theorem wxi_5 : Cond.initialized (exN 5) ∈ UW := tbu (tb1 (List.mem_of_getElem? (i := 25) rfl)) rfl
theorem wc_X5_add : Cond.code yX5_add cX5_add 2 none ∈ UW := tbu (tb5 (List.mem_of_getElem? (i := 193) rfl)) rfl
theorem wi_X5_add : Cond.instanceMethod yX5_add ∈ UW := tbu (tb5 (List.mem_of_getElem? (i := 191) rfl)) rfl
theorem wl_X5_add : Cond.selects RX5 yX5_add yX5_add ∈ UW := tbu (tb5 (List.mem_of_getElem? (i := 192) rfl)) rfl
theorem wk_X9_338 : Cond.methodLink RX9 338 yX5_add ∈ UW := tbu (tb5 (List.mem_of_getElem? (i := 190) rfl)) rfl
theorem wf_X9_53 : Cond.fieldLink RX9 53 "SignalRoad" "page" "LSignalRoad$Report;" ∈ UW := tbu (tb2 (List.mem_of_getElem? (i := 32) rfl)) rfl
theorem wf_X9_367 : Cond.fieldLink RX9 367 "SignalRoad$Report" "length" "I" ∈ UW := tbu (tb2 (List.mem_of_getElem? (i := 17) rfl)) rfl
theorem wf_X9_368 : Cond.fieldLink RX9 368 "SignalRoad$Report" "signs" "[C" ∈ UW := tbu (tb2 (List.mem_of_getElem? (i := 19) rfl)) rfl
theorem wc_X1_popInto : Cond.code yX1_popInto cX1_popInto 2 none ∈ UW := tbu (tb6 (List.mem_of_getElem? (i := 116) rfl)) rfl
theorem wi_X1_popInto : Cond.instanceMethod yX1_popInto ∈ UW := tbu (tb6 (List.mem_of_getElem? (i := 114) rfl)) rfl
theorem wl_X1_popInto : Cond.selects RX1 yX1_popInto yX1_popInto ∈ UW := tbu (tb6 (List.mem_of_getElem? (i := 115) rfl)) rfl
theorem wk_X9_372 : Cond.methodLink RX9 372 yX1_popInto ∈ UW := tbu (tb6 (List.mem_of_getElem? (i := 113) rfl)) rfl
theorem wk_X9_379 : Cond.methodLink RX9 379 yX2_hasRoadGroup ∈ UW := tbu (tb3 (List.mem_of_getElem? (i := 109) rfl)) rfl
theorem wf_X9_382 : Cond.fieldLink RX9 382 "SignalRoad$Junction" "roadGroups" "[I" ∈ UW := tbu (tb1 (List.mem_of_getElem? (i := 81) rfl)) rfl
theorem wc_X9_isGreen : Cond.code yX9_isGreen cX9_isGreen 3 (some .boolean) ∈ UW := tbu (tb4 (List.mem_of_getElem? (i := 29) rfl)) rfl
theorem wi_X9_isGreen : Cond.instanceMethod yX9_isGreen ∈ UW := tbu (tb4 (List.mem_of_getElem? (i := 28) rfl)) rfl
theorem wl_X9_isGreen : Cond.selects RX9 yX9_isGreen yX9_isGreen ∈ UW := tbs (List.mem_of_getElem? (i := 10) rfl) rfl
theorem wk_X9_225 : Cond.methodLink RX9 225 yX9_isGreen ∈ UW := tbu (tb4 (List.mem_of_getElem? (i := 26) rfl)) rfl
theorem wc_X2_reasonAgainstGreen : Cond.code yX2_reasonAgainstGreen cX2_reasonAgainstGreen 11 (some .int) ∈ UW := tbu (tb4 (List.mem_of_getElem? (i := 33) rfl)) rfl
theorem wi_X2_reasonAgainstGreen : Cond.instanceMethod yX2_reasonAgainstGreen ∈ UW := tbu (tb4 (List.mem_of_getElem? (i := 31) rfl)) rfl
theorem wl_X2_reasonAgainstGreen : Cond.selects RX2 yX2_reasonAgainstGreen yX2_reasonAgainstGreen ∈ UW := tbu (tb4 (List.mem_of_getElem? (i := 32) rfl)) rfl
theorem wk_X9_228 : Cond.methodLink RX9 228 yX2_reasonAgainstGreen ∈ UW := tbu (tb4 (List.mem_of_getElem? (i := 30) rfl)) rfl
theorem wc_X9_faultOfReason : Cond.code yX9_faultOfReason cX9_faultOfReason 2 (some .int) ∈ UW := tbu (tb3 (List.mem_of_getElem? (i := 230) rfl)) rfl
theorem wi_X9_faultOfReason : Cond.instanceMethod yX9_faultOfReason ∈ UW := tbu (tb3 (List.mem_of_getElem? (i := 229) rfl)) rfl
theorem wl_X9_faultOfReason : Cond.selects RX9 yX9_faultOfReason yX9_faultOfReason ∈ UW := tbs (List.mem_of_getElem? (i := 8) rfl) rfl
theorem wk_X9_202 : Cond.methodLink RX9 202 yX9_faultOfReason ∈ UW := tbu (tb3 (List.mem_of_getElem? (i := 227) rfl)) rfl
theorem wk_X9_234 : Cond.methodLink RX9 234 yX2_setGreen ∈ UW := tbu (tb4 (List.mem_of_getElem? (i := 45) rfl)) rfl
theorem wk_X9_385 : Cond.methodLink RX9 385 yX2_greenCount ∈ UW := tbu (tb4 (List.mem_of_getElem? (i := 49) rfl)) rfl
theorem wk_X9_388 : Cond.methodLink RX9 388 yX2_isWaiting ∈ UW := tbu (tb5 (List.mem_of_getElem? (i := 36) rfl)) rfl
theorem wk_X9_391 : Cond.methodLink RX9 391 yX2_waitingCount ∈ UW := tbu (tb5 (List.mem_of_getElem? (i := 37) rfl)) rfl
theorem wf_X9_179 : Cond.fieldLink RX9 179 "SignalRoad$Junction" "requestTimes" "[I" ∈ UW := tbu (tb1 (List.mem_of_getElem? (i := 90) rfl)) rfl
theorem wc_X10_lights : Cond.code yX10_lights cX10_lights 8 (some .int) ∈ UW := tbu (tb7 (List.mem_of_getElem? (i := 64) rfl)) rfl
theorem wi_X10_lights : Cond.instanceMethod yX10_lights ∈ UW := tbu (tb7 (List.mem_of_getElem? (i := 63) rfl)) rfl
theorem wl_X10_lights : Cond.selects RX10 yX10_lights yX10_lights ∈ UW := tbs (List.mem_of_getElem? (i := 62) rfl) rfl
theorem wk_X10_130 : Cond.methodLink RX10 130 yX10_lights ∈ UW := tbu (tb7 (List.mem_of_getElem? (i := 61) rfl)) rfl
theorem wc_X2_breaksClearance : Cond.code yX2_breaksClearance cX2_breaksClearance 7 (some .boolean) ∈ UW := tbu (tb5 (List.mem_of_getElem? (i := 86) rfl)) rfl
theorem wi_X2_breaksClearance : Cond.instanceMethod yX2_breaksClearance ∈ UW := tbu (tb5 (List.mem_of_getElem? (i := 85) rfl)) rfl
theorem wl_X2_breaksClearance : Cond.selects RX2 yX2_breaksClearance yX2_breaksClearance ∈ UW := tbs (List.mem_of_getElem? (i := 30) rfl) rfl
theorem wk_X2_178 : Cond.methodLink RX2 178 yX2_breaksClearance ∈ UW := tbu (tb5 (List.mem_of_getElem? (i := 83) rfl)) rfl
theorem wc_X3_divide : Cond.code yX3_divide cX3_divide 3 none ∈ UW := tbu (tb4 (List.mem_of_getElem? (i := 79) rfl)) rfl
theorem wi_X3_divide : Cond.instanceMethod yX3_divide ∈ UW := tbu (tb4 (List.mem_of_getElem? (i := 77) rfl)) rfl
theorem wl_X3_divide : Cond.selects RX3 yX3_divide yX3_divide ∈ UW := tbu (tb4 (List.mem_of_getElem? (i := 78) rfl)) rfl
theorem wk_X3_51 : Cond.methodLink RX3 51 yX3_divide ∈ UW := tbu (tb4 (List.mem_of_getElem? (i := 76) rfl)) rfl
theorem wc_X3_measure : Cond.code yX3_measure cX3_measure 5 none ∈ UW := tbu (tb4 (List.mem_of_getElem? (i := 91) rfl)) rfl
theorem wi_X3_measure : Cond.instanceMethod yX3_measure ∈ UW := tbu (tb4 (List.mem_of_getElem? (i := 90) rfl)) rfl
theorem wl_X3_measure : Cond.selects RX3 yX3_measure yX3_measure ∈ UW := tbs (List.mem_of_getElem? (i := 12) rfl) rfl
theorem wk_X3_55 : Cond.methodLink RX3 55 yX3_measure ∈ UW := tbu (tb4 (List.mem_of_getElem? (i := 88) rfl)) rfl
theorem wc_X3_spread : Cond.code yX3_spread cX3_spread 6 none ∈ UW := tbu (tb4 (List.mem_of_getElem? (i := 101) rfl)) rfl
theorem wi_X3_spread : Cond.instanceMethod yX3_spread ∈ UW := tbu (tb4 (List.mem_of_getElem? (i := 100) rfl)) rfl
theorem wl_X3_spread : Cond.selects RX3 yX3_spread yX3_spread ∈ UW := tbs (List.mem_of_getElem? (i := 14) rfl) rfl
theorem wk_X3_58 : Cond.methodLink RX3 58 yX3_spread ∈ UW := tbu (tb4 (List.mem_of_getElem? (i := 98) rfl)) rfl
theorem wc_X3_setStarts : Cond.code yX3_setStarts cX3_setStarts 3 none ∈ UW := tbu (tb4 (List.mem_of_getElem? (i := 105) rfl)) rfl
theorem wi_X3_setStarts : Cond.instanceMethod yX3_setStarts ∈ UW := tbu (tb4 (List.mem_of_getElem? (i := 104) rfl)) rfl
theorem wl_X3_setStarts : Cond.selects RX3 yX3_setStarts yX3_setStarts ∈ UW := tbs (List.mem_of_getElem? (i := 15) rfl) rfl
theorem wk_X3_62 : Cond.methodLink RX3 62 yX3_setStarts ∈ UW := tbu (tb4 (List.mem_of_getElem? (i := 102) rfl)) rfl
theorem wc_X3_isClear : Cond.code yX3_isClear cX3_isClear 7 (some .boolean) ∈ UW := tbu (tb4 (List.mem_of_getElem? (i := 109) rfl)) rfl
theorem wi_X3_isClear : Cond.instanceMethod yX3_isClear ∈ UW := tbu (tb4 (List.mem_of_getElem? (i := 108) rfl)) rfl
theorem wl_X3_isClear : Cond.selects RX3 yX3_isClear yX3_isClear ∈ UW := tbs (List.mem_of_getElem? (i := 16) rfl) rfl
theorem wk_X3_65 : Cond.methodLink RX3 65 yX3_isClear ∈ UW := tbu (tb4 (List.mem_of_getElem? (i := 106) rfl)) rfl
theorem wc_X9_offsetFault : Cond.code yX9_offsetFault cX9_offsetFault 4 (some .int) ∈ UW := tbu (tb3 (List.mem_of_getElem? (i := 73) rfl)) rfl
theorem wi_X9_offsetFault : Cond.instanceMethod yX9_offsetFault ∈ UW := tbu (tb3 (List.mem_of_getElem? (i := 72) rfl)) rfl
theorem wl_X9_offsetFault : Cond.selects RX9 yX9_offsetFault yX9_offsetFault ∈ UW := tbs (List.mem_of_getElem? (i := 1) rfl) rfl
theorem wk_X9_97 : Cond.methodLink RX9 97 yX9_offsetFault ∈ UW := tbu (tb3 (List.mem_of_getElem? (i := 70) rfl)) rfl
theorem wc_X9_setOffset : Cond.code yX9_setOffset cX9_setOffset 5 (some .int) ∈ UW := tbu (tb3 (List.mem_of_getElem? (i := 83) rfl)) rfl
theorem wi_X9_setOffset : Cond.instanceMethod yX9_setOffset ∈ UW := tbu (tb3 (List.mem_of_getElem? (i := 82) rfl)) rfl
theorem wl_X9_setOffset : Cond.selects RX9 yX9_setOffset yX9_setOffset ∈ UW := tbs (List.mem_of_getElem? (i := 2) rfl) rfl
theorem wk_X9_105 : Cond.methodLink RX9 105 yX9_setOffset ∈ UW := tbu (tb3 (List.mem_of_getElem? (i := 80) rfl)) rfl
theorem wc_X9_roadFault : Cond.code yX9_roadFault cX9_roadFault 6 (some .int) ∈ UW := tbu (tb3 (List.mem_of_getElem? (i := 99) rfl)) rfl
theorem wi_X9_roadFault : Cond.instanceMethod yX9_roadFault ∈ UW := tbu (tb3 (List.mem_of_getElem? (i := 98) rfl)) rfl
theorem wl_X9_roadFault : Cond.selects RX9 yX9_roadFault yX9_roadFault ∈ UW := tbs (List.mem_of_getElem? (i := 4) rfl) rfl
theorem wk_X9_108 : Cond.methodLink RX9 108 yX9_roadFault ∈ UW := tbu (tb3 (List.mem_of_getElem? (i := 96) rfl)) rfl
theorem wc_X9_setRoadGroups : Cond.code yX9_setRoadGroups cX9_setRoadGroups 6 (some .int) ∈ UW := tbu (tb3 (List.mem_of_getElem? (i := 108) rfl)) rfl
theorem wi_X9_setRoadGroups : Cond.instanceMethod yX9_setRoadGroups ∈ UW := tbu (tb3 (List.mem_of_getElem? (i := 107) rfl)) rfl
theorem wl_X9_setRoadGroups : Cond.selects RX9 yX9_setRoadGroups yX9_setRoadGroups ∈ UW := tbs (List.mem_of_getElem? (i := 5) rfl) rfl
theorem wk_X9_112 : Cond.methodLink RX9 112 yX9_setRoadGroups ∈ UW := tbu (tb3 (List.mem_of_getElem? (i := 105) rfl)) rfl
theorem wc_X9_foundWith : Cond.code yX9_foundWith cX9_foundWith 4 (some (.object "SignalRoad$Junction")) ∈ UW := tbu (tb3 (List.mem_of_getElem? (i := 196) rfl)) rfl
theorem wi_X9_foundWith : Cond.instanceMethod yX9_foundWith ∈ UW := tbu (tb3 (List.mem_of_getElem? (i := 195) rfl)) rfl
theorem wl_X9_foundWith : Cond.selects RX9 yX9_foundWith yX9_foundWith ∈ UW := tbs (List.mem_of_getElem? (i := 6) rfl) rfl
theorem wk_X9_159 : Cond.methodLink RX9 159 yX9_foundWith ∈ UW := tbu (tb3 (List.mem_of_getElem? (i := 193) rfl)) rfl
theorem wk_X9_185 : Cond.methodLink RX9 185 yX2_headCount ∈ UW := tbu (tb3 (List.mem_of_getElem? (i := 200) rfl)) rfl
theorem wk_X9_182 : Cond.methodLink RX9 182 yX2_isGiven ∈ UW := tbu (tb3 (List.mem_of_getElem? (i := 199) rfl)) rfl
theorem wf_X9_176 : Cond.fieldLink RX9 176 "SignalRoad$Junction" "litSeconds" "[I" ∈ UW := tbu (tb1 (List.mem_of_getElem? (i := 88) rfl)) rfl
theorem wk_X9_173 : Cond.methodLink RX9 173 yX2_conflictSet ∈ UW := tbu (tb3 (List.mem_of_getElem? (i := 198) rfl)) rfl
theorem wf_X9_167 : Cond.fieldLink RX9 167 "SignalRoad$Junction" "leasts" "[I" ∈ UW := tbu (tb1 (List.mem_of_getElem? (i := 86) rfl)) rfl
theorem wf_X9_163 : Cond.fieldLink RX9 163 "SignalRoad$Junction" "kinds" "[I" ∈ UW := tbu (tb1 (List.mem_of_getElem? (i := 83) rfl)) rfl
theorem wc_X2_reasonAgainstConflict : Cond.code yX2_reasonAgainstConflict cX2_reasonAgainstConflict 9 (some .int) ∈ UW := tbu (tb3 (List.mem_of_getElem? (i := 218) rfl)) rfl
theorem wi_X2_reasonAgainstConflict : Cond.instanceMethod yX2_reasonAgainstConflict ∈ UW := tbu (tb3 (List.mem_of_getElem? (i := 216) rfl)) rfl
theorem wl_X2_reasonAgainstConflict : Cond.selects RX2 yX2_reasonAgainstConflict yX2_reasonAgainstConflict ∈ UW := tbu (tb3 (List.mem_of_getElem? (i := 217) rfl)) rfl
theorem wk_X9_198 : Cond.methodLink RX9 198 yX2_reasonAgainstConflict ∈ UW := tbu (tb3 (List.mem_of_getElem? (i := 215) rfl)) rfl
theorem wc_X2_setClearances : Cond.code yX2_setClearances cX2_setClearances 5 none ∈ UW := tbu (tb3 (List.mem_of_getElem? (i := 234) rfl)) rfl
theorem wi_X2_setClearances : Cond.instanceMethod yX2_setClearances ∈ UW := tbu (tb3 (List.mem_of_getElem? (i := 232) rfl)) rfl
theorem wl_X2_setClearances : Cond.selects RX2 yX2_setClearances yX2_setClearances ∈ UW := tbu (tb3 (List.mem_of_getElem? (i := 233) rfl)) rfl
theorem wk_X9_205 : Cond.methodLink RX9 205 yX2_setClearances ∈ UW := tbu (tb3 (List.mem_of_getElem? (i := 231) rfl)) rfl
theorem wc_X9_isClearance : Cond.code yX9_isClearance cX9_isClearance 1 (some .boolean) ∈ UW := tbu (tb3 (List.mem_of_getElem? (i := 214) rfl)) rfl
theorem ws_X9_isClearance : Cond.static yX9_isClearance ∈ UW := tbu (tb3 (List.mem_of_getElem? (i := 213) rfl)) rfl
theorem wk_X9_191 : Cond.methodLink RX9 191 yX9_isClearance ∈ UW := tbu (tb3 (List.mem_of_getElem? (i := 212) rfl)) rfl
theorem wk_X9_209 : Cond.methodLink RX9 209 yX2_areInConflict ∈ UW := tbu (tb4 (List.mem_of_getElem? (i := 3) rfl)) rfl
theorem wk_X9_213 : Cond.methodLink RX9 213 yX2_clearanceFrom ∈ UW := tbu (tb4 (List.mem_of_getElem? (i := 4) rfl)) rfl
theorem wc_X9_greenFault : Cond.code yX9_greenFault cX9_greenFault 7 (some .int) ∈ UW := tbu (tb4 (List.mem_of_getElem? (i := 22) rfl)) rfl
theorem wi_X9_greenFault : Cond.instanceMethod yX9_greenFault ∈ UW := tbu (tb4 (List.mem_of_getElem? (i := 21) rfl)) rfl
theorem wl_X9_greenFault : Cond.selects RX9 yX9_greenFault yX9_greenFault ∈ UW := tbs (List.mem_of_getElem? (i := 9) rfl) rfl
theorem wk_X9_216 : Cond.methodLink RX9 216 yX9_greenFault ∈ UW := tbu (tb4 (List.mem_of_getElem? (i := 19) rfl)) rfl
theorem wc_X9_giveGreen : Cond.code yX9_giveGreen cX9_giveGreen 7 (some .int) ∈ UW := tbu (tb4 (List.mem_of_getElem? (i := 44) rfl)) rfl
theorem wi_X9_giveGreen : Cond.instanceMethod yX9_giveGreen ∈ UW := tbu (tb4 (List.mem_of_getElem? (i := 43) rfl)) rfl
theorem wl_X9_giveGreen : Cond.selects RX9 yX9_giveGreen yX9_giveGreen ∈ UW := tbs (List.mem_of_getElem? (i := 11) rfl) rfl
theorem wk_X9_219 : Cond.methodLink RX9 219 yX9_giveGreen ∈ UW := tbu (tb4 (List.mem_of_getElem? (i := 41) rfl)) rfl
theorem wk_X9_231 : Cond.methodLink RX9 231 yX2_lengthOf ∈ UW := tbu (tb4 (List.mem_of_getElem? (i := 64) rfl)) rfl
theorem wf_X9_32 : Cond.fieldLink RX9 32 "SignalRoad" "phases" "LSignalRoad$Phases;" ∈ UW := tbu (tb2 (List.mem_of_getElem? (i := 29) rfl)) rfl
theorem wc_X3_layOut : Cond.code yX3_layOut cX3_layOut 5 (some .int) ∈ UW := tbu (tb4 (List.mem_of_getElem? (i := 75) rfl)) rfl
theorem wi_X3_layOut : Cond.instanceMethod yX3_layOut ∈ UW := tbu (tb4 (List.mem_of_getElem? (i := 73) rfl)) rfl
theorem wl_X3_layOut : Cond.selects RX3 yX3_layOut yX3_layOut ∈ UW := tbu (tb4 (List.mem_of_getElem? (i := 74) rfl)) rfl
theorem wk_X9_237 : Cond.methodLink RX9 237 yX3_layOut ∈ UW := tbu (tb4 (List.mem_of_getElem? (i := 72) rfl)) rfl
theorem wc_X3_giveGreens : Cond.code yX3_giveGreens cX3_giveGreens 4 none ∈ UW := tbu (tb4 (List.mem_of_getElem? (i := 114) rfl)) rfl
theorem wi_X3_giveGreens : Cond.instanceMethod yX3_giveGreens ∈ UW := tbu (tb4 (List.mem_of_getElem? (i := 112) rfl)) rfl
theorem wl_X3_giveGreens : Cond.selects RX3 yX3_giveGreens yX3_giveGreens ∈ UW := tbu (tb4 (List.mem_of_getElem? (i := 113) rfl)) rfl
theorem wk_X9_241 : Cond.methodLink RX9 241 yX3_giveGreens ∈ UW := tbu (tb4 (List.mem_of_getElem? (i := 111) rfl)) rfl
theorem wf_X9_245 : Cond.fieldLink RX9 245 "SignalRoad$Phases" "count" "I" ∈ UW := tbu (tb1 (List.mem_of_getElem? (i := 185) rfl)) rfl
theorem wk_X9_248 : Cond.methodLink RX9 248 yX3_divide ∈ UW := tbu (tb4 (List.mem_of_getElem? (i := 123) rfl)) rfl
theorem wf_X9_252 : Cond.fieldLink RX9 252 "SignalRoad$Phases" "phaseOf" "[I" ∈ UW := tbu (tb1 (List.mem_of_getElem? (i := 187) rfl)) rfl
theorem wk_X9_255 : Cond.methodLink RX9 255 yX2_hasGreen ∈ UW := tbu (tb4 (List.mem_of_getElem? (i := 131) rfl)) rfl
theorem wk_X9_258 : Cond.methodLink RX9 258 yX2_firstOf ∈ UW := tbu (tb4 (List.mem_of_getElem? (i := 132) rfl)) rfl
theorem wc_X9_pressFault : Cond.code yX9_pressFault cX9_pressFault 4 (some .int) ∈ UW := tbu (tb5 (List.mem_of_getElem? (i := 31) rfl)) rfl
theorem wi_X9_pressFault : Cond.instanceMethod yX9_pressFault ∈ UW := tbu (tb5 (List.mem_of_getElem? (i := 30) rfl)) rfl
theorem wl_X9_pressFault : Cond.selects RX9 yX9_pressFault yX9_pressFault ∈ UW := tbs (List.mem_of_getElem? (i := 24) rfl) rfl
theorem wk_X9_293 : Cond.methodLink RX9 293 yX9_pressFault ∈ UW := tbu (tb5 (List.mem_of_getElem? (i := 28) rfl)) rfl
theorem wc_X9_makeRequest : Cond.code yX9_makeRequest cX9_makeRequest 4 (some .int) ∈ UW := tbu (tb5 (List.mem_of_getElem? (i := 35) rfl)) rfl
theorem wi_X9_makeRequest : Cond.instanceMethod yX9_makeRequest ∈ UW := tbu (tb5 (List.mem_of_getElem? (i := 34) rfl)) rfl
theorem wl_X9_makeRequest : Cond.selects RX9 yX9_makeRequest yX9_makeRequest ∈ UW := tbs (List.mem_of_getElem? (i := 25) rfl) rfl
theorem wk_X9_296 : Cond.methodLink RX9 296 yX9_makeRequest ∈ UW := tbu (tb5 (List.mem_of_getElem? (i := 32) rfl)) rfl
theorem wc_X2_takesHead : Cond.code yX2_takesHead cX2_takesHead 3 (some .boolean) ∈ UW := tbu (tb5 (List.mem_of_getElem? (i := 118) rfl)) rfl
theorem wi_X2_takesHead : Cond.instanceMethod yX2_takesHead ∈ UW := tbu (tb5 (List.mem_of_getElem? (i := 116) rfl)) rfl
theorem wl_X2_takesHead : Cond.selects RX2 yX2_takesHead yX2_takesHead ∈ UW := tbu (tb5 (List.mem_of_getElem? (i := 117) rfl)) rfl
theorem wk_X9_314 : Cond.methodLink RX9 314 yX2_takesHead ∈ UW := tbu (tb5 (List.mem_of_getElem? (i := 115) rfl)) rfl
theorem wf_X9_317 : Cond.fieldLink RX9 317 "SignalRoad$Junction" "heads" "[I" ∈ UW := tbu (tb1 (List.mem_of_getElem? (i := 92) rfl)) rfl
theorem wc_X9_bitsOfShare : Cond.code yX9_bitsOfShare cX9_bitsOfShare 4 (some .int) ∈ UW := tbu (tb5 (List.mem_of_getElem? (i := 173) rfl)) rfl
theorem ws_X9_bitsOfShare : Cond.static yX9_bitsOfShare ∈ UW := tbu (tb5 (List.mem_of_getElem? (i := 172) rfl)) rfl
theorem wk_X9_332 : Cond.methodLink RX9 332 yX9_bitsOfShare ∈ UW := tbu (tb5 (List.mem_of_getElem? (i := 171) rfl)) rfl
theorem wc_X2_isChangeClear : Cond.code yX2_isChangeClear cX2_isChangeClear 5 (some .boolean) ∈ UW := tbu (tb5 (List.mem_of_getElem? (i := 82) rfl)) rfl
theorem wi_X2_isChangeClear : Cond.instanceMethod yX2_isChangeClear ∈ UW := tbu (tb5 (List.mem_of_getElem? (i := 81) rfl)) rfl
theorem wl_X2_isChangeClear : Cond.selects RX2 yX2_isChangeClear yX2_isChangeClear ∈ UW := tbs (List.mem_of_getElem? (i := 29) rfl) rfl
theorem wk_X2_175 : Cond.methodLink RX2 175 yX2_isChangeClear ∈ UW := tbu (tb5 (List.mem_of_getElem? (i := 79) rfl)) rfl
theorem wc_J0_length_8abf5 : Cond.code yJ0_length_8abf5 cJ0_length_8abf5 1 (some .int) ∈ UW := tbu (tb5 (List.mem_of_getElem? (i := 227) rfl)) rfl
theorem wi_J0_length_8abf5 : Cond.instanceMethod yJ0_length_8abf5 ∈ UW := tbu (tb5 (List.mem_of_getElem? (i := 225) rfl)) rfl
theorem wl_J0_length_8abf5 : Cond.selects RJ0 yJ0_length_8abf5 yJ0_length_8abf5 ∈ UW := tbu (tb5 (List.mem_of_getElem? (i := 226) rfl)) rfl
theorem wk_X4_60 : Cond.methodLink RX4 60 yJ0_length_8abf5 ∈ UW := tbu (tb6 (List.mem_of_getElem? (i := 77) rfl)) rfl
theorem wc_J0_charAt_5068e : Cond.code yJ0_charAt_5068e cJ0_charAt_5068e 2 (some .char) ∈ UW := tbu (tb5 (List.mem_of_getElem? (i := 237) rfl)) rfl
theorem wi_J0_charAt_5068e : Cond.instanceMethod yJ0_charAt_5068e ∈ UW := tbu (tb5 (List.mem_of_getElem? (i := 235) rfl)) rfl
theorem wl_J0_charAt_5068e : Cond.selects RJ0 yJ0_charAt_5068e yJ0_charAt_5068e ∈ UW := tbu (tb5 (List.mem_of_getElem? (i := 236) rfl)) rfl
theorem wk_X4_65 : Cond.methodLink RX4 65 yJ0_charAt_5068e ∈ UW := tbu (tb6 (List.mem_of_getElem? (i := 78) rfl)) rfl
theorem wk_X5_74 : Cond.methodLink RX5 74 yJ0_length_8abf5 ∈ UW := tbu (tb5 (List.mem_of_getElem? (i := 224) rfl)) rfl
theorem wk_X5_78 : Cond.methodLink RX5 78 yJ0_charAt_5068e ∈ UW := tbu (tb5 (List.mem_of_getElem? (i := 234) rfl)) rfl
theorem wc_X2_secondsToChange : Cond.code yX2_secondsToChange cX2_secondsToChange 5 (some .int) ∈ UW := tbu (tb5 (List.mem_of_getElem? (i := 78) rfl)) rfl
theorem wi_X2_secondsToChange : Cond.instanceMethod yX2_secondsToChange ∈ UW := tbu (tb5 (List.mem_of_getElem? (i := 76) rfl)) rfl
theorem wl_X2_secondsToChange : Cond.selects RX2 yX2_secondsToChange yX2_secondsToChange ∈ UW := tbu (tb5 (List.mem_of_getElem? (i := 77) rfl)) rfl
theorem wk_X9_305 : Cond.methodLink RX9 305 yX2_secondsToChange ∈ UW := tbu (tb5 (List.mem_of_getElem? (i := 75) rfl)) rfl
theorem wf_X9_394 : Cond.fieldLink RX9 394 "SignalRoad$Script" "words" "[LSignalRoad$Word;" ∈ UW := tbu (tb1 (List.mem_of_getElem? (i := 230) rfl)) rfl
theorem wc_X5_numberAt : Cond.code yX5_numberAt cX5_numberAt 3 (some .int) ∈ UW := tbu (tb6 (List.mem_of_getElem? (i := 47) rfl)) rfl
theorem wi_X5_numberAt : Cond.instanceMethod yX5_numberAt ∈ UW := tbu (tb6 (List.mem_of_getElem? (i := 45) rfl)) rfl
theorem wl_X5_numberAt : Cond.selects RX5 yX5_numberAt yX5_numberAt ∈ UW := tbu (tb6 (List.mem_of_getElem? (i := 46) rfl)) rfl
theorem wk_X9_398 : Cond.methodLink RX9 398 yX5_numberAt ∈ UW := tbu (tb6 (List.mem_of_getElem? (i := 44) rfl)) rfl
theorem wc_X9_changeFault : Cond.code yX9_changeFault cX9_changeFault 3 (some .int) ∈ UW := tbu (tb5 (List.mem_of_getElem? (i := 103) rfl)) rfl
theorem wi_X9_changeFault : Cond.instanceMethod yX9_changeFault ∈ UW := tbu (tb5 (List.mem_of_getElem? (i := 102) rfl)) rfl
theorem wl_X9_changeFault : Cond.selects RX9 yX9_changeFault yX9_changeFault ∈ UW := tbs (List.mem_of_getElem? (i := 32) rfl) rfl
theorem wk_X9_308 : Cond.methodLink RX9 308 yX9_changeFault ∈ UW := tbu (tb5 (List.mem_of_getElem? (i := 100) rfl)) rfl
theorem wc_X9_planChange : Cond.code yX9_planChange cX9_planChange 4 (some .int) ∈ UW := tbu (tb5 (List.mem_of_getElem? (i := 107) rfl)) rfl
theorem wi_X9_planChange : Cond.instanceMethod yX9_planChange ∈ UW := tbu (tb5 (List.mem_of_getElem? (i := 106) rfl)) rfl
theorem wl_X9_planChange : Cond.selects RX9 yX9_planChange yX9_planChange ∈ UW := tbs (List.mem_of_getElem? (i := 33) rfl) rfl
theorem wk_X9_311 : Cond.methodLink RX9 311 yX9_planChange ∈ UW := tbu (tb5 (List.mem_of_getElem? (i := 104) rfl)) rfl
theorem wk_X10_247 : Cond.methodLink RX10 247 yJ0_charAt_5068e ∈ UW := tbu (tb8 (List.mem_of_getElem? (i := 75) rfl)) rfl
theorem wc_X10_word : Cond.code yX10_word cX10_word 5 (some .int) ∈ UW := tbu (tb8 (List.mem_of_getElem? (i := 69) rfl)) rfl
theorem wi_X10_word : Cond.instanceMethod yX10_word ∈ UW := tbu (tb8 (List.mem_of_getElem? (i := 68) rfl)) rfl
theorem wl_X10_word : Cond.selects RX10 yX10_word yX10_word ∈ UW := tbs (List.mem_of_getElem? (i := 91) rfl) rfl
theorem wk_X10_259 : Cond.methodLink RX10 259 yX10_word ∈ UW := tbu (tb8 (List.mem_of_getElem? (i := 66) rfl)) rfl
theorem wc_X10_items : Cond.code yX10_items cX10_items 4 (some .boolean) ∈ UW := tbu (tb8 (List.mem_of_getElem? (i := 83) rfl)) rfl
theorem wi_X10_items : Cond.instanceMethod yX10_items ∈ UW := tbu (tb8 (List.mem_of_getElem? (i := 82) rfl)) rfl
theorem wl_X10_items : Cond.selects RX10 yX10_items yX10_items ∈ UW := tbs (List.mem_of_getElem? (i := 94) rfl) rfl
theorem wk_X10_262 : Cond.methodLink RX10 262 yX10_items ∈ UW := tbu (tb8 (List.mem_of_getElem? (i := 80) rfl)) rfl
theorem wc_X10_does : Cond.code yX10_does cX10_does 2 (some .int) ∈ UW := tbu (tb8 (List.mem_of_getElem? (i := 91) rfl)) rfl
theorem wi_X10_does : Cond.instanceMethod yX10_does ∈ UW := tbu (tb8 (List.mem_of_getElem? (i := 90) rfl)) rfl
theorem wl_X10_does : Cond.selects RX10 yX10_does yX10_does ∈ UW := tbs (List.mem_of_getElem? (i := 96) rfl) rfl
theorem wk_X10_265 : Cond.methodLink RX10 265 yX10_does ∈ UW := tbu (tb8 (List.mem_of_getElem? (i := 88) rfl)) rfl
theorem wk_X10_268 : Cond.methodLink RX10 268 yJ0_length_8abf5 ∈ UW := tbu (tb8 (List.mem_of_getElem? (i := 105) rfl)) rfl
theorem wc_X10_writes : Cond.code yX10_writes cX10_writes 3 none ∈ UW := tbu (tb8 (List.mem_of_getElem? (i := 104) rfl)) rfl
theorem wi_X10_writes : Cond.instanceMethod yX10_writes ∈ UW := tbu (tb8 (List.mem_of_getElem? (i := 103) rfl)) rfl
theorem wl_X10_writes : Cond.selects RX10 yX10_writes yX10_writes ∈ UW := tbs (List.mem_of_getElem? (i := 97) rfl) rfl
theorem wk_X10_279 : Cond.methodLink RX10 279 yX10_writes ∈ UW := tbu (tb8 (List.mem_of_getElem? (i := 101) rfl)) rfl
theorem wc_X10_lists : Cond.code yX10_lists cX10_lists 5 none ∈ UW := tbu (tb8 (List.mem_of_getElem? (i := 117) rfl)) rfl
theorem wi_X10_lists : Cond.instanceMethod yX10_lists ∈ UW := tbu (tb8 (List.mem_of_getElem? (i := 116) rfl)) rfl
theorem wl_X10_lists : Cond.selects RX10 yX10_lists yX10_lists ∈ UW := tbs (List.mem_of_getElem? (i := 99) rfl) rfl
theorem wk_X10_296 : Cond.methodLink RX10 296 yX10_lists ∈ UW := tbu (tb8 (List.mem_of_getElem? (i := 114) rfl)) rfl
theorem wc_X4_addText : Cond.code yX4_addText cX4_addText 3 none ∈ UW := tbu (tb6 (List.mem_of_getElem? (i := 76) rfl)) rfl
theorem wi_X4_addText : Cond.instanceMethod yX4_addText ∈ UW := tbu (tb6 (List.mem_of_getElem? (i := 75) rfl)) rfl
theorem wl_X4_addText : Cond.selects RX4 yX4_addText yX4_addText ∈ UW := tbs (List.mem_of_getElem? (i := 42) rfl) rfl
theorem wk_X4_26 : Cond.methodLink RX4 26 yX4_addText ∈ UW := tbu (tb6 (List.mem_of_getElem? (i := 73) rfl)) rfl
theorem wc_X4_addNumber : Cond.code yX4_addNumber cX4_addNumber 3 none ∈ UW := tbu (tb6 (List.mem_of_getElem? (i := 86) rfl)) rfl
theorem wi_X4_addNumber : Cond.instanceMethod yX4_addNumber ∈ UW := tbu (tb6 (List.mem_of_getElem? (i := 85) rfl)) rfl
theorem wl_X4_addNumber : Cond.selects RX4 yX4_addNumber yX4_addNumber ∈ UW := tbs (List.mem_of_getElem? (i := 44) rfl) rfl
theorem wk_X4_30 : Cond.methodLink RX4 30 yX4_addNumber ∈ UW := tbu (tb6 (List.mem_of_getElem? (i := 83) rfl)) rfl
theorem wc_X5_isWord : Cond.code yX5_isWord cX5_isWord 4 (some .boolean) ∈ UW := tbu (tb5 (List.mem_of_getElem? (i := 223) rfl)) rfl
theorem wi_X5_isWord : Cond.instanceMethod yX5_isWord ∈ UW := tbu (tb5 (List.mem_of_getElem? (i := 222) rfl)) rfl
theorem wl_X5_isWord : Cond.selects RX5 yX5_isWord yX5_isWord ∈ UW := tbs (List.mem_of_getElem? (i := 37) rfl) rfl
theorem wk_X5_70 : Cond.methodLink RX5 70 yX5_isWord ∈ UW := tbu (tb5 (List.mem_of_getElem? (i := 220) rfl)) rfl
theorem wf_X4_15 : Cond.fieldLink RX4 15 "SignalRoad$Junction" "groupCount" "I" ∈ UW := tbu (tb1 (List.mem_of_getElem? (i := 65) rfl)) rfl
theorem wf_X4_36 : Cond.fieldLink RX4 36 "SignalRoad$Junction" "position" "I" ∈ UW := tbu (tb1 (List.mem_of_getElem? (i := 58) rfl)) rfl
theorem wf_X4_41 : Cond.fieldLink RX4 41 "SignalRoad$Junction" "presentPlan" "I" ∈ UW := tbu (tb1 (List.mem_of_getElem? (i := 71) rfl)) rfl
theorem wc_X4_addGroups : Cond.code yX4_addGroups cX4_addGroups 4 none ∈ UW := tbu (tb6 (List.mem_of_getElem? (i := 94) rfl)) rfl
theorem wi_X4_addGroups : Cond.instanceMethod yX4_addGroups ∈ UW := tbu (tb6 (List.mem_of_getElem? (i := 93) rfl)) rfl
theorem wl_X4_addGroups : Cond.selects RX4 yX4_addGroups yX4_addGroups ∈ UW := tbs (List.mem_of_getElem? (i := 45) rfl) rfl
theorem wk_X4_48 : Cond.methodLink RX4 48 yX4_addGroups ∈ UW := tbu (tb6 (List.mem_of_getElem? (i := 91) rfl)) rfl
theorem wf_X5_15 : Cond.fieldLink RX5 15 "SignalRoad$Script" "starts" "[I" ∈ UW := tbu (tb1 (List.mem_of_getElem? (i := 227) rfl)) rfl
theorem wc_X5_readWord : Cond.code yX5_readWord cX5_readWord 3 (some (.object "SignalRoad$Word")) ∈ UW := tbu (tb5 (List.mem_of_getElem? (i := 212) rfl)) rfl
theorem wi_X5_readWord : Cond.instanceMethod yX5_readWord ∈ UW := tbu (tb5 (List.mem_of_getElem? (i := 211) rfl)) rfl
theorem wl_X5_readWord : Cond.selects RX5 yX5_readWord yX5_readWord ∈ UW := tbs (List.mem_of_getElem? (i := 35) rfl) rfl
theorem wk_X5_45 : Cond.methodLink RX5 45 yX5_readWord ∈ UW := tbu (tb5 (List.mem_of_getElem? (i := 209) rfl)) rfl
theorem wf_X5_21 : Cond.fieldLink RX5 21 "SignalRoad$Script" "words" "[LSignalRoad$Word;" ∈ UW := tbu (tb1 (List.mem_of_getElem? (i := 229) rfl)) rfl
theorem wc_X5_readSign : Cond.code yX5_readSign cX5_readSign 2 none ∈ UW := tbu (tb6 (List.mem_of_getElem? (i := 35) rfl)) rfl
theorem wi_X5_readSign : Cond.instanceMethod yX5_readSign ∈ UW := tbu (tb6 (List.mem_of_getElem? (i := 34) rfl)) rfl
theorem wl_X5_readSign : Cond.selects RX5 yX5_readSign yX5_readSign ∈ UW := tbs (List.mem_of_getElem? (i := 38) rfl) rfl
theorem wk_X5_49 : Cond.methodLink RX5 49 yX5_readSign ∈ UW := tbu (tb6 (List.mem_of_getElem? (i := 32) rfl)) rfl
theorem wf_X5_35 : Cond.fieldLink RX5 35 "SignalRoad$Script" "count" "I" ∈ UW := tbu (tb1 (List.mem_of_getElem? (i := 222) rfl)) rfl
theorem wc_X5_readNumber : Cond.code yX5_readNumber cX5_readNumber 3 (some .int) ∈ UW := tbu (tb6 (List.mem_of_getElem? (i := 39) rfl)) rfl
theorem wi_X5_readNumber : Cond.instanceMethod yX5_readNumber ∈ UW := tbu (tb6 (List.mem_of_getElem? (i := 38) rfl)) rfl
theorem wl_X5_readNumber : Cond.selects RX5 yX5_readNumber yX5_readNumber ∈ UW := tbs (List.mem_of_getElem? (i := 39) rfl) rfl
theorem wk_X5_55 : Cond.methodLink RX5 55 yX5_readNumber ∈ UW := tbu (tb6 (List.mem_of_getElem? (i := 36) rfl)) rfl
theorem wc_X4_write : Cond.code yX4_write cX4_write 6 none ∈ UW := tbu (tb6 (List.mem_of_getElem? (i := 71) rfl)) rfl
theorem wi_X4_write : Cond.instanceMethod yX4_write ∈ UW := tbu (tb6 (List.mem_of_getElem? (i := 69) rfl)) rfl
theorem wl_X4_write : Cond.selects RX4 yX4_write yX4_write ∈ UW := tbu (tb6 (List.mem_of_getElem? (i := 70) rfl)) rfl
theorem wk_X9_363 : Cond.methodLink RX9 363 yX4_write ∈ UW := tbu (tb6 (List.mem_of_getElem? (i := 68) rfl)) rfl
theorem wc_X5_readCommand : Cond.code yX5_readCommand cX5_readCommand 4 none ∈ UW := tbu (tb5 (List.mem_of_getElem? (i := 208) rfl)) rfl
theorem wi_X5_readCommand : Cond.instanceMethod yX5_readCommand ∈ UW := tbu (tb5 (List.mem_of_getElem? (i := 207) rfl)) rfl
theorem wl_X5_readCommand : Cond.selects RX5 yX5_readCommand yX5_readCommand ∈ UW := tbs (List.mem_of_getElem? (i := 34) rfl) rfl
theorem wk_X5_41 : Cond.methodLink RX5 41 yX5_readCommand ∈ UW := tbu (tb5 (List.mem_of_getElem? (i := 205) rfl)) rfl
theorem wc_X5_read : Cond.code yX5_read cX5_read 2 (some .int) ∈ UW := tbu (tb5 (List.mem_of_getElem? (i := 204) rfl)) rfl
theorem wi_X5_read : Cond.instanceMethod yX5_read ∈ UW := tbu (tb5 (List.mem_of_getElem? (i := 202) rfl)) rfl
theorem wl_X5_read : Cond.selects RX5 yX5_read yX5_read ∈ UW := tbu (tb5 (List.mem_of_getElem? (i := 203) rfl)) rfl
theorem wk_X9_342 : Cond.methodLink RX9 342 yX5_read ∈ UW := tbu (tb5 (List.mem_of_getElem? (i := 201) rfl)) rfl
theorem wf_X9_16 : Cond.fieldLink RX9 16 "SignalRoad" "before" "LSignalRoad$State;" ∈ UW := tbu (tb2 (List.mem_of_getElem? (i := 26) rfl)) rfl
theorem wf_X9_348 : Cond.fieldLink RX9 348 "SignalRoad$Script" "count" "I" ∈ UW := tbu (tb1 (List.mem_of_getElem? (i := 223) rfl)) rfl
theorem wf_X9_352 : Cond.fieldLink RX9 352 "SignalRoad$Script" "starts" "[I" ∈ UW := tbu (tb1 (List.mem_of_getElem? (i := 228) rfl)) rfl
theorem wc_X9_commandFault : Cond.code yX9_commandFault cX9_commandFault 6 (some .int) ∈ UW := tbu (tb6 (List.mem_of_getElem? (i := 43) rfl)) rfl
theorem wi_X9_commandFault : Cond.instanceMethod yX9_commandFault ∈ UW := tbu (tb6 (List.mem_of_getElem? (i := 42) rfl)) rfl
theorem wl_X9_commandFault : Cond.selects RX9 yX9_commandFault yX9_commandFault ∈ UW := tbs (List.mem_of_getElem? (i := 40) rfl) rfl
theorem wk_X9_349 : Cond.methodLink RX9 349 yX9_commandFault ∈ UW := tbu (tb6 (List.mem_of_getElem? (i := 40) rfl)) rfl
theorem wc_X9_carryOut : Cond.code yX9_carryOut cX9_carryOut 6 none ∈ UW := tbu (tb6 (List.mem_of_getElem? (i := 60) rfl)) rfl
theorem wi_X9_carryOut : Cond.instanceMethod yX9_carryOut ∈ UW := tbu (tb6 (List.mem_of_getElem? (i := 59) rfl)) rfl
theorem wl_X9_carryOut : Cond.selects RX9 yX9_carryOut yX9_carryOut ∈ UW := tbs (List.mem_of_getElem? (i := 41) rfl) rfl
theorem wk_X9_360 : Cond.methodLink RX9 360 yX9_carryOut ∈ UW := tbu (tb6 (List.mem_of_getElem? (i := 57) rfl)) rfl
theorem uv_J0_335 : uw_V RJ0 335 RJ0 yJ0_coder_7d493 (Cond.code yJ0_coder_7d493 cJ0_coder_7d493 1 (some .byte)) := ⟨wk_J0_335, wi_J0_coder_7d493, wl_J0_coder_7d493, wn_J0, wc_J0_coder_7d493⟩
theorem uv_J0_492 : uw_V RJ0 492 RJ0 yJ0_isLatin1_aae02 (Cond.code yJ0_isLatin1_aae02 cJ0_isLatin1_aae02 1 (some .boolean)) := ⟨wk_J0_492, wi_J0_isLatin1_aae02, wl_J0_isLatin1_aae02, wn_J0, wc_J0_isLatin1_aae02⟩
theorem ut_J0_495 : uw_T RJ0 495 yJ1_charAt_3b067 (Cond.code yJ1_charAt_3b067 cJ1_charAt_3b067 2 (some .char)) := ⟨wk_J0_495, ws_J1_charAt_3b067, wn_J1, wc_J1_charAt_3b067⟩
theorem ut_J1_9 : uw_T RJ1 9 yJ0_checkIndex_df160 (Cond.code yJ0_checkIndex_df160 cJ0_checkIndex_df160 2 none) := ⟨wk_J1_9, ws_J0_checkIndex_df160, wn_J0, wc_J0_checkIndex_df160⟩
theorem ut_J0_1059 : uw_T RJ0 1059 yJ3_checkIndex_8e157 (Cond.code yJ3_checkIndex_8e157 cJ3_checkIndex_8e157 3 (some .int)) := ⟨wk_J0_1059, ws_J3_checkIndex_8e157, wn_J3, wc_J3_checkIndex_8e157⟩
theorem uv_X2_83 : uw_V RX2 83 RX2 yX2_clearanceFrom (Cond.code yX2_clearanceFrom cX2_clearanceFrom 3 (some .int)) := ⟨wk_X2_83, wi_X2_clearanceFrom, wl_X2_clearanceFrom, wn_X2, wc_X2_clearanceFrom⟩
theorem uv_X2_87 : uw_V RX2 87 RX2 yX2_lengthOf (Cond.code yX2_lengthOf cX2_lengthOf 3 (some .int)) := ⟨wk_X2_87, wi_X2_lengthOf, wl_X2_lengthOf, wn_X2, wc_X2_lengthOf⟩
theorem uv_X2_111 : uw_V RX2 111 RX2 yX2_areInConflict (Cond.code yX2_areInConflict cX2_areInConflict 3 (some .boolean)) := ⟨wk_X2_111, wi_X2_areInConflict, wl_X2_areInConflict, wn_X2, wc_X2_areInConflict⟩
theorem uv_X2_123 : uw_V RX2 123 RX2 yX2_hasGreen (Cond.code yX2_hasGreen cX2_hasGreen 3 (some .boolean)) := ⟨wk_X2_123, wi_X2_hasGreen, wl_X2_hasGreen, wn_X2, wc_X2_hasGreen⟩
theorem uv_X2_126 : uw_V RX2 126 RX2 yX2_isWaiting (Cond.code yX2_isWaiting cX2_isWaiting 2 (some .boolean)) := ⟨wk_X2_126, wi_X2_isWaiting, wl_X2_isWaiting, wn_X2, wc_X2_isWaiting⟩
theorem uv_X3_47 : uw_V RX3 47 RX2 yX2_areInConflict (Cond.code yX2_areInConflict cX2_areInConflict 3 (some .boolean)) := ⟨wk_X3_47, wi_X2_areInConflict, wl_X2_areInConflict, wn_X2, wc_X2_areInConflict⟩
theorem uv_X3_89 : uw_V RX3 89 RX2 yX2_setGreen (Cond.code yX2_setGreen cX2_setGreen 5 none) := ⟨wk_X3_89, wi_X2_setGreen, wl_X2_setGreen, wn_X2, wc_X2_setGreen⟩
theorem uv_X6_31 : uw_V RX6 31 RX2 yX2_copyFrom (Cond.code yX2_copyFrom cX2_copyFrom 2 none) := ⟨wk_X6_31, wi_X2_copyFrom, wl_X2_copyFrom, wn_X2, wc_X2_copyFrom⟩
theorem uv_X6_42 : uw_V RX6 42 RX2 yX2_greenCount (Cond.code yX2_greenCount cX2_greenCount 4 (some .int)) := ⟨wk_X6_42, wi_X2_greenCount, wl_X2_greenCount, wn_X2, wc_X2_greenCount⟩
theorem uv_X6_49 : uw_V RX6 49 RX2 yX2_isChangePlanned (Cond.code yX2_isChangePlanned cX2_isChangePlanned 1 (some .boolean)) := ⟨wk_X6_49, wi_X2_isChangePlanned, wl_X2_isChangePlanned, wn_X2, wc_X2_isChangePlanned⟩
theorem uv_X7_25 : uw_V RX7 25 RX2 yX2_hasRoadGroup (Cond.code yX2_hasRoadGroup cX2_hasRoadGroup 2 (some .boolean)) := ⟨wk_X7_25, wi_X2_hasRoadGroup, wl_X2_hasRoadGroup, wn_X2, wc_X2_hasRoadGroup⟩
theorem uv_X7_37 : uw_V RX7 37 RX2 yX2_hasGreen (Cond.code yX2_hasGreen cX2_hasGreen 3 (some .boolean)) := ⟨wk_X7_37, wi_X2_hasGreen, wl_X2_hasGreen, wn_X2, wc_X2_hasGreen⟩
theorem uv_X9_345 : uw_V RX9 345 RX6 yX6_copyFrom (Cond.code yX6_copyFrom cX6_copyFrom 3 none) := ⟨wk_X9_345, wi_X6_copyFrom, wl_X6_copyFrom, wn_X6, wc_X6_copyFrom⟩
theorem us_X9_432 : uw_S RX9 432 yX9_wrap (Cond.code yX9_wrap cX9_wrap 3 (some .int)) := ⟨wk_X9_432, ws_X9_wrap, wn_X9, wc_X9_wrap⟩
theorem uv_X10_53 : uw_V RX10 53 RX10 yX10_raises (Cond.code yX10_raises cX10_raises 2 (some .int)) := ⟨wk_X10_53, wi_X10_raises, wl_X10_raises, wn_X10, wc_X10_raises⟩
theorem uv_X10_60 : uw_V RX10 60 RX10 yX10_keeps (Cond.code yX10_keeps cX10_keeps 2 none) := ⟨wk_X10_60, wi_X10_keeps, wl_X10_keeps, wn_X10, wc_X10_keeps⟩
theorem us_X10_63 : uw_S RX10 63 yX10_at (Cond.code yX10_at cX10_at 1 (some .int)) := ⟨wk_X10_63, ws_X10_at, wn_X10, wc_X10_at⟩
theorem us_X10_66 : uw_S RX10 66 yX10_groupAt (Cond.code yX10_groupAt cX10_groupAt 2 (some .int)) := ⟨wk_X10_66, ws_X10_groupAt, wn_X10, wc_X10_groupAt⟩
theorem us_X10_70 : uw_S RX10 70 yX10_in (Cond.code yX10_in cX10_in 3 (some .boolean)) := ⟨wk_X10_70, ws_X10_in, wn_X10, wc_X10_in⟩
theorem uv_X10_74 : uw_V RX10 74 RX10 yX10_isJunction (Cond.code yX10_isJunction cX10_isJunction 2 (some .boolean)) := ⟨wk_X10_74, wi_X10_isJunction, wl_X10_isJunction, wn_X10, wc_X10_isJunction⟩
theorem uv_X10_78 : uw_V RX10 78 RX10 yX10_of (Cond.code yX10_of cX10_of 3 (some .int)) := ⟨wk_X10_78, wi_X10_of, wl_X10_of, wn_X10, wc_X10_of⟩
theorem uv_X10_89 : uw_V RX10 89 RX10 yX10_groupOf (Cond.code yX10_groupOf cX10_groupOf 4 (some .int)) := ⟨wk_X10_89, wi_X10_groupOf, wl_X10_groupOf, wn_X10, wc_X10_groupOf⟩
theorem uv_X10_99 : uw_V RX10 99 RX10 yX10_changes (Cond.code yX10_changes cX10_changes 2 none) := ⟨wk_X10_99, wi_X10_changes, wl_X10_changes, wn_X10, wc_X10_changes⟩
theorem uv_X10_96 : uw_V RX10 96 RX10 yX10_length (Cond.code yX10_length cX10_length 4 (some .int)) := ⟨wk_X10_96, wi_X10_length, wl_X10_length, wn_X10, wc_X10_length⟩
theorem uv_X10_105 : uw_V RX10 105 RX10 yX10_isGroup (Cond.code yX10_isGroup cX10_isGroup 3 (some .boolean)) := ⟨wk_X10_105, wi_X10_isGroup, wl_X10_isGroup, wn_X10, wc_X10_isGroup⟩
theorem uv_X10_109 : uw_V RX10 109 RX10 yX10_tries (Cond.code yX10_tries cX10_tries 2 none) := ⟨wk_X10_109, wi_X10_tries, wl_X10_tries, wn_X10, wc_X10_tries⟩
theorem uv_X10_112 : uw_V RX10 112 RX10 yX10_offsets (Cond.code yX10_offsets cX10_offsets 3 (some .int)) := ⟨wk_X10_112, wi_X10_offsets, wl_X10_offsets, wn_X10, wc_X10_offsets⟩
theorem uv_X10_115 : uw_V RX10 115 RX10 yX10_ends (Cond.code yX10_ends cX10_ends 3 (some .int)) := ⟨wk_X10_115, wi_X10_ends, wl_X10_ends, wn_X10, wc_X10_ends⟩
theorem uv_X10_118 : uw_V RX10 118 RX10 yX10_roads (Cond.code yX10_roads cX10_roads 5 (some .int)) := ⟨wk_X10_118, wi_X10_roads, wl_X10_roads, wn_X10, wc_X10_roads⟩
theorem uv_X10_121 : uw_V RX10 121 RX10 yX10_clear (Cond.code yX10_clear cX10_clear 4 (some .int)) := ⟨wk_X10_121, wi_X10_clear, wl_X10_clear, wn_X10, wc_X10_clear⟩
theorem uv_X10_137 : uw_V RX10 137 RX10 yX10_heads (Cond.code yX10_heads cX10_heads 5 (some .int)) := ⟨wk_X10_137, wi_X10_heads, wl_X10_heads, wn_X10, wc_X10_heads⟩
theorem uv_X10_151 : uw_V RX10 151 RX10 yX10_clears (Cond.code yX10_clears cX10_clears 5 none) := ⟨wk_X10_151, wi_X10_clears, wl_X10_clears, wn_X10, wc_X10_clears⟩
theorem uv_X10_165 : uw_V RX10 165 RX10 yX10_isPlan (Cond.code yX10_isPlan cX10_isPlan 3 (some .boolean)) := ⟨wk_X10_165, wi_X10_isPlan, wl_X10_isPlan, wn_X10, wc_X10_isPlan⟩
theorem uv_X10_161 : uw_V RX10 161 RX10 yX10_puts (Cond.code yX10_puts cX10_puts 7 none) := ⟨wk_X10_161, wi_X10_puts, wl_X10_puts, wn_X10, wc_X10_puts⟩
theorem uv_X10_180 : uw_V RX10 180 RX10 yX10_puts_ (Cond.code yX10_puts_ cX10_puts_ 7 (some .boolean)) := ⟨wk_X10_180, wi_X10_puts_, wl_X10_puts_, wn_X10, wc_X10_puts_⟩
theorem uv_X10_182 : uw_V RX10 182 RX10 yX10_phases (Cond.code yX10_phases cX10_phases 3 (some .int)) := ⟨wk_X10_182, wi_X10_phases, wl_X10_phases, wn_X10, wc_X10_phases⟩
theorem uv_X10_93 : uw_V RX10 93 RX10 yX10_first (Cond.code yX10_first cX10_first 4 (some .int)) := ⟨wk_X10_93, wi_X10_first, wl_X10_first, wn_X10, wc_X10_first⟩
theorem uv_X10_210 : uw_V RX10 210 RX10 yX10_waiting (Cond.code yX10_waiting cX10_waiting 4 (some .int)) := ⟨wk_X10_210, wi_X10_waiting, wl_X10_waiting, wn_X10, wc_X10_waiting⟩
theorem uv_X10_213 : uw_V RX10 213 RX10 yX10_presses (Cond.code yX10_presses cX10_presses 3 (some .int)) := ⟨wk_X10_213, wi_X10_presses, wl_X10_presses, wn_X10, wc_X10_presses⟩
theorem uv_X10_158 : uw_V RX10 158 RX10 yX10_refuses (Cond.code yX10_refuses cX10_refuses 3 (some .int)) := ⟨wk_X10_158, wi_X10_refuses, wl_X10_refuses, wn_X10, wc_X10_refuses⟩
theorem uv_X10_174 : uw_V RX10 174 RX10 yX10_greens (Cond.code yX10_greens cX10_greens 5 (some .int)) := ⟨wk_X10_174, wi_X10_greens, wl_X10_greens, wn_X10, wc_X10_greens⟩
theorem uv_X10_127 : uw_V RX10 127 RX10 yX10_conflicts (Cond.code yX10_conflicts cX10_conflicts 5 (some .int)) := ⟨wk_X10_127, wi_X10_conflicts, wl_X10_conflicts, wn_X10, wc_X10_conflicts⟩
theorem uv_X10_242 : uw_V RX10 242 RX10 yX10_here (Cond.code yX10_here cX10_here 1 (some .int)) := ⟨wk_X10_242, wi_X10_here, wl_X10_here, wn_X10, wc_X10_here⟩
theorem uv_X10_253 : uw_V RX10 253 RX10 yX10_takes (Cond.code yX10_takes cX10_takes 2 (some .boolean)) := ⟨wk_X10_253, wi_X10_takes, wl_X10_takes, wn_X10, wc_X10_takes⟩
theorem uv_X10_256 : uw_V RX10 256 RX10 yX10_number (Cond.code yX10_number cX10_number 4 (some .boolean)) := ⟨wk_X10_256, wi_X10_number, wl_X10_number, wn_X10, wc_X10_number⟩
theorem uv_X10_273 : uw_V RX10 273 RX10 yX10_writes_ (Cond.code yX10_writes_ cX10_writes_ 2 none) := ⟨wk_X10_273, wi_X10_writes_, wl_X10_writes_, wn_X10, wc_X10_writes_⟩
theorem us_Jxf58ca_59 : uw_S RJxf58ca 59 yJxf58ca_isNaN_12338 (Cond.code yJxf58ca_isNaN_12338 cJxf58ca_isNaN_12338 1 (some .boolean)) := ⟨wk_Jxf58ca_59, ws_Jxf58ca_isNaN_12338, wn_Jxf58ca, wc_Jxf58ca_isNaN_12338⟩
theorem uv_X1_22 : uw_V RX1 22 RX6 yX6_copyFrom (Cond.code yX6_copyFrom cX6_copyFrom 3 none) := ⟨wk_X1_22, wi_X6_copyFrom, wl_X6_copyFrom, wn_X6, wc_X6_copyFrom⟩
theorem ut_X1_29 : uw_T RX1 29 yJ9_min_7cf53 (Cond.code yJ9_min_7cf53 cJ9_min_7cf53 2 (some .int)) := ⟨wk_X1_29, ws_J9_min_7cf53, wn_J9, wc_J9_min_7cf53⟩
theorem uv_X2_115 : uw_V RX2 115 RX2 yX2_conflictSet (Cond.code yX2_conflictSet cX2_conflictSet 4 (some .int)) := ⟨wk_X2_115, wi_X2_conflictSet, wl_X2_conflictSet, wn_X2, wc_X2_conflictSet⟩
theorem ut_X2_118 : uw_T RX2 118 yJ6_bitCount_0f7a4 (Cond.code yJ6_bitCount_0f7a4 cJ6_bitCount_0f7a4 1 (some .int)) := ⟨wk_X2_118, ws_J6_bitCount_0f7a4, wn_J6, wc_J6_bitCount_0f7a4⟩
theorem uv_X2_130 : uw_V RX2 130 RX2 yX2_headCount (Cond.code yX2_headCount cX2_headCount 4 (some .int)) := ⟨wk_X2_130, wi_X2_headCount, wl_X2_headCount, wn_X2, wc_X2_headCount⟩
theorem uv_X2_136 : uw_V RX2 136 RX2 yX2_firstOf (Cond.code yX2_firstOf cX2_firstOf 3 (some .int)) := ⟨wk_X2_136, wi_X2_firstOf, wl_X2_firstOf, wn_X2, wc_X2_firstOf⟩
theorem uv_X2_139 : uw_V RX2 139 RX2 yX2_isOn (Cond.code yX2_isOn cX2_isOn 5 (some .boolean)) := ⟨wk_X2_139, wi_X2_isOn, wl_X2_isOn, wn_X2, wc_X2_isOn⟩
theorem uv_X2_143 : uw_V RX2 143 RX2 yX2_onSet (Cond.code yX2_onSet cX2_onSet 6 (some .int)) := ⟨wk_X2_143, wi_X2_onSet, wl_X2_onSet, wn_X2, wc_X2_onSet⟩
theorem uv_X2_165 : uw_V RX2 165 RX2 yX2_isByRequest (Cond.code yX2_isByRequest cX2_isByRequest 2 (some .boolean)) := ⟨wk_X2_165, wi_X2_isByRequest, wl_X2_isByRequest, wn_X2, wc_X2_isByRequest⟩
theorem uv_X2_172 : uw_V RX2 172 RX2 yX2_isGiven (Cond.code yX2_isGiven cX2_isGiven 2 (some .boolean)) := ⟨wk_X2_172, wi_X2_isGiven, wl_X2_isGiven, wn_X2, wc_X2_isGiven⟩
theorem uv_X2_168 : uw_V RX2 168 RX2 yX2_decideRequest (Cond.code yX2_decideRequest cX2_decideRequest 3 none) := ⟨wk_X2_168, wi_X2_decideRequest, wl_X2_decideRequest, wn_X2, wc_X2_decideRequest⟩
theorem uv_X2_158 : uw_V RX2 158 RX2 yX2_localSecond (Cond.code yX2_localSecond cX2_localSecond 3 (some .int)) := ⟨wk_X2_158, wi_X2_localSecond, wl_X2_localSecond, wn_X2, wc_X2_localSecond⟩
theorem ut_X2_187 : uw_T RX2 187 yJ9_max_7cf53 (Cond.code yJ9_max_7cf53 cJ9_max_7cf53 2 (some .int)) := ⟨wk_X2_187, ws_J9_max_7cf53, wn_J9, wc_J9_max_7cf53⟩
theorem us_X3_37 : uw_S RX3 37 yX3_isPeaceful (Cond.code yX3_isPeaceful cX3_isPeaceful 5 (some .boolean)) := ⟨wk_X3_37, ws_X3_isPeaceful, wn_X3, wc_X3_isPeaceful⟩
theorem ut_X3_41 : uw_T RX3 41 yJ9_max_7cf53 (Cond.code yJ9_max_7cf53 cJ9_max_7cf53 2 (some .int)) := ⟨wk_X3_41, ws_J9_max_7cf53, wn_J9, wc_J9_max_7cf53⟩
theorem us_X3_30 : uw_S RX3 30 yX3_isPlaced (Cond.code yX3_isPlaced cX3_isPlaced 6 (some .boolean)) := ⟨wk_X3_30, ws_X3_isPlaced, wn_X3, wc_X3_isPlaced⟩
theorem uv_X3_82 : uw_V RX3 82 RX2 yX2_clearanceFrom (Cond.code yX2_clearanceFrom cX2_clearanceFrom 3 (some .int)) := ⟨wk_X3_82, wi_X2_clearanceFrom, wl_X2_clearanceFrom, wn_X2, wc_X2_clearanceFrom⟩
theorem uv_X4_69 : uw_V RX4 69 RX4 yX4_addSign (Cond.code yX4_addSign cX4_addSign 2 none) := ⟨wk_X4_69, wi_X4_addSign, wl_X4_addSign, wn_X4, wc_X4_addSign⟩
theorem uv_X7_41 : uw_V RX7 41 RX7 yX7_numberAt (Cond.code yX7_numberAt cX7_numberAt 4 (some .int)) := ⟨wk_X7_41, wi_X7_numberAt, wl_X7_numberAt, wn_X7, wc_X7_numberAt⟩
theorem ut_X7_48 : uw_T RX7 48 yJ9_abs_0f7a4 (Cond.code yJ9_abs_0f7a4 cJ9_abs_0f7a4 1 (some .int)) := ⟨wk_X7_48, ws_J9_abs_0f7a4, wn_J9, wc_J9_abs_0f7a4⟩
theorem uv_X7_54 : uw_V RX7 54 RX7 yX7_distanceTo (Cond.code yX7_distanceTo cX7_distanceTo 6 (some .int)) := ⟨wk_X7_54, wi_X7_distanceTo, wl_X7_distanceTo, wn_X7, wc_X7_distanceTo⟩
theorem uv_X7_63 : uw_V RX7 63 RX2 yX2_localSecond (Cond.code yX2_localSecond cX2_localSecond 3 (some .int)) := ⟨wk_X7_63, wi_X2_localSecond, wl_X2_localSecond, wn_X2, wc_X2_localSecond⟩
theorem uv_X7_67 : uw_V RX7 67 RX2 yX2_secondsUntilOn (Cond.code yX2_secondsUntilOn cX2_secondsUntilOn 6 (some .int)) := ⟨wk_X7_67, wi_X2_secondsUntilOn, wl_X2_secondsUntilOn, wn_X2, wc_X2_secondsUntilOn⟩
theorem uv_X7_71 : uw_V RX7 71 RX7 yX7_secondsTo (Cond.code yX7_secondsTo cX7_secondsTo 5 (some .int)) := ⟨wk_X7_71, wi_X7_secondsTo, wl_X7_secondsTo, wn_X7, wc_X7_secondsTo⟩
theorem uv_X7_74 : uw_V RX7 74 RX7 yX7_waitAt (Cond.code yX7_waitAt cX7_waitAt 7 (some .int)) := ⟨wk_X7_74, wi_X7_waitAt, wl_X7_waitAt, wn_X7, wc_X7_waitAt⟩
theorem uv_X7_89 : uw_V RX7 89 RX2 yX2_isOn (Cond.code yX2_isOn cX2_isOn 5 (some .boolean)) := ⟨wk_X7_89, wi_X2_isOn, wl_X2_isOn, wn_X2, wc_X2_isOn⟩
theorem uv_X9_287 : uw_V RX9 287 RX6 yX6_find (Cond.code yX6_find cX6_find 2 (some (.object "SignalRoad$Junction"))) := ⟨wk_X9_287, wi_X6_find, wl_X6_find, wn_X6, wc_X6_find⟩
theorem us_X9_64 : uw_S RX9 64 yX9_isWithin (Cond.code yX9_isWithin cX9_isWithin 3 (some .boolean)) := ⟨wk_X9_64, ws_X9_isWithin, wn_X9, wc_X9_isWithin⟩
theorem uv_X9_194 : uw_V RX9 194 RX2 yX2_isChangePlanned (Cond.code yX2_isChangePlanned cX2_isChangePlanned 1 (some .boolean)) := ⟨wk_X9_194, wi_X2_isChangePlanned, wl_X2_isChangePlanned, wn_X2, wc_X2_isChangePlanned⟩
theorem uv_X9_188 : uw_V RX9 188 RX2 yX2_hasGroup (Cond.code yX2_hasGroup cX2_hasGroup 2 (some .boolean)) := ⟨wk_X9_188, wi_X2_hasGroup, wl_X2_hasGroup, wn_X2, wc_X2_hasGroup⟩
theorem uv_X9_170 : uw_V RX9 170 RX2 yX2_isByRequest (Cond.code yX2_isByRequest cX2_isByRequest 2 (some .boolean)) := ⟨wk_X9_170, wi_X2_isByRequest, wl_X2_isByRequest, wn_X2, wc_X2_isByRequest⟩
theorem us_X9_101 : uw_S RX9 101 yX9_raise (Cond.code yX9_raise cX9_raise 1 none) := ⟨wk_X9_101, ws_X9_raise, wn_X9, wc_X9_raise⟩
theorem ut_X9_435 : uw_T RX9 435 yJ9_max_7cf53 (Cond.code yJ9_max_7cf53 cJ9_max_7cf53 2 (some .int)) := ⟨wk_X9_435, ws_J9_max_7cf53, wn_J9, wc_J9_max_7cf53⟩
theorem ut_X9_440 : uw_T RX9 440 yJ9_min_7cf53 (Cond.code yJ9_min_7cf53 cJ9_min_7cf53 2 (some .int)) := ⟨wk_X9_440, ws_J9_min_7cf53, wn_J9, wc_J9_min_7cf53⟩
theorem ut_X10_81 : uw_T RX10 81 yJ9_floorMod_7cf53 (Cond.code yJ9_floorMod_7cf53 cJ9_floorMod_7cf53 3 (some .int)) := ⟨wk_X10_81, ws_J9_floorMod_7cf53, wn_J9, wc_J9_floorMod_7cf53⟩
theorem uv_X10_86 : uw_V RX10 86 RX10 yX10_mod (Cond.code yX10_mod cX10_mod 2 (some .int)) := ⟨wk_X10_86, wi_X10_mod, wl_X10_mod, wn_X10, wc_X10_mod⟩
theorem uv_X10_124 : uw_V RX10 124 RX10 yX10_local (Cond.code yX10_local cX10_local 3 (some .int)) := ⟨wk_X10_124, wi_X10_local, wl_X10_local, wn_X10, wc_X10_local⟩
theorem uv_X10_133 : uw_V RX10 133 RX10 yX10_isOn (Cond.code yX10_isOn cX10_isOn 5 (some .boolean)) := ⟨wk_X10_133, wi_X10_isOn, wl_X10_isOn, wn_X10, wc_X10_isOn⟩
theorem uv_X10_143 : uw_V RX10 143 RX10 yX10_gap (Cond.code yX10_gap cX10_gap 5 (some .int)) := ⟨wk_X10_143, wi_X10_gap, wl_X10_gap, wn_X10, wc_X10_gap⟩
theorem uv_X10_140 : uw_V RX10 140 RX10 yX10_meet (Cond.code yX10_meet cX10_meet 6 (some .boolean)) := ⟨wk_X10_140, wi_X10_meet, wl_X10_meet, wn_X10, wc_X10_meet⟩
theorem uv_X10_147 : uw_V RX10 147 RX10 yX10_bars (Cond.code yX10_bars cX10_bars 6 (some .int)) := ⟨wk_X10_147, wi_X10_bars, wl_X10_bars, wn_X10, wc_X10_bars⟩
theorem uv_X10_155 : uw_V RX10 155 RX10 yX10_barred (Cond.code yX10_barred cX10_barred 6 (some .int)) := ⟨wk_X10_155, wi_X10_barred, wl_X10_barred, wn_X10, wc_X10_barred⟩
theorem uv_X10_168 : uw_V RX10 168 RX10 yX10_isGreen (Cond.code yX10_isGreen cX10_isGreen 3 (some .boolean)) := ⟨wk_X10_168, wi_X10_isGreen, wl_X10_isGreen, wn_X10, wc_X10_isGreen⟩
theorem uv_X10_171 : uw_V RX10 171 RX10 yX10_hindered (Cond.code yX10_hindered cX10_hindered 6 (some .int)) := ⟨wk_X10_171, wi_X10_hindered, wl_X10_hindered, wn_X10, wc_X10_hindered⟩
theorem uv_X10_177 : uw_V RX10 177 RX10 yX10_greened (Cond.code yX10_greened cX10_greened 7 (some .int)) := ⟨wk_X10_177, wi_X10_greened, wl_X10_greened, wn_X10, wc_X10_greened⟩
theorem ut_X10_185 : uw_T RX10 185 yJ9_max_7cf53 (Cond.code yJ9_max_7cf53 cJ9_max_7cf53 2 (some .int)) := ⟨wk_X10_185, ws_J9_max_7cf53, wn_J9, wc_J9_max_7cf53⟩
theorem uv_X10_188 : uw_V RX10 188 RX10 yX10_shown (Cond.code yX10_shown cX10_shown 6 (some .int)) := ⟨wk_X10_188, wi_X10_shown, wl_X10_shown, wn_X10, wc_X10_shown⟩
theorem ut_X10_197 : uw_T RX10 197 yJ9_abs_0f7a4 (Cond.code yJ9_abs_0f7a4 cJ9_abs_0f7a4 1 (some .int)) := ⟨wk_X10_197, ws_J9_abs_0f7a4, wn_J9, wc_J9_abs_0f7a4⟩
theorem uv_X10_201 : uw_V RX10 201 RX10 yX10_isPossible (Cond.code yX10_isPossible cX10_isPossible 4 (some .boolean)) := ⟨wk_X10_201, wi_X10_isPossible, wl_X10_isPossible, wn_X10, wc_X10_isPossible⟩
theorem uv_X10_204 : uw_V RX10 204 RX10 yX10_goes (Cond.code yX10_goes cX10_goes 10 (some .int)) := ⟨wk_X10_204, wi_X10_goes, wl_X10_goes, wn_X10, wc_X10_goes⟩
theorem uv_X10_207 : uw_V RX10 207 RX10 yX10_bands (Cond.code yX10_bands cX10_bands 5 (some .int)) := ⟨wk_X10_207, wi_X10_bands, wl_X10_bands, wn_X10, wc_X10_bands⟩
theorem uv_X10_216 : uw_V RX10 216 RX10 yX10_passes (Cond.code yX10_passes cX10_passes 7 (some .int)) := ⟨wk_X10_216, wi_X10_passes, wl_X10_passes, wn_X10, wc_X10_passes⟩
theorem uv_X10_220 : uw_V RX10 220 RX10 yX10_runs (Cond.code yX10_runs cX10_runs 3 (some .int)) := ⟨wk_X10_220, wi_X10_runs, wl_X10_runs, wn_X10, wc_X10_runs⟩
theorem uv_X10_223 : uw_V RX10 223 RX10 yX10_mayChange (Cond.code yX10_mayChange cX10_mayChange 11 (some .boolean)) := ⟨wk_X10_223, wi_X10_mayChange, wl_X10_mayChange, wn_X10, wc_X10_mayChange⟩
theorem uv_X10_226 : uw_V RX10 226 RX10 yX10_soon (Cond.code yX10_soon cX10_soon 3 (some .int)) := ⟨wk_X10_226, wi_X10_soon, wl_X10_soon, wn_X10, wc_X10_soon⟩
theorem uv_X10_229 : uw_V RX10 229 RX10 yX10_plans (Cond.code yX10_plans cX10_plans 2 (some .int)) := ⟨wk_X10_229, wi_X10_plans, wl_X10_plans, wn_X10, wc_X10_plans⟩
theorem ut_X10_234 : uw_T RX10 234 yJxf58ca_floatToIntBits_5c35a (Cond.code yJxf58ca_floatToIntBits_5c35a cJxf58ca_floatToIntBits_5c35a 1 (some .int)) := ⟨wk_X10_234, ws_Jxf58ca_floatToIntBits_5c35a, wn_Jxf58ca, wc_Jxf58ca_floatToIntBits_5c35a⟩
theorem uv_X2_108 : uw_V RX2 108 RX2 yX2_headSum (Cond.code yX2_headSum cX2_headSum 3 (some .int)) := ⟨wk_X2_108, wi_X2_headSum, wl_X2_headSum, wn_X2, wc_X2_headSum⟩
theorem uv_X2_104 : uw_V RX2 104 RX2 yX2_isChangePlanned (Cond.code yX2_isChangePlanned cX2_isChangePlanned 1 (some .boolean)) := ⟨wk_X2_104, wi_X2_isChangePlanned, wl_X2_isChangePlanned, wn_X2, wc_X2_isChangePlanned⟩
theorem uv_X2_101 : uw_V RX2 101 RX2 yX2_waitingCount (Cond.code yX2_waitingCount cX2_waitingCount 3 (some .int)) := ⟨wk_X2_101, wi_X2_waitingCount, wl_X2_waitingCount, wn_X2, wc_X2_waitingCount⟩
theorem uv_X2_98 : uw_V RX2 98 RX2 yX2_litSum (Cond.code yX2_litSum cX2_litSum 3 (some .int)) := ⟨wk_X2_98, wi_X2_litSum, wl_X2_litSum, wn_X2, wc_X2_litSum⟩
theorem uv_X2_94 : uw_V RX2 94 RX2 yX2_greenCount (Cond.code yX2_greenCount cX2_greenCount 4 (some .int)) := ⟨wk_X2_94, wi_X2_greenCount, wl_X2_greenCount, wn_X2, wc_X2_greenCount⟩
theorem uv_X2_90 : uw_V RX2 90 RX2 yX2_conflictCount (Cond.code yX2_conflictCount cX2_conflictCount 3 (some .int)) := ⟨wk_X2_90, wi_X2_conflictCount, wl_X2_conflictCount, wn_X2, wc_X2_conflictCount⟩
theorem uv_X2_147 : uw_V RX2 147 RX2 yX2_clashWith (Cond.code yX2_clashWith cX2_clashWith 11 (some .int)) := ⟨wk_X2_147, wi_X2_clashWith, wl_X2_clashWith, wn_X2, wc_X2_clashWith⟩
theorem uv_X2_161 : uw_V RX2 161 RX2 yX2_showGreen (Cond.code yX2_showGreen cX2_showGreen 4 none) := ⟨wk_X2_161, wi_X2_showGreen, wl_X2_showGreen, wn_X2, wc_X2_showGreen⟩
theorem uv_X2_181 : uw_V RX2 181 RX2 yX2_secondsOff (Cond.code yX2_secondsOff cX2_secondsOff 5 (some .int)) := ⟨wk_X2_181, wi_X2_secondsOff, wl_X2_secondsOff, wn_X2, wc_X2_secondsOff⟩
theorem uv_X2_184 : uw_V RX2 184 RX2 yX2_secondsUntilOn (Cond.code yX2_secondsUntilOn cX2_secondsUntilOn 6 (some .int)) := ⟨wk_X2_184, wi_X2_secondsUntilOn, wl_X2_secondsUntilOn, wn_X2, wc_X2_secondsUntilOn⟩
theorem ut_X3_69 : uw_T RX3 69 yJ7_fill_53178 (Cond.code yJ7_fill_53178 cJ7_fill_53178 4 none) := ⟨wk_X3_69, ws_J7_fill_53178, wn_J7, wc_J7_fill_53178⟩
theorem uv_X3_78 : uw_V RX3 78 RX3 yX3_clearanceTo (Cond.code yX3_clearanceTo cX3_clearanceTo 6 (some .int)) := ⟨wk_X3_78, wi_X3_clearanceTo, wl_X3_clearanceTo, wn_X3, wc_X3_clearanceTo⟩
theorem uv_X5_59 : uw_V RX5 59 RX5 yX5_isNextWithin (Cond.code yX5_isNextWithin cX5_isNextWithin 3 (some .boolean)) := ⟨wk_X5_59, wi_X5_isNextWithin, wl_X5_isNextWithin, wn_X5, wc_X5_isNextWithin⟩
theorem uv_X6_53 : uw_V RX6 53 RX2 yX2_letSecondPass (Cond.code yX2_letSecondPass cX2_letSecondPass 6 (some .int)) := ⟨wk_X6_53, wi_X2_letSecondPass, wl_X2_letSecondPass, wn_X2, wc_X2_letSecondPass⟩
theorem uv_X6_57 : uw_V RX6 57 RX2 yX2_amountOf (Cond.code yX2_amountOf cX2_amountOf 2 (some .int)) := ⟨wk_X6_57, wi_X2_amountOf, wl_X2_amountOf, wn_X2, wc_X2_amountOf⟩
theorem uv_X7_78 : uw_V RX7 78 RX7 yX7_isFree (Cond.code yX7_isFree cX7_isFree 8 (some .boolean)) := ⟨wk_X7_78, wi_X7_isFree, wl_X7_isFree, wn_X7, wc_X7_isFree⟩
theorem uv_X7_82 : uw_V RX7 82 RX7 yX7_secondsBefore (Cond.code yX7_secondsBefore cX7_secondsBefore 6 (some .int)) := ⟨wk_X7_82, wi_X7_secondsBefore, wl_X7_secondsBefore, wn_X7, wc_X7_secondsBefore⟩
theorem uv_X7_85 : uw_V RX7 85 RX7 yX7_bandWith (Cond.code yX7_bandWith cX7_bandWith 10 (some .int)) := ⟨wk_X7_85, wi_X7_bandWith, wl_X7_bandWith, wn_X7, wc_X7_bandWith⟩
theorem us_X9_68 : uw_S RX9 68 yX9_need (Cond.code yX9_need cX9_need 2 none) := ⟨wk_X9_68, ws_X9_need, wn_X9, wc_X9_need⟩
theorem uv_X9_72 : uw_V RX9 72 RX6 yX6_canTakeCycle (Cond.code yX6_canTakeCycle cX6_canTakeCycle 5 (some .boolean)) := ⟨wk_X9_72, wi_X6_canTakeCycle, wl_X6_canTakeCycle, wn_X6, wc_X6_canTakeCycle⟩
theorem uv_X9_76 : uw_V RX9 76 RX1 yX1_push (Cond.code yX1_push cX1_push 2 none) := ⟨wk_X9_76, wi_X1_push, wl_X1_push, wn_X1, wc_X1_push⟩
theorem uv_X9_86 : uw_V RX9 86 RX6 yX6_lastPosition (Cond.code yX6_lastPosition cX6_lastPosition 1 (some .int)) := ⟨wk_X9_86, wi_X6_lastPosition, wl_X6_lastPosition, wn_X6, wc_X6_lastPosition⟩
theorem uv_X9_93 : uw_V RX9 93 RX6 yX6_addJunction (Cond.code yX6_addJunction cX6_addJunction 2 (some .int)) := ⟨wk_X9_93, wi_X6_addJunction, wl_X6_addJunction, wn_X6, wc_X6_addJunction⟩
theorem uv_X9_115 : uw_V RX9 115 RX9 yX9_found (Cond.code yX9_found cX9_found 3 (some (.object "SignalRoad$Junction"))) := ⟨wk_X9_115, wi_X9_found, wl_X9_found, wn_X9, wc_X9_found⟩
theorem uv_X9_145 : uw_V RX9 145 RX2 yX2_litSet (Cond.code yX2_litSet cX2_litSet 11 (some .int)) := ⟨wk_X9_145, wi_X2_litSet, wl_X2_litSet, wn_X2, wc_X2_litSet⟩
theorem uv_X9_142 : uw_V RX9 142 RX2 yX2_conflictCount (Cond.code yX2_conflictCount cX2_conflictCount 3 (some .int)) := ⟨wk_X9_142, wi_X2_conflictCount, wl_X2_conflictCount, wn_X2, wc_X2_conflictCount⟩
theorem uv_X9_133 : uw_V RX9 133 RX2 yX2_localSecond (Cond.code yX2_localSecond cX2_localSecond 3 (some .int)) := ⟨wk_X9_133, wi_X2_localSecond, wl_X2_localSecond, wn_X2, wc_X2_localSecond⟩
theorem uv_X9_155 : uw_V RX9 155 RX2 yX2_addGroup (Cond.code yX2_addGroup cX2_addGroup 5 (some .int)) := ⟨wk_X9_155, wi_X2_addGroup, wl_X2_addGroup, wn_X2, wc_X2_addGroup⟩
theorem us_X9_222 : uw_S RX9 222 yX9_isPlan (Cond.code yX9_isPlan cX9_isPlan 1 (some .boolean)) := ⟨wk_X9_222, ws_X9_isPlan, wn_X9, wc_X9_isPlan⟩
theorem uv_X9_261 : uw_V RX9 261 RX2 yX2_onSet (Cond.code yX2_onSet cX2_onSet 6 (some .int)) := ⟨wk_X9_261, wi_X2_onSet, wl_X2_onSet, wn_X2, wc_X2_onSet⟩
theorem uv_X9_264 : uw_V RX9 264 RX2 yX2_pictureAt (Cond.code yX2_pictureAt cX2_pictureAt 9 (some .int)) := ⟨wk_X9_264, wi_X2_pictureAt, wl_X2_pictureAt, wn_X2, wc_X2_pictureAt⟩
theorem us_X9_267 : uw_S RX9 267 yX9_isDirection (Cond.code yX9_isDirection cX9_isDirection 1 (some .boolean)) := ⟨wk_X9_267, ws_X9_isDirection, wn_X9, wc_X9_isDirection⟩
theorem uv_X9_271 : uw_V RX9 271 RX7 yX7_arePossible (Cond.code yX7_arePossible cX7_arePossible 5 (some .boolean)) := ⟨wk_X9_271, wi_X7_arePossible, wl_X7_arePossible, wn_X7, wc_X7_arePossible⟩
theorem uv_X9_275 : uw_V RX9 275 RX7 yX7_numberOf (Cond.code yX7_numberOf cX7_numberOf 10 (some .int)) := ⟨wk_X9_275, wi_X7_numberOf, wl_X7_numberOf, wn_X7, wc_X7_numberOf⟩
theorem uv_X9_279 : uw_V RX9 279 RX7 yX7_secondsStepByStep (Cond.code yX7_secondsStepByStep cX7_secondsStepByStep 8 (some .int)) := ⟨wk_X9_279, wi_X7_secondsStepByStep, wl_X7_secondsStepByStep, wn_X7, wc_X7_secondsStepByStep⟩
theorem uv_X9_283 : uw_V RX9 283 RX7 yX7_bandOf (Cond.code yX7_bandOf cX7_bandOf 5 (some .int)) := ⟨wk_X9_283, wi_X7_bandOf, wl_X7_bandOf, wn_X7, wc_X7_bandOf⟩
theorem uv_X9_290 : uw_V RX9 290 RX7 yX7_bestOffsetFor (Cond.code yX7_bestOffsetFor cX7_bestOffsetFor 10 (some .int)) := ⟨wk_X9_290, wi_X7_bestOffsetFor, wl_X7_bestOffsetFor, wn_X7, wc_X7_bestOffsetFor⟩
theorem uv_X9_299 : uw_V RX9 299 RX9 yX9_runFault (Cond.code yX9_runFault cX9_runFault 2 (some .int)) := ⟨wk_X9_299, wi_X9_runFault, wl_X9_runFault, wn_X9, wc_X9_runFault⟩
theorem uv_X9_302 : uw_V RX9 302 RX6 yX6_letPass (Cond.code yX6_letPass cX6_letPass 5 (some .int)) := ⟨wk_X9_302, wi_X6_letPass, wl_X6_letPass, wn_X6, wc_X6_letPass⟩
theorem uv_X9_324 : uw_V RX9 324 RX6 yX6_sumOf (Cond.code yX6_sumOf cX6_sumOf 4 (some .int)) := ⟨wk_X9_324, wi_X6_sumOf, wl_X6_sumOf, wn_X6, wc_X6_sumOf⟩
theorem uv_X9_338 : uw_V RX9 338 RX5 yX5_add (Cond.code yX5_add cX5_add 2 none) := ⟨wk_X9_338, wi_X5_add, wl_X5_add, wn_X5, wc_X5_add⟩
theorem uv_X9_372 : uw_V RX9 372 RX1 yX1_popInto (Cond.code yX1_popInto cX1_popInto 2 none) := ⟨wk_X9_372, wi_X1_popInto, wl_X1_popInto, wn_X1, wc_X1_popInto⟩
theorem uv_X9_379 : uw_V RX9 379 RX2 yX2_hasRoadGroup (Cond.code yX2_hasRoadGroup cX2_hasRoadGroup 2 (some .boolean)) := ⟨wk_X9_379, wi_X2_hasRoadGroup, wl_X2_hasRoadGroup, wn_X2, wc_X2_hasRoadGroup⟩
theorem uv_X9_225 : uw_V RX9 225 RX9 yX9_isGreen (Cond.code yX9_isGreen cX9_isGreen 3 (some .boolean)) := ⟨wk_X9_225, wi_X9_isGreen, wl_X9_isGreen, wn_X9, wc_X9_isGreen⟩
theorem uv_X9_228 : uw_V RX9 228 RX2 yX2_reasonAgainstGreen (Cond.code yX2_reasonAgainstGreen cX2_reasonAgainstGreen 11 (some .int)) := ⟨wk_X9_228, wi_X2_reasonAgainstGreen, wl_X2_reasonAgainstGreen, wn_X2, wc_X2_reasonAgainstGreen⟩
theorem uv_X9_202 : uw_V RX9 202 RX9 yX9_faultOfReason (Cond.code yX9_faultOfReason cX9_faultOfReason 2 (some .int)) := ⟨wk_X9_202, wi_X9_faultOfReason, wl_X9_faultOfReason, wn_X9, wc_X9_faultOfReason⟩
theorem uv_X9_234 : uw_V RX9 234 RX2 yX2_setGreen (Cond.code yX2_setGreen cX2_setGreen 5 none) := ⟨wk_X9_234, wi_X2_setGreen, wl_X2_setGreen, wn_X2, wc_X2_setGreen⟩
theorem uv_X9_385 : uw_V RX9 385 RX2 yX2_greenCount (Cond.code yX2_greenCount cX2_greenCount 4 (some .int)) := ⟨wk_X9_385, wi_X2_greenCount, wl_X2_greenCount, wn_X2, wc_X2_greenCount⟩
theorem uv_X9_388 : uw_V RX9 388 RX2 yX2_isWaiting (Cond.code yX2_isWaiting cX2_isWaiting 2 (some .boolean)) := ⟨wk_X9_388, wi_X2_isWaiting, wl_X2_isWaiting, wn_X2, wc_X2_isWaiting⟩
theorem uv_X9_391 : uw_V RX9 391 RX2 yX2_waitingCount (Cond.code yX2_waitingCount cX2_waitingCount 3 (some .int)) := ⟨wk_X9_391, wi_X2_waitingCount, wl_X2_waitingCount, wn_X2, wc_X2_waitingCount⟩
theorem uv_X10_130 : uw_V RX10 130 RX10 yX10_lights (Cond.code yX10_lights cX10_lights 8 (some .int)) := ⟨wk_X10_130, wi_X10_lights, wl_X10_lights, wn_X10, wc_X10_lights⟩
theorem uv_X2_178 : uw_V RX2 178 RX2 yX2_breaksClearance (Cond.code yX2_breaksClearance cX2_breaksClearance 7 (some .boolean)) := ⟨wk_X2_178, wi_X2_breaksClearance, wl_X2_breaksClearance, wn_X2, wc_X2_breaksClearance⟩
theorem uv_X3_51 : uw_V RX3 51 RX3 yX3_divide (Cond.code yX3_divide cX3_divide 3 none) := ⟨wk_X3_51, wi_X3_divide, wl_X3_divide, wn_X3, wc_X3_divide⟩
theorem uv_X3_55 : uw_V RX3 55 RX3 yX3_measure (Cond.code yX3_measure cX3_measure 5 none) := ⟨wk_X3_55, wi_X3_measure, wl_X3_measure, wn_X3, wc_X3_measure⟩
theorem uv_X3_58 : uw_V RX3 58 RX3 yX3_spread (Cond.code yX3_spread cX3_spread 6 none) := ⟨wk_X3_58, wi_X3_spread, wl_X3_spread, wn_X3, wc_X3_spread⟩
theorem uv_X3_62 : uw_V RX3 62 RX3 yX3_setStarts (Cond.code yX3_setStarts cX3_setStarts 3 none) := ⟨wk_X3_62, wi_X3_setStarts, wl_X3_setStarts, wn_X3, wc_X3_setStarts⟩
theorem uv_X3_65 : uw_V RX3 65 RX3 yX3_isClear (Cond.code yX3_isClear cX3_isClear 7 (some .boolean)) := ⟨wk_X3_65, wi_X3_isClear, wl_X3_isClear, wn_X3, wc_X3_isClear⟩
theorem uv_X9_97 : uw_V RX9 97 RX9 yX9_offsetFault (Cond.code yX9_offsetFault cX9_offsetFault 4 (some .int)) := ⟨wk_X9_97, wi_X9_offsetFault, wl_X9_offsetFault, wn_X9, wc_X9_offsetFault⟩
theorem uv_X9_105 : uw_V RX9 105 RX9 yX9_setOffset (Cond.code yX9_setOffset cX9_setOffset 5 (some .int)) := ⟨wk_X9_105, wi_X9_setOffset, wl_X9_setOffset, wn_X9, wc_X9_setOffset⟩
theorem uv_X9_108 : uw_V RX9 108 RX9 yX9_roadFault (Cond.code yX9_roadFault cX9_roadFault 6 (some .int)) := ⟨wk_X9_108, wi_X9_roadFault, wl_X9_roadFault, wn_X9, wc_X9_roadFault⟩
theorem uv_X9_112 : uw_V RX9 112 RX9 yX9_setRoadGroups (Cond.code yX9_setRoadGroups cX9_setRoadGroups 6 (some .int)) := ⟨wk_X9_112, wi_X9_setRoadGroups, wl_X9_setRoadGroups, wn_X9, wc_X9_setRoadGroups⟩
theorem uv_X9_159 : uw_V RX9 159 RX9 yX9_foundWith (Cond.code yX9_foundWith cX9_foundWith 4 (some (.object "SignalRoad$Junction"))) := ⟨wk_X9_159, wi_X9_foundWith, wl_X9_foundWith, wn_X9, wc_X9_foundWith⟩
theorem uv_X9_185 : uw_V RX9 185 RX2 yX2_headCount (Cond.code yX2_headCount cX2_headCount 4 (some .int)) := ⟨wk_X9_185, wi_X2_headCount, wl_X2_headCount, wn_X2, wc_X2_headCount⟩
theorem uv_X9_182 : uw_V RX9 182 RX2 yX2_isGiven (Cond.code yX2_isGiven cX2_isGiven 2 (some .boolean)) := ⟨wk_X9_182, wi_X2_isGiven, wl_X2_isGiven, wn_X2, wc_X2_isGiven⟩
theorem uv_X9_173 : uw_V RX9 173 RX2 yX2_conflictSet (Cond.code yX2_conflictSet cX2_conflictSet 4 (some .int)) := ⟨wk_X9_173, wi_X2_conflictSet, wl_X2_conflictSet, wn_X2, wc_X2_conflictSet⟩
theorem uv_X9_198 : uw_V RX9 198 RX2 yX2_reasonAgainstConflict (Cond.code yX2_reasonAgainstConflict cX2_reasonAgainstConflict 9 (some .int)) := ⟨wk_X9_198, wi_X2_reasonAgainstConflict, wl_X2_reasonAgainstConflict, wn_X2, wc_X2_reasonAgainstConflict⟩
theorem uv_X9_205 : uw_V RX9 205 RX2 yX2_setClearances (Cond.code yX2_setClearances cX2_setClearances 5 none) := ⟨wk_X9_205, wi_X2_setClearances, wl_X2_setClearances, wn_X2, wc_X2_setClearances⟩
theorem us_X9_191 : uw_S RX9 191 yX9_isClearance (Cond.code yX9_isClearance cX9_isClearance 1 (some .boolean)) := ⟨wk_X9_191, ws_X9_isClearance, wn_X9, wc_X9_isClearance⟩
theorem uv_X9_209 : uw_V RX9 209 RX2 yX2_areInConflict (Cond.code yX2_areInConflict cX2_areInConflict 3 (some .boolean)) := ⟨wk_X9_209, wi_X2_areInConflict, wl_X2_areInConflict, wn_X2, wc_X2_areInConflict⟩
theorem uv_X9_213 : uw_V RX9 213 RX2 yX2_clearanceFrom (Cond.code yX2_clearanceFrom cX2_clearanceFrom 3 (some .int)) := ⟨wk_X9_213, wi_X2_clearanceFrom, wl_X2_clearanceFrom, wn_X2, wc_X2_clearanceFrom⟩
theorem uv_X9_216 : uw_V RX9 216 RX9 yX9_greenFault (Cond.code yX9_greenFault cX9_greenFault 7 (some .int)) := ⟨wk_X9_216, wi_X9_greenFault, wl_X9_greenFault, wn_X9, wc_X9_greenFault⟩
theorem uv_X9_219 : uw_V RX9 219 RX9 yX9_giveGreen (Cond.code yX9_giveGreen cX9_giveGreen 7 (some .int)) := ⟨wk_X9_219, wi_X9_giveGreen, wl_X9_giveGreen, wn_X9, wc_X9_giveGreen⟩
theorem uv_X9_231 : uw_V RX9 231 RX2 yX2_lengthOf (Cond.code yX2_lengthOf cX2_lengthOf 3 (some .int)) := ⟨wk_X9_231, wi_X2_lengthOf, wl_X2_lengthOf, wn_X2, wc_X2_lengthOf⟩
theorem uv_X9_237 : uw_V RX9 237 RX3 yX3_layOut (Cond.code yX3_layOut cX3_layOut 5 (some .int)) := ⟨wk_X9_237, wi_X3_layOut, wl_X3_layOut, wn_X3, wc_X3_layOut⟩
theorem uv_X9_241 : uw_V RX9 241 RX3 yX3_giveGreens (Cond.code yX3_giveGreens cX3_giveGreens 4 none) := ⟨wk_X9_241, wi_X3_giveGreens, wl_X3_giveGreens, wn_X3, wc_X3_giveGreens⟩
theorem uv_X9_248 : uw_V RX9 248 RX3 yX3_divide (Cond.code yX3_divide cX3_divide 3 none) := ⟨wk_X9_248, wi_X3_divide, wl_X3_divide, wn_X3, wc_X3_divide⟩
theorem uv_X9_255 : uw_V RX9 255 RX2 yX2_hasGreen (Cond.code yX2_hasGreen cX2_hasGreen 3 (some .boolean)) := ⟨wk_X9_255, wi_X2_hasGreen, wl_X2_hasGreen, wn_X2, wc_X2_hasGreen⟩
theorem uv_X9_258 : uw_V RX9 258 RX2 yX2_firstOf (Cond.code yX2_firstOf cX2_firstOf 3 (some .int)) := ⟨wk_X9_258, wi_X2_firstOf, wl_X2_firstOf, wn_X2, wc_X2_firstOf⟩
theorem uv_X9_293 : uw_V RX9 293 RX9 yX9_pressFault (Cond.code yX9_pressFault cX9_pressFault 4 (some .int)) := ⟨wk_X9_293, wi_X9_pressFault, wl_X9_pressFault, wn_X9, wc_X9_pressFault⟩
theorem uv_X9_296 : uw_V RX9 296 RX9 yX9_makeRequest (Cond.code yX9_makeRequest cX9_makeRequest 4 (some .int)) := ⟨wk_X9_296, wi_X9_makeRequest, wl_X9_makeRequest, wn_X9, wc_X9_makeRequest⟩
theorem uv_X9_314 : uw_V RX9 314 RX2 yX2_takesHead (Cond.code yX2_takesHead cX2_takesHead 3 (some .boolean)) := ⟨wk_X9_314, wi_X2_takesHead, wl_X2_takesHead, wn_X2, wc_X2_takesHead⟩
theorem us_X9_332 : uw_S RX9 332 yX9_bitsOfShare (Cond.code yX9_bitsOfShare cX9_bitsOfShare 4 (some .int)) := ⟨wk_X9_332, ws_X9_bitsOfShare, wn_X9, wc_X9_bitsOfShare⟩
theorem uv_X2_175 : uw_V RX2 175 RX2 yX2_isChangeClear (Cond.code yX2_isChangeClear cX2_isChangeClear 5 (some .boolean)) := ⟨wk_X2_175, wi_X2_isChangeClear, wl_X2_isChangeClear, wn_X2, wc_X2_isChangeClear⟩
theorem uv_X4_60 : uw_V RX4 60 RJ0 yJ0_length_8abf5 (Cond.code yJ0_length_8abf5 cJ0_length_8abf5 1 (some .int)) := ⟨wk_X4_60, wi_J0_length_8abf5, wl_J0_length_8abf5, wn_J0, wc_J0_length_8abf5⟩
theorem uv_X4_65 : uw_V RX4 65 RJ0 yJ0_charAt_5068e (Cond.code yJ0_charAt_5068e cJ0_charAt_5068e 2 (some .char)) := ⟨wk_X4_65, wi_J0_charAt_5068e, wl_J0_charAt_5068e, wn_J0, wc_J0_charAt_5068e⟩
theorem uv_X5_74 : uw_V RX5 74 RJ0 yJ0_length_8abf5 (Cond.code yJ0_length_8abf5 cJ0_length_8abf5 1 (some .int)) := ⟨wk_X5_74, wi_J0_length_8abf5, wl_J0_length_8abf5, wn_J0, wc_J0_length_8abf5⟩
theorem uv_X5_78 : uw_V RX5 78 RJ0 yJ0_charAt_5068e (Cond.code yJ0_charAt_5068e cJ0_charAt_5068e 2 (some .char)) := ⟨wk_X5_78, wi_J0_charAt_5068e, wl_J0_charAt_5068e, wn_J0, wc_J0_charAt_5068e⟩
theorem uv_X9_305 : uw_V RX9 305 RX2 yX2_secondsToChange (Cond.code yX2_secondsToChange cX2_secondsToChange 5 (some .int)) := ⟨wk_X9_305, wi_X2_secondsToChange, wl_X2_secondsToChange, wn_X2, wc_X2_secondsToChange⟩
theorem uv_X9_398 : uw_V RX9 398 RX5 yX5_numberAt (Cond.code yX5_numberAt cX5_numberAt 3 (some .int)) := ⟨wk_X9_398, wi_X5_numberAt, wl_X5_numberAt, wn_X5, wc_X5_numberAt⟩
theorem uv_X9_308 : uw_V RX9 308 RX9 yX9_changeFault (Cond.code yX9_changeFault cX9_changeFault 3 (some .int)) := ⟨wk_X9_308, wi_X9_changeFault, wl_X9_changeFault, wn_X9, wc_X9_changeFault⟩
theorem uv_X9_311 : uw_V RX9 311 RX9 yX9_planChange (Cond.code yX9_planChange cX9_planChange 4 (some .int)) := ⟨wk_X9_311, wi_X9_planChange, wl_X9_planChange, wn_X9, wc_X9_planChange⟩
theorem uv_X10_247 : uw_V RX10 247 RJ0 yJ0_charAt_5068e (Cond.code yJ0_charAt_5068e cJ0_charAt_5068e 2 (some .char)) := ⟨wk_X10_247, wi_J0_charAt_5068e, wl_J0_charAt_5068e, wn_J0, wc_J0_charAt_5068e⟩
theorem uv_X10_259 : uw_V RX10 259 RX10 yX10_word (Cond.code yX10_word cX10_word 5 (some .int)) := ⟨wk_X10_259, wi_X10_word, wl_X10_word, wn_X10, wc_X10_word⟩
theorem uv_X10_262 : uw_V RX10 262 RX10 yX10_items (Cond.code yX10_items cX10_items 4 (some .boolean)) := ⟨wk_X10_262, wi_X10_items, wl_X10_items, wn_X10, wc_X10_items⟩
theorem uv_X10_265 : uw_V RX10 265 RX10 yX10_does (Cond.code yX10_does cX10_does 2 (some .int)) := ⟨wk_X10_265, wi_X10_does, wl_X10_does, wn_X10, wc_X10_does⟩
theorem uv_X10_268 : uw_V RX10 268 RJ0 yJ0_length_8abf5 (Cond.code yJ0_length_8abf5 cJ0_length_8abf5 1 (some .int)) := ⟨wk_X10_268, wi_J0_length_8abf5, wl_J0_length_8abf5, wn_J0, wc_J0_length_8abf5⟩
theorem uv_X10_279 : uw_V RX10 279 RX10 yX10_writes (Cond.code yX10_writes cX10_writes 3 none) := ⟨wk_X10_279, wi_X10_writes, wl_X10_writes, wn_X10, wc_X10_writes⟩
theorem uv_X10_296 : uw_V RX10 296 RX10 yX10_lists (Cond.code yX10_lists cX10_lists 5 none) := ⟨wk_X10_296, wi_X10_lists, wl_X10_lists, wn_X10, wc_X10_lists⟩
theorem uv_X4_26 : uw_V RX4 26 RX4 yX4_addText (Cond.code yX4_addText cX4_addText 3 none) := ⟨wk_X4_26, wi_X4_addText, wl_X4_addText, wn_X4, wc_X4_addText⟩
theorem uv_X4_30 : uw_V RX4 30 RX4 yX4_addNumber (Cond.code yX4_addNumber cX4_addNumber 3 none) := ⟨wk_X4_30, wi_X4_addNumber, wl_X4_addNumber, wn_X4, wc_X4_addNumber⟩
theorem uv_X5_70 : uw_V RX5 70 RX5 yX5_isWord (Cond.code yX5_isWord cX5_isWord 4 (some .boolean)) := ⟨wk_X5_70, wi_X5_isWord, wl_X5_isWord, wn_X5, wc_X5_isWord⟩
theorem uv_X4_48 : uw_V RX4 48 RX4 yX4_addGroups (Cond.code yX4_addGroups cX4_addGroups 4 none) := ⟨wk_X4_48, wi_X4_addGroups, wl_X4_addGroups, wn_X4, wc_X4_addGroups⟩
theorem uv_X5_45 : uw_V RX5 45 RX5 yX5_readWord (Cond.code yX5_readWord cX5_readWord 3 (some (.object "SignalRoad$Word"))) := ⟨wk_X5_45, wi_X5_readWord, wl_X5_readWord, wn_X5, wc_X5_readWord⟩
theorem uv_X5_49 : uw_V RX5 49 RX5 yX5_readSign (Cond.code yX5_readSign cX5_readSign 2 none) := ⟨wk_X5_49, wi_X5_readSign, wl_X5_readSign, wn_X5, wc_X5_readSign⟩
theorem uv_X5_55 : uw_V RX5 55 RX5 yX5_readNumber (Cond.code yX5_readNumber cX5_readNumber 3 (some .int)) := ⟨wk_X5_55, wi_X5_readNumber, wl_X5_readNumber, wn_X5, wc_X5_readNumber⟩
theorem uv_X9_363 : uw_V RX9 363 RX4 yX4_write (Cond.code yX4_write cX4_write 6 none) := ⟨wk_X9_363, wi_X4_write, wl_X4_write, wn_X4, wc_X4_write⟩
theorem uv_X5_41 : uw_V RX5 41 RX5 yX5_readCommand (Cond.code yX5_readCommand cX5_readCommand 4 none) := ⟨wk_X5_41, wi_X5_readCommand, wl_X5_readCommand, wn_X5, wc_X5_readCommand⟩
theorem uv_X9_342 : uw_V RX9 342 RX5 yX5_read (Cond.code yX5_read cX5_read 2 (some .int)) := ⟨wk_X9_342, wi_X5_read, wl_X5_read, wn_X5, wc_X5_read⟩
theorem uv_X9_349 : uw_V RX9 349 RX9 yX9_commandFault (Cond.code yX9_commandFault cX9_commandFault 6 (some .int)) := ⟨wk_X9_349, wi_X9_commandFault, wl_X9_commandFault, wn_X9, wc_X9_commandFault⟩
theorem uv_X9_360 : uw_V RX9 360 RX9 yX9_carryOut (Cond.code yX9_carryOut cX9_carryOut 6 none) := ⟨wk_X9_360, wi_X9_carryOut, wl_X9_carryOut, wn_X9, wc_X9_carryOut⟩
theorem yk_J0_length_8abf5 : yOk yJ0_length_8abf5 0 := ⟨by decide +kernel, by decide +kernel, by decide +kernel⟩
theorem yk_J0_coder_7d493 : yOk yJ0_coder_7d493 0 := ⟨by decide +kernel, by decide +kernel, by decide +kernel⟩
theorem yk_J0_isLatin1_aae02 : yOk yJ0_isLatin1_aae02 0 := ⟨by decide +kernel, by decide +kernel, by decide +kernel⟩
theorem yk_J0_charAt_5068e : yOk yJ0_charAt_5068e 1 := ⟨by decide +kernel, by decide +kernel, by decide +kernel⟩
theorem yk_J0_checkIndex_df160 : yOk yJ0_checkIndex_df160 2 := ⟨by decide +kernel, by decide +kernel, by decide +kernel⟩
theorem yk_J1_charAt_3b067 : yOk yJ1_charAt_3b067 2 := ⟨by decide +kernel, by decide +kernel, by decide +kernel⟩
theorem yk_J3_checkIndex_8e157 : yOk yJ3_checkIndex_8e157 3 := ⟨by decide +kernel, by decide +kernel, by decide +kernel⟩
theorem yk_X2_clearanceFrom : yOk yX2_clearanceFrom 2 := ⟨by decide +kernel, by decide +kernel, by decide +kernel⟩
theorem yk_X2_lengthOf : yOk yX2_lengthOf 2 := ⟨by decide +kernel, by decide +kernel, by decide +kernel⟩
theorem yk_X2_areInConflict : yOk yX2_areInConflict 2 := ⟨by decide +kernel, by decide +kernel, by decide +kernel⟩
theorem yk_X2_hasGreen : yOk yX2_hasGreen 2 := ⟨by decide +kernel, by decide +kernel, by decide +kernel⟩
theorem yk_X2_isWaiting : yOk yX2_isWaiting 1 := ⟨by decide +kernel, by decide +kernel, by decide +kernel⟩
theorem yk_X2_setGreen : yOk yX2_setGreen 4 := ⟨by decide +kernel, by decide +kernel, by decide +kernel⟩
theorem yk_X2_copyFrom : yOk yX2_copyFrom 1 := ⟨by decide +kernel, by decide +kernel, by decide +kernel⟩
theorem yk_X2_greenCount : yOk yX2_greenCount 1 := ⟨by decide +kernel, by decide +kernel, by decide +kernel⟩
theorem yk_X2_isChangePlanned : yOk yX2_isChangePlanned 0 := ⟨by decide +kernel, by decide +kernel, by decide +kernel⟩
theorem yk_X2_hasRoadGroup : yOk yX2_hasRoadGroup 1 := ⟨by decide +kernel, by decide +kernel, by decide +kernel⟩
theorem yk_X6_copyFrom : yOk yX6_copyFrom 1 := ⟨by decide +kernel, by decide +kernel, by decide +kernel⟩
theorem yk_X9_wrap : yOk yX9_wrap 2 := ⟨by decide +kernel, by decide +kernel, by decide +kernel⟩
theorem yk_X10_raises : yOk yX10_raises 1 := ⟨by decide +kernel, by decide +kernel, by decide +kernel⟩
theorem yk_X10_keeps : yOk yX10_keeps 0 := ⟨by decide +kernel, by decide +kernel, by decide +kernel⟩
theorem yk_X10_at : yOk yX10_at 1 := ⟨by decide +kernel, by decide +kernel, by decide +kernel⟩
theorem yk_X10_groupAt : yOk yX10_groupAt 2 := ⟨by decide +kernel, by decide +kernel, by decide +kernel⟩
theorem yk_X10_in : yOk yX10_in 3 := ⟨by decide +kernel, by decide +kernel, by decide +kernel⟩
theorem yk_X10_isJunction : yOk yX10_isJunction 1 := ⟨by decide +kernel, by decide +kernel, by decide +kernel⟩
theorem yk_X10_of : yOk yX10_of 2 := ⟨by decide +kernel, by decide +kernel, by decide +kernel⟩
theorem yk_X10_groupOf : yOk yX10_groupOf 3 := ⟨by decide +kernel, by decide +kernel, by decide +kernel⟩
theorem yk_X10_changes : yOk yX10_changes 0 := ⟨by decide +kernel, by decide +kernel, by decide +kernel⟩
theorem yk_X10_length : yOk yX10_length 3 := ⟨by decide +kernel, by decide +kernel, by decide +kernel⟩
theorem yk_X10_isGroup : yOk yX10_isGroup 2 := ⟨by decide +kernel, by decide +kernel, by decide +kernel⟩
theorem yk_X10_tries : yOk yX10_tries 0 := ⟨by decide +kernel, by decide +kernel, by decide +kernel⟩
theorem yk_X10_offsets : yOk yX10_offsets 2 := ⟨by decide +kernel, by decide +kernel, by decide +kernel⟩
theorem yk_X10_ends : yOk yX10_ends 1 := ⟨by decide +kernel, by decide +kernel, by decide +kernel⟩
theorem yk_X10_roads : yOk yX10_roads 3 := ⟨by decide +kernel, by decide +kernel, by decide +kernel⟩
theorem yk_X10_clear : yOk yX10_clear 3 := ⟨by decide +kernel, by decide +kernel, by decide +kernel⟩
theorem yk_X10_heads : yOk yX10_heads 2 := ⟨by decide +kernel, by decide +kernel, by decide +kernel⟩
theorem yk_X10_clears : yOk yX10_clears 4 := ⟨by decide +kernel, by decide +kernel, by decide +kernel⟩
theorem yk_X10_isPlan : yOk yX10_isPlan 2 := ⟨by decide +kernel, by decide +kernel, by decide +kernel⟩
theorem yk_X10_puts : yOk yX10_puts 5 := ⟨by decide +kernel, by decide +kernel, by decide +kernel⟩
theorem yk_X10_puts_ : yOk yX10_puts_ 3 := ⟨by decide +kernel, by decide +kernel, by decide +kernel⟩
theorem yk_X10_phases : yOk yX10_phases 1 := ⟨by decide +kernel, by decide +kernel, by decide +kernel⟩
theorem yk_X10_first : yOk yX10_first 3 := ⟨by decide +kernel, by decide +kernel, by decide +kernel⟩
theorem yk_X10_waiting : yOk yX10_waiting 1 := ⟨by decide +kernel, by decide +kernel, by decide +kernel⟩
theorem yk_X10_presses : yOk yX10_presses 2 := ⟨by decide +kernel, by decide +kernel, by decide +kernel⟩
theorem yk_X10_refuses : yOk yX10_refuses 2 := ⟨by decide +kernel, by decide +kernel, by decide +kernel⟩
theorem yk_X10_greens : yOk yX10_greens 2 := ⟨by decide +kernel, by decide +kernel, by decide +kernel⟩
theorem yk_X10_conflicts : yOk yX10_conflicts 1 := ⟨by decide +kernel, by decide +kernel, by decide +kernel⟩
theorem yk_X10_here : yOk yX10_here 0 := ⟨by decide +kernel, by decide +kernel, by decide +kernel⟩
theorem yk_X10_takes : yOk yX10_takes 1 := ⟨by decide +kernel, by decide +kernel, by decide +kernel⟩
theorem yk_X10_number : yOk yX10_number 1 := ⟨by decide +kernel, by decide +kernel, by decide +kernel⟩
theorem yk_X10_writes_ : yOk yX10_writes_ 1 := ⟨by decide +kernel, by decide +kernel, by decide +kernel⟩
theorem yk_Jxf58ca_isNaN_12338 : yOk yJxf58ca_isNaN_12338 1 := ⟨by decide +kernel, by decide +kernel, by decide +kernel⟩
theorem yk_J9_min_7cf53 : yOk yJ9_min_7cf53 2 := ⟨by decide +kernel, by decide +kernel, by decide +kernel⟩
theorem yk_X9_isWithin : yOk yX9_isWithin 3 := ⟨by decide +kernel, by decide +kernel, by decide +kernel⟩
theorem yk_X2_conflictSet : yOk yX2_conflictSet 1 := ⟨by decide +kernel, by decide +kernel, by decide +kernel⟩
theorem yk_J6_bitCount_0f7a4 : yOk yJ6_bitCount_0f7a4 1 := ⟨by decide +kernel, by decide +kernel, by decide +kernel⟩
theorem yk_X2_headCount : yOk yX2_headCount 1 := ⟨by decide +kernel, by decide +kernel, by decide +kernel⟩
theorem yk_X2_firstOf : yOk yX2_firstOf 2 := ⟨by decide +kernel, by decide +kernel, by decide +kernel⟩
theorem yk_X2_isOn : yOk yX2_isOn 4 := ⟨by decide +kernel, by decide +kernel, by decide +kernel⟩
theorem yk_X2_onSet : yOk yX2_onSet 3 := ⟨by decide +kernel, by decide +kernel, by decide +kernel⟩
theorem yk_X9_gap : yOk yX9_gap 4 := ⟨by decide +kernel, by decide +kernel, by decide +kernel⟩
theorem yk_X2_isByRequest : yOk yX2_isByRequest 1 := ⟨by decide +kernel, by decide +kernel, by decide +kernel⟩
theorem yk_X2_isGiven : yOk yX2_isGiven 1 := ⟨by decide +kernel, by decide +kernel, by decide +kernel⟩
theorem yk_X2_decideRequest : yOk yX2_decideRequest 2 := ⟨by decide +kernel, by decide +kernel, by decide +kernel⟩
theorem yk_X2_localSecond : yOk yX2_localSecond 2 := ⟨by decide +kernel, by decide +kernel, by decide +kernel⟩
theorem yk_J9_max_7cf53 : yOk yJ9_max_7cf53 2 := ⟨by decide +kernel, by decide +kernel, by decide +kernel⟩
theorem yk_X3_isPeaceful : yOk yX3_isPeaceful 4 := ⟨by decide +kernel, by decide +kernel, by decide +kernel⟩
theorem yk_X3_isPlaced : yOk yX3_isPlaced 5 := ⟨by decide +kernel, by decide +kernel, by decide +kernel⟩
theorem yk_X4_addSign : yOk yX4_addSign 1 := ⟨by decide +kernel, by decide +kernel, by decide +kernel⟩
theorem yk_X7_numberAt : yOk yX7_numberAt 3 := ⟨by decide +kernel, by decide +kernel, by decide +kernel⟩
theorem yk_J9_abs_0f7a4 : yOk yJ9_abs_0f7a4 1 := ⟨by decide +kernel, by decide +kernel, by decide +kernel⟩
theorem yk_X7_distanceTo : yOk yX7_distanceTo 3 := ⟨by decide +kernel, by decide +kernel, by decide +kernel⟩
theorem yk_X2_secondsUntilOn : yOk yX2_secondsUntilOn 4 := ⟨by decide +kernel, by decide +kernel, by decide +kernel⟩
theorem yk_X7_secondsTo : yOk yX7_secondsTo 3 := ⟨by decide +kernel, by decide +kernel, by decide +kernel⟩
theorem yk_X7_waitAt : yOk yX7_waitAt 4 := ⟨by decide +kernel, by decide +kernel, by decide +kernel⟩
theorem yk_X6_find : yOk yX6_find 1 := ⟨by decide +kernel, by decide +kernel, by decide +kernel⟩
theorem yk_X2_hasGroup : yOk yX2_hasGroup 1 := ⟨by decide +kernel, by decide +kernel, by decide +kernel⟩
theorem yk_X9_raise : yOk yX9_raise 1 := ⟨by decide +kernel, by decide +kernel, by decide +kernel⟩
theorem yk_J9_floorMod_7cf53 : yOk yJ9_floorMod_7cf53 2 := ⟨by decide +kernel, by decide +kernel, by decide +kernel⟩
theorem yk_X10_mod : yOk yX10_mod 1 := ⟨by decide +kernel, by decide +kernel, by decide +kernel⟩
theorem yk_X10_local : yOk yX10_local 2 := ⟨by decide +kernel, by decide +kernel, by decide +kernel⟩
theorem yk_X10_isOn : yOk yX10_isOn 4 := ⟨by decide +kernel, by decide +kernel, by decide +kernel⟩
theorem yk_X10_gap : yOk yX10_gap 4 := ⟨by decide +kernel, by decide +kernel, by decide +kernel⟩
theorem yk_X10_meet : yOk yX10_meet 4 := ⟨by decide +kernel, by decide +kernel, by decide +kernel⟩
theorem yk_X10_bars : yOk yX10_bars 5 := ⟨by decide +kernel, by decide +kernel, by decide +kernel⟩
theorem yk_X10_barred : yOk yX10_barred 3 := ⟨by decide +kernel, by decide +kernel, by decide +kernel⟩
theorem yk_X10_isGreen : yOk yX10_isGreen 2 := ⟨by decide +kernel, by decide +kernel, by decide +kernel⟩
theorem yk_X10_hindered : yOk yX10_hindered 5 := ⟨by decide +kernel, by decide +kernel, by decide +kernel⟩
theorem yk_X10_greened : yOk yX10_greened 5 := ⟨by decide +kernel, by decide +kernel, by decide +kernel⟩
theorem yk_X10_shown : yOk yX10_shown 3 := ⟨by decide +kernel, by decide +kernel, by decide +kernel⟩
theorem yk_X10_isPossible : yOk yX10_isPossible 1 := ⟨by decide +kernel, by decide +kernel, by decide +kernel⟩
theorem yk_X10_goes : yOk yX10_goes 2 := ⟨by decide +kernel, by decide +kernel, by decide +kernel⟩
theorem yk_X10_bands : yOk yX10_bands 1 := ⟨by decide +kernel, by decide +kernel, by decide +kernel⟩
theorem yk_X10_passes : yOk yX10_passes 0 := ⟨by decide +kernel, by decide +kernel, by decide +kernel⟩
theorem yk_X10_runs : yOk yX10_runs 1 := ⟨by decide +kernel, by decide +kernel, by decide +kernel⟩
theorem yk_X10_mayChange : yOk yX10_mayChange 2 := ⟨by decide +kernel, by decide +kernel, by decide +kernel⟩
theorem yk_X10_soon : yOk yX10_soon 1 := ⟨by decide +kernel, by decide +kernel, by decide +kernel⟩
theorem yk_X10_plans : yOk yX10_plans 1 := ⟨by decide +kernel, by decide +kernel, by decide +kernel⟩
theorem yk_Jxf58ca_floatToIntBits_5c35a : yOk yJxf58ca_floatToIntBits_5c35a 1 := ⟨by decide +kernel, by decide +kernel, by decide +kernel⟩
theorem yk_X2_headSum : yOk yX2_headSum 0 := ⟨by decide +kernel, by decide +kernel, by decide +kernel⟩
theorem yk_X2_waitingCount : yOk yX2_waitingCount 0 := ⟨by decide +kernel, by decide +kernel, by decide +kernel⟩
theorem yk_X2_litSum : yOk yX2_litSum 0 := ⟨by decide +kernel, by decide +kernel, by decide +kernel⟩
theorem yk_X2_conflictCount : yOk yX2_conflictCount 0 := ⟨by decide +kernel, by decide +kernel, by decide +kernel⟩
theorem yk_X2_clashWith : yOk yX2_clashWith 6 := ⟨by decide +kernel, by decide +kernel, by decide +kernel⟩
theorem yk_X9_earlierReason : yOk yX9_earlierReason 2 := ⟨by decide +kernel, by decide +kernel, by decide +kernel⟩
theorem yk_X2_showGreen : yOk yX2_showGreen 3 := ⟨by decide +kernel, by decide +kernel, by decide +kernel⟩
theorem yk_X2_secondsOff : yOk yX2_secondsOff 3 := ⟨by decide +kernel, by decide +kernel, by decide +kernel⟩
theorem yk_J7_fill_53178 : yOk yJ7_fill_53178 2 := ⟨by decide +kernel, by decide +kernel, by decide +kernel⟩
theorem yk_X3_clearanceTo : yOk yX3_clearanceTo 3 := ⟨by decide +kernel, by decide +kernel, by decide +kernel⟩
theorem yk_X5_isNextWithin : yOk yX5_isNextWithin 2 := ⟨by decide +kernel, by decide +kernel, by decide +kernel⟩
theorem yk_X2_letSecondPass : yOk yX2_letSecondPass 2 := ⟨by decide +kernel, by decide +kernel, by decide +kernel⟩
theorem yk_X2_amountOf : yOk yX2_amountOf 1 := ⟨by decide +kernel, by decide +kernel, by decide +kernel⟩
theorem yk_X7_isFree : yOk yX7_isFree 4 := ⟨by decide +kernel, by decide +kernel, by decide +kernel⟩
theorem yk_X7_secondsBefore : yOk yX7_secondsBefore 3 := ⟨by decide +kernel, by decide +kernel, by decide +kernel⟩
theorem yk_X7_bandWith : yOk yX7_bandWith 5 := ⟨by decide +kernel, by decide +kernel, by decide +kernel⟩
theorem yk_X9_need : yOk yX9_need 2 := ⟨by decide +kernel, by decide +kernel, by decide +kernel⟩
theorem yk_X6_canTakeCycle : yOk yX6_canTakeCycle 1 := ⟨by decide +kernel, by decide +kernel, by decide +kernel⟩
theorem yk_X1_push : yOk yX1_push 1 := ⟨by decide +kernel, by decide +kernel, by decide +kernel⟩
theorem yk_X6_lastPosition : yOk yX6_lastPosition 0 := ⟨by decide +kernel, by decide +kernel, by decide +kernel⟩
theorem yk_X6_addJunction : yOk yX6_addJunction 1 := ⟨by decide +kernel, by decide +kernel, by decide +kernel⟩
theorem yk_X9_found : yOk yX9_found 1 := ⟨by decide +kernel, by decide +kernel, by decide +kernel⟩
theorem yk_X2_litSet : yOk yX2_litSet 2 := ⟨by decide +kernel, by decide +kernel, by decide +kernel⟩
theorem yk_X2_addGroup : yOk yX2_addGroup 3 := ⟨by decide +kernel, by decide +kernel, by decide +kernel⟩
theorem yk_X9_isPlan : yOk yX9_isPlan 1 := ⟨by decide +kernel, by decide +kernel, by decide +kernel⟩
theorem yk_X2_pictureAt : yOk yX2_pictureAt 3 := ⟨by decide +kernel, by decide +kernel, by decide +kernel⟩
theorem yk_X9_isDirection : yOk yX9_isDirection 1 := ⟨by decide +kernel, by decide +kernel, by decide +kernel⟩
theorem yk_X7_arePossible : yOk yX7_arePossible 2 := ⟨by decide +kernel, by decide +kernel, by decide +kernel⟩
theorem yk_X7_numberOf : yOk yX7_numberOf 4 := ⟨by decide +kernel, by decide +kernel, by decide +kernel⟩
theorem yk_X7_secondsStepByStep : yOk yX7_secondsStepByStep 3 := ⟨by decide +kernel, by decide +kernel, by decide +kernel⟩
theorem yk_X7_bandOf : yOk yX7_bandOf 2 := ⟨by decide +kernel, by decide +kernel, by decide +kernel⟩
theorem yk_X7_bestOffsetFor : yOk yX7_bestOffsetFor 3 := ⟨by decide +kernel, by decide +kernel, by decide +kernel⟩
theorem yk_X9_runFault : yOk yX9_runFault 1 := ⟨by decide +kernel, by decide +kernel, by decide +kernel⟩
theorem yk_X6_letPass : yOk yX6_letPass 1 := ⟨by decide +kernel, by decide +kernel, by decide +kernel⟩
theorem yk_X6_sumOf : yOk yX6_sumOf 1 := ⟨by decide +kernel, by decide +kernel, by decide +kernel⟩
theorem yk_X5_add : yOk yX5_add 1 := ⟨by decide +kernel, by decide +kernel, by decide +kernel⟩
theorem yk_X1_popInto : yOk yX1_popInto 1 := ⟨by decide +kernel, by decide +kernel, by decide +kernel⟩
theorem yk_X9_isGreen : yOk yX9_isGreen 2 := ⟨by decide +kernel, by decide +kernel, by decide +kernel⟩
theorem yk_X2_reasonAgainstGreen : yOk yX2_reasonAgainstGreen 5 := ⟨by decide +kernel, by decide +kernel, by decide +kernel⟩
theorem yk_X9_faultOfReason : yOk yX9_faultOfReason 1 := ⟨by decide +kernel, by decide +kernel, by decide +kernel⟩
theorem yk_X10_lights : yOk yX10_lights 1 := ⟨by decide +kernel, by decide +kernel, by decide +kernel⟩
theorem yk_X2_breaksClearance : yOk yX2_breaksClearance 4 := ⟨by decide +kernel, by decide +kernel, by decide +kernel⟩
theorem yk_X3_divide : yOk yX3_divide 1 := ⟨by decide +kernel, by decide +kernel, by decide +kernel⟩
theorem yk_X3_measure : yOk yX3_measure 1 := ⟨by decide +kernel, by decide +kernel, by decide +kernel⟩
theorem yk_X3_spread : yOk yX3_spread 2 := ⟨by decide +kernel, by decide +kernel, by decide +kernel⟩
theorem yk_X3_setStarts : yOk yX3_setStarts 0 := ⟨by decide +kernel, by decide +kernel, by decide +kernel⟩
theorem yk_X3_isClear : yOk yX3_isClear 2 := ⟨by decide +kernel, by decide +kernel, by decide +kernel⟩
theorem yk_X9_offsetFault : yOk yX9_offsetFault 2 := ⟨by decide +kernel, by decide +kernel, by decide +kernel⟩
theorem yk_X9_setOffset : yOk yX9_setOffset 2 := ⟨by decide +kernel, by decide +kernel, by decide +kernel⟩
theorem yk_X9_roadFault : yOk yX9_roadFault 3 := ⟨by decide +kernel, by decide +kernel, by decide +kernel⟩
theorem yk_X9_setRoadGroups : yOk yX9_setRoadGroups 3 := ⟨by decide +kernel, by decide +kernel, by decide +kernel⟩
theorem yk_X9_foundWith : yOk yX9_foundWith 2 := ⟨by decide +kernel, by decide +kernel, by decide +kernel⟩
theorem yk_X2_reasonAgainstConflict : yOk yX2_reasonAgainstConflict 5 := ⟨by decide +kernel, by decide +kernel, by decide +kernel⟩
theorem yk_X2_setClearances : yOk yX2_setClearances 4 := ⟨by decide +kernel, by decide +kernel, by decide +kernel⟩
theorem yk_X9_isClearance : yOk yX9_isClearance 1 := ⟨by decide +kernel, by decide +kernel, by decide +kernel⟩
theorem yk_X9_greenFault : yOk yX9_greenFault 5 := ⟨by decide +kernel, by decide +kernel, by decide +kernel⟩
theorem yk_X9_giveGreen : yOk yX9_giveGreen 5 := ⟨by decide +kernel, by decide +kernel, by decide +kernel⟩
theorem yk_X3_layOut : yOk yX3_layOut 2 := ⟨by decide +kernel, by decide +kernel, by decide +kernel⟩
theorem yk_X3_giveGreens : yOk yX3_giveGreens 2 := ⟨by decide +kernel, by decide +kernel, by decide +kernel⟩
theorem yk_X9_pressFault : yOk yX9_pressFault 2 := ⟨by decide +kernel, by decide +kernel, by decide +kernel⟩
theorem yk_X9_makeRequest : yOk yX9_makeRequest 2 := ⟨by decide +kernel, by decide +kernel, by decide +kernel⟩
theorem yk_X2_takesHead : yOk yX2_takesHead 2 := ⟨by decide +kernel, by decide +kernel, by decide +kernel⟩
theorem yk_X9_bitsOfShare : yOk yX9_bitsOfShare 1 := ⟨by decide +kernel, by decide +kernel, by decide +kernel⟩
theorem yk_X2_isChangeClear : yOk yX2_isChangeClear 2 := ⟨by decide +kernel, by decide +kernel, by decide +kernel⟩
theorem yk_X2_secondsToChange : yOk yX2_secondsToChange 2 := ⟨by decide +kernel, by decide +kernel, by decide +kernel⟩
theorem yk_X5_numberAt : yOk yX5_numberAt 2 := ⟨by decide +kernel, by decide +kernel, by decide +kernel⟩
theorem yk_X9_changeFault : yOk yX9_changeFault 1 := ⟨by decide +kernel, by decide +kernel, by decide +kernel⟩
theorem yk_X9_planChange : yOk yX9_planChange 1 := ⟨by decide +kernel, by decide +kernel, by decide +kernel⟩
theorem yk_X10_word : yOk yX10_word 0 := ⟨by decide +kernel, by decide +kernel, by decide +kernel⟩
theorem yk_X10_items : yOk yX10_items 1 := ⟨by decide +kernel, by decide +kernel, by decide +kernel⟩
theorem yk_X10_does : yOk yX10_does 1 := ⟨by decide +kernel, by decide +kernel, by decide +kernel⟩
theorem yk_X10_writes : yOk yX10_writes 1 := ⟨by decide +kernel, by decide +kernel, by decide +kernel⟩
theorem yk_X10_lists : yOk yX10_lists 3 := ⟨by decide +kernel, by decide +kernel, by decide +kernel⟩
theorem yk_X4_addText : yOk yX4_addText 1 := ⟨by decide +kernel, by decide +kernel, by decide +kernel⟩
theorem yk_X4_addNumber : yOk yX4_addNumber 1 := ⟨by decide +kernel, by decide +kernel, by decide +kernel⟩
theorem yk_X5_isWord : yOk yX5_isWord 2 := ⟨by decide +kernel, by decide +kernel, by decide +kernel⟩
theorem yk_X4_addGroups : yOk yX4_addGroups 2 := ⟨by decide +kernel, by decide +kernel, by decide +kernel⟩
theorem yk_X5_readWord : yOk yX5_readWord 0 := ⟨by decide +kernel, by decide +kernel, by decide +kernel⟩
theorem yk_X5_readSign : yOk yX5_readSign 1 := ⟨by decide +kernel, by decide +kernel, by decide +kernel⟩
theorem yk_X5_readNumber : yOk yX5_readNumber 0 := ⟨by decide +kernel, by decide +kernel, by decide +kernel⟩
theorem yk_X4_write : yOk yX4_write 4 := ⟨by decide +kernel, by decide +kernel, by decide +kernel⟩
theorem yk_X5_readCommand : yOk yX5_readCommand 1 := ⟨by decide +kernel, by decide +kernel, by decide +kernel⟩
theorem yk_X5_read : yOk yX5_read 0 := ⟨by decide +kernel, by decide +kernel, by decide +kernel⟩
theorem yk_X9_commandFault : yOk yX9_commandFault 1 := ⟨by decide +kernel, by decide +kernel, by decide +kernel⟩
theorem yk_X9_carryOut : yOk yX9_carryOut 1 := ⟨by decide +kernel, by decide +kernel, by decide +kernel⟩
