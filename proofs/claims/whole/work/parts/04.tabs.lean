theorem goodIn_r9 {big : List Cond} (ws : List Cond) (ps : List Nat) (hp : ws = ps.filterMap (fun i => big[i]?)) : ∀ w ∈ ws, w ∈ big := by
  intro w hw
  rw [hp] at hw
  obtain ⟨i, -, hi⟩ := List.mem_filterMap.mp hw
  exact List.mem_of_getElem? hi
/-! tables, by wip/whole/gen.py: classes, methods, what an instruction's number in the constant pool means, and where the words of it stand in lw_tbl -/
def sx_ty : Nat → Nat → FieldType := fun c => match c with
  | 0 => tyX0
  | 1 => tyX1
  | 2 => tyX2
  | 3 => tyX3
  | 4 => tyX4
  | 5 => tyX5
  | 6 => tyX6
  | 7 => tyX7
  | 8 => tyX8
  | 9 => tyX9
  | 10 => tyX10
  | 11 => tyX11
  | _ => tyX12
def sx_cT : Nat → u_T := fun c => match c with
  | 0 => TX0
  | 1 => TX1
  | 2 => TX2
  | 3 => TX3
  | 4 => TX4
  | 5 => TX5
  | 6 => TX6
  | 7 => TX7
  | 8 => TX8
  | 9 => TX9
  | 10 => TX10
  | 11 => TX11
  | _ => TX12
def sx_nf : Nat → Nat := fun c => match c with
  | 0 => 8
  | 1 => 1
  | 2 => 7
  | 3 => 6
  | 4 => 9
  | 5 => 19
  | 6 => 3
  | 7 => 5
  | 8 => 2
  | 9 => 12
  | 10 => 15
  | 11 => 14
  | _ => 93
def sx_rn : Nat → String := fun c => match c with
  | 0 => RX0
  | 1 => RX1
  | 2 => RX2
  | 3 => RX3
  | 4 => RX4
  | 5 => RX5
  | 6 => RX6
  | 7 => RX7
  | 8 => RX8
  | 9 => RX9
  | 10 => RX10
  | 11 => RX11
  | 12 => RX12
  | 13 => RJ7
  | _ => RL
/-- name, bytes, locals, answer; frames and words that it needs beneath it, cells and slots that it makes -/
abbrev sx_Mt : Type := MethodName × ByteArray × Nat × Option FieldType × Nat × Nat × Nat × Nat
def sx_Ms0 : List sx_Mt := [(yX0_init, cX0_init, 1, none, 1, 20, 0, 0), (yX0_clear, cX0_clear, 1, none, 0, 0, 0, 0), (yX0_addClaim, cX0_addClaim, 5, (some .int), 0, 0, 0, 0), (yX0_addStrike, cX0_addStrike, 2, (some .int), 0, 0, 0, 0), (yX0_knownSize, cX0_knownSize, 1, (some .int), 0, 0, 0, 0), (yX0_findStruck, cX0_findStruck, 4, none, 1, 23, 0, 0), (yX0_firstWrong, cX0_firstWrong, 4, (some .int), 5, 109, 0, 0), (yX0_holds, cX0_holds, 5, (some .boolean), 4, 85, 0, 0), (yX1_init, cX1_init, 1, none, 1, 20, 0, 0), (yX1_whole, cX1_whole, 4, (some .int), 0, 0, 0, 0), (yX1_odds, cX1_odds, 5, (some .int), 1, 23, 0, 0), (yX1_gain, cX1_gain, 4, (some .int), 2, 47, 0, 0), (yX1_isRest, cX1_isRest, 8, (some .boolean), 3, 70, 0, 0), (yX2_init, cX2_init, 2, none, 1, 20, 0, 0), (yX2_begin, cX2_begin, 3, none, 9, 186, 0, 0), (yX2_byteAt, cX2_byteAt, 2, (some .int), 0, 0, 0, 0), (yX2_advance, cX2_advance, 2, none, 8, 165, 0, 0), (yX2_isLetter, cX2_isLetter, 1, (some .boolean), 0, 0, 0, 0), (yX2_isDigit, cX2_isDigit, 1, (some .boolean), 0, 0, 0, 0), (yX2_takeWord, cX2_takeWord, 2, none, 7, 144, 0, 0), (yX2_wordType, cX2_wordType, 5, (some .int), 6, 120, 0, 0), (yX2_takeNumber, cX2_takeNumber, 1, none, 1, 24, 0, 0), (yX2_signType, cX2_signType, 2, (some .int), 2, 42, 0, 0), (yX2_takeNext, cX2_takeNext, 2, (some .boolean), 1, 21, 0, 0), (yX3_init, cX3_init, 1, none, 1, 20, 0, 0), (yX3_noteStep, cX3_noteStep, 4, none, 2, 47, 0, 0), (yX3_noteBoots, cX3_noteBoots, 3, none, 2, 47, 0, 0), (yX3_foxRow, cX3_foxRow, 1, (some (.array .int)), 0, 0, 0, 0), (yX3_noteFox, cX3_noteFox, 2, none, 2, 47, 0, 0), (yX3_note, cX3_note, 4, none, 1, 24, 0, 0), (yX3_takeBack, cX3_takeBack, 5, none, 1, 24, 0, 0), (yX4_init, cX4_init, 1, none, 1, 20, 0, 0)]
def sx_Ms1 : List sx_Mt := [(yX4_takeFrom, cX4_takeFrom, 2, none, 1, 60, 0, 0), (yX4_add, cX4_add, 7, none, 0, 0, 0, 0), (yX4_has, cX4_has, 2, (some .boolean), 0, 0, 0, 0), (yX4_lasts, cX4_lasts, 2, (some .boolean), 1, 21, 0, 0), (yX4_isOpen, cX4_isOpen, 2, (some .boolean), 2, 42, 0, 0), (yX4_lasting, cX4_lasting, 3, (some .int), 2, 42, 0, 0), (yX4_lastingIn, cX4_lastingIn, 4, (some .int), 2, 42, 0, 0), (yX4_readIn, cX4_readIn, 3, (some .int), 3, 63, 0, 0), (yX4_lessen, cX4_lessen, 3, none, 1, 24, 0, 0), (yX4_coverAbove, cX4_coverAbove, 4, (some .int), 2, 42, 0, 0), (yX4_dropLooking, cX4_dropLooking, 3, none, 0, 0, 0, 0), (yX5_init, cX5_init, 1, none, 2, 43, 0, 0), (yX5_clear, cX5_clear, 1, none, 1, 23, 0, 0), (yX5_cellCount, cX5_cellCount, 1, (some .int), 0, 0, 0, 0), (yX5_hasCell, cX5_hasCell, 2, (some .boolean), 1, 20, 0, 0), (yX5_hasFarm, cX5_hasFarm, 2, (some .boolean), 0, 0, 0, 0), (yX5_hasWalker, cX5_hasWalker, 2, (some .boolean), 0, 0, 0, 0), (yX5_farmBy, cX5_farmBy, 3, (some .int), 0, 0, 0, 0), (yX5_walkerBy, cX5_walkerBy, 3, (some .int), 0, 0, 0, 0), (yX5_column, cX5_column, 2, (some .int), 0, 0, 0, 0), (yX5_row, cX5_row, 2, (some .int), 0, 0, 0, 0), (yX5_beside, cX5_beside, 6, (some .int), 1, 21, 0, 0), (yX5_apart, cX5_apart, 3, (some .int), 1, 24, 0, 0), (yX6_init, cX6_init, 1, none, 1, 20, 0, 0), (yX6_setName, cX6_setName, 4, none, 0, 0, 0, 0), (yX6_work, cX6_work, 6, (some .long), 3, 73, 0, 0), (yX6_truth, cX6_truth, 1, (some .long), 0, 0, 0, 0), (yX6_joined, cX6_joined, 6, (some .long), 2, 48, 0, 0), (yX6_failure, cX6_failure, 1, (some .long), 0, 0, 0, 0), (yX6_checked, cX6_checked, 3, (some .long), 1, 20, 0, 0), (yX6_product, cX6_product, 5, (some .long), 1, 24, 0, 0), (yX6_quotient, cX6_quotient, 5, (some .long), 1, 20, 0, 0)]
def sx_Ms2 : List sx_Mt := [(yX7_init, cX7_init, 1, none, 1, 20, 0, 0), (yX7_find, cX7_find, 9, none, 4, 95, 0, 0), (yX7_lower, cX7_lower, 6, (some .boolean), 2, 46, 0, 0), (yX7_follow, cX7_follow, 6, none, 3, 70, 0, 0), (yX7_nextCell, cX7_nextCell, 5, (some .int), 2, 46, 0, 0), (yX8_init, cX8_init, 1, none, 1, 20, 0, 0), (yX8_from, cX8_from, 8, (some .long), 2, 46, 0, 0), (yX8_isGround, cX8_isGround, 5, (some .boolean), 1, 20, 0, 0), (yX8_fewest, cX8_fewest, 6, (some .int), 3, 73, 0, 0), (yX8_chooseTwo, cX8_chooseTwo, 7, (some .boolean), 1, 26, 0, 0), (yX8_chooseOne, cX8_chooseOne, 7, (some .boolean), 0, 0, 0, 0), (yX9_init, cX9_init, 3, none, 2, 40, 0, 0), (yX9_begin, cX9_begin, 2, none, 1, 23, 0, 0), (yX9_clearField, cX9_clearField, 2, none, 0, 0, 0, 0), (yX9_takeFrom, cX9_takeFrom, 2, none, 2, 81, 0, 0), (yX9_setNames, cX9_setNames, 5, none, 2, 46, 0, 0), (yX9_lawOfMark, cX9_lawOfMark, 3, (some .long), 4, 98, 0, 0), (yX9_deepLaw, cX9_deepLaw, 3, (some .long), 4, 98, 0, 0), (yX9_bounded, cX9_bounded, 4, (some .int), 1, 24, 0, 0), (yX9_wouldMark, cX9_wouldMark, 4, (some .boolean), 0, 0, 0, 0), (yX9_walk, cX9_walk, 6, (some .boolean), 5, 120, 0, 0), (yX9_hasHoursLeft, cX9_hasHoursLeft, 2, (some .boolean), 0, 0, 0, 0), (yX9_passHour, cX9_passHour, 2, none, 5, 120, 0, 0), (yX9_coverBy, cX9_coverBy, 3, none, 1, 24, 0, 0), (yX9_meltBy, cX9_meltBy, 5, (some .int), 2, 46, 0, 0), (yX9_drawNumber, cX9_drawNumber, 1, (some .int), 0, 0, 0, 0), (yX9_passNight, cX9_passNight, 4, (some .int), 6, 141, 0, 0), (yX9_endWinter, cX9_endWinter, 2, none, 6, 144, 0, 0), (yX9_readAll, cX9_readAll, 3, (some .int), 3, 63, 0, 0), (yX9_scoreOf, cX9_scoreOf, 5, (some .int), 5, 120, 0, 0), (yX9_markBefore, cX9_markBefore, 4, (some .int), 3, 68, 0, 0), (yX9_isNear, cX9_isNear, 3, (some .boolean), 2, 46, 0, 0)]
def sx_Ms3 : List sx_Mt := [(yX9_closes, cX9_closes, 3, (some .boolean), 4, 91, 0, 0), (yX9_isForged, cX9_isForged, 2, (some .boolean), 5, 113, 0, 0), (yX10_init, cX10_init, 2, none, 2, 41, 0, 0), (yX10_begin, cX10_begin, 4, none, 10, 208, 0, 0), (yX10_hasMore, cX10_hasMore, 1, (some .boolean), 0, 0, 0, 0), (yX10_fail, cX10_fail, 2, none, 0, 0, 0, 0), (yX10_tellLine, cX10_tellLine, 1, none, 11, 235, 0, 0), (yX10_numberHere, cX10_numberHere, 3, (some .int), 1, 21, 0, 0), (yX10_nextNumber, cX10_nextNumber, 3, (some .int), 9, 186, 0, 0), (yX10_nextName, cX10_nextName, 1, (some .int), 9, 186, 0, 0), (yX10_tellField, cX10_tellField, 1, none, 10, 208, 0, 0), (yX10_tellKind, cX10_tellKind, 5, none, 10, 208, 0, 0), (yX10_tellFarm, cX10_tellFarm, 8, none, 10, 208, 0, 0), (yX10_tellWalker, cX10_tellWalker, 6, none, 10, 208, 0, 0), (yX10_tellCast, cX10_tellCast, 2, none, 10, 208, 0, 0), (yX10_tellSeed, cX10_tellSeed, 1, none, 10, 208, 0, 0), (yX10_tellLaw, cX10_tellLaw, 2, none, 10, 207, 0, 0), (yX10_tellExpression, cX10_tellExpression, 2, none, 9, 186, 0, 0), (yX10_takeOperand, cX10_takeOperand, 3, none, 2, 43, 0, 0), (yX10_takeOperator, cX10_takeOperator, 3, none, 3, 62, 0, 0), (yX10_rank, cX10_rank, 1, (some .int), 0, 0, 0, 0), (yX10_addKnot, cX10_addKnot, 1, none, 1, 21, 0, 0), (yX10_hold, cX10_hold, 2, none, 0, 0, 0, 0), (yX10_heldRank, cX10_heldRank, 1, (some .int), 1, 20, 0, 0), (yX10_release, cX10_release, 3, none, 2, 40, 0, 0), (yX10_write, cX10_write, 3, none, 0, 0, 0, 0), (yX11_init, cX11_init, 1, none, 3, 63, 0, 0), (yX11_feed, cX11_feed, 6, (some .int), 1, 22, 0, 0), (yX11_putBytes, cX11_putBytes, 3, none, 0, 0, 0, 0), (yX11_text, cX11_text, 3, (some .int), 12, 255, 0, 0), (yX11_fault, cX11_fault, 2, (some .int), 0, 0, 0, 0), (yX11_named, cX11_named, 3, (some .int), 1, 22, 0, 0)]
def sx_Ms4 : List sx_Mt := [(yX11_look, cX11_look, 3, (some .int), 6, 120, 0, 0), (yX11_cell, cX11_cell, 3, (some .int), 4, 85, 0, 0), (yX11_mark, cX11_mark, 4, (some .int), 1, 21, 0, 0), (yX11_law, cX11_law, 3, (some .long), 5, 120, 0, 0), (yX11_step, cX11_step, 6, (some .int), 6, 145, 0, 0), (yX11_boots, cX11_boots, 3, (some .boolean), 3, 69, 0, 0), (yX11_fox, cX11_fox, 9, (some .int), 4, 85, 0, 0), (yX11_hours, cX11_hours, 3, (some .int), 6, 141, 0, 0), (yX11_fall, cX11_fall, 2, (some .int), 2, 46, 0, 0), (yX11_thaw, cX11_thaw, 2, (some .int), 3, 70, 0, 0), (yX11_night, cX11_night, 1, (some .int), 7, 164, 0, 0), (yX11_winter, cX11_winter, 1, (some .int), 7, 165, 0, 0), (yX11_read, cX11_read, 3, (some .int), 4, 85, 0, 0), (yX11_score, cX11_score, 3, (some .int), 6, 144, 0, 0), (yX11_ahead, cX11_ahead, 5, (some .int), 6, 144, 0, 0), (yX11_claim, cX11_claim, 6, (some .int), 2, 41, 0, 0), (yX11_strike, cX11_strike, 2, (some .int), 1, 21, 0, 0), (yX11_known, cX11_known, 2, (some .boolean), 0, 0, 0, 0), (yX11_judged, cX11_judged, 1, (some .int), 6, 132, 0, 0), (yX11_forged, cX11_forged, 3, (some .int), 6, 134, 0, 0), (yX11_forgery, cX11_forgery, 4, (some .int), 6, 134, 0, 0), (yX11_trail, cX11_trail, 5, (some .int), 4, 91, 0, 0), (yX11_trailed, cX11_trailed, 5, (some .int), 4, 91, 0, 0), (yX11_quiet, cX11_quiet, 4, (some .int), 5, 123, 0, 0), (yX11_hushed, cX11_hushed, 4, (some .int), 5, 123, 0, 0), (yX11_covered, cX11_covered, 7, (some .int), 2, 47, 0, 0), (yX11_commonDivisor, cX11_commonDivisor, 6, (some .int), 0, 0, 0, 0), (yX11_best, cX11_best, 6, (some .int), 2, 47, 0, 0), (yX11_rests, cX11_rests, 6, (some .int), 4, 97, 0, 0), (yX11_rest, cX11_rest, 7, (some .int), 4, 97, 0, 0), (yX11_sees, cX11_sees, 2, (some .long), 3, 73, 0, 0), (yX11_umpires, cX11_umpires, 3, (some .int), 4, 98, 0, 0)]
def sx_Ms5 : List sx_Mt := [(yX11_umpire, cX11_umpire, 5, (some .int), 4, 98, 0, 0), (yX11_below, cX11_below, 2, (some .int), 4, 102, 0, 0), (yX11_layers, cX11_layers, 4, (some .int), 3, 65, 0, 0), (yX11_layer, cX11_layer, 4, (some .int), 3, 65, 0, 0), (yX11_chance, cX11_chance, 10, (some .int), 7, 164, 0, 0), (yX11_tried, cX11_tried, 5, (some .int), 6, 144, 0, 0), (yX11_canTry, cX11_canTry, 3, (some .boolean), 1, 21, 0, 0), (yX11_undo, cX11_undo, 1, (some .int), 2, 48, 0, 0), (yX11_keep, cX11_keep, 1, (some .int), 3, 102, 0, 0), (yX11_back, cX11_back, 1, (some .int), 3, 102, 0, 0), (yX11_count, cX11_count, 2, (some .int), 4, 85, 0, 0), (yX11_isWay, cX11_isWay, 1, (some .boolean), 0, 0, 0, 0), (yX11_isCastHour, cX11_isCastHour, 1, (some .boolean), 0, 0, 0, 0), (yX11_isSpan, cX11_isSpan, 1, (some .boolean), 0, 0, 0, 0), (yX11_isWaiting, cX11_isWaiting, 2, (some .boolean), 1, 20, 0, 0), (yX12_init, cX12_init, 1, none, 3, 63, 0, 0), (yX12_thrown, cX12_thrown, 1, (some .int), 0, 0, 0, 0), (yX12_feed, cX12_feed, 8, (some .int), 0, 0, 0, 0), (yX12_isIn, cX12_isIn, 3, (some .boolean), 0, 0, 0, 0), (yX12_wrong, cX12_wrong, 2, (some .boolean), 0, 0, 0, 0), (yX12_wordAt, cX12_wordAt, 8, (some .int), 0, 0, 0, 0), (yX12_isSmall, cX12_isSmall, 2, (some .boolean), 0, 0, 0, 0), (yX12_isDigit, cX12_isDigit, 2, (some .boolean), 0, 0, 0, 0), (yX12_token, cX12_token, 1, none, 1, 27, 0, 0), (yX12_signToken, cX12_signToken, 4, none, 0, 0, 0, 0), (yX12_packed, cX12_packed, 5, (some .int), 0, 0, 0, 0), (yX12_isKey, cX12_isKey, 2, (some .boolean), 0, 0, 0, 0), (yX12_isSign, cX12_isSign, 2, (some .boolean), 0, 0, 0, 0), (yX12_number, cX12_number, 3, (some .boolean), 2, 47, 0, 0), (yX12_plain, cX12_plain, 2, none, 0, 0, 0, 0), (yX12_copies, cX12_copies, 3, none, 0, 0, 0, 0), (yX12_keepText, cX12_keepText, 2, none, 2, 42, 0, 0)]
def sx_Ms6 : List sx_Mt := [(yX12_find, cX12_find, 5, (some .int), 0, 0, 0, 0), (yX12_newName, cX12_newName, 4, (some .boolean), 2, 47, 0, 0), (yX12_cellRead, cX12_cellRead, 2, (some .boolean), 3, 69, 0, 0), (yX12_fieldLine, cX12_fieldLine, 1, (some .boolean), 3, 69, 0, 0), (yX12_treeLine, cX12_treeLine, 2, (some .boolean), 4, 90, 0, 0), (yX12_farmLine, cX12_farmLine, 6, (some .boolean), 3, 70, 0, 0), (yX12_walkerLine, cX12_walkerLine, 3, (some .boolean), 4, 90, 0, 0), (yX12_castLine, cX12_castLine, 2, (some .boolean), 3, 69, 0, 0), (yX12_lineRead, cX12_lineRead, 3, (some .boolean), 5, 112, 0, 0), (yX12_text, cX12_text, 3, (some .int), 6, 134, 0, 0), (yX12_fault, cX12_fault, 2, (some .int), 0, 0, 0, 0), (yX12_named, cX12_named, 3, (some .int), 1, 24, 0, 0), (yX12_rank, cX12_rank, 1, (some .int), 0, 0, 0, 0), (yX12_grown, cX12_grown, 4, none, 0, 0, 0, 0), (yX12_dropHeld, cX12_dropHeld, 1, (some .int), 0, 0, 0, 0), (yX12_bind, cX12_bind, 5, none, 1, 23, 0, 0), (yX12_isCounted, cX12_isCounted, 1, (some .boolean), 1, 21, 0, 0), (yX12_waitsFor, cX12_waitsFor, 2, none, 0, 0, 0, 0), (yX12_nameMet, cX12_nameMet, 1, (some .int), 0, 0, 0, 0), (yX12_leafRead, cX12_leafRead, 2, (some .boolean), 2, 47, 0, 0), (yX12_signs, cX12_signs, 2, (some .boolean), 2, 47, 0, 0), (yX12_sumRead, cX12_sumRead, 1, (some .boolean), 3, 68, 0, 0), (yX12_bounded, cX12_bounded, 3, (some .long), 0, 0, 0, 0), (yX12_compares, cX12_compares, 5, (some .boolean), 0, 0, 0, 0), (yX12_times, cX12_times, 6, (some .long), 0, 0, 0, 0), (yX12_valueOf, cX12_valueOf, 6, (some .long), 1, 25, 0, 0), (yX12_cells, cX12_cells, 1, (some .int), 0, 0, 0, 0), (yX12_isCell, cX12_isCell, 2, (some .boolean), 1, 20, 0, 0), (yX12_isWalker, cX12_isWalker, 2, (some .boolean), 0, 0, 0, 0), (yX12_isFarm, cX12_isFarm, 2, (some .boolean), 0, 0, 0, 0), (yX12_isMark, cX12_isMark, 2, (some .boolean), 0, 0, 0, 0), (yX12_goHome, cX12_goHome, 2, none, 0, 0, 0, 0)]
def sx_Ms7 : List sx_Mt := [(yX12_begin, cX12_begin, 2, none, 1, 21, 0, 0), (yX12_copyMark, cX12_copyMark, 3, none, 0, 0, 0, 0), (yX12_layTried, cX12_layTried, 2, none, 1, 22, 0, 0), (yX12_far, cX12_far, 5, (some .int), 0, 0, 0, 0), (yX12_beside, cX12_beside, 5, (some .int), 1, 22, 0, 0), (yX12_layNames, cX12_layNames, 6, none, 1, 24, 0, 0), (yX12_layMark, cX12_layMark, 4, none, 2, 49, 0, 0), (yX12_lawOf, cX12_lawOf, 3, (some .long), 2, 50, 0, 0), (yX12_boundLaw, cX12_boundLaw, 7, (some .int), 3, 72, 0, 0), (yX12_readIn, cX12_readIn, 5, (some .int), 0, 0, 0, 0), (yX12_scoreOf, cX12_scoreOf, 6, (some .int), 4, 98, 0, 0), (yX12_fails, cX12_fails, 2, (some .int), 0, 0, 0, 0), (yX12_look, cX12_look, 3, (some .int), 1, 21, 0, 0), (yX12_cell, cX12_cell, 5, (some .int), 2, 41, 0, 0), (yX12_mark, cX12_mark, 3, (some .int), 1, 21, 0, 0), (yX12_law, cX12_law, 6, (some .long), 3, 72, 0, 0), (yX12_step, cX12_step, 6, (some .int), 4, 98, 0, 0), (yX12_boots, cX12_boots, 3, (some .boolean), 2, 45, 0, 0), (yX12_fox, cX12_fox, 8, (some .int), 2, 46, 0, 0), (yX12_anHour, cX12_anHour, 5, none, 4, 98, 0, 0), (yX12_falls, cX12_falls, 4, none, 0, 0, 0, 0), (yX12_thaws, cX12_thaws, 7, (some .int), 0, 0, 0, 0), (yX12_hours, cX12_hours, 3, (some .int), 5, 122, 0, 0), (yX12_fall, cX12_fall, 2, (some .int), 1, 23, 0, 0), (yX12_thaw, cX12_thaw, 2, (some .int), 1, 26, 0, 0), (yX12_number1, cX12_number1, 2, (some .int), 0, 0, 0, 0), (yX12_goNight, cX12_goNight, 4, (some .int), 5, 122, 0, 0), (yX12_night, cX12_night, 1, (some .int), 6, 145, 0, 0), (yX12_winter, cX12_winter, 2, (some .int), 5, 123, 0, 0), (yX12_read, cX12_read, 3, (some .int), 2, 41, 0, 0), (yX12_score, cX12_score, 3, (some .int), 5, 123, 0, 0), (yX12_ahead, cX12_ahead, 5, (some .int), 5, 123, 0, 0)]
def sx_Ms8 : List sx_Mt := [(yX12_claimed, cX12_claimed, 5, (some .int), 0, 0, 0, 0), (yX12_claim, cX12_claim, 5, (some .int), 2, 41, 0, 0), (yX12_strike, cX12_strike, 2, (some .int), 1, 24, 0, 0), (yX12_known, cX12_known, 2, (some .boolean), 1, 22, 0, 0), (yX12_knownBy, cX12_knownBy, 1, (some .int), 0, 0, 0, 0), (yX12_judged, cX12_judged, 4, (some .int), 1, 24, 0, 0), (yX12_before, cX12_before, 3, (some .int), 1, 24, 0, 0), (yX12_closes, cX12_closes, 4, (some .boolean), 2, 46, 0, 0), (yX12_forgedAt, cX12_forgedAt, 4, (some .int), 3, 69, 0, 0), (yX12_forged, cX12_forged, 1, (some .int), 4, 92, 0, 0), (yX12_forgery, cX12_forgery, 2, (some .int), 4, 92, 0, 0), (yX12_isThere, cX12_isThere, 2, (some .boolean), 1, 21, 0, 0), (yX12_trail, cX12_trail, 4, (some .int), 2, 46, 0, 0), (yX12_trailed, cX12_trailed, 5, (some .int), 2, 46, 0, 0), (yX12_newAt, cX12_newAt, 2, (some .int), 1, 24, 0, 0), (yX12_layQuiet, cX12_layQuiet, 7, none, 2, 46, 0, 0), (yX12_quiet, cX12_quiet, 4, (some .int), 3, 72, 0, 0), (yX12_isOn, cX12_isOn, 3, (some .boolean), 2, 45, 0, 0), (yX12_hushed, cX12_hushed, 7, (some .int), 3, 72, 0, 0), (yX12_powerOf, cX12_powerOf, 3, (some .int), 0, 0, 0, 0), (yX12_coveredBy, cX12_coveredBy, 5, (some .int), 1, 22, 0, 0), (yX12_common, cX12_common, 5, (some .int), 0, 0, 0, 0), (yX12_covered, cX12_covered, 5, (some .int), 2, 46, 0, 0), (yX12_best, cX12_best, 6, (some .int), 2, 46, 0, 0), (yX12_has, cX12_has, 3, (some .int), 2, 46, 0, 0), (yX12_isRest, cX12_isRest, 6, (some .boolean), 3, 68, 0, 0), (yX12_areHours, cX12_areHours, 3, (some .boolean), 1, 22, 0, 0), (yX12_restAt, cX12_restAt, 7, (some .int), 4, 93, 0, 0), (yX12_rests, cX12_rests, 3, (some .int), 5, 119, 0, 0), (yX12_rest, cX12_rest, 4, (some .int), 5, 119, 0, 0), (yX12_seenBy, cX12_seenBy, 6, (some .long), 2, 46, 0, 0), (yX12_sees, cX12_sees, 2, (some .long), 3, 71, 0, 0)]
def sx_Ms9 : List sx_Mt := [(yX12_isGround, cX12_isGround, 4, (some .boolean), 1, 20, 0, 0), (yX12_layUmpires, cX12_layUmpires, 4, none, 3, 71, 0, 0), (yX12_takeUmpires, cX12_takeUmpires, 9, none, 1, 20, 0, 0), (yX12_umpires, cX12_umpires, 3, (some .int), 4, 94, 0, 0), (yX12_umpire, cX12_umpire, 4, (some .int), 4, 94, 0, 0), (yX12_readMany, cX12_readMany, 4, (some .int), 1, 24, 0, 0), (yX12_below, cX12_below, 2, (some .int), 2, 47, 0, 0), (yX12_coverAbove, cX12_coverAbove, 4, (some .int), 0, 0, 0, 0), (yX12_layers, cX12_layers, 3, (some .int), 1, 23, 0, 0), (yX12_layer, cX12_layer, 4, (some .int), 1, 23, 0, 0), (yX12_chance, cX12_chance, 10, (some .int), 6, 145, 0, 0), (yX12_tried, cX12_tried, 5, (some .int), 5, 123, 0, 0), (yX12_keepWalkers, cX12_keepWalkers, 4, none, 0, 0, 0, 0), (yX12_takeWalkers, cX12_takeWalkers, 4, none, 0, 0, 0, 0), (yX12_remember, cX12_remember, 3, none, 1, 23, 0, 0), (yX12_undo, cX12_undo, 3, (some .int), 1, 23, 0, 0), (yX12_keep, cX12_keep, 2, (some .int), 1, 23, 0, 0), (yX12_back, cX12_back, 2, (some .int), 1, 23, 0, 0), (yX12_thereMany, cX12_thereMany, 3, (some .int), 0, 0, 0, 0), (yX12_count, cX12_count, 2, (some .int), 2, 47, 0, 0), (yJ7_fill_53178, cJ7_fill_53178, 4, none, 0, 0, 0, 0)]
def sx_Ms : List sx_Mt := sx_Ms0 ++ (sx_Ms1 ++ (sx_Ms2 ++ (sx_Ms3 ++ (sx_Ms4 ++ (sx_Ms5 ++ (sx_Ms6 ++ (sx_Ms7 ++ (sx_Ms8 ++ (sx_Ms9)))))))))
def sx_M (i : Nat) : sx_Mt := sx_Ms.getD i (yX0_init, cX0_init, 0, none, 0, 0, 0, 0)
def sx_mw0 : List (Nat × Nat × Nat × Nat × Nat) := [(2, 540, 539, 0, 139), (0, 864, 862, 863, 139), (0, 1150, 1148, 1149, 139), (0, 1158, 1156, 1157, 139), (0, 1174, 1172, 1173, 139), (0, 1178, 1177, 37, 139), (0, 1170, 1168, 1169, 139), (0, 1183, 1182, 38, 139), (2, 172, 171, 0, 131), (0, 1262, 1260, 1261, 131), (0, 1258, 1256, 1257, 131), (0, 1285, 1284, 44, 131), (0, 1281, 1279, 1280, 131), (2, 301, 300, 0, 134), (0, 672, 670, 671, 134), (0, 680, 679, 1, 134), (0, 676, 674, 675, 134), (1, 683, 682, 0, 134), (1, 735, 734, 0, 134), (0, 687, 686, 2, 134), (0, 691, 690, 3, 134), (0, 739, 738, 4, 134), (0, 747, 746, 5, 134), (0, 751, 750, 6, 134), (2, 512, 511, 0, 138), (0, 1025, 1023, 1024, 138), (0, 1038, 1036, 1037, 138), (0, 1051, 1049, 1050, 138), (0, 1055, 1053, 1054, 138), (0, 1029, 1028, 35, 138), (0, 1381, 1379, 1380, 138), (2, 405, 404, 0, 137)]
def sx_mw1 : List (Nat × Nat × Nat × Nat × Nat) := [(0, 1342, 1340, 1341, 137), (0, 1021, 1019, 1020, 137), (0, 898, 896, 897, 137), (0, 894, 892, 893, 137), (0, 906, 904, 905, 137), (0, 1398, 1396, 1397, 137), (0, 890, 888, 889, 137), (0, 902, 900, 901, 137), (0, 1072, 1070, 1071, 137), (0, 1351, 1349, 1350, 137), (0, 1372, 1370, 1371, 137), (2, 166, 165, 0, 130), (0, 185, 183, 184, 130), (0, 886, 884, 885, 130), (0, 882, 880, 881, 130), (0, 1137, 1135, 1136, 130), (0, 981, 979, 980, 130), (0, 792, 790, 791, 130), (0, 800, 798, 799, 130), (0, 936, 935, 28, 130), (0, 943, 942, 29, 130), (0, 996, 994, 995, 130), (0, 932, 930, 931, 130), (2, 382, 381, 0, 135), (0, 928, 926, 927, 135), (0, 947, 945, 946, 135), (1, 950, 949, 0, 135), (0, 954, 953, 30, 135), (0, 964, 963, 32, 135), (0, 958, 957, 31, 135), (0, 968, 967, 33, 135), (0, 975, 974, 34, 135)]
def sx_mw2 : List (Nat × Nat × Nat × Nat × Nat) := [(2, 573, 572, 0, 140), (0, 1225, 1223, 1224, 140), (0, 1231, 1230, 41, 140), (0, 1236, 1235, 42, 140), (0, 1240, 1239, 43, 140), (2, 598, 597, 0, 141), (0, 1299, 1297, 1298, 141), (0, 1308, 1306, 1307, 141), (0, 1313, 1311, 1312, 141), (0, 1323, 1322, 46, 141), (0, 1318, 1317, 45, 141), (2, 399, 398, 0, 136), (0, 855, 853, 854, 136), (0, 860, 859, 26, 136), (0, 1335, 1333, 1334, 136), (0, 924, 923, 27, 136), (0, 920, 918, 919, 136), (0, 985, 983, 984, 136), (1, 1009, 1008, 0, 136), (0, 1000, 998, 999, 136), (0, 1004, 1002, 1003, 136), (0, 1063, 1061, 1062, 136), (0, 1067, 1065, 1066, 136), (0, 1081, 1079, 1080, 136), (0, 1090, 1088, 1089, 136), (0, 1104, 1103, 36, 136), (0, 1100, 1098, 1099, 136), (0, 1119, 1117, 1118, 136), (0, 1046, 1044, 1045, 136), (0, 1123, 1121, 1122, 136), (0, 1204, 1202, 1203, 136), (0, 1200, 1199, 40, 136)]
def sx_mw3 : List (Nat × Nat × Nat × Nat × Nat) := [(0, 1196, 1195, 39, 136), (0, 1192, 1190, 1191, 136), (2, 295, 294, 0, 133), (0, 666, 664, 665, 133), (0, 755, 753, 754, 133), (0, 767, 766, 8, 133), (0, 759, 757, 758, 133), (0, 776, 775, 10, 133), (0, 771, 770, 9, 133), (0, 788, 787, 13, 133), (0, 763, 762, 7, 133), (0, 780, 779, 11, 133), (0, 784, 783, 12, 133), (0, 796, 795, 14, 133), (0, 804, 803, 15, 133), (0, 808, 807, 16, 133), (0, 813, 812, 17, 133), (0, 817, 816, 18, 133), (0, 821, 820, 19, 133), (0, 844, 843, 24, 133), (1, 840, 839, 0, 133), (0, 825, 824, 20, 133), (0, 833, 832, 22, 133), (0, 837, 836, 23, 133), (0, 848, 847, 25, 133), (0, 829, 828, 21, 133), (2, 158, 157, 0, 129), (0, 654, 652, 653, 129), (0, 658, 657, 0, 129), (0, 662, 660, 661, 129), (0, 868, 866, 867, 129), (0, 872, 870, 871, 129)]
def sx_mw4 : List (Nat × Nat × Nat × Nat × Nat) := [(0, 1408, 1406, 1407, 129), (0, 878, 876, 877, 129), (0, 910, 908, 909, 129), (0, 915, 913, 914, 129), (0, 989, 987, 988, 129), (0, 1034, 1032, 1033, 129), (0, 1042, 1040, 1041, 129), (0, 1059, 1057, 1058, 129), (0, 1077, 1075, 1076, 129), (0, 1086, 1084, 1085, 129), (0, 1096, 1094, 1095, 129), (0, 1115, 1113, 1114, 129), (0, 1129, 1127, 1128, 129), (0, 1133, 1131, 1132, 129), (0, 1142, 1140, 1141, 129), (0, 1146, 1144, 1145, 129), (0, 1154, 1152, 1153, 129), (0, 1162, 1160, 1161, 129), (0, 1166, 1164, 1165, 129), (0, 1188, 1186, 1187, 129), (0, 1208, 1206, 1207, 129), (0, 1212, 1210, 1211, 129), (0, 1217, 1215, 1216, 129), (0, 1221, 1219, 1220, 129), (0, 1244, 1242, 1243, 129), (0, 1248, 1246, 1247, 129), (1, 1266, 1265, 0, 129), (0, 1270, 1268, 1269, 129), (0, 1274, 1272, 1273, 129), (0, 1290, 1288, 1289, 129), (0, 1294, 1292, 1293, 129), (0, 1304, 1302, 1303, 129)]
def sx_mw5 : List (Nat × Nat × Nat × Nat × Nat) := [(0, 1327, 1325, 1326, 129), (0, 1331, 1329, 1330, 129), (0, 1347, 1345, 1346, 129), (0, 1355, 1353, 1354, 129), (0, 1359, 1357, 1358, 129), (0, 1363, 1361, 1362, 129), (0, 1367, 1366, 47, 129), (0, 1377, 1375, 1376, 129), (0, 1386, 1384, 1385, 129), (0, 1390, 1388, 1389, 129), (0, 1394, 1392, 1393, 129), (1, 992, 991, 0, 129), (1, 1251, 1250, 0, 129), (1, 1254, 1253, 0, 129), (1, 1277, 1276, 0, 129), (2, 1495, 1494, 0, 142), (0, 1800, 1798, 1799, 142), (0, 1804, 1802, 1803, 142), (1, 1852, 1851, 0, 142), (0, 1841, 1840, 60, 142), (0, 1820, 1819, 55, 142), (0, 1816, 1815, 54, 142), (0, 1828, 1827, 57, 142), (0, 1812, 1811, 53, 142), (0, 1833, 1832, 58, 142), (0, 1824, 1823, 56, 142), (0, 1899, 1898, 73, 142), (0, 1887, 1886, 70, 142), (0, 1849, 1848, 62, 142), (0, 1500, 1499, 49, 142), (1, 1507, 1506, 0, 142), (0, 1504, 1503, 50, 142)]
def sx_mw6 : List (Nat × Nat × Nat × Nat × Nat) := [(1, 1871, 1870, 0, 142), (0, 1868, 1867, 66, 142), (0, 1860, 1859, 64, 142), (0, 1845, 1844, 61, 142), (0, 1856, 1855, 63, 142), (0, 1864, 1863, 65, 142), (0, 1875, 1874, 67, 142), (0, 1879, 1878, 68, 142), (0, 1837, 1836, 59, 142), (0, 1808, 1806, 1807, 142), (0, 1930, 1928, 1929, 142), (0, 1934, 1932, 1933, 142), (1, 1922, 1921, 0, 142), (0, 1911, 1910, 76, 142), (0, 1926, 1925, 79, 142), (0, 1919, 1918, 78, 142), (0, 1903, 1902, 74, 142), (0, 1895, 1894, 72, 142), (0, 1907, 1906, 75, 142), (0, 1891, 1890, 71, 142), (0, 1915, 1914, 77, 142), (0, 1883, 1882, 69, 142), (0, 1999, 1998, 91, 142), (1, 2008, 2007, 0, 142), (0, 2005, 2004, 92, 142), (0, 1995, 1994, 90, 142), (0, 1958, 1957, 83, 142), (0, 1954, 1953, 82, 142), (0, 1942, 1941, 80, 142), (0, 2096, 2095, 103, 142), (0, 1970, 1969, 85, 142), (0, 1515, 1514, 52, 142)]
def sx_mw7 : List (Nat × Nat × Nat × Nat × Nat) := [(0, 1511, 1510, 51, 142), (0, 2259, 2258, 123, 142), (0, 2255, 2254, 122, 142), (0, 1983, 1982, 87, 142), (0, 2016, 2015, 93, 142), (0, 1979, 1978, 86, 142), (0, 1987, 1986, 88, 142), (0, 1991, 1990, 89, 142), (0, 2028, 2027, 96, 142), (0, 1962, 1961, 84, 142), (0, 2084, 2083, 102, 142), (0, 1946, 1945, 81, 142), (0, 1938, 1936, 1937, 142), (0, 1950, 1948, 1949, 142), (0, 1966, 1964, 1965, 142), (0, 1974, 1972, 1973, 142), (0, 2012, 2010, 2011, 142), (0, 2032, 2030, 2031, 142), (0, 2036, 2034, 2035, 142), (0, 2044, 2043, 97, 142), (0, 2052, 2051, 98, 142), (0, 2060, 2059, 99, 142), (0, 2040, 2038, 2039, 142), (0, 2048, 2046, 2047, 142), (0, 2056, 2054, 2055, 142), (0, 2072, 2071, 101, 142), (0, 2068, 2067, 100, 142), (0, 2064, 2062, 2063, 142), (0, 2080, 2078, 2079, 142), (0, 2088, 2086, 2087, 142), (0, 2092, 2090, 2091, 142), (0, 2100, 2098, 2099, 142)]
def sx_mw8 : List (Nat × Nat × Nat × Nat × Nat) := [(0, 2108, 2107, 104, 142), (0, 2104, 2102, 2103, 142), (0, 2112, 2110, 2111, 142), (0, 2116, 2114, 2115, 142), (0, 2124, 2123, 105, 142), (0, 2120, 2118, 2119, 142), (0, 2140, 2139, 108, 142), (0, 2136, 2135, 107, 142), (0, 2132, 2131, 106, 142), (0, 2128, 2126, 2127, 142), (0, 2144, 2142, 2143, 142), (0, 2152, 2151, 109, 142), (0, 2148, 2146, 2147, 142), (0, 2156, 2154, 2155, 142), (0, 2168, 2167, 111, 142), (0, 2164, 2163, 110, 142), (0, 2160, 2158, 2159, 142), (0, 2176, 2175, 112, 142), (0, 2172, 2170, 2171, 142), (1, 2187, 2186, 0, 142), (0, 2184, 2183, 113, 142), (1, 2190, 2189, 0, 142), (0, 2180, 2178, 2179, 142), (0, 2194, 2192, 2193, 142), (0, 2214, 2213, 117, 142), (0, 2210, 2209, 116, 142), (0, 2202, 2201, 114, 142), (0, 2206, 2205, 115, 142), (0, 2198, 2196, 2197, 142), (0, 2218, 2216, 2217, 142), (0, 2226, 2225, 118, 142), (0, 2222, 2220, 2221, 142)]
def sx_mw9 : List (Nat × Nat × Nat × Nat × Nat) := [(0, 2235, 2234, 119, 142), (0, 2239, 2238, 120, 142), (0, 2243, 2242, 121, 142), (0, 2231, 2229, 2230, 142), (0, 2247, 2245, 2246, 142), (0, 2263, 2262, 124, 142), (0, 2251, 2249, 2250, 142), (0, 2271, 2270, 125, 142), (0, 2267, 2265, 2266, 142), (0, 2275, 2273, 2274, 142), (0, 2279, 2277, 2278, 142), (0, 2283, 2281, 2282, 142), (0, 2024, 2023, 95, 142), (0, 2291, 2290, 126, 142), (0, 2020, 2019, 94, 142), (0, 2287, 2285, 2286, 142), (0, 2295, 2293, 2294, 142), (0, 2299, 2297, 2298, 142), (0, 2307, 2306, 127, 142), (0, 2303, 2301, 2302, 142), (1, 188, 187, 0, 132)]
def sx_mw : List (Nat × Nat × Nat × Nat × Nat) := sx_mw0 ++ (sx_mw1 ++ (sx_mw2 ++ (sx_mw3 ++ (sx_mw4 ++ (sx_mw5 ++ (sx_mw6 ++ (sx_mw7 ++ (sx_mw8 ++ (sx_mw9)))))))))
/-- the words of a method, at their places: kind 0 an instance method, 1 static, 2 a constructor -/
def sx_mok (m : sx_Mt) (w : Nat × Nat × Nat × Nat × Nat) : Bool := (match w.1 with
  | 1 => decide (lw_tbl[w.2.2.1]? = some (.static m.1))
  | 2 => decide (lw_tbl[w.2.2.1]? = some (.instanceMethod m.1)) && decide (m.1.name = "<init>")
  | _ => decide (lw_tbl[w.2.2.1]? = some (.instanceMethod m.1)) && decide (lw_tbl[w.2.2.2.1]? = some (.selects m.1.cls m.1 m.1))) && decide (lw_tbl[w.2.2.2.2]? = some (.initialized m.1.cls)) && plainName m.1.cls && decide (m.1.cls ≠ "java/lang/invoke/MethodHandle" ∧ m.1.cls ≠ "java/lang/invoke/VarHandle")
theorem lw_in1 {w : Cond} (h : w ∈ tables_1_1) : w ∈ lw_tbl := List.mem_append_right _ (show w ∈ tables_1 from List.mem_append_left _ h)
theorem lw_in2 {w : Cond} (h : w ∈ tables_1_2) : w ∈ lw_tbl := List.mem_append_right _ (show w ∈ tables_1 from List.mem_append_right _ (List.mem_append_left _ h))
theorem lw_in3 {w : Cond} (h : w ∈ tables_1_3) : w ∈ lw_tbl := List.mem_append_right _ (show w ∈ tables_1 from List.mem_append_right _ (List.mem_append_right _ (List.mem_append_left _ h)))
theorem lw_in4 {w : Cond} (h : w ∈ tables_1_4) : w ∈ lw_tbl := List.mem_append_right _ (show w ∈ tables_1 from List.mem_append_right _ (List.mem_append_right _ (List.mem_append_right _ (List.mem_append_left _ h))))
theorem lw_in5 {w : Cond} (h : w ∈ tables_1_5) : w ∈ lw_tbl := List.mem_append_right _ (show w ∈ tables_1 from List.mem_append_right _ (List.mem_append_right _ (List.mem_append_right _ (List.mem_append_right _ (List.mem_append_left _ h)))))
theorem lw_in6 {w : Cond} (h : w ∈ tables_1_6) : w ∈ lw_tbl := List.mem_append_right _ (show w ∈ tables_1 from List.mem_append_right _ (List.mem_append_right _ (List.mem_append_right _ (List.mem_append_right _ (List.mem_append_right _ (List.mem_append_left _ h))))))
theorem lw_in7 {w : Cond} (h : w ∈ tables_1_7) : w ∈ lw_tbl := List.mem_append_right _ (show w ∈ tables_1 from List.mem_append_right _ (List.mem_append_right _ (List.mem_append_right _ (List.mem_append_right _ (List.mem_append_right _ (List.mem_append_right _ (List.mem_append_left _ h)))))))
theorem lw_in8 {w : Cond} (h : w ∈ tables_1_8) : w ∈ lw_tbl := List.mem_append_right _ (show w ∈ tables_1 from List.mem_append_right _ (List.mem_append_right _ (List.mem_append_right _ (List.mem_append_right _ (List.mem_append_right _ (List.mem_append_right _ (List.mem_append_right _ (List.mem_append_left _ h))))))))
theorem lw_in9 {w : Cond} (h : w ∈ tables_1_9) : w ∈ lw_tbl := List.mem_append_right _ (show w ∈ tables_1 from List.mem_append_right _ (List.mem_append_right _ (List.mem_append_right _ (List.mem_append_right _ (List.mem_append_right _ (List.mem_append_right _ (List.mem_append_right _ (List.mem_append_right _ (List.mem_append_left _ h)))))))))
theorem lw_in10 {w : Cond} (h : w ∈ tables_1_10) : w ∈ lw_tbl := List.mem_append_right _ (show w ∈ tables_1 from List.mem_append_right _ (List.mem_append_right _ (List.mem_append_right _ (List.mem_append_right _ (List.mem_append_right _ (List.mem_append_right _ (List.mem_append_right _ (List.mem_append_right _ (List.mem_append_right _ (h))))))))))
theorem lw_in0 {w : Cond} (h : w ∈ k2_sels lw_privs) : w ∈ lw_tbl := List.mem_append_left _ h
set_option maxRecDepth 20000 in
theorem sx_mc0 : Cond.code yX0_init cX0_init 1 none ∈ lw_tbl := lw_in2 (List.mem_of_getElem? (i := 172) rfl)
set_option maxRecDepth 20000 in
theorem sx_mc1 : Cond.code yX0_clear cX0_clear 1 none ∈ lw_tbl := lw_in4 (List.mem_of_getElem? (i := 16) rfl)
set_option maxRecDepth 20000 in
theorem sx_mc2 : Cond.code yX0_addClaim cX0_addClaim 5 (some .int) ∈ lw_tbl := lw_in5 (List.mem_of_getElem? (i := 62) rfl)
set_option maxRecDepth 20000 in
theorem sx_mc3 : Cond.code yX0_addStrike cX0_addStrike 2 (some .int) ∈ lw_tbl := lw_in5 (List.mem_of_getElem? (i := 70) rfl)
set_option maxRecDepth 20000 in
theorem sx_mc4 : Cond.code yX0_knownSize cX0_knownSize 1 (some .int) ∈ lw_tbl := lw_in5 (List.mem_of_getElem? (i := 86) rfl)
set_option maxRecDepth 20000 in
theorem sx_mc5 : Cond.code yX0_findStruck cX0_findStruck 4 none ∈ lw_tbl := lw_in5 (List.mem_of_getElem? (i := 90) rfl)
set_option maxRecDepth 20000 in
theorem sx_mc6 : Cond.code yX0_firstWrong cX0_firstWrong 4 (some .int) ∈ lw_tbl := lw_in5 (List.mem_of_getElem? (i := 82) rfl)
set_option maxRecDepth 20000 in
theorem sx_mc7 : Cond.code yX0_holds cX0_holds 5 (some .boolean) ∈ lw_tbl := lw_in5 (List.mem_of_getElem? (i := 95) rfl)
set_option maxRecDepth 20000 in
theorem sx_mc8 : Cond.code yX1_init cX1_init 1 none ∈ lw_tbl := lw_in1 (List.mem_of_getElem? (i := 44) rfl)
set_option maxRecDepth 20000 in
theorem sx_mc9 : Cond.code yX1_whole cX1_whole 4 (some .int) ∈ lw_tbl := lw_in5 (List.mem_of_getElem? (i := 174) rfl)
set_option maxRecDepth 20000 in
theorem sx_mc10 : Cond.code yX1_odds cX1_odds 5 (some .int) ∈ lw_tbl := lw_in5 (List.mem_of_getElem? (i := 170) rfl)
set_option maxRecDepth 20000 in
theorem sx_mc11 : Cond.code yX1_gain cX1_gain 4 (some .int) ∈ lw_tbl := lw_in5 (List.mem_of_getElem? (i := 197) rfl)
set_option maxRecDepth 20000 in
theorem sx_mc12 : Cond.code yX1_isRest cX1_isRest 8 (some .boolean) ∈ lw_tbl := lw_in5 (List.mem_of_getElem? (i := 193) rfl)
set_option maxRecDepth 20000 in
theorem sx_mc13 : Cond.code yX2_init cX2_init 2 none ∈ lw_tbl := lw_in1 (List.mem_of_getElem? (i := 173) rfl)
set_option maxRecDepth 20000 in
theorem sx_mc14 : Cond.code yX2_begin cX2_begin 3 none ∈ lw_tbl := lw_in3 (List.mem_of_getElem? (i := 64) rfl)
set_option maxRecDepth 20000 in
theorem sx_mc15 : Cond.code yX2_byteAt cX2_byteAt 2 (some .int) ∈ lw_tbl := lw_in3 (List.mem_of_getElem? (i := 72) rfl)
set_option maxRecDepth 20000 in
theorem sx_mc16 : Cond.code yX2_advance cX2_advance 2 none ∈ lw_tbl := lw_in3 (List.mem_of_getElem? (i := 68) rfl)
set_option maxRecDepth 20000 in
theorem sx_mc17 : Cond.code yX2_isLetter cX2_isLetter 1 (some .boolean) ∈ lw_tbl := lw_in3 (List.mem_of_getElem? (i := 75) rfl)
set_option maxRecDepth 20000 in
theorem sx_mc18 : Cond.code yX2_isDigit cX2_isDigit 1 (some .boolean) ∈ lw_tbl := lw_in3 (List.mem_of_getElem? (i := 127) rfl)
set_option maxRecDepth 20000 in
theorem sx_mc19 : Cond.code yX2_takeWord cX2_takeWord 2 none ∈ lw_tbl := lw_in3 (List.mem_of_getElem? (i := 79) rfl)
set_option maxRecDepth 20000 in
theorem sx_mc20 : Cond.code yX2_wordType cX2_wordType 5 (some .int) ∈ lw_tbl := lw_in3 (List.mem_of_getElem? (i := 83) rfl)
set_option maxRecDepth 20000 in
theorem sx_mc21 : Cond.code yX2_takeNumber cX2_takeNumber 1 none ∈ lw_tbl := lw_in3 (List.mem_of_getElem? (i := 131) rfl)
set_option maxRecDepth 20000 in
theorem sx_mc22 : Cond.code yX2_signType cX2_signType 2 (some .int) ∈ lw_tbl := lw_in3 (List.mem_of_getElem? (i := 139) rfl)
set_option maxRecDepth 20000 in
theorem sx_mc23 : Cond.code yX2_takeNext cX2_takeNext 2 (some .boolean) ∈ lw_tbl := lw_in3 (List.mem_of_getElem? (i := 143) rfl)
set_option maxRecDepth 20000 in
theorem sx_mc24 : Cond.code yX3_init cX3_init 1 none ∈ lw_tbl := lw_in2 (List.mem_of_getElem? (i := 144) rfl)
set_option maxRecDepth 20000 in
theorem sx_mc25 : Cond.code yX3_noteStep cX3_noteStep 4 none ∈ lw_tbl := lw_in4 (List.mem_of_getElem? (i := 177) rfl)
set_option maxRecDepth 20000 in
theorem sx_mc26 : Cond.code yX3_noteBoots cX3_noteBoots 3 none ∈ lw_tbl := lw_in4 (List.mem_of_getElem? (i := 190) rfl)
set_option maxRecDepth 20000 in
theorem sx_mc27 : Cond.code yX3_foxRow cX3_foxRow 1 (some (.array .int)) ∈ lw_tbl := lw_in4 (List.mem_of_getElem? (i := 203) rfl)
set_option maxRecDepth 20000 in
theorem sx_mc28 : Cond.code yX3_noteFox cX3_noteFox 2 none ∈ lw_tbl := lw_in4 (List.mem_of_getElem? (i := 207) rfl)
set_option maxRecDepth 20000 in
theorem sx_mc29 : Cond.code yX3_note cX3_note 4 none ∈ lw_tbl := lw_in4 (List.mem_of_getElem? (i := 181) rfl)
set_option maxRecDepth 20000 in
theorem sx_mc30 : Cond.code yX3_takeBack cX3_takeBack 5 none ∈ lw_tbl := lw_in6 (List.mem_of_getElem? (i := 53) rfl)
set_option maxRecDepth 20000 in
theorem sx_mc31 : Cond.code yX4_init cX4_init 1 none ∈ lw_tbl := lw_in2 (List.mem_of_getElem? (i := 37) rfl)
set_option maxRecDepth 20000 in
theorem sx_mc32 : Cond.code yX4_takeFrom cX4_takeFrom 2 none ∈ lw_tbl := lw_in6 (List.mem_of_getElem? (i := 14) rfl)
set_option maxRecDepth 20000 in
theorem sx_mc33 : Cond.code yX4_add cX4_add 7 none ∈ lw_tbl := lw_in4 (List.mem_of_getElem? (i := 173) rfl)
set_option maxRecDepth 20000 in
theorem sx_mc34 : Cond.code yX4_has cX4_has 2 (some .boolean) ∈ lw_tbl := lw_in4 (List.mem_of_getElem? (i := 50) rfl)
set_option maxRecDepth 20000 in
theorem sx_mc35 : Cond.code yX4_lasts cX4_lasts 2 (some .boolean) ∈ lw_tbl := lw_in4 (List.mem_of_getElem? (i := 46) rfl)
set_option maxRecDepth 20000 in
theorem sx_mc36 : Cond.code yX4_isOpen cX4_isOpen 2 (some .boolean) ∈ lw_tbl := lw_in4 (List.mem_of_getElem? (i := 58) rfl)
set_option maxRecDepth 20000 in
theorem sx_mc37 : Cond.code yX4_lasting cX4_lasting 3 (some .int) ∈ lw_tbl := lw_in6 (List.mem_of_getElem? (i := 70) rfl)
set_option maxRecDepth 20000 in
theorem sx_mc38 : Cond.code yX4_lastingIn cX4_lastingIn 4 (some .int) ∈ lw_tbl := lw_in4 (List.mem_of_getElem? (i := 42) rfl)
set_option maxRecDepth 20000 in
theorem sx_mc39 : Cond.code yX4_readIn cX4_readIn 3 (some .int) ∈ lw_tbl := lw_in4 (List.mem_of_getElem? (i := 54) rfl)
set_option maxRecDepth 20000 in
theorem sx_mc40 : Cond.code yX4_lessen cX4_lessen 3 none ∈ lw_tbl := lw_in4 (List.mem_of_getElem? (i := 224) rfl)
set_option maxRecDepth 20000 in
theorem sx_mc41 : Cond.code yX4_coverAbove cX4_coverAbove 4 (some .int) ∈ lw_tbl := lw_in6 (List.mem_of_getElem? (i := 23) rfl)
set_option maxRecDepth 20000 in
theorem sx_mc42 : Cond.code yX4_dropLooking cX4_dropLooking 3 none ∈ lw_tbl := lw_in6 (List.mem_of_getElem? (i := 44) rfl)
set_option maxRecDepth 20000 in
theorem sx_mc43 : Cond.code yX5_init cX5_init 1 none ∈ lw_tbl := lw_in1 (List.mem_of_getElem? (i := 38) rfl)
set_option maxRecDepth 20000 in
theorem sx_mc44 : Cond.code yX5_clear cX5_clear 1 none ∈ lw_tbl := lw_in1 (List.mem_of_getElem? (i := 57) rfl)
set_option maxRecDepth 20000 in
theorem sx_mc45 : Cond.code yX5_cellCount cX5_cellCount 1 (some .int) ∈ lw_tbl := lw_in4 (List.mem_of_getElem? (i := 38) rfl)
set_option maxRecDepth 20000 in
theorem sx_mc46 : Cond.code yX5_hasCell cX5_hasCell 2 (some .boolean) ∈ lw_tbl := lw_in4 (List.mem_of_getElem? (i := 34) rfl)
set_option maxRecDepth 20000 in
theorem sx_mc47 : Cond.code yX5_hasFarm cX5_hasFarm 2 (some .boolean) ∈ lw_tbl := lw_in5 (List.mem_of_getElem? (i := 49) rfl)
set_option maxRecDepth 20000 in
theorem sx_mc48 : Cond.code yX5_hasWalker cX5_hasWalker 2 (some .boolean) ∈ lw_tbl := lw_in4 (List.mem_of_getElem? (i := 133) rfl)
set_option maxRecDepth 20000 in
theorem sx_mc49 : Cond.code yX5_farmBy cX5_farmBy 3 (some .int) ∈ lw_tbl := lw_in3 (List.mem_of_getElem? (i := 184) rfl)
set_option maxRecDepth 20000 in
theorem sx_mc50 : Cond.code yX5_walkerBy cX5_walkerBy 3 (some .int) ∈ lw_tbl := lw_in3 (List.mem_of_getElem? (i := 192) rfl)
set_option maxRecDepth 20000 in
theorem sx_mc51 : Cond.code yX5_column cX5_column 2 (some .int) ∈ lw_tbl := lw_in4 (List.mem_of_getElem? (i := 88) rfl)
set_option maxRecDepth 20000 in
theorem sx_mc52 : Cond.code yX5_row cX5_row 2 (some .int) ∈ lw_tbl := lw_in4 (List.mem_of_getElem? (i := 95) rfl)
set_option maxRecDepth 20000 in
theorem sx_mc53 : Cond.code yX5_beside cX5_beside 6 (some .int) ∈ lw_tbl := lw_in4 (List.mem_of_getElem? (i := 148) rfl)
set_option maxRecDepth 20000 in
theorem sx_mc54 : Cond.code yX5_apart cX5_apart 3 (some .int) ∈ lw_tbl := lw_in4 (List.mem_of_getElem? (i := 84) rfl)
set_option maxRecDepth 20000 in
theorem sx_mc55 : Cond.code yX6_init cX6_init 1 none ∈ lw_tbl := lw_in2 (List.mem_of_getElem? (i := 14) rfl)
set_option maxRecDepth 20000 in
theorem sx_mc56 : Cond.code yX6_setName cX6_setName 4 none ∈ lw_tbl := lw_in4 (List.mem_of_getElem? (i := 80) rfl)
set_option maxRecDepth 20000 in
theorem sx_mc57 : Cond.code yX6_work cX6_work 6 (some .long) ∈ lw_tbl := lw_in4 (List.mem_of_getElem? (i := 99) rfl)
set_option maxRecDepth 20000 in
theorem sx_mc58 : Cond.code yX6_truth cX6_truth 1 (some .long) ∈ lw_tbl := lw_in4 (List.mem_of_getElem? (i := 102) rfl)
set_option maxRecDepth 20000 in
theorem sx_mc59 : Cond.code yX6_joined cX6_joined 6 (some .long) ∈ lw_tbl := lw_in4 (List.mem_of_getElem? (i := 106) rfl)
set_option maxRecDepth 20000 in
theorem sx_mc60 : Cond.code yX6_failure cX6_failure 1 (some .long) ∈ lw_tbl := lw_in4 (List.mem_of_getElem? (i := 116) rfl)
set_option maxRecDepth 20000 in
theorem sx_mc61 : Cond.code yX6_checked cX6_checked 3 (some .long) ∈ lw_tbl := lw_in4 (List.mem_of_getElem? (i := 110) rfl)
set_option maxRecDepth 20000 in
theorem sx_mc62 : Cond.code yX6_product cX6_product 5 (some .long) ∈ lw_tbl := lw_in4 (List.mem_of_getElem? (i := 120) rfl)
set_option maxRecDepth 20000 in
theorem sx_mc63 : Cond.code yX6_quotient cX6_quotient 5 (some .long) ∈ lw_tbl := lw_in4 (List.mem_of_getElem? (i := 127) rfl)
set_option maxRecDepth 20000 in
theorem sx_mc64 : Cond.code yX7_init cX7_init 1 none ∈ lw_tbl := lw_in2 (List.mem_of_getElem? (i := 205) rfl)
set_option maxRecDepth 20000 in
theorem sx_mc65 : Cond.code yX7_find cX7_find 9 none ∈ lw_tbl := lw_in5 (List.mem_of_getElem? (i := 137) rfl)
set_option maxRecDepth 20000 in
theorem sx_mc66 : Cond.code yX7_lower cX7_lower 6 (some .boolean) ∈ lw_tbl := lw_in5 (List.mem_of_getElem? (i := 143) rfl)
set_option maxRecDepth 20000 in
theorem sx_mc67 : Cond.code yX7_follow cX7_follow 6 none ∈ lw_tbl := lw_in5 (List.mem_of_getElem? (i := 148) rfl)
set_option maxRecDepth 20000 in
theorem sx_mc68 : Cond.code yX7_nextCell cX7_nextCell 5 (some .int) ∈ lw_tbl := lw_in5 (List.mem_of_getElem? (i := 152) rfl)
set_option maxRecDepth 20000 in
theorem sx_mc69 : Cond.code yX8_init cX8_init 1 none ∈ lw_tbl := lw_in2 (List.mem_of_getElem? (i := 230) rfl)
set_option maxRecDepth 20000 in
theorem sx_mc70 : Cond.code yX8_from cX8_from 8 (some .long) ∈ lw_tbl := lw_in5 (List.mem_of_getElem? (i := 211) rfl)
set_option maxRecDepth 20000 in
theorem sx_mc71 : Cond.code yX8_isGround cX8_isGround 5 (some .boolean) ∈ lw_tbl := lw_in5 (List.mem_of_getElem? (i := 220) rfl)
set_option maxRecDepth 20000 in
theorem sx_mc72 : Cond.code yX8_fewest cX8_fewest 6 (some .int) ∈ lw_tbl := lw_in5 (List.mem_of_getElem? (i := 225) rfl)
set_option maxRecDepth 20000 in
theorem sx_mc73 : Cond.code yX8_chooseTwo cX8_chooseTwo 7 (some .boolean) ∈ lw_tbl := lw_in5 (List.mem_of_getElem? (i := 235) rfl)
set_option maxRecDepth 20000 in
theorem sx_mc74 : Cond.code yX8_chooseOne cX8_chooseOne 7 (some .boolean) ∈ lw_tbl := lw_in5 (List.mem_of_getElem? (i := 230) rfl)
set_option maxRecDepth 20000 in
theorem sx_mc75 : Cond.code yX9_init cX9_init 3 none ∈ lw_tbl := lw_in2 (List.mem_of_getElem? (i := 31) rfl)
set_option maxRecDepth 20000 in
theorem sx_mc76 : Cond.code yX9_begin cX9_begin 2 none ∈ lw_tbl := lw_in4 (List.mem_of_getElem? (i := 7) rfl)
set_option maxRecDepth 20000 in
theorem sx_mc77 : Cond.code yX9_clearField cX9_clearField 2 none ∈ lw_tbl := lw_in4 (List.mem_of_getElem? (i := 12) rfl)
set_option maxRecDepth 20000 in
theorem sx_mc78 : Cond.code yX9_takeFrom cX9_takeFrom 2 none ∈ lw_tbl := lw_in6 (List.mem_of_getElem? (i := 7) rfl)
set_option maxRecDepth 20000 in
theorem sx_mc79 : Cond.code yX9_setNames cX9_setNames 5 none ∈ lw_tbl := lw_in4 (List.mem_of_getElem? (i := 76) rfl)
set_option maxRecDepth 20000 in
theorem sx_mc80 : Cond.code yX9_lawOfMark cX9_lawOfMark 3 (some .long) ∈ lw_tbl := lw_in4 (List.mem_of_getElem? (i := 72) rfl)
set_option maxRecDepth 20000 in
theorem sx_mc81 : Cond.code yX9_deepLaw cX9_deepLaw 3 (some .long) ∈ lw_tbl := lw_in4 (List.mem_of_getElem? (i := 137) rfl)
set_option maxRecDepth 20000 in
theorem sx_mc82 : Cond.code yX9_bounded cX9_bounded 4 (some .int) ∈ lw_tbl := lw_in4 (List.mem_of_getElem? (i := 161) rfl)
set_option maxRecDepth 20000 in
theorem sx_mc83 : Cond.code yX9_wouldMark cX9_wouldMark 4 (some .boolean) ∈ lw_tbl := lw_in4 (List.mem_of_getElem? (i := 152) rfl)
set_option maxRecDepth 20000 in
theorem sx_mc84 : Cond.code yX9_walk cX9_walk 6 (some .boolean) ∈ lw_tbl := lw_in4 (List.mem_of_getElem? (i := 156) rfl)
set_option maxRecDepth 20000 in
theorem sx_mc85 : Cond.code yX9_hasHoursLeft cX9_hasHoursLeft 2 (some .boolean) ∈ lw_tbl := lw_in4 (List.mem_of_getElem? (i := 215) rfl)
set_option maxRecDepth 20000 in
theorem sx_mc86 : Cond.code yX9_passHour cX9_passHour 2 none ∈ lw_tbl := lw_in4 (List.mem_of_getElem? (i := 219) rfl)
set_option maxRecDepth 20000 in
theorem sx_mc87 : Cond.code yX9_coverBy cX9_coverBy 3 none ∈ lw_tbl := lw_in4 (List.mem_of_getElem? (i := 233) rfl)
set_option maxRecDepth 20000 in
theorem sx_mc88 : Cond.code yX9_meltBy cX9_meltBy 5 (some .int) ∈ lw_tbl := lw_in5 (List.mem_of_getElem? (i := 2) rfl)
set_option maxRecDepth 20000 in
theorem sx_mc89 : Cond.code yX9_drawNumber cX9_drawNumber 1 (some .int) ∈ lw_tbl := lw_in5 (List.mem_of_getElem? (i := 16) rfl)
set_option maxRecDepth 20000 in
theorem sx_mc90 : Cond.code yX9_passNight cX9_passNight 4 (some .int) ∈ lw_tbl := lw_in5 (List.mem_of_getElem? (i := 12) rfl)
set_option maxRecDepth 20000 in
theorem sx_mc91 : Cond.code yX9_endWinter cX9_endWinter 2 none ∈ lw_tbl := lw_in5 (List.mem_of_getElem? (i := 31) rfl)
set_option maxRecDepth 20000 in
theorem sx_mc92 : Cond.code yX9_readAll cX9_readAll 3 (some .int) ∈ lw_tbl := lw_in4 (List.mem_of_getElem? (i := 198) rfl)
set_option maxRecDepth 20000 in
theorem sx_mc93 : Cond.code yX9_scoreOf cX9_scoreOf 5 (some .int) ∈ lw_tbl := lw_in5 (List.mem_of_getElem? (i := 35) rfl)
set_option maxRecDepth 20000 in
theorem sx_mc94 : Cond.code yX9_markBefore cX9_markBefore 4 (some .int) ∈ lw_tbl := lw_in5 (List.mem_of_getElem? (i := 116) rfl)
set_option maxRecDepth 20000 in
theorem sx_mc95 : Cond.code yX9_isNear cX9_isNear 3 (some .boolean) ∈ lw_tbl := lw_in5 (List.mem_of_getElem? (i := 112) rfl)
set_option maxRecDepth 20000 in
theorem sx_mc96 : Cond.code yX9_closes cX9_closes 3 (some .boolean) ∈ lw_tbl := lw_in5 (List.mem_of_getElem? (i := 108) rfl)
set_option maxRecDepth 20000 in
theorem sx_mc97 : Cond.code yX9_isForged cX9_isForged 2 (some .boolean) ∈ lw_tbl := lw_in5 (List.mem_of_getElem? (i := 104) rfl)
set_option maxRecDepth 20000 in
theorem sx_mc98 : Cond.code yX10_init cX10_init 2 none ∈ lw_tbl := lw_in1 (List.mem_of_getElem? (i := 167) rfl)
set_option maxRecDepth 20000 in
theorem sx_mc99 : Cond.code yX10_begin cX10_begin 4 none ∈ lw_tbl := lw_in3 (List.mem_of_getElem? (i := 58) rfl)
set_option maxRecDepth 20000 in
theorem sx_mc100 : Cond.code yX10_hasMore cX10_hasMore 1 (some .boolean) ∈ lw_tbl := lw_in3 (List.mem_of_getElem? (i := 147) rfl)
set_option maxRecDepth 20000 in
theorem sx_mc101 : Cond.code yX10_fail cX10_fail 2 none ∈ lw_tbl := lw_in3 (List.mem_of_getElem? (i := 159) rfl)
set_option maxRecDepth 20000 in
theorem sx_mc102 : Cond.code yX10_tellLine cX10_tellLine 1 none ∈ lw_tbl := lw_in3 (List.mem_of_getElem? (i := 151) rfl)
set_option maxRecDepth 20000 in
theorem sx_mc103 : Cond.code yX10_numberHere cX10_numberHere 3 (some .int) ∈ lw_tbl := lw_in3 (List.mem_of_getElem? (i := 168) rfl)
set_option maxRecDepth 20000 in
theorem sx_mc104 : Cond.code yX10_nextNumber cX10_nextNumber 3 (some .int) ∈ lw_tbl := lw_in3 (List.mem_of_getElem? (i := 163) rfl)
set_option maxRecDepth 20000 in
theorem sx_mc105 : Cond.code yX10_nextName cX10_nextName 1 (some .int) ∈ lw_tbl := lw_in3 (List.mem_of_getElem? (i := 180) rfl)
set_option maxRecDepth 20000 in
theorem sx_mc106 : Cond.code yX10_tellField cX10_tellField 1 none ∈ lw_tbl := lw_in3 (List.mem_of_getElem? (i := 155) rfl)
set_option maxRecDepth 20000 in
theorem sx_mc107 : Cond.code yX10_tellKind cX10_tellKind 5 none ∈ lw_tbl := lw_in3 (List.mem_of_getElem? (i := 172) rfl)
set_option maxRecDepth 20000 in
theorem sx_mc108 : Cond.code yX10_tellFarm cX10_tellFarm 8 none ∈ lw_tbl := lw_in3 (List.mem_of_getElem? (i := 176) rfl)
set_option maxRecDepth 20000 in
theorem sx_mc109 : Cond.code yX10_tellWalker cX10_tellWalker 6 none ∈ lw_tbl := lw_in3 (List.mem_of_getElem? (i := 188) rfl)
set_option maxRecDepth 20000 in
theorem sx_mc110 : Cond.code yX10_tellCast cX10_tellCast 2 none ∈ lw_tbl := lw_in3 (List.mem_of_getElem? (i := 196) rfl)
set_option maxRecDepth 20000 in
theorem sx_mc111 : Cond.code yX10_tellSeed cX10_tellSeed 1 none ∈ lw_tbl := lw_in3 (List.mem_of_getElem? (i := 200) rfl)
set_option maxRecDepth 20000 in
theorem sx_mc112 : Cond.code yX10_tellLaw cX10_tellLaw 2 none ∈ lw_tbl := lw_in3 (List.mem_of_getElem? (i := 205) rfl)
set_option maxRecDepth 20000 in
theorem sx_mc113 : Cond.code yX10_tellExpression cX10_tellExpression 2 none ∈ lw_tbl := lw_in3 (List.mem_of_getElem? (i := 209) rfl)
set_option maxRecDepth 20000 in
theorem sx_mc114 : Cond.code yX10_takeOperand cX10_takeOperand 3 none ∈ lw_tbl := lw_in3 (List.mem_of_getElem? (i := 213) rfl)
set_option maxRecDepth 20000 in
theorem sx_mc115 : Cond.code yX10_takeOperator cX10_takeOperator 3 none ∈ lw_tbl := lw_in3 (List.mem_of_getElem? (i := 236) rfl)
set_option maxRecDepth 20000 in
theorem sx_mc116 : Cond.code yX10_rank cX10_rank 1 (some .int) ∈ lw_tbl := lw_in3 (List.mem_of_getElem? (i := 232) rfl)
set_option maxRecDepth 20000 in
theorem sx_mc117 : Cond.code yX10_addKnot cX10_addKnot 1 none ∈ lw_tbl := lw_in3 (List.mem_of_getElem? (i := 217) rfl)
set_option maxRecDepth 20000 in
theorem sx_mc118 : Cond.code yX10_hold cX10_hold 2 none ∈ lw_tbl := lw_in3 (List.mem_of_getElem? (i := 225) rfl)
set_option maxRecDepth 20000 in
theorem sx_mc119 : Cond.code yX10_heldRank cX10_heldRank 1 (some .int) ∈ lw_tbl := lw_in3 (List.mem_of_getElem? (i := 229) rfl)
set_option maxRecDepth 20000 in
theorem sx_mc120 : Cond.code yX10_release cX10_release 3 none ∈ lw_tbl := lw_in4 (List.mem_of_getElem? (i := 0) rfl)
set_option maxRecDepth 20000 in
theorem sx_mc121 : Cond.code yX10_write cX10_write 3 none ∈ lw_tbl := lw_in3 (List.mem_of_getElem? (i := 221) rfl)
set_option maxRecDepth 20000 in
theorem sx_mc122 : Cond.code yX11_init cX11_init 1 none ∈ lw_tbl := lw_in1 (List.mem_of_getElem? (i := 30) rfl)
set_option maxRecDepth 20000 in
theorem sx_mc123 : Cond.code yX11_feed cX11_feed 6 (some .int) ∈ lw_tbl := lw_in3 (List.mem_of_getElem? (i := 46) rfl)
set_option maxRecDepth 20000 in
theorem sx_mc124 : Cond.code yX11_putBytes cX11_putBytes 3 none ∈ lw_tbl := lw_in3 (List.mem_of_getElem? (i := 50) rfl)
set_option maxRecDepth 20000 in
theorem sx_mc125 : Cond.code yX11_text cX11_text 3 (some .int) ∈ lw_tbl := lw_in3 (List.mem_of_getElem? (i := 54) rfl)
set_option maxRecDepth 20000 in
theorem sx_mc126 : Cond.code yX11_fault cX11_fault 2 (some .int) ∈ lw_tbl := lw_in4 (List.mem_of_getElem? (i := 20) rfl)
set_option maxRecDepth 20000 in
theorem sx_mc127 : Cond.code yX11_named cX11_named 3 (some .int) ∈ lw_tbl := lw_in4 (List.mem_of_getElem? (i := 24) rfl)
set_option maxRecDepth 20000 in
theorem sx_mc128 : Cond.code yX11_look cX11_look 3 (some .int) ∈ lw_tbl := lw_in6 (List.mem_of_getElem? (i := 80) rfl)
set_option maxRecDepth 20000 in
theorem sx_mc129 : Cond.code yX11_cell cX11_cell 3 (some .int) ∈ lw_tbl := lw_in4 (List.mem_of_getElem? (i := 30) rfl)
set_option maxRecDepth 20000 in
theorem sx_mc130 : Cond.code yX11_mark cX11_mark 4 (some .int) ∈ lw_tbl := lw_in4 (List.mem_of_getElem? (i := 62) rfl)
set_option maxRecDepth 20000 in
theorem sx_mc131 : Cond.code yX11_law cX11_law 3 (some .long) ∈ lw_tbl := lw_in4 (List.mem_of_getElem? (i := 67) rfl)
set_option maxRecDepth 20000 in
theorem sx_mc132 : Cond.code yX11_step cX11_step 6 (some .int) ∈ lw_tbl := lw_in4 (List.mem_of_getElem? (i := 141) rfl)
set_option maxRecDepth 20000 in
theorem sx_mc133 : Cond.code yX11_boots cX11_boots 3 (some .boolean) ∈ lw_tbl := lw_in4 (List.mem_of_getElem? (i := 186) rfl)
set_option maxRecDepth 20000 in
theorem sx_mc134 : Cond.code yX11_fox cX11_fox 9 (some .int) ∈ lw_tbl := lw_in4 (List.mem_of_getElem? (i := 194) rfl)
set_option maxRecDepth 20000 in
theorem sx_mc135 : Cond.code yX11_hours cX11_hours 3 (some .int) ∈ lw_tbl := lw_in4 (List.mem_of_getElem? (i := 211) rfl)
set_option maxRecDepth 20000 in
theorem sx_mc136 : Cond.code yX11_fall cX11_fall 2 (some .int) ∈ lw_tbl := lw_in4 (List.mem_of_getElem? (i := 229) rfl)
set_option maxRecDepth 20000 in
theorem sx_mc137 : Cond.code yX11_thaw cX11_thaw 2 (some .int) ∈ lw_tbl := lw_in4 (List.mem_of_getElem? (i := 238) rfl)
set_option maxRecDepth 20000 in
theorem sx_mc138 : Cond.code yX11_night cX11_night 1 (some .int) ∈ lw_tbl := lw_in5 (List.mem_of_getElem? (i := 8) rfl)
set_option maxRecDepth 20000 in
theorem sx_mc139 : Cond.code yX11_winter cX11_winter 1 (some .int) ∈ lw_tbl := lw_in5 (List.mem_of_getElem? (i := 27) rfl)
set_option maxRecDepth 20000 in
theorem sx_mc140 : Cond.code yX11_read cX11_read 3 (some .int) ∈ lw_tbl := lw_in5 (List.mem_of_getElem? (i := 41) rfl)
set_option maxRecDepth 20000 in
theorem sx_mc141 : Cond.code yX11_score cX11_score 3 (some .int) ∈ lw_tbl := lw_in5 (List.mem_of_getElem? (i := 45) rfl)
set_option maxRecDepth 20000 in
theorem sx_mc142 : Cond.code yX11_ahead cX11_ahead 5 (some .int) ∈ lw_tbl := lw_in5 (List.mem_of_getElem? (i := 54) rfl)
set_option maxRecDepth 20000 in
theorem sx_mc143 : Cond.code yX11_claim cX11_claim 6 (some .int) ∈ lw_tbl := lw_in5 (List.mem_of_getElem? (i := 58) rfl)
set_option maxRecDepth 20000 in
theorem sx_mc144 : Cond.code yX11_strike cX11_strike 2 (some .int) ∈ lw_tbl := lw_in5 (List.mem_of_getElem? (i := 66) rfl)
set_option maxRecDepth 20000 in
theorem sx_mc145 : Cond.code yX11_known cX11_known 2 (some .boolean) ∈ lw_tbl := lw_in5 (List.mem_of_getElem? (i := 74) rfl)
set_option maxRecDepth 20000 in
theorem sx_mc146 : Cond.code yX11_judged cX11_judged 1 (some .int) ∈ lw_tbl := lw_in5 (List.mem_of_getElem? (i := 78) rfl)
set_option maxRecDepth 20000 in
theorem sx_mc147 : Cond.code yX11_forged cX11_forged 3 (some .int) ∈ lw_tbl := lw_in5 (List.mem_of_getElem? (i := 100) rfl)
set_option maxRecDepth 20000 in
theorem sx_mc148 : Cond.code yX11_forgery cX11_forgery 4 (some .int) ∈ lw_tbl := lw_in5 (List.mem_of_getElem? (i := 120) rfl)
set_option maxRecDepth 20000 in
theorem sx_mc149 : Cond.code yX11_trail cX11_trail 5 (some .int) ∈ lw_tbl := lw_in5 (List.mem_of_getElem? (i := 124) rfl)
set_option maxRecDepth 20000 in
theorem sx_mc150 : Cond.code yX11_trailed cX11_trailed 5 (some .int) ∈ lw_tbl := lw_in5 (List.mem_of_getElem? (i := 129) rfl)
set_option maxRecDepth 20000 in
theorem sx_mc151 : Cond.code yX11_quiet cX11_quiet 4 (some .int) ∈ lw_tbl := lw_in5 (List.mem_of_getElem? (i := 133) rfl)
set_option maxRecDepth 20000 in
theorem sx_mc152 : Cond.code yX11_hushed cX11_hushed 4 (some .int) ∈ lw_tbl := lw_in5 (List.mem_of_getElem? (i := 156) rfl)
set_option maxRecDepth 20000 in
theorem sx_mc153 : Cond.code yX11_covered cX11_covered 7 (some .int) ∈ lw_tbl := lw_in5 (List.mem_of_getElem? (i := 160) rfl)
set_option maxRecDepth 20000 in
theorem sx_mc154 : Cond.code yX11_commonDivisor cX11_commonDivisor 6 (some .int) ∈ lw_tbl := lw_in5 (List.mem_of_getElem? (i := 178) rfl)
set_option maxRecDepth 20000 in
theorem sx_mc155 : Cond.code yX11_best cX11_best 6 (some .int) ∈ lw_tbl := lw_in5 (List.mem_of_getElem? (i := 182) rfl)
set_option maxRecDepth 20000 in
theorem sx_mc156 : Cond.code yX11_rests cX11_rests 6 (some .int) ∈ lw_tbl := lw_in5 (List.mem_of_getElem? (i := 186) rfl)
set_option maxRecDepth 20000 in
theorem sx_mc157 : Cond.code yX11_rest cX11_rest 7 (some .int) ∈ lw_tbl := lw_in5 (List.mem_of_getElem? (i := 202) rfl)
set_option maxRecDepth 20000 in
theorem sx_mc158 : Cond.code yX11_sees cX11_sees 2 (some .long) ∈ lw_tbl := lw_in5 (List.mem_of_getElem? (i := 206) rfl)
set_option maxRecDepth 20000 in
theorem sx_mc159 : Cond.code yX11_umpires cX11_umpires 3 (some .int) ∈ lw_tbl := lw_in5 (List.mem_of_getElem? (i := 216) rfl)
set_option maxRecDepth 20000 in
theorem sx_mc160 : Cond.code yX11_umpire cX11_umpire 5 (some .int) ∈ lw_tbl := lw_in5 (List.mem_of_getElem? (i := 239) rfl)
set_option maxRecDepth 20000 in
theorem sx_mc161 : Cond.code yX11_below cX11_below 2 (some .int) ∈ lw_tbl := lw_in6 (List.mem_of_getElem? (i := 3) rfl)
set_option maxRecDepth 20000 in
theorem sx_mc162 : Cond.code yX11_layers cX11_layers 4 (some .int) ∈ lw_tbl := lw_in6 (List.mem_of_getElem? (i := 19) rfl)
set_option maxRecDepth 20000 in
theorem sx_mc163 : Cond.code yX11_layer cX11_layer 4 (some .int) ∈ lw_tbl := lw_in6 (List.mem_of_getElem? (i := 27) rfl)
set_option maxRecDepth 20000 in
theorem sx_mc164 : Cond.code yX11_chance cX11_chance 10 (some .int) ∈ lw_tbl := lw_in6 (List.mem_of_getElem? (i := 31) rfl)
set_option maxRecDepth 20000 in
theorem sx_mc165 : Cond.code yX11_tried cX11_tried 5 (some .int) ∈ lw_tbl := lw_in6 (List.mem_of_getElem? (i := 35) rfl)
set_option maxRecDepth 20000 in
theorem sx_mc166 : Cond.code yX11_canTry cX11_canTry 3 (some .boolean) ∈ lw_tbl := lw_in6 (List.mem_of_getElem? (i := 39) rfl)
set_option maxRecDepth 20000 in
theorem sx_mc167 : Cond.code yX11_undo cX11_undo 1 (some .int) ∈ lw_tbl := lw_in6 (List.mem_of_getElem? (i := 49) rfl)
set_option maxRecDepth 20000 in
theorem sx_mc168 : Cond.code yX11_keep cX11_keep 1 (some .int) ∈ lw_tbl := lw_in6 (List.mem_of_getElem? (i := 58) rfl)
set_option maxRecDepth 20000 in
theorem sx_mc169 : Cond.code yX11_back cX11_back 1 (some .int) ∈ lw_tbl := lw_in6 (List.mem_of_getElem? (i := 62) rfl)
set_option maxRecDepth 20000 in
theorem sx_mc170 : Cond.code yX11_count cX11_count 2 (some .int) ∈ lw_tbl := lw_in6 (List.mem_of_getElem? (i := 66) rfl)
set_option maxRecDepth 20000 in
theorem sx_mc171 : Cond.code yX11_isWay cX11_isWay 1 (some .boolean) ∈ lw_tbl := lw_in4 (List.mem_of_getElem? (i := 144) rfl)
set_option maxRecDepth 20000 in
theorem sx_mc172 : Cond.code yX11_isCastHour cX11_isCastHour 1 (some .boolean) ∈ lw_tbl := lw_in5 (List.mem_of_getElem? (i := 163) rfl)
set_option maxRecDepth 20000 in
theorem sx_mc173 : Cond.code yX11_isSpan cX11_isSpan 1 (some .boolean) ∈ lw_tbl := lw_in5 (List.mem_of_getElem? (i := 166) rfl)
set_option maxRecDepth 20000 in
theorem sx_mc174 : Cond.code yX11_isWaiting cX11_isWaiting 2 (some .boolean) ∈ lw_tbl := lw_in5 (List.mem_of_getElem? (i := 189) rfl)
set_option maxRecDepth 20000 in
theorem sx_mc175 : Cond.code yX12_init cX12_init 1 none ∈ lw_tbl := lw_in6 (List.mem_of_getElem? (i := 167) rfl)
set_option maxRecDepth 20000 in
theorem sx_mc176 : Cond.code yX12_thrown cX12_thrown 1 (some .int) ∈ lw_tbl := lw_in7 (List.mem_of_getElem? (i := 232) rfl)
set_option maxRecDepth 20000 in
theorem sx_mc177 : Cond.code yX12_feed cX12_feed 8 (some .int) ∈ lw_tbl := lw_in7 (List.mem_of_getElem? (i := 236) rfl)
set_option maxRecDepth 20000 in
theorem sx_mc178 : Cond.code yX12_isIn cX12_isIn 3 (some .boolean) ∈ lw_tbl := lw_in8 (List.mem_of_getElem? (i := 44) rfl)
set_option maxRecDepth 20000 in
theorem sx_mc179 : Cond.code yX12_wrong cX12_wrong 2 (some .boolean) ∈ lw_tbl := lw_in8 (List.mem_of_getElem? (i := 33) rfl)
set_option maxRecDepth 20000 in
theorem sx_mc180 : Cond.code yX12_wordAt cX12_wordAt 8 (some .int) ∈ lw_tbl := lw_in8 (List.mem_of_getElem? (i := 12) rfl)
set_option maxRecDepth 20000 in
theorem sx_mc181 : Cond.code yX12_isSmall cX12_isSmall 2 (some .boolean) ∈ lw_tbl := lw_in8 (List.mem_of_getElem? (i := 8) rfl)
set_option maxRecDepth 20000 in
theorem sx_mc182 : Cond.code yX12_isDigit cX12_isDigit 2 (some .boolean) ∈ lw_tbl := lw_in8 (List.mem_of_getElem? (i := 20) rfl)
set_option maxRecDepth 20000 in
theorem sx_mc183 : Cond.code yX12_token cX12_token 1 none ∈ lw_tbl := lw_in8 (List.mem_of_getElem? (i := 4) rfl)
set_option maxRecDepth 20000 in
theorem sx_mc184 : Cond.code yX12_signToken cX12_signToken 4 none ∈ lw_tbl := lw_in8 (List.mem_of_getElem? (i := 25) rfl)
set_option maxRecDepth 20000 in
theorem sx_mc185 : Cond.code yX12_packed cX12_packed 5 (some .int) ∈ lw_tbl := lw_in8 (List.mem_of_getElem? (i := 16) rfl)
set_option maxRecDepth 20000 in
theorem sx_mc186 : Cond.code yX12_isKey cX12_isKey 2 (some .boolean) ∈ lw_tbl := lw_in8 (List.mem_of_getElem? (i := 91) rfl)
set_option maxRecDepth 20000 in
theorem sx_mc187 : Cond.code yX12_isSign cX12_isSign 2 (some .boolean) ∈ lw_tbl := lw_in8 (List.mem_of_getElem? (i := 79) rfl)
set_option maxRecDepth 20000 in
theorem sx_mc188 : Cond.code yX12_number cX12_number 3 (some .boolean) ∈ lw_tbl := lw_in8 (List.mem_of_getElem? (i := 41) rfl)
set_option maxRecDepth 20000 in
theorem sx_mc189 : Cond.code yX12_plain cX12_plain 2 none ∈ lw_tbl := lw_in6 (List.mem_of_getElem? (i := 172) rfl)
set_option maxRecDepth 20000 in
theorem sx_mc190 : Cond.code yX12_copies cX12_copies 3 none ∈ lw_tbl := lw_in6 (List.mem_of_getElem? (i := 179) rfl)
set_option maxRecDepth 20000 in
theorem sx_mc191 : Cond.code yX12_keepText cX12_keepText 2 none ∈ lw_tbl := lw_in6 (List.mem_of_getElem? (i := 176) rfl)
set_option maxRecDepth 20000 in
theorem sx_mc192 : Cond.code yX12_find cX12_find 5 (some .int) ∈ lw_tbl := lw_in8 (List.mem_of_getElem? (i := 63) rfl)
set_option maxRecDepth 20000 in
theorem sx_mc193 : Cond.code yX12_newName cX12_newName 4 (some .boolean) ∈ lw_tbl := lw_in8 (List.mem_of_getElem? (i := 60) rfl)
set_option maxRecDepth 20000 in
theorem sx_mc194 : Cond.code yX12_cellRead cX12_cellRead 2 (some .boolean) ∈ lw_tbl := lw_in8 (List.mem_of_getElem? (i := 52) rfl)
set_option maxRecDepth 20000 in
theorem sx_mc195 : Cond.code yX12_fieldLine cX12_fieldLine 1 (some .boolean) ∈ lw_tbl := lw_in8 (List.mem_of_getElem? (i := 37) rfl)
set_option maxRecDepth 20000 in
theorem sx_mc196 : Cond.code yX12_treeLine cX12_treeLine 2 (some .boolean) ∈ lw_tbl := lw_in8 (List.mem_of_getElem? (i := 48) rfl)
set_option maxRecDepth 20000 in
theorem sx_mc197 : Cond.code yX12_farmLine cX12_farmLine 6 (some .boolean) ∈ lw_tbl := lw_in8 (List.mem_of_getElem? (i := 56) rfl)
set_option maxRecDepth 20000 in
theorem sx_mc198 : Cond.code yX12_walkerLine cX12_walkerLine 3 (some .boolean) ∈ lw_tbl := lw_in8 (List.mem_of_getElem? (i := 67) rfl)
set_option maxRecDepth 20000 in
theorem sx_mc199 : Cond.code yX12_castLine cX12_castLine 2 (some .boolean) ∈ lw_tbl := lw_in8 (List.mem_of_getElem? (i := 71) rfl)
set_option maxRecDepth 20000 in
theorem sx_mc200 : Cond.code yX12_lineRead cX12_lineRead 3 (some .boolean) ∈ lw_tbl := lw_in8 (List.mem_of_getElem? (i := 29) rfl)
set_option maxRecDepth 20000 in
theorem sx_mc201 : Cond.code yX12_text cX12_text 3 (some .int) ∈ lw_tbl := lw_in8 (List.mem_of_getElem? (i := 0) rfl)
set_option maxRecDepth 20000 in
theorem sx_mc202 : Cond.code yX12_fault cX12_fault 2 (some .int) ∈ lw_tbl := lw_in8 (List.mem_of_getElem? (i := 122) rfl)
set_option maxRecDepth 20000 in
theorem sx_mc203 : Cond.code yX12_named cX12_named 3 (some .int) ∈ lw_tbl := lw_in8 (List.mem_of_getElem? (i := 126) rfl)
set_option maxRecDepth 20000 in
theorem sx_mc204 : Cond.code yX12_rank cX12_rank 1 (some .int) ∈ lw_tbl := lw_in8 (List.mem_of_getElem? (i := 114) rfl)
set_option maxRecDepth 20000 in
theorem sx_mc205 : Cond.code yX12_grown cX12_grown 4 none ∈ lw_tbl := lw_in8 (List.mem_of_getElem? (i := 103) rfl)
set_option maxRecDepth 20000 in
theorem sx_mc206 : Cond.code yX12_dropHeld cX12_dropHeld 1 (some .int) ∈ lw_tbl := lw_in8 (List.mem_of_getElem? (i := 118) rfl)
set_option maxRecDepth 20000 in
theorem sx_mc207 : Cond.code yX12_bind cX12_bind 5 none ∈ lw_tbl := lw_in8 (List.mem_of_getElem? (i := 111) rfl)
set_option maxRecDepth 20000 in
theorem sx_mc208 : Cond.code yX12_isCounted cX12_isCounted 1 (some .boolean) ∈ lw_tbl := lw_in8 (List.mem_of_getElem? (i := 95) rfl)
set_option maxRecDepth 20000 in
theorem sx_mc209 : Cond.code yX12_waitsFor cX12_waitsFor 2 none ∈ lw_tbl := lw_in8 (List.mem_of_getElem? (i := 87) rfl)
set_option maxRecDepth 20000 in
theorem sx_mc210 : Cond.code yX12_nameMet cX12_nameMet 1 (some .int) ∈ lw_tbl := lw_in8 (List.mem_of_getElem? (i := 99) rfl)
set_option maxRecDepth 20000 in
theorem sx_mc211 : Cond.code yX12_leafRead cX12_leafRead 2 (some .boolean) ∈ lw_tbl := lw_in8 (List.mem_of_getElem? (i := 83) rfl)
set_option maxRecDepth 20000 in
theorem sx_mc212 : Cond.code yX12_signs cX12_signs 2 (some .boolean) ∈ lw_tbl := lw_in8 (List.mem_of_getElem? (i := 107) rfl)
set_option maxRecDepth 20000 in
theorem sx_mc213 : Cond.code yX12_sumRead cX12_sumRead 1 (some .boolean) ∈ lw_tbl := lw_in8 (List.mem_of_getElem? (i := 75) rfl)
set_option maxRecDepth 20000 in
theorem sx_mc214 : Cond.code yX12_bounded cX12_bounded 3 (some .long) ∈ lw_tbl := lw_in8 (List.mem_of_getElem? (i := 191) rfl)
set_option maxRecDepth 20000 in
theorem sx_mc215 : Cond.code yX12_compares cX12_compares 5 (some .boolean) ∈ lw_tbl := lw_in8 (List.mem_of_getElem? (i := 200) rfl)
set_option maxRecDepth 20000 in
theorem sx_mc216 : Cond.code yX12_times cX12_times 6 (some .long) ∈ lw_tbl := lw_in8 (List.mem_of_getElem? (i := 197) rfl)
set_option maxRecDepth 20000 in
theorem sx_mc217 : Cond.code yX12_valueOf cX12_valueOf 6 (some .long) ∈ lw_tbl := lw_in8 (List.mem_of_getElem? (i := 187) rfl)
set_option maxRecDepth 20000 in
theorem sx_mc218 : Cond.code yX12_cells cX12_cells 1 (some .int) ∈ lw_tbl := lw_in8 (List.mem_of_getElem? (i := 150) rfl)
set_option maxRecDepth 20000 in
theorem sx_mc219 : Cond.code yX12_isCell cX12_isCell 2 (some .boolean) ∈ lw_tbl := lw_in8 (List.mem_of_getElem? (i := 146) rfl)
set_option maxRecDepth 20000 in
theorem sx_mc220 : Cond.code yX12_isWalker cX12_isWalker 2 (some .boolean) ∈ lw_tbl := lw_in8 (List.mem_of_getElem? (i := 134) rfl)
set_option maxRecDepth 20000 in
theorem sx_mc221 : Cond.code yX12_isFarm cX12_isFarm 2 (some .boolean) ∈ lw_tbl := lw_in9 (List.mem_of_getElem? (i := 48) rfl)
set_option maxRecDepth 20000 in
theorem sx_mc222 : Cond.code yX12_isMark cX12_isMark 2 (some .boolean) ∈ lw_tbl := lw_in8 (List.mem_of_getElem? (i := 162) rfl)
set_option maxRecDepth 20000 in
theorem sx_mc223 : Cond.code yX12_goHome cX12_goHome 2 none ∈ lw_tbl := lw_in6 (List.mem_of_getElem? (i := 187) rfl)
set_option maxRecDepth 20000 in
theorem sx_mc224 : Cond.code yX12_begin cX12_begin 2 none ∈ lw_tbl := lw_in6 (List.mem_of_getElem? (i := 183) rfl)
set_option maxRecDepth 20000 in
theorem sx_mc225 : Cond.code yX12_copyMark cX12_copyMark 3 none ∈ lw_tbl := lw_in9 (List.mem_of_getElem? (i := 211) rfl)
set_option maxRecDepth 20000 in
theorem sx_mc226 : Cond.code yX12_layTried cX12_layTried 2 none ∈ lw_tbl := lw_in9 (List.mem_of_getElem? (i := 207) rfl)
set_option maxRecDepth 20000 in
theorem sx_mc227 : Cond.code yX12_far cX12_far 5 (some .int) ∈ lw_tbl := lw_in8 (List.mem_of_getElem? (i := 175) rfl)
set_option maxRecDepth 20000 in
theorem sx_mc228 : Cond.code yX12_beside cX12_beside 5 (some .int) ∈ lw_tbl := lw_in8 (List.mem_of_getElem? (i := 208) rfl)
set_option maxRecDepth 20000 in
theorem sx_mc229 : Cond.code yX12_layNames cX12_layNames 6 none ∈ lw_tbl := lw_in8 (List.mem_of_getElem? (i := 171) rfl)
set_option maxRecDepth 20000 in
theorem sx_mc230 : Cond.code yX12_layMark cX12_layMark 4 none ∈ lw_tbl := lw_in8 (List.mem_of_getElem? (i := 179) rfl)
set_option maxRecDepth 20000 in
theorem sx_mc231 : Cond.code yX12_lawOf cX12_lawOf 3 (some .long) ∈ lw_tbl := lw_in8 (List.mem_of_getElem? (i := 183) rfl)
set_option maxRecDepth 20000 in
theorem sx_mc232 : Cond.code yX12_boundLaw cX12_boundLaw 7 (some .int) ∈ lw_tbl := lw_in8 (List.mem_of_getElem? (i := 220) rfl)
set_option maxRecDepth 20000 in
theorem sx_mc233 : Cond.code yX12_readIn cX12_readIn 5 (some .int) ∈ lw_tbl := lw_in8 (List.mem_of_getElem? (i := 154) rfl)
set_option maxRecDepth 20000 in
theorem sx_mc234 : Cond.code yX12_scoreOf cX12_scoreOf 6 (some .int) ∈ lw_tbl := lw_in9 (List.mem_of_getElem? (i := 36) rfl)
set_option maxRecDepth 20000 in
theorem sx_mc235 : Cond.code yX12_fails cX12_fails 2 (some .int) ∈ lw_tbl := lw_in8 (List.mem_of_getElem? (i := 138) rfl)
set_option maxRecDepth 20000 in
theorem sx_mc236 : Cond.code yX12_look cX12_look 3 (some .int) ∈ lw_tbl := lw_in8 (List.mem_of_getElem? (i := 130) rfl)
set_option maxRecDepth 20000 in
theorem sx_mc237 : Cond.code yX12_cell cX12_cell 5 (some .int) ∈ lw_tbl := lw_in8 (List.mem_of_getElem? (i := 142) rfl)
set_option maxRecDepth 20000 in
theorem sx_mc238 : Cond.code yX12_mark cX12_mark 3 (some .int) ∈ lw_tbl := lw_in8 (List.mem_of_getElem? (i := 158) rfl)
set_option maxRecDepth 20000 in
theorem sx_mc239 : Cond.code yX12_law cX12_law 6 (some .long) ∈ lw_tbl := lw_in8 (List.mem_of_getElem? (i := 166) rfl)
set_option maxRecDepth 20000 in
theorem sx_mc240 : Cond.code yX12_step cX12_step 6 (some .int) ∈ lw_tbl := lw_in8 (List.mem_of_getElem? (i := 204) rfl)
set_option maxRecDepth 20000 in
theorem sx_mc241 : Cond.code yX12_boots cX12_boots 3 (some .boolean) ∈ lw_tbl := lw_in8 (List.mem_of_getElem? (i := 224) rfl)
set_option maxRecDepth 20000 in
theorem sx_mc242 : Cond.code yX12_fox cX12_fox 8 (some .int) ∈ lw_tbl := lw_in8 (List.mem_of_getElem? (i := 228) rfl)
set_option maxRecDepth 20000 in
theorem sx_mc243 : Cond.code yX12_anHour cX12_anHour 5 none ∈ lw_tbl := lw_in8 (List.mem_of_getElem? (i := 236) rfl)
set_option maxRecDepth 20000 in
theorem sx_mc244 : Cond.code yX12_falls cX12_falls 4 none ∈ lw_tbl := lw_in9 (List.mem_of_getElem? (i := 4) rfl)
set_option maxRecDepth 20000 in
theorem sx_mc245 : Cond.code yX12_thaws cX12_thaws 7 (some .int) ∈ lw_tbl := lw_in9 (List.mem_of_getElem? (i := 12) rfl)
set_option maxRecDepth 20000 in
theorem sx_mc246 : Cond.code yX12_hours cX12_hours 3 (some .int) ∈ lw_tbl := lw_in8 (List.mem_of_getElem? (i := 232) rfl)
set_option maxRecDepth 20000 in
theorem sx_mc247 : Cond.code yX12_fall cX12_fall 2 (some .int) ∈ lw_tbl := lw_in9 (List.mem_of_getElem? (i := 0) rfl)
set_option maxRecDepth 20000 in
theorem sx_mc248 : Cond.code yX12_thaw cX12_thaw 2 (some .int) ∈ lw_tbl := lw_in9 (List.mem_of_getElem? (i := 8) rfl)
set_option maxRecDepth 20000 in
theorem sx_mc249 : Cond.code yX12_number1 cX12_number1 2 (some .int) ∈ lw_tbl := lw_in9 (List.mem_of_getElem? (i := 24) rfl)
set_option maxRecDepth 20000 in
theorem sx_mc250 : Cond.code yX12_goNight cX12_goNight 4 (some .int) ∈ lw_tbl := lw_in9 (List.mem_of_getElem? (i := 20) rfl)
set_option maxRecDepth 20000 in
theorem sx_mc251 : Cond.code yX12_night cX12_night 1 (some .int) ∈ lw_tbl := lw_in9 (List.mem_of_getElem? (i := 16) rfl)
set_option maxRecDepth 20000 in
theorem sx_mc252 : Cond.code yX12_winter cX12_winter 2 (some .int) ∈ lw_tbl := lw_in9 (List.mem_of_getElem? (i := 32) rfl)
set_option maxRecDepth 20000 in
theorem sx_mc253 : Cond.code yX12_read cX12_read 3 (some .int) ∈ lw_tbl := lw_in9 (List.mem_of_getElem? (i := 40) rfl)
set_option maxRecDepth 20000 in
theorem sx_mc254 : Cond.code yX12_score cX12_score 3 (some .int) ∈ lw_tbl := lw_in9 (List.mem_of_getElem? (i := 44) rfl)
set_option maxRecDepth 20000 in
theorem sx_mc255 : Cond.code yX12_ahead cX12_ahead 5 (some .int) ∈ lw_tbl := lw_in9 (List.mem_of_getElem? (i := 52) rfl)
set_option maxRecDepth 20000 in
theorem sx_mc256 : Cond.code yX12_claimed cX12_claimed 5 (some .int) ∈ lw_tbl := lw_in9 (List.mem_of_getElem? (i := 60) rfl)
set_option maxRecDepth 20000 in
theorem sx_mc257 : Cond.code yX12_claim cX12_claim 5 (some .int) ∈ lw_tbl := lw_in9 (List.mem_of_getElem? (i := 56) rfl)
set_option maxRecDepth 20000 in
theorem sx_mc258 : Cond.code yX12_strike cX12_strike 2 (some .int) ∈ lw_tbl := lw_in9 (List.mem_of_getElem? (i := 64) rfl)
set_option maxRecDepth 20000 in
theorem sx_mc259 : Cond.code yX12_known cX12_known 2 (some .boolean) ∈ lw_tbl := lw_in9 (List.mem_of_getElem? (i := 68) rfl)
set_option maxRecDepth 20000 in
theorem sx_mc260 : Cond.code yX12_knownBy cX12_knownBy 1 (some .int) ∈ lw_tbl := lw_in9 (List.mem_of_getElem? (i := 76) rfl)
set_option maxRecDepth 20000 in
theorem sx_mc261 : Cond.code yX12_judged cX12_judged 4 (some .int) ∈ lw_tbl := lw_in9 (List.mem_of_getElem? (i := 72) rfl)
set_option maxRecDepth 20000 in
theorem sx_mc262 : Cond.code yX12_before cX12_before 3 (some .int) ∈ lw_tbl := lw_in9 (List.mem_of_getElem? (i := 92) rfl)
set_option maxRecDepth 20000 in
theorem sx_mc263 : Cond.code yX12_closes cX12_closes 4 (some .boolean) ∈ lw_tbl := lw_in9 (List.mem_of_getElem? (i := 88) rfl)
set_option maxRecDepth 20000 in
theorem sx_mc264 : Cond.code yX12_forgedAt cX12_forgedAt 4 (some .int) ∈ lw_tbl := lw_in9 (List.mem_of_getElem? (i := 84) rfl)
set_option maxRecDepth 20000 in
theorem sx_mc265 : Cond.code yX12_forged cX12_forged 1 (some .int) ∈ lw_tbl := lw_in9 (List.mem_of_getElem? (i := 80) rfl)
set_option maxRecDepth 20000 in
theorem sx_mc266 : Cond.code yX12_forgery cX12_forgery 2 (some .int) ∈ lw_tbl := lw_in9 (List.mem_of_getElem? (i := 96) rfl)
set_option maxRecDepth 20000 in
theorem sx_mc267 : Cond.code yX12_isThere cX12_isThere 2 (some .boolean) ∈ lw_tbl := lw_in9 (List.mem_of_getElem? (i := 104) rfl)
set_option maxRecDepth 20000 in
theorem sx_mc268 : Cond.code yX12_trail cX12_trail 4 (some .int) ∈ lw_tbl := lw_in9 (List.mem_of_getElem? (i := 100) rfl)
set_option maxRecDepth 20000 in
theorem sx_mc269 : Cond.code yX12_trailed cX12_trailed 5 (some .int) ∈ lw_tbl := lw_in9 (List.mem_of_getElem? (i := 108) rfl)
set_option maxRecDepth 20000 in
theorem sx_mc270 : Cond.code yX12_newAt cX12_newAt 2 (some .int) ∈ lw_tbl := lw_in9 (List.mem_of_getElem? (i := 120) rfl)
set_option maxRecDepth 20000 in
theorem sx_mc271 : Cond.code yX12_layQuiet cX12_layQuiet 7 none ∈ lw_tbl := lw_in9 (List.mem_of_getElem? (i := 116) rfl)
set_option maxRecDepth 20000 in
theorem sx_mc272 : Cond.code yX12_quiet cX12_quiet 4 (some .int) ∈ lw_tbl := lw_in9 (List.mem_of_getElem? (i := 112) rfl)
set_option maxRecDepth 20000 in
theorem sx_mc273 : Cond.code yX12_isOn cX12_isOn 3 (some .boolean) ∈ lw_tbl := lw_in9 (List.mem_of_getElem? (i := 128) rfl)
set_option maxRecDepth 20000 in
theorem sx_mc274 : Cond.code yX12_hushed cX12_hushed 7 (some .int) ∈ lw_tbl := lw_in9 (List.mem_of_getElem? (i := 124) rfl)
set_option maxRecDepth 20000 in
theorem sx_mc275 : Cond.code yX12_powerOf cX12_powerOf 3 (some .int) ∈ lw_tbl := lw_in9 (List.mem_of_getElem? (i := 139) rfl)
set_option maxRecDepth 20000 in
theorem sx_mc276 : Cond.code yX12_coveredBy cX12_coveredBy 5 (some .int) ∈ lw_tbl := lw_in9 (List.mem_of_getElem? (i := 136) rfl)
set_option maxRecDepth 20000 in
theorem sx_mc277 : Cond.code yX12_common cX12_common 5 (some .int) ∈ lw_tbl := lw_in9 (List.mem_of_getElem? (i := 142) rfl)
set_option maxRecDepth 20000 in
theorem sx_mc278 : Cond.code yX12_covered cX12_covered 5 (some .int) ∈ lw_tbl := lw_in9 (List.mem_of_getElem? (i := 132) rfl)
set_option maxRecDepth 20000 in
theorem sx_mc279 : Cond.code yX12_best cX12_best 6 (some .int) ∈ lw_tbl := lw_in9 (List.mem_of_getElem? (i := 146) rfl)
set_option maxRecDepth 20000 in
theorem sx_mc280 : Cond.code yX12_has cX12_has 3 (some .int) ∈ lw_tbl := lw_in9 (List.mem_of_getElem? (i := 166) rfl)
set_option maxRecDepth 20000 in
theorem sx_mc281 : Cond.code yX12_isRest cX12_isRest 6 (some .boolean) ∈ lw_tbl := lw_in9 (List.mem_of_getElem? (i := 162) rfl)
set_option maxRecDepth 20000 in
theorem sx_mc282 : Cond.code yX12_areHours cX12_areHours 3 (some .boolean) ∈ lw_tbl := lw_in9 (List.mem_of_getElem? (i := 154) rfl)
set_option maxRecDepth 20000 in
theorem sx_mc283 : Cond.code yX12_restAt cX12_restAt 7 (some .int) ∈ lw_tbl := lw_in9 (List.mem_of_getElem? (i := 158) rfl)
set_option maxRecDepth 20000 in
theorem sx_mc284 : Cond.code yX12_rests cX12_rests 3 (some .int) ∈ lw_tbl := lw_in9 (List.mem_of_getElem? (i := 150) rfl)
set_option maxRecDepth 20000 in
theorem sx_mc285 : Cond.code yX12_rest cX12_rest 4 (some .int) ∈ lw_tbl := lw_in9 (List.mem_of_getElem? (i := 170) rfl)
set_option maxRecDepth 20000 in
theorem sx_mc286 : Cond.code yX12_seenBy cX12_seenBy 6 (some .long) ∈ lw_tbl := lw_in9 (List.mem_of_getElem? (i := 178) rfl)
set_option maxRecDepth 20000 in
theorem sx_mc287 : Cond.code yX12_sees cX12_sees 2 (some .long) ∈ lw_tbl := lw_in9 (List.mem_of_getElem? (i := 174) rfl)
set_option maxRecDepth 20000 in
theorem sx_mc288 : Cond.code yX12_isGround cX12_isGround 4 (some .boolean) ∈ lw_tbl := lw_in9 (List.mem_of_getElem? (i := 187) rfl)
set_option maxRecDepth 20000 in
theorem sx_mc289 : Cond.code yX12_layUmpires cX12_layUmpires 4 none ∈ lw_tbl := lw_in9 (List.mem_of_getElem? (i := 191) rfl)
set_option maxRecDepth 20000 in
theorem sx_mc290 : Cond.code yX12_takeUmpires cX12_takeUmpires 9 none ∈ lw_tbl := lw_in9 (List.mem_of_getElem? (i := 195) rfl)
set_option maxRecDepth 20000 in
theorem sx_mc291 : Cond.code yX12_umpires cX12_umpires 3 (some .int) ∈ lw_tbl := lw_in9 (List.mem_of_getElem? (i := 183) rfl)
set_option maxRecDepth 20000 in
theorem sx_mc292 : Cond.code yX12_umpire cX12_umpire 4 (some .int) ∈ lw_tbl := lw_in9 (List.mem_of_getElem? (i := 199) rfl)
set_option maxRecDepth 20000 in
theorem sx_mc293 : Cond.code yX12_readMany cX12_readMany 4 (some .int) ∈ lw_tbl := lw_in9 (List.mem_of_getElem? (i := 215) rfl)
set_option maxRecDepth 20000 in
theorem sx_mc294 : Cond.code yX12_below cX12_below 2 (some .int) ∈ lw_tbl := lw_in9 (List.mem_of_getElem? (i := 203) rfl)
set_option maxRecDepth 20000 in
theorem sx_mc295 : Cond.code yX12_coverAbove cX12_coverAbove 4 (some .int) ∈ lw_tbl := lw_in9 (List.mem_of_getElem? (i := 223) rfl)
set_option maxRecDepth 20000 in
theorem sx_mc296 : Cond.code yX12_layers cX12_layers 3 (some .int) ∈ lw_tbl := lw_in9 (List.mem_of_getElem? (i := 219) rfl)
set_option maxRecDepth 20000 in
theorem sx_mc297 : Cond.code yX12_layer cX12_layer 4 (some .int) ∈ lw_tbl := lw_in9 (List.mem_of_getElem? (i := 227) rfl)
set_option maxRecDepth 20000 in
theorem sx_mc298 : Cond.code yX12_chance cX12_chance 10 (some .int) ∈ lw_tbl := lw_in9 (List.mem_of_getElem? (i := 231) rfl)
set_option maxRecDepth 20000 in
theorem sx_mc299 : Cond.code yX12_tried cX12_tried 5 (some .int) ∈ lw_tbl := lw_in9 (List.mem_of_getElem? (i := 235) rfl)
set_option maxRecDepth 20000 in
theorem sx_mc300 : Cond.code yX12_keepWalkers cX12_keepWalkers 4 none ∈ lw_tbl := lw_in8 (List.mem_of_getElem? (i := 216) rfl)
set_option maxRecDepth 20000 in
theorem sx_mc301 : Cond.code yX12_takeWalkers cX12_takeWalkers 4 none ∈ lw_tbl := lw_in10 (List.mem_of_getElem? (i := 3) rfl)
set_option maxRecDepth 20000 in
theorem sx_mc302 : Cond.code yX12_remember cX12_remember 3 none ∈ lw_tbl := lw_in8 (List.mem_of_getElem? (i := 212) rfl)
set_option maxRecDepth 20000 in
theorem sx_mc303 : Cond.code yX12_undo cX12_undo 3 (some .int) ∈ lw_tbl := lw_in9 (List.mem_of_getElem? (i := 239) rfl)
set_option maxRecDepth 20000 in
theorem sx_mc304 : Cond.code yX12_keep cX12_keep 2 (some .int) ∈ lw_tbl := lw_in10 (List.mem_of_getElem? (i := 7) rfl)
set_option maxRecDepth 20000 in
theorem sx_mc305 : Cond.code yX12_back cX12_back 2 (some .int) ∈ lw_tbl := lw_in10 (List.mem_of_getElem? (i := 11) rfl)
set_option maxRecDepth 20000 in
theorem sx_mc306 : Cond.code yX12_thereMany cX12_thereMany 3 (some .int) ∈ lw_tbl := lw_in10 (List.mem_of_getElem? (i := 19) rfl)
set_option maxRecDepth 20000 in
theorem sx_mc307 : Cond.code yX12_count cX12_count 2 (some .int) ∈ lw_tbl := lw_in10 (List.mem_of_getElem? (i := 15) rfl)
set_option maxRecDepth 20000 in
theorem sx_mc308 : Cond.code yJ7_fill_53178 cJ7_fill_53178 4 none ∈ lw_tbl := lw_in1 (List.mem_of_getElem? (i := 60) rfl)
theorem sx_mcs0 : ∀ m ∈ sx_Ms0, Cond.code m.1 m.2.1 m.2.2.1 m.2.2.2.1 ∈ lw_tbl := List.forall_mem_cons.mpr ⟨sx_mc0, List.forall_mem_cons.mpr ⟨sx_mc1, List.forall_mem_cons.mpr ⟨sx_mc2, List.forall_mem_cons.mpr ⟨sx_mc3, List.forall_mem_cons.mpr ⟨sx_mc4, List.forall_mem_cons.mpr ⟨sx_mc5, List.forall_mem_cons.mpr ⟨sx_mc6, List.forall_mem_cons.mpr ⟨sx_mc7, List.forall_mem_cons.mpr ⟨sx_mc8, List.forall_mem_cons.mpr ⟨sx_mc9, List.forall_mem_cons.mpr ⟨sx_mc10, List.forall_mem_cons.mpr ⟨sx_mc11, List.forall_mem_cons.mpr ⟨sx_mc12, List.forall_mem_cons.mpr ⟨sx_mc13, List.forall_mem_cons.mpr ⟨sx_mc14, List.forall_mem_cons.mpr ⟨sx_mc15, List.forall_mem_cons.mpr ⟨sx_mc16, List.forall_mem_cons.mpr ⟨sx_mc17, List.forall_mem_cons.mpr ⟨sx_mc18, List.forall_mem_cons.mpr ⟨sx_mc19, List.forall_mem_cons.mpr ⟨sx_mc20, List.forall_mem_cons.mpr ⟨sx_mc21, List.forall_mem_cons.mpr ⟨sx_mc22, List.forall_mem_cons.mpr ⟨sx_mc23, List.forall_mem_cons.mpr ⟨sx_mc24, List.forall_mem_cons.mpr ⟨sx_mc25, List.forall_mem_cons.mpr ⟨sx_mc26, List.forall_mem_cons.mpr ⟨sx_mc27, List.forall_mem_cons.mpr ⟨sx_mc28, List.forall_mem_cons.mpr ⟨sx_mc29, List.forall_mem_cons.mpr ⟨sx_mc30, List.forall_mem_cons.mpr ⟨sx_mc31, fun _ h => absurd h List.not_mem_nil⟩⟩⟩⟩⟩⟩⟩⟩⟩⟩⟩⟩⟩⟩⟩⟩⟩⟩⟩⟩⟩⟩⟩⟩⟩⟩⟩⟩⟩⟩⟩⟩
theorem sx_mcs1 : ∀ m ∈ sx_Ms1, Cond.code m.1 m.2.1 m.2.2.1 m.2.2.2.1 ∈ lw_tbl := List.forall_mem_cons.mpr ⟨sx_mc32, List.forall_mem_cons.mpr ⟨sx_mc33, List.forall_mem_cons.mpr ⟨sx_mc34, List.forall_mem_cons.mpr ⟨sx_mc35, List.forall_mem_cons.mpr ⟨sx_mc36, List.forall_mem_cons.mpr ⟨sx_mc37, List.forall_mem_cons.mpr ⟨sx_mc38, List.forall_mem_cons.mpr ⟨sx_mc39, List.forall_mem_cons.mpr ⟨sx_mc40, List.forall_mem_cons.mpr ⟨sx_mc41, List.forall_mem_cons.mpr ⟨sx_mc42, List.forall_mem_cons.mpr ⟨sx_mc43, List.forall_mem_cons.mpr ⟨sx_mc44, List.forall_mem_cons.mpr ⟨sx_mc45, List.forall_mem_cons.mpr ⟨sx_mc46, List.forall_mem_cons.mpr ⟨sx_mc47, List.forall_mem_cons.mpr ⟨sx_mc48, List.forall_mem_cons.mpr ⟨sx_mc49, List.forall_mem_cons.mpr ⟨sx_mc50, List.forall_mem_cons.mpr ⟨sx_mc51, List.forall_mem_cons.mpr ⟨sx_mc52, List.forall_mem_cons.mpr ⟨sx_mc53, List.forall_mem_cons.mpr ⟨sx_mc54, List.forall_mem_cons.mpr ⟨sx_mc55, List.forall_mem_cons.mpr ⟨sx_mc56, List.forall_mem_cons.mpr ⟨sx_mc57, List.forall_mem_cons.mpr ⟨sx_mc58, List.forall_mem_cons.mpr ⟨sx_mc59, List.forall_mem_cons.mpr ⟨sx_mc60, List.forall_mem_cons.mpr ⟨sx_mc61, List.forall_mem_cons.mpr ⟨sx_mc62, List.forall_mem_cons.mpr ⟨sx_mc63, fun _ h => absurd h List.not_mem_nil⟩⟩⟩⟩⟩⟩⟩⟩⟩⟩⟩⟩⟩⟩⟩⟩⟩⟩⟩⟩⟩⟩⟩⟩⟩⟩⟩⟩⟩⟩⟩⟩
theorem sx_mcs2 : ∀ m ∈ sx_Ms2, Cond.code m.1 m.2.1 m.2.2.1 m.2.2.2.1 ∈ lw_tbl := List.forall_mem_cons.mpr ⟨sx_mc64, List.forall_mem_cons.mpr ⟨sx_mc65, List.forall_mem_cons.mpr ⟨sx_mc66, List.forall_mem_cons.mpr ⟨sx_mc67, List.forall_mem_cons.mpr ⟨sx_mc68, List.forall_mem_cons.mpr ⟨sx_mc69, List.forall_mem_cons.mpr ⟨sx_mc70, List.forall_mem_cons.mpr ⟨sx_mc71, List.forall_mem_cons.mpr ⟨sx_mc72, List.forall_mem_cons.mpr ⟨sx_mc73, List.forall_mem_cons.mpr ⟨sx_mc74, List.forall_mem_cons.mpr ⟨sx_mc75, List.forall_mem_cons.mpr ⟨sx_mc76, List.forall_mem_cons.mpr ⟨sx_mc77, List.forall_mem_cons.mpr ⟨sx_mc78, List.forall_mem_cons.mpr ⟨sx_mc79, List.forall_mem_cons.mpr ⟨sx_mc80, List.forall_mem_cons.mpr ⟨sx_mc81, List.forall_mem_cons.mpr ⟨sx_mc82, List.forall_mem_cons.mpr ⟨sx_mc83, List.forall_mem_cons.mpr ⟨sx_mc84, List.forall_mem_cons.mpr ⟨sx_mc85, List.forall_mem_cons.mpr ⟨sx_mc86, List.forall_mem_cons.mpr ⟨sx_mc87, List.forall_mem_cons.mpr ⟨sx_mc88, List.forall_mem_cons.mpr ⟨sx_mc89, List.forall_mem_cons.mpr ⟨sx_mc90, List.forall_mem_cons.mpr ⟨sx_mc91, List.forall_mem_cons.mpr ⟨sx_mc92, List.forall_mem_cons.mpr ⟨sx_mc93, List.forall_mem_cons.mpr ⟨sx_mc94, List.forall_mem_cons.mpr ⟨sx_mc95, fun _ h => absurd h List.not_mem_nil⟩⟩⟩⟩⟩⟩⟩⟩⟩⟩⟩⟩⟩⟩⟩⟩⟩⟩⟩⟩⟩⟩⟩⟩⟩⟩⟩⟩⟩⟩⟩⟩
theorem sx_mcs3 : ∀ m ∈ sx_Ms3, Cond.code m.1 m.2.1 m.2.2.1 m.2.2.2.1 ∈ lw_tbl := List.forall_mem_cons.mpr ⟨sx_mc96, List.forall_mem_cons.mpr ⟨sx_mc97, List.forall_mem_cons.mpr ⟨sx_mc98, List.forall_mem_cons.mpr ⟨sx_mc99, List.forall_mem_cons.mpr ⟨sx_mc100, List.forall_mem_cons.mpr ⟨sx_mc101, List.forall_mem_cons.mpr ⟨sx_mc102, List.forall_mem_cons.mpr ⟨sx_mc103, List.forall_mem_cons.mpr ⟨sx_mc104, List.forall_mem_cons.mpr ⟨sx_mc105, List.forall_mem_cons.mpr ⟨sx_mc106, List.forall_mem_cons.mpr ⟨sx_mc107, List.forall_mem_cons.mpr ⟨sx_mc108, List.forall_mem_cons.mpr ⟨sx_mc109, List.forall_mem_cons.mpr ⟨sx_mc110, List.forall_mem_cons.mpr ⟨sx_mc111, List.forall_mem_cons.mpr ⟨sx_mc112, List.forall_mem_cons.mpr ⟨sx_mc113, List.forall_mem_cons.mpr ⟨sx_mc114, List.forall_mem_cons.mpr ⟨sx_mc115, List.forall_mem_cons.mpr ⟨sx_mc116, List.forall_mem_cons.mpr ⟨sx_mc117, List.forall_mem_cons.mpr ⟨sx_mc118, List.forall_mem_cons.mpr ⟨sx_mc119, List.forall_mem_cons.mpr ⟨sx_mc120, List.forall_mem_cons.mpr ⟨sx_mc121, List.forall_mem_cons.mpr ⟨sx_mc122, List.forall_mem_cons.mpr ⟨sx_mc123, List.forall_mem_cons.mpr ⟨sx_mc124, List.forall_mem_cons.mpr ⟨sx_mc125, List.forall_mem_cons.mpr ⟨sx_mc126, List.forall_mem_cons.mpr ⟨sx_mc127, fun _ h => absurd h List.not_mem_nil⟩⟩⟩⟩⟩⟩⟩⟩⟩⟩⟩⟩⟩⟩⟩⟩⟩⟩⟩⟩⟩⟩⟩⟩⟩⟩⟩⟩⟩⟩⟩⟩
theorem sx_mcs4 : ∀ m ∈ sx_Ms4, Cond.code m.1 m.2.1 m.2.2.1 m.2.2.2.1 ∈ lw_tbl := List.forall_mem_cons.mpr ⟨sx_mc128, List.forall_mem_cons.mpr ⟨sx_mc129, List.forall_mem_cons.mpr ⟨sx_mc130, List.forall_mem_cons.mpr ⟨sx_mc131, List.forall_mem_cons.mpr ⟨sx_mc132, List.forall_mem_cons.mpr ⟨sx_mc133, List.forall_mem_cons.mpr ⟨sx_mc134, List.forall_mem_cons.mpr ⟨sx_mc135, List.forall_mem_cons.mpr ⟨sx_mc136, List.forall_mem_cons.mpr ⟨sx_mc137, List.forall_mem_cons.mpr ⟨sx_mc138, List.forall_mem_cons.mpr ⟨sx_mc139, List.forall_mem_cons.mpr ⟨sx_mc140, List.forall_mem_cons.mpr ⟨sx_mc141, List.forall_mem_cons.mpr ⟨sx_mc142, List.forall_mem_cons.mpr ⟨sx_mc143, List.forall_mem_cons.mpr ⟨sx_mc144, List.forall_mem_cons.mpr ⟨sx_mc145, List.forall_mem_cons.mpr ⟨sx_mc146, List.forall_mem_cons.mpr ⟨sx_mc147, List.forall_mem_cons.mpr ⟨sx_mc148, List.forall_mem_cons.mpr ⟨sx_mc149, List.forall_mem_cons.mpr ⟨sx_mc150, List.forall_mem_cons.mpr ⟨sx_mc151, List.forall_mem_cons.mpr ⟨sx_mc152, List.forall_mem_cons.mpr ⟨sx_mc153, List.forall_mem_cons.mpr ⟨sx_mc154, List.forall_mem_cons.mpr ⟨sx_mc155, List.forall_mem_cons.mpr ⟨sx_mc156, List.forall_mem_cons.mpr ⟨sx_mc157, List.forall_mem_cons.mpr ⟨sx_mc158, List.forall_mem_cons.mpr ⟨sx_mc159, fun _ h => absurd h List.not_mem_nil⟩⟩⟩⟩⟩⟩⟩⟩⟩⟩⟩⟩⟩⟩⟩⟩⟩⟩⟩⟩⟩⟩⟩⟩⟩⟩⟩⟩⟩⟩⟩⟩
theorem sx_mcs5 : ∀ m ∈ sx_Ms5, Cond.code m.1 m.2.1 m.2.2.1 m.2.2.2.1 ∈ lw_tbl := List.forall_mem_cons.mpr ⟨sx_mc160, List.forall_mem_cons.mpr ⟨sx_mc161, List.forall_mem_cons.mpr ⟨sx_mc162, List.forall_mem_cons.mpr ⟨sx_mc163, List.forall_mem_cons.mpr ⟨sx_mc164, List.forall_mem_cons.mpr ⟨sx_mc165, List.forall_mem_cons.mpr ⟨sx_mc166, List.forall_mem_cons.mpr ⟨sx_mc167, List.forall_mem_cons.mpr ⟨sx_mc168, List.forall_mem_cons.mpr ⟨sx_mc169, List.forall_mem_cons.mpr ⟨sx_mc170, List.forall_mem_cons.mpr ⟨sx_mc171, List.forall_mem_cons.mpr ⟨sx_mc172, List.forall_mem_cons.mpr ⟨sx_mc173, List.forall_mem_cons.mpr ⟨sx_mc174, List.forall_mem_cons.mpr ⟨sx_mc175, List.forall_mem_cons.mpr ⟨sx_mc176, List.forall_mem_cons.mpr ⟨sx_mc177, List.forall_mem_cons.mpr ⟨sx_mc178, List.forall_mem_cons.mpr ⟨sx_mc179, List.forall_mem_cons.mpr ⟨sx_mc180, List.forall_mem_cons.mpr ⟨sx_mc181, List.forall_mem_cons.mpr ⟨sx_mc182, List.forall_mem_cons.mpr ⟨sx_mc183, List.forall_mem_cons.mpr ⟨sx_mc184, List.forall_mem_cons.mpr ⟨sx_mc185, List.forall_mem_cons.mpr ⟨sx_mc186, List.forall_mem_cons.mpr ⟨sx_mc187, List.forall_mem_cons.mpr ⟨sx_mc188, List.forall_mem_cons.mpr ⟨sx_mc189, List.forall_mem_cons.mpr ⟨sx_mc190, List.forall_mem_cons.mpr ⟨sx_mc191, fun _ h => absurd h List.not_mem_nil⟩⟩⟩⟩⟩⟩⟩⟩⟩⟩⟩⟩⟩⟩⟩⟩⟩⟩⟩⟩⟩⟩⟩⟩⟩⟩⟩⟩⟩⟩⟩⟩
theorem sx_mcs6 : ∀ m ∈ sx_Ms6, Cond.code m.1 m.2.1 m.2.2.1 m.2.2.2.1 ∈ lw_tbl := List.forall_mem_cons.mpr ⟨sx_mc192, List.forall_mem_cons.mpr ⟨sx_mc193, List.forall_mem_cons.mpr ⟨sx_mc194, List.forall_mem_cons.mpr ⟨sx_mc195, List.forall_mem_cons.mpr ⟨sx_mc196, List.forall_mem_cons.mpr ⟨sx_mc197, List.forall_mem_cons.mpr ⟨sx_mc198, List.forall_mem_cons.mpr ⟨sx_mc199, List.forall_mem_cons.mpr ⟨sx_mc200, List.forall_mem_cons.mpr ⟨sx_mc201, List.forall_mem_cons.mpr ⟨sx_mc202, List.forall_mem_cons.mpr ⟨sx_mc203, List.forall_mem_cons.mpr ⟨sx_mc204, List.forall_mem_cons.mpr ⟨sx_mc205, List.forall_mem_cons.mpr ⟨sx_mc206, List.forall_mem_cons.mpr ⟨sx_mc207, List.forall_mem_cons.mpr ⟨sx_mc208, List.forall_mem_cons.mpr ⟨sx_mc209, List.forall_mem_cons.mpr ⟨sx_mc210, List.forall_mem_cons.mpr ⟨sx_mc211, List.forall_mem_cons.mpr ⟨sx_mc212, List.forall_mem_cons.mpr ⟨sx_mc213, List.forall_mem_cons.mpr ⟨sx_mc214, List.forall_mem_cons.mpr ⟨sx_mc215, List.forall_mem_cons.mpr ⟨sx_mc216, List.forall_mem_cons.mpr ⟨sx_mc217, List.forall_mem_cons.mpr ⟨sx_mc218, List.forall_mem_cons.mpr ⟨sx_mc219, List.forall_mem_cons.mpr ⟨sx_mc220, List.forall_mem_cons.mpr ⟨sx_mc221, List.forall_mem_cons.mpr ⟨sx_mc222, List.forall_mem_cons.mpr ⟨sx_mc223, fun _ h => absurd h List.not_mem_nil⟩⟩⟩⟩⟩⟩⟩⟩⟩⟩⟩⟩⟩⟩⟩⟩⟩⟩⟩⟩⟩⟩⟩⟩⟩⟩⟩⟩⟩⟩⟩⟩
theorem sx_mcs7 : ∀ m ∈ sx_Ms7, Cond.code m.1 m.2.1 m.2.2.1 m.2.2.2.1 ∈ lw_tbl := List.forall_mem_cons.mpr ⟨sx_mc224, List.forall_mem_cons.mpr ⟨sx_mc225, List.forall_mem_cons.mpr ⟨sx_mc226, List.forall_mem_cons.mpr ⟨sx_mc227, List.forall_mem_cons.mpr ⟨sx_mc228, List.forall_mem_cons.mpr ⟨sx_mc229, List.forall_mem_cons.mpr ⟨sx_mc230, List.forall_mem_cons.mpr ⟨sx_mc231, List.forall_mem_cons.mpr ⟨sx_mc232, List.forall_mem_cons.mpr ⟨sx_mc233, List.forall_mem_cons.mpr ⟨sx_mc234, List.forall_mem_cons.mpr ⟨sx_mc235, List.forall_mem_cons.mpr ⟨sx_mc236, List.forall_mem_cons.mpr ⟨sx_mc237, List.forall_mem_cons.mpr ⟨sx_mc238, List.forall_mem_cons.mpr ⟨sx_mc239, List.forall_mem_cons.mpr ⟨sx_mc240, List.forall_mem_cons.mpr ⟨sx_mc241, List.forall_mem_cons.mpr ⟨sx_mc242, List.forall_mem_cons.mpr ⟨sx_mc243, List.forall_mem_cons.mpr ⟨sx_mc244, List.forall_mem_cons.mpr ⟨sx_mc245, List.forall_mem_cons.mpr ⟨sx_mc246, List.forall_mem_cons.mpr ⟨sx_mc247, List.forall_mem_cons.mpr ⟨sx_mc248, List.forall_mem_cons.mpr ⟨sx_mc249, List.forall_mem_cons.mpr ⟨sx_mc250, List.forall_mem_cons.mpr ⟨sx_mc251, List.forall_mem_cons.mpr ⟨sx_mc252, List.forall_mem_cons.mpr ⟨sx_mc253, List.forall_mem_cons.mpr ⟨sx_mc254, List.forall_mem_cons.mpr ⟨sx_mc255, fun _ h => absurd h List.not_mem_nil⟩⟩⟩⟩⟩⟩⟩⟩⟩⟩⟩⟩⟩⟩⟩⟩⟩⟩⟩⟩⟩⟩⟩⟩⟩⟩⟩⟩⟩⟩⟩⟩
theorem sx_mcs8 : ∀ m ∈ sx_Ms8, Cond.code m.1 m.2.1 m.2.2.1 m.2.2.2.1 ∈ lw_tbl := List.forall_mem_cons.mpr ⟨sx_mc256, List.forall_mem_cons.mpr ⟨sx_mc257, List.forall_mem_cons.mpr ⟨sx_mc258, List.forall_mem_cons.mpr ⟨sx_mc259, List.forall_mem_cons.mpr ⟨sx_mc260, List.forall_mem_cons.mpr ⟨sx_mc261, List.forall_mem_cons.mpr ⟨sx_mc262, List.forall_mem_cons.mpr ⟨sx_mc263, List.forall_mem_cons.mpr ⟨sx_mc264, List.forall_mem_cons.mpr ⟨sx_mc265, List.forall_mem_cons.mpr ⟨sx_mc266, List.forall_mem_cons.mpr ⟨sx_mc267, List.forall_mem_cons.mpr ⟨sx_mc268, List.forall_mem_cons.mpr ⟨sx_mc269, List.forall_mem_cons.mpr ⟨sx_mc270, List.forall_mem_cons.mpr ⟨sx_mc271, List.forall_mem_cons.mpr ⟨sx_mc272, List.forall_mem_cons.mpr ⟨sx_mc273, List.forall_mem_cons.mpr ⟨sx_mc274, List.forall_mem_cons.mpr ⟨sx_mc275, List.forall_mem_cons.mpr ⟨sx_mc276, List.forall_mem_cons.mpr ⟨sx_mc277, List.forall_mem_cons.mpr ⟨sx_mc278, List.forall_mem_cons.mpr ⟨sx_mc279, List.forall_mem_cons.mpr ⟨sx_mc280, List.forall_mem_cons.mpr ⟨sx_mc281, List.forall_mem_cons.mpr ⟨sx_mc282, List.forall_mem_cons.mpr ⟨sx_mc283, List.forall_mem_cons.mpr ⟨sx_mc284, List.forall_mem_cons.mpr ⟨sx_mc285, List.forall_mem_cons.mpr ⟨sx_mc286, List.forall_mem_cons.mpr ⟨sx_mc287, fun _ h => absurd h List.not_mem_nil⟩⟩⟩⟩⟩⟩⟩⟩⟩⟩⟩⟩⟩⟩⟩⟩⟩⟩⟩⟩⟩⟩⟩⟩⟩⟩⟩⟩⟩⟩⟩⟩
theorem sx_mcs9 : ∀ m ∈ sx_Ms9, Cond.code m.1 m.2.1 m.2.2.1 m.2.2.2.1 ∈ lw_tbl := List.forall_mem_cons.mpr ⟨sx_mc288, List.forall_mem_cons.mpr ⟨sx_mc289, List.forall_mem_cons.mpr ⟨sx_mc290, List.forall_mem_cons.mpr ⟨sx_mc291, List.forall_mem_cons.mpr ⟨sx_mc292, List.forall_mem_cons.mpr ⟨sx_mc293, List.forall_mem_cons.mpr ⟨sx_mc294, List.forall_mem_cons.mpr ⟨sx_mc295, List.forall_mem_cons.mpr ⟨sx_mc296, List.forall_mem_cons.mpr ⟨sx_mc297, List.forall_mem_cons.mpr ⟨sx_mc298, List.forall_mem_cons.mpr ⟨sx_mc299, List.forall_mem_cons.mpr ⟨sx_mc300, List.forall_mem_cons.mpr ⟨sx_mc301, List.forall_mem_cons.mpr ⟨sx_mc302, List.forall_mem_cons.mpr ⟨sx_mc303, List.forall_mem_cons.mpr ⟨sx_mc304, List.forall_mem_cons.mpr ⟨sx_mc305, List.forall_mem_cons.mpr ⟨sx_mc306, List.forall_mem_cons.mpr ⟨sx_mc307, List.forall_mem_cons.mpr ⟨sx_mc308, fun _ h => absurd h List.not_mem_nil⟩⟩⟩⟩⟩⟩⟩⟩⟩⟩⟩⟩⟩⟩⟩⟩⟩⟩⟩⟩⟩
theorem sx_mok0 : (sx_Ms0.zip sx_mw0).all (fun q => sx_mok q.1 q.2) = true := by decide +kernel
theorem sx_mok1 : (sx_Ms1.zip sx_mw1).all (fun q => sx_mok q.1 q.2) = true := by decide +kernel
theorem sx_mok2 : (sx_Ms2.zip sx_mw2).all (fun q => sx_mok q.1 q.2) = true := by decide +kernel
theorem sx_mok3 : (sx_Ms3.zip sx_mw3).all (fun q => sx_mok q.1 q.2) = true := by decide +kernel
theorem sx_mok4 : (sx_Ms4.zip sx_mw4).all (fun q => sx_mok q.1 q.2) = true := by decide +kernel
theorem sx_mok5 : (sx_Ms5.zip sx_mw5).all (fun q => sx_mok q.1 q.2) = true := by decide +kernel
theorem sx_mok6 : (sx_Ms6.zip sx_mw6).all (fun q => sx_mok q.1 q.2) = true := by decide +kernel
theorem sx_mok7 : (sx_Ms7.zip sx_mw7).all (fun q => sx_mok q.1 q.2) = true := by decide +kernel
theorem sx_mok8 : (sx_Ms8.zip sx_mw8).all (fun q => sx_mok q.1 q.2) = true := by decide +kernel
theorem sx_mok9 : (sx_Ms9.zip sx_mw9).all (fun q => sx_mok q.1 q.2) = true := by decide +kernel
def sx_fl0 : List (Nat × Nat × Nat × Nat × Nat) := [(0, 9, 0, 0, 542), (0, 15, 0, 1, 544), (0, 18, 0, 2, 546), (0, 22, 0, 3, 547), (0, 25, 0, 4, 548), (0, 28, 0, 5, 549), (0, 31, 0, 6, 550), (0, 34, 0, 7, 551), (0, 55, 9, 5, 469), (0, 67, 4, 8, 434), (0, 70, 4, 1, 413), (0, 73, 4, 4, 422), (1, 9, 1, 0, 174), (2, 9, 2, 0, 303), (2, 15, 2, 1, 304), (2, 19, 2, 2, 305), (2, 29, 2, 4, 309), (2, 32, 2, 3, 307), (2, 51, 2, 6, 312), (2, 66, 2, 5, 311), (3, 9, 3, 0, 516), (3, 15, 3, 1, 518), (3, 18, 3, 2, 519), (3, 22, 3, 3, 520), (3, 25, 3, 4, 521), (3, 30, 3, 5, 522), (3, 43, 9, 2, 460), (3, 48, 9, 3, 463), (3, 51, 9, 5, 468), (3, 55, 4, 0, 409), (3, 61, 9, 4, 466), (3, 64, 4, 8, 433), (4, 9, 4, 0, 407), (4, 15, 4, 1, 411), (4, 19, 4, 2, 415), (4, 22, 4, 3, 418), (4, 25, 4, 4, 420), (4, 28, 4, 5, 424), (4, 31, 4, 6, 427), (4, 34, 4, 7, 430), (4, 37, 4, 8, 432), (5, 9, 5, 2, 195), (5, 15, 5, 3, 201), (5, 18, 5, 5, 209), (5, 21, 5, 7, 215), (5, 24, 5, 8, 217), (5, 27, 5, 9, 221), (5, 30, 5, 10, 224), (5, 33, 5, 11, 227), (5, 39, 5, 12, 231), (5, 43, 5, 15, 240), (5, 46, 5, 16, 243), (5, 49, 5, 17, 246), (5, 52, 5, 18, 249), (5, 58, 5, 0, 189), (5, 62, 5, 1, 192), (5, 71, 5, 4, 205), (5, 74, 5, 6, 211), (5, 77, 1, 0, 175), (5, 80, 5, 13, 235)]
def sx_fl1 : List (Nat × Nat × Nat × Nat × Nat) := [(5, 83, 5, 14, 237), (6, 9, 6, 0, 384), (6, 15, 6, 1, 385), (6, 18, 6, 2, 386), (6, 22, 5, 17, 247), (6, 28, 5, 18, 250), (6, 31, 5, 15, 241), (6, 34, 5, 16, 244), (7, 9, 7, 2, 579), (7, 15, 7, 3, 581), (7, 18, 7, 4, 582), (7, 27, 5, 2, 196), (7, 35, 7, 0, 575), (7, 47, 7, 1, 577), (8, 9, 8, 0, 600), (8, 15, 8, 1, 602), (8, 25, 5, 2, 197), (9, 9, 9, 2, 458), (9, 15, 9, 3, 461), (9, 18, 9, 4, 464), (9, 24, 9, 5, 467), (9, 28, 9, 6, 471), (9, 31, 9, 7, 473), (9, 35, 9, 8, 475), (9, 38, 9, 9, 477), (9, 41, 9, 10, 479), (9, 45, 9, 11, 481), (9, 48, 9, 1, 457), (9, 52, 9, 0, 456), (9, 56, 5, 13, 234), (9, 70, 4, 0, 408), (9, 73, 5, 6, 212), (9, 76, 5, 11, 228), (9, 95, 5, 9, 222), (9, 98, 5, 10, 225), (9, 105, 5, 3, 202), (9, 108, 5, 8, 218), (9, 111, 4, 1, 412), (9, 114, 4, 2, 416), (9, 117, 4, 5, 425), (9, 120, 4, 4, 421), (9, 144, 5, 2, 199), (9, 174, 4, 6, 429), (9, 207, 5, 4, 207), (9, 219, 4, 8, 436), (10, 9, 10, 0, 329), (10, 15, 10, 1, 331), (10, 18, 10, 2, 333), (10, 26, 10, 3, 335), (10, 30, 10, 5, 337), (10, 34, 10, 10, 342), (10, 37, 10, 4, 336), (10, 52, 10, 6, 338), (10, 56, 10, 7, 339), (10, 59, 10, 8, 340), (10, 62, 10, 9, 341), (10, 65, 10, 14, 346), (10, 72, 2, 3, 306), (10, 75, 2, 4, 308), (10, 106, 2, 5, 310)]
def sx_fl2 : List (Nat × Nat × Nat × Nat × Nat) := [(10, 113, 2, 6, 313), (10, 119, 5, 0, 190), (10, 122, 5, 1, 193), (10, 125, 5, 2, 200), (10, 128, 5, 4, 206), (10, 139, 5, 3, 204), (10, 142, 5, 5, 210), (10, 145, 5, 6, 213), (10, 151, 5, 7, 216), (10, 154, 5, 8, 220), (10, 157, 5, 9, 223), (10, 160, 5, 10, 226), (10, 163, 5, 11, 230), (10, 166, 5, 12, 232), (10, 170, 1, 0, 176), (10, 176, 5, 13, 236), (10, 179, 5, 18, 251), (10, 182, 5, 17, 248), (10, 188, 10, 11, 343), (10, 191, 10, 12, 344), (10, 194, 10, 13, 345), (10, 227, 5, 14, 238), (10, 230, 5, 15, 242), (10, 233, 5, 16, 245), (11, 11, 11, 0, 608), (11, 15, 11, 1, 609), (11, 22, 11, 2, 610), (11, 26, 11, 3, 611), (11, 34, 11, 4, 612), (11, 41, 11, 5, 613), (11, 50, 11, 6, 614), (11, 54, 11, 7, 615), (11, 57, 11, 8, 616), (11, 60, 11, 9, 617), (11, 67, 11, 10, 618), (11, 74, 11, 11, 619), (11, 81, 11, 12, 620), (11, 88, 11, 13, 621), (11, 107, 10, 0, 330), (11, 112, 3, 0, 517), (11, 118, 10, 2, 334), (11, 121, 10, 1, 332), (11, 142, 9, 2, 459), (11, 146, 5, 8, 219), (11, 149, 9, 3, 462), (11, 152, 9, 4, 465), (11, 155, 5, 11, 229), (11, 166, 5, 3, 203), (11, 169, 5, 2, 198), (11, 172, 9, 5, 470), (11, 187, 4, 1, 414), (11, 190, 4, 2, 417), (11, 193, 4, 3, 419), (11, 196, 4, 4, 423), (11, 199, 4, 5, 426), (11, 202, 4, 6, 428), (11, 205, 4, 7, 431), (11, 208, 4, 8, 435), (11, 234, 4, 0, 410), (11, 255, 9, 11, 482)]
def sx_fl3 : List (Nat × Nat × Nat × Nat × Nat) := [(11, 267, 9, 7, 474), (11, 273, 9, 8, 476), (11, 285, 9, 9, 478), (11, 294, 9, 6, 472), (11, 297, 5, 4, 208), (11, 304, 0, 0, 543), (11, 308, 0, 1, 545), (11, 325, 7, 0, 576), (11, 328, 7, 1, 578), (11, 330, 7, 2, 580), (11, 337, 5, 12, 233), (11, 373, 8, 0, 601), (11, 383, 9, 10, 480), (11, 408, 5, 0, 191), (11, 411, 5, 1, 194), (11, 414, 5, 6, 214), (11, 417, 5, 14, 239), (12, 7, 12, 0, 1516), (12, 13, 12, 3, 1519), (12, 16, 12, 5, 1521), (12, 20, 12, 30, 1546), (12, 23, 12, 31, 1547), (12, 26, 12, 32, 1548), (12, 29, 12, 33, 1549), (12, 32, 12, 34, 1550), (12, 35, 12, 35, 1551), (12, 38, 12, 36, 1552), (12, 41, 12, 37, 1553), (12, 44, 12, 38, 1554), (12, 47, 12, 39, 1555), (12, 51, 12, 40, 1556), (12, 54, 12, 41, 1557), (12, 57, 12, 42, 1558), (12, 60, 12, 43, 1559), (12, 63, 12, 44, 1560), (12, 66, 12, 46, 1562), (12, 69, 12, 47, 1563), (12, 72, 12, 54, 1570), (12, 76, 12, 55, 1571), (12, 79, 12, 57, 1573), (12, 82, 12, 58, 1574), (12, 85, 12, 59, 1575), (12, 88, 12, 60, 1576), (12, 91, 12, 61, 1577), (12, 94, 12, 62, 1578), (12, 97, 12, 63, 1579), (12, 100, 12, 64, 1580), (12, 103, 12, 65, 1581), (12, 106, 12, 66, 1582), (12, 109, 12, 67, 1583), (12, 112, 12, 68, 1584), (12, 115, 12, 69, 1585), (12, 118, 12, 70, 1586), (12, 121, 12, 71, 1587), (12, 124, 12, 75, 1591), (12, 127, 12, 76, 1592), (12, 130, 12, 77, 1593), (12, 133, 12, 78, 1594), (12, 136, 12, 79, 1595), (12, 139, 12, 80, 1596)]
def sx_fl4 : List (Nat × Nat × Nat × Nat × Nat) := [(12, 142, 12, 82, 1598), (12, 145, 12, 84, 1600), (12, 148, 12, 86, 1602), (12, 151, 12, 87, 1603), (12, 154, 12, 88, 1604), (12, 163, 12, 2, 1518), (12, 166, 12, 1, 1517), (12, 169, 12, 4, 1520), (12, 172, 12, 10, 1526), (12, 175, 12, 6, 1522), (12, 178, 12, 7, 1523), (12, 181, 12, 8, 1524), (12, 192, 12, 9, 1525), (12, 212, 12, 11, 1527), (12, 225, 12, 18, 1534), (12, 228, 12, 19, 1535), (12, 231, 12, 20, 1536), (12, 234, 12, 21, 1537), (12, 237, 12, 22, 1538), (12, 240, 12, 51, 1567), (12, 243, 12, 23, 1539), (12, 246, 12, 24, 1540), (12, 249, 12, 25, 1541), (12, 252, 12, 26, 1542), (12, 256, 12, 27, 1543), (12, 259, 12, 28, 1544), (12, 262, 12, 29, 1545), (12, 265, 12, 12, 1528), (12, 268, 12, 13, 1529), (12, 271, 12, 14, 1530), (12, 274, 12, 15, 1531), (12, 277, 12, 16, 1532), (12, 280, 12, 17, 1533), (12, 294, 12, 45, 1561), (12, 327, 12, 49, 1565), (12, 330, 12, 48, 1564), (12, 345, 12, 50, 1566), (12, 352, 12, 53, 1569), (12, 364, 12, 52, 1568), (12, 376, 12, 56, 1572), (12, 401, 12, 72, 1588), (12, 404, 12, 73, 1589), (12, 408, 12, 74, 1590), (12, 411, 12, 83, 1599), (12, 414, 12, 85, 1601), (12, 549, 12, 81, 1597), (12, 579, 12, 89, 1605), (12, 582, 12, 90, 1606), (12, 585, 12, 91, 1607), (12, 588, 12, 92, 1608)]
def sx_fl : List (Nat × Nat × Nat × Nat × Nat) := sx_fl0 ++ (sx_fl1 ++ (sx_fl2 ++ (sx_fl3 ++ (sx_fl4))))
def sx_flok (q : Nat × Nat × Nat × Nat × Nat) : Bool := decide (lw_tbl[q.2.2.2.2]? = some (.fieldLink (sx_rn q.1) q.2.1 (sx_cT q.2.2.1 q.2.2.2.1).1 (sx_cT q.2.2.1 q.2.2.2.1).2.1 (sx_cT q.2.2.1 q.2.2.2.1).2.2.1)) && decide (q.2.2.2.1 < sx_nf q.2.2.1) && decide (q.2.2.1 < 13)
theorem sx_flok0 : sx_fl0.all sx_flok = true := by decide +kernel
theorem sx_flok1 : sx_fl1.all sx_flok = true := by decide +kernel
theorem sx_flok2 : sx_fl2.all sx_flok = true := by decide +kernel
theorem sx_flok3 : sx_fl3.all sx_flok = true := by decide +kernel
theorem sx_flok4 : sx_fl4.all sx_flok = true := by decide +kernel
def sx_ml0 : List (Nat × Nat × Nat × Nat) := [(0, 37, 308, 1179), (0, 43, 4, 1171), (0, 47, 5, 1175), (0, 51, 7, 1180), (0, 61, 39, 1184), (1, 15, 9, 1259), (1, 19, 10, 1286), (1, 23, 11, 1282), (2, 22, 16, 673), (2, 25, 15, 677), (2, 35, 17, 681), (2, 39, 19, 684), (2, 42, 18, 733), (2, 45, 21, 736), (2, 48, 22, 744), (2, 54, 20, 688), (2, 76, 23, 748), (3, 33, 29, 1026), (4, 46, 34, 895), (4, 50, 35, 891), (4, 53, 36, 903), (5, 55, 44, 182), (5, 65, 308, 186), (5, 86, 45, 883), (5, 90, 51, 933), (5, 94, 52, 940), (6, 37, 58, 948), (6, 41, 59, 951), (6, 47, 61, 955), (6, 51, 62, 965), (6, 55, 63, 972), (6, 58, 60, 961), (7, 21, 45, 1226), (7, 31, 66, 1228), (7, 39, 67, 1233), (7, 43, 53, 1232), (7, 50, 68, 1237), (8, 19, 53, 1300), (8, 28, 45, 1309), (8, 32, 70, 1314), (8, 36, 74, 1315), (8, 40, 73, 1320), (9, 61, 308, 856), (9, 67, 77, 857), (9, 85, 32, 1339), (9, 89, 56, 925), (9, 101, 54, 929), (9, 123, 79, 921), (9, 127, 57, 944), (9, 147, 83, 1005), (9, 151, 81, 1006), (9, 155, 82, 1007), (9, 159, 33, 1018), (9, 163, 36, 1047), (9, 167, 80, 1068), (9, 170, 40, 1069), (9, 179, 35, 1091), (9, 192, 89, 1101), (9, 196, 87, 1109), (9, 200, 88, 1110)]
def sx_ml1 : List (Nat × Nat × Nat × Nat) := [(9, 204, 86, 1111), (9, 210, 93, 1120), (9, 213, 92, 1124), (9, 216, 45, 1125), (9, 222, 95, 1197), (9, 225, 94, 1201), (9, 228, 96, 1193), (10, 23, 13, 299), (10, 41, 44, 667), (10, 46, 308, 668), (10, 68, 14, 669), (10, 78, 106, 760), (10, 81, 107, 777), (10, 85, 108, 781), (10, 88, 109, 793), (10, 91, 110, 801), (10, 94, 111, 805), (10, 97, 112, 810), (10, 100, 101, 764), (10, 103, 16, 772), (10, 109, 103, 773), (10, 116, 104, 768), (10, 131, 105, 785), (10, 135, 49, 789), (10, 148, 50, 797), (10, 185, 113, 814), (10, 197, 114, 818), (10, 200, 115, 841), (10, 203, 120, 845), (10, 206, 117, 822), (10, 209, 121, 826), (10, 213, 118, 830), (10, 216, 119, 834), (10, 224, 116, 838), (11, 21, 43, 164), (11, 31, 98, 293), (11, 47, 75, 397), (11, 92, 124, 655), (11, 96, 99, 663), (11, 100, 100, 752), (11, 104, 102, 756), (11, 110, 76, 852), (11, 115, 1, 861), (11, 124, 49, 873), (11, 128, 50, 874), (11, 131, 48, 978), (11, 163, 46, 879), (11, 176, 38, 887), (11, 181, 39, 899), (11, 184, 34, 911), (11, 211, 35, 916), (11, 214, 80, 917), (11, 220, 81, 982), (11, 223, 171, 990), (11, 226, 53, 993), (11, 230, 83, 997), (11, 235, 84, 1001), (11, 239, 25, 1022), (11, 243, 26, 1035), (11, 247, 92, 1043)]
def sx_ml2 : List (Nat × Nat × Nat × Nat) := [(11, 251, 27, 1048), (11, 258, 28, 1052), (11, 261, 85, 1060), (11, 264, 86, 1064), (11, 270, 87, 1078), (11, 276, 88, 1087), (11, 279, 90, 1097), (11, 282, 91, 1116), (11, 288, 47, 1134), (11, 291, 93, 1138), (11, 300, 2, 1147), (11, 305, 3, 1155), (11, 311, 6, 1167), (11, 315, 97, 1189), (11, 318, 94, 1213), (11, 321, 65, 1222), (11, 331, 172, 1249), (11, 334, 173, 1252), (11, 341, 10, 1255), (11, 346, 9, 1263), (11, 349, 154, 1264), (11, 352, 174, 1275), (11, 355, 12, 1278), (11, 361, 70, 1296), (11, 365, 71, 1305), (11, 369, 72, 1310), (11, 376, 78, 1332), (11, 380, 41, 1348), (11, 387, 166, 1364), (11, 390, 308, 1368), (11, 396, 42, 1369), (11, 405, 30, 1378), (11, 420, 37, 1395), (11, 423, 4, 1399), (12, 157, 189, 1497), (12, 160, 191, 1501), (12, 184, 181, 1813), (12, 188, 180, 1817), (12, 195, 185, 1821), (12, 198, 182, 1825), (12, 202, 184, 1830), (12, 205, 179, 1838), (12, 208, 178, 1850), (12, 215, 183, 1809), (12, 218, 187, 1884), (12, 221, 188, 1846), (12, 283, 190, 1505), (12, 287, 224, 1508), (12, 290, 192, 1869), (12, 297, 194, 1857), (12, 301, 193, 1865), (12, 305, 195, 1842), (12, 308, 196, 1853), (12, 312, 197, 1861), (12, 315, 198, 1872), (12, 318, 199, 1876), (12, 321, 213, 1880), (12, 324, 200, 1834), (12, 333, 204, 1920), (12, 337, 206, 1923)]
def sx_ml3 : List (Nat × Nat × Nat × Nat) := [(12, 341, 205, 1908), (12, 348, 209, 1892), (12, 355, 186, 1896), (12, 358, 208, 1900), (12, 361, 210, 1904), (12, 367, 207, 1916), (12, 370, 211, 1888), (12, 373, 212, 1912), (12, 383, 214, 1996), (12, 387, 216, 2002), (12, 391, 215, 2006), (12, 395, 218, 1955), (12, 398, 223, 1512), (12, 417, 225, 2256), (12, 421, 227, 1980), (12, 424, 229, 1976), (12, 428, 217, 1992), (12, 432, 231, 1988), (12, 435, 233, 1959), (12, 438, 230, 1984), (12, 441, 232, 2025), (12, 445, 220, 1939), (12, 448, 235, 1943), (12, 451, 219, 1951), (12, 454, 222, 1967), (12, 459, 228, 2013), (12, 462, 302, 2017), (12, 465, 243, 2041), (12, 468, 244, 2049), (12, 471, 245, 2057), (12, 482, 249, 2069), (12, 485, 250, 2065), (12, 488, 234, 2081), (12, 491, 221, 2093), (12, 494, 256, 2105), (12, 497, 260, 2121), (12, 500, 262, 2137), (12, 503, 263, 2133), (12, 506, 264, 2129), (12, 509, 267, 2149), (12, 512, 270, 2165), (12, 515, 271, 2161), (12, 518, 273, 2173), (12, 521, 275, 2185), (12, 524, 276, 2181), (12, 527, 277, 2188), (12, 530, 280, 2211), (12, 533, 281, 2207), (12, 537, 282, 2199), (12, 540, 283, 2203), (12, 544, 286, 2223), (12, 552, 290, 2240), (12, 556, 288, 2232), (12, 560, 289, 2236), (12, 564, 226, 2252), (12, 567, 293, 2260), (12, 570, 295, 2268), (12, 573, 300, 2021), (12, 576, 301, 2288), (12, 591, 306, 2304)]
def sx_ml : List (Nat × Nat × Nat × Nat) := sx_ml0 ++ (sx_ml1 ++ (sx_ml2 ++ (sx_ml3)))
def sx_mlok (q : Nat × Nat × Nat × Nat) : Bool := decide (lw_tbl[q.2.2.2]? = some (.methodLink (sx_rn q.1) q.2.1 (sx_M q.2.2.1).1))
theorem sx_mlok0 : sx_ml0.all sx_mlok = true := by decide +kernel
theorem sx_mlok1 : sx_ml1.all sx_mlok = true := by decide +kernel
theorem sx_mlok2 : sx_ml2.all sx_mlok = true := by decide +kernel
theorem sx_mlok3 : sx_ml3.all sx_mlok = true := by decide +kernel
def sx_cn : List (Nat × Nat × Nat × Nat × Nat) := [(2, 69, 1000000, 0, 740), (7, 30, 1000000, 0, 1227), (10, 175, 99999, 0, 809), (12, 201, 99999, 0, 1829)]
def sx_sg (m s : Nat) : Int := match s with
  | 0 => (m : Int)
  | _ => -(m : Int)
theorem sx_cnok : sx_cn.all (fun q => decide (lw_tbl[q.2.2.2.2]? = some (.constant (sx_rn q.1) q.2.1 (Int32.ofInt (sx_sg q.2.2.1 q.2.2.2.1)))) && decide (sx_r32 (sx_sg q.2.2.1 q.2.2.2.1)) && decide (q.2.2.2.1 < 2)) = true := by decide +kernel
def sx_cj : List (Nat × Nat × Nat × Nat × Nat) := [(6, 45, 9223372036854775808, 1, 976), (6, 62, 1000000000000, 0, 959), (6, 64, 1000000000000, 1, 960), (8, 43, 1, 1, 1319), (9, 131, 9223372036854775808, 1, 1010), (9, 133, 99, 0, 1011), (9, 184, 1103515245, 0, 1105), (9, 186, 12345, 0, 1106), (9, 188, 2147483647, 0, 1107), (9, 190, 65536, 0, 1108), (11, 218, 9223372036854775808, 1, 977), (11, 359, 1, 1, 1295), (12, 379, 1000000000000, 0, 2000), (12, 381, 1000000000000, 1, 2001), (12, 457, 9223372036854775808, 1, 1975), (12, 474, 1103515245, 0, 2073), (12, 476, 12345, 0, 2074), (12, 478, 2147483647, 0, 2075), (12, 480, 65536, 0, 2076), (12, 547, 1, 1, 2227)]
theorem sx_cjok : sx_cj.all (fun q => decide (lw_tbl[q.2.2.2.2]? = some (.constantLong (sx_rn q.1) q.2.1 (Int64.ofInt (sx_sg q.2.2.1 q.2.2.2.1)))) && decide (sx_r64 (sx_sg q.2.2.1 q.2.2.2.1)) && decide (q.2.2.2.1 < 2)) = true := by decide +kernel
def sx_bn : Nat → MethodName := fun c => match c with
  | 0 => Lib.Math.max.name
  | 1 => Lib.Math.min.name
  | 2 => Lib.Math.abs.name
  | 3 => Lib.MathLoose.max_long.x
  | 4 => Lib.MathLoose.min_long.x
  | 5 => Lib.MathLoose.abs_long.x
  | _ => arraycopyName
def sx_bl : List (Nat × Nat × Nat × Nat) := [(2, 70, 1, 741), (3, 37, 1, 1030), (3, 58, 0, 1382), (4, 40, 6, 1343), (4, 56, 0, 1073), (5, 97, 2, 937), (6, 66, 5, 969), (9, 79, 6, 1336), (9, 135, 4, 1012), (9, 141, 3, 1015), (9, 177, 1, 1082), (9, 182, 0, 1092), (10, 219, 0, 849), (11, 399, 6, 1373)]
theorem sx_blok : sx_bl.all (fun q => decide (lw_tbl[q.2.2.2]? = some (.methodLink (sx_rn q.1) q.2.1 (sx_bn q.2.2.1)))) = true := by decide +kernel
theorem sx_bs0 : Cond.static Lib.Math.max.name ∈ lw_tbl := List.mem_of_getElem? (i := 850) (by decide +kernel)
theorem sx_bs1 : Cond.static Lib.Math.min.name ∈ lw_tbl := List.mem_of_getElem? (i := 742) (by decide +kernel)
theorem sx_bs2 : Cond.static Lib.Math.abs.name ∈ lw_tbl := List.mem_of_getElem? (i := 938) (by decide +kernel)
theorem sx_bs3 : Cond.static Lib.MathLoose.max_long.x ∈ lw_tbl := List.mem_of_getElem? (i := 1016) (by decide +kernel)
theorem sx_bs4 : Cond.static Lib.MathLoose.min_long.x ∈ lw_tbl := List.mem_of_getElem? (i := 1013) (by decide +kernel)
theorem sx_bs5 : Cond.static Lib.MathLoose.abs_long.x ∈ lw_tbl := List.mem_of_getElem? (i := 970) (by decide +kernel)
theorem sx_bs6 : Cond.static arraycopyName ∈ lw_tbl := List.mem_of_getElem? (i := 1337) (by decide +kernel)
theorem sx_bc0 : Cond.code Lib.Math.max.name Lib.Math.max.code 2 (some .int) ∈ lw_tbl := List.mem_of_getElem? (i := 851) (by decide +kernel)
theorem sx_bc1 : Cond.code Lib.Math.min.name Lib.Math.min.code 2 (some .int) ∈ lw_tbl := List.mem_of_getElem? (i := 743) (by decide +kernel)
theorem sx_bc2 : Cond.code Lib.Math.abs.name Lib.Math.abs.code 1 (some .int) ∈ lw_tbl := List.mem_of_getElem? (i := 939) (by decide +kernel)
theorem sx_bc3 : Cond.code Lib.MathLoose.max_long.x Lib.MathLoose.max_long.code 4 (some .long) ∈ lw_tbl := List.mem_of_getElem? (i := 1017) (by decide +kernel)
theorem sx_bc4 : Cond.code Lib.MathLoose.min_long.x Lib.MathLoose.min_long.code 4 (some .long) ∈ lw_tbl := List.mem_of_getElem? (i := 1014) (by decide +kernel)
theorem sx_bc5 : Cond.code Lib.MathLoose.abs_long.x Lib.MathLoose.abs_long.code 2 (some .long) ∈ lw_tbl := List.mem_of_getElem? (i := 971) (by decide +kernel)
theorem sx_bi0 : Cond.initialized "java/lang/Math" ∈ lw_tbl := List.mem_of_getElem? (i := 147) (by decide +kernel)
theorem sx_bi1 : Cond.initialized "java/lang/System" ∈ lw_tbl := List.mem_of_getElem? (i := 153) (by decide +kernel)
theorem sx_bv : Cond.native arraycopyName ∈ lw_tbl := List.mem_of_getElem? (i := 1338) (by decide +kernel)
theorem sx_lay0 : ∀ w ∈ u_ws RX0 TX0 8, w ∈ lw_tbl := (goodIn_r9 _ [552, 554, 556, 558, 560, 562, 564, 566] (by decide +kernel))
theorem sx_lay1 : ∀ w ∈ u_ws RX1 TX1 1, w ∈ lw_tbl := (goodIn_r9 _ [177] (by decide +kernel))
theorem sx_lay2 : ∀ w ∈ u_ws RX2 TX2 7, w ∈ lw_tbl := (goodIn_r9 _ [314, 316, 318, 320, 322, 324, 326] (by decide +kernel))
theorem sx_lay3 : ∀ w ∈ u_ws RX3 TX3 6, w ∈ lw_tbl := (goodIn_r9 _ [523, 525, 527, 529, 531, 533] (by decide +kernel))
theorem sx_lay4 : ∀ w ∈ u_ws RX4 TX4 9, w ∈ lw_tbl := (goodIn_r9 _ [437, 439, 441, 443, 445, 447, 449, 451, 453] (by decide +kernel))
theorem sx_lay5 : ∀ w ∈ u_ws RX5 TX5 19, w ∈ lw_tbl := (goodIn_r9 _ [252, 254, 256, 258, 260, 262, 264, 266, 268, 270, 272, 274, 276, 278, 280, 282, 284, 286, 288] (by decide +kernel))
theorem sx_lay6 : ∀ w ∈ u_ws RX6 TX6 3, w ∈ lw_tbl := (goodIn_r9 _ [387, 389, 391] (by decide +kernel))
theorem sx_lay7 : ∀ w ∈ u_ws RX7 TX7 5, w ∈ lw_tbl := (goodIn_r9 _ [583, 585, 587, 589, 591] (by decide +kernel))
theorem sx_lay8 : ∀ w ∈ u_ws RX8 TX8 2, w ∈ lw_tbl := (goodIn_r9 _ [603, 605] (by decide +kernel))
theorem sx_lay9 : ∀ w ∈ u_ws RX9 TX9 12, w ∈ lw_tbl := (goodIn_r9 _ [483, 485, 487, 489, 491, 493, 495, 497, 499, 501, 503, 505] (by decide +kernel))
theorem sx_lay10 : ∀ w ∈ u_ws RX10 TX10 15, w ∈ lw_tbl := (goodIn_r9 _ [347, 349, 351, 353, 355, 357, 359, 361, 363, 365, 367, 369, 371, 373, 375] (by decide +kernel))
theorem sx_lay11 : ∀ w ∈ u_ws RX11 TX11 14, w ∈ lw_tbl := (goodIn_r9 _ [622, 624, 626, 628, 630, 632, 634, 636, 638, 640, 642, 644, 646, 648] (by decide +kernel))
theorem sx_lay12 : ∀ w ∈ u_ws RX12 TX12 93, w ∈ lw_tbl := (goodIn_r9 _ [1609, 1611, 1613, 1615, 1617, 1619, 1621, 1623, 1625, 1627, 1629, 1631, 1633, 1635, 1637, 1639, 1641, 1643, 1645, 1647, 1649, 1651, 1653, 1655, 1657, 1659, 1661, 1663, 1665, 1667, 1669, 1671, 1673, 1675, 1677, 1679, 1681, 1683, 1685, 1687, 1689, 1691, 1693, 1695, 1697, 1699, 1701, 1703, 1705, 1707, 1709, 1711, 1713, 1715, 1717, 1719, 1721, 1723, 1725, 1727, 1729, 1731, 1733, 1735, 1737, 1739, 1741, 1743, 1745, 1747, 1749, 1751, 1753, 1755, 1757, 1759, 1761, 1763, 1765, 1767, 1769, 1771, 1773, 1775, 1777, 1779, 1781, 1783, 1785, 1787, 1789, 1791, 1793] (by decide +kernel))
