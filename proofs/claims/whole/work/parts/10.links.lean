def MJ6_bitCount_0f7a4 : mM := (yJ6_bitCount_0f7a4, cJ6_bitCount_0f7a4, 1, (some .int))
def MJ0_length_8abf5 : mM := (yJ0_length_8abf5, cJ0_length_8abf5, 1, (some .int))
def MJ0_charAt_5068e : mM := (yJ0_charAt_5068e, cJ0_charAt_5068e, 2, (some .char))
def MJ0_indexOf_0f7a4 : mM := (yJ0_indexOf_0f7a4, cJ0_indexOf_0f7a4, 2, (some .int))
def MJ0_indexOf_7cf53 : mM := (yJ0_indexOf_7cf53, cJ0_indexOf_7cf53, 3, (some .int))
def MJ0_coder_7d493 : mM := (yJ0_coder_7d493, cJ0_coder_7d493, 1, (some .byte))
def MJ0_isLatin1_aae02 : mM := (yJ0_isLatin1_aae02, cJ0_isLatin1_aae02, 1, (some .boolean))
def MJ0_checkIndex_df160 : mM := (yJ0_checkIndex_df160, cJ0_checkIndex_df160, 2, none)
def MJ1_charAt_3b067 : mM := (yJ1_charAt_3b067, cJ1_charAt_3b067, 2, (some .char))
def MJ1_canEncode_9a6ad : mM := (yJ1_canEncode_9a6ad, cJ1_canEncode_9a6ad, 1, (some .boolean))
def MJ1_indexOf_4cfef : mM := (yJ1_indexOf_4cfef, cJ1_indexOf_4cfef, 4, (some .int))
def MJ1_indexOfChar_4cfef : mM := (yJ1_indexOfChar_4cfef, cJ1_indexOfChar_4cfef, 6, (some .int))
def MJ3_checkIndex_8e157 : mM := (yJ3_checkIndex_8e157, cJ3_checkIndex_8e157, 3, (some .int))
def MX1_copyFrom : mM := (yX1_copyFrom, cX1_copyFrom, 2, none)
def MX1_isCell : mM := (yX1_isCell, cX1_isCell, 1, (some .boolean))
def MX1_apart : mM := (yX1_apart, cX1_apart, 4, (some .int))
def MX1_has : mM := (yX1_has, cX1_has, 2, (some .boolean))
def MX1_kindOf : mM := (yX1_kindOf, cX1_kindOf, 2, (some .int))
def MX1_cellOf : mM := (yX1_cellOf, cX1_cellOf, 2, (some .int))
def MX1_friendOf : mM := (yX1_friendOf, cX1_friendOf, 2, (some .int))
def MX1_tiredOf : mM := (yX1_tiredOf, cX1_tiredOf, 2, (some .int))
def MX1_isStanding : mM := (yX1_isStanding, cX1_isStanding, 2, (some .boolean))
def MX1_isCatcher : mM := (yX1_isCatcher, cX1_isCatcher, 2, (some .boolean))
def MX1_freedBy : mM := (yX1_freedBy, cX1_freedBy, 3, (some .int))
def MX1_childrenCount : mM := (yX1_childrenCount, cX1_childrenCount, 1, (some .int))
def MX1_standingBits : mM := (yX1_standingBits, cX1_standingBits, 1, (some .int))
def MX1_standingCount : mM := (yX1_standingCount, cX1_standingCount, 1, (some .int))
def MX1_lawNow : mM := (yX1_lawNow, cX1_lawNow, 1, (some .int))
def MX1_secondNow : mM := (yX1_secondNow, cX1_secondNow, 1, (some .int))
def MX1_freeingsSinceCopied : mM := (yX1_freeingsSinceCopied, cX1_freeingsSinceCopied, 1, (some .int))
def MX1_catcherCount : mM := (yX1_catcherCount, cX1_catcherCount, 1, (some .int))
def MX1_tiredSum : mM := (yX1_tiredSum, cX1_tiredSum, 3, (some .int))
def MX1_freedSum : mM := (yX1_freedSum, cX1_freedSum, 3, (some .int))
def MX1_hasPlayers : mM := (yX1_hasPlayers, cX1_hasPlayers, 1, (some .boolean))
def MX1_isOver : mM := (yX1_isOver, cX1_isOver, 1, (some .boolean))
def MX1_add : mM := (yX1_add, cX1_add, 5, (some .boolean))
def MX1_turnOver : mM := (yX1_turnOver, cX1_turnOver, 2, (some .boolean))
def MX1_setLaw : mM := (yX1_setLaw, cX1_setLaw, 2, (some .boolean))
def MX1_put : mM := (yX1_put, cX1_put, 3, (some .boolean))
def MX1_setKind : mM := (yX1_setKind, cX1_setKind, 3, none)
def MX1_setAside : mM := (yX1_setAside, cX1_setAside, 2, none)
def MX1_exchange : mM := (yX1_exchange, cX1_exchange, 4, none)
def MX1_scatter : mM := (yX1_scatter, cX1_scatter, 4, (some .int))
def MX1_couldFree : mM := (yX1_couldFree, cX1_couldFree, 3, (some .int))
def MX1_hasFreerFor : mM := (yX1_hasFreerFor, cX1_hasFreerFor, 3, (some .boolean))
def MX1_catcherApart : mM := (yX1_catcherApart, cX1_catcherApart, 4, (some .int))
def MX1_passMany : mM := (yX1_passMany, cX1_passMany, 3, none)
def MX1_pass : mM := (yX1_pass, cX1_pass, 2, none)
def MX1_playerActs : mM := (yX1_playerActs, cX1_playerActs, 4, none)
def MX1_tire : mM := (yX1_tire, cX1_tire, 3, none)
def MX1_freesOrFetches : mM := (yX1_freesOrFetches, cX1_freesOrFetches, 5, (some .boolean))
def MX1_setFree : mM := (yX1_setFree, cX1_setFree, 6, none)
def MX1_catcherActs : mM := (yX1_catcherActs, cX1_catcherActs, 5, none)
def MX1_guards : mM := (yX1_guards, cX1_guards, 3, none)
def MX1_letRun : mM := (yX1_letRun, cX1_letRun, 2, none)
def MX1_leastBeside : mM := (yX1_leastBeside, cX1_leastBeside, 4, (some .int))
def MX1_nearest : mM := (yX1_nearest, cX1_nearest, 7, (some .int))
def MX1_playerBits : mM := (yX1_playerBits, cX1_playerBits, 3, (some .int))
def MX1_runningBits : mM := (yX1_runningBits, cX1_runningBits, 1, (some .int))
def MX1_safeBits : mM := (yX1_safeBits, cX1_safeBits, 3, (some .int))
def MX1_freeableBits : mM := (yX1_freeableBits, cX1_freeableBits, 2, (some .int))
def MX1_isEdge : mM := (yX1_isEdge, cX1_isEdge, 3, (some .boolean))
def MX1_stepAway : mM := (yX1_stepAway, cX1_stepAway, 6, none)
def MX1_stepToward : mM := (yX1_stepToward, cX1_stepToward, 7, none)
def MX1_cellBehind : mM := (yX1_cellBehind, cX1_cellBehind, 4, (some .int))
def MX0_hasRoom : mM := (yX0_hasRoom, cX0_hasRoom, 1, (some .boolean))
def MX0_size : mM := (yX0_size, cX0_size, 1, (some .int))
def MX0_statementCount : mM := (yX0_statementCount, cX0_statementCount, 1, (some .int))
def MX0_hear : mM := (yX0_hear, cX0_hear, 2, (some .int))
def MX0_forget : mM := (yX0_forget, cX0_forget, 1, none)
def MX0_firstMisfit : mM := (yX0_firstMisfit, cX0_firstMisfit, 4, (some .int))
def MX0_tellTo : mM := (yX0_tellTo, cX0_tellTo, 3, (some .int))
def MX0_tellStatement : mM := (yX0_tellStatement, cX0_tellStatement, 3, (some .boolean))
def MX0_shapeAt : mM := (yX0_shapeAt, cX0_shapeAt, 2, (some (.object "java/lang/String")))
def MX0_fitsShape : mM := (yX0_fitsShape, cX0_fitsShape, 2, (some .boolean))
def MX0_signAt : mM := (yX0_signAt, cX0_signAt, 2, (some .int))
def MX0_kindAt : mM := (yX0_kindAt, cX0_kindAt, 2, (some .int))
def MX0_digitAt : mM := (yX0_digitAt, cX0_digitAt, 2, (some .int))
def MX0_cellAt : mM := (yX0_cellAt, cX0_cellAt, 2, (some .int))
def MX2_letter : mM := (yX2_letter, cX2_letter, 2, (some .int))
def MX2_yard : mM := (yX2_yard, cX2_yard, 2, (some .int))
def MX2_child : mM := (yX2_child, cX2_child, 3, (some .int))
def MX2_go : mM := (yX2_go, cX2_go, 4, (some .int))
def MX2_touch : mM := (yX2_touch, cX2_touch, 2, (some .int))
def MX2_law : mM := (yX2_law, cX2_law, 3, (some .int))
def MX2_far : mM := (yX2_far, cX2_far, 3, (some .int))
def MX2_seconds : mM := (yX2_seconds, cX2_seconds, 3, (some .int))
def MX2_stand : mM := (yX2_stand, cX2_stand, 3, (some .int))
def MX2_where : mM := (yX2_where, cX2_where, 4, (some .int))
def MX2_over : mM := (yX2_over, cX2_over, 1, (some .int))
def MX2_mean : mM := (yX2_mean, cX2_mean, 7, (some .long))
def MX2_frees : mM := (yX2_frees, cX2_frees, 3, (some .int))
def MX2_never : mM := (yX2_never, cX2_never, 5, (some .int))
def MX2_mayFree : mM := (yX2_mayFree, cX2_mayFree, 2, (some .int))
def MX2_worth : mM := (yX2_worth, cX2_worth, 4, (some .int))
def MX2_hunt : mM := (yX2_hunt, cX2_hunt, 9, (some .int))
def MX2_enough : mM := (yX2_enough, cX2_enough, 2, (some .int))
def MX2_change : mM := (yX2_change, cX2_change, 8, (some .int))
def MX2_longest : mM := (yX2_longest, cX2_longest, 6, (some .int))
def MX2_owes : mM := (yX2_owes, cX2_owes, 3, (some .int))
def MX2_debt : mM := (yX2_debt, cX2_debt, 4, (some .int))
def MX2_why : mM := (yX2_why, cX2_why, 6, (some .int))
def MX2_row : mM := (yX2_row, cX2_row, 3, (some .int))
def MX2_fits : mM := (yX2_fits, cX2_fits, 4, (some .int))
def MX2_judge : mM := (yX2_judge, cX2_judge, 2, (some .int))
def MX2_lots : mM := (yX2_lots, cX2_lots, 7, (some .int))
def MX2_image : mM := (yX2_image, cX2_image, 1, (some .int))
def MX2_on : mM := (yX2_on, cX2_on, 1, (some .int))
def MX2_count : mM := (yX2_count, cX2_count, 2, (some .int))
def MX2_refuse : mM := (yX2_refuse, cX2_refuse, 3, (some .int))
def MX2_outside : mM := (yX2_outside, cX2_outside, 3, (some .int))
def MX2_readLetters : mM := (yX2_readLetters, cX2_readLetters, 3, (some .int))
def MX2_secondsTillOver : mM := (yX2_secondsTillOver, cX2_secondsTillOver, 2, (some .int))
def MX2_standingOver : mM := (yX2_standingOver, cX2_standingOver, 4, (some .int))
def MX2_othersStanding : mM := (yX2_othersStanding, cX2_othersStanding, 4, (some .int))
def MX2_addCatchers : mM := (yX2_addCatchers, cX2_addCatchers, 3, (some .boolean))
def MX2_firstUntrue : mM := (yX2_firstUntrue, cX2_firstUntrue, 2, (some .int))
def MX2_greatestShared : mM := (yX2_greatestShared, cX2_greatestShared, 3, (some .int))
def MX3_no : mM := (yX3_no, cX3_no, 2, (some .int))
def MX3_lower : mM := (yX3_lower, cX3_lower, 2, (some .int))
def MX3_lowest : mM := (yX3_lowest, cX3_lowest, 2, (some .long))
def MX3_isIn : mM := (yX3_isIn, cX3_isIn, 3, (some .boolean))
def MX3_bound : mM := (yX3_bound, cX3_bound, 3, (some .int))
def MX3_bits : mM := (yX3_bits, cX3_bits, 3, (some .int))
def MX3_apart : mM := (yX3_apart, cX3_apart, 2, (some .int))
def MX3_isCell : mM := (yX3_isCell, cX3_isCell, 1, (some .boolean))
def MX3_farOf : mM := (yX3_farOf, cX3_farOf, 2, (some .int))
def MX3_isEdge : mM := (yX3_isEdge, cX3_isEdge, 1, (some .boolean))
def MX3_isChild : mM := (yX3_isChild, cX3_isChild, 2, (some .boolean))
def MX3_isCatcher : mM := (yX3_isCatcher, cX3_isCatcher, 2, (some .boolean))
def MX3_letter : mM := (yX3_letter, cX3_letter, 3, (some .int))
def MX3_next : mM := (yX3_next, cX3_next, 1, (some .int))
def MX3_readsDigits : mM := (yX3_readsDigits, cX3_readsDigits, 5, (some .boolean))
def MX3_kindOf : mM := (yX3_kindOf, cX3_kindOf, 1, (some .int))
def MX3_readsChild : mM := (yX3_readsChild, cX3_readsChild, 2, (some .boolean))
def MX3_statement : mM := (yX3_statement, cX3_statement, 4, (some .boolean))
def MX3_comesChild : mM := (yX3_comesChild, cX3_comesChild, 5, none)
def MX3_comes : mM := (yX3_comes, cX3_comes, 3, (some .boolean))
def MX3_yard : mM := (yX3_yard, cX3_yard, 3, (some .int))
def MX3_passes : mM := (yX3_passes, cX3_passes, 3, none)
def MX3_passOne : mM := (yX3_passOne, cX3_passOne, 3, (some .int))
def MX3_passesAll : mM := (yX3_passesAll, cX3_passesAll, 3, none)
def MX3_image : mM := (yX3_image, cX3_image, 1, (some .int))
def MX3_on : mM := (yX3_on, cX3_on, 1, (some .int))
def MX3_stepOf : mM := (yX3_stepOf, cX3_stepOf, 2, (some .int))
def MX3_farFromCatchers : mM := (yX3_farFromCatchers, cX3_farFromCatchers, 4, (some .int))
def MX3_away : mM := (yX3_away, cX3_away, 5, (some .int))
def MX3_toward : mM := (yX3_toward, cX3_toward, 5, (some .int))
def MX3_doesMay : mM := (yX3_doesMay, cX3_doesMay, 3, (some .boolean))
def MX3_nearMay : mM := (yX3_nearMay, cX3_nearMay, 3, (some .int))
def MX3_nearestMay : mM := (yX3_nearestMay, cX3_nearestMay, 4, (some .int))
def MX3_free : mM := (yX3_free, cX3_free, 4, none)
def MX3_freesAll : mM := (yX3_freesAll, cX3_freesAll, 4, none)
def MX3_runsTo : mM := (yX3_runsTo, cX3_runsTo, 4, (some .int))
def MX3_isRunner : mM := (yX3_isRunner, cX3_isRunner, 2, (some .boolean))
def MX3_touches : mM := (yX3_touches, cX3_touches, 3, (some .boolean))
def MX3_nearest : mM := (yX3_nearest, cX3_nearest, 5, (some .int))
def MX3_hunts : mM := (yX3_hunts, cX3_hunts, 3, (some .int))
def MX3_catches : mM := (yX3_catches, cX3_catches, 3, none)
def MX3_less : mM := (yX3_less, cX3_less, 1, (some .int))
def MX3_goesOn : mM := (yX3_goesOn, cX3_goesOn, 3, none)
def MX3_goes : mM := (yX3_goes, cX3_goes, 2, none)
def MX3_standBits : mM := (yX3_standBits, cX3_standBits, 3, (some .int))
def MX3_runnersMany : mM := (yX3_runnersMany, cX3_runnersMany, 3, (some .int))
def MX3_child : mM := (yX3_child, cX3_child, 3, (some .int))
def MX3_go : mM := (yX3_go, cX3_go, 4, (some .int))
def MX3_touch : mM := (yX3_touch, cX3_touch, 3, (some .int))
def MX3_law : mM := (yX3_law, cX3_law, 3, (some .int))
def MX3_far : mM := (yX3_far, cX3_far, 3, (some .int))
def MX3_seconds : mM := (yX3_seconds, cX3_seconds, 4, (some .int))
def MX3_goesInMind : mM := (yX3_goesInMind, cX3_goesInMind, 4, none)
def MX3_stand : mM := (yX3_stand, cX3_stand, 3, (some .int))
def MX3_where : mM := (yX3_where, cX3_where, 4, (some .int))
def MX3_overIn : mM := (yX3_overIn, cX3_overIn, 2, (some .int))
def MX3_over : mM := (yX3_over, cX3_over, 1, (some .int))
def MX3_divisor : mM := (yX3_divisor, cX3_divisor, 10, (some .long))
def MX3_mean : mM := (yX3_mean, cX3_mean, 8, (some .long))
def MX3_frees : mM := (yX3_frees, cX3_frees, 3, (some .int))
def MX3_never : mM := (yX3_never, cX3_never, 3, (some .int))
def MX3_mayFree : mM := (yX3_mayFree, cX3_mayFree, 2, (some .int))
def MX3_othersStand : mM := (yX3_othersStand, cX3_othersStand, 4, (some .int))
def MX3_worth : mM := (yX3_worth, cX3_worth, 4, (some .int))
def MX3_hunt : mM := (yX3_hunt, cX3_hunt, 9, (some .int))
def MX3_enough : mM := (yX3_enough, cX3_enough, 4, (some .int))
def MX3_standAfterChange : mM := (yX3_standAfterChange, cX3_standAfterChange, 5, (some .int))
def MX3_changes : mM := (yX3_changes, cX3_changes, 4, none)
def MX3_change : mM := (yX3_change, cX3_change, 9, (some .int))
def MX3_longest : mM := (yX3_longest, cX3_longest, 6, (some .int))
def MX3_owes : mM := (yX3_owes, cX3_owes, 3, (some .int))
def MX3_debt : mM := (yX3_debt, cX3_debt, 4, (some .int))
def MX3_isMayed : mM := (yX3_isMayed, cX3_isMayed, 3, (some .boolean))
def MX3_isWatched : mM := (yX3_isWatched, cX3_isWatched, 5, (some .boolean))
def MX3_why : mM := (yX3_why, cX3_why, 4, (some .int))
def MX3_row : mM := (yX3_row, cX3_row, 3, (some .int))
def MX3_wrongAt : mM := (yX3_wrongAt, cX3_wrongAt, 3, (some .int))
def MX3_fits : mM := (yX3_fits, cX3_fits, 5, (some .int))
def MX3_judge : mM := (yX3_judge, cX3_judge, 2, (some .int))
def MX3_lots : mM := (yX3_lots, cX3_lots, 9, (some .int))
def MX3_count : mM := (yX3_count, cX3_count, 4, (some .int))
theorem qJ0_335 : mlk RJ0 335 MJ0_coder_7d493 false 0 = true := by decide +kernel
theorem qJ0_492 : mlk RJ0 492 MJ0_isLatin1_aae02 false 0 = true := by decide +kernel
theorem qJ0_495 : mlk RJ0 495 MJ1_charAt_3b067 true 2 = true := by decide +kernel
theorem qJ0_505 : mlk RJ0 505 MJ0_length_8abf5 false 0 = true := by decide +kernel
theorem qJ0_633 : mlk RJ0 633 MJ0_indexOf_7cf53 false 2 = true := by decide +kernel
theorem qJ0_637 : mlk RJ0 637 MJ1_indexOf_4cfef true 4 = true := by decide +kernel
theorem qJ0_1059 : mlk RJ0 1059 MJ3_checkIndex_8e157 true 3 = true := by decide +kernel
theorem qJ1_9 : mlk RJ1 9 MJ0_checkIndex_df160 true 2 = true := by decide +kernel
theorem qJ1_38 : mmk RJ1 38 Lib.Math.min.name Lib.Math.min.code = true := by decide +kernel
theorem qJ1_88 : mlk RJ1 88 MJ1_canEncode_9a6ad true 1 = true := by decide +kernel
theorem qJ1_92 : mmk RJ1 92 Lib.Math.max.name Lib.Math.max.code = true := by decide +kernel
theorem qJ1_95 : mlk RJ1 95 MJ1_indexOfChar_4cfef true 4 = true := by decide +kernel
theorem qX0_22 : mlk RX0 22 MX0_hasRoom false 0 = true := by decide +kernel
theorem qX0_28 : mlk RX0 28 MJ0_length_8abf5 false 0 = true := by decide +kernel
theorem qX0_34 : mlk RX0 34 MX0_shapeAt false 1 = true := by decide +kernel
theorem qX0_38 : mlk RX0 38 MJ0_charAt_5068e false 1 = true := by decide +kernel
theorem qX0_42 : mlk RX0 42 MX0_fitsShape true 2 = true := by decide +kernel
theorem qX0_46 : mlk RX0 46 MX0_tellStatement false 2 = true := by decide +kernel
theorem qX0_50 : mmk RX0 50 Lib.Math.max.name Lib.Math.max.code = true := by decide +kernel
theorem qX0_56 : mlk RX0 56 MX0_signAt false 1 = true := by decide +kernel
theorem qX0_60 : mlk RX0 60 MX0_kindAt false 1 = true := by decide +kernel
theorem qX0_63 : mlk RX0 63 MX0_cellAt false 1 = true := by decide +kernel
theorem qX0_66 : mlk RX0 66 MX0_digitAt false 1 = true := by decide +kernel
theorem qX0_69 : mlk RX0 69 MX1_add false 3 = true := by decide +kernel
theorem qX0_75 : mlk RX0 75 MX1_turnOver false 1 = true := by decide +kernel
theorem qX0_79 : mlk RX0 79 MX1_setLaw false 1 = true := by decide +kernel
theorem qX0_82 : mlk RX0 82 MX1_put false 2 = true := by decide +kernel
theorem qX0_96 : mlk RX0 96 MJ0_indexOf_0f7a4 false 1 = true := by decide +kernel
theorem qX1_31 : (inW (.methodLink RX1 31 arraycopyName) && (inW (.native arraycopyName) && (inW (.static arraycopyName) && inW (.initialized "java/lang/System")))) = true := by decide +kernel
theorem qX1_52 : mlk RX1 52 MX1_has false 1 = true := by decide +kernel
theorem qX1_56 : mlk RX1 56 MJ6_bitCount_0f7a4 true 1 = true := by decide +kernel
theorem qX1_62 : mlk RX1 62 MX1_playerBits false 0 = true := by decide +kernel
theorem qX1_66 : mlk RX1 66 MX1_hasPlayers false 0 = true := by decide +kernel
theorem qX1_72 : mlk RX1 72 MJ0_length_8abf5 false 0 = true := by decide +kernel
theorem qX1_77 : mlk RX1 77 MX1_isCell true 1 = true := by decide +kernel
theorem qX1_80 : mlk RX1 80 MX1_isCatcher false 1 = true := by decide +kernel
theorem qX1_83 : mlk RX1 83 MX1_letRun false 1 = true := by decide +kernel
theorem qX1_90 : mlk RX1 90 MX1_isStanding false 1 = true := by decide +kernel
theorem qX1_93 : mlk RX1 93 MX1_freeableBits false 1 = true := by decide +kernel
theorem qX1_96 : mlk RX1 96 MX1_leastBeside false 2 = true := by decide +kernel
theorem qX1_100 : mlk RX1 100 MX1_apart true 2 = true := by decide +kernel
theorem qX1_103 : mmk RX1 103 Lib.Math.min.name Lib.Math.min.code = true := by decide +kernel
theorem qX1_108 : mlk RX1 108 MX1_pass false 0 = true := by decide +kernel
theorem qX1_111 : mlk RX1 111 MX1_catcherActs false 1 = true := by decide +kernel
theorem qX1_114 : mlk RX1 114 MX1_playerActs false 1 = true := by decide +kernel
theorem qX1_117 : mlk RX1 117 MX1_tire false 2 = true := by decide +kernel
theorem qX1_121 : mlk RX1 121 MX1_freesOrFetches false 1 = true := by decide +kernel
theorem qX1_124 : mlk RX1 124 MX1_isEdge true 1 = true := by decide +kernel
theorem qX1_127 : mlk RX1 127 MX1_catcherApart false 1 = true := by decide +kernel
theorem qX1_130 : mlk RX1 130 MX1_stepAway false 1 = true := by decide +kernel
theorem qX1_133 : mmk RX1 133 Lib.Math.max.name Lib.Math.max.code = true := by decide +kernel
theorem qX1_136 : mlk RX1 136 MX1_setFree false 2 = true := by decide +kernel
theorem qX1_139 : mlk RX1 139 MX1_nearest false 2 = true := by decide +kernel
theorem qX1_142 : mlk RX1 142 MX1_stepToward false 2 = true := by decide +kernel
theorem qX1_145 : mlk RX1 145 MX1_runningBits false 0 = true := by decide +kernel
theorem qX1_148 : mlk RX1 148 MX1_safeBits false 0 = true := by decide +kernel
theorem qX1_151 : mlk RX1 151 MX1_guards false 1 = true := by decide +kernel
theorem qX1_154 : mlk RX1 154 MX1_cellBehind true 2 = true := by decide +kernel
theorem qX2_39 : mlk RX2 39 MX2_refuse false 1 = true := by decide +kernel
theorem qX2_43 : mlk RX2 43 MX0_hasRoom false 0 = true := by decide +kernel
theorem qX2_47 : mlk RX2 47 MX0_hear false 1 = true := by decide +kernel
theorem qX2_50 : mlk RX2 50 MX2_readLetters false 0 = true := by decide +kernel
theorem qX2_54 : mlk RX2 54 MX0_forget false 0 = true := by decide +kernel
theorem qX2_57 : mlk RX2 57 MX1_has false 1 = true := by decide +kernel
theorem qX2_61 : mlk RX2 61 MX1_kindOf false 1 = true := by decide +kernel
theorem qX2_64 : mlk RX2 64 MX1_cellOf false 1 = true := by decide +kernel
theorem qX2_67 : mlk RX2 67 MX1_friendOf false 1 = true := by decide +kernel
theorem qX2_70 : mlk RX2 70 MX1_isStanding false 1 = true := by decide +kernel
theorem qX2_73 : mlk RX2 73 MX1_tiredOf false 1 = true := by decide +kernel
theorem qX2_76 : mlk RX2 76 MX1_isCell true 1 = true := by decide +kernel
theorem qX2_79 : mlk RX2 79 MX1_put false 2 = true := by decide +kernel
theorem qX2_83 : mlk RX2 83 MX1_turnOver false 1 = true := by decide +kernel
theorem qX2_86 : mlk RX2 86 MX1_lawNow false 0 = true := by decide +kernel
theorem qX2_89 : mlk RX2 89 MX1_setLaw false 1 = true := by decide +kernel
theorem qX2_92 : mlk RX2 92 MX1_apart true 2 = true := by decide +kernel
theorem qX2_96 : mlk RX2 96 MX2_outside true 3 = true := by decide +kernel
theorem qX2_100 : mlk RX2 100 MX1_secondNow false 0 = true := by decide +kernel
theorem qX2_103 : mlk RX2 103 MX1_passMany false 1 = true := by decide +kernel
theorem qX2_107 : mlk RX2 107 MX1_copyFrom false 1 = true := by decide +kernel
theorem qX2_111 : mlk RX2 111 MX1_standingBits false 0 = true := by decide +kernel
theorem qX2_114 : mlk RX2 114 MX1_hasPlayers false 0 = true := by decide +kernel
theorem qX2_117 : mlk RX2 117 MX2_secondsTillOver false 0 = true := by decide +kernel
theorem qX2_122 : mlk RX2 122 MX1_standingCount false 0 = true := by decide +kernel
theorem qX2_125 : mlk RX2 125 MX2_standingOver false 1 = true := by decide +kernel
theorem qX2_128 : mlk RX2 128 MX2_greatestShared true 2 = true := by decide +kernel
theorem qX2_131 : mlk RX2 131 MX1_freeingsSinceCopied false 0 = true := by decide +kernel
theorem qX2_134 : mlk RX2 134 MX1_pass false 0 = true := by decide +kernel
theorem qX2_137 : mlk RX2 137 MX1_couldFree false 1 = true := by decide +kernel
theorem qX2_140 : mlk RX2 140 MX1_isCatcher false 1 = true := by decide +kernel
theorem qX2_144 : mlk RX2 144 MX2_othersStanding false 1 = true := by decide +kernel
theorem qX2_147 : mlk RX2 147 MX1_setAside false 1 = true := by decide +kernel
theorem qX2_150 : mlk RX2 150 MX1_setKind false 2 = true := by decide +kernel
theorem qX2_154 : mlk RX2 154 MX2_addCatchers false 1 = true := by decide +kernel
theorem qX2_157 : mlk RX2 157 MX1_exchange false 2 = true := by decide +kernel
theorem qX2_160 : mlk RX2 160 MX1_freedBy false 2 = true := by decide +kernel
theorem qX2_163 : mlk RX2 163 MX1_catcherApart false 1 = true := by decide +kernel
theorem qX2_166 : mlk RX2 166 MX1_hasFreerFor false 1 = true := by decide +kernel
theorem qX2_173 : mlk RX2 173 MX2_firstUntrue false 0 = true := by decide +kernel
theorem qX2_176 : mlk RX2 176 MX1_scatter false 1 = true := by decide +kernel
theorem qX2_183 : mlk RX2 183 MX1_childrenCount false 0 = true := by decide +kernel
theorem qX2_186 : mlk RX2 186 MX1_catcherCount false 0 = true := by decide +kernel
theorem qX2_189 : mlk RX2 189 MX1_tiredSum false 0 = true := by decide +kernel
theorem qX2_192 : mlk RX2 192 MX1_freedSum false 0 = true := by decide +kernel
theorem qX2_195 : mlk RX2 195 MX0_size false 0 = true := by decide +kernel
theorem qX2_198 : mlk RX2 198 MX0_firstMisfit false 0 = true := by decide +kernel
theorem qX2_201 : mlk RX2 201 MX0_tellTo false 1 = true := by decide +kernel
theorem qX2_205 : mlk RX2 205 MX0_statementCount false 0 = true := by decide +kernel
theorem qX2_208 : mlk RX2 208 MX1_isOver false 0 = true := by decide +kernel
theorem qX2_211 : mlk RX2 211 MX1_add false 3 = true := by decide +kernel
theorem qX3_56 : mlk RX3 56 MX3_apart true 2 = true := by decide +kernel
theorem qX3_63 : mlk RX3 63 MX3_bound true 3 = true := by decide +kernel
theorem qX3_70 : mlk RX3 70 MX3_no false 1 = true := by decide +kernel
theorem qX3_77 : mlk RX3 77 MX3_next false 0 = true := by decide +kernel
theorem qX3_81 : mlk RX3 81 MX3_isIn true 3 = true := by decide +kernel
theorem qX3_85 : mlk RX3 85 MX3_kindOf true 1 = true := by decide +kernel
theorem qX3_88 : mlk RX3 88 MX3_readsDigits false 2 = true := by decide +kernel
theorem qX3_95 : mlk RX3 95 MX3_readsChild false 1 = true := by decide +kernel
theorem qX3_99 : mlk RX3 99 MX3_isCell true 1 = true := by decide +kernel
theorem qX3_102 : mlk RX3 102 MX3_comesChild false 3 = true := by decide +kernel
theorem qX3_106 : mlk RX3 106 MX3_isChild false 1 = true := by decide +kernel
theorem qX3_109 : mlk RX3 109 MX3_isCatcher false 1 = true := by decide +kernel
theorem qX3_115 : mlk RX3 115 MX3_statement false 0 = true := by decide +kernel
theorem qX3_119 : mlk RX3 119 MX3_passesAll false 2 = true := by decide +kernel
theorem qX3_123 : mlk RX3 123 MX3_comes false 1 = true := by decide +kernel
theorem qX3_133 : mlk RX3 133 MX3_passes false 1 = true := by decide +kernel
theorem qX3_137 : mlk RX3 137 MX3_passOne false 1 = true := by decide +kernel
theorem qX3_146 : mlk RX3 146 MX3_farOf true 2 = true := by decide +kernel
theorem qX3_149 : mlk RX3 149 MX3_stepOf true 2 = true := by decide +kernel
theorem qX3_152 : mlk RX3 152 MX3_farFromCatchers false 1 = true := by decide +kernel
theorem qX3_155 : mlk RX3 155 MX3_doesMay false 2 = true := by decide +kernel
theorem qX3_161 : mlk RX3 161 MX3_free false 2 = true := by decide +kernel
theorem qX3_165 : mlk RX3 165 MX3_isEdge true 1 = true := by decide +kernel
theorem qX3_168 : mlk RX3 168 MX3_away false 1 = true := by decide +kernel
theorem qX3_171 : mlk RX3 171 MX3_nearMay false 1 = true := by decide +kernel
theorem qX3_174 : mlk RX3 174 MX3_freesAll false 2 = true := by decide +kernel
theorem qX3_177 : mlk RX3 177 MX3_nearestMay false 1 = true := by decide +kernel
theorem qX3_180 : mlk RX3 180 MX3_toward true 2 = true := by decide +kernel
theorem qX3_183 : mlk RX3 183 MX3_isRunner false 1 = true := by decide +kernel
theorem qX3_186 : mlk RX3 186 MX3_nearest false 2 = true := by decide +kernel
theorem qX3_189 : mlk RX3 189 MX3_touches false 1 = true := by decide +kernel
theorem qX3_192 : mlk RX3 192 MX3_hunts false 1 = true := by decide +kernel
theorem qX3_195 : mlk RX3 195 MX3_catches false 1 = true := by decide +kernel
theorem qX3_199 : mlk RX3 199 MX3_less true 1 = true := by decide +kernel
theorem qX3_202 : mlk RX3 202 MX3_runsTo false 1 = true := by decide +kernel
theorem qX3_205 : mlk RX3 205 MX3_goesOn false 1 = true := by decide +kernel
theorem qX3_208 : mlk RX3 208 MX3_goes false 0 = true := by decide +kernel
theorem qX3_214 : mlk RX3 214 MX3_standBits false 0 = true := by decide +kernel
theorem qX3_220 : mlk RX3 220 MX3_bits true 1 = true := by decide +kernel
theorem qX3_232 : mlk RX3 232 MX3_goesInMind false 2 = true := by decide +kernel
theorem qX3_235 : mlk RX3 235 MX3_runnersMany false 0 = true := by decide +kernel
theorem qX3_238 : mlk RX3 238 MX3_overIn false 0 = true := by decide +kernel
theorem qX3_241 : mlk RX3 241 MX3_lowest false 1 = true := by decide +kernel
theorem qX3_245 : mlk RX3 245 MX3_divisor true 2 = true := by decide +kernel
theorem qX3_249 : mlk RX3 249 MX3_lower false 1 = true := by decide +kernel
theorem qX3_252 : mlk RX3 252 MX3_othersStand false 1 = true := by decide +kernel
theorem qX3_255 : mlk RX3 255 MX3_changes false 2 = true := by decide +kernel
theorem qX3_258 : mlk RX3 258 MX3_standAfterChange false 3 = true := by decide +kernel
theorem qX3_261 : mlk RX3 261 MX3_isMayed false 1 = true := by decide +kernel
theorem qX3_264 : mlk RX3 264 MX3_isWatched false 2 = true := by decide +kernel
theorem qX3_270 : mlk RX3 270 MX3_wrongAt false 0 = true := by decide +kernel
