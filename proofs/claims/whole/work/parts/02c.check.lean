/-! the tables of the pure machine against the bytes and the words -/
def ownT : List String := [RX0, RX0, RX0, RX0, RX0, RX0, RX0, RX0, RX0, RX0, RX0, RX0, RX0, RX1, RX1, RX1, RX1, RX2, RX2, RX2, RX2, RX2, RX2, RX2, RX2, RX2, RX2, RX2, RX3, RX3, RX3, RX3, RX3, RX3, RX3, RX3, RX3, RX3, RX3, RX3, RX3, RX3, RX3, RX3, RX3, RX3, RX3, RX4, RX4, RX4, RX4, RX5, RX5, RX5, RX5, RX5, RX5, RX5, RX5, RX6, RX6, RX6, RX6, RX7, RX7, RX7, RX7, RX7, RX7, RX7, RX7, RX7, RX7, RX7, RX8, RX8, RX8, RX8, RX8, RX9, RX9, RX9, RX10, RX10, RX10, RX10, RX10, RX10, RX10, RX10, RX10, RX10, RX10, RX10, RX10, RX10, RX10, RX11, RX11, RX11, RX11, RX11, RX11, RX11, RX11, RX11, RX11, RX11, RX11, RX11, RX11, RX11, RX11, RX11, RX11, RX11, RX11, RX11, RX11, RX11, RX11, RX11, RX11, RX11, RX11, RX11, RX11, RX11, RX11, RX11, RX11, RX11, RX11, RX11, RX11, RX11, RX11, RX11, RX11, RX11, RX11, RX11, RX11, RX11, RX11, RX11, RX11, RX11, RX11, RX12, RX12, RX12, RX12, RX12, RX12, RX12, RX12, RX12, RX12, RX12, RX12, RX12, RX12, RX12, RX12, RX12, RX12, RX12, RX12, RX12, RX12, RX12, RX12, RX12, RX12, RX12, RX12, RX12, RX12, RX12, RX12, RX12, RX12, RX12, RX12, RX12, RX12, RX12, RX12, RX12, RX12, RX12, RX12, RX12, RX12, RX12, RX12, RX12, RX12, RX12, RX12, RX12, RX12, RX12, RX12, RX12, RX12, RX12, RX12, RX12, RX12, RX12, RX12, RX12, RX12, RX12, RX12, RX12, RX12, RX12, RX12, RX12, RX12, RX12, RX12, RX12, RX12, RX12, RX12, RX12, RX12, RX12, RX12, RX12, RX12, RX12, RX12, RX12, RX12, RX12, RX12, RX12, RX12, RX12, RX12, RX12, RX12, RX12, RX12, RX12, RX12, RX12, RX12, RX12, RX12, RX12, RX12, RX12, RX12, RL, RL, RL, RL, RL, RL, RL, RL, RL, RL, RL, RL, RL, RL, RL, RL, RL, RL, RL, RL, RL, RL, RL, RL, RL, RL, RL, RL, RL, RL, RJ6]
def yT : List MethodName := [yX0_init, yX0_forget, yX0_read, yX0_readClause, yX0_kindNamed, yX0_isFull, yX0_readKind, yX0_rainOf, yX0_sunOf, yX0_yardsOf, yX0_yardsOfDeeds, yX0_sees, yX0_seenFrom, yX1_init, yX1_find, yX1_weigh, yX1_choose, yX2_init, yX2_becomePlain, yX2_read, yX2_add, yX2_readSum, yX2_readProduct, yX2_readUnit, yX2_readPair, yX2_factNamed, yX2_whitens, yX2_joined, yX3_init, yX3_begin, yX3_copy, yX3_lay, yX3_fold, yX3_wet, yX3_giveMilk, yX3_dig, yX3_passDay, yX3_hasRoom, yX3_lyingOn, yX3_lainBits, yX3_lyingCount, yX3_whiteBits, yX3_whiteYardsNow, yX3_greyOfAll, yX3_whitensNow, yX3_whitensDry, yX3_factsAt, yX4_init, yX4_find, yX4_passDay, yX4_greyThen, yX5_init, yX5_find, yX5_weigh, yX5_chooseAll, yX5_choose, yX5_weigh, yX5_trace, yX5_weigh, yX6_init, yX6_add, yX6_takeLatest, yX6_copy, yX7_init, yX7_read, yX7_readSteps, yX7_readStep, yX7_readAgain, yX7_kindNamed, yX7_add, yX7_run, yX7_runSteps, yX7_runAgain, yX7_runStep, yX8_init, yX8_forget, yX8_read, yX8_speaksOf, yX8_agreeWith, yX9_init, yX9_pass, yX9_draw, yX10_init, yX10_put, yX10_open, yX10_failed, yX10_faultAnswer, yX10_fail, yX10_peek, yX10_isDigitNext, yX10_skipSign, yX10_takeSign, yX10_takeNumber, yX10_takeWord, yX10_isWord, yX10_failAtWord, yX10_takeEnd, yX11_init, yX11_feed, yX11_common, yX11_law, yX11_work, yX11_sayings, yX11_fault, yX11_undo, yX11_told, yX11_cell, yX11_strip, yX11_deed, yX11_would, yX11_fits, yX11_ahead, yX11_white, yX11_whiteYards, yX11_pack, yX11_packed, yX11_wets, yX11_wetted, yX11_likely, yX11_mayBe, yX11_ask, yX11_boxes, yX11_seen, yX11_thief, yX11_share, yX11_free, yX11_greyest, yX11_sunniest, yX11_sunny, yX11_spare, yX11_summer, yX11_span, yX11_image, yX11_restore, yX11_status, yX11_count, yX11_need, yX11_needThat, yX11_needStrip, yX11_needCell, yX11_isTextLength, yX11_isSummer, yX11_isWithin, yX11_areBits, yX11_rowBits, yX11_isRight, yX11_leftAtWorst, yX11_thiefHas, yX11_isRest, yX12_init, yX12_tellsNothing, yX12_thrown, yX12_bad, yX12_in, yX12_less, yX12_more, yX12_has, yX12_feed, yX12_byteAt, yX12_blanks, yX12_wrong, yX12_isDigit, yX12_isSmall, yX12_number, yX12_wordHere, yX12_six, yX12_isWord, yX12_skipWord, yX12_takes, yX12_sign, yX12_takesSign, yX12_starts, yX12_ends, yX12_kindHere, yX12_mostOf, yX12_clause, yX12_common, yX12_lays, yX12_copies, yX12_beginsAnew, yX12_notes, yX12_opensOne, yX12_sum, yX12_product, yX12_knownHere, yX12_one, yX12_law, yX12_by, yX12_byLaw, yX12_stepHere, yX12_readsStep, yX12_sayings, yX12_fault, yX12_rainOf, yX12_whitensBy, yX12_whitens, yX12_stripOn, yX12_isRoom, yX12_dayEnds, yX12_digs, yX12_does, yX12_goes, yX12_work, yX12_undo, yX12_greyIn, yX12_whiteIn, yX12_told, yX12_isCell, yX12_isStrip, yX12_areStrips, yX12_cell, yX12_strip, yX12_deed, yX12_would, yX12_fits, yX12_ahead, yX12_white, yX12_goneBy, yX12_laysFrom, yX12_packs, yX12_pack, yX12_packed, yX12_goneWet, yX12_laysWets, yX12_wets, yX12_wetted, yX12_whiteBy, yX12_likely, yX12_isMade, yX12_mayBe, yX12_isSaid, yX12_ask, yX12_away, yX12_ones, yX12_seenFrom, yX12_taken, yX12_boxes, yX12_seen, yX12_steals, yX12_isRest, yX12_thief, yX12_share, yX12_free, yX12_sunny, yX12_whiteYards, yX12_spare, yX12_greyest, yX12_sunniest, yX12_draw, yX12_summerBy, yX12_isSummer, yX12_summer, yX12_span, yX12_puts, yX12_putsAll, yX12_image, yX12_restore, yX12_status, yX12_count, yL_common, yL_law, yL_work, yL_sayings, yL_told, yL_cell, yL_strip, yL_deed, yL_would, yL_fits, yL_ahead, yL_white, yL_pack, yL_packed, yL_wets, yL_wetted, yL_likely, yL_mayBe, yL_ask, yL_seen, yL_thief, yL_share, yL_free, yL_greyest, yL_sunniest, yL_sunny, yL_whiteYards, yL_summer, yL_span, yL_law_, yJ6_bitCount_0f7a4]
noncomputable def bytT : List ByteArray := [cX0_init, cX0_forget, cX0_read, cX0_readClause, cX0_kindNamed, cX0_isFull, cX0_readKind, cX0_rainOf, cX0_sunOf, cX0_yardsOf, cX0_yardsOfDeeds, cX0_sees, cX0_seenFrom, cX1_init, cX1_find, cX1_weigh, cX1_choose, cX2_init, cX2_becomePlain, cX2_read, cX2_add, cX2_readSum, cX2_readProduct, cX2_readUnit, cX2_readPair, cX2_factNamed, cX2_whitens, cX2_joined, cX3_init, cX3_begin, cX3_copy, cX3_lay, cX3_fold, cX3_wet, cX3_giveMilk, cX3_dig, cX3_passDay, cX3_hasRoom, cX3_lyingOn, cX3_lainBits, cX3_lyingCount, cX3_whiteBits, cX3_whiteYardsNow, cX3_greyOfAll, cX3_whitensNow, cX3_whitensDry, cX3_factsAt, cX4_init, cX4_find, cX4_passDay, cX4_greyThen, cX5_init, cX5_find, cX5_weigh, cX5_chooseAll, cX5_choose, cX5_weigh, cX5_trace, cX5_weigh, cX6_init, cX6_add, cX6_takeLatest, cX6_copy, cX7_init, cX7_read, cX7_readSteps, cX7_readStep, cX7_readAgain, cX7_kindNamed, cX7_add, cX7_run, cX7_runSteps, cX7_runAgain, cX7_runStep, cX8_init, cX8_forget, cX8_read, cX8_speaksOf, cX8_agreeWith, cX9_init, cX9_pass, cX9_draw, cX10_init, cX10_put, cX10_open, cX10_failed, cX10_faultAnswer, cX10_fail, cX10_peek, cX10_isDigitNext, cX10_skipSign, cX10_takeSign, cX10_takeNumber, cX10_takeWord, cX10_isWord, cX10_failAtWord, cX10_takeEnd, cX11_init, cX11_feed, cX11_common, cX11_law, cX11_work, cX11_sayings, cX11_fault, cX11_undo, cX11_told, cX11_cell, cX11_strip, cX11_deed, cX11_would, cX11_fits, cX11_ahead, cX11_white, cX11_whiteYards, cX11_pack, cX11_packed, cX11_wets, cX11_wetted, cX11_likely, cX11_mayBe, cX11_ask, cX11_boxes, cX11_seen, cX11_thief, cX11_share, cX11_free, cX11_greyest, cX11_sunniest, cX11_sunny, cX11_spare, cX11_summer, cX11_span, cX11_image, cX11_restore, cX11_status, cX11_count, cX11_need, cX11_needThat, cX11_needStrip, cX11_needCell, cX11_isTextLength, cX11_isSummer, cX11_isWithin, cX11_areBits, cX11_rowBits, cX11_isRight, cX11_leftAtWorst, cX11_thiefHas, cX11_isRest, cX12_init, cX12_tellsNothing, cX12_thrown, cX12_bad, cX12_in, cX12_less, cX12_more, cX12_has, cX12_feed, cX12_byteAt, cX12_blanks, cX12_wrong, cX12_isDigit, cX12_isSmall, cX12_number, cX12_wordHere, cX12_six, cX12_isWord, cX12_skipWord, cX12_takes, cX12_sign, cX12_takesSign, cX12_starts, cX12_ends, cX12_kindHere, cX12_mostOf, cX12_clause, cX12_common, cX12_lays, cX12_copies, cX12_beginsAnew, cX12_notes, cX12_opensOne, cX12_sum, cX12_product, cX12_knownHere, cX12_one, cX12_law, cX12_by, cX12_byLaw, cX12_stepHere, cX12_readsStep, cX12_sayings, cX12_fault, cX12_rainOf, cX12_whitensBy, cX12_whitens, cX12_stripOn, cX12_isRoom, cX12_dayEnds, cX12_digs, cX12_does, cX12_goes, cX12_work, cX12_undo, cX12_greyIn, cX12_whiteIn, cX12_told, cX12_isCell, cX12_isStrip, cX12_areStrips, cX12_cell, cX12_strip, cX12_deed, cX12_would, cX12_fits, cX12_ahead, cX12_white, cX12_goneBy, cX12_laysFrom, cX12_packs, cX12_pack, cX12_packed, cX12_goneWet, cX12_laysWets, cX12_wets, cX12_wetted, cX12_whiteBy, cX12_likely, cX12_isMade, cX12_mayBe, cX12_isSaid, cX12_ask, cX12_away, cX12_ones, cX12_seenFrom, cX12_taken, cX12_boxes, cX12_seen, cX12_steals, cX12_isRest, cX12_thief, cX12_share, cX12_free, cX12_sunny, cX12_whiteYards, cX12_spare, cX12_greyest, cX12_sunniest, cX12_draw, cX12_summerBy, cX12_isSummer, cX12_summer, cX12_span, cX12_puts, cX12_putsAll, cX12_image, cX12_restore, cX12_status, cX12_count, cL_common, cL_law, cL_work, cL_sayings, cL_told, cL_cell, cL_strip, cL_deed, cL_would, cL_fits, cL_ahead, cL_white, cL_pack, cL_packed, cL_wets, cL_wetted, cL_likely, cL_mayBe, cL_ask, cL_seen, cL_thief, cL_share, cL_free, cL_greyest, cL_sunniest, cL_sunny, cL_whiteYards, cL_summer, cL_span, cL_law_, cJ6_bitCount_0f7a4]
def retT : List (Option FieldType) := [none, none, none, none, (some .int), (some .boolean), none, (some .int), (some .int), (some .int), (some .int), (some .boolean), (some .int), none, (some .int), (some .int), none, none, none, none, none, none, none, none, none, (some .int), (some .int), (some .int), none, none, none, (some .boolean), (some .boolean), (some .boolean), (some .boolean), (some .boolean), none, (some .boolean), (some .int), (some .int), (some .int), (some .int), (some .int), (some .int), (some .int), (some .int), (some (.array .int)), none, none, none, (some .int), none, (some .int), none, none, none, none, none, none, none, none, (some .boolean), none, none, none, none, none, none, (some .int), (some .int), none, none, none, (some .boolean), none, none, none, (some .boolean), (some .boolean), none, none, (some .int), none, none, none, (some .boolean), (some .int), none, (some .int), (some .boolean), none, none, (some .int), none, (some .boolean), none, none, none, (some .int), (some .int), (some .int), (some .int), (some .int), (some .int), (some .int), (some .int), (some .int), (some .int), (some .int), (some .int), (some .boolean), (some .int), (some .int), (some .int), (some .int), (some .int), (some .int), (some .int), (some .long), (some .int), (some .int), (some .int), (some .int), (some .int), (some .int), (some .int), (some .int), (some .int), (some .int), (some .int), (some .int), (some .int), (some .int), (some .int), (some .int), (some .int), none, none, none, none, (some .boolean), (some .boolean), (some .boolean), (some .boolean), (some .int), (some .boolean), (some .int), (some .int), (some .boolean), none, none, (some .int), (some .boolean), (some .boolean), (some .int), (some .int), (some .boolean), (some .int), (some .int), none, none, (some .boolean), (some .boolean), (some .int), (some .int), (some .int), (some .boolean), none, (some .boolean), none, (some .boolean), none, (some .int), (some .int), (some .int), none, (some .int), none, none, none, none, (some .boolean), none, none, (some .int), none, (some .int), (some .int), (some .int), (some .int), none, (some .int), (some .int), (some .int), (some .int), (some .int), (some .int), (some .boolean), none, (some .boolean), (some .boolean), none, (some .int), (some .int), (some .int), (some .int), (some .int), (some .boolean), (some .boolean), (some .boolean), (some .int), (some .int), (some .int), (some .int), (some .boolean), (some .int), (some .int), (some .int), none, none, (some .int), (some .int), (some .int), none, (some .int), (some .int), (some .long), (some .long), (some .boolean), (some .int), (some .boolean), (some .int), (some .int), (some .int), (some .int), (some .int), (some .int), (some .int), (some .int), (some .boolean), (some .int), (some .int), (some .int), (some .int), (some .int), (some .int), (some .int), (some .int), (some .int), none, (some .boolean), (some .int), (some .int), (some .int), none, (some .int), (some .int), (some .int), (some .int), (some .int), (some .int), (some .int), (some .int), (some .int), (some .int), (some .int), (some .int), (some .int), (some .int), (some .int), (some .int), (some .int), (some .int), (some .int), (some .int), (some .int), (some .int), (some .int), (some .int), (some .int), (some .int), (some .int), (some .int), (some .int), (some .int), (some .int), (some .int), (some .int), (some .boolean), (some .int)]
def hhT : List (List (Nat × Nat × Nat × Nat)) := [[], [], [], [], [], [], [], [], [], [], [], [], [], [], [], [], [], [], [], [], [], [], [], [], [], [], [], [], [], [], [], [], [], [], [], [], [], [], [], [], [], [], [], [], [], [], [], [], [], [], [], [], [], [], [], [], [], [], [], [], [], [], [], [], [], [], [], [], [], [], [], [], [], [], [], [], [], [], [], [], [], [], [], [], [], [], [], [], [], [], [], [], [], [], [], [], [], [], [], [], [], [], [], [], [], [], [], [], [], [], [], [], [], [], [], [], [], [], [], [], [], [], [], [], [], [], [], [], [], [], [], [], [], [], [], [], [], [], [], [], [], [], [], [], [], [], [], [], [], [], [], [], [], [], [], [], [], [], [], [], [], [], [], [], [], [], [], [], [], [], [], [], [], [], [], [], [], [], [], [], [], [], [], [], [], [], [], [], [], [], [], [], [], [], [], [], [], [], [], [], [], [], [], [], [], [], [], [], [], [], [], [], [], [], [], [], [], [], [], [], [], [], [], [], [], [], [], [], [], [], [], [], [], [], [], [], [], [], [], [], [], [], [], [], [], [], [], [], [], [], [], [], [], [], [], [], [], [], [], [(0, 9, 12, 13)], [(0, 9, 12, 13)], [(0, 9, 12, 13)], [(0, 9, 12, 13)], [(0, 9, 12, 13)], [(0, 10, 13, 31), (0, 10, 17, 13)], [(0, 10, 13, 31), (0, 10, 17, 13)], [(0, 9, 12, 31)], [(0, 22, 25, 13)], [(0, 17, 20, 31)], [(0, 10, 13, 13)], [(0, 9, 12, 31)], [(0, 9, 12, 13)], [(0, 10, 13, 31), (0, 10, 17, 13)], [(0, 9, 12, 13)], [(0, 10, 13, 31), (0, 10, 17, 13)], [(0, 15, 18, 31), (0, 15, 22, 13)], [(0, 10, 13, 13)], [(0, 10, 13, 13)], [(0, 9, 12, 13)], [(0, 9, 12, 13)], [(0, 12, 15, 31), (0, 12, 19, 13)], [(0, 9, 12, 13)], [(0, 9, 12, 13)], [(0, 10, 13, 31), (0, 10, 17, 13)], [(0, 10, 13, 13)], [(0, 9, 12, 13)], [(0, 16, 19, 13)], [(0, 20, 23, 13)], [], []]
def prT : List (List Bool) := [[true, true, true, true, false, true, true, true, true, true, false, true], [false, false, false, true], [true, false, false, false], [true, true, true, true, true, true], [false, false, true, true], [false, false, false, true], [false, true], [false, false, false, false, false, false, true, true], [true, false, false], [true, false, true, true], [false, true, false, true, false, false, false, true], [false, false, false, false, false, false, false, false, false, false, false, false, false, false, false, false, false, false, false, false], [false, false, false, false, false, false, false, false, false, false, false, false, false, false, false, false, false, false, false, false, false, false, false, false, false, false, false, false, false, false, false, false, false, false, false, false, false, false, false, false, false, false, false, false, false, false, false, false, false, false]]
def pmT : List Bool := [true, false, false, false, false, false, false, false, false, false, false, false, false, true, false, false, false, true, false, false, false, false, false, false, false, false, false, false, true, false, false, false, false, false, false, false, false, false, false, false, false, false, false, false, false, false, false, true, false, false, false, true, false, false, false, false, false, false, false, true, false, false, false, true, false, false, false, false, false, false, false, false, false, false, true, false, false, false, false, true, false, false, true, false, false, false, false, false, false, false, false, false, false, false, false, false, false, false, false, false, false, false, false, false, false, false, false, false, false, false, false, false, false, false, false, false, false, false, false, false, false, false, false, false, false, false, false, false, false, false, false, false, false, false, false, false, false, false, false, false, false, false, false, false, true, false, false, false, false, false, false, false, false, false, false, false, false, false, false, false, false, false, false, false, false, false, false, false, false, false, false, false, false, false, false, false, false, false, false, false, false, false, false, false, false, false, false, false, false, false, false, false, false, false, false, false, false, false, false, false, false, false, false, false, false, false, false, false, false, false, false, false, false, false, false, false, false, false, false, false, false, false, false, false, false, false, false, false, false, false, false, false, false, false, false, false, false, false, false, false, false, false, false, false, false, false, false, false, false, false, false, false, false, false, false, false, false, false, false, false, false, false, false, false, false, false, false, false, false, false, false, false, false, false, false, false, false, false, false, false, false, false, false, false, false, false, false, false, false, false]
def ssT : List (String × Nat × String) := [(RX0, 91, "cell"), (RX0, 97, "strip"), (RX0, 99, "deed"), (RX0, 101, "rain"), (RX0, 102, "milk"), (RX0, 103, "sight"), (RX2, 69, "least"), (RX2, 75, "most"), (RX2, 88, "sun"), (RX2, 90, "yards"), (RX2, 92, "grey"), (RX2, 94, "rain"), (RX2, 96, "wet"), (RX2, 98, "milk"), (RX2, 100, "day"), (RX2, 102, "first"), (RX7, 75, "lay"), (RX7, 81, "fold"), (RX7, 83, "wet"), (RX7, 85, "milk"), (RX7, 87, "mole"), (RX7, 89, "day"), (RX7, 91, "again"), (RX11, 369, "not so"), (RX11, 376, "no such one")]
def own (m : Nat) : String := ownT.getD m ""
def yM (m : Nat) : MethodName := yT.getD m yX0_init
noncomputable def byt (m : Nat) : ByteArray := bytT.getD m ⟨#[]⟩
def rtM (m : Nat) : Option FieldType := retT.getD m none
def hhM (m : Nat) : List (Nat × Nat × Nat × Nat) := hhT.getD m []
def clM (x : Nat) : vw_C := vwCl.getD x ("", TX0, 0)
def nsF (m x y : Nat) : Bool := !(Nat.beq (clT.getD m 99) x) && (prT.getD x []).getD y false
def nsM (m x : Nat) : Bool := !(Nat.beq (clT.getD m 99) (clT.getD x 99)) && pmT.getD x false
/-- 0 no link, 1 a plain one, 2 a nest mate's -/
def lkk (m : Nat) (c : CI) : Nat := match c.1 with
  | .getfield _ => if nsF m c.2.2.1 c.2.2.2.1 then 2 else 1
  | .putfield _ => if nsF m c.2.2.1 c.2.2.2.1 then 2 else 1
  | .invokevirtual _ => if Nat.blt c.2.2.1 1000 then 1 else if Nat.ble 1004 c.2.2.1 then 0 else 1
  | .invokestatic _ => if Nat.blt c.2.2.1 1000 then (if nsM m c.2.2.1 then 2 else 1) else 1
  | .invokespecial _ => if Nat.blt c.2.2.1 1000 then (if nsM m c.2.2.1 then 2 else 1) else 1
  | .new _ => if Nat.blt c.2.2.1 900 then 1 else 0
  | .anewarray _ => 1
  | .multianewarray _ _ => 1
  | .ldc _ => if Nat.beq c.2.2.1 0 then 1 else 0
  | .ldc_w _ => 1
  | .ldc2_w _ => 1
  | _ => 0
def cyM (m x : Nat) : MethodName := if Nat.blt x 1000 then yM x else if Nat.beq x 1000 then objectInit else if Nat.beq x 1001 then Lib.Math.min.name else if Nat.beq x 1002 then Lib.Math.max.name else if Nat.beq x 1003 then Lib.Math.abs.name else arraycopyName
def lkW (m : Nat) (c : CI) : Cond := match c.1 with
  | .getfield i => if nsF m c.2.2.1 c.2.2.2.1 then .fieldLinkNest (own m) i ((clM c.2.2.1).2.1 c.2.2.2.1).1 ((clM c.2.2.1).2.1 c.2.2.2.1).2.1 ((clM c.2.2.1).2.1 c.2.2.2.1).2.2.1 "LinenGuilt" else .fieldLink (own m) i ((clM c.2.2.1).2.1 c.2.2.2.1).1 ((clM c.2.2.1).2.1 c.2.2.2.1).2.1 ((clM c.2.2.1).2.1 c.2.2.2.1).2.2.1
  | .putfield i => if nsF m c.2.2.1 c.2.2.2.1 then .fieldLinkNest (own m) i ((clM c.2.2.1).2.1 c.2.2.2.1).1 ((clM c.2.2.1).2.1 c.2.2.2.1).2.1 ((clM c.2.2.1).2.1 c.2.2.2.1).2.2.1 "LinenGuilt" else .fieldLink (own m) i ((clM c.2.2.1).2.1 c.2.2.2.1).1 ((clM c.2.2.1).2.1 c.2.2.2.1).2.1 ((clM c.2.2.1).2.1 c.2.2.2.1).2.2.1
  | .invokevirtual i => .methodLink (own m) i (cyM m c.2.2.1)
  | .invokestatic i => if Nat.blt c.2.2.1 1000 && nsM m c.2.2.1 then .methodLinkNest (own m) i (yM c.2.2.1) "LinenGuilt" else .methodLink (own m) i (cyM m c.2.2.1)
  | .invokespecial i => if Nat.blt c.2.2.1 1000 && nsM m c.2.2.1 then .methodLinkNest (own m) i (yM c.2.2.1) "LinenGuilt" else .methodLink (own m) i (cyM m c.2.2.1)
  | .new i => .classLink (own m) i (clM c.2.2.1).1
  | .anewarray i => .classLink (own m) i (clM (c.2.2.1 - 30)).1
  | .multianewarray i _ => .classLink (own m) i "[[I"
  | .ldc i => .constant (own m) i (Int32.ofInt c.2.2.2.2)
  | .ldc_w i => .constant (own m) i (Int32.ofInt c.2.2.2.2)
  | .ldc2_w i => .constantLong (own m) i (Int64.ofInt c.2.2.2.2)
  | _ => .tt
noncomputable def cdW (m : Nat) : Cond := if (hhM m).isEmpty then .code (yM m) (byt m) (mxT.getD m 0) (rtM m) else .codeWith (yM m) (byt m) (mxT.getD m 0) (rtM m) (hhM m)
def mwL (m : Nat) : List Cond := if Nat.beq (rcT.getD m 0) 99 then [.static (yM m), .initialized (yM m).cls] else if inT.getD m false then [.instanceMethod (yM m), .initialized (yM m).cls] else [.instanceMethod (yM m), .selects (yM m).cls (yM m) (yM m), .initialized (yM m).cls]
def zok (x y : Nat) (z : Int) : Bool := match tyO x y with
  | .int => decide (z = 0)
  | .long => decide (z = 1)
  | .object _ => decide (z = 2)
  | .array _ => decide (z = 2)
  | _ => false
def rng (z : Int) : Bool := decide (-2147483648 ≤ z ∧ z < 2147483648)
def chkI (m pc : Nat) (ins : Instr) (n x y : Nat) (z : Int) : Bool := match ins with
  | .iconst v => Nat.beq n 1 && decide (-1 ≤ v ∧ v ≤ 5)
  | .bipush v => Nat.beq n 2 && decide (-128 ≤ v ∧ v < 128)
  | .sipush v => Nat.beq n 3 && decide (-32768 ≤ v ∧ v < 32768)
  | .lconst _ => Nat.beq n 1
  | .ldc i => Nat.beq n 2 && rng z && (Nat.beq x 0 || (Nat.ble 2 y && Nat.blt y 27))
  | .ldc_w _ => Nat.beq n 3 && rng z && Nat.beq x 0
  | .ldc2_w _ => Nat.beq n 3 && rng z
  | .iload_n _ => Nat.beq n 1 | .lload_n _ => Nat.beq n 1 | .aload_n _ => Nat.beq n 1 | .istore_n _ => Nat.beq n 1 | .lstore_n _ => Nat.beq n 1 | .astore_n _ => Nat.beq n 1
  | .iload _ => Nat.beq n 2 | .lload _ => Nat.beq n 2 | .aload _ => Nat.beq n 2 | .istore _ => Nat.beq n 2 | .lstore _ => Nat.beq n 2 | .astore _ => Nat.beq n 2
  | .iinc _ c => Nat.beq n 3 && decide (-32768 ≤ c ∧ c < 32768)
  | .ifCond _ off => Nat.beq n 3 && decide ((pc : Int) + off = (x : Int))
  | .if_icmp _ off => Nat.beq n 3 && decide ((pc : Int) + off = (x : Int))
  | .goto off => Nat.beq n 3 && decide ((pc : Int) + off = (x : Int))
  | .tableswitch d lo hi os => decide (0 ≤ (pc : Int) + d) && decide ((os.size : Int) = hi - lo + 1) && os.toList.all (fun o => decide (0 ≤ (pc : Int) + o))
  | .getfield _ => Nat.beq n 3 && Nat.blt x 13 && Nat.blt y (clM x).2.2 && zok x y z
  | .putfield _ => Nat.beq n 3 && Nat.blt x 13 && Nat.blt y (clM x).2.2 && zok x y z && (!((clM x).2.1 y).2.2.2 || (inT.getD m false && Nat.beq (clT.getD m 99) x))
  | .iaload => Nat.beq n 1 && (!(Nat.beq x 1) || Nat.beq m 288)
  | .arraylength => Nat.beq n 1 && (!(Nat.beq x 1) || Nat.beq m 288)
  | .new _ => Nat.beq n 3 && (Nat.blt x 13 || (Nat.ble 900 x && (Nat.beq m 136 || Nat.beq m 137)))
  | .newarray t => Nat.beq n 2 && ((Nat.beq x 20 && decide (t = .int)) || (Nat.beq x 21 && decide (t = .char)) || (Nat.beq x 22 && decide (t = .long)))
  | .anewarray _ => Nat.beq n 3 && (Nat.beq x 33 || Nat.beq x 36)
  | .multianewarray _ d => Nat.beq n 4 && Nat.beq d 2 && Nat.beq x 40
  | .invokestatic _ => Nat.beq n 3 && (Nat.beq x 1001 || Nat.beq x 1002 || Nat.beq x 1003 || Nat.beq x 1006 || (Nat.blt x 290 && !(Nat.beq x 288) && Nat.beq (rcT.getD x 0) 99 && Nat.beq y (npT.getD x 0) && !(thT.getD x false)))
  | .invokevirtual _ => Nat.beq n 3 && (Nat.beq x 1004 || Nat.beq x 1005 || (Nat.blt x 290 && !(Nat.beq x 288) && Nat.blt (rcT.getD x 99) 13 && Nat.beq (rcT.getD x 99) (clT.getD x 99) && Nat.beq y (npT.getD x 0 + 1) && !(inT.getD x false) && (hhM x).isEmpty))
  | .invokespecial _ => Nat.beq n 3 && (Nat.beq x 1000 || (Nat.blt x 290 && !(Nat.beq x 288) && Nat.blt (rcT.getD x 99) 13 && Nat.beq (rcT.getD x 99) (clT.getD x 99) && Nat.beq y (npT.getD x 0 + 1) && inT.getD x false && !(thT.getD x false) && (hhM x).isEmpty))
  | .ireturn => Nat.beq n 1 && ((Nat.beq x 0 && decide (rtM m = some .int)) || (Nat.beq x 1 && decide (rtM m = some .boolean)))
  | .lreturn => Nat.beq n 1 && decide (rtM m = some .long)
  | .areturn => Nat.beq n 1 && decide (rtM m = some (.array .int))
  | .return_ => Nat.beq n 1 && decide (rtM m = none)
  | _ => Nat.beq n 1
noncomputable def chkE (m : Nat) (e : Nat × CI) : Bool := decide (decode (byt m) e.1 = .ok (e.2.1, e.2.2.1)) && chkI m e.1 e.2.1 e.2.2.1 e.2.2.2.1 e.2.2.2.2.1 e.2.2.2.2.2
theorem u_all (x : Nat) (hx : x < 13) : ∀ w ∈ u_ws (clM x).1 (clM x).2.1 (clM x).2.2, w ∈ bw := by
  rcases (show x = 0 ∨ x = 1 ∨ x = 2 ∨ x = 3 ∨ x = 4 ∨ x = 5 ∨ x = 6 ∨ x = 7 ∨ x = 8 ∨ x = 9 ∨ x = 10 ∨ x = 11 ∨ x = 12 by omega) with rfl | rfl | rfl | rfl | rfl | rfl | rfl | rfl | rfl | rfl | rfl | rfl | rfl
  · exact gr_of [2, 3, 4, 5, 6, 7, 8, 9, 10, 11, 12, 13] rfl
  · exact gr_of [16, 17, 18, 19] rfl
  · exact gr_of [22, 23, 24, 25] rfl
  · exact gr_of [28, 29, 30, 31, 32, 33] rfl
  · exact gr_of [36, 37, 38, 39] rfl
  · exact gr_of [42, 43, 44, 45] rfl
  · exact gr_of [48, 49] rfl
  · exact gr_of [52, 53, 54, 55, 56, 57, 58, 59] rfl
  · exact gr_of [62, 63, 64] rfl
  · exact gr_of [67, 68, 69, 70] rfl
  · exact gr_of [73, 74, 75, 76, 77, 78, 79, 80] rfl
  · exact gr_of [83, 84, 85, 86, 87, 88, 89, 90, 91, 92, 93, 94, 95, 96, 97, 98, 99, 100, 101, 102] rfl
  · exact gr_of [105, 106, 107, 108, 109, 110, 111, 112, 113, 114, 115, 116, 117, 118, 119, 120, 121, 122, 123, 124, 125, 126, 127, 128, 129, 130, 131, 132, 133, 134, 135, 136, 137, 138, 139, 140, 141, 142, 143, 144, 145, 146, 147, 148, 149, 150, 151, 152, 153, 154] rfl

theorem ck_0 : cdT_0.all (chkE 0) = true := by decide +kernel
set_option maxRecDepth 100000 in
theorem pl_0 : ∀ w ∈ (cdT_0.filter (fun e => Nat.beq (lkk 0 e.2) 1)).map (fun e => lkW 0 e.2), w ∈ bw := gr_of [157, 158, 159, 160, 161, 162, 163, 164, 165] rfl
set_option maxRecDepth 100000 in
theorem ns_0 : ∀ w ∈ (cdT_0.filter (fun e => Nat.beq (lkk 0 e.2) 2)).map (fun e => lkW 0 e.2), w ∈ nw := gr_of [0] rfl
set_option maxRecDepth 100000 in
theorem mw_0 : ∀ w ∈ cdW 0 :: mwL 0, w ∈ bw := gr_of [664, 665, 1] rfl
theorem ck_1 : cdT_1.all (chkE 1) = true := by decide +kernel
set_option maxRecDepth 100000 in
theorem pl_1 : ∀ w ∈ (cdT_1.filter (fun e => Nat.beq (lkk 1 e.2) 1)).map (fun e => lkW 1 e.2), w ∈ bw := gr_of [166, 167, 168, 169, 170, 171, 164, 172] rfl
set_option maxRecDepth 100000 in
theorem ns_1 : ∀ w ∈ (cdT_1.filter (fun e => Nat.beq (lkk 1 e.2) 2)).map (fun e => lkW 1 e.2), w ∈ nw := gr_of [] rfl
set_option maxRecDepth 100000 in
theorem mw_1 : ∀ w ∈ cdW 1 :: mwL 1, w ∈ bw := gr_of [666, 667, 668, 1] rfl
theorem ck_2 : cdT_2.all (chkE 2) = true := by decide +kernel
set_option maxRecDepth 100000 in
theorem pl_2 : ∀ w ∈ (cdT_2.filter (fun e => Nat.beq (lkk 2 e.2) 1)).map (fun e => lkW 2 e.2), w ∈ bw := gr_of [165, 173, 174] rfl
set_option maxRecDepth 100000 in
theorem ns_2 : ∀ w ∈ (cdT_2.filter (fun e => Nat.beq (lkk 2 e.2) 2)).map (fun e => lkW 2 e.2), w ∈ nw := gr_of [] rfl
set_option maxRecDepth 100000 in
theorem mw_2 : ∀ w ∈ cdW 2 :: mwL 2, w ∈ bw := gr_of [669, 670, 671, 1] rfl
theorem ck_3 : cdT_3.all (chkE 3) = true := by decide +kernel
set_option maxRecDepth 100000 in
theorem pl_3 : ∀ w ∈ (cdT_3.filter (fun e => Nat.beq (lkk 3 e.2) 1)).map (fun e => lkW 3 e.2), w ∈ bw := gr_of [175, 176, 177, 178, 177, 179, 180] rfl
set_option maxRecDepth 100000 in
theorem ns_3 : ∀ w ∈ (cdT_3.filter (fun e => Nat.beq (lkk 3 e.2) 2)).map (fun e => lkW 3 e.2), w ∈ nw := gr_of [] rfl
set_option maxRecDepth 100000 in
theorem mw_3 : ∀ w ∈ cdW 3 :: mwL 3, w ∈ bw := gr_of [672, 673, 674, 1] rfl
theorem ck_4 : cdT_4.all (chkE 4) = true := by decide +kernel
set_option maxRecDepth 100000 in
theorem pl_4 : ∀ w ∈ (cdT_4.filter (fun e => Nat.beq (lkk 4 e.2) 1)).map (fun e => lkW 4 e.2), w ∈ bw := gr_of [181, 181, 181, 181, 181, 181] rfl
set_option maxRecDepth 100000 in
theorem ns_4 : ∀ w ∈ (cdT_4.filter (fun e => Nat.beq (lkk 4 e.2) 2)).map (fun e => lkW 4 e.2), w ∈ nw := gr_of [] rfl
set_option maxRecDepth 100000 in
theorem mw_4 : ∀ w ∈ cdW 4 :: mwL 4, w ∈ bw := gr_of [675, 676, 1] rfl
theorem ck_5 : cdT_5.all (chkE 5) = true := by decide +kernel
set_option maxRecDepth 100000 in
theorem pl_5 : ∀ w ∈ (cdT_5.filter (fun e => Nat.beq (lkk 5 e.2) 1)).map (fun e => lkW 5 e.2), w ∈ bw := gr_of [166, 167, 168, 169] rfl
set_option maxRecDepth 100000 in
theorem ns_5 : ∀ w ∈ (cdT_5.filter (fun e => Nat.beq (lkk 5 e.2) 2)).map (fun e => lkW 5 e.2), w ∈ nw := gr_of [] rfl
set_option maxRecDepth 100000 in
theorem mw_5 : ∀ w ∈ cdW 5 :: mwL 5, w ∈ bw := gr_of [677, 678, 679, 1] rfl
theorem ck_6 : cdT_6.all (chkE 6) = true := by decide +kernel
set_option maxRecDepth 100000 in
theorem pl_6 : ∀ w ∈ (cdT_6.filter (fun e => Nat.beq (lkk 6 e.2) 1)).map (fun e => lkW 6 e.2), w ∈ bw := gr_of [158, 166, 182, 166, 166, 159, 167, 182, 160, 167, 182, 167, 167, 161, 168, 182, 168, 168, 162, 169, 182, 169, 169, 182, 170, 182, 171] rfl
set_option maxRecDepth 100000 in
theorem ns_6 : ∀ w ∈ (cdT_6.filter (fun e => Nat.beq (lkk 6 e.2) 2)).map (fun e => lkW 6 e.2), w ∈ nw := gr_of [] rfl
set_option maxRecDepth 100000 in
theorem mw_6 : ∀ w ∈ cdW 6 :: mwL 6, w ∈ bw := gr_of [680, 681, 682, 1] rfl
theorem ck_7 : cdT_7.all (chkE 7) = true := by decide +kernel
set_option maxRecDepth 100000 in
theorem pl_7 : ∀ w ∈ (cdT_7.filter (fun e => Nat.beq (lkk 7 e.2) 1)).map (fun e => lkW 7 e.2), w ∈ bw := gr_of [169, 162, 169] rfl
set_option maxRecDepth 100000 in
theorem ns_7 : ∀ w ∈ (cdT_7.filter (fun e => Nat.beq (lkk 7 e.2) 2)).map (fun e => lkW 7 e.2), w ∈ nw := gr_of [] rfl
set_option maxRecDepth 100000 in
theorem mw_7 : ∀ w ∈ cdW 7 :: mwL 7, w ∈ bw := gr_of [683, 684, 685, 1] rfl
theorem ck_8 : cdT_8.all (chkE 8) = true := by decide +kernel
set_option maxRecDepth 100000 in
theorem pl_8 : ∀ w ∈ (cdT_8.filter (fun e => Nat.beq (lkk 8 e.2) 1)).map (fun e => lkW 8 e.2), w ∈ bw := gr_of [166, 158] rfl
set_option maxRecDepth 100000 in
theorem ns_8 : ∀ w ∈ (cdT_8.filter (fun e => Nat.beq (lkk 8 e.2) 2)).map (fun e => lkW 8 e.2), w ∈ nw := gr_of [] rfl
set_option maxRecDepth 100000 in
theorem mw_8 : ∀ w ∈ cdW 8 :: mwL 8, w ∈ bw := gr_of [686, 687, 688, 1] rfl
theorem ck_9 : cdT_9.all (chkE 9) = true := by decide +kernel
set_option maxRecDepth 100000 in
theorem pl_9 : ∀ w ∈ (cdT_9.filter (fun e => Nat.beq (lkk 9 e.2) 1)).map (fun e => lkW 9 e.2), w ∈ bw := gr_of [167, 159] rfl
set_option maxRecDepth 100000 in
theorem ns_9 : ∀ w ∈ (cdT_9.filter (fun e => Nat.beq (lkk 9 e.2) 2)).map (fun e => lkW 9 e.2), w ∈ nw := gr_of [] rfl
set_option maxRecDepth 100000 in
theorem mw_9 : ∀ w ∈ cdW 9 :: mwL 9, w ∈ bw := gr_of [689, 690, 691, 1] rfl
theorem ck_10 : cdT_10.all (chkE 10) = true := by decide +kernel
set_option maxRecDepth 100000 in
theorem pl_10 : ∀ w ∈ (cdT_10.filter (fun e => Nat.beq (lkk 10 e.2) 1)).map (fun e => lkW 10 e.2), w ∈ bw := gr_of [168, 161] rfl
set_option maxRecDepth 100000 in
theorem ns_10 : ∀ w ∈ (cdT_10.filter (fun e => Nat.beq (lkk 10 e.2) 2)).map (fun e => lkW 10 e.2), w ∈ nw := gr_of [] rfl
set_option maxRecDepth 100000 in
theorem mw_10 : ∀ w ∈ cdW 10 :: mwL 10, w ∈ bw := gr_of [692, 693, 694, 1] rfl
theorem ck_11 : cdT_11.all (chkE 11) = true := by decide +kernel
set_option maxRecDepth 100000 in
theorem pl_11 : ∀ w ∈ (cdT_11.filter (fun e => Nat.beq (lkk 11 e.2) 1)).map (fun e => lkW 11 e.2), w ∈ bw := gr_of [183, 171] rfl
set_option maxRecDepth 100000 in
theorem ns_11 : ∀ w ∈ (cdT_11.filter (fun e => Nat.beq (lkk 11 e.2) 2)).map (fun e => lkW 11 e.2), w ∈ nw := gr_of [] rfl
set_option maxRecDepth 100000 in
theorem mw_11 : ∀ w ∈ cdW 11 :: mwL 11, w ∈ bw := gr_of [695, 696, 697, 1] rfl
theorem ck_12 : cdT_12.all (chkE 12) = true := by decide +kernel
set_option maxRecDepth 100000 in
theorem pl_12 : ∀ w ∈ (cdT_12.filter (fun e => Nat.beq (lkk 12 e.2) 1)).map (fun e => lkW 12 e.2), w ∈ bw := gr_of [166, 171, 184, 166, 171, 185] rfl
set_option maxRecDepth 100000 in
theorem ns_12 : ∀ w ∈ (cdT_12.filter (fun e => Nat.beq (lkk 12 e.2) 2)).map (fun e => lkW 12 e.2), w ∈ nw := gr_of [1] rfl
set_option maxRecDepth 100000 in
theorem mw_12 : ∀ w ∈ cdW 12 :: mwL 12, w ∈ bw := gr_of [698, 699, 700, 1] rfl
theorem ck_13 : cdT_13.all (chkE 13) = true := by decide +kernel
set_option maxRecDepth 100000 in
theorem pl_13 : ∀ w ∈ (cdT_13.filter (fun e => Nat.beq (lkk 13 e.2) 1)).map (fun e => lkW 13 e.2), w ∈ bw := gr_of [186, 187, 188, 189, 190] rfl
set_option maxRecDepth 100000 in
theorem ns_13 : ∀ w ∈ (cdT_13.filter (fun e => Nat.beq (lkk 13 e.2) 2)).map (fun e => lkW 13 e.2), w ∈ nw := gr_of [] rfl
set_option maxRecDepth 100000 in
theorem mw_13 : ∀ w ∈ cdW 13 :: mwL 13, w ∈ bw := gr_of [701, 702, 15] rfl
theorem ck_14 : cdT_14.all (chkE 14) = true := by decide +kernel
set_option maxRecDepth 100000 in
theorem pl_14 : ∀ w ∈ (cdT_14.filter (fun e => Nat.beq (lkk 14 e.2) 1)).map (fun e => lkW 14 e.2), w ∈ bw := gr_of [187, 191, 192, 193, 190, 188, 190, 187] rfl
set_option maxRecDepth 100000 in
theorem ns_14 : ∀ w ∈ (cdT_14.filter (fun e => Nat.beq (lkk 14 e.2) 2)).map (fun e => lkW 14 e.2), w ∈ nw := gr_of [2, 2, 2] rfl
set_option maxRecDepth 100000 in
theorem mw_14 : ∀ w ∈ cdW 14 :: mwL 14, w ∈ bw := gr_of [703, 704, 705, 15] rfl
theorem ck_15 : cdT_15.all (chkE 15) = true := by decide +kernel
set_option maxRecDepth 100000 in
theorem pl_15 : ∀ w ∈ (cdT_15.filter (fun e => Nat.beq (lkk 15 e.2) 1)).map (fun e => lkW 15 e.2), w ∈ bw := gr_of [189, 194, 189, 195, 192] rfl
set_option maxRecDepth 100000 in
theorem ns_15 : ∀ w ∈ (cdT_15.filter (fun e => Nat.beq (lkk 15 e.2) 2)).map (fun e => lkW 15 e.2), w ∈ nw := gr_of [3, 3, 4, 5, 5, 6, 7] rfl
set_option maxRecDepth 100000 in
theorem mw_15 : ∀ w ∈ cdW 15 :: mwL 15, w ∈ bw := gr_of [706, 707, 708, 15] rfl
theorem ck_16 : cdT_16.all (chkE 16) = true := by decide +kernel
set_option maxRecDepth 100000 in
theorem pl_16 : ∀ w ∈ (cdT_16.filter (fun e => Nat.beq (lkk 16 e.2) 1)).map (fun e => lkW 16 e.2), w ∈ bw := gr_of [187, 189, 189, 187, 188] rfl
set_option maxRecDepth 100000 in
theorem ns_16 : ∀ w ∈ (cdT_16.filter (fun e => Nat.beq (lkk 16 e.2) 2)).map (fun e => lkW 16 e.2), w ∈ nw := gr_of [] rfl
set_option maxRecDepth 100000 in
theorem mw_16 : ∀ w ∈ cdW 16 :: mwL 16, w ∈ bw := gr_of [709, 710, 711, 15] rfl
theorem ck_17 : cdT_17.all (chkE 17) = true := by decide +kernel
set_option maxRecDepth 100000 in
theorem pl_17 : ∀ w ∈ (cdT_17.filter (fun e => Nat.beq (lkk 17 e.2) 1)).map (fun e => lkW 17 e.2), w ∈ bw := gr_of [196, 197, 198, 199, 200] rfl
set_option maxRecDepth 100000 in
theorem ns_17 : ∀ w ∈ (cdT_17.filter (fun e => Nat.beq (lkk 17 e.2) 2)).map (fun e => lkW 17 e.2), w ∈ nw := gr_of [] rfl
set_option maxRecDepth 100000 in
theorem mw_17 : ∀ w ∈ cdW 17 :: mwL 17, w ∈ bw := gr_of [712, 713, 21] rfl
theorem ck_18 : cdT_18.all (chkE 18) = true := by decide +kernel
set_option maxRecDepth 100000 in
theorem pl_18 : ∀ w ∈ (cdT_18.filter (fun e => Nat.beq (lkk 18 e.2) 1)).map (fun e => lkW 18 e.2), w ∈ bw := gr_of [201, 202, 202, 202, 202, 202, 202, 202, 202, 202] rfl
set_option maxRecDepth 100000 in
theorem ns_18 : ∀ w ∈ (cdT_18.filter (fun e => Nat.beq (lkk 18 e.2) 2)).map (fun e => lkW 18 e.2), w ∈ nw := gr_of [] rfl
set_option maxRecDepth 100000 in
theorem mw_18 : ∀ w ∈ cdW 18 :: mwL 18, w ∈ bw := gr_of [714, 715, 716, 21] rfl
theorem ck_19 : cdT_19.all (chkE 19) = true := by decide +kernel
set_option maxRecDepth 100000 in
theorem pl_19 : ∀ w ∈ (cdT_19.filter (fun e => Nat.beq (lkk 19 e.2) 1)).map (fun e => lkW 19 e.2), w ∈ bw := gr_of [201, 203, 204] rfl
set_option maxRecDepth 100000 in
theorem ns_19 : ∀ w ∈ (cdT_19.filter (fun e => Nat.beq (lkk 19 e.2) 2)).map (fun e => lkW 19 e.2), w ∈ nw := gr_of [] rfl
set_option maxRecDepth 100000 in
theorem mw_19 : ∀ w ∈ cdW 19 :: mwL 19, w ∈ bw := gr_of [717, 718, 719, 21] rfl
theorem ck_20 : cdT_20.all (chkE 20) = true := by decide +kernel
set_option maxRecDepth 100000 in
theorem pl_20 : ∀ w ∈ (cdT_20.filter (fun e => Nat.beq (lkk 20 e.2) 1)).map (fun e => lkW 20 e.2), w ∈ bw := gr_of [201, 198, 198, 201, 201, 201] rfl
set_option maxRecDepth 100000 in
theorem ns_20 : ∀ w ∈ (cdT_20.filter (fun e => Nat.beq (lkk 20 e.2) 2)).map (fun e => lkW 20 e.2), w ∈ nw := gr_of [] rfl
set_option maxRecDepth 100000 in
theorem mw_20 : ∀ w ∈ cdW 20 :: mwL 20, w ∈ bw := gr_of [720, 721, 722, 21] rfl
theorem ck_21 : cdT_21.all (chkE 21) = true := by decide +kernel
set_option maxRecDepth 100000 in
theorem pl_21 : ∀ w ∈ (cdT_21.filter (fun e => Nat.beq (lkk 21 e.2) 1)).map (fun e => lkW 21 e.2), w ∈ bw := gr_of [205, 206, 207, 205, 202] rfl
set_option maxRecDepth 100000 in
theorem ns_21 : ∀ w ∈ (cdT_21.filter (fun e => Nat.beq (lkk 21 e.2) 2)).map (fun e => lkW 21 e.2), w ∈ nw := gr_of [] rfl
set_option maxRecDepth 100000 in
theorem mw_21 : ∀ w ∈ cdW 21 :: mwL 21, w ∈ bw := gr_of [723, 724, 725, 21] rfl
theorem ck_22 : cdT_22.all (chkE 22) = true := by decide +kernel
set_option maxRecDepth 100000 in
theorem pl_22 : ∀ w ∈ (cdT_22.filter (fun e => Nat.beq (lkk 22 e.2) 1)).map (fun e => lkW 22 e.2), w ∈ bw := gr_of [208, 206, 207, 208, 202] rfl
set_option maxRecDepth 100000 in
theorem ns_22 : ∀ w ∈ (cdT_22.filter (fun e => Nat.beq (lkk 22 e.2) 2)).map (fun e => lkW 22 e.2), w ∈ nw := gr_of [] rfl
set_option maxRecDepth 100000 in
theorem mw_22 : ∀ w ∈ cdW 22 :: mwL 22, w ∈ bw := gr_of [726, 727, 728, 21] rfl
theorem ck_23 : cdT_23.all (chkE 23) = true := by decide +kernel
set_option maxRecDepth 100000 in
theorem pl_23 : ∀ w ∈ (cdT_23.filter (fun e => Nat.beq (lkk 23 e.2) 1)).map (fun e => lkW 23 e.2), w ∈ bw := gr_of [209, 210, 202, 206, 211, 212, 213, 213, 202, 214, 214, 215, 203, 215, 213, 216] rfl
set_option maxRecDepth 100000 in
theorem ns_23 : ∀ w ∈ (cdT_23.filter (fun e => Nat.beq (lkk 23 e.2) 2)).map (fun e => lkW 23 e.2), w ∈ nw := gr_of [] rfl
set_option maxRecDepth 100000 in
theorem mw_23 : ∀ w ∈ cdW 23 :: mwL 23, w ∈ bw := gr_of [729, 730, 731, 21] rfl
theorem ck_24 : cdT_24.all (chkE 24) = true := by decide +kernel
set_option maxRecDepth 100000 in
theorem pl_24 : ∀ w ∈ (cdT_24.filter (fun e => Nat.beq (lkk 24 e.2) 1)).map (fun e => lkW 24 e.2), w ∈ bw := gr_of [215, 203, 215, 203, 215, 202] rfl
set_option maxRecDepth 100000 in
theorem ns_24 : ∀ w ∈ (cdT_24.filter (fun e => Nat.beq (lkk 24 e.2) 2)).map (fun e => lkW 24 e.2), w ∈ nw := gr_of [] rfl
set_option maxRecDepth 100000 in
theorem mw_24 : ∀ w ∈ cdW 24 :: mwL 24, w ∈ bw := gr_of [732, 733, 734, 21] rfl
theorem ck_25 : cdT_25.all (chkE 25) = true := by decide +kernel
set_option maxRecDepth 100000 in
theorem pl_25 : ∀ w ∈ (cdT_25.filter (fun e => Nat.beq (lkk 25 e.2) 1)).map (fun e => lkW 25 e.2), w ∈ bw := gr_of [213, 213, 213, 213, 213, 213, 213, 213] rfl
set_option maxRecDepth 100000 in
theorem ns_25 : ∀ w ∈ (cdT_25.filter (fun e => Nat.beq (lkk 25 e.2) 2)).map (fun e => lkW 25 e.2), w ∈ nw := gr_of [] rfl
set_option maxRecDepth 100000 in
theorem mw_25 : ∀ w ∈ cdW 25 :: mwL 25, w ∈ bw := gr_of [735, 736, 21] rfl
theorem ck_26 : cdT_26.all (chkE 26) = true := by decide +kernel
set_option maxRecDepth 100000 in
theorem pl_26 : ∀ w ∈ (cdT_26.filter (fun e => Nat.beq (lkk 26 e.2) 1)).map (fun e => lkW 26 e.2), w ∈ bw := gr_of [201, 198, 199, 199, 199, 217, 199, 199, 197, 199, 218, 219] rfl
set_option maxRecDepth 100000 in
theorem ns_26 : ∀ w ∈ (cdT_26.filter (fun e => Nat.beq (lkk 26 e.2) 2)).map (fun e => lkW 26 e.2), w ∈ nw := gr_of [] rfl
set_option maxRecDepth 100000 in
theorem mw_26 : ∀ w ∈ cdW 26 :: mwL 26, w ∈ bw := gr_of [737, 738, 739, 21] rfl
theorem ck_27 : cdT_27.all (chkE 27) = true := by decide +kernel
set_option maxRecDepth 100000 in
theorem pl_27 : ∀ w ∈ (cdT_27.filter (fun e => Nat.beq (lkk 27 e.2) 1)).map (fun e => lkW 27 e.2), w ∈ bw := gr_of [] rfl
set_option maxRecDepth 100000 in
theorem ns_27 : ∀ w ∈ (cdT_27.filter (fun e => Nat.beq (lkk 27 e.2) 2)).map (fun e => lkW 27 e.2), w ∈ nw := gr_of [] rfl
set_option maxRecDepth 100000 in
theorem mw_27 : ∀ w ∈ cdW 27 :: mwL 27, w ∈ bw := gr_of [740, 741, 21] rfl
theorem ck_28 : cdT_28.all (chkE 28) = true := by decide +kernel
set_option maxRecDepth 100000 in
theorem pl_28 : ∀ w ∈ (cdT_28.filter (fun e => Nat.beq (lkk 28 e.2) 1)).map (fun e => lkW 28 e.2), w ∈ bw := gr_of [220, 221, 222, 223, 224] rfl
set_option maxRecDepth 100000 in
theorem ns_28 : ∀ w ∈ (cdT_28.filter (fun e => Nat.beq (lkk 28 e.2) 2)).map (fun e => lkW 28 e.2), w ∈ nw := gr_of [] rfl
set_option maxRecDepth 100000 in
theorem mw_28 : ∀ w ∈ cdW 28 :: mwL 28, w ∈ bw := gr_of [742, 743, 27] rfl
theorem ck_29 : cdT_29.all (chkE 29) = true := by decide +kernel
set_option maxRecDepth 100000 in
theorem pl_29 : ∀ w ∈ (cdT_29.filter (fun e => Nat.beq (lkk 29 e.2) 1)).map (fun e => lkW 29 e.2), w ∈ bw := gr_of [225, 226, 221, 222, 223, 224] rfl
set_option maxRecDepth 100000 in
theorem ns_29 : ∀ w ∈ (cdT_29.filter (fun e => Nat.beq (lkk 29 e.2) 2)).map (fun e => lkW 29 e.2), w ∈ nw := gr_of [8, 9] rfl
set_option maxRecDepth 100000 in
theorem mw_29 : ∀ w ∈ cdW 29 :: mwL 29, w ∈ bw := gr_of [744, 745, 746, 27] rfl
theorem ck_30 : cdT_30.all (chkE 30) = true := by decide +kernel
set_option maxRecDepth 100000 in
theorem pl_30 : ∀ w ∈ (cdT_30.filter (fun e => Nat.beq (lkk 30 e.2) 1)).map (fun e => lkW 30 e.2), w ∈ bw := gr_of [221, 221, 227, 222, 222, 227, 223, 223, 227, 224, 224, 227, 225, 225, 226, 226] rfl
set_option maxRecDepth 100000 in
theorem ns_30 : ∀ w ∈ (cdT_30.filter (fun e => Nat.beq (lkk 30 e.2) 2)).map (fun e => lkW 30 e.2), w ∈ nw := gr_of [] rfl
set_option maxRecDepth 100000 in
theorem mw_30 : ∀ w ∈ cdW 30 :: mwL 30, w ∈ bw := gr_of [747, 748, 749, 27] rfl
theorem ck_31 : cdT_31.all (chkE 31) = true := by decide +kernel
set_option maxRecDepth 100000 in
theorem pl_31 : ∀ w ∈ (cdT_31.filter (fun e => Nat.beq (lkk 31 e.2) 1)).map (fun e => lkW 31 e.2), w ∈ bw := gr_of [222, 228, 222] rfl
set_option maxRecDepth 100000 in
theorem ns_31 : ∀ w ∈ (cdT_31.filter (fun e => Nat.beq (lkk 31 e.2) 2)).map (fun e => lkW 31 e.2), w ∈ nw := gr_of [] rfl
set_option maxRecDepth 100000 in
theorem mw_31 : ∀ w ∈ cdW 31 :: mwL 31, w ∈ bw := gr_of [750, 751, 752, 27] rfl
theorem ck_32 : cdT_32.all (chkE 32) = true := by decide +kernel
set_option maxRecDepth 100000 in
theorem pl_32 : ∀ w ∈ (cdT_32.filter (fun e => Nat.beq (lkk 32 e.2) 1)).map (fun e => lkW 32 e.2), w ∈ bw := gr_of [222, 222, 223, 224] rfl
set_option maxRecDepth 100000 in
theorem ns_32 : ∀ w ∈ (cdT_32.filter (fun e => Nat.beq (lkk 32 e.2) 2)).map (fun e => lkW 32 e.2), w ∈ nw := gr_of [] rfl
set_option maxRecDepth 100000 in
theorem mw_32 : ∀ w ∈ cdW 32 :: mwL 32, w ∈ bw := gr_of [753, 754, 755, 27] rfl
theorem ck_33 : cdT_33.all (chkE 33) = true := by decide +kernel
set_option maxRecDepth 100000 in
theorem pl_33 : ∀ w ∈ (cdT_33.filter (fun e => Nat.beq (lkk 33 e.2) 1)).map (fun e => lkW 33 e.2), w ∈ bw := gr_of [222, 223, 223] rfl
set_option maxRecDepth 100000 in
theorem ns_33 : ∀ w ∈ (cdT_33.filter (fun e => Nat.beq (lkk 33 e.2) 2)).map (fun e => lkW 33 e.2), w ∈ nw := gr_of [] rfl
set_option maxRecDepth 100000 in
theorem mw_33 : ∀ w ∈ cdW 33 :: mwL 33, w ∈ bw := gr_of [756, 757, 758, 27] rfl
theorem ck_34 : cdT_34.all (chkE 34) = true := by decide +kernel
set_option maxRecDepth 100000 in
theorem pl_34 : ∀ w ∈ (cdT_34.filter (fun e => Nat.beq (lkk 34 e.2) 1)).map (fun e => lkW 34 e.2), w ∈ bw := gr_of [222, 224, 226, 224, 226, 226] rfl
set_option maxRecDepth 100000 in
theorem ns_34 : ∀ w ∈ (cdT_34.filter (fun e => Nat.beq (lkk 34 e.2) 2)).map (fun e => lkW 34 e.2), w ∈ nw := gr_of [] rfl
set_option maxRecDepth 100000 in
theorem mw_34 : ∀ w ∈ cdW 34 :: mwL 34, w ∈ bw := gr_of [759, 760, 761, 27] rfl
theorem ck_35 : cdT_35.all (chkE 35) = true := by decide +kernel
set_option maxRecDepth 100000 in
theorem pl_35 : ∀ w ∈ (cdT_35.filter (fun e => Nat.beq (lkk 35 e.2) 1)).map (fun e => lkW 35 e.2), w ∈ bw := gr_of [229, 221, 221, 230] rfl
set_option maxRecDepth 100000 in
theorem ns_35 : ∀ w ∈ (cdT_35.filter (fun e => Nat.beq (lkk 35 e.2) 2)).map (fun e => lkW 35 e.2), w ∈ nw := gr_of [] rfl
set_option maxRecDepth 100000 in
theorem mw_35 : ∀ w ∈ cdW 35 :: mwL 35, w ∈ bw := gr_of [762, 763, 764, 27] rfl
theorem ck_36 : cdT_36.all (chkE 36) = true := by decide +kernel
set_option maxRecDepth 100000 in
theorem pl_36 : ∀ w ∈ (cdT_36.filter (fun e => Nat.beq (lkk 36 e.2) 1)).map (fun e => lkW 36 e.2), w ∈ bw := gr_of [222, 221, 221, 221, 231, 232, 223, 224, 225, 225] rfl
set_option maxRecDepth 100000 in
theorem ns_36 : ∀ w ∈ (cdT_36.filter (fun e => Nat.beq (lkk 36 e.2) 2)).map (fun e => lkW 36 e.2), w ∈ nw := gr_of [10] rfl
set_option maxRecDepth 100000 in
theorem mw_36 : ∀ w ∈ cdW 36 :: mwL 36, w ∈ bw := gr_of [765, 766, 767, 27] rfl
theorem ck_37 : cdT_37.all (chkE 37) = true := by decide +kernel
set_option maxRecDepth 100000 in
theorem pl_37 : ∀ w ∈ (cdT_37.filter (fun e => Nat.beq (lkk 37 e.2) 1)).map (fun e => lkW 37 e.2), w ∈ bw := gr_of [222, 222, 222] rfl
set_option maxRecDepth 100000 in
theorem ns_37 : ∀ w ∈ (cdT_37.filter (fun e => Nat.beq (lkk 37 e.2) 2)).map (fun e => lkW 37 e.2), w ∈ nw := gr_of [11, 12, 10, 11] rfl
set_option maxRecDepth 100000 in
theorem mw_37 : ∀ w ∈ cdW 37 :: mwL 37, w ∈ bw := gr_of [768, 769, 770, 27] rfl
theorem ck_38 : cdT_38.all (chkE 38) = true := by decide +kernel
set_option maxRecDepth 100000 in
theorem pl_38 : ∀ w ∈ (cdT_38.filter (fun e => Nat.beq (lkk 38 e.2) 1)).map (fun e => lkW 38 e.2), w ∈ bw := gr_of [222, 222, 222] rfl
set_option maxRecDepth 100000 in
theorem ns_38 : ∀ w ∈ (cdT_38.filter (fun e => Nat.beq (lkk 38 e.2) 2)).map (fun e => lkW 38 e.2), w ∈ nw := gr_of [10, 11] rfl
set_option maxRecDepth 100000 in
theorem mw_38 : ∀ w ∈ cdW 38 :: mwL 38, w ∈ bw := gr_of [771, 772, 773, 27] rfl
theorem ck_39 : cdT_39.all (chkE 39) = true := by decide +kernel
set_option maxRecDepth 100000 in
theorem pl_39 : ∀ w ∈ (cdT_39.filter (fun e => Nat.beq (lkk 39 e.2) 1)).map (fun e => lkW 39 e.2), w ∈ bw := gr_of [222, 222] rfl
set_option maxRecDepth 100000 in
theorem ns_39 : ∀ w ∈ (cdT_39.filter (fun e => Nat.beq (lkk 39 e.2) 2)).map (fun e => lkW 39 e.2), w ∈ nw := gr_of [10, 11, 13] rfl
set_option maxRecDepth 100000 in
theorem mw_39 : ∀ w ∈ cdW 39 :: mwL 39, w ∈ bw := gr_of [774, 775, 776, 27] rfl
theorem ck_40 : cdT_40.all (chkE 40) = true := by decide +kernel
set_option maxRecDepth 100000 in
theorem pl_40 : ∀ w ∈ (cdT_40.filter (fun e => Nat.beq (lkk 40 e.2) 1)).map (fun e => lkW 40 e.2), w ∈ bw := gr_of [222] rfl
set_option maxRecDepth 100000 in
theorem ns_40 : ∀ w ∈ (cdT_40.filter (fun e => Nat.beq (lkk 40 e.2) 2)).map (fun e => lkW 40 e.2), w ∈ nw := gr_of [10] rfl
set_option maxRecDepth 100000 in
theorem mw_40 : ∀ w ∈ cdW 40 :: mwL 40, w ∈ bw := gr_of [777, 778, 779, 27] rfl
theorem ck_41 : cdT_41.all (chkE 41) = true := by decide +kernel
set_option maxRecDepth 100000 in
theorem pl_41 : ∀ w ∈ (cdT_41.filter (fun e => Nat.beq (lkk 41 e.2) 1)).map (fun e => lkW 41 e.2), w ∈ bw := gr_of [221] rfl
set_option maxRecDepth 100000 in
theorem ns_41 : ∀ w ∈ (cdT_41.filter (fun e => Nat.beq (lkk 41 e.2) 2)).map (fun e => lkW 41 e.2), w ∈ nw := gr_of [10] rfl
set_option maxRecDepth 100000 in
theorem mw_41 : ∀ w ∈ cdW 41 :: mwL 41, w ∈ bw := gr_of [780, 781, 782, 27] rfl
theorem ck_42 : cdT_42.all (chkE 42) = true := by decide +kernel
set_option maxRecDepth 100000 in
theorem pl_42 : ∀ w ∈ (cdT_42.filter (fun e => Nat.beq (lkk 42 e.2) 1)).map (fun e => lkW 42 e.2), w ∈ bw := gr_of [233, 234] rfl
set_option maxRecDepth 100000 in
theorem ns_42 : ∀ w ∈ (cdT_42.filter (fun e => Nat.beq (lkk 42 e.2) 2)).map (fun e => lkW 42 e.2), w ∈ nw := gr_of [] rfl
set_option maxRecDepth 100000 in
theorem mw_42 : ∀ w ∈ cdW 42 :: mwL 42, w ∈ bw := gr_of [783, 784, 785, 27] rfl
theorem ck_43 : cdT_43.all (chkE 43) = true := by decide +kernel
set_option maxRecDepth 100000 in
theorem pl_43 : ∀ w ∈ (cdT_43.filter (fun e => Nat.beq (lkk 43 e.2) 1)).map (fun e => lkW 43 e.2), w ∈ bw := gr_of [221] rfl
set_option maxRecDepth 100000 in
theorem ns_43 : ∀ w ∈ (cdT_43.filter (fun e => Nat.beq (lkk 43 e.2) 2)).map (fun e => lkW 43 e.2), w ∈ nw := gr_of [10] rfl
set_option maxRecDepth 100000 in
theorem mw_43 : ∀ w ∈ cdW 43 :: mwL 43, w ∈ bw := gr_of [786, 787, 788, 27] rfl
theorem ck_44 : cdT_44.all (chkE 44) = true := by decide +kernel
set_option maxRecDepth 100000 in
theorem pl_44 : ∀ w ∈ (cdT_44.filter (fun e => Nat.beq (lkk 44 e.2) 1)).map (fun e => lkW 44 e.2), w ∈ bw := gr_of [222, 222, 235, 223, 224, 236] rfl
set_option maxRecDepth 100000 in
theorem ns_44 : ∀ w ∈ (cdT_44.filter (fun e => Nat.beq (lkk 44 e.2) 2)).map (fun e => lkW 44 e.2), w ∈ nw := gr_of [14] rfl
set_option maxRecDepth 100000 in
theorem mw_44 : ∀ w ∈ cdW 44 :: mwL 44, w ∈ bw := gr_of [789, 790, 791, 27] rfl
theorem ck_45 : cdT_45.all (chkE 45) = true := by decide +kernel
set_option maxRecDepth 100000 in
theorem pl_45 : ∀ w ∈ (cdT_45.filter (fun e => Nat.beq (lkk 45 e.2) 1)).map (fun e => lkW 45 e.2), w ∈ bw := gr_of [235, 236] rfl
set_option maxRecDepth 100000 in
theorem ns_45 : ∀ w ∈ (cdT_45.filter (fun e => Nat.beq (lkk 45 e.2) 2)).map (fun e => lkW 45 e.2), w ∈ nw := gr_of [14] rfl
set_option maxRecDepth 100000 in
theorem mw_45 : ∀ w ∈ cdW 45 :: mwL 45, w ∈ bw := gr_of [792, 793, 794, 27] rfl
theorem ck_46 : cdT_46.all (chkE 46) = true := by decide +kernel
set_option maxRecDepth 100000 in
theorem pl_46 : ∀ w ∈ (cdT_46.filter (fun e => Nat.beq (lkk 46 e.2) 1)).map (fun e => lkW 46 e.2), w ∈ bw := gr_of [237, 221, 225, 238, 225] rfl
set_option maxRecDepth 100000 in
theorem ns_46 : ∀ w ∈ (cdT_46.filter (fun e => Nat.beq (lkk 46 e.2) 2)).map (fun e => lkW 46 e.2), w ∈ nw := gr_of [14, 15, 11, 11] rfl
set_option maxRecDepth 100000 in
theorem mw_46 : ∀ w ∈ cdW 46 :: mwL 46, w ∈ bw := gr_of [795, 796, 797, 27] rfl
theorem ck_47 : cdT_47.all (chkE 47) = true := by decide +kernel
set_option maxRecDepth 100000 in
theorem pl_47 : ∀ w ∈ (cdT_47.filter (fun e => Nat.beq (lkk 47 e.2) 1)).map (fun e => lkW 47 e.2), w ∈ bw := gr_of [239, 240, 241, 242] rfl
set_option maxRecDepth 100000 in
theorem ns_47 : ∀ w ∈ (cdT_47.filter (fun e => Nat.beq (lkk 47 e.2) 2)).map (fun e => lkW 47 e.2), w ∈ nw := gr_of [] rfl
set_option maxRecDepth 100000 in
theorem mw_47 : ∀ w ∈ cdW 47 :: mwL 47, w ∈ bw := gr_of [798, 799, 35] rfl
theorem ck_48 : cdT_48.all (chkE 48) = true := by decide +kernel
set_option maxRecDepth 100000 in
theorem pl_48 : ∀ w ∈ (cdT_48.filter (fun e => Nat.beq (lkk 48 e.2) 1)).map (fun e => lkW 48 e.2), w ∈ bw := gr_of [240, 242, 243, 242, 244, 242, 240, 245, 245, 246, 245, 246, 245, 242, 246, 242] rfl
set_option maxRecDepth 100000 in
theorem ns_48 : ∀ w ∈ (cdT_48.filter (fun e => Nat.beq (lkk 48 e.2) 2)).map (fun e => lkW 48 e.2), w ∈ nw := gr_of [16] rfl
set_option maxRecDepth 100000 in
theorem mw_48 : ∀ w ∈ cdW 48 :: mwL 48, w ∈ bw := gr_of [800, 801, 802, 35] rfl
theorem ck_49 : cdT_49.all (chkE 49) = true := by decide +kernel
set_option maxRecDepth 100000 in
theorem pl_49 : ∀ w ∈ (cdT_49.filter (fun e => Nat.beq (lkk 49 e.2) 1)).map (fun e => lkW 49 e.2), w ∈ bw := gr_of [241, 247, 240, 241, 248, 240, 241, 248, 240, 240, 241, 240, 241] rfl
set_option maxRecDepth 100000 in
theorem ns_49 : ∀ w ∈ (cdT_49.filter (fun e => Nat.beq (lkk 49 e.2) 2)).map (fun e => lkW 49 e.2), w ∈ nw := gr_of [17, 17, 18, 19, 20, 21, 21] rfl
set_option maxRecDepth 100000 in
theorem mw_49 : ∀ w ∈ cdW 49 :: mwL 49, w ∈ bw := gr_of [803, 804, 805, 35] rfl
theorem ck_50 : cdT_50.all (chkE 50) = true := by decide +kernel
set_option maxRecDepth 100000 in
theorem pl_50 : ∀ w ∈ (cdT_50.filter (fun e => Nat.beq (lkk 50 e.2) 1)).map (fun e => lkW 50 e.2), w ∈ bw := gr_of [249, 250] rfl
set_option maxRecDepth 100000 in
theorem ns_50 : ∀ w ∈ (cdT_50.filter (fun e => Nat.beq (lkk 50 e.2) 2)).map (fun e => lkW 50 e.2), w ∈ nw := gr_of [22, 22] rfl
set_option maxRecDepth 100000 in
theorem mw_50 : ∀ w ∈ cdW 50 :: mwL 50, w ∈ bw := gr_of [806, 807, 35] rfl
theorem ck_51 : cdT_51.all (chkE 51) = true := by decide +kernel
set_option maxRecDepth 100000 in
theorem pl_51 : ∀ w ∈ (cdT_51.filter (fun e => Nat.beq (lkk 51 e.2) 1)).map (fun e => lkW 51 e.2), w ∈ bw := gr_of [251, 252, 253, 254, 255] rfl
set_option maxRecDepth 100000 in
theorem ns_51 : ∀ w ∈ (cdT_51.filter (fun e => Nat.beq (lkk 51 e.2) 2)).map (fun e => lkW 51 e.2), w ∈ nw := gr_of [] rfl
set_option maxRecDepth 100000 in
theorem mw_51 : ∀ w ∈ cdW 51 :: mwL 51, w ∈ bw := gr_of [808, 809, 41] rfl
theorem ck_52 : cdT_52.all (chkE 52) = true := by decide +kernel
set_option maxRecDepth 100000 in
theorem pl_52 : ∀ w ∈ (cdT_52.filter (fun e => Nat.beq (lkk 52 e.2) 1)).map (fun e => lkW 52 e.2), w ∈ bw := gr_of [252, 256, 257, 258, 259, 252] rfl
set_option maxRecDepth 100000 in
theorem ns_52 : ∀ w ∈ (cdT_52.filter (fun e => Nat.beq (lkk 52 e.2) 2)).map (fun e => lkW 52 e.2), w ∈ nw := gr_of [23] rfl
set_option maxRecDepth 100000 in
theorem mw_52 : ∀ w ∈ cdW 52 :: mwL 52, w ∈ bw := gr_of [810, 811, 812, 41] rfl
theorem ck_53 : cdT_53.all (chkE 53) = true := by decide +kernel
set_option maxRecDepth 100000 in
theorem pl_53 : ∀ w ∈ (cdT_53.filter (fun e => Nat.beq (lkk 53 e.2) 1)).map (fun e => lkW 53 e.2), w ∈ bw := gr_of [254, 260, 261] rfl
set_option maxRecDepth 100000 in
theorem ns_53 : ∀ w ∈ (cdT_53.filter (fun e => Nat.beq (lkk 53 e.2) 2)).map (fun e => lkW 53 e.2), w ∈ nw := gr_of [24, 25, 26] rfl
set_option maxRecDepth 100000 in
theorem mw_53 : ∀ w ∈ cdW 53 :: mwL 53, w ∈ bw := gr_of [813, 814, 815, 41] rfl
theorem ck_54 : cdT_54.all (chkE 54) = true := by decide +kernel
set_option maxRecDepth 100000 in
theorem pl_54 : ∀ w ∈ (cdT_54.filter (fun e => Nat.beq (lkk 54 e.2) 1)).map (fun e => lkW 54 e.2), w ∈ bw := gr_of [262, 263] rfl
set_option maxRecDepth 100000 in
theorem ns_54 : ∀ w ∈ (cdT_54.filter (fun e => Nat.beq (lkk 54 e.2) 2)).map (fun e => lkW 54 e.2), w ∈ nw := gr_of [25] rfl
set_option maxRecDepth 100000 in
theorem mw_54 : ∀ w ∈ cdW 54 :: mwL 54, w ∈ bw := gr_of [816, 817, 818, 41] rfl
theorem ck_55 : cdT_55.all (chkE 55) = true := by decide +kernel
set_option maxRecDepth 100000 in
theorem pl_55 : ∀ w ∈ (cdT_55.filter (fun e => Nat.beq (lkk 55 e.2) 1)).map (fun e => lkW 55 e.2), w ∈ bw := gr_of [254, 252, 252, 252, 254, 252, 253, 253] rfl
set_option maxRecDepth 100000 in
theorem ns_55 : ∀ w ∈ (cdT_55.filter (fun e => Nat.beq (lkk 55 e.2) 2)).map (fun e => lkW 55 e.2), w ∈ nw := gr_of [24, 27, 25, 24] rfl
set_option maxRecDepth 100000 in
theorem mw_55 : ∀ w ∈ cdW 55 :: mwL 55, w ∈ bw := gr_of [819, 820, 821, 41] rfl
theorem ck_56 : cdT_56.all (chkE 56) = true := by decide +kernel
set_option maxRecDepth 100000 in
theorem pl_56 : ∀ w ∈ (cdT_56.filter (fun e => Nat.beq (lkk 56 e.2) 1)).map (fun e => lkW 56 e.2), w ∈ bw := gr_of [254, 260, 261] rfl
set_option maxRecDepth 100000 in
theorem ns_56 : ∀ w ∈ (cdT_56.filter (fun e => Nat.beq (lkk 56 e.2) 2)).map (fun e => lkW 56 e.2), w ∈ nw := gr_of [24, 25, 26] rfl
set_option maxRecDepth 100000 in
theorem mw_56 : ∀ w ∈ cdW 56 :: mwL 56, w ∈ bw := gr_of [813, 814, 815, 41] rfl
theorem ck_57 : cdT_57.all (chkE 57) = true := by decide +kernel
set_option maxRecDepth 100000 in
theorem pl_57 : ∀ w ∈ (cdT_57.filter (fun e => Nat.beq (lkk 57 e.2) 1)).map (fun e => lkW 57 e.2), w ∈ bw := gr_of [253, 255] rfl
set_option maxRecDepth 100000 in
theorem ns_57 : ∀ w ∈ (cdT_57.filter (fun e => Nat.beq (lkk 57 e.2) 2)).map (fun e => lkW 57 e.2), w ∈ nw := gr_of [23, 24, 27] rfl
set_option maxRecDepth 100000 in
theorem mw_57 : ∀ w ∈ cdW 57 :: mwL 57, w ∈ bw := gr_of [822, 823, 824, 41] rfl
theorem ck_58 : cdT_58.all (chkE 58) = true := by decide +kernel
set_option maxRecDepth 100000 in
theorem pl_58 : ∀ w ∈ (cdT_58.filter (fun e => Nat.beq (lkk 58 e.2) 1)).map (fun e => lkW 58 e.2), w ∈ bw := gr_of [254, 260, 261] rfl
set_option maxRecDepth 100000 in
theorem ns_58 : ∀ w ∈ (cdT_58.filter (fun e => Nat.beq (lkk 58 e.2) 2)).map (fun e => lkW 58 e.2), w ∈ nw := gr_of [24, 25, 26] rfl
set_option maxRecDepth 100000 in
theorem mw_58 : ∀ w ∈ cdW 58 :: mwL 58, w ∈ bw := gr_of [813, 814, 815, 41] rfl
theorem ck_59 : cdT_59.all (chkE 59) = true := by decide +kernel
set_option maxRecDepth 100000 in
theorem pl_59 : ∀ w ∈ (cdT_59.filter (fun e => Nat.beq (lkk 59 e.2) 1)).map (fun e => lkW 59 e.2), w ∈ bw := gr_of [264, 265, 266, 266, 266, 265] rfl
set_option maxRecDepth 100000 in
theorem ns_59 : ∀ w ∈ (cdT_59.filter (fun e => Nat.beq (lkk 59 e.2) 2)).map (fun e => lkW 59 e.2), w ∈ nw := gr_of [28] rfl
set_option maxRecDepth 100000 in
theorem mw_59 : ∀ w ∈ cdW 59 :: mwL 59, w ∈ bw := gr_of [825, 826, 47] rfl
theorem ck_60 : cdT_60.all (chkE 60) = true := by decide +kernel
set_option maxRecDepth 100000 in
theorem pl_60 : ∀ w ∈ (cdT_60.filter (fun e => Nat.beq (lkk 60 e.2) 1)).map (fun e => lkW 60 e.2), w ∈ bw := gr_of [267, 266, 266, 267, 268, 267, 267] rfl
set_option maxRecDepth 100000 in
theorem ns_60 : ∀ w ∈ (cdT_60.filter (fun e => Nat.beq (lkk 60 e.2) 2)).map (fun e => lkW 60 e.2), w ∈ nw := gr_of [] rfl
set_option maxRecDepth 100000 in
theorem mw_60 : ∀ w ∈ cdW 60 :: mwL 60, w ∈ bw := gr_of [827, 828, 829, 47] rfl
theorem ck_61 : cdT_61.all (chkE 61) = true := by decide +kernel
set_option maxRecDepth 100000 in
theorem pl_61 : ∀ w ∈ (cdT_61.filter (fun e => Nat.beq (lkk 61 e.2) 1)).map (fun e => lkW 61 e.2), w ∈ bw := gr_of [267, 267, 267, 266, 267, 268] rfl
set_option maxRecDepth 100000 in
theorem ns_61 : ∀ w ∈ (cdT_61.filter (fun e => Nat.beq (lkk 61 e.2) 2)).map (fun e => lkW 61 e.2), w ∈ nw := gr_of [] rfl
set_option maxRecDepth 100000 in
theorem mw_61 : ∀ w ∈ cdW 61 :: mwL 61, w ∈ bw := gr_of [830, 831, 832, 47] rfl
theorem ck_62 : cdT_62.all (chkE 62) = true := by decide +kernel
set_option maxRecDepth 100000 in
theorem pl_62 : ∀ w ∈ (cdT_62.filter (fun e => Nat.beq (lkk 62 e.2) 1)).map (fun e => lkW 62 e.2), w ∈ bw := gr_of [267, 266, 266, 266, 268, 267, 267] rfl
set_option maxRecDepth 100000 in
theorem ns_62 : ∀ w ∈ (cdT_62.filter (fun e => Nat.beq (lkk 62 e.2) 2)).map (fun e => lkW 62 e.2), w ∈ nw := gr_of [] rfl
set_option maxRecDepth 100000 in
theorem mw_62 : ∀ w ∈ cdW 62 :: mwL 62, w ∈ bw := gr_of [833, 834, 835, 47] rfl
theorem ck_63 : cdT_63.all (chkE 63) = true := by decide +kernel
set_option maxRecDepth 100000 in
theorem pl_63 : ∀ w ∈ (cdT_63.filter (fun e => Nat.beq (lkk 63 e.2) 1)).map (fun e => lkW 63 e.2), w ∈ bw := gr_of [269, 270, 271, 272, 273] rfl
set_option maxRecDepth 100000 in
theorem ns_63 : ∀ w ∈ (cdT_63.filter (fun e => Nat.beq (lkk 63 e.2) 2)).map (fun e => lkW 63 e.2), w ∈ nw := gr_of [] rfl
set_option maxRecDepth 100000 in
theorem mw_63 : ∀ w ∈ cdW 63 :: mwL 63, w ∈ bw := gr_of [836, 837, 51] rfl
theorem ck_64 : cdT_64.all (chkE 64) = true := by decide +kernel
set_option maxRecDepth 100000 in
theorem pl_64 : ∀ w ∈ (cdT_64.filter (fun e => Nat.beq (lkk 64 e.2) 1)).map (fun e => lkW 64 e.2), w ∈ bw := gr_of [274, 275] rfl
set_option maxRecDepth 100000 in
theorem ns_64 : ∀ w ∈ (cdT_64.filter (fun e => Nat.beq (lkk 64 e.2) 2)).map (fun e => lkW 64 e.2), w ∈ nw := gr_of [] rfl
set_option maxRecDepth 100000 in
theorem mw_64 : ∀ w ∈ cdW 64 :: mwL 64, w ∈ bw := gr_of [838, 839, 840, 51] rfl
theorem ck_65 : cdT_65.all (chkE 65) = true := by decide +kernel
set_option maxRecDepth 100000 in
theorem pl_65 : ∀ w ∈ (cdT_65.filter (fun e => Nat.beq (lkk 65 e.2) 1)).map (fun e => lkW 65 e.2), w ∈ bw := gr_of [276, 277, 278] rfl
set_option maxRecDepth 100000 in
theorem ns_65 : ∀ w ∈ (cdT_65.filter (fun e => Nat.beq (lkk 65 e.2) 2)).map (fun e => lkW 65 e.2), w ∈ nw := gr_of [] rfl
set_option maxRecDepth 100000 in
theorem mw_65 : ∀ w ∈ cdW 65 :: mwL 65, w ∈ bw := gr_of [841, 842, 843, 51] rfl
theorem ck_66 : cdT_66.all (chkE 66) = true := by decide +kernel
set_option maxRecDepth 100000 in
theorem pl_66 : ∀ w ∈ (cdT_66.filter (fun e => Nat.beq (lkk 66 e.2) 1)).map (fun e => lkW 66 e.2), w ∈ bw := gr_of [279, 280, 281, 282, 283, 283, 284] rfl
set_option maxRecDepth 100000 in
theorem ns_66 : ∀ w ∈ (cdT_66.filter (fun e => Nat.beq (lkk 66 e.2) 2)).map (fun e => lkW 66 e.2), w ∈ nw := gr_of [29, 30, 29] rfl
set_option maxRecDepth 100000 in
theorem mw_66 : ∀ w ∈ cdW 66 :: mwL 66, w ∈ bw := gr_of [844, 845, 846, 51] rfl
theorem ck_67 : cdT_67.all (chkE 67) = true := by decide +kernel
set_option maxRecDepth 100000 in
theorem pl_67 : ∀ w ∈ (cdT_67.filter (fun e => Nat.beq (lkk 67 e.2) 1)).map (fun e => lkW 67 e.2), w ∈ bw := gr_of [281, 283, 284, 278, 275, 278, 273, 274] rfl
set_option maxRecDepth 100000 in
theorem ns_67 : ∀ w ∈ (cdT_67.filter (fun e => Nat.beq (lkk 67 e.2) 2)).map (fun e => lkW 67 e.2), w ∈ nw := gr_of [] rfl
set_option maxRecDepth 100000 in
theorem mw_67 : ∀ w ∈ cdW 67 :: mwL 67, w ∈ bw := gr_of [847, 848, 849, 51] rfl
theorem ck_68 : cdT_68.all (chkE 68) = true := by decide +kernel
set_option maxRecDepth 100000 in
theorem pl_68 : ∀ w ∈ (cdT_68.filter (fun e => Nat.beq (lkk 68 e.2) 1)).map (fun e => lkW 68 e.2), w ∈ bw := gr_of [285, 285, 285, 285, 285, 285, 285] rfl
set_option maxRecDepth 100000 in
theorem ns_68 : ∀ w ∈ (cdT_68.filter (fun e => Nat.beq (lkk 68 e.2) 2)).map (fun e => lkW 68 e.2), w ∈ nw := gr_of [] rfl
set_option maxRecDepth 100000 in
theorem mw_68 : ∀ w ∈ cdW 68 :: mwL 68, w ∈ bw := gr_of [850, 851, 51] rfl
theorem ck_69 : cdT_69.all (chkE 69) = true := by decide +kernel
set_option maxRecDepth 100000 in
theorem pl_69 : ∀ w ∈ (cdT_69.filter (fun e => Nat.beq (lkk 69 e.2) 1)).map (fun e => lkW 69 e.2), w ∈ bw := gr_of [274, 270, 286, 270, 271, 272, 273, 274] rfl
set_option maxRecDepth 100000 in
theorem ns_69 : ∀ w ∈ (cdT_69.filter (fun e => Nat.beq (lkk 69 e.2) 2)).map (fun e => lkW 69 e.2), w ∈ nw := gr_of [] rfl
set_option maxRecDepth 100000 in
theorem mw_69 : ∀ w ∈ cdW 69 :: mwL 69, w ∈ bw := gr_of [852, 853, 854, 51] rfl
theorem ck_70 : cdT_70.all (chkE 70) = true := by decide +kernel
set_option maxRecDepth 100000 in
theorem pl_70 : ∀ w ∈ (cdT_70.filter (fun e => Nat.beq (lkk 70 e.2) 1)).map (fun e => lkW 70 e.2), w ∈ bw := gr_of [287, 288, 289, 274, 290] rfl
set_option maxRecDepth 100000 in
theorem ns_70 : ∀ w ∈ (cdT_70.filter (fun e => Nat.beq (lkk 70 e.2) 2)).map (fun e => lkW 70 e.2), w ∈ nw := gr_of [] rfl
set_option maxRecDepth 100000 in
theorem mw_70 : ∀ w ∈ cdW 70 :: mwL 70, w ∈ bw := gr_of [855, 856, 857, 51] rfl
theorem ck_71 : cdT_71.all (chkE 71) = true := by decide +kernel
set_option maxRecDepth 100000 in
theorem pl_71 : ∀ w ∈ (cdT_71.filter (fun e => Nat.beq (lkk 71 e.2) 1)).map (fun e => lkW 71 e.2), w ∈ bw := gr_of [287, 287, 287, 270, 291, 273, 292, 293, 288, 288, 289, 289] rfl
set_option maxRecDepth 100000 in
theorem ns_71 : ∀ w ∈ (cdT_71.filter (fun e => Nat.beq (lkk 71 e.2) 2)).map (fun e => lkW 71 e.2), w ∈ nw := gr_of [] rfl
set_option maxRecDepth 100000 in
theorem mw_71 : ∀ w ∈ cdW 71 :: mwL 71, w ∈ bw := gr_of [858, 859, 860, 51] rfl
theorem ck_72 : cdT_72.all (chkE 72) = true := by decide +kernel
set_option maxRecDepth 100000 in
theorem pl_72 : ∀ w ∈ (cdT_72.filter (fun e => Nat.beq (lkk 72 e.2) 1)).map (fun e => lkW 72 e.2), w ∈ bw := gr_of [271, 287, 273, 290] rfl
set_option maxRecDepth 100000 in
theorem ns_72 : ∀ w ∈ (cdT_72.filter (fun e => Nat.beq (lkk 72 e.2) 2)).map (fun e => lkW 72 e.2), w ∈ nw := gr_of [] rfl
set_option maxRecDepth 100000 in
theorem mw_72 : ∀ w ∈ cdW 72 :: mwL 72, w ∈ bw := gr_of [861, 862, 863, 51] rfl
theorem ck_73 : cdT_73.all (chkE 73) = true := by decide +kernel
set_option maxRecDepth 100000 in
theorem pl_73 : ∀ w ∈ (cdT_73.filter (fun e => Nat.beq (lkk 73 e.2) 1)).map (fun e => lkW 73 e.2), w ∈ bw := gr_of [270, 271, 272, 294, 271, 295, 271, 296, 271, 297, 271, 298, 299, 300] rfl
set_option maxRecDepth 100000 in
theorem ns_73 : ∀ w ∈ (cdT_73.filter (fun e => Nat.beq (lkk 73 e.2) 2)).map (fun e => lkW 73 e.2), w ∈ nw := gr_of [31, 31] rfl
set_option maxRecDepth 100000 in
theorem mw_73 : ∀ w ∈ cdW 73 :: mwL 73, w ∈ bw := gr_of [864, 865, 866, 51] rfl
theorem ck_74 : cdT_74.all (chkE 74) = true := by decide +kernel
set_option maxRecDepth 100000 in
theorem pl_74 : ∀ w ∈ (cdT_74.filter (fun e => Nat.beq (lkk 74 e.2) 1)).map (fun e => lkW 74 e.2), w ∈ bw := gr_of [301] rfl
set_option maxRecDepth 100000 in
theorem ns_74 : ∀ w ∈ (cdT_74.filter (fun e => Nat.beq (lkk 74 e.2) 2)).map (fun e => lkW 74 e.2), w ∈ nw := gr_of [] rfl
set_option maxRecDepth 100000 in
theorem mw_74 : ∀ w ∈ cdW 74 :: mwL 74, w ∈ bw := gr_of [867, 868, 61] rfl
theorem ck_75 : cdT_75.all (chkE 75) = true := by decide +kernel
set_option maxRecDepth 100000 in
theorem pl_75 : ∀ w ∈ (cdT_75.filter (fun e => Nat.beq (lkk 75 e.2) 1)).map (fun e => lkW 75 e.2), w ∈ bw := gr_of [302, 303, 304] rfl
set_option maxRecDepth 100000 in
theorem ns_75 : ∀ w ∈ (cdT_75.filter (fun e => Nat.beq (lkk 75 e.2) 2)).map (fun e => lkW 75 e.2), w ∈ nw := gr_of [] rfl
set_option maxRecDepth 100000 in
theorem mw_75 : ∀ w ∈ cdW 75 :: mwL 75, w ∈ bw := gr_of [869, 870, 871, 61] rfl
theorem ck_76 : cdT_76.all (chkE 76) = true := by decide +kernel
set_option maxRecDepth 100000 in
theorem pl_76 : ∀ w ∈ (cdT_76.filter (fun e => Nat.beq (lkk 76 e.2) 1)).map (fun e => lkW 76 e.2), w ∈ bw := gr_of [305, 306, 307, 308, 309, 307, 310, 303, 303, 304, 304, 302, 302] rfl
set_option maxRecDepth 100000 in
theorem ns_76 : ∀ w ∈ (cdT_76.filter (fun e => Nat.beq (lkk 76 e.2) 2)).map (fun e => lkW 76 e.2), w ∈ nw := gr_of [32, 33] rfl
set_option maxRecDepth 100000 in
theorem mw_76 : ∀ w ∈ cdW 76 :: mwL 76, w ∈ bw := gr_of [872, 873, 874, 61] rfl
theorem ck_77 : cdT_77.all (chkE 77) = true := by decide +kernel
set_option maxRecDepth 100000 in
theorem pl_77 : ∀ w ∈ (cdT_77.filter (fun e => Nat.beq (lkk 77 e.2) 1)).map (fun e => lkW 77 e.2), w ∈ bw := gr_of [303, 304] rfl
set_option maxRecDepth 100000 in
theorem ns_77 : ∀ w ∈ (cdT_77.filter (fun e => Nat.beq (lkk 77 e.2) 2)).map (fun e => lkW 77 e.2), w ∈ nw := gr_of [] rfl
set_option maxRecDepth 100000 in
theorem mw_77 : ∀ w ∈ cdW 77 :: mwL 77, w ∈ bw := gr_of [875, 876, 877, 61] rfl
theorem ck_78 : cdT_78.all (chkE 78) = true := by decide +kernel
set_option maxRecDepth 100000 in
theorem pl_78 : ∀ w ∈ (cdT_78.filter (fun e => Nat.beq (lkk 78 e.2) 1)).map (fun e => lkW 78 e.2), w ∈ bw := gr_of [303, 304] rfl
set_option maxRecDepth 100000 in
theorem ns_78 : ∀ w ∈ (cdT_78.filter (fun e => Nat.beq (lkk 78 e.2) 2)).map (fun e => lkW 78 e.2), w ∈ nw := gr_of [] rfl
set_option maxRecDepth 100000 in
theorem mw_78 : ∀ w ∈ cdW 78 :: mwL 78, w ∈ bw := gr_of [878, 879, 880, 61] rfl
theorem ck_79 : cdT_79.all (chkE 79) = true := by decide +kernel
set_option maxRecDepth 100000 in
theorem pl_79 : ∀ w ∈ (cdT_79.filter (fun e => Nat.beq (lkk 79 e.2) 1)).map (fun e => lkW 79 e.2), w ∈ bw := gr_of [311, 312, 313] rfl
set_option maxRecDepth 100000 in
theorem ns_79 : ∀ w ∈ (cdT_79.filter (fun e => Nat.beq (lkk 79 e.2) 2)).map (fun e => lkW 79 e.2), w ∈ nw := gr_of [34] rfl
set_option maxRecDepth 100000 in
theorem mw_79 : ∀ w ∈ cdW 79 :: mwL 79, w ∈ bw := gr_of [881, 882, 66] rfl
theorem ck_80 : cdT_80.all (chkE 80) = true := by decide +kernel
set_option maxRecDepth 100000 in
theorem pl_80 : ∀ w ∈ (cdT_80.filter (fun e => Nat.beq (lkk 80 e.2) 1)).map (fun e => lkW 80 e.2), w ∈ bw := gr_of [313, 314, 315, 316, 317, 313, 318, 319, 319, 317, 317, 319, 316, 313, 319, 320, 316, 313, 321] rfl
set_option maxRecDepth 100000 in
theorem ns_80 : ∀ w ∈ (cdT_80.filter (fun e => Nat.beq (lkk 80 e.2) 2)).map (fun e => lkW 80 e.2), w ∈ nw := gr_of [35, 36, 36] rfl
set_option maxRecDepth 100000 in
theorem mw_80 : ∀ w ∈ cdW 80 :: mwL 80, w ∈ bw := gr_of [883, 884, 885, 66] rfl
theorem ck_81 : cdT_81.all (chkE 81) = true := by decide +kernel
set_option maxRecDepth 100000 in
theorem pl_81 : ∀ w ∈ (cdT_81.filter (fun e => Nat.beq (lkk 81 e.2) 1)).map (fun e => lkW 81 e.2), w ∈ bw := gr_of [315, 322, 315, 315] rfl
set_option maxRecDepth 100000 in
theorem ns_81 : ∀ w ∈ (cdT_81.filter (fun e => Nat.beq (lkk 81 e.2) 2)).map (fun e => lkW 81 e.2), w ∈ nw := gr_of [] rfl
set_option maxRecDepth 100000 in
theorem mw_81 : ∀ w ∈ cdW 81 :: mwL 81, w ∈ bw := gr_of [886, 887, 888, 66] rfl
theorem ck_82 : cdT_82.all (chkE 82) = true := by decide +kernel
set_option maxRecDepth 100000 in
theorem pl_82 : ∀ w ∈ (cdT_82.filter (fun e => Nat.beq (lkk 82 e.2) 1)).map (fun e => lkW 82 e.2), w ∈ bw := gr_of [323, 324, 325] rfl
set_option maxRecDepth 100000 in
theorem ns_82 : ∀ w ∈ (cdT_82.filter (fun e => Nat.beq (lkk 82 e.2) 2)).map (fun e => lkW 82 e.2), w ∈ nw := gr_of [] rfl
set_option maxRecDepth 100000 in
theorem mw_82 : ∀ w ∈ cdW 82 :: mwL 82, w ∈ bw := gr_of [889, 890, 72] rfl
theorem ck_83 : cdT_83.all (chkE 83) = true := by decide +kernel
set_option maxRecDepth 100000 in
theorem pl_83 : ∀ w ∈ (cdT_83.filter (fun e => Nat.beq (lkk 83 e.2) 1)).map (fun e => lkW 83 e.2), w ∈ bw := gr_of [326, 324, 324, 326, 326, 326] rfl
set_option maxRecDepth 100000 in
theorem ns_83 : ∀ w ∈ (cdT_83.filter (fun e => Nat.beq (lkk 83 e.2) 2)).map (fun e => lkW 83 e.2), w ∈ nw := gr_of [] rfl
set_option maxRecDepth 100000 in
theorem mw_83 : ∀ w ∈ cdW 83 :: mwL 83, w ∈ bw := gr_of [891, 892, 893, 72] rfl
theorem ck_84 : cdT_84.all (chkE 84) = true := by decide +kernel
set_option maxRecDepth 100000 in
theorem pl_84 : ∀ w ∈ (cdT_84.filter (fun e => Nat.beq (lkk 84 e.2) 1)).map (fun e => lkW 84 e.2), w ∈ bw := gr_of [324, 327, 328, 329, 326, 330, 331, 332, 333, 325] rfl
set_option maxRecDepth 100000 in
theorem ns_84 : ∀ w ∈ (cdT_84.filter (fun e => Nat.beq (lkk 84 e.2) 2)).map (fun e => lkW 84 e.2), w ∈ nw := gr_of [] rfl
set_option maxRecDepth 100000 in
theorem mw_84 : ∀ w ∈ cdW 84 :: mwL 84, w ∈ bw := gr_of [894, 895, 896, 72] rfl
theorem ck_85 : cdT_85.all (chkE 85) = true := by decide +kernel
set_option maxRecDepth 100000 in
theorem pl_85 : ∀ w ∈ (cdT_85.filter (fun e => Nat.beq (lkk 85 e.2) 1)).map (fun e => lkW 85 e.2), w ∈ bw := gr_of [333] rfl
set_option maxRecDepth 100000 in
theorem ns_85 : ∀ w ∈ (cdT_85.filter (fun e => Nat.beq (lkk 85 e.2) 2)).map (fun e => lkW 85 e.2), w ∈ nw := gr_of [] rfl
set_option maxRecDepth 100000 in
theorem mw_85 : ∀ w ∈ cdW 85 :: mwL 85, w ∈ bw := gr_of [897, 898, 899, 72] rfl
theorem ck_86 : cdT_86.all (chkE 86) = true := by decide +kernel
set_option maxRecDepth 100000 in
theorem pl_86 : ∀ w ∈ (cdT_86.filter (fun e => Nat.beq (lkk 86 e.2) 1)).map (fun e => lkW 86 e.2), w ∈ bw := gr_of [333] rfl
set_option maxRecDepth 100000 in
theorem ns_86 : ∀ w ∈ (cdT_86.filter (fun e => Nat.beq (lkk 86 e.2) 2)).map (fun e => lkW 86 e.2), w ∈ nw := gr_of [] rfl
set_option maxRecDepth 100000 in
theorem mw_86 : ∀ w ∈ cdW 86 :: mwL 86, w ∈ bw := gr_of [900, 901, 902, 72] rfl
theorem ck_87 : cdT_87.all (chkE 87) = true := by decide +kernel
set_option maxRecDepth 100000 in
theorem pl_87 : ∀ w ∈ (cdT_87.filter (fun e => Nat.beq (lkk 87 e.2) 1)).map (fun e => lkW 87 e.2), w ∈ bw := gr_of [333, 333, 325] rfl
set_option maxRecDepth 100000 in
theorem ns_87 : ∀ w ∈ (cdT_87.filter (fun e => Nat.beq (lkk 87 e.2) 2)).map (fun e => lkW 87 e.2), w ∈ nw := gr_of [] rfl
set_option maxRecDepth 100000 in
theorem mw_87 : ∀ w ∈ cdW 87 :: mwL 87, w ∈ bw := gr_of [903, 904, 905, 72] rfl
theorem ck_88 : cdT_88.all (chkE 88) = true := by decide +kernel
set_option maxRecDepth 100000 in
theorem pl_88 : ∀ w ∈ (cdT_88.filter (fun e => Nat.beq (lkk 88 e.2) 1)).map (fun e => lkW 88 e.2), w ∈ bw := gr_of [330, 329, 324, 330, 333, 330, 329, 324, 330] rfl
set_option maxRecDepth 100000 in
theorem ns_88 : ∀ w ∈ (cdT_88.filter (fun e => Nat.beq (lkk 88 e.2) 2)).map (fun e => lkW 88 e.2), w ∈ nw := gr_of [] rfl
set_option maxRecDepth 100000 in
theorem mw_88 : ∀ w ∈ cdW 88 :: mwL 88, w ∈ bw := gr_of [906, 907, 908, 72] rfl
theorem ck_89 : cdT_89.all (chkE 89) = true := by decide +kernel
set_option maxRecDepth 100000 in
theorem pl_89 : ∀ w ∈ (cdT_89.filter (fun e => Nat.beq (lkk 89 e.2) 1)).map (fun e => lkW 89 e.2), w ∈ bw := gr_of [334] rfl
set_option maxRecDepth 100000 in
theorem ns_89 : ∀ w ∈ (cdT_89.filter (fun e => Nat.beq (lkk 89 e.2) 2)).map (fun e => lkW 89 e.2), w ∈ nw := gr_of [] rfl
set_option maxRecDepth 100000 in
theorem mw_89 : ∀ w ∈ cdW 89 :: mwL 89, w ∈ bw := gr_of [909, 910, 911, 72] rfl
theorem ck_90 : cdT_90.all (chkE 90) = true := by decide +kernel
set_option maxRecDepth 100000 in
theorem pl_90 : ∀ w ∈ (cdT_90.filter (fun e => Nat.beq (lkk 90 e.2) 1)).map (fun e => lkW 90 e.2), w ∈ bw := gr_of [330, 329, 327, 330] rfl
set_option maxRecDepth 100000 in
theorem ns_90 : ∀ w ∈ (cdT_90.filter (fun e => Nat.beq (lkk 90 e.2) 2)).map (fun e => lkW 90 e.2), w ∈ nw := gr_of [] rfl
set_option maxRecDepth 100000 in
theorem mw_90 : ∀ w ∈ cdW 90 :: mwL 90, w ∈ bw := gr_of [912, 913, 914, 72] rfl
theorem ck_91 : cdT_91.all (chkE 91) = true := by decide +kernel
set_option maxRecDepth 100000 in
theorem pl_91 : ∀ w ∈ (cdT_91.filter (fun e => Nat.beq (lkk 91 e.2) 1)).map (fun e => lkW 91 e.2), w ∈ bw := gr_of [334, 335, 330, 336] rfl
set_option maxRecDepth 100000 in
theorem ns_91 : ∀ w ∈ (cdT_91.filter (fun e => Nat.beq (lkk 91 e.2) 2)).map (fun e => lkW 91 e.2), w ∈ nw := gr_of [] rfl
set_option maxRecDepth 100000 in
theorem mw_91 : ∀ w ∈ cdW 91 :: mwL 91, w ∈ bw := gr_of [915, 916, 917, 72] rfl
theorem ck_92 : cdT_92.all (chkE 92) = true := by decide +kernel
set_option maxRecDepth 100000 in
theorem pl_92 : ∀ w ∈ (cdT_92.filter (fun e => Nat.beq (lkk 92 e.2) 1)).map (fun e => lkW 92 e.2), w ∈ bw := gr_of [337, 330, 336, 330, 330, 329, 324, 324, 338, 324, 327, 330, 336] rfl
set_option maxRecDepth 100000 in
theorem ns_92 : ∀ w ∈ (cdT_92.filter (fun e => Nat.beq (lkk 92 e.2) 2)).map (fun e => lkW 92 e.2), w ∈ nw := gr_of [] rfl
set_option maxRecDepth 100000 in
theorem mw_92 : ∀ w ∈ cdW 92 :: mwL 92, w ∈ bw := gr_of [918, 919, 920, 72] rfl
theorem ck_93 : cdT_93.all (chkE 93) = true := by decide +kernel
set_option maxRecDepth 100000 in
theorem pl_93 : ∀ w ∈ (cdT_93.filter (fun e => Nat.beq (lkk 93 e.2) 1)).map (fun e => lkW 93 e.2), w ∈ bw := gr_of [334, 330, 331, 330, 329, 324, 324, 330, 330, 332] rfl
set_option maxRecDepth 100000 in
theorem ns_93 : ∀ w ∈ (cdT_93.filter (fun e => Nat.beq (lkk 93 e.2) 2)).map (fun e => lkW 93 e.2), w ∈ nw := gr_of [] rfl
set_option maxRecDepth 100000 in
theorem mw_93 : ∀ w ∈ cdW 93 :: mwL 93, w ∈ bw := gr_of [921, 922, 923, 72] rfl
theorem ck_94 : cdT_94.all (chkE 94) = true := by decide +kernel
set_option maxRecDepth 100000 in
theorem pl_94 : ∀ w ∈ (cdT_94.filter (fun e => Nat.beq (lkk 94 e.2) 1)).map (fun e => lkW 94 e.2), w ∈ bw := gr_of [332, 331, 331, 324, 324, 331] rfl
set_option maxRecDepth 100000 in
theorem ns_94 : ∀ w ∈ (cdT_94.filter (fun e => Nat.beq (lkk 94 e.2) 2)).map (fun e => lkW 94 e.2), w ∈ nw := gr_of [] rfl
set_option maxRecDepth 100000 in
theorem mw_94 : ∀ w ∈ cdW 94 :: mwL 94, w ∈ bw := gr_of [924, 925, 926, 72] rfl
theorem ck_95 : cdT_95.all (chkE 95) = true := by decide +kernel
set_option maxRecDepth 100000 in
theorem pl_95 : ∀ w ∈ (cdT_95.filter (fun e => Nat.beq (lkk 95 e.2) 1)).map (fun e => lkW 95 e.2), w ∈ bw := gr_of [331, 336] rfl
set_option maxRecDepth 100000 in
theorem ns_95 : ∀ w ∈ (cdT_95.filter (fun e => Nat.beq (lkk 95 e.2) 2)).map (fun e => lkW 95 e.2), w ∈ nw := gr_of [] rfl
set_option maxRecDepth 100000 in
theorem mw_95 : ∀ w ∈ cdW 95 :: mwL 95, w ∈ bw := gr_of [927, 928, 929, 72] rfl
theorem ck_96 : cdT_96.all (chkE 96) = true := by decide +kernel
set_option maxRecDepth 100000 in
theorem pl_96 : ∀ w ∈ (cdT_96.filter (fun e => Nat.beq (lkk 96 e.2) 1)).map (fun e => lkW 96 e.2), w ∈ bw := gr_of [334, 330, 336] rfl
set_option maxRecDepth 100000 in
theorem ns_96 : ∀ w ∈ (cdT_96.filter (fun e => Nat.beq (lkk 96 e.2) 2)).map (fun e => lkW 96 e.2), w ∈ nw := gr_of [] rfl
set_option maxRecDepth 100000 in
theorem mw_96 : ∀ w ∈ cdW 96 :: mwL 96, w ∈ bw := gr_of [930, 931, 932, 72] rfl
theorem ck_97 : cdT_97.all (chkE 97) = true := by decide +kernel
set_option maxRecDepth 100000 in
theorem pl_97 : ∀ w ∈ (cdT_97.filter (fun e => Nat.beq (lkk 97 e.2) 1)).map (fun e => lkW 97 e.2), w ∈ bw := gr_of [341, 342, 343, 344, 345, 346, 347, 346, 348, 349, 350, 346, 351, 349, 352, 353, 354, 355, 356, 357, 358, 359, 360, 361, 362, 361, 363, 364, 365, 366, 367, 366, 368, 351, 346, 352, 349, 347, 362, 369] rfl
set_option maxRecDepth 100000 in
theorem ns_97 : ∀ w ∈ (cdT_97.filter (fun e => Nat.beq (lkk 97 e.2) 2)).map (fun e => lkW 97 e.2), w ∈ nw := gr_of [37, 38, 39, 39, 40, 41, 42, 43, 44, 45, 45, 46, 47, 47, 39, 40] rfl
set_option maxRecDepth 100000 in
theorem mw_97 : ∀ w ∈ cdW 97 :: mwL 97, w ∈ bw := gr_of [933, 934, 82] rfl
theorem ck_98 : cdT_98.all (chkE 98) = true := by decide +kernel
set_option maxRecDepth 100000 in
theorem pl_98 : ∀ w ∈ (cdT_98.filter (fun e => Nat.beq (lkk 98 e.2) 1)).map (fun e => lkW 98 e.2), w ∈ bw := gr_of [343, 343, 370, 343, 370, 343, 370, 343, 370, 343, 370, 343] rfl
set_option maxRecDepth 100000 in
theorem ns_98 : ∀ w ∈ (cdT_98.filter (fun e => Nat.beq (lkk 98 e.2) 2)).map (fun e => lkW 98 e.2), w ∈ nw := gr_of [48, 48] rfl
set_option maxRecDepth 100000 in
theorem mw_98 : ∀ w ∈ cdW 98 :: mwL 98, w ∈ bw := gr_of [935, 936, 937, 82] rfl
theorem ck_99 : cdT_99.all (chkE 99) = true := by decide +kernel
set_option maxRecDepth 100000 in
theorem pl_99 : ∀ w ∈ (cdT_99.filter (fun e => Nat.beq (lkk 99 e.2) 1)).map (fun e => lkW 99 e.2), w ∈ bw := gr_of [371, 372, 343, 373, 363, 343, 374, 343, 375, 343, 376, 363, 362, 363, 362, 347, 362, 369, 367, 377, 350, 378, 379, 362] rfl
set_option maxRecDepth 100000 in
theorem ns_99 : ∀ w ∈ (cdT_99.filter (fun e => Nat.beq (lkk 99 e.2) 2)).map (fun e => lkW 99 e.2), w ∈ nw := gr_of [49, 50] rfl
set_option maxRecDepth 100000 in
theorem mw_99 : ∀ w ∈ cdW 99 :: mwL 99, w ∈ bw := gr_of [938, 939, 940, 82] rfl
theorem ck_100 : cdT_100.all (chkE 100) = true := by decide +kernel
set_option maxRecDepth 100000 in
theorem pl_100 : ∀ w ∈ (cdT_100.filter (fun e => Nat.beq (lkk 100 e.2) 1)).map (fun e => lkW 100 e.2), w ∈ bw := gr_of [371, 372, 343, 373, 365, 343, 380, 343, 375, 343, 376, 365, 362, 365, 362] rfl
set_option maxRecDepth 100000 in
theorem ns_100 : ∀ w ∈ (cdT_100.filter (fun e => Nat.beq (lkk 100 e.2) 2)).map (fun e => lkW 100 e.2), w ∈ nw := gr_of [51, 51] rfl
set_option maxRecDepth 100000 in
theorem mw_100 : ∀ w ∈ cdW 100 :: mwL 100, w ∈ bw := gr_of [941, 942, 943, 82] rfl
theorem ck_101 : cdT_101.all (chkE 101) = true := by decide +kernel
set_option maxRecDepth 100000 in
theorem pl_101 : ∀ w ∈ (cdT_101.filter (fun e => Nat.beq (lkk 101 e.2) 1)).map (fun e => lkW 101 e.2), w ∈ bw := gr_of [371, 372, 350, 343, 373, 343, 373, 345, 343, 362, 381, 343, 375, 343, 376, 350, 347, 382, 345, 347, 362, 383, 345, 379, 345] rfl
set_option maxRecDepth 100000 in
theorem ns_101 : ∀ w ∈ (cdT_101.filter (fun e => Nat.beq (lkk 101 e.2) 2)).map (fun e => lkW 101 e.2), w ∈ nw := gr_of [49, 52, 53] rfl
set_option maxRecDepth 100000 in
theorem mw_101 : ∀ w ∈ cdW 101 :: mwL 101, w ∈ bw := gr_of [944, 945, 946, 82] rfl
theorem ck_102 : cdT_102.all (chkE 102) = true := by decide +kernel
set_option maxRecDepth 100000 in
theorem pl_102 : ∀ w ∈ (cdT_102.filter (fun e => Nat.beq (lkk 102 e.2) 1)).map (fun e => lkW 102 e.2), w ∈ bw := gr_of [371, 372, 343, 373, 368, 343, 362, 384, 343, 375, 343, 376, 368, 367, 368, 367, 367] rfl
set_option maxRecDepth 100000 in
theorem ns_102 : ∀ w ∈ (cdT_102.filter (fun e => Nat.beq (lkk 102 e.2) 2)).map (fun e => lkW 102 e.2), w ∈ nw := gr_of [54] rfl
set_option maxRecDepth 100000 in
theorem mw_102 : ∀ w ∈ cdW 102 :: mwL 102, w ∈ bw := gr_of [947, 948, 949, 82] rfl
theorem ck_103 : cdT_103.all (chkE 103) = true := by decide +kernel
set_option maxRecDepth 100000 in
theorem pl_103 : ∀ w ∈ (cdT_103.filter (fun e => Nat.beq (lkk 103 e.2) 1)).map (fun e => lkW 103 e.2), w ∈ bw := gr_of [343] rfl
set_option maxRecDepth 100000 in
theorem ns_103 : ∀ w ∈ (cdT_103.filter (fun e => Nat.beq (lkk 103 e.2) 2)).map (fun e => lkW 103 e.2), w ∈ nw := gr_of [55] rfl
set_option maxRecDepth 100000 in
theorem mw_103 : ∀ w ∈ cdW 103 :: mwL 103, w ∈ bw := gr_of [950, 951, 952, 82] rfl
theorem ck_104 : cdT_104.all (chkE 104) = true := by decide +kernel
set_option maxRecDepth 100000 in
theorem pl_104 : ∀ w ∈ (cdT_104.filter (fun e => Nat.beq (lkk 104 e.2) 1)).map (fun e => lkW 104 e.2), w ∈ bw := gr_of [350, 347, 385, 379, 350] rfl
set_option maxRecDepth 100000 in
theorem ns_104 : ∀ w ∈ (cdT_104.filter (fun e => Nat.beq (lkk 104 e.2) 2)).map (fun e => lkW 104 e.2), w ∈ nw := gr_of [49] rfl
set_option maxRecDepth 100000 in
theorem mw_104 : ∀ w ∈ cdW 104 :: mwL 104, w ∈ bw := gr_of [953, 954, 955, 82] rfl
theorem ck_105 : cdT_105.all (chkE 105) = true := by decide +kernel
set_option maxRecDepth 100000 in
theorem pl_105 : ∀ w ∈ (cdT_105.filter (fun e => Nat.beq (lkk 105 e.2) 1)).map (fun e => lkW 105 e.2), w ∈ bw := gr_of [386, 372, 362, 362, 362, 362, 347, 362, 347, 387, 347, 347, 362, 388, 347, 362, 389, 367, 379, 347, 362, 390] rfl
set_option maxRecDepth 100000 in
theorem ns_105 : ∀ w ∈ (cdT_105.filter (fun e => Nat.beq (lkk 105 e.2) 2)).map (fun e => lkW 105 e.2), w ∈ nw := gr_of [56, 50, 57, 58, 59, 59, 60, 54] rfl
set_option maxRecDepth 100000 in
theorem mw_105 : ∀ w ∈ cdW 105 :: mwL 105, w ∈ bw := gr_of [956, 957, 958, 82] rfl
theorem ck_106 : cdT_106.all (chkE 106) = true := by decide +kernel
set_option maxRecDepth 100000 in
theorem pl_106 : ∀ w ∈ (cdT_106.filter (fun e => Nat.beq (lkk 106 e.2) 1)).map (fun e => lkW 106 e.2), w ∈ bw := gr_of [391, 386, 372, 362, 347, 362, 392] rfl
set_option maxRecDepth 100000 in
theorem ns_106 : ∀ w ∈ (cdT_106.filter (fun e => Nat.beq (lkk 106 e.2) 2)).map (fun e => lkW 106 e.2), w ∈ nw := gr_of [61] rfl
set_option maxRecDepth 100000 in
theorem mw_106 : ∀ w ∈ cdW 106 :: mwL 106, w ∈ bw := gr_of [959, 960, 961, 82] rfl
theorem ck_107 : cdT_107.all (chkE 107) = true := by decide +kernel
set_option maxRecDepth 100000 in
theorem pl_107 : ∀ w ∈ (cdT_107.filter (fun e => Nat.beq (lkk 107 e.2) 1)).map (fun e => lkW 107 e.2), w ∈ bw := gr_of [393, 386, 372, 362, 347, 347, 347, 347, 347, 362, 362, 347, 387, 394] rfl
set_option maxRecDepth 100000 in
theorem ns_107 : ∀ w ∈ (cdT_107.filter (fun e => Nat.beq (lkk 107 e.2) 2)).map (fun e => lkW 107 e.2), w ∈ nw := gr_of [62, 63, 64, 65, 66, 59] rfl
set_option maxRecDepth 100000 in
theorem mw_107 : ∀ w ∈ cdW 107 :: mwL 107, w ∈ bw := gr_of [962, 963, 964, 82] rfl
theorem ck_108 : cdT_108.all (chkE 108) = true := by decide +kernel
set_option maxRecDepth 100000 in
theorem pl_108 : ∀ w ∈ (cdT_108.filter (fun e => Nat.beq (lkk 108 e.2) 1)).map (fun e => lkW 108 e.2), w ∈ bw := gr_of [362, 386, 395, 362] rfl
set_option maxRecDepth 100000 in
theorem ns_108 : ∀ w ∈ (cdT_108.filter (fun e => Nat.beq (lkk 108 e.2) 2)).map (fun e => lkW 108 e.2), w ∈ nw := gr_of [57, 67] rfl
set_option maxRecDepth 100000 in
theorem mw_108 : ∀ w ∈ cdW 108 :: mwL 108, w ∈ bw := gr_of [965, 966, 967, 82] rfl
theorem ck_109 : cdT_109.all (chkE 109) = true := by decide +kernel
set_option maxRecDepth 100000 in
theorem pl_109 : ∀ w ∈ (cdT_109.filter (fun e => Nat.beq (lkk 109 e.2) 1)).map (fun e => lkW 109 e.2), w ∈ bw := gr_of [386, 386, 386, 372, 386, 386, 386, 372, 386, 386, 372, 362, 362, 396] rfl
set_option maxRecDepth 100000 in
theorem ns_109 : ∀ w ∈ (cdT_109.filter (fun e => Nat.beq (lkk 109 e.2) 2)).map (fun e => lkW 109 e.2), w ∈ nw := gr_of [51, 68, 51] rfl
set_option maxRecDepth 100000 in
theorem mw_109 : ∀ w ∈ cdW 109 :: mwL 109, w ∈ bw := gr_of [968, 969, 970, 82] rfl
theorem ck_110 : cdT_110.all (chkE 110) = true := by decide +kernel
set_option maxRecDepth 100000 in
theorem pl_110 : ∀ w ∈ (cdT_110.filter (fun e => Nat.beq (lkk 110 e.2) 1)).map (fun e => lkW 110 e.2), w ∈ bw := gr_of [393, 391, 347, 362, 397] rfl
set_option maxRecDepth 100000 in
theorem ns_110 : ∀ w ∈ (cdT_110.filter (fun e => Nat.beq (lkk 110 e.2) 2)).map (fun e => lkW 110 e.2), w ∈ nw := gr_of [] rfl
set_option maxRecDepth 100000 in
theorem mw_110 : ∀ w ∈ cdW 110 :: mwL 110, w ∈ bw := gr_of [971, 972, 973, 82] rfl
theorem ck_111 : cdT_111.all (chkE 111) = true := by decide +kernel
set_option maxRecDepth 100000 in
theorem pl_111 : ∀ w ∈ (cdT_111.filter (fun e => Nat.beq (lkk 111 e.2) 1)).map (fun e => lkW 111 e.2), w ∈ bw := gr_of [386, 386, 372, 348, 347, 398, 348, 362, 362, 348, 387, 399, 348, 362, 390, 348, 362, 389] rfl
set_option maxRecDepth 100000 in
theorem ns_111 : ∀ w ∈ (cdT_111.filter (fun e => Nat.beq (lkk 111 e.2) 2)).map (fun e => lkW 111 e.2), w ∈ nw := gr_of [59] rfl
set_option maxRecDepth 100000 in
theorem mw_111 : ∀ w ∈ cdW 111 :: mwL 111, w ∈ bw := gr_of [974, 975, 976, 82] rfl
theorem ck_112 : cdT_112.all (chkE 112) = true := by decide +kernel
set_option maxRecDepth 100000 in
theorem pl_112 : ∀ w ∈ (cdT_112.filter (fun e => Nat.beq (lkk 112 e.2) 1)).map (fun e => lkW 112 e.2), w ∈ bw := gr_of [393, 348, 347, 398, 348, 348, 362, 362, 348, 387, 399, 348] rfl
set_option maxRecDepth 100000 in
theorem ns_112 : ∀ w ∈ (cdT_112.filter (fun e => Nat.beq (lkk 112 e.2) 2)).map (fun e => lkW 112 e.2), w ∈ nw := gr_of [63, 59, 63] rfl
set_option maxRecDepth 100000 in
theorem mw_112 : ∀ w ∈ cdW 112 :: mwL 112, w ∈ bw := gr_of [977, 978, 979, 82] rfl
theorem ck_113 : cdT_113.all (chkE 113) = true := by decide +kernel
set_option maxRecDepth 100000 in
theorem pl_113 : ∀ w ∈ (cdT_113.filter (fun e => Nat.beq (lkk 113 e.2) 1)).map (fun e => lkW 113 e.2), w ∈ bw := gr_of [386, 372, 348, 347, 398, 348, 362, 400, 348, 362, 362, 348, 387, 399, 348, 362, 400] rfl
set_option maxRecDepth 100000 in
theorem ns_113 : ∀ w ∈ (cdT_113.filter (fun e => Nat.beq (lkk 113 e.2) 2)).map (fun e => lkW 113 e.2), w ∈ nw := gr_of [59] rfl
set_option maxRecDepth 100000 in
theorem mw_113 : ∀ w ∈ cdW 113 :: mwL 113, w ∈ bw := gr_of [980, 981, 982, 82] rfl
theorem ck_114 : cdT_114.all (chkE 114) = true := by decide +kernel
set_option maxRecDepth 100000 in
theorem pl_114 : ∀ w ∈ (cdT_114.filter (fun e => Nat.beq (lkk 114 e.2) 1)).map (fun e => lkW 114 e.2), w ∈ bw := gr_of [362, 401, 372, 354, 362, 347, 402] rfl
set_option maxRecDepth 100000 in
theorem ns_114 : ∀ w ∈ (cdT_114.filter (fun e => Nat.beq (lkk 114 e.2) 2)).map (fun e => lkW 114 e.2), w ∈ nw := gr_of [50] rfl
set_option maxRecDepth 100000 in
theorem mw_114 : ∀ w ∈ cdW 114 :: mwL 114, w ∈ bw := gr_of [983, 984, 985, 82] rfl
theorem ck_115 : cdT_115.all (chkE 115) = true := by decide +kernel
set_option maxRecDepth 100000 in
theorem pl_115 : ∀ w ∈ (cdT_115.filter (fun e => Nat.beq (lkk 115 e.2) 1)).map (fun e => lkW 115 e.2), w ∈ bw := gr_of [393, 362, 401, 372, 354, 362, 347, 402, 354] rfl
set_option maxRecDepth 100000 in
theorem ns_115 : ∀ w ∈ (cdT_115.filter (fun e => Nat.beq (lkk 115 e.2) 2)).map (fun e => lkW 115 e.2), w ∈ nw := gr_of [50, 69] rfl
set_option maxRecDepth 100000 in
theorem mw_115 : ∀ w ∈ cdW 115 :: mwL 115, w ∈ bw := gr_of [986, 987, 988, 82] rfl
theorem ck_116 : cdT_116.all (chkE 116) = true := by decide +kernel
set_option maxRecDepth 100000 in
theorem pl_116 : ∀ w ∈ (cdT_116.filter (fun e => Nat.beq (lkk 116 e.2) 1)).map (fun e => lkW 116 e.2), w ∈ bw := gr_of [386, 372, 356, 362, 347, 403] rfl
set_option maxRecDepth 100000 in
theorem ns_116 : ∀ w ∈ (cdT_116.filter (fun e => Nat.beq (lkk 116 e.2) 2)).map (fun e => lkW 116 e.2), w ∈ nw := gr_of [] rfl
set_option maxRecDepth 100000 in
theorem mw_116 : ∀ w ∈ cdW 116 :: mwL 116, w ∈ bw := gr_of [989, 990, 991, 82] rfl
theorem ck_117 : cdT_117.all (chkE 117) = true := by decide +kernel
set_option maxRecDepth 100000 in
theorem pl_117 : ∀ w ∈ (cdT_117.filter (fun e => Nat.beq (lkk 117 e.2) 1)).map (fun e => lkW 117 e.2), w ∈ bw := gr_of [393, 386, 372, 356, 362, 347, 403, 356] rfl
set_option maxRecDepth 100000 in
theorem ns_117 : ∀ w ∈ (cdT_117.filter (fun e => Nat.beq (lkk 117 e.2) 2)).map (fun e => lkW 117 e.2), w ∈ nw := gr_of [70] rfl
set_option maxRecDepth 100000 in
theorem mw_117 : ∀ w ∈ cdW 117 :: mwL 117, w ∈ bw := gr_of [992, 993, 994, 82] rfl
theorem ck_118 : cdT_118.all (chkE 118) = true := by decide +kernel
set_option maxRecDepth 100000 in
theorem pl_118 : ∀ w ∈ (cdT_118.filter (fun e => Nat.beq (lkk 118 e.2) 1)).map (fun e => lkW 118 e.2), w ∈ bw := gr_of [393, 386, 386, 386, 386, 372, 358, 362, 347, 404, 358, 358] rfl
set_option maxRecDepth 100000 in
theorem ns_118 : ∀ w ∈ (cdT_118.filter (fun e => Nat.beq (lkk 118 e.2) 2)).map (fun e => lkW 118 e.2), w ∈ nw := gr_of [71, 72] rfl
set_option maxRecDepth 100000 in
theorem mw_118 : ∀ w ∈ cdW 118 :: mwL 118, w ∈ bw := gr_of [995, 996, 997, 82] rfl
theorem ck_119 : cdT_119.all (chkE 119) = true := by decide +kernel
set_option maxRecDepth 100000 in
theorem pl_119 : ∀ w ∈ (cdT_119.filter (fun e => Nat.beq (lkk 119 e.2) 1)).map (fun e => lkW 119 e.2), w ∈ bw := gr_of [386, 386, 372, 362, 405] rfl
set_option maxRecDepth 100000 in
theorem ns_119 : ∀ w ∈ (cdT_119.filter (fun e => Nat.beq (lkk 119 e.2) 2)).map (fun e => lkW 119 e.2), w ∈ nw := gr_of [57] rfl
set_option maxRecDepth 100000 in
theorem mw_119 : ∀ w ∈ cdW 119 :: mwL 119, w ∈ bw := gr_of [998, 999, 1000, 82] rfl
theorem ck_120 : cdT_120.all (chkE 120) = true := by decide +kernel
set_option maxRecDepth 100000 in
theorem pl_120 : ∀ w ∈ (cdT_120.filter (fun e => Nat.beq (lkk 120 e.2) 1)).map (fun e => lkW 120 e.2), w ∈ bw := gr_of [386, 386, 372, 362, 367, 406, 407] rfl
set_option maxRecDepth 100000 in
theorem ns_120 : ∀ w ∈ (cdT_120.filter (fun e => Nat.beq (lkk 120 e.2) 2)).map (fun e => lkW 120 e.2), w ∈ nw := gr_of [57] rfl
set_option maxRecDepth 100000 in
theorem mw_120 : ∀ w ∈ cdW 120 :: mwL 120, w ∈ bw := gr_of [1001, 1002, 1003, 82] rfl
theorem ck_121 : cdT_121.all (chkE 121) = true := by decide +kernel
set_option maxRecDepth 100000 in
theorem pl_121 : ∀ w ∈ (cdT_121.filter (fun e => Nat.beq (lkk 121 e.2) 1)).map (fun e => lkW 121 e.2), w ∈ bw := gr_of [347, 362, 408, 362, 362, 409, 409, 362, 410] rfl
set_option maxRecDepth 100000 in
theorem ns_121 : ∀ w ∈ (cdT_121.filter (fun e => Nat.beq (lkk 121 e.2) 2)).map (fun e => lkW 121 e.2), w ∈ nw := gr_of [56, 56] rfl
set_option maxRecDepth 100000 in
theorem mw_121 : ∀ w ∈ cdW 121 :: mwL 121, w ∈ bw := gr_of [1004, 1005, 1006, 82] rfl
theorem ck_122 : cdT_122.all (chkE 122) = true := by decide +kernel
set_option maxRecDepth 100000 in
theorem pl_122 : ∀ w ∈ (cdT_122.filter (fun e => Nat.beq (lkk 122 e.2) 1)).map (fun e => lkW 122 e.2), w ∈ bw := gr_of [362, 401, 372, 362, 410] rfl
set_option maxRecDepth 100000 in
theorem ns_122 : ∀ w ∈ (cdT_122.filter (fun e => Nat.beq (lkk 122 e.2) 2)).map (fun e => lkW 122 e.2), w ∈ nw := gr_of [56] rfl
set_option maxRecDepth 100000 in
theorem mw_122 : ∀ w ∈ cdW 122 :: mwL 122, w ∈ bw := gr_of [1007, 1008, 1009, 82] rfl
theorem ck_123 : cdT_123.all (chkE 123) = true := by decide +kernel
set_option maxRecDepth 100000 in
theorem pl_123 : ∀ w ∈ (cdT_123.filter (fun e => Nat.beq (lkk 123 e.2) 1)).map (fun e => lkW 123 e.2), w ∈ bw := gr_of [386, 372, 362, 362, 411, 412] rfl
set_option maxRecDepth 100000 in
theorem ns_123 : ∀ w ∈ (cdT_123.filter (fun e => Nat.beq (lkk 123 e.2) 2)).map (fun e => lkW 123 e.2), w ∈ nw := gr_of [56, 56] rfl
set_option maxRecDepth 100000 in
theorem mw_123 : ∀ w ∈ cdW 123 :: mwL 123, w ∈ bw := gr_of [1010, 1011, 1012, 82] rfl
theorem ck_124 : cdT_124.all (chkE 124) = true := by decide +kernel
set_option maxRecDepth 100000 in
theorem pl_124 : ∀ w ∈ (cdT_124.filter (fun e => Nat.beq (lkk 124 e.2) 1)).map (fun e => lkW 124 e.2), w ∈ bw := gr_of [393, 362, 401, 386, 372, 362, 413, 362, 362, 362, 362, 362] rfl
set_option maxRecDepth 100000 in
theorem ns_124 : ∀ w ∈ (cdT_124.filter (fun e => Nat.beq (lkk 124 e.2) 2)).map (fun e => lkW 124 e.2), w ∈ nw := gr_of [50, 62, 50, 62, 62, 62] rfl
set_option maxRecDepth 100000 in
theorem mw_124 : ∀ w ∈ cdW 124 :: mwL 124, w ∈ bw := gr_of [1013, 1014, 1015, 82] rfl
theorem ck_125 : cdT_125.all (chkE 125) = true := by decide +kernel
set_option maxRecDepth 100000 in
theorem pl_125 : ∀ w ∈ (cdT_125.filter (fun e => Nat.beq (lkk 125 e.2) 1)).map (fun e => lkW 125 e.2), w ∈ bw := gr_of [386, 372, 347, 362, 408, 362] rfl
set_option maxRecDepth 100000 in
theorem ns_125 : ∀ w ∈ (cdT_125.filter (fun e => Nat.beq (lkk 125 e.2) 2)).map (fun e => lkW 125 e.2), w ∈ nw := gr_of [56] rfl
set_option maxRecDepth 100000 in
theorem mw_125 : ∀ w ∈ cdW 125 :: mwL 125, w ∈ bw := gr_of [1016, 1017, 1018, 82] rfl
theorem ck_126 : cdT_126.all (chkE 126) = true := by decide +kernel
set_option maxRecDepth 100000 in
theorem pl_126 : ∀ w ∈ (cdT_126.filter (fun e => Nat.beq (lkk 126 e.2) 1)).map (fun e => lkW 126 e.2), w ∈ bw := gr_of [386, 372, 362, 347, 347, 347] rfl
set_option maxRecDepth 100000 in
theorem ns_126 : ∀ w ∈ (cdT_126.filter (fun e => Nat.beq (lkk 126 e.2) 2)).map (fun e => lkW 126 e.2), w ∈ nw := gr_of [50, 64, 63, 63] rfl
set_option maxRecDepth 100000 in
theorem mw_126 : ∀ w ∈ cdW 126 :: mwL 126, w ∈ bw := gr_of [1019, 1020, 1021, 82] rfl
theorem ck_127 : cdT_127.all (chkE 127) = true := by decide +kernel
set_option maxRecDepth 100000 in
theorem pl_127 : ∀ w ∈ (cdT_127.filter (fun e => Nat.beq (lkk 127 e.2) 1)).map (fun e => lkW 127 e.2), w ∈ bw := gr_of [393, 386, 372, 362, 362, 347, 362, 414] rfl
set_option maxRecDepth 100000 in
theorem ns_127 : ∀ w ∈ (cdT_127.filter (fun e => Nat.beq (lkk 127 e.2) 2)).map (fun e => lkW 127 e.2), w ∈ nw := gr_of [62, 56] rfl
set_option maxRecDepth 100000 in
theorem mw_127 : ∀ w ∈ cdW 127 :: mwL 127, w ∈ bw := gr_of [1022, 1023, 1024, 82] rfl
theorem ck_128 : cdT_128.all (chkE 128) = true := by decide +kernel
set_option maxRecDepth 100000 in
theorem pl_128 : ∀ w ∈ (cdT_128.filter (fun e => Nat.beq (lkk 128 e.2) 1)).map (fun e => lkW 128 e.2), w ∈ bw := gr_of [386, 386, 372, 347, 362, 408, 362, 362, 415, 416] rfl
set_option maxRecDepth 100000 in
theorem ns_128 : ∀ w ∈ (cdT_128.filter (fun e => Nat.beq (lkk 128 e.2) 2)).map (fun e => lkW 128 e.2), w ∈ nw := gr_of [56] rfl
set_option maxRecDepth 100000 in
theorem mw_128 : ∀ w ∈ cdW 128 :: mwL 128, w ∈ bw := gr_of [1025, 1026, 1027, 82] rfl
theorem ck_129 : cdT_129.all (chkE 129) = true := by decide +kernel
set_option maxRecDepth 100000 in
theorem pl_129 : ∀ w ∈ (cdT_129.filter (fun e => Nat.beq (lkk 129 e.2) 1)).map (fun e => lkW 129 e.2), w ∈ bw := gr_of [362, 347, 347] rfl
set_option maxRecDepth 100000 in
theorem ns_129 : ∀ w ∈ (cdT_129.filter (fun e => Nat.beq (lkk 129 e.2) 2)).map (fun e => lkW 129 e.2), w ∈ nw := gr_of [50, 64, 65] rfl
set_option maxRecDepth 100000 in
theorem mw_129 : ∀ w ∈ cdW 129 :: mwL 129, w ∈ bw := gr_of [1028, 1029, 1030, 82] rfl
theorem ck_130 : cdT_130.all (chkE 130) = true := by decide +kernel
set_option maxRecDepth 100000 in
theorem pl_130 : ∀ w ∈ (cdT_130.filter (fun e => Nat.beq (lkk 130 e.2) 1)).map (fun e => lkW 130 e.2), w ∈ bw := gr_of [417, 386, 372, 360, 362, 347, 418, 360, 362, 390, 360, 362, 389, 360, 360] rfl
set_option maxRecDepth 100000 in
theorem ns_130 : ∀ w ∈ (cdT_130.filter (fun e => Nat.beq (lkk 130 e.2) 2)).map (fun e => lkW 130 e.2), w ∈ nw := gr_of [73, 73, 74, 75] rfl
set_option maxRecDepth 100000 in
theorem mw_130 : ∀ w ∈ cdW 130 :: mwL 130, w ∈ bw := gr_of [1031, 1032, 1033, 82] rfl
theorem ck_131 : cdT_131.all (chkE 131) = true := by decide +kernel
set_option maxRecDepth 100000 in
theorem pl_131 : ∀ w ∈ (cdT_131.filter (fun e => Nat.beq (lkk 131 e.2) 1)).map (fun e => lkW 131 e.2), w ∈ bw := gr_of [386, 417, 386, 372, 362, 386, 372, 360, 362, 347, 418, 360, 362, 390, 419, 420, 360] rfl
set_option maxRecDepth 100000 in
theorem ns_131 : ∀ w ∈ (cdT_131.filter (fun e => Nat.beq (lkk 131 e.2) 2)).map (fun e => lkW 131 e.2), w ∈ nw := gr_of [50, 73, 73, 63] rfl
set_option maxRecDepth 100000 in
theorem mw_131 : ∀ w ∈ cdW 131 :: mwL 131, w ∈ bw := gr_of [1034, 1035, 1036, 82] rfl
theorem ck_132 : cdT_132.all (chkE 132) = true := by decide +kernel
set_option maxRecDepth 100000 in
theorem pl_132 : ∀ w ∈ (cdT_132.filter (fun e => Nat.beq (lkk 132 e.2) 1)).map (fun e => lkW 132 e.2), w ∈ bw := gr_of [378, 351, 378, 347, 398, 352, 378, 350, 421, 378, 378, 378] rfl
set_option maxRecDepth 100000 in
theorem ns_132 : ∀ w ∈ (cdT_132.filter (fun e => Nat.beq (lkk 132 e.2) 2)).map (fun e => lkW 132 e.2), w ∈ nw := gr_of [] rfl
set_option maxRecDepth 100000 in
theorem mw_132 : ∀ w ∈ cdW 132 :: mwL 132, w ∈ bw := gr_of [1037, 1038, 1039, 82] rfl
theorem ck_133 : cdT_133.all (chkE 133) = true := by decide +kernel
set_option maxRecDepth 100000 in
theorem pl_133 : ∀ w ∈ (cdT_133.filter (fun e => Nat.beq (lkk 133 e.2) 1)).map (fun e => lkW 133 e.2), w ∈ bw := gr_of [378, 378, 378, 347, 351, 378, 398, 350, 352, 378, 421, 379, 378] rfl
set_option maxRecDepth 100000 in
theorem ns_133 : ∀ w ∈ (cdT_133.filter (fun e => Nat.beq (lkk 133 e.2) 2)).map (fun e => lkW 133 e.2), w ∈ nw := gr_of [] rfl
set_option maxRecDepth 100000 in
theorem mw_133 : ∀ w ∈ cdW 133 :: mwL 133, w ∈ bw := gr_of [1040, 1041, 1042, 82] rfl
theorem ck_134 : cdT_134.all (chkE 134) = true := by decide +kernel
set_option maxRecDepth 100000 in
theorem pl_134 : ∀ w ∈ (cdT_134.filter (fun e => Nat.beq (lkk 134 e.2) 1)).map (fun e => lkW 134 e.2), w ∈ bw := gr_of [422, 423] rfl
set_option maxRecDepth 100000 in
theorem ns_134 : ∀ w ∈ (cdT_134.filter (fun e => Nat.beq (lkk 134 e.2) 2)).map (fun e => lkW 134 e.2), w ∈ nw := gr_of [] rfl
set_option maxRecDepth 100000 in
theorem mw_134 : ∀ w ∈ cdW 134 :: mwL 134, w ∈ bw := gr_of [1043, 1044, 1045, 82] rfl
theorem ck_135 : cdT_135.all (chkE 135) = true := by decide +kernel
set_option maxRecDepth 100000 in
theorem pl_135 : ∀ w ∈ (cdT_135.filter (fun e => Nat.beq (lkk 135 e.2) 1)).map (fun e => lkW 135 e.2), w ∈ bw := gr_of [378, 343, 350] rfl
set_option maxRecDepth 100000 in
theorem ns_135 : ∀ w ∈ (cdT_135.filter (fun e => Nat.beq (lkk 135 e.2) 2)).map (fun e => lkW 135 e.2), w ∈ nw := gr_of [48, 49] rfl
set_option maxRecDepth 100000 in
theorem mw_135 : ∀ w ∈ cdW 135 :: mwL 135, w ∈ bw := gr_of [1046, 1047, 1048, 82] rfl
theorem ck_136 : cdT_136.all (chkE 136) = true := by decide +kernel
set_option maxRecDepth 100000 in
theorem pl_136 : ∀ w ∈ (cdT_136.filter (fun e => Nat.beq (lkk 136 e.2) 1)).map (fun e => lkW 136 e.2), w ∈ bw := gr_of [423, 423] rfl
set_option maxRecDepth 100000 in
theorem ns_136 : ∀ w ∈ (cdT_136.filter (fun e => Nat.beq (lkk 136 e.2) 2)).map (fun e => lkW 136 e.2), w ∈ nw := gr_of [] rfl
set_option maxRecDepth 100000 in
theorem mw_136 : ∀ w ∈ cdW 136 :: mwL 136, w ∈ bw := gr_of [1049, 1050, 1051, 82] rfl
theorem ck_137 : cdT_137.all (chkE 137) = true := by decide +kernel
set_option maxRecDepth 100000 in
theorem pl_137 : ∀ w ∈ (cdT_137.filter (fun e => Nat.beq (lkk 137 e.2) 1)).map (fun e => lkW 137 e.2), w ∈ bw := gr_of [422, 422] rfl
set_option maxRecDepth 100000 in
theorem ns_137 : ∀ w ∈ (cdT_137.filter (fun e => Nat.beq (lkk 137 e.2) 2)).map (fun e => lkW 137 e.2), w ∈ nw := gr_of [] rfl
set_option maxRecDepth 100000 in
theorem mw_137 : ∀ w ∈ cdW 137 :: mwL 137, w ∈ bw := gr_of [1052, 1053, 1054, 82] rfl
theorem ck_138 : cdT_138.all (chkE 138) = true := by decide +kernel
set_option maxRecDepth 100000 in
theorem pl_138 : ∀ w ∈ (cdT_138.filter (fun e => Nat.beq (lkk 138 e.2) 1)).map (fun e => lkW 138 e.2), w ∈ bw := gr_of [362, 386, 395] rfl
set_option maxRecDepth 100000 in
theorem ns_138 : ∀ w ∈ (cdT_138.filter (fun e => Nat.beq (lkk 138 e.2) 2)).map (fun e => lkW 138 e.2), w ∈ nw := gr_of [50] rfl
set_option maxRecDepth 100000 in
theorem mw_138 : ∀ w ∈ cdW 138 :: mwL 138, w ∈ bw := gr_of [1055, 1056, 1057, 82] rfl
theorem ck_139 : cdT_139.all (chkE 139) = true := by decide +kernel
set_option maxRecDepth 100000 in
theorem pl_139 : ∀ w ∈ (cdT_139.filter (fun e => Nat.beq (lkk 139 e.2) 1)).map (fun e => lkW 139 e.2), w ∈ bw := gr_of [362, 386, 395] rfl
set_option maxRecDepth 100000 in
theorem ns_139 : ∀ w ∈ (cdT_139.filter (fun e => Nat.beq (lkk 139 e.2) 2)).map (fun e => lkW 139 e.2), w ∈ nw := gr_of [56] rfl
set_option maxRecDepth 100000 in
theorem mw_139 : ∀ w ∈ cdW 139 :: mwL 139, w ∈ bw := gr_of [1058, 1059, 1060, 82] rfl
theorem ck_140 : cdT_140.all (chkE 140) = true := by decide +kernel
set_option maxRecDepth 100000 in
theorem pl_140 : ∀ w ∈ (cdT_140.filter (fun e => Nat.beq (lkk 140 e.2) 1)).map (fun e => lkW 140 e.2), w ∈ bw := gr_of [386, 343] rfl
set_option maxRecDepth 100000 in
theorem ns_140 : ∀ w ∈ (cdT_140.filter (fun e => Nat.beq (lkk 140 e.2) 2)).map (fun e => lkW 140 e.2), w ∈ nw := gr_of [48] rfl
set_option maxRecDepth 100000 in
theorem mw_140 : ∀ w ∈ cdW 140 :: mwL 140, w ∈ bw := gr_of [1061, 1062, 1063, 82] rfl
theorem ck_141 : cdT_141.all (chkE 141) = true := by decide +kernel
set_option maxRecDepth 100000 in
theorem pl_141 : ∀ w ∈ (cdT_141.filter (fun e => Nat.beq (lkk 141 e.2) 1)).map (fun e => lkW 141 e.2), w ∈ bw := gr_of [386, 386, 386] rfl
set_option maxRecDepth 100000 in
theorem ns_141 : ∀ w ∈ (cdT_141.filter (fun e => Nat.beq (lkk 141 e.2) 2)).map (fun e => lkW 141 e.2), w ∈ nw := gr_of [] rfl
set_option maxRecDepth 100000 in
theorem mw_141 : ∀ w ∈ cdW 141 :: mwL 141, w ∈ bw := gr_of [1064, 1065, 82] rfl
theorem ck_142 : cdT_142.all (chkE 142) = true := by decide +kernel
set_option maxRecDepth 100000 in
theorem pl_142 : ∀ w ∈ (cdT_142.filter (fun e => Nat.beq (lkk 142 e.2) 1)).map (fun e => lkW 142 e.2), w ∈ bw := gr_of [] rfl
set_option maxRecDepth 100000 in
theorem ns_142 : ∀ w ∈ (cdT_142.filter (fun e => Nat.beq (lkk 142 e.2) 2)).map (fun e => lkW 142 e.2), w ∈ nw := gr_of [] rfl
set_option maxRecDepth 100000 in
theorem mw_142 : ∀ w ∈ cdW 142 :: mwL 142, w ∈ bw := gr_of [1066, 1067, 82] rfl
theorem ck_143 : cdT_143.all (chkE 143) = true := by decide +kernel
set_option maxRecDepth 100000 in
theorem pl_143 : ∀ w ∈ (cdT_143.filter (fun e => Nat.beq (lkk 143 e.2) 1)).map (fun e => lkW 143 e.2), w ∈ bw := gr_of [] rfl
set_option maxRecDepth 100000 in
theorem ns_143 : ∀ w ∈ (cdT_143.filter (fun e => Nat.beq (lkk 143 e.2) 2)).map (fun e => lkW 143 e.2), w ∈ nw := gr_of [] rfl
set_option maxRecDepth 100000 in
theorem mw_143 : ∀ w ∈ cdW 143 :: mwL 143, w ∈ bw := gr_of [1068, 1069, 82] rfl
theorem ck_144 : cdT_144.all (chkE 144) = true := by decide +kernel
set_option maxRecDepth 100000 in
theorem pl_144 : ∀ w ∈ (cdT_144.filter (fun e => Nat.beq (lkk 144 e.2) 1)).map (fun e => lkW 144 e.2), w ∈ bw := gr_of [] rfl
set_option maxRecDepth 100000 in
theorem ns_144 : ∀ w ∈ (cdT_144.filter (fun e => Nat.beq (lkk 144 e.2) 2)).map (fun e => lkW 144 e.2), w ∈ nw := gr_of [] rfl
set_option maxRecDepth 100000 in
theorem mw_144 : ∀ w ∈ cdW 144 :: mwL 144, w ∈ bw := gr_of [1070, 1071, 82] rfl
theorem ck_145 : cdT_145.all (chkE 145) = true := by decide +kernel
set_option maxRecDepth 100000 in
theorem pl_145 : ∀ w ∈ (cdT_145.filter (fun e => Nat.beq (lkk 145 e.2) 1)).map (fun e => lkW 145 e.2), w ∈ bw := gr_of [367, 424, 362, 425] rfl
set_option maxRecDepth 100000 in
theorem ns_145 : ∀ w ∈ (cdT_145.filter (fun e => Nat.beq (lkk 145 e.2) 2)).map (fun e => lkW 145 e.2), w ∈ nw := gr_of [] rfl
set_option maxRecDepth 100000 in
theorem mw_145 : ∀ w ∈ cdW 145 :: mwL 145, w ∈ bw := gr_of [1072, 1073, 1074, 82] rfl
theorem ck_146 : cdT_146.all (chkE 146) = true := by decide +kernel
set_option maxRecDepth 100000 in
theorem pl_146 : ∀ w ∈ (cdT_146.filter (fun e => Nat.beq (lkk 146 e.2) 1)).map (fun e => lkW 146 e.2), w ∈ bw := gr_of [362, 405, 420] rfl
set_option maxRecDepth 100000 in
theorem ns_146 : ∀ w ∈ (cdT_146.filter (fun e => Nat.beq (lkk 146 e.2) 2)).map (fun e => lkW 146 e.2), w ∈ nw := gr_of [57] rfl
set_option maxRecDepth 100000 in
theorem mw_146 : ∀ w ∈ cdW 146 :: mwL 146, w ∈ bw := gr_of [1075, 1076, 1077, 82] rfl
theorem ck_147 : cdT_147.all (chkE 147) = true := by decide +kernel
set_option maxRecDepth 100000 in
theorem pl_147 : ∀ w ∈ (cdT_147.filter (fun e => Nat.beq (lkk 147 e.2) 1)).map (fun e => lkW 147 e.2), w ∈ bw := gr_of [347, 362, 392, 347, 362, 426] rfl
set_option maxRecDepth 100000 in
theorem ns_147 : ∀ w ∈ (cdT_147.filter (fun e => Nat.beq (lkk 147 e.2) 2)).map (fun e => lkW 147 e.2), w ∈ nw := gr_of [63] rfl
set_option maxRecDepth 100000 in
theorem mw_147 : ∀ w ∈ cdW 147 :: mwL 147, w ∈ bw := gr_of [1078, 1079, 1080, 82] rfl
theorem ck_148 : cdT_148.all (chkE 148) = true := by decide +kernel
set_option maxRecDepth 100000 in
theorem pl_148 : ∀ w ∈ (cdT_148.filter (fun e => Nat.beq (lkk 148 e.2) 1)).map (fun e => lkW 148 e.2), w ∈ bw := gr_of [347, 362, 392, 412, 362, 347, 362, 392, 412, 412] rfl
set_option maxRecDepth 100000 in
theorem ns_148 : ∀ w ∈ (cdT_148.filter (fun e => Nat.beq (lkk 148 e.2) 2)).map (fun e => lkW 148 e.2), w ∈ nw := gr_of [56] rfl
set_option maxRecDepth 100000 in
theorem mw_148 : ∀ w ∈ cdW 148 :: mwL 148, w ∈ bw := gr_of [1081, 1082, 1083, 82] rfl
theorem ck_149 : cdT_149.all (chkE 149) = true := by decide +kernel
set_option maxRecDepth 100000 in
theorem pl_149 : ∀ w ∈ (cdT_149.filter (fun e => Nat.beq (lkk 149 e.2) 1)).map (fun e => lkW 149 e.2), w ∈ bw := gr_of [427, 428, 429, 430, 431, 432, 433, 434, 435, 436, 437, 438, 439, 440, 439, 441, 439, 442, 439, 443, 439, 444, 439, 445, 446, 447, 439, 448, 449, 450, 439, 451, 439, 452, 453, 454, 455, 439, 456, 457, 458] rfl
set_option maxRecDepth 100000 in
theorem ns_149 : ∀ w ∈ (cdT_149.filter (fun e => Nat.beq (lkk 149 e.2) 2)).map (fun e => lkW 149 e.2), w ∈ nw := gr_of [] rfl
set_option maxRecDepth 100000 in
theorem mw_149 : ∀ w ∈ cdW 149 :: mwL 149, w ∈ bw := gr_of [1084, 1085, 104] rfl
theorem ck_150 : cdT_150.all (chkE 150) = true := by decide +kernel
set_option maxRecDepth 100000 in
theorem pl_150 : ∀ w ∈ (cdT_150.filter (fun e => Nat.beq (lkk 150 e.2) 1)).map (fun e => lkW 150 e.2), w ∈ bw := gr_of [431, 431, 431] rfl
set_option maxRecDepth 100000 in
theorem ns_150 : ∀ w ∈ (cdT_150.filter (fun e => Nat.beq (lkk 150 e.2) 2)).map (fun e => lkW 150 e.2), w ∈ nw := gr_of [] rfl
set_option maxRecDepth 100000 in
theorem mw_150 : ∀ w ∈ cdW 150 :: mwL 150, w ∈ bw := gr_of [1086, 1087, 1088, 104] rfl
theorem ck_151 : cdT_151.all (chkE 151) = true := by decide +kernel
set_option maxRecDepth 100000 in
theorem pl_151 : ∀ w ∈ (cdT_151.filter (fun e => Nat.beq (lkk 151 e.2) 1)).map (fun e => lkW 151 e.2), w ∈ bw := gr_of [459] rfl
set_option maxRecDepth 100000 in
theorem ns_151 : ∀ w ∈ (cdT_151.filter (fun e => Nat.beq (lkk 151 e.2) 2)).map (fun e => lkW 151 e.2), w ∈ nw := gr_of [] rfl
set_option maxRecDepth 100000 in
theorem mw_151 : ∀ w ∈ cdW 151 :: mwL 151, w ∈ bw := gr_of [1089, 1090, 1091, 104] rfl
theorem ck_152 : cdT_152.all (chkE 152) = true := by decide +kernel
set_option maxRecDepth 100000 in
theorem pl_152 : ∀ w ∈ (cdT_152.filter (fun e => Nat.beq (lkk 152 e.2) 1)).map (fun e => lkW 152 e.2), w ∈ bw := gr_of [459, 459, 430, 459] rfl
set_option maxRecDepth 100000 in
theorem ns_152 : ∀ w ∈ (cdT_152.filter (fun e => Nat.beq (lkk 152 e.2) 2)).map (fun e => lkW 152 e.2), w ∈ nw := gr_of [] rfl
set_option maxRecDepth 100000 in
theorem mw_152 : ∀ w ∈ cdW 152 :: mwL 152, w ∈ bw := gr_of [1092, 1093, 1094, 104] rfl
theorem ck_153 : cdT_153.all (chkE 153) = true := by decide +kernel
set_option maxRecDepth 100000 in
theorem pl_153 : ∀ w ∈ (cdT_153.filter (fun e => Nat.beq (lkk 153 e.2) 1)).map (fun e => lkW 153 e.2), w ∈ bw := gr_of [] rfl
set_option maxRecDepth 100000 in
theorem ns_153 : ∀ w ∈ (cdT_153.filter (fun e => Nat.beq (lkk 153 e.2) 2)).map (fun e => lkW 153 e.2), w ∈ nw := gr_of [] rfl
set_option maxRecDepth 100000 in
theorem mw_153 : ∀ w ∈ cdW 153 :: mwL 153, w ∈ bw := gr_of [1095, 1096, 104] rfl
theorem ck_154 : cdT_154.all (chkE 154) = true := by decide +kernel
set_option maxRecDepth 100000 in
theorem pl_154 : ∀ w ∈ (cdT_154.filter (fun e => Nat.beq (lkk 154 e.2) 1)).map (fun e => lkW 154 e.2), w ∈ bw := gr_of [] rfl
set_option maxRecDepth 100000 in
theorem ns_154 : ∀ w ∈ (cdT_154.filter (fun e => Nat.beq (lkk 154 e.2) 2)).map (fun e => lkW 154 e.2), w ∈ nw := gr_of [] rfl
set_option maxRecDepth 100000 in
theorem mw_154 : ∀ w ∈ cdW 154 :: mwL 154, w ∈ bw := gr_of [1097, 1098, 104] rfl
theorem ck_155 : cdT_155.all (chkE 155) = true := by decide +kernel
set_option maxRecDepth 100000 in
theorem pl_155 : ∀ w ∈ (cdT_155.filter (fun e => Nat.beq (lkk 155 e.2) 1)).map (fun e => lkW 155 e.2), w ∈ bw := gr_of [] rfl
set_option maxRecDepth 100000 in
theorem ns_155 : ∀ w ∈ (cdT_155.filter (fun e => Nat.beq (lkk 155 e.2) 2)).map (fun e => lkW 155 e.2), w ∈ nw := gr_of [] rfl
set_option maxRecDepth 100000 in
theorem mw_155 : ∀ w ∈ cdW 155 :: mwL 155, w ∈ bw := gr_of [1099, 1100, 104] rfl
theorem ck_156 : cdT_156.all (chkE 156) = true := by decide +kernel
set_option maxRecDepth 100000 in
theorem pl_156 : ∀ w ∈ (cdT_156.filter (fun e => Nat.beq (lkk 156 e.2) 1)).map (fun e => lkW 156 e.2), w ∈ bw := gr_of [] rfl
set_option maxRecDepth 100000 in
theorem ns_156 : ∀ w ∈ (cdT_156.filter (fun e => Nat.beq (lkk 156 e.2) 2)).map (fun e => lkW 156 e.2), w ∈ nw := gr_of [] rfl
set_option maxRecDepth 100000 in
theorem mw_156 : ∀ w ∈ cdW 156 :: mwL 156, w ∈ bw := gr_of [1101, 1102, 104] rfl
theorem ck_157 : cdT_157.all (chkE 157) = true := by decide +kernel
set_option maxRecDepth 100000 in
theorem pl_157 : ∀ w ∈ (cdT_157.filter (fun e => Nat.beq (lkk 157 e.2) 1)).map (fun e => lkW 157 e.2), w ∈ bw := gr_of [459, 460, 429, 460, 460, 460, 460] rfl
set_option maxRecDepth 100000 in
theorem ns_157 : ∀ w ∈ (cdT_157.filter (fun e => Nat.beq (lkk 157 e.2) 2)).map (fun e => lkW 157 e.2), w ∈ nw := gr_of [] rfl
set_option maxRecDepth 100000 in
theorem mw_157 : ∀ w ∈ cdW 157 :: mwL 157, w ∈ bw := gr_of [1103, 1104, 1105, 104] rfl
theorem ck_158 : cdT_158.all (chkE 158) = true := by decide +kernel
set_option maxRecDepth 100000 in
theorem pl_158 : ∀ w ∈ (cdT_158.filter (fun e => Nat.beq (lkk 158 e.2) 1)).map (fun e => lkW 158 e.2), w ∈ bw := gr_of [461, 429] rfl
set_option maxRecDepth 100000 in
theorem ns_158 : ∀ w ∈ (cdT_158.filter (fun e => Nat.beq (lkk 158 e.2) 2)).map (fun e => lkW 158 e.2), w ∈ nw := gr_of [] rfl
set_option maxRecDepth 100000 in
theorem mw_158 : ∀ w ∈ cdW 158 :: mwL 158, w ∈ bw := gr_of [1106, 1107, 1108, 104] rfl
theorem ck_159 : cdT_159.all (chkE 159) = true := by decide +kernel
set_option maxRecDepth 100000 in
theorem pl_159 : ∀ w ∈ (cdT_159.filter (fun e => Nat.beq (lkk 159 e.2) 1)).map (fun e => lkW 159 e.2), w ∈ bw := gr_of [462, 463, 462, 462] rfl
set_option maxRecDepth 100000 in
theorem ns_159 : ∀ w ∈ (cdT_159.filter (fun e => Nat.beq (lkk 159 e.2) 2)).map (fun e => lkW 159 e.2), w ∈ nw := gr_of [] rfl
set_option maxRecDepth 100000 in
theorem mw_159 : ∀ w ∈ cdW 159 :: mwL 159, w ∈ bw := gr_of [1109, 1110, 1111, 104] rfl
theorem ck_160 : cdT_160.all (chkE 160) = true := by decide +kernel
set_option maxRecDepth 100000 in
theorem pl_160 : ∀ w ∈ (cdT_160.filter (fun e => Nat.beq (lkk 160 e.2) 1)).map (fun e => lkW 160 e.2), w ∈ bw := gr_of [464, 464, 465] rfl
set_option maxRecDepth 100000 in
theorem ns_160 : ∀ w ∈ (cdT_160.filter (fun e => Nat.beq (lkk 160 e.2) 2)).map (fun e => lkW 160 e.2), w ∈ nw := gr_of [] rfl
set_option maxRecDepth 100000 in
theorem mw_160 : ∀ w ∈ cdW 160 :: mwL 160, w ∈ bw := gr_of [1112, 1113, 1114, 104] rfl
theorem ck_161 : cdT_161.all (chkE 161) = true := by decide +kernel
set_option maxRecDepth 100000 in
theorem pl_161 : ∀ w ∈ (cdT_161.filter (fun e => Nat.beq (lkk 161 e.2) 1)).map (fun e => lkW 161 e.2), w ∈ bw := gr_of [] rfl
set_option maxRecDepth 100000 in
theorem ns_161 : ∀ w ∈ (cdT_161.filter (fun e => Nat.beq (lkk 161 e.2) 2)).map (fun e => lkW 161 e.2), w ∈ nw := gr_of [] rfl
set_option maxRecDepth 100000 in
theorem mw_161 : ∀ w ∈ cdW 161 :: mwL 161, w ∈ bw := gr_of [1115, 1116, 104] rfl
theorem ck_162 : cdT_162.all (chkE 162) = true := by decide +kernel
set_option maxRecDepth 100000 in
theorem pl_162 : ∀ w ∈ (cdT_162.filter (fun e => Nat.beq (lkk 162 e.2) 1)).map (fun e => lkW 162 e.2), w ∈ bw := gr_of [] rfl
set_option maxRecDepth 100000 in
theorem ns_162 : ∀ w ∈ (cdT_162.filter (fun e => Nat.beq (lkk 162 e.2) 2)).map (fun e => lkW 162 e.2), w ∈ nw := gr_of [] rfl
set_option maxRecDepth 100000 in
theorem mw_162 : ∀ w ∈ cdW 162 :: mwL 162, w ∈ bw := gr_of [1117, 1118, 104] rfl
theorem ck_163 : cdT_163.all (chkE 163) = true := by decide +kernel
set_option maxRecDepth 100000 in
theorem pl_163 : ∀ w ∈ (cdT_163.filter (fun e => Nat.beq (lkk 163 e.2) 1)).map (fun e => lkW 163 e.2), w ∈ bw := gr_of [464, 466, 462, 462, 463, 467, 462, 468, 462, 463, 467, 462, 463, 469, 469, 462, 462, 470, 468, 464] rfl
set_option maxRecDepth 100000 in
theorem ns_163 : ∀ w ∈ (cdT_163.filter (fun e => Nat.beq (lkk 163 e.2) 2)).map (fun e => lkW 163 e.2), w ∈ nw := gr_of [] rfl
set_option maxRecDepth 100000 in
theorem mw_163 : ∀ w ∈ cdW 163 :: mwL 163, w ∈ bw := gr_of [1119, 1120, 1121, 104] rfl
theorem ck_164 : cdT_164.all (chkE 164) = true := by decide +kernel
set_option maxRecDepth 100000 in
theorem pl_164 : ∀ w ∈ (cdT_164.filter (fun e => Nat.beq (lkk 164 e.2) 1)).map (fun e => lkW 164 e.2), w ∈ bw := gr_of [466, 462, 463, 471, 462, 463] rfl
set_option maxRecDepth 100000 in
theorem ns_164 : ∀ w ∈ (cdT_164.filter (fun e => Nat.beq (lkk 164 e.2) 2)).map (fun e => lkW 164 e.2), w ∈ nw := gr_of [] rfl
set_option maxRecDepth 100000 in
theorem mw_164 : ∀ w ∈ cdW 164 :: mwL 164, w ∈ bw := gr_of [1122, 1123, 1124, 104] rfl
theorem ck_165 : cdT_165.all (chkE 165) = true := by decide +kernel
set_option maxRecDepth 100000 in
theorem pl_165 : ∀ w ∈ (cdT_165.filter (fun e => Nat.beq (lkk 165 e.2) 1)).map (fun e => lkW 165 e.2), w ∈ bw := gr_of [] rfl
set_option maxRecDepth 100000 in
theorem ns_165 : ∀ w ∈ (cdT_165.filter (fun e => Nat.beq (lkk 165 e.2) 2)).map (fun e => lkW 165 e.2), w ∈ nw := gr_of [] rfl
set_option maxRecDepth 100000 in
theorem mw_165 : ∀ w ∈ cdW 165 :: mwL 165, w ∈ bw := gr_of [1125, 1126, 104] rfl
theorem ck_166 : cdT_166.all (chkE 166) = true := by decide +kernel
set_option maxRecDepth 100000 in
theorem pl_166 : ∀ w ∈ (cdT_166.filter (fun e => Nat.beq (lkk 166 e.2) 1)).map (fun e => lkW 166 e.2), w ∈ bw := gr_of [464, 472, 473] rfl
set_option maxRecDepth 100000 in
theorem ns_166 : ∀ w ∈ (cdT_166.filter (fun e => Nat.beq (lkk 166 e.2) 2)).map (fun e => lkW 166 e.2), w ∈ nw := gr_of [] rfl
set_option maxRecDepth 100000 in
theorem mw_166 : ∀ w ∈ cdW 166 :: mwL 166, w ∈ bw := gr_of [1127, 1128, 1129, 104] rfl
theorem ck_167 : cdT_167.all (chkE 167) = true := by decide +kernel
set_option maxRecDepth 100000 in
theorem pl_167 : ∀ w ∈ (cdT_167.filter (fun e => Nat.beq (lkk 167 e.2) 1)).map (fun e => lkW 167 e.2), w ∈ bw := gr_of [462, 463, 471, 462, 462] rfl
set_option maxRecDepth 100000 in
theorem ns_167 : ∀ w ∈ (cdT_167.filter (fun e => Nat.beq (lkk 167 e.2) 2)).map (fun e => lkW 167 e.2), w ∈ nw := gr_of [] rfl
set_option maxRecDepth 100000 in
theorem mw_167 : ∀ w ∈ cdW 167 :: mwL 167, w ∈ bw := gr_of [1130, 1131, 1132, 104] rfl
theorem ck_168 : cdT_168.all (chkE 168) = true := by decide +kernel
set_option maxRecDepth 100000 in
theorem pl_168 : ∀ w ∈ (cdT_168.filter (fun e => Nat.beq (lkk 168 e.2) 1)).map (fun e => lkW 168 e.2), w ∈ bw := gr_of [474, 475] rfl
set_option maxRecDepth 100000 in
theorem ns_168 : ∀ w ∈ (cdT_168.filter (fun e => Nat.beq (lkk 168 e.2) 2)).map (fun e => lkW 168 e.2), w ∈ nw := gr_of [] rfl
set_option maxRecDepth 100000 in
theorem mw_168 : ∀ w ∈ cdW 168 :: mwL 168, w ∈ bw := gr_of [1133, 1134, 1135, 104] rfl
theorem ck_169 : cdT_169.all (chkE 169) = true := by decide +kernel
set_option maxRecDepth 100000 in
theorem pl_169 : ∀ w ∈ (cdT_169.filter (fun e => Nat.beq (lkk 169 e.2) 1)).map (fun e => lkW 169 e.2), w ∈ bw := gr_of [464, 466, 462, 463, 462, 462, 462, 468] rfl
set_option maxRecDepth 100000 in
theorem ns_169 : ∀ w ∈ (cdT_169.filter (fun e => Nat.beq (lkk 169 e.2) 2)).map (fun e => lkW 169 e.2), w ∈ nw := gr_of [] rfl
set_option maxRecDepth 100000 in
theorem mw_169 : ∀ w ∈ cdW 169 :: mwL 169, w ∈ bw := gr_of [1136, 1137, 1138, 104] rfl
theorem ck_170 : cdT_170.all (chkE 170) = true := by decide +kernel
set_option maxRecDepth 100000 in
theorem pl_170 : ∀ w ∈ (cdT_170.filter (fun e => Nat.beq (lkk 170 e.2) 1)).map (fun e => lkW 170 e.2), w ∈ bw := gr_of [464, 466, 462, 463, 462, 462] rfl
set_option maxRecDepth 100000 in
theorem ns_170 : ∀ w ∈ (cdT_170.filter (fun e => Nat.beq (lkk 170 e.2) 2)).map (fun e => lkW 170 e.2), w ∈ nw := gr_of [] rfl
set_option maxRecDepth 100000 in
theorem mw_170 : ∀ w ∈ cdW 170 :: mwL 170, w ∈ bw := gr_of [1139, 1140, 1141, 104] rfl
theorem ck_171 : cdT_171.all (chkE 171) = true := by decide +kernel
set_option maxRecDepth 100000 in
theorem pl_171 : ∀ w ∈ (cdT_171.filter (fun e => Nat.beq (lkk 171 e.2) 1)).map (fun e => lkW 171 e.2), w ∈ bw := gr_of [460, 461, 462, 464, 465, 476, 477, 466] rfl
set_option maxRecDepth 100000 in
theorem ns_171 : ∀ w ∈ (cdT_171.filter (fun e => Nat.beq (lkk 171 e.2) 2)).map (fun e => lkW 171 e.2), w ∈ nw := gr_of [] rfl
set_option maxRecDepth 100000 in
theorem mw_171 : ∀ w ∈ cdW 171 :: mwL 171, w ∈ bw := gr_of [1142, 1143, 1144, 104] rfl
theorem ck_172 : cdT_172.all (chkE 172) = true := by decide +kernel
set_option maxRecDepth 100000 in
theorem pl_172 : ∀ w ∈ (cdT_172.filter (fun e => Nat.beq (lkk 172 e.2) 1)).map (fun e => lkW 172 e.2), w ∈ bw := gr_of [465, 428, 464] rfl
set_option maxRecDepth 100000 in
theorem ns_172 : ∀ w ∈ (cdT_172.filter (fun e => Nat.beq (lkk 172 e.2) 2)).map (fun e => lkW 172 e.2), w ∈ nw := gr_of [] rfl
set_option maxRecDepth 100000 in
theorem mw_172 : ∀ w ∈ cdW 172 :: mwL 172, w ∈ bw := gr_of [1145, 1146, 1147, 104] rfl
theorem ck_173 : cdT_173.all (chkE 173) = true := by decide +kernel
set_option maxRecDepth 100000 in
theorem pl_173 : ∀ w ∈ (cdT_173.filter (fun e => Nat.beq (lkk 173 e.2) 1)).map (fun e => lkW 173 e.2), w ∈ bw := gr_of [474, 474, 474, 474, 474, 474] rfl
set_option maxRecDepth 100000 in
theorem ns_173 : ∀ w ∈ (cdT_173.filter (fun e => Nat.beq (lkk 173 e.2) 2)).map (fun e => lkW 173 e.2), w ∈ nw := gr_of [] rfl
set_option maxRecDepth 100000 in
theorem mw_173 : ∀ w ∈ cdW 173 :: mwL 173, w ∈ bw := gr_of [1148, 1149, 1150, 104] rfl
theorem ck_174 : cdT_174.all (chkE 174) = true := by decide +kernel
set_option maxRecDepth 100000 in
theorem pl_174 : ∀ w ∈ (cdT_174.filter (fun e => Nat.beq (lkk 174 e.2) 1)).map (fun e => lkW 174 e.2), w ∈ bw := gr_of [] rfl
set_option maxRecDepth 100000 in
theorem ns_174 : ∀ w ∈ (cdT_174.filter (fun e => Nat.beq (lkk 174 e.2) 2)).map (fun e => lkW 174 e.2), w ∈ nw := gr_of [] rfl
set_option maxRecDepth 100000 in
theorem mw_174 : ∀ w ∈ cdW 174 :: mwL 174, w ∈ bw := gr_of [1151, 1152, 104] rfl
theorem ck_175 : cdT_175.all (chkE 175) = true := by decide +kernel
set_option maxRecDepth 100000 in
theorem pl_175 : ∀ w ∈ (cdT_175.filter (fun e => Nat.beq (lkk 175 e.2) 1)).map (fun e => lkW 175 e.2), w ∈ bw := gr_of [478, 462, 468, 476, 431, 479, 462, 468, 464, 475, 476, 476, 431, 433, 480, 440, 480, 440, 480, 435, 480, 437, 480, 480, 464, 431, 431, 464, 481] rfl
set_option maxRecDepth 100000 in
theorem ns_175 : ∀ w ∈ (cdT_175.filter (fun e => Nat.beq (lkk 175 e.2) 2)).map (fun e => lkW 175 e.2), w ∈ nw := gr_of [] rfl
set_option maxRecDepth 100000 in
theorem mw_175 : ∀ w ∈ cdW 175 :: mwL 175, w ∈ bw := gr_of [1153, 1154, 1155, 104] rfl
theorem ck_176 : cdT_176.all (chkE 176) = true := by decide +kernel
set_option maxRecDepth 100000 in
theorem pl_176 : ∀ w ∈ (cdT_176.filter (fun e => Nat.beq (lkk 176 e.2) 1)).map (fun e => lkW 176 e.2), w ∈ bw := gr_of [459, 460, 470, 482, 483, 457, 464, 462, 461, 484, 466, 464, 485, 428, 458, 432] rfl
set_option maxRecDepth 100000 in
theorem ns_176 : ∀ w ∈ (cdT_176.filter (fun e => Nat.beq (lkk 176 e.2) 2)).map (fun e => lkW 176 e.2), w ∈ nw := gr_of [] rfl
set_option maxRecDepth 100000 in
theorem mw_176 : ∀ w ∈ cdW 176 :: mwL 176, w ∈ bw := gr_of [1156, 1157, 1158, 104] rfl
theorem ck_177 : cdT_177.all (chkE 177) = true := by decide +kernel
set_option maxRecDepth 100000 in
theorem pl_177 : ∀ w ∈ (cdT_177.filter (fun e => Nat.beq (lkk 177 e.2) 1)).map (fun e => lkW 177 e.2), w ∈ bw := gr_of [] rfl
set_option maxRecDepth 100000 in
theorem ns_177 : ∀ w ∈ (cdT_177.filter (fun e => Nat.beq (lkk 177 e.2) 2)).map (fun e => lkW 177 e.2), w ∈ nw := gr_of [] rfl
set_option maxRecDepth 100000 in
theorem mw_177 : ∀ w ∈ cdW 177 :: mwL 177, w ∈ bw := gr_of [1159, 1160, 104] rfl
theorem ck_178 : cdT_178.all (chkE 178) = true := by decide +kernel
set_option maxRecDepth 100000 in
theorem pl_178 : ∀ w ∈ (cdT_178.filter (fun e => Nat.beq (lkk 178 e.2) 1)).map (fun e => lkW 178 e.2), w ∈ bw := gr_of [] rfl
set_option maxRecDepth 100000 in
theorem ns_178 : ∀ w ∈ (cdT_178.filter (fun e => Nat.beq (lkk 178 e.2) 2)).map (fun e => lkW 178 e.2), w ∈ nw := gr_of [] rfl
set_option maxRecDepth 100000 in
theorem mw_178 : ∀ w ∈ cdW 178 :: mwL 178, w ∈ bw := gr_of [1161, 1162, 104] rfl
theorem ck_179 : cdT_179.all (chkE 179) = true := by decide +kernel
set_option maxRecDepth 100000 in
theorem pl_179 : ∀ w ∈ (cdT_179.filter (fun e => Nat.beq (lkk 179 e.2) 1)).map (fun e => lkW 179 e.2), w ∈ bw := gr_of [432, 431, 432, 434, 433, 432, 436, 435, 432, 438, 437, 440, 441, 432, 486, 449, 449, 449, 432, 441, 449, 432, 449, 487, 488, 489, 490, 491] rfl
set_option maxRecDepth 100000 in
theorem ns_179 : ∀ w ∈ (cdT_179.filter (fun e => Nat.beq (lkk 179 e.2) 2)).map (fun e => lkW 179 e.2), w ∈ nw := gr_of [] rfl
set_option maxRecDepth 100000 in
theorem mw_179 : ∀ w ∈ cdW 179 :: mwL 179, w ∈ bw := gr_of [1163, 1164, 1165, 104] rfl
theorem ck_180 : cdT_180.all (chkE 180) = true := by decide +kernel
set_option maxRecDepth 100000 in
theorem pl_180 : ∀ w ∈ (cdT_180.filter (fun e => Nat.beq (lkk 180 e.2) 1)).map (fun e => lkW 180 e.2), w ∈ bw := gr_of [464, 443, 492, 443, 492, 492, 492] rfl
set_option maxRecDepth 100000 in
theorem ns_180 : ∀ w ∈ (cdT_180.filter (fun e => Nat.beq (lkk 180 e.2) 2)).map (fun e => lkW 180 e.2), w ∈ nw := gr_of [] rfl
set_option maxRecDepth 100000 in
theorem mw_180 : ∀ w ∈ cdW 180 :: mwL 180, w ∈ bw := gr_of [1166, 1167, 1168, 104] rfl
theorem ck_181 : cdT_181.all (chkE 181) = true := by decide +kernel
set_option maxRecDepth 100000 in
theorem pl_181 : ∀ w ∈ (cdT_181.filter (fun e => Nat.beq (lkk 181 e.2) 1)).map (fun e => lkW 181 e.2), w ∈ bw := gr_of [464, 477, 462, 468, 464, 477, 477, 464] rfl
set_option maxRecDepth 100000 in
theorem ns_181 : ∀ w ∈ (cdT_181.filter (fun e => Nat.beq (lkk 181 e.2) 2)).map (fun e => lkW 181 e.2), w ∈ nw := gr_of [] rfl
set_option maxRecDepth 100000 in
theorem mw_181 : ∀ w ∈ cdW 181 :: mwL 181, w ∈ bw := gr_of [1169, 1170, 1171, 104] rfl
theorem ck_182 : cdT_182.all (chkE 182) = true := by decide +kernel
set_option maxRecDepth 100000 in
theorem pl_182 : ∀ w ∈ (cdT_182.filter (fun e => Nat.beq (lkk 182 e.2) 1)).map (fun e => lkW 182 e.2), w ∈ bw := gr_of [493, 464, 494, 494, 493, 495] rfl
set_option maxRecDepth 100000 in
theorem ns_182 : ∀ w ∈ (cdT_182.filter (fun e => Nat.beq (lkk 182 e.2) 2)).map (fun e => lkW 182 e.2), w ∈ nw := gr_of [] rfl
set_option maxRecDepth 100000 in
theorem mw_182 : ∀ w ∈ cdW 182 :: mwL 182, w ∈ bw := gr_of [1172, 1173, 1174, 104] rfl
theorem ck_183 : cdT_183.all (chkE 183) = true := by decide +kernel
set_option maxRecDepth 100000 in
theorem pl_183 : ∀ w ∈ (cdT_183.filter (fun e => Nat.beq (lkk 183 e.2) 1)).map (fun e => lkW 183 e.2), w ∈ bw := gr_of [496, 464, 494, 494, 494, 496, 495] rfl
set_option maxRecDepth 100000 in
theorem ns_183 : ∀ w ∈ (cdT_183.filter (fun e => Nat.beq (lkk 183 e.2) 2)).map (fun e => lkW 183 e.2), w ∈ nw := gr_of [] rfl
set_option maxRecDepth 100000 in
theorem mw_183 : ∀ w ∈ cdW 183 :: mwL 183, w ∈ bw := gr_of [1175, 1176, 1177, 104] rfl
theorem ck_184 : cdT_184.all (chkE 184) = true := by decide +kernel
set_option maxRecDepth 100000 in
theorem pl_184 : ∀ w ∈ (cdT_184.filter (fun e => Nat.beq (lkk 184 e.2) 1)).map (fun e => lkW 184 e.2), w ∈ bw := gr_of [497, 497, 497, 497, 497, 497, 497, 497] rfl
set_option maxRecDepth 100000 in
theorem ns_184 : ∀ w ∈ (cdT_184.filter (fun e => Nat.beq (lkk 184 e.2) 2)).map (fun e => lkW 184 e.2), w ∈ nw := gr_of [] rfl
set_option maxRecDepth 100000 in
theorem mw_184 : ∀ w ∈ cdW 184 :: mwL 184, w ∈ bw := gr_of [1178, 1179, 1180, 104] rfl
theorem ck_185 : cdT_185.all (chkE 185) = true := by decide +kernel
set_option maxRecDepth 100000 in
theorem pl_185 : ∀ w ∈ (cdT_185.filter (fun e => Nat.beq (lkk 185 e.2) 1)).map (fun e => lkW 185 e.2), w ∈ bw := gr_of [464, 466, 474, 474, 498, 475, 481, 499, 481, 499, 481, 495, 477, 477, 462, 463, 498, 462, 462, 499, 481, 477, 477, 500, 495, 480, 495] rfl
set_option maxRecDepth 100000 in
theorem ns_185 : ∀ w ∈ (cdT_185.filter (fun e => Nat.beq (lkk 185 e.2) 2)).map (fun e => lkW 185 e.2), w ∈ nw := gr_of [] rfl
set_option maxRecDepth 100000 in
theorem mw_185 : ∀ w ∈ cdW 185 :: mwL 185, w ∈ bw := gr_of [1181, 1182, 1183, 104] rfl
theorem ck_186 : cdT_186.all (chkE 186) = true := by decide +kernel
set_option maxRecDepth 100000 in
theorem pl_186 : ∀ w ∈ (cdT_186.filter (fun e => Nat.beq (lkk 186 e.2) 1)).map (fun e => lkW 186 e.2), w ∈ bw := gr_of [459, 460, 470, 482, 483, 492, 499, 466, 464, 462, 461, 462, 468, 464, 485, 428, 492, 487, 443, 442, 487, 486] rfl
set_option maxRecDepth 100000 in
theorem ns_186 : ∀ w ∈ (cdT_186.filter (fun e => Nat.beq (lkk 186 e.2) 2)).map (fun e => lkW 186 e.2), w ∈ nw := gr_of [] rfl
set_option maxRecDepth 100000 in
theorem mw_186 : ∀ w ∈ cdW 186 :: mwL 186, w ∈ bw := gr_of [1184, 1185, 1186, 104] rfl
theorem ck_187 : cdT_187.all (chkE 187) = true := by decide +kernel
set_option maxRecDepth 100000 in
theorem pl_187 : ∀ w ∈ (cdT_187.filter (fun e => Nat.beq (lkk 187 e.2) 1)).map (fun e => lkW 187 e.2), w ∈ bw := gr_of [501, 502] rfl
set_option maxRecDepth 100000 in
theorem ns_187 : ∀ w ∈ (cdT_187.filter (fun e => Nat.beq (lkk 187 e.2) 2)).map (fun e => lkW 187 e.2), w ∈ nw := gr_of [] rfl
set_option maxRecDepth 100000 in
theorem mw_187 : ∀ w ∈ cdW 187 :: mwL 187, w ∈ bw := gr_of [1187, 1188, 104] rfl
theorem ck_188 : cdT_188.all (chkE 188) = true := by decide +kernel
set_option maxRecDepth 100000 in
theorem pl_188 : ∀ w ∈ (cdT_188.filter (fun e => Nat.beq (lkk 188 e.2) 1)).map (fun e => lkW 188 e.2), w ∈ bw := gr_of [446, 447, 447, 502, 447, 447, 487, 442, 446, 442, 442, 447, 442, 446, 442, 446, 446, 503, 446, 502, 501] rfl
set_option maxRecDepth 100000 in
theorem ns_188 : ∀ w ∈ (cdT_188.filter (fun e => Nat.beq (lkk 188 e.2) 2)).map (fun e => lkW 188 e.2), w ∈ nw := gr_of [] rfl
set_option maxRecDepth 100000 in
theorem mw_188 : ∀ w ∈ cdW 188 :: mwL 188, w ∈ bw := gr_of [1189, 1190, 1191, 104] rfl
theorem ck_189 : cdT_189.all (chkE 189) = true := by decide +kernel
set_option maxRecDepth 100000 in
theorem pl_189 : ∀ w ∈ (cdT_189.filter (fun e => Nat.beq (lkk 189 e.2) 1)).map (fun e => lkW 189 e.2), w ∈ bw := gr_of [474, 474, 474, 474, 474, 474, 474] rfl
set_option maxRecDepth 100000 in
theorem ns_189 : ∀ w ∈ (cdT_189.filter (fun e => Nat.beq (lkk 189 e.2) 2)).map (fun e => lkW 189 e.2), w ∈ nw := gr_of [] rfl
set_option maxRecDepth 100000 in
theorem mw_189 : ∀ w ∈ cdW 189 :: mwL 189, w ∈ bw := gr_of [1192, 1193, 1194, 104] rfl
theorem ck_190 : cdT_190.all (chkE 190) = true := by decide +kernel
set_option maxRecDepth 100000 in
theorem pl_190 : ∀ w ∈ (cdT_190.filter (fun e => Nat.beq (lkk 190 e.2) 1)).map (fun e => lkW 190 e.2), w ∈ bw := gr_of [504, 462, 468, 498, 464, 475, 448, 505, 505, 505, 432, 480, 432, 480, 480, 481, 466, 464, 462, 463, 506, 466, 481, 477, 477, 505, 481] rfl
set_option maxRecDepth 100000 in
theorem ns_190 : ∀ w ∈ (cdT_190.filter (fun e => Nat.beq (lkk 190 e.2) 2)).map (fun e => lkW 190 e.2), w ∈ nw := gr_of [] rfl
set_option maxRecDepth 100000 in
theorem mw_190 : ∀ w ∈ cdW 190 :: mwL 190, w ∈ bw := gr_of [1195, 1196, 1197, 104] rfl
theorem ck_191 : cdT_191.all (chkE 191) = true := by decide +kernel
set_option maxRecDepth 100000 in
theorem pl_191 : ∀ w ∈ (cdT_191.filter (fun e => Nat.beq (lkk 191 e.2) 1)).map (fun e => lkW 191 e.2), w ∈ bw := gr_of [459, 460, 470, 482, 483, 464, 462, 461, 462, 432, 480, 464, 507, 468, 480, 481, 464, 445, 445, 466, 464, 485, 428, 488, 445, 444, 486] rfl
set_option maxRecDepth 100000 in
theorem ns_191 : ∀ w ∈ (cdT_191.filter (fun e => Nat.beq (lkk 191 e.2) 2)).map (fun e => lkW 191 e.2), w ∈ nw := gr_of [] rfl
set_option maxRecDepth 100000 in
theorem mw_191 : ∀ w ∈ cdW 191 :: mwL 191, w ∈ bw := gr_of [1198, 1199, 1200, 104] rfl
theorem ck_192 : cdT_192.all (chkE 192) = true := by decide +kernel
set_option maxRecDepth 100000 in
theorem pl_192 : ∀ w ∈ (cdT_192.filter (fun e => Nat.beq (lkk 192 e.2) 1)).map (fun e => lkW 192 e.2), w ∈ bw := gr_of [459, 428] rfl
set_option maxRecDepth 100000 in
theorem ns_192 : ∀ w ∈ (cdT_192.filter (fun e => Nat.beq (lkk 192 e.2) 2)).map (fun e => lkW 192 e.2), w ∈ nw := gr_of [] rfl
set_option maxRecDepth 100000 in
theorem mw_192 : ∀ w ∈ cdW 192 :: mwL 192, w ∈ bw := gr_of [1201, 1202, 1203, 104] rfl
theorem ck_193 : cdT_193.all (chkE 193) = true := by decide +kernel
set_option maxRecDepth 100000 in
theorem pl_193 : ∀ w ∈ (cdT_193.filter (fun e => Nat.beq (lkk 193 e.2) 1)).map (fun e => lkW 193 e.2), w ∈ bw := gr_of [432, 438, 432] rfl
set_option maxRecDepth 100000 in
theorem ns_193 : ∀ w ∈ (cdT_193.filter (fun e => Nat.beq (lkk 193 e.2) 2)).map (fun e => lkW 193 e.2), w ∈ nw := gr_of [] rfl
set_option maxRecDepth 100000 in
theorem mw_193 : ∀ w ∈ cdW 193 :: mwL 193, w ∈ bw := gr_of [1204, 1205, 1206, 104] rfl
theorem ck_194 : cdT_194.all (chkE 194) = true := by decide +kernel
set_option maxRecDepth 100000 in
theorem pl_194 : ∀ w ∈ (cdT_194.filter (fun e => Nat.beq (lkk 194 e.2) 1)).map (fun e => lkW 194 e.2), w ∈ bw := gr_of [441, 434, 447, 447, 441, 447, 447, 447, 447, 447, 447, 508] rfl
set_option maxRecDepth 100000 in
theorem ns_194 : ∀ w ∈ (cdT_194.filter (fun e => Nat.beq (lkk 194 e.2) 2)).map (fun e => lkW 194 e.2), w ∈ nw := gr_of [] rfl
set_option maxRecDepth 100000 in
theorem mw_194 : ∀ w ∈ cdW 194 :: mwL 194, w ∈ bw := gr_of [1207, 1208, 1209, 104] rfl
theorem ck_195 : cdT_195.all (chkE 195) = true := by decide +kernel
set_option maxRecDepth 100000 in
theorem pl_195 : ∀ w ∈ (cdT_195.filter (fun e => Nat.beq (lkk 195 e.2) 1)).map (fun e => lkW 195 e.2), w ∈ bw := gr_of [509, 510] rfl
set_option maxRecDepth 100000 in
theorem ns_195 : ∀ w ∈ (cdT_195.filter (fun e => Nat.beq (lkk 195 e.2) 2)).map (fun e => lkW 195 e.2), w ∈ nw := gr_of [] rfl
set_option maxRecDepth 100000 in
theorem mw_195 : ∀ w ∈ cdW 195 :: mwL 195, w ∈ bw := gr_of [1210, 1211, 1212, 104] rfl
theorem ck_196 : cdT_196.all (chkE 196) = true := by decide +kernel
set_option maxRecDepth 100000 in
theorem pl_196 : ∀ w ∈ (cdT_196.filter (fun e => Nat.beq (lkk 196 e.2) 1)).map (fun e => lkW 196 e.2), w ∈ bw := gr_of [432, 441, 470] rfl
set_option maxRecDepth 100000 in
theorem ns_196 : ∀ w ∈ (cdT_196.filter (fun e => Nat.beq (lkk 196 e.2) 2)).map (fun e => lkW 196 e.2), w ∈ nw := gr_of [] rfl
set_option maxRecDepth 100000 in
theorem mw_196 : ∀ w ∈ cdW 196 :: mwL 196, w ∈ bw := gr_of [1213, 1214, 1215, 104] rfl
theorem ck_197 : cdT_197.all (chkE 197) = true := by decide +kernel
set_option maxRecDepth 100000 in
theorem pl_197 : ∀ w ∈ (cdT_197.filter (fun e => Nat.beq (lkk 197 e.2) 1)).map (fun e => lkW 197 e.2), w ∈ bw := gr_of [441, 432, 441, 511, 511] rfl
set_option maxRecDepth 100000 in
theorem ns_197 : ∀ w ∈ (cdT_197.filter (fun e => Nat.beq (lkk 197 e.2) 2)).map (fun e => lkW 197 e.2), w ∈ nw := gr_of [] rfl
set_option maxRecDepth 100000 in
theorem mw_197 : ∀ w ∈ cdW 197 :: mwL 197, w ∈ bw := gr_of [1216, 1217, 1218, 104] rfl
theorem ck_198 : cdT_198.all (chkE 198) = true := by decide +kernel
set_option maxRecDepth 100000 in
theorem pl_198 : ∀ w ∈ (cdT_198.filter (fun e => Nat.beq (lkk 198 e.2) 1)).map (fun e => lkW 198 e.2), w ∈ bw := gr_of [432, 512, 502, 432] rfl
set_option maxRecDepth 100000 in
theorem ns_198 : ∀ w ∈ (cdT_198.filter (fun e => Nat.beq (lkk 198 e.2) 2)).map (fun e => lkW 198 e.2), w ∈ nw := gr_of [] rfl
set_option maxRecDepth 100000 in
theorem mw_198 : ∀ w ∈ cdW 198 :: mwL 198, w ∈ bw := gr_of [1219, 1220, 1221, 104] rfl
theorem ck_199 : cdT_199.all (chkE 199) = true := by decide +kernel
set_option maxRecDepth 100000 in
theorem pl_199 : ∀ w ∈ (cdT_199.filter (fun e => Nat.beq (lkk 199 e.2) 1)).map (fun e => lkW 199 e.2), w ∈ bw := gr_of [511, 501] rfl
set_option maxRecDepth 100000 in
theorem ns_199 : ∀ w ∈ (cdT_199.filter (fun e => Nat.beq (lkk 199 e.2) 2)).map (fun e => lkW 199 e.2), w ∈ nw := gr_of [] rfl
set_option maxRecDepth 100000 in
theorem mw_199 : ∀ w ∈ cdW 199 :: mwL 199, w ∈ bw := gr_of [1222, 1223, 1224, 104] rfl
theorem ck_200 : cdT_200.all (chkE 200) = true := by decide +kernel
set_option maxRecDepth 100000 in
theorem pl_200 : ∀ w ∈ (cdT_200.filter (fun e => Nat.beq (lkk 200 e.2) 1)).map (fun e => lkW 200 e.2), w ∈ bw := gr_of [513, 514, 515] rfl
set_option maxRecDepth 100000 in
theorem ns_200 : ∀ w ∈ (cdT_200.filter (fun e => Nat.beq (lkk 200 e.2) 2)).map (fun e => lkW 200 e.2), w ∈ nw := gr_of [] rfl
set_option maxRecDepth 100000 in
theorem mw_200 : ∀ w ∈ cdW 200 :: mwL 200, w ∈ bw := gr_of [1225, 1226, 1227, 104] rfl
theorem ck_201 : cdT_201.all (chkE 201) = true := by decide +kernel
set_option maxRecDepth 100000 in
theorem pl_201 : ∀ w ∈ (cdT_201.filter (fun e => Nat.beq (lkk 201 e.2) 1)).map (fun e => lkW 201 e.2), w ∈ bw := gr_of [516, 516, 516, 448, 448, 516, 448, 517, 449, 448, 518, 519, 519, 490, 490, 448] rfl
set_option maxRecDepth 100000 in
theorem ns_201 : ∀ w ∈ (cdT_201.filter (fun e => Nat.beq (lkk 201 e.2) 2)).map (fun e => lkW 201 e.2), w ∈ nw := gr_of [] rfl
set_option maxRecDepth 100000 in
theorem mw_201 : ∀ w ∈ cdW 201 :: mwL 201, w ∈ bw := gr_of [1228, 1229, 1230, 104] rfl
theorem ck_202 : cdT_202.all (chkE 202) = true := by decide +kernel
set_option maxRecDepth 100000 in
theorem pl_202 : ∀ w ∈ (cdT_202.filter (fun e => Nat.beq (lkk 202 e.2) 1)).map (fun e => lkW 202 e.2), w ∈ bw := gr_of [459, 460, 470, 482, 489, 460, 428, 483, 505, 464, 462, 461, 506, 466, 464, 485, 428, 449, 451, 489, 520, 489, 489, 516, 519, 490, 505, 517, 519] rfl
set_option maxRecDepth 100000 in
theorem ns_202 : ∀ w ∈ (cdT_202.filter (fun e => Nat.beq (lkk 202 e.2) 2)).map (fun e => lkW 202 e.2), w ∈ nw := gr_of [] rfl
set_option maxRecDepth 100000 in
theorem mw_202 : ∀ w ∈ cdW 202 :: mwL 202, w ∈ bw := gr_of [1231, 1232, 1233, 104] rfl
theorem ck_203 : cdT_203.all (chkE 203) = true := by decide +kernel
set_option maxRecDepth 100000 in
theorem pl_203 : ∀ w ∈ (cdT_203.filter (fun e => Nat.beq (lkk 203 e.2) 1)).map (fun e => lkW 203 e.2), w ∈ bw := gr_of [459, 489, 489, 489, 451, 489, 449, 520, 490, 489] rfl
set_option maxRecDepth 100000 in
theorem ns_203 : ∀ w ∈ (cdT_203.filter (fun e => Nat.beq (lkk 203 e.2) 2)).map (fun e => lkW 203 e.2), w ∈ nw := gr_of [] rfl
set_option maxRecDepth 100000 in
theorem mw_203 : ∀ w ∈ cdW 203 :: mwL 203, w ∈ bw := gr_of [1234, 1235, 1236, 104] rfl
theorem ck_204 : cdT_204.all (chkE 204) = true := by decide +kernel
set_option maxRecDepth 100000 in
theorem pl_204 : ∀ w ∈ (cdT_204.filter (fun e => Nat.beq (lkk 204 e.2) 1)).map (fun e => lkW 204 e.2), w ∈ bw := gr_of [432] rfl
set_option maxRecDepth 100000 in
theorem ns_204 : ∀ w ∈ (cdT_204.filter (fun e => Nat.beq (lkk 204 e.2) 2)).map (fun e => lkW 204 e.2), w ∈ nw := gr_of [] rfl
set_option maxRecDepth 100000 in
theorem mw_204 : ∀ w ∈ cdW 204 :: mwL 204, w ∈ bw := gr_of [1237, 1238, 1239, 104] rfl
theorem ck_205 : cdT_205.all (chkE 205) = true := by decide +kernel
set_option maxRecDepth 100000 in
theorem pl_205 : ∀ w ∈ (cdT_205.filter (fun e => Nat.beq (lkk 205 e.2) 1)).map (fun e => lkW 205 e.2), w ∈ bw := gr_of [432] rfl
set_option maxRecDepth 100000 in
theorem ns_205 : ∀ w ∈ (cdT_205.filter (fun e => Nat.beq (lkk 205 e.2) 2)).map (fun e => lkW 205 e.2), w ∈ nw := gr_of [] rfl
set_option maxRecDepth 100000 in
theorem mw_205 : ∀ w ∈ cdW 205 :: mwL 205, w ∈ bw := gr_of [1240, 1241, 1242, 104] rfl
theorem ck_206 : cdT_206.all (chkE 206) = true := by decide +kernel
set_option maxRecDepth 100000 in
theorem pl_206 : ∀ w ∈ (cdT_206.filter (fun e => Nat.beq (lkk 206 e.2) 1)).map (fun e => lkW 206 e.2), w ∈ bw := gr_of [459, 470, 482, 432, 449, 432, 449, 449, 509, 449, 449, 521, 488, 490, 449, 522] rfl
set_option maxRecDepth 100000 in
theorem ns_206 : ∀ w ∈ (cdT_206.filter (fun e => Nat.beq (lkk 206 e.2) 2)).map (fun e => lkW 206 e.2), w ∈ nw := gr_of [] rfl
set_option maxRecDepth 100000 in
theorem mw_206 : ∀ w ∈ cdW 206 :: mwL 206, w ∈ bw := gr_of [1243, 1244, 1245, 104] rfl
theorem ck_207 : cdT_207.all (chkE 207) = true := by decide +kernel
set_option maxRecDepth 100000 in
theorem pl_207 : ∀ w ∈ (cdT_207.filter (fun e => Nat.beq (lkk 207 e.2) 1)).map (fun e => lkW 207 e.2), w ∈ bw := gr_of [432, 470] rfl
set_option maxRecDepth 100000 in
theorem ns_207 : ∀ w ∈ (cdT_207.filter (fun e => Nat.beq (lkk 207 e.2) 2)).map (fun e => lkW 207 e.2), w ∈ nw := gr_of [] rfl
set_option maxRecDepth 100000 in
theorem mw_207 : ∀ w ∈ cdW 207 :: mwL 207, w ∈ bw := gr_of [1246, 1247, 1248, 104] rfl
theorem ck_208 : cdT_208.all (chkE 208) = true := by decide +kernel
set_option maxRecDepth 100000 in
theorem pl_208 : ∀ w ∈ (cdT_208.filter (fun e => Nat.beq (lkk 208 e.2) 1)).map (fun e => lkW 208 e.2), w ∈ bw := gr_of [432, 470] rfl
set_option maxRecDepth 100000 in
theorem ns_208 : ∀ w ∈ (cdT_208.filter (fun e => Nat.beq (lkk 208 e.2) 2)).map (fun e => lkW 208 e.2), w ∈ nw := gr_of [] rfl
set_option maxRecDepth 100000 in
theorem mw_208 : ∀ w ∈ cdW 208 :: mwL 208, w ∈ bw := gr_of [1249, 1250, 1251, 104] rfl
theorem ck_209 : cdT_209.all (chkE 209) = true := by decide +kernel
set_option maxRecDepth 100000 in
theorem pl_209 : ∀ w ∈ (cdT_209.filter (fun e => Nat.beq (lkk 209 e.2) 1)).map (fun e => lkW 209 e.2), w ∈ bw := gr_of [432, 470] rfl
set_option maxRecDepth 100000 in
theorem ns_209 : ∀ w ∈ (cdT_209.filter (fun e => Nat.beq (lkk 209 e.2) 2)).map (fun e => lkW 209 e.2), w ∈ nw := gr_of [] rfl
set_option maxRecDepth 100000 in
theorem mw_209 : ∀ w ∈ cdW 209 :: mwL 209, w ∈ bw := gr_of [1252, 1253, 1254, 104] rfl
theorem ck_210 : cdT_210.all (chkE 210) = true := by decide +kernel
set_option maxRecDepth 100000 in
theorem pl_210 : ∀ w ∈ (cdT_210.filter (fun e => Nat.beq (lkk 210 e.2) 1)).map (fun e => lkW 210 e.2), w ∈ bw := gr_of [459, 523, 482, 470, 482, 434, 449, 511] rfl
set_option maxRecDepth 100000 in
theorem ns_210 : ∀ w ∈ (cdT_210.filter (fun e => Nat.beq (lkk 210 e.2) 2)).map (fun e => lkW 210 e.2), w ∈ nw := gr_of [] rfl
set_option maxRecDepth 100000 in
theorem mw_210 : ∀ w ∈ cdW 210 :: mwL 210, w ∈ bw := gr_of [1255, 1256, 1257, 104] rfl
theorem ck_211 : cdT_211.all (chkE 211) = true := by decide +kernel
set_option maxRecDepth 100000 in
theorem pl_211 : ∀ w ∈ (cdT_211.filter (fun e => Nat.beq (lkk 211 e.2) 1)).map (fun e => lkW 211 e.2), w ∈ bw := gr_of [459, 524, 482, 470, 482, 441, 449, 449, 449, 449, 449, 512] rfl
set_option maxRecDepth 100000 in
theorem ns_211 : ∀ w ∈ (cdT_211.filter (fun e => Nat.beq (lkk 211 e.2) 2)).map (fun e => lkW 211 e.2), w ∈ nw := gr_of [] rfl
set_option maxRecDepth 100000 in
theorem mw_211 : ∀ w ∈ cdW 211 :: mwL 211, w ∈ bw := gr_of [1258, 1259, 1260, 104] rfl
theorem ck_212 : cdT_212.all (chkE 212) = true := by decide +kernel
set_option maxRecDepth 100000 in
theorem pl_212 : ∀ w ∈ (cdT_212.filter (fun e => Nat.beq (lkk 212 e.2) 1)).map (fun e => lkW 212 e.2), w ∈ bw := gr_of [459, 432, 470, 482, 436] rfl
set_option maxRecDepth 100000 in
theorem ns_212 : ∀ w ∈ (cdT_212.filter (fun e => Nat.beq (lkk 212 e.2) 2)).map (fun e => lkW 212 e.2), w ∈ nw := gr_of [] rfl
set_option maxRecDepth 100000 in
theorem mw_212 : ∀ w ∈ cdW 212 :: mwL 212, w ∈ bw := gr_of [1261, 1262, 1263, 104] rfl
theorem ck_213 : cdT_213.all (chkE 213) = true := by decide +kernel
set_option maxRecDepth 100000 in
theorem pl_213 : ∀ w ∈ (cdT_213.filter (fun e => Nat.beq (lkk 213 e.2) 1)).map (fun e => lkW 213 e.2), w ∈ bw := gr_of [459, 470, 470, 470, 470, 470, 470, 470, 470, 482, 447, 447, 447, 447, 447, 447, 447, 447, 508] rfl
set_option maxRecDepth 100000 in
theorem ns_213 : ∀ w ∈ (cdT_213.filter (fun e => Nat.beq (lkk 213 e.2) 2)).map (fun e => lkW 213 e.2), w ∈ nw := gr_of [] rfl
set_option maxRecDepth 100000 in
theorem mw_213 : ∀ w ∈ cdW 213 :: mwL 213, w ∈ bw := gr_of [1264, 1265, 1266, 104] rfl
theorem ck_214 : cdT_214.all (chkE 214) = true := by decide +kernel
set_option maxRecDepth 100000 in
theorem pl_214 : ∀ w ∈ (cdT_214.filter (fun e => Nat.beq (lkk 214 e.2) 1)).map (fun e => lkW 214 e.2), w ∈ bw := gr_of [459, 524, 523, 482, 449, 513] rfl
set_option maxRecDepth 100000 in
theorem ns_214 : ∀ w ∈ (cdT_214.filter (fun e => Nat.beq (lkk 214 e.2) 2)).map (fun e => lkW 214 e.2), w ∈ nw := gr_of [] rfl
set_option maxRecDepth 100000 in
theorem mw_214 : ∀ w ∈ cdW 214 :: mwL 214, w ∈ bw := gr_of [1267, 1268, 1269, 104] rfl
theorem ck_215 : cdT_215.all (chkE 215) = true := by decide +kernel
set_option maxRecDepth 100000 in
theorem pl_215 : ∀ w ∈ (cdT_215.filter (fun e => Nat.beq (lkk 215 e.2) 1)).map (fun e => lkW 215 e.2), w ∈ bw := gr_of [459, 470, 470, 482, 449, 450, 520, 450, 515, 450, 522, 450, 521] rfl
set_option maxRecDepth 100000 in
theorem ns_215 : ∀ w ∈ (cdT_215.filter (fun e => Nat.beq (lkk 215 e.2) 2)).map (fun e => lkW 215 e.2), w ∈ nw := gr_of [] rfl
set_option maxRecDepth 100000 in
theorem mw_215 : ∀ w ∈ cdW 215 :: mwL 215, w ∈ bw := gr_of [1270, 1271, 1272, 104] rfl
theorem ck_216 : cdT_216.all (chkE 216) = true := by decide +kernel
set_option maxRecDepth 100000 in
theorem pl_216 : ∀ w ∈ (cdT_216.filter (fun e => Nat.beq (lkk 216 e.2) 1)).map (fun e => lkW 216 e.2), w ∈ bw := gr_of [459, 524, 482, 449, 450, 520, 450, 450, 515] rfl
set_option maxRecDepth 100000 in
theorem ns_216 : ∀ w ∈ (cdT_216.filter (fun e => Nat.beq (lkk 216 e.2) 2)).map (fun e => lkW 216 e.2), w ∈ nw := gr_of [] rfl
set_option maxRecDepth 100000 in
theorem mw_216 : ∀ w ∈ cdW 216 :: mwL 216, w ∈ bw := gr_of [1273, 1274, 1275, 104] rfl
theorem ck_217 : cdT_217.all (chkE 217) = true := by decide +kernel
set_option maxRecDepth 100000 in
theorem pl_217 : ∀ w ∈ (cdT_217.filter (fun e => Nat.beq (lkk 217 e.2) 1)).map (fun e => lkW 217 e.2), w ∈ bw := gr_of [449, 449, 449, 509, 449, 510, 501] rfl
set_option maxRecDepth 100000 in
theorem ns_217 : ∀ w ∈ (cdT_217.filter (fun e => Nat.beq (lkk 217 e.2) 2)).map (fun e => lkW 217 e.2), w ∈ nw := gr_of [] rfl
set_option maxRecDepth 100000 in
theorem mw_217 : ∀ w ∈ cdW 217 :: mwL 217, w ∈ bw := gr_of [1276, 1277, 1278, 104] rfl
theorem ck_218 : cdT_218.all (chkE 218) = true := by decide +kernel
set_option maxRecDepth 100000 in
theorem pl_218 : ∀ w ∈ (cdT_218.filter (fun e => Nat.beq (lkk 218 e.2) 1)).map (fun e => lkW 218 e.2), w ∈ bw := gr_of [455, 525, 432, 525, 454, 453, 441, 432, 507, 441, 453, 526, 527, 453, 527] rfl
set_option maxRecDepth 100000 in
theorem ns_218 : ∀ w ∈ (cdT_218.filter (fun e => Nat.beq (lkk 218 e.2) 2)).map (fun e => lkW 218 e.2), w ∈ nw := gr_of [] rfl
set_option maxRecDepth 100000 in
theorem mw_218 : ∀ w ∈ cdW 218 :: mwL 218, w ∈ bw := gr_of [1279, 1280, 1281, 104] rfl
theorem ck_219 : cdT_219.all (chkE 219) = true := by decide +kernel
set_option maxRecDepth 100000 in
theorem pl_219 : ∀ w ∈ (cdT_219.filter (fun e => Nat.beq (lkk 219 e.2) 1)).map (fun e => lkW 219 e.2), w ∈ bw := gr_of [525, 455, 432, 432, 441, 432, 507, 526, 502, 455, 455, 527] rfl
set_option maxRecDepth 100000 in
theorem ns_219 : ∀ w ∈ (cdT_219.filter (fun e => Nat.beq (lkk 219 e.2) 2)).map (fun e => lkW 219 e.2), w ∈ nw := gr_of [] rfl
set_option maxRecDepth 100000 in
theorem mw_219 : ∀ w ∈ cdW 219 :: mwL 219, w ∈ bw := gr_of [1282, 1283, 1284, 104] rfl
theorem ck_220 : cdT_220.all (chkE 220) = true := by decide +kernel
set_option maxRecDepth 100000 in
theorem pl_220 : ∀ w ∈ (cdT_220.filter (fun e => Nat.beq (lkk 220 e.2) 1)).map (fun e => lkW 220 e.2), w ∈ bw := gr_of [459, 528, 482, 529, 525] rfl
set_option maxRecDepth 100000 in
theorem ns_220 : ∀ w ∈ (cdT_220.filter (fun e => Nat.beq (lkk 220 e.2) 2)).map (fun e => lkW 220 e.2), w ∈ nw := gr_of [] rfl
set_option maxRecDepth 100000 in
theorem mw_220 : ∀ w ∈ cdW 220 :: mwL 220, w ∈ bw := gr_of [1285, 1286, 1287, 104] rfl
theorem ck_221 : cdT_221.all (chkE 221) = true := by decide +kernel
set_option maxRecDepth 100000 in
theorem pl_221 : ∀ w ∈ (cdT_221.filter (fun e => Nat.beq (lkk 221 e.2) 1)).map (fun e => lkW 221 e.2), w ∈ bw := gr_of [459, 524, 482, 528, 482, 529, 454] rfl
set_option maxRecDepth 100000 in
theorem ns_221 : ∀ w ∈ (cdT_221.filter (fun e => Nat.beq (lkk 221 e.2) 2)).map (fun e => lkW 221 e.2), w ∈ nw := gr_of [] rfl
set_option maxRecDepth 100000 in
theorem mw_221 : ∀ w ∈ cdW 221 :: mwL 221, w ∈ bw := gr_of [1288, 1289, 1290, 104] rfl
theorem ck_222 : cdT_222.all (chkE 222) = true := by decide +kernel
set_option maxRecDepth 100000 in
theorem pl_222 : ∀ w ∈ (cdT_222.filter (fun e => Nat.beq (lkk 222 e.2) 1)).map (fun e => lkW 222 e.2), w ∈ bw := gr_of [449, 449, 449, 449, 449, 449, 509, 449, 449, 449, 510, 501] rfl
set_option maxRecDepth 100000 in
theorem ns_222 : ∀ w ∈ (cdT_222.filter (fun e => Nat.beq (lkk 222 e.2) 2)).map (fun e => lkW 222 e.2), w ∈ nw := gr_of [] rfl
set_option maxRecDepth 100000 in
theorem mw_222 : ∀ w ∈ cdW 222 :: mwL 222, w ∈ bw := gr_of [1291, 1292, 1293, 104] rfl
theorem ck_223 : cdT_223.all (chkE 223) = true := by decide +kernel
set_option maxRecDepth 100000 in
theorem pl_223 : ∀ w ∈ (cdT_223.filter (fun e => Nat.beq (lkk 223 e.2) 1)).map (fun e => lkW 223 e.2), w ∈ bw := gr_of [456, 432, 432, 530, 456, 530, 456, 502, 456] rfl
set_option maxRecDepth 100000 in
theorem ns_223 : ∀ w ∈ (cdT_223.filter (fun e => Nat.beq (lkk 223 e.2) 2)).map (fun e => lkW 223 e.2), w ∈ nw := gr_of [] rfl
set_option maxRecDepth 100000 in
theorem mw_223 : ∀ w ∈ cdW 223 :: mwL 223, w ∈ bw := gr_of [1294, 1295, 1296, 104] rfl
theorem ck_224 : cdT_224.all (chkE 224) = true := by decide +kernel
set_option maxRecDepth 100000 in
theorem pl_224 : ∀ w ∈ (cdT_224.filter (fun e => Nat.beq (lkk 224 e.2) 1)).map (fun e => lkW 224 e.2), w ∈ bw := gr_of [459, 470, 482, 531, 456] rfl
set_option maxRecDepth 100000 in
theorem ns_224 : ∀ w ∈ (cdT_224.filter (fun e => Nat.beq (lkk 224 e.2) 2)).map (fun e => lkW 224 e.2), w ∈ nw := gr_of [] rfl
set_option maxRecDepth 100000 in
theorem mw_224 : ∀ w ∈ cdW 224 :: mwL 224, w ∈ bw := gr_of [1297, 1298, 1299, 104] rfl
theorem ck_225 : cdT_225.all (chkE 225) = true := by decide +kernel
set_option maxRecDepth 100000 in
theorem pl_225 : ∀ w ∈ (cdT_225.filter (fun e => Nat.beq (lkk 225 e.2) 1)).map (fun e => lkW 225 e.2), w ∈ bw := gr_of [459, 524, 482, 470, 482, 531, 456, 530, 456, 530, 456, 456] rfl
set_option maxRecDepth 100000 in
theorem ns_225 : ∀ w ∈ (cdT_225.filter (fun e => Nat.beq (lkk 225 e.2) 2)).map (fun e => lkW 225 e.2), w ∈ nw := gr_of [] rfl
set_option maxRecDepth 100000 in
theorem mw_225 : ∀ w ∈ cdW 225 :: mwL 225, w ∈ bw := gr_of [1300, 1301, 1302, 104] rfl
theorem ck_226 : cdT_226.all (chkE 226) = true := by decide +kernel
set_option maxRecDepth 100000 in
theorem pl_226 : ∀ w ∈ (cdT_226.filter (fun e => Nat.beq (lkk 226 e.2) 1)).map (fun e => lkW 226 e.2), w ∈ bw := gr_of [510, 502, 510, 502, 532, 532] rfl
set_option maxRecDepth 100000 in
theorem ns_226 : ∀ w ∈ (cdT_226.filter (fun e => Nat.beq (lkk 226 e.2) 2)).map (fun e => lkW 226 e.2), w ∈ nw := gr_of [] rfl
set_option maxRecDepth 100000 in
theorem mw_226 : ∀ w ∈ cdW 226 :: mwL 226, w ∈ bw := gr_of [1303, 1304, 1305, 104] rfl
theorem ck_227 : cdT_227.all (chkE 227) = true := by decide +kernel
set_option maxRecDepth 100000 in
theorem pl_227 : ∀ w ∈ (cdT_227.filter (fun e => Nat.beq (lkk 227 e.2) 1)).map (fun e => lkW 227 e.2), w ∈ bw := gr_of [459, 524, 482, 470, 470, 470, 470, 482, 449, 449, 449, 449, 449, 449, 449, 532] rfl
set_option maxRecDepth 100000 in
theorem ns_227 : ∀ w ∈ (cdT_227.filter (fun e => Nat.beq (lkk 227 e.2) 2)).map (fun e => lkW 227 e.2), w ∈ nw := gr_of [] rfl
set_option maxRecDepth 100000 in
theorem mw_227 : ∀ w ∈ cdW 227 :: mwL 227, w ∈ bw := gr_of [1306, 1307, 1308, 104] rfl
theorem ck_228 : cdT_228.all (chkE 228) = true := by decide +kernel
set_option maxRecDepth 100000 in
theorem pl_228 : ∀ w ∈ (cdT_228.filter (fun e => Nat.beq (lkk 228 e.2) 1)).map (fun e => lkW 228 e.2), w ∈ bw := gr_of [432, 507, 436, 488, 444, 507, 444] rfl
set_option maxRecDepth 100000 in
theorem ns_228 : ∀ w ∈ (cdT_228.filter (fun e => Nat.beq (lkk 228 e.2) 2)).map (fun e => lkW 228 e.2), w ∈ nw := gr_of [] rfl
set_option maxRecDepth 100000 in
theorem mw_228 : ∀ w ∈ cdW 228 :: mwL 228, w ∈ bw := gr_of [1309, 1310, 1311, 104] rfl
theorem ck_229 : cdT_229.all (chkE 229) = true := by decide +kernel
set_option maxRecDepth 100000 in
theorem pl_229 : ∀ w ∈ (cdT_229.filter (fun e => Nat.beq (lkk 229 e.2) 1)).map (fun e => lkW 229 e.2), w ∈ bw := gr_of [459, 470, 470, 482, 432, 432, 533, 432] rfl
set_option maxRecDepth 100000 in
theorem ns_229 : ∀ w ∈ (cdT_229.filter (fun e => Nat.beq (lkk 229 e.2) 2)).map (fun e => lkW 229 e.2), w ∈ nw := gr_of [] rfl
set_option maxRecDepth 100000 in
theorem mw_229 : ∀ w ∈ cdW 229 :: mwL 229, w ∈ bw := gr_of [1312, 1313, 1314, 104] rfl
theorem ck_230 : cdT_230.all (chkE 230) = true := by decide +kernel
set_option maxRecDepth 100000 in
theorem pl_230 : ∀ w ∈ (cdT_230.filter (fun e => Nat.beq (lkk 230 e.2) 1)).map (fun e => lkW 230 e.2), w ∈ bw := gr_of [488, 444] rfl
set_option maxRecDepth 100000 in
theorem ns_230 : ∀ w ∈ (cdT_230.filter (fun e => Nat.beq (lkk 230 e.2) 2)).map (fun e => lkW 230 e.2), w ∈ nw := gr_of [] rfl
set_option maxRecDepth 100000 in
theorem mw_230 : ∀ w ∈ cdW 230 :: mwL 230, w ∈ bw := gr_of [1315, 1316, 1317, 104] rfl
theorem ck_231 : cdT_231.all (chkE 231) = true := by decide +kernel
set_option maxRecDepth 100000 in
theorem pl_231 : ∀ w ∈ (cdT_231.filter (fun e => Nat.beq (lkk 231 e.2) 1)).map (fun e => lkW 231 e.2), w ∈ bw := gr_of [459, 470, 470, 482, 432, 534, 432, 533, 507, 502] rfl
set_option maxRecDepth 100000 in
theorem ns_231 : ∀ w ∈ (cdT_231.filter (fun e => Nat.beq (lkk 231 e.2) 2)).map (fun e => lkW 231 e.2), w ∈ nw := gr_of [] rfl
set_option maxRecDepth 100000 in
theorem mw_231 : ∀ w ∈ cdW 231 :: mwL 231, w ∈ bw := gr_of [1318, 1319, 1320, 104] rfl
theorem ck_232 : cdT_232.all (chkE 232) = true := by decide +kernel
set_option maxRecDepth 100000 in
theorem pl_232 : ∀ w ∈ (cdT_232.filter (fun e => Nat.beq (lkk 232 e.2) 1)).map (fun e => lkW 232 e.2), w ∈ bw := gr_of [] rfl
set_option maxRecDepth 100000 in
theorem ns_232 : ∀ w ∈ (cdT_232.filter (fun e => Nat.beq (lkk 232 e.2) 2)).map (fun e => lkW 232 e.2), w ∈ nw := gr_of [] rfl
set_option maxRecDepth 100000 in
theorem mw_232 : ∀ w ∈ cdW 232 :: mwL 232, w ∈ bw := gr_of [1321, 1322, 104] rfl
theorem ck_233 : cdT_233.all (chkE 233) = true := by decide +kernel
set_option maxRecDepth 100000 in
theorem pl_233 : ∀ w ∈ (cdT_233.filter (fun e => Nat.beq (lkk 233 e.2) 1)).map (fun e => lkW 233 e.2), w ∈ bw := gr_of [] rfl
set_option maxRecDepth 100000 in
theorem ns_233 : ∀ w ∈ (cdT_233.filter (fun e => Nat.beq (lkk 233 e.2) 2)).map (fun e => lkW 233 e.2), w ∈ nw := gr_of [] rfl
set_option maxRecDepth 100000 in
theorem mw_233 : ∀ w ∈ cdW 233 :: mwL 233, w ∈ bw := gr_of [1323, 1324, 104] rfl
theorem ck_234 : cdT_234.all (chkE 234) = true := by decide +kernel
set_option maxRecDepth 100000 in
theorem pl_234 : ∀ w ∈ (cdT_234.filter (fun e => Nat.beq (lkk 234 e.2) 1)).map (fun e => lkW 234 e.2), w ∈ bw := gr_of [432, 432, 507, 535, 432] rfl
set_option maxRecDepth 100000 in
theorem ns_234 : ∀ w ∈ (cdT_234.filter (fun e => Nat.beq (lkk 234 e.2) 2)).map (fun e => lkW 234 e.2), w ∈ nw := gr_of [] rfl
set_option maxRecDepth 100000 in
theorem mw_234 : ∀ w ∈ cdW 234 :: mwL 234, w ∈ bw := gr_of [1325, 1326, 1327, 104] rfl
theorem ck_235 : cdT_235.all (chkE 235) = true := by decide +kernel
set_option maxRecDepth 100000 in
theorem pl_235 : ∀ w ∈ (cdT_235.filter (fun e => Nat.beq (lkk 235 e.2) 1)).map (fun e => lkW 235 e.2), w ∈ bw := gr_of [432, 449, 511] rfl
set_option maxRecDepth 100000 in
theorem ns_235 : ∀ w ∈ (cdT_235.filter (fun e => Nat.beq (lkk 235 e.2) 2)).map (fun e => lkW 235 e.2), w ∈ nw := gr_of [] rfl
set_option maxRecDepth 100000 in
theorem mw_235 : ∀ w ∈ cdW 235 :: mwL 235, w ∈ bw := gr_of [1328, 1329, 1330, 104] rfl
theorem ck_236 : cdT_236.all (chkE 236) = true := by decide +kernel
set_option maxRecDepth 100000 in
theorem pl_236 : ∀ w ∈ (cdT_236.filter (fun e => Nat.beq (lkk 236 e.2) 1)).map (fun e => lkW 236 e.2), w ∈ bw := gr_of [459, 432, 536, 536, 537, 538] rfl
set_option maxRecDepth 100000 in
theorem ns_236 : ∀ w ∈ (cdT_236.filter (fun e => Nat.beq (lkk 236 e.2) 2)).map (fun e => lkW 236 e.2), w ∈ nw := gr_of [] rfl
set_option maxRecDepth 100000 in
theorem mw_236 : ∀ w ∈ cdW 236 :: mwL 236, w ∈ bw := gr_of [1331, 1332, 1333, 104] rfl
theorem ck_237 : cdT_237.all (chkE 237) = true := by decide +kernel
set_option maxRecDepth 100000 in
theorem pl_237 : ∀ w ∈ (cdT_237.filter (fun e => Nat.beq (lkk 237 e.2) 1)).map (fun e => lkW 237 e.2), w ∈ bw := gr_of [459, 432, 470, 482, 538] rfl
set_option maxRecDepth 100000 in
theorem ns_237 : ∀ w ∈ (cdT_237.filter (fun e => Nat.beq (lkk 237 e.2) 2)).map (fun e => lkW 237 e.2), w ∈ nw := gr_of [] rfl
set_option maxRecDepth 100000 in
theorem mw_237 : ∀ w ∈ cdW 237 :: mwL 237, w ∈ bw := gr_of [1334, 1335, 1336, 104] rfl
theorem ck_238 : cdT_238.all (chkE 238) = true := by decide +kernel
set_option maxRecDepth 100000 in
theorem pl_238 : ∀ w ∈ (cdT_238.filter (fun e => Nat.beq (lkk 238 e.2) 1)).map (fun e => lkW 238 e.2), w ∈ bw := gr_of [535, 432, 449, 449, 511] rfl
set_option maxRecDepth 100000 in
theorem ns_238 : ∀ w ∈ (cdT_238.filter (fun e => Nat.beq (lkk 238 e.2) 2)).map (fun e => lkW 238 e.2), w ∈ nw := gr_of [] rfl
set_option maxRecDepth 100000 in
theorem mw_238 : ∀ w ∈ cdW 238 :: mwL 238, w ∈ bw := gr_of [1337, 1338, 1339, 104] rfl
theorem ck_239 : cdT_239.all (chkE 239) = true := by decide +kernel
set_option maxRecDepth 100000 in
theorem pl_239 : ∀ w ∈ (cdT_239.filter (fun e => Nat.beq (lkk 239 e.2) 1)).map (fun e => lkW 239 e.2), w ∈ bw := gr_of [432, 449, 511, 539, 539, 539, 539] rfl
set_option maxRecDepth 100000 in
theorem ns_239 : ∀ w ∈ (cdT_239.filter (fun e => Nat.beq (lkk 239 e.2) 2)).map (fun e => lkW 239 e.2), w ∈ nw := gr_of [] rfl
set_option maxRecDepth 100000 in
theorem mw_239 : ∀ w ∈ cdW 239 :: mwL 239, w ∈ bw := gr_of [1340, 1341, 1342, 104] rfl
theorem ck_240 : cdT_240.all (chkE 240) = true := by decide +kernel
set_option maxRecDepth 100000 in
theorem pl_240 : ∀ w ∈ (cdT_240.filter (fun e => Nat.beq (lkk 240 e.2) 1)).map (fun e => lkW 240 e.2), w ∈ bw := gr_of [459, 470, 482, 432, 432, 449, 511, 540, 539] rfl
set_option maxRecDepth 100000 in
theorem ns_240 : ∀ w ∈ (cdT_240.filter (fun e => Nat.beq (lkk 240 e.2) 2)).map (fun e => lkW 240 e.2), w ∈ nw := gr_of [] rfl
set_option maxRecDepth 100000 in
theorem mw_240 : ∀ w ∈ cdW 240 :: mwL 240, w ∈ bw := gr_of [1343, 1344, 1345, 104] rfl
theorem ck_241 : cdT_241.all (chkE 241) = true := by decide +kernel
set_option maxRecDepth 100000 in
theorem pl_241 : ∀ w ∈ (cdT_241.filter (fun e => Nat.beq (lkk 241 e.2) 1)).map (fun e => lkW 241 e.2), w ∈ bw := gr_of [459, 524, 482, 528, 470, 482, 507, 432, 507, 441, 432, 507, 441, 441, 441, 441] rfl
set_option maxRecDepth 100000 in
theorem ns_241 : ∀ w ∈ (cdT_241.filter (fun e => Nat.beq (lkk 241 e.2) 2)).map (fun e => lkW 241 e.2), w ∈ nw := gr_of [] rfl
set_option maxRecDepth 100000 in
theorem mw_241 : ∀ w ∈ cdW 241 :: mwL 241, w ∈ bw := gr_of [1346, 1347, 1348, 104] rfl
theorem ck_242 : cdT_242.all (chkE 242) = true := by decide +kernel
set_option maxRecDepth 100000 in
theorem pl_242 : ∀ w ∈ (cdT_242.filter (fun e => Nat.beq (lkk 242 e.2) 1)).map (fun e => lkW 242 e.2), w ∈ bw := gr_of [459, 470, 482, 432, 449, 511] rfl
set_option maxRecDepth 100000 in
theorem ns_242 : ∀ w ∈ (cdT_242.filter (fun e => Nat.beq (lkk 242 e.2) 2)).map (fun e => lkW 242 e.2), w ∈ nw := gr_of [] rfl
set_option maxRecDepth 100000 in
theorem mw_242 : ∀ w ∈ cdW 242 :: mwL 242, w ∈ bw := gr_of [1349, 1350, 1351, 104] rfl
theorem ck_243 : cdT_243.all (chkE 243) = true := by decide +kernel
set_option maxRecDepth 100000 in
theorem pl_243 : ∀ w ∈ (cdT_243.filter (fun e => Nat.beq (lkk 243 e.2) 1)).map (fun e => lkW 243 e.2), w ∈ bw := gr_of [459, 470, 470, 482, 432, 434, 449, 511] rfl
set_option maxRecDepth 100000 in
theorem ns_243 : ∀ w ∈ (cdT_243.filter (fun e => Nat.beq (lkk 243 e.2) 2)).map (fun e => lkW 243 e.2), w ∈ nw := gr_of [] rfl
set_option maxRecDepth 100000 in
theorem mw_243 : ∀ w ∈ cdW 243 :: mwL 243, w ∈ bw := gr_of [1352, 1353, 1354, 104] rfl
theorem ck_244 : cdT_244.all (chkE 244) = true := by decide +kernel
set_option maxRecDepth 100000 in
theorem pl_244 : ∀ w ∈ (cdT_244.filter (fun e => Nat.beq (lkk 244 e.2) 1)).map (fun e => lkW 244 e.2), w ∈ bw := gr_of [459, 470, 482, 449, 450, 520, 432, 450, 441, 450, 515] rfl
set_option maxRecDepth 100000 in
theorem ns_244 : ∀ w ∈ (cdT_244.filter (fun e => Nat.beq (lkk 244 e.2) 2)).map (fun e => lkW 244 e.2), w ∈ nw := gr_of [] rfl
set_option maxRecDepth 100000 in
theorem mw_244 : ∀ w ∈ cdW 244 :: mwL 244, w ∈ bw := gr_of [1355, 1356, 1357, 104] rfl
theorem ck_245 : cdT_245.all (chkE 245) = true := by decide +kernel
set_option maxRecDepth 100000 in
theorem pl_245 : ∀ w ∈ (cdT_245.filter (fun e => Nat.beq (lkk 245 e.2) 1)).map (fun e => lkW 245 e.2), w ∈ bw := gr_of [459, 432, 449, 449] rfl
set_option maxRecDepth 100000 in
theorem ns_245 : ∀ w ∈ (cdT_245.filter (fun e => Nat.beq (lkk 245 e.2) 2)).map (fun e => lkW 245 e.2), w ∈ nw := gr_of [] rfl
set_option maxRecDepth 100000 in
theorem mw_245 : ∀ w ∈ cdW 245 :: mwL 245, w ∈ bw := gr_of [1358, 1359, 1360, 104] rfl
theorem ck_246 : cdT_246.all (chkE 246) = true := by decide +kernel
set_option maxRecDepth 100000 in
theorem pl_246 : ∀ w ∈ (cdT_246.filter (fun e => Nat.beq (lkk 246 e.2) 1)).map (fun e => lkW 246 e.2), w ∈ bw := gr_of [459, 470, 482, 432, 449, 449, 449] rfl
set_option maxRecDepth 100000 in
theorem ns_246 : ∀ w ∈ (cdT_246.filter (fun e => Nat.beq (lkk 246 e.2) 2)).map (fun e => lkW 246 e.2), w ∈ nw := gr_of [] rfl
set_option maxRecDepth 100000 in
theorem mw_246 : ∀ w ∈ cdW 246 :: mwL 246, w ∈ bw := gr_of [1361, 1362, 1363, 104] rfl
theorem ck_247 : cdT_247.all (chkE 247) = true := by decide +kernel
set_option maxRecDepth 100000 in
theorem pl_247 : ∀ w ∈ (cdT_247.filter (fun e => Nat.beq (lkk 247 e.2) 1)).map (fun e => lkW 247 e.2), w ∈ bw := gr_of [459, 524, 482, 470, 482, 441, 432, 449, 449, 509, 449, 510] rfl
set_option maxRecDepth 100000 in
theorem ns_247 : ∀ w ∈ (cdT_247.filter (fun e => Nat.beq (lkk 247 e.2) 2)).map (fun e => lkW 247 e.2), w ∈ nw := gr_of [] rfl
set_option maxRecDepth 100000 in
theorem mw_247 : ∀ w ∈ cdW 247 :: mwL 247, w ∈ bw := gr_of [1364, 1365, 1366, 104] rfl
theorem ck_248 : cdT_248.all (chkE 248) = true := by decide +kernel
set_option maxRecDepth 100000 in
theorem pl_248 : ∀ w ∈ (cdT_248.filter (fun e => Nat.beq (lkk 248 e.2) 1)).map (fun e => lkW 248 e.2), w ∈ bw := gr_of [541, 542, 541, 541] rfl
set_option maxRecDepth 100000 in
theorem ns_248 : ∀ w ∈ (cdT_248.filter (fun e => Nat.beq (lkk 248 e.2) 2)).map (fun e => lkW 248 e.2), w ∈ nw := gr_of [] rfl
set_option maxRecDepth 100000 in
theorem mw_248 : ∀ w ∈ cdW 248 :: mwL 248, w ∈ bw := gr_of [1367, 1368, 1369, 104] rfl
theorem ck_249 : cdT_249.all (chkE 249) = true := by decide +kernel
set_option maxRecDepth 100000 in
theorem pl_249 : ∀ w ∈ (cdT_249.filter (fun e => Nat.beq (lkk 249 e.2) 1)).map (fun e => lkW 249 e.2), w ∈ bw := gr_of [449, 450, 520, 541, 543, 544, 545, 450, 545, 544, 544, 545, 432, 543, 450, 432, 545, 514, 543, 450, 515] rfl
set_option maxRecDepth 100000 in
theorem ns_249 : ∀ w ∈ (cdT_249.filter (fun e => Nat.beq (lkk 249 e.2) 2)).map (fun e => lkW 249 e.2), w ∈ nw := gr_of [] rfl
set_option maxRecDepth 100000 in
theorem mw_249 : ∀ w ∈ cdW 249 :: mwL 249, w ∈ bw := gr_of [1370, 1371, 1372, 104] rfl
theorem ck_250 : cdT_250.all (chkE 250) = true := by decide +kernel
set_option maxRecDepth 100000 in
theorem pl_250 : ∀ w ∈ (cdT_250.filter (fun e => Nat.beq (lkk 250 e.2) 1)).map (fun e => lkW 250 e.2), w ∈ bw := gr_of [470, 470, 470] rfl
set_option maxRecDepth 100000 in
theorem ns_250 : ∀ w ∈ (cdT_250.filter (fun e => Nat.beq (lkk 250 e.2) 2)).map (fun e => lkW 250 e.2), w ∈ nw := gr_of [] rfl
set_option maxRecDepth 100000 in
theorem mw_250 : ∀ w ∈ cdW 250 :: mwL 250, w ∈ bw := gr_of [1373, 1374, 104] rfl
theorem ck_251 : cdT_251.all (chkE 251) = true := by decide +kernel
set_option maxRecDepth 100000 in
theorem pl_251 : ∀ w ∈ (cdT_251.filter (fun e => Nat.beq (lkk 251 e.2) 1)).map (fun e => lkW 251 e.2), w ∈ bw := gr_of [459, 546, 470, 482, 547, 450, 522, 450, 521, 543, 544] rfl
set_option maxRecDepth 100000 in
theorem ns_251 : ∀ w ∈ (cdT_251.filter (fun e => Nat.beq (lkk 251 e.2) 2)).map (fun e => lkW 251 e.2), w ∈ nw := gr_of [] rfl
set_option maxRecDepth 100000 in
theorem mw_251 : ∀ w ∈ cdW 251 :: mwL 251, w ∈ bw := gr_of [1375, 1376, 1377, 104] rfl
theorem ck_252 : cdT_252.all (chkE 252) = true := by decide +kernel
set_option maxRecDepth 100000 in
theorem pl_252 : ∀ w ∈ (cdT_252.filter (fun e => Nat.beq (lkk 252 e.2) 1)).map (fun e => lkW 252 e.2), w ∈ bw := gr_of [459, 470, 546, 470, 524, 482, 547, 450, 522, 501, 502, 450] rfl
set_option maxRecDepth 100000 in
theorem ns_252 : ∀ w ∈ (cdT_252.filter (fun e => Nat.beq (lkk 252 e.2) 2)).map (fun e => lkW 252 e.2), w ∈ nw := gr_of [] rfl
set_option maxRecDepth 100000 in
theorem mw_252 : ∀ w ∈ cdW 252 :: mwL 252, w ∈ bw := gr_of [1378, 1379, 1380, 104] rfl
theorem ck_253 : cdT_253.all (chkE 253) = true := by decide +kernel
set_option maxRecDepth 100000 in
theorem pl_253 : ∀ w ∈ (cdT_253.filter (fun e => Nat.beq (lkk 253 e.2) 1)).map (fun e => lkW 253 e.2), w ∈ bw := gr_of [548, 548, 548, 548] rfl
set_option maxRecDepth 100000 in
theorem ns_253 : ∀ w ∈ (cdT_253.filter (fun e => Nat.beq (lkk 253 e.2) 2)).map (fun e => lkW 253 e.2), w ∈ nw := gr_of [] rfl
set_option maxRecDepth 100000 in
theorem mw_253 : ∀ w ∈ cdW 253 :: mwL 253, w ∈ bw := gr_of [1381, 1382, 1383, 104] rfl
theorem ck_254 : cdT_254.all (chkE 254) = true := by decide +kernel
set_option maxRecDepth 100000 in
theorem pl_254 : ∀ w ∈ (cdT_254.filter (fun e => Nat.beq (lkk 254 e.2) 1)).map (fun e => lkW 254 e.2), w ∈ bw := gr_of [548, 489, 549, 489, 449, 449, 549, 451, 451, 549] rfl
set_option maxRecDepth 100000 in
theorem ns_254 : ∀ w ∈ (cdT_254.filter (fun e => Nat.beq (lkk 254 e.2) 2)).map (fun e => lkW 254 e.2), w ∈ nw := gr_of [] rfl
set_option maxRecDepth 100000 in
theorem mw_254 : ∀ w ∈ cdW 254 :: mwL 254, w ∈ bw := gr_of [1384, 1385, 1386, 104] rfl
theorem ck_255 : cdT_255.all (chkE 255) = true := by decide +kernel
set_option maxRecDepth 100000 in
theorem pl_255 : ∀ w ∈ (cdT_255.filter (fun e => Nat.beq (lkk 255 e.2) 1)).map (fun e => lkW 255 e.2), w ∈ bw := gr_of [459, 491, 452, 491, 550, 491, 491, 491] rfl
set_option maxRecDepth 100000 in
theorem ns_255 : ∀ w ∈ (cdT_255.filter (fun e => Nat.beq (lkk 255 e.2) 2)).map (fun e => lkW 255 e.2), w ∈ nw := gr_of [] rfl
set_option maxRecDepth 100000 in
theorem mw_255 : ∀ w ∈ cdW 255 :: mwL 255, w ∈ bw := gr_of [1387, 1388, 1389, 104] rfl
theorem ck_256 : cdT_256.all (chkE 256) = true := by decide +kernel
set_option maxRecDepth 100000 in
theorem pl_256 : ∀ w ∈ (cdT_256.filter (fun e => Nat.beq (lkk 256 e.2) 1)).map (fun e => lkW 256 e.2), w ∈ bw := gr_of [459, 491, 491, 491, 452, 491, 550, 490, 491] rfl
set_option maxRecDepth 100000 in
theorem ns_256 : ∀ w ∈ (cdT_256.filter (fun e => Nat.beq (lkk 256 e.2) 2)).map (fun e => lkW 256 e.2), w ∈ nw := gr_of [] rfl
set_option maxRecDepth 100000 in
theorem mw_256 : ∀ w ∈ cdW 256 :: mwL 256, w ∈ bw := gr_of [1390, 1391, 1392, 104] rfl
theorem ck_257 : cdT_257.all (chkE 257) = true := by decide +kernel
set_option maxRecDepth 100000 in
theorem pl_257 : ∀ w ∈ (cdT_257.filter (fun e => Nat.beq (lkk 257 e.2) 1)).map (fun e => lkW 257 e.2), w ∈ bw := gr_of [459, 470, 430] rfl
set_option maxRecDepth 100000 in
theorem ns_257 : ∀ w ∈ (cdT_257.filter (fun e => Nat.beq (lkk 257 e.2) 2)).map (fun e => lkW 257 e.2), w ∈ nw := gr_of [] rfl
set_option maxRecDepth 100000 in
theorem mw_257 : ∀ w ∈ cdW 257 :: mwL 257, w ∈ bw := gr_of [1393, 1394, 1395, 104] rfl
theorem ck_258 : cdT_258.all (chkE 258) = true := by decide +kernel
set_option maxRecDepth 100000 in
theorem pl_258 : ∀ w ∈ (cdT_258.filter (fun e => Nat.beq (lkk 258 e.2) 1)).map (fun e => lkW 258 e.2), w ∈ bw := gr_of [459, 491, 460, 489] rfl
set_option maxRecDepth 100000 in
theorem ns_258 : ∀ w ∈ (cdT_258.filter (fun e => Nat.beq (lkk 258 e.2) 2)).map (fun e => lkW 258 e.2), w ∈ nw := gr_of [] rfl
set_option maxRecDepth 100000 in
theorem mw_258 : ∀ w ∈ cdW 258 :: mwL 258, w ∈ bw := gr_of [1396, 1397, 1398, 104] rfl
theorem ck_259 : cdT_259.all (chkE 259) = true := by decide +kernel
set_option maxRecDepth 100000 in
theorem pl_259 : ∀ w ∈ (cdT_259.filter (fun e => Nat.beq (lkk 259 e.2) 1)).map (fun e => lkW 259 e.2), w ∈ bw := gr_of [551] rfl
set_option maxRecDepth 100000 in
theorem ns_259 : ∀ w ∈ (cdT_259.filter (fun e => Nat.beq (lkk 259 e.2) 2)).map (fun e => lkW 259 e.2), w ∈ nw := gr_of [] rfl
set_option maxRecDepth 100000 in
theorem mw_259 : ∀ w ∈ cdW 259 :: mwL 259, w ∈ bw := gr_of [1399, 1401, 1400] rfl
theorem ck_260 : cdT_260.all (chkE 260) = true := by decide +kernel
set_option maxRecDepth 100000 in
theorem pl_260 : ∀ w ∈ (cdT_260.filter (fun e => Nat.beq (lkk 260 e.2) 1)).map (fun e => lkW 260 e.2), w ∈ bw := gr_of [552] rfl
set_option maxRecDepth 100000 in
theorem ns_260 : ∀ w ∈ (cdT_260.filter (fun e => Nat.beq (lkk 260 e.2) 2)).map (fun e => lkW 260 e.2), w ∈ nw := gr_of [] rfl
set_option maxRecDepth 100000 in
theorem mw_260 : ∀ w ∈ cdW 260 :: mwL 260, w ∈ bw := gr_of [1402, 1403, 1400] rfl
theorem ck_261 : cdT_261.all (chkE 261) = true := by decide +kernel
set_option maxRecDepth 100000 in
theorem pl_261 : ∀ w ∈ (cdT_261.filter (fun e => Nat.beq (lkk 261 e.2) 1)).map (fun e => lkW 261 e.2), w ∈ bw := gr_of [553] rfl
set_option maxRecDepth 100000 in
theorem ns_261 : ∀ w ∈ (cdT_261.filter (fun e => Nat.beq (lkk 261 e.2) 2)).map (fun e => lkW 261 e.2), w ∈ nw := gr_of [] rfl
set_option maxRecDepth 100000 in
theorem mw_261 : ∀ w ∈ cdW 261 :: mwL 261, w ∈ bw := gr_of [1404, 1405, 1400] rfl
theorem ck_262 : cdT_262.all (chkE 262) = true := by decide +kernel
set_option maxRecDepth 100000 in
theorem pl_262 : ∀ w ∈ (cdT_262.filter (fun e => Nat.beq (lkk 262 e.2) 1)).map (fun e => lkW 262 e.2), w ∈ bw := gr_of [554] rfl
set_option maxRecDepth 100000 in
theorem ns_262 : ∀ w ∈ (cdT_262.filter (fun e => Nat.beq (lkk 262 e.2) 2)).map (fun e => lkW 262 e.2), w ∈ nw := gr_of [] rfl
set_option maxRecDepth 100000 in
theorem mw_262 : ∀ w ∈ cdW 262 :: mwL 262, w ∈ bw := gr_of [1406, 1407, 1400] rfl
theorem ck_263 : cdT_263.all (chkE 263) = true := by decide +kernel
set_option maxRecDepth 100000 in
theorem pl_263 : ∀ w ∈ (cdT_263.filter (fun e => Nat.beq (lkk 263 e.2) 1)).map (fun e => lkW 263 e.2), w ∈ bw := gr_of [555] rfl
set_option maxRecDepth 100000 in
theorem ns_263 : ∀ w ∈ (cdT_263.filter (fun e => Nat.beq (lkk 263 e.2) 2)).map (fun e => lkW 263 e.2), w ∈ nw := gr_of [] rfl
set_option maxRecDepth 100000 in
theorem mw_263 : ∀ w ∈ cdW 263 :: mwL 263, w ∈ bw := gr_of [1408, 1409, 1400] rfl
theorem ck_264 : cdT_264.all (chkE 264) = true := by decide +kernel
set_option maxRecDepth 100000 in
theorem pl_264 : ∀ w ∈ (cdT_264.filter (fun e => Nat.beq (lkk 264 e.2) 1)).map (fun e => lkW 264 e.2), w ∈ bw := gr_of [556] rfl
set_option maxRecDepth 100000 in
theorem ns_264 : ∀ w ∈ (cdT_264.filter (fun e => Nat.beq (lkk 264 e.2) 2)).map (fun e => lkW 264 e.2), w ∈ nw := gr_of [] rfl
set_option maxRecDepth 100000 in
theorem mw_264 : ∀ w ∈ cdW 264 :: mwL 264, w ∈ bw := gr_of [1410, 1411, 1400] rfl
theorem ck_265 : cdT_265.all (chkE 265) = true := by decide +kernel
set_option maxRecDepth 100000 in
theorem pl_265 : ∀ w ∈ (cdT_265.filter (fun e => Nat.beq (lkk 265 e.2) 1)).map (fun e => lkW 265 e.2), w ∈ bw := gr_of [557] rfl
set_option maxRecDepth 100000 in
theorem ns_265 : ∀ w ∈ (cdT_265.filter (fun e => Nat.beq (lkk 265 e.2) 2)).map (fun e => lkW 265 e.2), w ∈ nw := gr_of [] rfl
set_option maxRecDepth 100000 in
theorem mw_265 : ∀ w ∈ cdW 265 :: mwL 265, w ∈ bw := gr_of [1412, 1413, 1400] rfl
theorem ck_266 : cdT_266.all (chkE 266) = true := by decide +kernel
set_option maxRecDepth 100000 in
theorem pl_266 : ∀ w ∈ (cdT_266.filter (fun e => Nat.beq (lkk 266 e.2) 1)).map (fun e => lkW 266 e.2), w ∈ bw := gr_of [558] rfl
set_option maxRecDepth 100000 in
theorem ns_266 : ∀ w ∈ (cdT_266.filter (fun e => Nat.beq (lkk 266 e.2) 2)).map (fun e => lkW 266 e.2), w ∈ nw := gr_of [] rfl
set_option maxRecDepth 100000 in
theorem mw_266 : ∀ w ∈ cdW 266 :: mwL 266, w ∈ bw := gr_of [1414, 1415, 1400] rfl
theorem ck_267 : cdT_267.all (chkE 267) = true := by decide +kernel
set_option maxRecDepth 100000 in
theorem pl_267 : ∀ w ∈ (cdT_267.filter (fun e => Nat.beq (lkk 267 e.2) 1)).map (fun e => lkW 267 e.2), w ∈ bw := gr_of [559] rfl
set_option maxRecDepth 100000 in
theorem ns_267 : ∀ w ∈ (cdT_267.filter (fun e => Nat.beq (lkk 267 e.2) 2)).map (fun e => lkW 267 e.2), w ∈ nw := gr_of [] rfl
set_option maxRecDepth 100000 in
theorem mw_267 : ∀ w ∈ cdW 267 :: mwL 267, w ∈ bw := gr_of [1416, 1417, 1400] rfl
theorem ck_268 : cdT_268.all (chkE 268) = true := by decide +kernel
set_option maxRecDepth 100000 in
theorem pl_268 : ∀ w ∈ (cdT_268.filter (fun e => Nat.beq (lkk 268 e.2) 1)).map (fun e => lkW 268 e.2), w ∈ bw := gr_of [560] rfl
set_option maxRecDepth 100000 in
theorem ns_268 : ∀ w ∈ (cdT_268.filter (fun e => Nat.beq (lkk 268 e.2) 2)).map (fun e => lkW 268 e.2), w ∈ nw := gr_of [] rfl
set_option maxRecDepth 100000 in
theorem mw_268 : ∀ w ∈ cdW 268 :: mwL 268, w ∈ bw := gr_of [1418, 1419, 1400] rfl
theorem ck_269 : cdT_269.all (chkE 269) = true := by decide +kernel
set_option maxRecDepth 100000 in
theorem pl_269 : ∀ w ∈ (cdT_269.filter (fun e => Nat.beq (lkk 269 e.2) 1)).map (fun e => lkW 269 e.2), w ∈ bw := gr_of [561] rfl
set_option maxRecDepth 100000 in
theorem ns_269 : ∀ w ∈ (cdT_269.filter (fun e => Nat.beq (lkk 269 e.2) 2)).map (fun e => lkW 269 e.2), w ∈ nw := gr_of [] rfl
set_option maxRecDepth 100000 in
theorem mw_269 : ∀ w ∈ cdW 269 :: mwL 269, w ∈ bw := gr_of [1420, 1421, 1400] rfl
theorem ck_270 : cdT_270.all (chkE 270) = true := by decide +kernel
set_option maxRecDepth 100000 in
theorem pl_270 : ∀ w ∈ (cdT_270.filter (fun e => Nat.beq (lkk 270 e.2) 1)).map (fun e => lkW 270 e.2), w ∈ bw := gr_of [562] rfl
set_option maxRecDepth 100000 in
theorem ns_270 : ∀ w ∈ (cdT_270.filter (fun e => Nat.beq (lkk 270 e.2) 2)).map (fun e => lkW 270 e.2), w ∈ nw := gr_of [] rfl
set_option maxRecDepth 100000 in
theorem mw_270 : ∀ w ∈ cdW 270 :: mwL 270, w ∈ bw := gr_of [1422, 1423, 1400] rfl
theorem ck_271 : cdT_271.all (chkE 271) = true := by decide +kernel
set_option maxRecDepth 100000 in
theorem pl_271 : ∀ w ∈ (cdT_271.filter (fun e => Nat.beq (lkk 271 e.2) 1)).map (fun e => lkW 271 e.2), w ∈ bw := gr_of [563] rfl
set_option maxRecDepth 100000 in
theorem ns_271 : ∀ w ∈ (cdT_271.filter (fun e => Nat.beq (lkk 271 e.2) 2)).map (fun e => lkW 271 e.2), w ∈ nw := gr_of [] rfl
set_option maxRecDepth 100000 in
theorem mw_271 : ∀ w ∈ cdW 271 :: mwL 271, w ∈ bw := gr_of [1424, 1425, 1400] rfl
theorem ck_272 : cdT_272.all (chkE 272) = true := by decide +kernel
set_option maxRecDepth 100000 in
theorem pl_272 : ∀ w ∈ (cdT_272.filter (fun e => Nat.beq (lkk 272 e.2) 1)).map (fun e => lkW 272 e.2), w ∈ bw := gr_of [564] rfl
set_option maxRecDepth 100000 in
theorem ns_272 : ∀ w ∈ (cdT_272.filter (fun e => Nat.beq (lkk 272 e.2) 2)).map (fun e => lkW 272 e.2), w ∈ nw := gr_of [] rfl
set_option maxRecDepth 100000 in
theorem mw_272 : ∀ w ∈ cdW 272 :: mwL 272, w ∈ bw := gr_of [1426, 1427, 1400] rfl
theorem ck_273 : cdT_273.all (chkE 273) = true := by decide +kernel
set_option maxRecDepth 100000 in
theorem pl_273 : ∀ w ∈ (cdT_273.filter (fun e => Nat.beq (lkk 273 e.2) 1)).map (fun e => lkW 273 e.2), w ∈ bw := gr_of [565] rfl
set_option maxRecDepth 100000 in
theorem ns_273 : ∀ w ∈ (cdT_273.filter (fun e => Nat.beq (lkk 273 e.2) 2)).map (fun e => lkW 273 e.2), w ∈ nw := gr_of [] rfl
set_option maxRecDepth 100000 in
theorem mw_273 : ∀ w ∈ cdW 273 :: mwL 273, w ∈ bw := gr_of [1428, 1429, 1400] rfl
theorem ck_274 : cdT_274.all (chkE 274) = true := by decide +kernel
set_option maxRecDepth 100000 in
theorem pl_274 : ∀ w ∈ (cdT_274.filter (fun e => Nat.beq (lkk 274 e.2) 1)).map (fun e => lkW 274 e.2), w ∈ bw := gr_of [566] rfl
set_option maxRecDepth 100000 in
theorem ns_274 : ∀ w ∈ (cdT_274.filter (fun e => Nat.beq (lkk 274 e.2) 2)).map (fun e => lkW 274 e.2), w ∈ nw := gr_of [] rfl
set_option maxRecDepth 100000 in
theorem mw_274 : ∀ w ∈ cdW 274 :: mwL 274, w ∈ bw := gr_of [1430, 1431, 1400] rfl
theorem ck_275 : cdT_275.all (chkE 275) = true := by decide +kernel
set_option maxRecDepth 100000 in
theorem pl_275 : ∀ w ∈ (cdT_275.filter (fun e => Nat.beq (lkk 275 e.2) 1)).map (fun e => lkW 275 e.2), w ∈ bw := gr_of [567] rfl
set_option maxRecDepth 100000 in
theorem ns_275 : ∀ w ∈ (cdT_275.filter (fun e => Nat.beq (lkk 275 e.2) 2)).map (fun e => lkW 275 e.2), w ∈ nw := gr_of [] rfl
set_option maxRecDepth 100000 in
theorem mw_275 : ∀ w ∈ cdW 275 :: mwL 275, w ∈ bw := gr_of [1432, 1433, 1400] rfl
theorem ck_276 : cdT_276.all (chkE 276) = true := by decide +kernel
set_option maxRecDepth 100000 in
theorem pl_276 : ∀ w ∈ (cdT_276.filter (fun e => Nat.beq (lkk 276 e.2) 1)).map (fun e => lkW 276 e.2), w ∈ bw := gr_of [568] rfl
set_option maxRecDepth 100000 in
theorem ns_276 : ∀ w ∈ (cdT_276.filter (fun e => Nat.beq (lkk 276 e.2) 2)).map (fun e => lkW 276 e.2), w ∈ nw := gr_of [] rfl
set_option maxRecDepth 100000 in
theorem mw_276 : ∀ w ∈ cdW 276 :: mwL 276, w ∈ bw := gr_of [1434, 1435, 1400] rfl
theorem ck_277 : cdT_277.all (chkE 277) = true := by decide +kernel
set_option maxRecDepth 100000 in
theorem pl_277 : ∀ w ∈ (cdT_277.filter (fun e => Nat.beq (lkk 277 e.2) 1)).map (fun e => lkW 277 e.2), w ∈ bw := gr_of [569] rfl
set_option maxRecDepth 100000 in
theorem ns_277 : ∀ w ∈ (cdT_277.filter (fun e => Nat.beq (lkk 277 e.2) 2)).map (fun e => lkW 277 e.2), w ∈ nw := gr_of [] rfl
set_option maxRecDepth 100000 in
theorem mw_277 : ∀ w ∈ cdW 277 :: mwL 277, w ∈ bw := gr_of [1436, 1437, 1400] rfl
theorem ck_278 : cdT_278.all (chkE 278) = true := by decide +kernel
set_option maxRecDepth 100000 in
theorem pl_278 : ∀ w ∈ (cdT_278.filter (fun e => Nat.beq (lkk 278 e.2) 1)).map (fun e => lkW 278 e.2), w ∈ bw := gr_of [570] rfl
set_option maxRecDepth 100000 in
theorem ns_278 : ∀ w ∈ (cdT_278.filter (fun e => Nat.beq (lkk 278 e.2) 2)).map (fun e => lkW 278 e.2), w ∈ nw := gr_of [] rfl
set_option maxRecDepth 100000 in
theorem mw_278 : ∀ w ∈ cdW 278 :: mwL 278, w ∈ bw := gr_of [1438, 1439, 1400] rfl
theorem ck_279 : cdT_279.all (chkE 279) = true := by decide +kernel
set_option maxRecDepth 100000 in
theorem pl_279 : ∀ w ∈ (cdT_279.filter (fun e => Nat.beq (lkk 279 e.2) 1)).map (fun e => lkW 279 e.2), w ∈ bw := gr_of [571] rfl
set_option maxRecDepth 100000 in
theorem ns_279 : ∀ w ∈ (cdT_279.filter (fun e => Nat.beq (lkk 279 e.2) 2)).map (fun e => lkW 279 e.2), w ∈ nw := gr_of [] rfl
set_option maxRecDepth 100000 in
theorem mw_279 : ∀ w ∈ cdW 279 :: mwL 279, w ∈ bw := gr_of [1440, 1441, 1400] rfl
theorem ck_280 : cdT_280.all (chkE 280) = true := by decide +kernel
set_option maxRecDepth 100000 in
theorem pl_280 : ∀ w ∈ (cdT_280.filter (fun e => Nat.beq (lkk 280 e.2) 1)).map (fun e => lkW 280 e.2), w ∈ bw := gr_of [572] rfl
set_option maxRecDepth 100000 in
theorem ns_280 : ∀ w ∈ (cdT_280.filter (fun e => Nat.beq (lkk 280 e.2) 2)).map (fun e => lkW 280 e.2), w ∈ nw := gr_of [] rfl
set_option maxRecDepth 100000 in
theorem mw_280 : ∀ w ∈ cdW 280 :: mwL 280, w ∈ bw := gr_of [1442, 1443, 1400] rfl
theorem ck_281 : cdT_281.all (chkE 281) = true := by decide +kernel
set_option maxRecDepth 100000 in
theorem pl_281 : ∀ w ∈ (cdT_281.filter (fun e => Nat.beq (lkk 281 e.2) 1)).map (fun e => lkW 281 e.2), w ∈ bw := gr_of [573] rfl
set_option maxRecDepth 100000 in
theorem ns_281 : ∀ w ∈ (cdT_281.filter (fun e => Nat.beq (lkk 281 e.2) 2)).map (fun e => lkW 281 e.2), w ∈ nw := gr_of [] rfl
set_option maxRecDepth 100000 in
theorem mw_281 : ∀ w ∈ cdW 281 :: mwL 281, w ∈ bw := gr_of [1444, 1445, 1400] rfl
theorem ck_282 : cdT_282.all (chkE 282) = true := by decide +kernel
set_option maxRecDepth 100000 in
theorem pl_282 : ∀ w ∈ (cdT_282.filter (fun e => Nat.beq (lkk 282 e.2) 1)).map (fun e => lkW 282 e.2), w ∈ bw := gr_of [574] rfl
set_option maxRecDepth 100000 in
theorem ns_282 : ∀ w ∈ (cdT_282.filter (fun e => Nat.beq (lkk 282 e.2) 2)).map (fun e => lkW 282 e.2), w ∈ nw := gr_of [] rfl
set_option maxRecDepth 100000 in
theorem mw_282 : ∀ w ∈ cdW 282 :: mwL 282, w ∈ bw := gr_of [1446, 1447, 1400] rfl
theorem ck_283 : cdT_283.all (chkE 283) = true := by decide +kernel
set_option maxRecDepth 100000 in
theorem pl_283 : ∀ w ∈ (cdT_283.filter (fun e => Nat.beq (lkk 283 e.2) 1)).map (fun e => lkW 283 e.2), w ∈ bw := gr_of [575] rfl
set_option maxRecDepth 100000 in
theorem ns_283 : ∀ w ∈ (cdT_283.filter (fun e => Nat.beq (lkk 283 e.2) 2)).map (fun e => lkW 283 e.2), w ∈ nw := gr_of [] rfl
set_option maxRecDepth 100000 in
theorem mw_283 : ∀ w ∈ cdW 283 :: mwL 283, w ∈ bw := gr_of [1448, 1449, 1400] rfl
theorem ck_284 : cdT_284.all (chkE 284) = true := by decide +kernel
set_option maxRecDepth 100000 in
theorem pl_284 : ∀ w ∈ (cdT_284.filter (fun e => Nat.beq (lkk 284 e.2) 1)).map (fun e => lkW 284 e.2), w ∈ bw := gr_of [576] rfl
set_option maxRecDepth 100000 in
theorem ns_284 : ∀ w ∈ (cdT_284.filter (fun e => Nat.beq (lkk 284 e.2) 2)).map (fun e => lkW 284 e.2), w ∈ nw := gr_of [] rfl
set_option maxRecDepth 100000 in
theorem mw_284 : ∀ w ∈ cdW 284 :: mwL 284, w ∈ bw := gr_of [1450, 1451, 1400] rfl
theorem ck_285 : cdT_285.all (chkE 285) = true := by decide +kernel
set_option maxRecDepth 100000 in
theorem pl_285 : ∀ w ∈ (cdT_285.filter (fun e => Nat.beq (lkk 285 e.2) 1)).map (fun e => lkW 285 e.2), w ∈ bw := gr_of [577] rfl
set_option maxRecDepth 100000 in
theorem ns_285 : ∀ w ∈ (cdT_285.filter (fun e => Nat.beq (lkk 285 e.2) 2)).map (fun e => lkW 285 e.2), w ∈ nw := gr_of [] rfl
set_option maxRecDepth 100000 in
theorem mw_285 : ∀ w ∈ cdW 285 :: mwL 285, w ∈ bw := gr_of [1452, 1453, 1400] rfl
theorem ck_286 : cdT_286.all (chkE 286) = true := by decide +kernel
set_option maxRecDepth 100000 in
theorem pl_286 : ∀ w ∈ (cdT_286.filter (fun e => Nat.beq (lkk 286 e.2) 1)).map (fun e => lkW 286 e.2), w ∈ bw := gr_of [578] rfl
set_option maxRecDepth 100000 in
theorem ns_286 : ∀ w ∈ (cdT_286.filter (fun e => Nat.beq (lkk 286 e.2) 2)).map (fun e => lkW 286 e.2), w ∈ nw := gr_of [] rfl
set_option maxRecDepth 100000 in
theorem mw_286 : ∀ w ∈ cdW 286 :: mwL 286, w ∈ bw := gr_of [1454, 1455, 1400] rfl
theorem ck_287 : cdT_287.all (chkE 287) = true := by decide +kernel
set_option maxRecDepth 100000 in
theorem pl_287 : ∀ w ∈ (cdT_287.filter (fun e => Nat.beq (lkk 287 e.2) 1)).map (fun e => lkW 287 e.2), w ∈ bw := gr_of [579] rfl
set_option maxRecDepth 100000 in
theorem ns_287 : ∀ w ∈ (cdT_287.filter (fun e => Nat.beq (lkk 287 e.2) 2)).map (fun e => lkW 287 e.2), w ∈ nw := gr_of [] rfl
set_option maxRecDepth 100000 in
theorem mw_287 : ∀ w ∈ cdW 287 :: mwL 287, w ∈ bw := gr_of [1456, 1457, 1400] rfl
theorem ck_289 : cdT_289.all (chkE 289) = true := by decide +kernel
set_option maxRecDepth 100000 in
theorem pl_289 : ∀ w ∈ (cdT_289.filter (fun e => Nat.beq (lkk 289 e.2) 1)).map (fun e => lkW 289 e.2), w ∈ bw := gr_of [661, 662, 662, 663] rfl
set_option maxRecDepth 100000 in
theorem ns_289 : ∀ w ∈ (cdT_289.filter (fun e => Nat.beq (lkk 289 e.2) 2)).map (fun e => lkW 289 e.2), w ∈ nw := gr_of [] rfl
set_option maxRecDepth 100000 in
theorem mw_289 : ∀ w ∈ cdW 289 :: mwL 289, w ∈ bw := gr_of [1458, 1460, 1459] rfl
