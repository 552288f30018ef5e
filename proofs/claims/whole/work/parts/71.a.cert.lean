abbrev mX0_passDay : ME := (yX0_passDay, cX0_passDay, 6, none)
abbrev mX0_fadeCard : ME := (yX0_fadeCard, cX0_fadeCard, 5, none)
abbrev mX0_inkAfter : ME := (yX0_inkAfter, cX0_inkAfter, 6, (some .int))
abbrev mX0_changeThings : ME := (yX0_changeThings, cX0_changeThings, 4, (some .int))
abbrev mX0_logLength : ME := (yX0_logLength, cX0_logLength, 1, (some .int))
abbrev mX0_logged : ME := (yX0_logged, cX0_logged, 4, (some .int))
abbrev mX0_daysTillBlank : ME := (yX0_daysTillBlank, cX0_daysTillBlank, 7, (some .int))
abbrev mX1_takeAll : ME := (yX1_takeAll, cX1_takeAll, 2, none)
abbrev mX1_isNone : ME := (yX1_isNone, cX1_isNone, 1, (some .boolean))
abbrev mX1_isThing : ME := (yX1_isThing, cX1_isThing, 2, (some .boolean))
abbrev mX1_isCard : ME := (yX1_isCard, cX1_isCard, 2, (some .boolean))
abbrev mX1_cardOver : ME := (yX1_cardOver, cX1_cardOver, 3, (some .int))
abbrev mX1_isFit : ME := (yX1_isFit, cX1_isFit, 6, (some .boolean))
abbrev mX1_isTrue : ME := (yX1_isTrue, cX1_isTrue, 5, (some .boolean))
abbrev mX1_marksUnder : ME := (yX1_marksUnder, cX1_marksUnder, 3, (some .int))
abbrev mX1_isRight : ME := (yX1_isRight, cX1_isRight, 2, (some .boolean))
abbrev mX1_suitedThings : ME := (yX1_suitedThings, cX1_suitedThings, 4, (some .int))
abbrev mX1_cheapestFor : ME := (yX1_cheapestFor, cX1_cheapestFor, 4, (some .int))
abbrev mX1_goneWords : ME := (yX1_goneWords, cX1_goneWords, 3, (some .int))
abbrev mX1_wrongCards : ME := (yX1_wrongCards, cX1_wrongCards, 3, (some .int))
abbrev mX1_reachedFrom : ME := (yX1_reachedFrom, cX1_reachedFrom, 5, (some .int))
abbrev mX1_isToldAlone : ME := (yX1_isToldAlone, cX1_isToldAlone, 4, (some .boolean))
abbrev mX2_forget : ME := (yX2_forget, cX2_forget, 1, none)
abbrev mX2_note : ME := (yX2_note, cX2_note, 4, (some .int))
abbrev mX2_aim : ME := (yX2_aim, cX2_aim, 4, (some .boolean))
abbrev mX2_countRows : ME := (yX2_countRows, cX2_countRows, 3, (some .int))
abbrev mX2_findRow : ME := (yX2_findRow, cX2_findRow, 4, (some .int))
abbrev mX2_evenThing : ME := (yX2_evenThing, cX2_evenThing, 6, (some .int))
abbrev mX2_kindestRow : ME := (yX2_kindestRow, cX2_kindestRow, 5, (some .int))
abbrev mX2_thingsFitting : ME := (yX2_thingsFitting, cX2_thingsFitting, 4, (some .int))
abbrev mX2_layOut : ME := (yX2_layOut, cX2_layOut, 5, none)
abbrev mX2_isRow : ME := (yX2_isRow, cX2_isRow, 3, (some .boolean))
abbrev mX2_wouldFit : ME := (yX2_wouldFit, cX2_wouldFit, 3, (some .boolean))
abbrev mX3_forget : ME := (yX3_forget, cX3_forget, 1, none)
abbrev mX3_keep : ME := (yX3_keep, cX3_keep, 2, none)
abbrev mX3_undoInto : ME := (yX3_undoInto, cX3_undoInto, 2, (some .int))
abbrev mX4_readLaw : ME := (yX4_readLaw, cX4_readLaw, 2, (some .boolean))
abbrev mX4_emit : ME := (yX4_emit, cX4_emit, 2, (some .boolean))
abbrev mX4_readClause : ME := (yX4_readClause, cX4_readClause, 4, (some .boolean))
abbrev mX4_isComparing : ME := (yX4_isComparing, cX4_isComparing, 2, (some .boolean))
abbrev mX4_readUnit : ME := (yX4_readUnit, cX4_readUnit, 3, (some .boolean))
abbrev mX4_readMoreUnits : ME := (yX4_readMoreUnits, cX4_readMoreUnits, 5, (some .boolean))
abbrev mX4_readComparison : ME := (yX4_readComparison, cX4_readComparison, 4, (some .boolean))
abbrev mX4_readSum : ME := (yX4_readSum, cX4_readSum, 6, (some .boolean))
abbrev mX4_joining : ME := (yX4_joining, cX4_joining, 2, (some .int))
abbrev mX4_readAtom : ME := (yX4_readAtom, cX4_readAtom, 5, (some .boolean))
abbrev mX5_keepNext : ME := (yX5_keepNext, cX5_keepNext, 3, (some .int))
abbrev mX5_worth : ME := (yX5_worth, cX5_worth, 5, (some .int))
abbrev mX5_clauseEnd : ME := (yX5_clauseEnd, cX5_clauseEnd, 3, (some .int))
abbrev mX5_join : ME := (yX5_join, cX5_join, 4, (some .int))
abbrev mX5_within : ME := (yX5_within, cX5_within, 3, (some .int))
abbrev mX6_findBest : ME := (yX6_findBest, cX6_findBest, 1, none)
abbrev mX6_leastClash : ME := (yX6_leastClash, cX6_leastClash, 3, (some .int))
abbrev mX6_prepare : ME := (yX6_prepare, cX6_prepare, 5, none)
abbrev mX6_alikeThings : ME := (yX6_alikeThings, cX6_alikeThings, 4, (some .int))
abbrev mX6_sortByPrice : ME := (yX6_sortByPrice, cX6_sortByPrice, 3, none)
abbrev mX6_ableThings : ME := (yX6_ableThings, cX6_ableThings, 8, (some .int))
abbrev mX6_narrow : ME := (yX6_narrow, cX6_narrow, 4, none)
abbrev mX6_linkedAhead : ME := (yX6_linkedAhead, cX6_linkedAhead, 4, (some .int))
abbrev mX6_search : ME := (yX6_search, cX6_search, 9, none)
abbrev mX6_leastPrices : ME := (yX6_leastPrices, cX6_leastPrices, 6, (some .int))
abbrev mX6_canAll : ME := (yX6_canAll, cX6_canAll, 6, (some .boolean))
abbrev mX6_agrees : ME := (yX6_agrees, cX6_agrees, 7, (some .boolean))
abbrev mX7_takeAll : ME := (yX7_takeAll, cX7_takeAll, 2, none)
abbrev mX8_solidBytes : ME := (yX8_solidBytes, cX8_solidBytes, 4, (some .int))
abbrev mX8_append : ME := (yX8_append, cX8_append, 4, none)
abbrev mX8_rewind : ME := (yX8_rewind, cX8_rewind, 1, none)
abbrev mX8_peek : ME := (yX8_peek, cX8_peek, 1, (some .int))
abbrev mX8_step : ME := (yX8_step, cX8_step, 1, none)
abbrev mX8_accept : ME := (yX8_accept, cX8_accept, 2, (some .boolean))
abbrev mX8_readNumber : ME := (yX8_readNumber, cX8_readNumber, 6, (some .int))
abbrev mX9_readReading : ME := (yX9_readReading, cX9_readReading, 1, (some .boolean))
abbrev mX9_readCollection : ME := (yX9_readCollection, cX9_readCollection, 2, (some .boolean))
abbrev mX9_isWhole : ME := (yX9_isWhole, cX9_isWhole, 4, (some .boolean))
abbrev mX9_readClause : ME := (yX9_readClause, cX9_readClause, 2, (some .boolean))
abbrev mX9_readRules : ME := (yX9_readRules, cX9_readRules, 1, (some .boolean))
abbrev mX9_readThing : ME := (yX9_readThing, cX9_readThing, 2, (some .boolean))
abbrev mX9_readMarks : ME := (yX9_readMarks, cX9_readMarks, 5, (some .int))
abbrev mX9_readCard : ME := (yX9_readCard, cX9_readCard, 2, (some .boolean))
abbrev mX9_readItems : ME := (yX9_readItems, cX9_readItems, 10, (some .boolean))
abbrev mX9_readWords : ME := (yX9_readWords, cX9_readWords, 8, (some .boolean))
abbrev mX9_readAbout : ME := (yX9_readAbout, cX9_readAbout, 5, (some .int))
abbrev mX10_takeAll : ME := (yX10_takeAll, cX10_takeAll, 3, none)
abbrev mX10_takeRow : ME := (yX10_takeRow, cX10_takeRow, 6, none)
abbrev mX10_add : ME := (yX10_add, cX10_add, 6, (some .boolean))
abbrev mX10_tell : ME := (yX10_tell, cX10_tell, 5, (some .int))
abbrev mX10_leftIn : ME := (yX10_leftIn, cX10_leftIn, 4, (some .int))
abbrev mX10_freshen : ME := (yX10_freshen, cX10_freshen, 3, none)
abbrev mX10_dim : ME := (yX10_dim, cX10_dim, 3, none)
abbrev mX10_named : ME := (yX10_named, cX10_named, 6, (some .int))
abbrev mX10_weakestInk : ME := (yX10_weakestInk, cX10_weakestInk, 5, (some .int))
abbrev mX11_feed : ME := (yX11_feed, cX11_feed, 7, (some .int))
abbrev mX11_end : ME := (yX11_end, cX11_end, 2, (some .boolean))
abbrev mX11_fault : ME := (yX11_fault, cX11_fault, 3, (some .int))
abbrev mX11_text : ME := (yX11_text, cX11_text, 2, (some .int))
abbrev mX11_isFull : ME := (yX11_isFull, cX11_isFull, 2, (some .boolean))
abbrev mX11_card : ME := (yX11_card, cX11_card, 3, (some .int))
abbrev mX11_word : ME := (yX11_word, cX11_word, 4, (some .int))
abbrev mX11_law : ME := (yX11_law, cX11_law, 2, (some .boolean))
abbrev mX11_cleaner : ME := (yX11_cleaner, cX11_cleaner, 2, (some .boolean))
abbrev mX11_fits : ME := (yX11_fits, cX11_fits, 3, (some .int))
abbrev mX11_reading : ME := (yX11_reading, cX11_reading, 4, (some .int))
abbrev mX11_count : ME := (yX11_count, cX11_count, 2, (some .int))
abbrev mX11_put : ME := (yX11_put, cX11_put, 3, (some .int))
abbrev mX11_take : ME := (yX11_take, cX11_take, 3, (some .int))
abbrev mX11_copy : ME := (yX11_copy, cX11_copy, 2, (some .int))
abbrev mX11_lamp : ME := (yX11_lamp, cX11_lamp, 2, (some .int))
abbrev mX11_light : ME := (yX11_light, cX11_light, 2, (some .boolean))
abbrev mX11_write : ME := (yX11_write, cX11_write, 3, (some .int))
abbrev mX11_days : ME := (yX11_days, cX11_days, 3, (some .int))
abbrev mX11_decades : ME := (yX11_decades, cX11_decades, 5, (some .int))
abbrev mX11_clean : ME := (yX11_clean, cX11_clean, 4, none)
abbrev mX11_draw : ME := (yX11_draw, cX11_draw, 2, (some .int))
abbrev mX11_undo : ME := (yX11_undo, cX11_undo, 1, (some .int))
abbrev mX11_log : ME := (yX11_log, cX11_log, 3, (some .int))
abbrev mX11_image : ME := (yX11_image, cX11_image, 1, (some .int))
abbrev mX11_back : ME := (yX11_back, cX11_back, 1, (some .int))
abbrev mX11_hasWordLeft : ME := (yX11_hasWordLeft, cX11_hasWordLeft, 2, (some .boolean))
abbrev mX11_right : ME := (yX11_right, cX11_right, 3, (some .int))
abbrev mX11_matched : ME := (yX11_matched, cX11_matched, 2, (some .int))
abbrev mX11_clash : ME := (yX11_clash, cX11_clash, 1, (some .int))
abbrev mX11_blank : ME := (yX11_blank, cX11_blank, 2, (some .int))
abbrev mX11_stood : ME := (yX11_stood, cX11_stood, 4, (some .int))
abbrev mX11_once : ME := (yX11_once, cX11_once, 3, (some .int))
abbrev mX11_probe : ME := (yX11_probe, cX11_probe, 2, (some .int))
abbrev mX11_saves : ME := (yX11_saves, cX11_saves, 4, (some .int))
abbrev mX11_round : ME := (yX11_round, cX11_round, 3, (some .int))
abbrev mX11_nowhere : ME := (yX11_nowhere, cX11_nowhere, 3, (some .int))
abbrev mX11_forged : ME := (yX11_forged, cX11_forged, 4, (some .int))
abbrev mX11_alone : ME := (yX11_alone, cX11_alone, 4, (some .int))
abbrev mX11_suits : ME := (yX11_suits, cX11_suits, 2, (some .int))
abbrev mX11_wanted : ME := (yX11_wanted, cX11_wanted, 6, (some .int))
abbrev mX11_perhaps : ME := (yX11_perhaps, cX11_perhaps, 4, (some .int))
abbrev mX11_shared : ME := (yX11_shared, cX11_shared, 3, (some .int))
abbrev mX11_twins : ME := (yX11_twins, cX11_twins, 5, (some .int))
abbrev mX11_odds : ME := (yX11_odds, cX11_odds, 4, (some .int))
abbrev mX11_rescue : ME := (yX11_rescue, cX11_rescue, 9, (some .int))
abbrev mX11_spread : ME := (yX11_spread, cX11_spread, 7, (some .boolean))
abbrev mX11_partsUnhurt : ME := (yX11_partsUnhurt, cX11_partsUnhurt, 6, (some .long))
abbrev mX12_thrown : ME := (yX12_thrown, cX12_thrown, 1, (some .int))
abbrev mX12_isIn : ME := (yX12_isIn, cX12_isIn, 6, (some .boolean))
abbrev mX12_has : ME := (yX12_has, cX12_has, 2, (some .boolean))
abbrev mX12_isAmong : ME := (yX12_isAmong, cX12_isAmong, 3, (some .boolean))
abbrev mX12_bytesIn : ME := (yX12_bytesIn, cX12_bytesIn, 3, (some .int))
abbrev mX12_put : ME := (yX12_put, cX12_put, 3, none)
abbrev mX12_feed : ME := (yX12_feed, cX12_feed, 6, (some .int))
abbrev mX12_end : ME := (yX12_end, cX12_end, 2, (some .boolean))
abbrev mX12_look : ME := (yX12_look, cX12_look, 1, (some .int))
abbrev mX12_fails : ME := (yX12_fails, cX12_fails, 1, (some .boolean))
abbrev mX12_goesIn : ME := (yX12_goesIn, cX12_goesIn, 1, (some .boolean))
abbrev mX12_takes : ME := (yX12_takes, cX12_takes, 2, (some .boolean))
abbrev mX12_isDigit : ME := (yX12_isDigit, cX12_isDigit, 1, (some .boolean))
abbrev mX12_within : ME := (yX12_within, cX12_within, 2, (some .int))
abbrev mX12_atom : ME := (yX12_atom, cX12_atom, 4, (some .int))
abbrev mX12_term : ME := (yX12_term, cX12_term, 5, (some .int))
abbrev mX12_sum : ME := (yX12_sum, cX12_sum, 5, (some .int))
abbrev mX12_isSign : ME := (yX12_isSign, cX12_isSign, 1, (some .boolean))
abbrev mX12_compares : ME := (yX12_compares, cX12_compares, 6, (some .boolean))
abbrev mX12_unit : ME := (yX12_unit, cX12_unit, 3, (some .boolean))
abbrev mX12_part : ME := (yX12_part, cX12_part, 5, (some .boolean))
abbrev mX12_condition : ME := (yX12_condition, cX12_condition, 5, (some .boolean))
abbrev mX12_clause : ME := (yX12_clause, cX12_clause, 5, none)
abbrev mX12_starts : ME := (yX12_starts, cX12_starts, 4, none)
abbrev mX12_goThrough : ME := (yX12_goThrough, cX12_goThrough, 4, none)
abbrev mX12_here : ME := (yX12_here, cX12_here, 1, (some .int))
abbrev mX12_spotOf : ME := (yX12_spotOf, cX12_spotOf, 3, (some .int))
abbrev mX12_number : ME := (yX12_number, cX12_number, 5, (some .int))
abbrev mX12_mostOf : ME := (yX12_mostOf, cX12_mostOf, 2, (some .int))
abbrev mX12_usual : ME := (yX12_usual, cX12_usual, 2, (some .int))
abbrev mX12_readItems : ME := (yX12_readItems, cX12_readItems, 7, none)
abbrev mX12_isBehindColon : ME := (yX12_isBehindColon, cX12_isBehindColon, 1, (some .boolean))
abbrev mX12_readMarks : ME := (yX12_readMarks, cX12_readMarks, 3, (some .int))
abbrev mX12_begins : ME := (yX12_begins, cX12_begins, 1, (some .boolean))
abbrev mX12_readWords : ME := (yX12_readWords, cX12_readWords, 4, none)
abbrev mX12_readWord : ME := (yX12_readWord, cX12_readWord, 6, none)
abbrev mX12_readClause : ME := (yX12_readClause, cX12_readClause, 3, none)
abbrev mX12_isWhole : ME := (yX12_isWhole, cX12_isWhole, 4, (some .boolean))
abbrev mX12_readCollection : ME := (yX12_readCollection, cX12_readCollection, 2, none)
abbrev mX12_fault : ME := (yX12_fault, cX12_fault, 2, (some .int))
abbrev mX12_text : ME := (yX12_text, cX12_text, 4, (some .int))
abbrev mX12_lays : ME := (yX12_lays, cX12_lays, 7, none)
abbrev mX12_copies : ME := (yX12_copies, cX12_copies, 3, none)
abbrev mX12_isThing : ME := (yX12_isThing, cX12_isThing, 2, (some .boolean))
abbrev mX12_isCard : ME := (yX12_isCard, cX12_isCard, 2, (some .boolean))
abbrev mX12_wordsOf : ME := (yX12_wordsOf, cX12_wordsOf, 2, (some .int))
abbrev mX12_sortOf : ME := (yX12_sortOf, cX12_sortOf, 3, (some .int))
abbrev mX12_whatOf : ME := (yX12_whatOf, cX12_whatOf, 3, (some .int))
abbrev mX12_inkOf : ME := (yX12_inkOf, cX12_inkOf, 3, (some .int))
abbrev mX12_marks : ME := (yX12_marks, cX12_marks, 2, (some .int))
abbrev mX12_isTrue : ME := (yX12_isTrue, cX12_isTrue, 6, (some .boolean))
abbrev mX12_fitsIn : ME := (yX12_fitsIn, cX12_fitsIn, 5, (some .boolean))
abbrev mX12_isRight : ME := (yX12_isRight, cX12_isRight, 3, (some .boolean))
abbrev mX12_cardOver : ME := (yX12_cardOver, cX12_cardOver, 4, (some .int))
abbrev mX12_fadeOf : ME := (yX12_fadeOf, cX12_fadeOf, 5, (some .int))
abbrev mX12_fades : ME := (yX12_fades, cX12_fades, 7, (some .int))
abbrev mX12_isChanged : ME := (yX12_isChanged, cX12_isChanged, 5, (some .boolean))
abbrev mX12_goDay : ME := (yX12_goDay, cX12_goDay, 6, none)
abbrev mX12_thing : ME := (yX12_thing, cX12_thing, 3, (some .int))
abbrev mX12_card : ME := (yX12_card, cX12_card, 3, (some .int))
abbrev mX12_word : ME := (yX12_word, cX12_word, 4, (some .int))
abbrev mX12_law : ME := (yX12_law, cX12_law, 2, (some .boolean))
abbrev mX12_cleaner : ME := (yX12_cleaner, cX12_cleaner, 2, (some .boolean))
abbrev mX12_fits : ME := (yX12_fits, cX12_fits, 3, (some .int))
abbrev mX12_remember : ME := (yX12_remember, cX12_remember, 2, none)
abbrev mX12_put_ : ME := (yX12_put_, cX12_put_, 3, (some .int))
abbrev mX12_take : ME := (yX12_take, cX12_take, 3, (some .int))
abbrev mX12_leftOf : ME := (yX12_leftOf, cX12_leftOf, 4, (some .int))
abbrev mX12_copy : ME := (yX12_copy, cX12_copy, 3, (some .int))
abbrev mX12_lamp : ME := (yX12_lamp, cX12_lamp, 3, (some .int))
abbrev mX12_light : ME := (yX12_light, cX12_light, 2, (some .boolean))
abbrev mX12_isReading : ME := (yX12_isReading, cX12_isReading, 2, (some .boolean))
abbrev mX12_write : ME := (yX12_write, cX12_write, 3, (some .int))
abbrev mX12_days : ME := (yX12_days, cX12_days, 3, (some .int))
abbrev mX12_draw : ME := (yX12_draw, cX12_draw, 2, (some .int))
abbrev mX12_decades : ME := (yX12_decades, cX12_decades, 8, (some .int))
abbrev mX12_undo : ME := (yX12_undo, cX12_undo, 2, (some .int))
abbrev mX12_log : ME := (yX12_log, cX12_log, 3, (some .int))
abbrev mX12_reading : ME := (yX12_reading, cX12_reading, 4, (some .int))
abbrev mX12_right : ME := (yX12_right, cX12_right, 3, (some .int))
abbrev mX12_goMatch : ME := (yX12_goMatch, cX12_goMatch, 7, none)
abbrev mX12_matched : ME := (yX12_matched, cX12_matched, 2, (some .int))
abbrev mX12_canBeRight : ME := (yX12_canBeRight, cX12_canBeRight, 5, (some .boolean))
abbrev mX12_clash : ME := (yX12_clash, cX12_clash, 3, (some .int))
abbrev mX12_blank : ME := (yX12_blank, cX12_blank, 4, (some .int))
abbrev mX12_stood : ME := (yX12_stood, cX12_stood, 4, (some .int))
abbrev mX12_goneOf : ME := (yX12_goneOf, cX12_goneOf, 2, (some .int))
abbrev mX12_rowsOf : ME := (yX12_rowsOf, cX12_rowsOf, 1, (some .int))
abbrev mX12_fitsBy : ME := (yX12_fitsBy, cX12_fitsBy, 7, (some .boolean))
abbrev mX12_isRow : ME := (yX12_isRow, cX12_isRow, 4, (some .boolean))
abbrev mX12_canAsk : ME := (yX12_canAsk, cX12_canAsk, 2, (some .boolean))
abbrev mX12_once : ME := (yX12_once, cX12_once, 5, (some .int))
abbrev mX12_probe : ME := (yX12_probe, cX12_probe, 7, (some .int))
abbrev mX12_saves : ME := (yX12_saves, cX12_saves, 8, (some .int))
abbrev mX12_leads : ME := (yX12_leads, cX12_leads, 4, (some .int))
abbrev mX12_round : ME := (yX12_round, cX12_round, 6, (some .int))
abbrev mX12_nowhere : ME := (yX12_nowhere, cX12_nowhere, 3, (some .int))
abbrev mX12_forged : ME := (yX12_forged, cX12_forged, 6, (some .int))
abbrev mX12_alone : ME := (yX12_alone, cX12_alone, 6, (some .int))
abbrev mX12_suitsOf : ME := (yX12_suitsOf, cX12_suitsOf, 4, (some .int))
abbrev mX12_suits : ME := (yX12_suits, cX12_suits, 2, (some .int))
abbrev mX12_wanted : ME := (yX12_wanted, cX12_wanted, 4, (some .int))
abbrev mX12_perhaps : ME := (yX12_perhaps, cX12_perhaps, 3, (some .int))
abbrev mX12_shared : ME := (yX12_shared, cX12_shared, 3, (some .int))
abbrev mX12_twins : ME := (yX12_twins, cX12_twins, 5, (some .int))
abbrev mX12_oddsOf : ME := (yX12_oddsOf, cX12_oddsOf, 9, (some .int))
abbrev mX12_odds : ME := (yX12_odds, cX12_odds, 4, (some .int))
abbrev mX12_rescue : ME := (yX12_rescue, cX12_rescue, 5, (some .int))
abbrev mX12_image : ME := (yX12_image, cX12_image, 1, (some .int))
abbrev mX12_back : ME := (yX12_back, cX12_back, 1, (some .int))
abbrev mX12_count : ME := (yX12_count, cX12_count, 4, (some .int))
abbrev mJ6_bitCount_0f7a4 : ME := (yJ6_bitCount_0f7a4, cJ6_bitCount_0f7a4, 1, (some .int))
abbrev mJ0_length_8abf5 : ME := (yJ0_length_8abf5, cJ0_length_8abf5, 1, (some .int))
abbrev mJ0_charAt_5068e : ME := (yJ0_charAt_5068e, cJ0_charAt_5068e, 2, (some .char))
abbrev mJ0_indexOf_0f7a4 : ME := (yJ0_indexOf_0f7a4, cJ0_indexOf_0f7a4, 2, (some .int))
abbrev mJ0_indexOf_7cf53 : ME := (yJ0_indexOf_7cf53, cJ0_indexOf_7cf53, 3, (some .int))
abbrev mJ0_coder_7d493 : ME := (yJ0_coder_7d493, cJ0_coder_7d493, 1, (some .byte))
abbrev mJ0_isLatin1_aae02 : ME := (yJ0_isLatin1_aae02, cJ0_isLatin1_aae02, 1, (some .boolean))
abbrev mJ0_checkIndex_df160 : ME := (yJ0_checkIndex_df160, cJ0_checkIndex_df160, 2, none)
abbrev mJ1_charAt_3b067 : ME := (yJ1_charAt_3b067, cJ1_charAt_3b067, 2, (some .char))
abbrev mJ1_canEncode_9a6ad : ME := (yJ1_canEncode_9a6ad, cJ1_canEncode_9a6ad, 1, (some .boolean))
abbrev mJ1_indexOf_4cfef : ME := (yJ1_indexOf_4cfef, cJ1_indexOf_4cfef, 4, (some .int))
abbrev mJ1_indexOfChar_4cfef : ME := (yJ1_indexOfChar_4cfef, cJ1_indexOfChar_4cfef, 6, (some .int))
abbrev mJ3_checkIndex_8e157 : ME := (yJ3_checkIndex_8e157, cJ3_checkIndex_8e157, 3, (some .int))
theorem pn_J0 : plainName RJ0 = true := by decide +kernel
theorem pn_J1 : plainName RJ1 = true := by decide +kernel
theorem pn_J3 : plainName RJ3 = true := by decide +kernel
theorem pn_J6 : plainName RJ6 = true := by decide +kernel
theorem pn_X0 : plainName RX0 = true := by decide +kernel
theorem pn_X1 : plainName RX1 = true := by decide +kernel
theorem pn_X2 : plainName RX2 = true := by decide +kernel
theorem pn_X3 : plainName RX3 = true := by decide +kernel
theorem pn_X4 : plainName RX4 = true := by decide +kernel
theorem pn_X5 : plainName RX5 = true := by decide +kernel
theorem pn_X6 : plainName RX6 = true := by decide +kernel
theorem pn_X7 : plainName RX7 = true := by decide +kernel
theorem pn_X8 : plainName RX8 = true := by decide +kernel
theorem pn_X9 : plainName RX9 = true := by decide +kernel
theorem pn_X10 : plainName RX10 = true := by decide +kernel
theorem pn_X11 : plainName RX11 = true := by decide +kernel
theorem pn_X12 : plainName RX12 = true := by decide +kernel
theorem bp_m22 : (Int8.ofInt (-22)).toInt32 = (-22) := by decide
theorem bp_m21 : (Int8.ofInt (-21)).toInt32 = (-21) := by decide
theorem bp_m20 : (Int8.ofInt (-20)).toInt32 = (-20) := by decide
theorem bp_m19 : (Int8.ofInt (-19)).toInt32 = (-19) := by decide
theorem bp_m18 : (Int8.ofInt (-18)).toInt32 = (-18) := by decide
theorem bp_m17 : (Int8.ofInt (-17)).toInt32 = (-17) := by decide
theorem bp_m16 : (Int8.ofInt (-16)).toInt32 = (-16) := by decide
theorem bp_m15 : (Int8.ofInt (-15)).toInt32 = (-15) := by decide
theorem bp_m14 : (Int8.ofInt (-14)).toInt32 = (-14) := by decide
theorem bp_m13 : (Int8.ofInt (-13)).toInt32 = (-13) := by decide
theorem bp_m12 : (Int8.ofInt (-12)).toInt32 = (-12) := by decide
theorem bp_m11 : (Int8.ofInt (-11)).toInt32 = (-11) := by decide
theorem bp_m6 : (Int8.ofInt (-6)).toInt32 = (-6) := by decide
theorem bp_m2 : (Int8.ofInt (-2)).toInt32 = (-2) := by decide
theorem bp_6 : (Int8.ofInt (6)).toInt32 = 6 := by decide
theorem bp_8 : (Int8.ofInt (8)).toInt32 = 8 := by decide
theorem bp_9 : (Int8.ofInt (9)).toInt32 = 9 := by decide
theorem bp_10 : (Int8.ofInt (10)).toInt32 = 10 := by decide
theorem bp_12 : (Int8.ofInt (12)).toInt32 = 12 := by decide
theorem bp_13 : (Int8.ofInt (13)).toInt32 = 13 := by decide
theorem bp_15 : (Int8.ofInt (15)).toInt32 = 15 := by decide
theorem bp_16 : (Int8.ofInt (16)).toInt32 = 16 := by decide
theorem bp_20 : (Int8.ofInt (20)).toInt32 = 20 := by decide
theorem bp_24 : (Int8.ofInt (24)).toInt32 = 24 := by decide
theorem bp_30 : (Int8.ofInt (30)).toInt32 = 30 := by decide
theorem bp_32 : (Int8.ofInt (32)).toInt32 = 32 := by decide
theorem bp_33 : (Int8.ofInt (33)).toInt32 = 33 := by decide
theorem bp_38 : (Int8.ofInt (38)).toInt32 = 38 := by decide
theorem bp_40 : (Int8.ofInt (40)).toInt32 = 40 := by decide
theorem bp_41 : (Int8.ofInt (41)).toInt32 = 41 := by decide
theorem bp_42 : (Int8.ofInt (42)).toInt32 = 42 := by decide
theorem bp_43 : (Int8.ofInt (43)).toInt32 = 43 := by decide
theorem bp_45 : (Int8.ofInt (45)).toInt32 = 45 := by decide
theorem bp_47 : (Int8.ofInt (47)).toInt32 = 47 := by decide
theorem bp_48 : (Int8.ofInt (48)).toInt32 = 48 := by decide
theorem bp_52 : (Int8.ofInt (52)).toInt32 = 52 := by decide
theorem bp_57 : (Int8.ofInt (57)).toInt32 = 57 := by decide
theorem bp_58 : (Int8.ofInt (58)).toInt32 = 58 := by decide
theorem bp_59 : (Int8.ofInt (59)).toInt32 = 59 := by decide
theorem bp_60 : (Int8.ofInt (60)).toInt32 = 60 := by decide
theorem bp_61 : (Int8.ofInt (61)).toInt32 = 61 := by decide
theorem bp_62 : (Int8.ofInt (62)).toInt32 = 62 := by decide
theorem bp_63 : (Int8.ofInt (63)).toInt32 = 63 := by decide
theorem bp_64 : (Int8.ofInt (64)).toInt32 = 64 := by decide
theorem bp_91 : (Int8.ofInt (91)).toInt32 = 91 := by decide
theorem bp_93 : (Int8.ofInt (93)).toInt32 = 93 := by decide
theorem bp_96 : (Int8.ofInt (96)).toInt32 = 96 := by decide
theorem bp_97 : (Int8.ofInt (97)).toInt32 = 97 := by decide
theorem bp_99 : (Int8.ofInt (99)).toInt32 = 99 := by decide
theorem bp_100 : (Int8.ofInt (100)).toInt32 = 100 := by decide
theorem bp_102 : (Int8.ofInt (102)).toInt32 = 102 := by decide
theorem bp_105 : (Int8.ofInt (105)).toInt32 = 105 := by decide
theorem bp_107 : (Int8.ofInt (107)).toInt32 = 107 := by decide
theorem bp_108 : (Int8.ofInt (108)).toInt32 = 108 := by decide
theorem bp_112 : (Int8.ofInt (112)).toInt32 = 112 := by decide
theorem bp_115 : (Int8.ofInt (115)).toInt32 = 115 := by decide
theorem bp_116 : (Int8.ofInt (116)).toInt32 = 116 := by decide
theorem bp_120 : (Int8.ofInt (120)).toInt32 = 120 := by decide
theorem bp_121 : (Int8.ofInt (121)).toInt32 = 121 := by decide
theorem bp_122 : (Int8.ofInt (122)).toInt32 = 122 := by decide
theorem bp_123 : (Int8.ofInt (123)).toInt32 = 123 := by decide
theorem bp_124 : (Int8.ofInt (124)).toInt32 = 124 := by decide
theorem bp_127 : (Int8.ofInt (127)).toInt32 = 127 := by decide
theorem ic_m8 : Int32.ofInt (-8) = (-8) := by decide
theorem ic_m1 : Int32.ofInt (-1) = (-1) := by decide
theorem ic_0 : Int32.ofInt (0) = 0 := by decide
theorem ic_1 : Int32.ofInt (1) = 1 := by decide
theorem ic_2 : Int32.ofInt (2) = 2 := by decide
theorem ic_3 : Int32.ofInt (3) = 3 := by decide
theorem ic_4 : Int32.ofInt (4) = 4 := by decide
theorem ic_5 : Int32.ofInt (5) = 5 := by decide
theorem lc_0 : Int64.ofNat ((0 : Fin 2) : Nat) = 0 := by decide
theorem lc_1 : Int64.ofNat ((1 : Fin 2) : Nat) = 1 := by decide
theorem sp_128 : (Int16.ofInt (128)).toInt32 = 128 := by decide
theorem sp_144 : (Int16.ofInt (144)).toInt32 = 144 := by decide
theorem sp_177 : (Int16.ofInt (177)).toInt32 = 177 := by decide
theorem sp_240 : (Int16.ofInt (240)).toInt32 = 240 := by decide
theorem sp_255 : (Int16.ofInt (255)).toInt32 = 255 := by decide
theorem sp_256 : (Int16.ofInt (256)).toInt32 = 256 := by decide
theorem sp_304 : (Int16.ofInt (304)).toInt32 = 304 := by decide
theorem sp_1728 : (Int16.ofInt (1728)).toInt32 = 1728 := by decide
theorem sp_9999 : (Int16.ofInt (9999)).toInt32 = 9999 := by decide
theorem sp_11856 : (Int16.ofInt (11856)).toInt32 = 11856 := by decide
