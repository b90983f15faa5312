def kX0_init : jK := (yX0_init, cX0_init, 1, none, { frames := 1, cells := 2, slots := 400, locals := 60 })
def kX0_partnerOf : jK := (yX0_partnerOf, cX0_partnerOf, 3, (some .int), { frames := 2, cells := 0, slots := 0, locals := 44 })
def kX0_countUnpaired : jK := (yX0_countUnpaired, cX0_countUnpaired, 5, (some .int), { frames := 2, cells := 0, slots := 0, locals := 44 })
def kX0_pair : jK := (yX0_pair, cX0_pair, 5, none, { frames := 1, cells := 0, slots := 0, locals := 20 })
def kX0_closerOf : jK := (yX0_closerOf, cX0_closerOf, 1, (some .int), { frames := 0, cells := 0, slots := 0, locals := 0 })
def kX0_isCloser : jK := (yX0_isCloser, cX0_isCloser, 1, (some .boolean), { frames := 0, cells := 0, slots := 0, locals := 0 })
def kX1_init : jK := (yX1_init, cX1_init, 2, none, { frames := 2, cells := 13, slots := 13726, locals := 80 })
def kX1_look : jK := (yX1_look, cX1_look, 7, none, { frames := 4, cells := 0, slots := 0, locals := 139 })
def kX1_fitsFrom : jK := (yX1_fitsFrom, cX1_fitsFrom, 5, (some .boolean), { frames := 2, cells := 0, slots := 0, locals := 51 })
def kX1_fitsElement : jK := (yX1_fitsElement, cX1_fitsElement, 6, (some .boolean), { frames := 1, cells := 0, slots := 0, locals := 26 })
def kX1_hasBytes : jK := (yX1_hasBytes, cX1_hasBytes, 7, (some .boolean), { frames := 0, cells := 0, slots := 0, locals := 0 })
def kX1_consider : jK := (yX1_consider, cX1_consider, 7, none, { frames := 3, cells := 0, slots := 0, locals := 113 })
def kX1_valueOf : jK := (yX1_valueOf, cX1_valueOf, 3, (some .int), { frames := 0, cells := 0, slots := 0, locals := 0 })
def kX1_writeFresh : jK := (yX1_writeFresh, cX1_writeFresh, 8, none, { frames := 2, cells := 0, slots := 0, locals := 86 })
def kX1_writeBytes : jK := (yX1_writeBytes, cX1_writeBytes, 5, none, { frames := 0, cells := 0, slots := 0, locals := 0 })
def kX1_writeTurned : jK := (yX1_writeTurned, cX1_writeTurned, 4, none, { frames := 0, cells := 0, slots := 0, locals := 0 })
def kX1_writeNumber : jK := (yX1_writeNumber, cX1_writeNumber, 7, none, { frames := 1, cells := 0, slots := 0, locals := 60 })
def kX1_isFreshLike : jK := (yX1_isFreshLike, cX1_isFreshLike, 4, (some .boolean), { frames := 0, cells := 0, slots := 0, locals := 0 })
def kX1_freshByte : jK := (yX1_freshByte, cX1_freshByte, 3, (some .int), { frames := 3, cells := 0, slots := 0, locals := 113 })
def kX1_firstNear : jK := (yX1_firstNear, cX1_firstNear, 2, (some .int), { frames := 1, cells := 0, slots := 0, locals := 60 })
def kX1_isLoudAndShares : jK := (yX1_isLoudAndShares, cX1_isLoudAndShares, 3, (some .boolean), { frames := 0, cells := 0, slots := 0, locals := 0 })
def kX1_markYielded : jK := (yX1_markYielded, cX1_markYielded, 4, none, { frames := 3, cells := 0, slots := 0, locals := 105 })
def kX1_sharesWithOneOf : jK := (yX1_sharesWithOneOf, cX1_sharesWithOneOf, 5, (some .boolean), { frames := 2, cells := 0, slots := 0, locals := 81 })
def kX1_countClashes : jK := (yX1_countClashes, cX1_countClashes, 5, (some .int), { frames := 2, cells := 0, slots := 0, locals := 81 })
def kX1_weigh : jK := (yX1_weigh, cX1_weigh, 7, none, { frames := 1, cells := 0, slots := 0, locals := 60 })
def kX1_gain : jK := (yX1_gain, cX1_gain, 3, (some .int), { frames := 0, cells := 0, slots := 0, locals := 0 })
def kX1_pick : jK := (yX1_pick, cX1_pick, 7, none, { frames := 2, cells := 0, slots := 0, locals := 47 })
def kX1_firstBest : jK := (yX1_firstBest, cX1_firstBest, 6, (some .int), { frames := 1, cells := 0, slots := 0, locals := 22 })
def kX1_canBeMade : jK := (yX1_canBeMade, cX1_canBeMade, 1, (some .boolean), { frames := 2, cells := 0, slots := 0, locals := 45 })
def kX1_lengthBehind : jK := (yX1_lengthBehind, cX1_lengthBehind, 5, (some .int), { frames := 1, cells := 0, slots := 0, locals := 21 })
def kX1_growth : jK := (yX1_growth, cX1_growth, 2, (some .int), { frames := 0, cells := 0, slots := 0, locals := 0 })
def kX1_rewrite : jK := (yX1_rewrite, cX1_rewrite, 7, none, { frames := 3, cells := 0, slots := 0, locals := 113 })
def kX1_has : jK := (yX1_has, cX1_has, 2, (some .boolean), { frames := 0, cells := 0, slots := 0, locals := 0 })
def kX1_isMarked : jK := (yX1_isMarked, cX1_isMarked, 3, (some .boolean), { frames := 0, cells := 0, slots := 0, locals := 0 })
def kX1_isPicked : jK := (yX1_isPicked, cX1_isPicked, 3, (some .boolean), { frames := 0, cells := 0, slots := 0, locals := 0 })
def kX1_beginOf : jK := (yX1_beginOf, cX1_beginOf, 2, (some .int), { frames := 0, cells := 0, slots := 0, locals := 0 })
def kX1_endOf : jK := (yX1_endOf, cX1_endOf, 2, (some .int), { frames := 0, cells := 0, slots := 0, locals := 0 })
def kX1_countMarked : jK := (yX1_countMarked, cX1_countMarked, 4, (some .int), { frames := 1, cells := 0, slots := 0, locals := 22 })
def kX1_countOfRule : jK := (yX1_countOfRule, cX1_countOfRule, 4, (some .int), { frames := 0, cells := 0, slots := 0, locals := 0 })
def kX1_countPicked : jK := (yX1_countPicked, cX1_countPicked, 4, (some .int), { frames := 0, cells := 0, slots := 0, locals := 0 })
def kX1_pickedRules : jK := (yX1_pickedRules, cX1_pickedRules, 3, (some .int), { frames := 0, cells := 0, slots := 0, locals := 0 })
def kX1_pickedValue : jK := (yX1_pickedValue, cX1_pickedValue, 3, (some .int), { frames := 0, cells := 0, slots := 0, locals := 0 })
def kX1_pickedBytes : jK := (yX1_pickedBytes, cX1_pickedBytes, 3, (some .int), { frames := 1, cells := 0, slots := 0, locals := 21 })
def kX1_loudValue : jK := (yX1_loudValue, cX1_loudValue, 3, (some .int), { frames := 1, cells := 0, slots := 0, locals := 22 })
def kX1_countLike : jK := (yX1_countLike, cX1_countLike, 4, (some .int), { frames := 1, cells := 0, slots := 0, locals := 26 })
def kX1_commonWord : jK := (yX1_commonWord, cX1_commonWord, 5, (some .int), { frames := 2, cells := 0, slots := 0, locals := 49 })
def kX2_init : jK := (yX2_init, cX2_init, 3, none, { frames := 3, cells := 181, slots := 10440, locals := 101 })
def kX2_keep : jK := (yX2_keep, cX2_keep, 2, none, { frames := 4, cells := 0, slots := 0, locals := 125 })
def kX2_takeBack : jK := (yX2_takeBack, cX2_takeBack, 2, none, { frames := 4, cells := 0, slots := 0, locals := 125 })
def kX2_copyFrom : jK := (yX2_copyFrom, cX2_copyFrom, 3, none, { frames := 4, cells := 0, slots := 0, locals := 125 })
def kX2_kept : jK := (yX2_kept, cX2_kept, 2, (some (.object "StyleFixes$State")), { frames := 1, cells := 0, slots := 0, locals := 22 })
def kX3_init : jK := (yX3_init, cX3_init, 2, none, { frames := 2, cells := 157, slots := 13143, locals := 80 })
def kX3_travel : jK := (yX3_travel, cX3_travel, 5, none, { frames := 5, cells := 0, slots := 0, locals := 165 })
def kX3_endingOf : jK := (yX3_endingOf, cX3_endingOf, 3, (some .int), { frames := 3, cells := 0, slots := 0, locals := 65 })
def kX3_earlierLike : jK := (yX3_earlierLike, cX3_earlierLike, 3, (some .int), { frames := 1, cells := 0, slots := 0, locals := 22 })
def kX3_pageBehind : jK := (yX3_pageBehind, cX3_pageBehind, 2, (some (.object "StyleFixes$Page")), { frames := 1, cells := 0, slots := 0, locals := 60 })
def kX3_rulesMade : jK := (yX3_rulesMade, cX3_rulesMade, 4, (some .int), { frames := 1, cells := 0, slots := 0, locals := 60 })
def kX4_init : jK := (yX4_init, cX4_init, 1, none, { frames := 1, cells := 4, slots := 416, locals := 60 })
def kX4_copyFrom : jK := (yX4_copyFrom, cX4_copyFrom, 2, none, { frames := 2, cells := 0, slots := 0, locals := 83 })
def kX4_copySpans : jK := (yX4_copySpans, cX4_copySpans, 2, none, { frames := 1, cells := 0, slots := 0, locals := 60 })
def kX4_tell : jK := (yX4_tell, cX4_tell, 3, none, { frames := 1, cells := 0, slots := 0, locals := 24 })
def kX4_write : jK := (yX4_write, cX4_write, 5, none, { frames := 0, cells := 0, slots := 0, locals := 0 })
def kX4_carry : jK := (yX4_carry, cX4_carry, 4, none, { frames := 1, cells := 0, slots := 0, locals := 60 })
def kX4_addSpan : jK := (yX4_addSpan, cX4_addSpan, 3, none, { frames := 0, cells := 0, slots := 0, locals := 0 })
def kX4_removeSpan : jK := (yX4_removeSpan, cX4_removeSpan, 3, none, { frames := 0, cells := 0, slots := 0, locals := 0 })
def kX4_shiftSpans : jK := (yX4_shiftSpans, cX4_shiftSpans, 5, none, { frames := 0, cells := 0, slots := 0, locals := 0 })
def kX4_hides : jK := (yX4_hides, cX4_hides, 4, (some .boolean), { frames := 0, cells := 0, slots := 0, locals := 0 })
def kX4_isLike : jK := (yX4_isLike, cX4_isLike, 3, (some .boolean), { frames := 0, cells := 0, slots := 0, locals := 0 })
def kX4_countPainted : jK := (yX4_countPainted, cX4_countPainted, 4, (some .int), { frames := 0, cells := 0, slots := 0, locals := 0 })
def kX4_lineOf : jK := (yX4_lineOf, cX4_lineOf, 4, (some .int), { frames := 0, cells := 0, slots := 0, locals := 0 })
def kX4_columnOf : jK := (yX4_columnOf, cX4_columnOf, 4, (some .int), { frames := 0, cells := 0, slots := 0, locals := 0 })
def kX4_countLines : jK := (yX4_countLines, cX4_countLines, 1, (some .int), { frames := 1, cells := 0, slots := 0, locals := 23 })
def kX4_longestLine : jK := (yX4_longestLine, cX4_longestLine, 4, (some .int), { frames := 1, cells := 0, slots := 0, locals := 60 })
def kX4_hash : jK := (yX4_hash, cX4_hash, 3, (some .int), { frames := 0, cells := 0, slots := 0, locals := 0 })
def kX5_init : jK := (yX5_init, cX5_init, 3, none, { frames := 1, cells := 0, slots := 0, locals := 60 })
def kX5_read : jK := (yX5_read, cX5_read, 4, (some .boolean), { frames := 5, cells := 0, slots := 0, locals := 116 })
def kX5_readWeight : jK := (yX5_readWeight, cX5_readWeight, 3, (some .boolean), { frames := 1, cells := 0, slots := 0, locals := 60 })
def kX5_readElements : jK := (yX5_readElements, cX5_readElements, 3, (some .boolean), { frames := 3, cells := 0, slots := 0, locals := 72 })
def kX5_readElement : jK := (yX5_readElement, cX5_readElement, 9, (some .boolean), { frames := 2, cells := 0, slots := 0, locals := 44 })
def kX5_readParts : jK := (yX5_readParts, cX5_readParts, 3, (some .boolean), { frames := 4, cells := 0, slots := 0, locals := 94 })
def kX5_readPart : jK := (yX5_readPart, cX5_readPart, 7, (some .boolean), { frames := 3, cells := 0, slots := 0, locals := 68 })
def kX5_readKnownName : jK := (yX5_readKnownName, cX5_readKnownName, 5, (some .int), { frames := 2, cells := 0, slots := 0, locals := 44 })
def kX5_readName : jK := (yX5_readName, cX5_readName, 3, (some .int), { frames := 1, cells := 0, slots := 0, locals := 22 })
def kX5_readQuote : jK := (yX5_readQuote, cX5_readQuote, 1, (some .boolean), { frames := 1, cells := 0, slots := 0, locals := 22 })
def kX5_isOneToken : jK := (yX5_isOneToken, cX5_isOneToken, 5, (some .boolean), { frames := 1, cells := 0, slots := 0, locals := 20 })
def kX5_peek : jK := (yX5_peek, cX5_peek, 1, (some .int), { frames := 0, cells := 0, slots := 0, locals := 0 })
def kX5_fail : jK := (yX5_fail, cX5_fail, 3, (some .boolean), { frames := 0, cells := 0, slots := 0, locals := 0 })
def kX5_isNamedSort : jK := (yX5_isNamedSort, cX5_isNamedSort, 1, (some .boolean), { frames := 0, cells := 0, slots := 0, locals := 0 })
def kX5_namedSort : jK := (yX5_namedSort, cX5_namedSort, 1, (some .int), { frames := 0, cells := 0, slots := 0, locals := 0 })
def kX5_partKindOf : jK := (yX5_partKindOf, cX5_partKindOf, 1, (some .int), { frames := 0, cells := 0, slots := 0, locals := 0 })
def kX6_init : jK := (yX6_init, cX6_init, 1, none, { frames := 1, cells := 12, slots := 576, locals := 60 })
def kX6_elementNamed : jK := (yX6_elementNamed, cX6_elementNamed, 4, (some .int), { frames := 0, cells := 0, slots := 0, locals := 0 })
def kX6_putInOrder : jK := (yX6_putInOrder, cX6_putInOrder, 4, none, { frames := 0, cells := 0, slots := 0, locals := 0 })
def kX7_init : jK := (yX7_init, cX7_init, 2, none, { frames := 2, cells := 8, slots := 510, locals := 80 })
def kX7_copyFrom : jK := (yX7_copyFrom, cX7_copyFrom, 2, none, { frames := 3, cells := 0, slots := 0, locals := 104 })
def kX7_takeRules : jK := (yX7_takeRules, cX7_takeRules, 2, none, { frames := 0, cells := 0, slots := 0, locals := 0 })
def kX7_isOn : jK := (yX7_isOn, cX7_isOn, 2, (some .boolean), { frames := 0, cells := 0, slots := 0, locals := 0 })
def kX7_isYieldTold : jK := (yX7_isYieldTold, cX7_isYieldTold, 4, (some .boolean), { frames := 0, cells := 0, slots := 0, locals := 0 })
def kX7_addYield : jK := (yX7_addYield, cX7_addYield, 3, none, { frames := 0, cells := 0, slots := 0, locals := 0 })
def kX7_yieldsTo : jK := (yX7_yieldsTo, cX7_yieldsTo, 4, (some .int), { frames := 0, cells := 0, slots := 0, locals := 0 })
def kX7_reachesByYielding : jK := (yX7_reachesByYielding, cX7_reachesByYielding, 5, (some .boolean), { frames := 1, cells := 0, slots := 0, locals := 23 })
def kX7_enterRound : jK := (yX7_enterRound, cX7_enterRound, 5, none, { frames := 1, cells := 0, slots := 0, locals := 60 })
def kX8_init : jK := (yX8_init, cX8_init, 1, none, { frames := 1, cells := 2, slots := 401, locals := 60 })
def kX8_split : jK := (yX8_split, cX8_split, 4, none, { frames := 1, cells := 0, slots := 0, locals := 20 })
def kX8_holding : jK := (yX8_holding, cX8_holding, 3, (some .int), { frames := 0, cells := 0, slots := 0, locals := 0 })
def kX9_init : jK := (yX9_init, cX9_init, 5, none, { frames := 4, cells := 605, slots := 64870, locals := 123 })
def kX9_feed : jK := (yX9_feed, cX9_feed, 6, (some .int), { frames := 1, cells := 0, slots := 0, locals := 22 })
def kX9_end : jK := (yX9_end, cX9_end, 2, (some .int), { frames := 0, cells := 0, slots := 0, locals := 0 })
def kX9_text : jK := (yX9_text, cX9_text, 3, (some .int), { frames := 6, cells := 0, slots := 0, locals := 166 })
def kX9_rules : jK := (yX9_rules, cX9_rules, 2, (some .int), { frames := 6, cells := 13, slots := 589, locals := 166 })
def kX9_fault : jK := (yX9_fault, cX9_fault, 2, (some .int), { frames := 0, cells := 0, slots := 0, locals := 0 })
def kX9_on : jK := (yX9_on, cX9_on, 3, (some .boolean), { frames := 6, cells := 0, slots := 0, locals := 166 })
def kX9_silence : jK := (yX9_silence, cX9_silence, 4, (some .int), { frames := 6, cells := 0, slots := 0, locals := 166 })
def kX9_hear : jK := (yX9_hear, cX9_hear, 2, (some .boolean), { frames := 6, cells := 0, slots := 0, locals := 166 })
def kX9_measure : jK := (yX9_measure, cX9_measure, 2, (some .boolean), { frames := 6, cells := 0, slots := 0, locals := 166 })
def kX9_most : jK := (yX9_most, cX9_most, 2, (some .boolean), { frames := 6, cells := 0, slots := 0, locals := 166 })
def kX9_put : jK := (yX9_put, cX9_put, 4, (some .boolean), { frames := 6, cells := 0, slots := 0, locals := 166 })
def kX9_yields : jK := (yX9_yields, cX9_yields, 3, (some .boolean), { frames := 6, cells := 0, slots := 0, locals := 166 })
def kX9_insist : jK := (yX9_insist, cX9_insist, 2, (some .int), { frames := 6, cells := 0, slots := 0, locals := 166 })
def kX9_apply : jK := (yX9_apply, cX9_apply, 3, (some .int), { frames := 6, cells := 0, slots := 0, locals := 185 })
def kX9_make : jK := (yX9_make, cX9_make, 3, (some .int), { frames := 7, cells := 0, slots := 0, locals := 206 })
def kX9_undo : jK := (yX9_undo, cX9_undo, 1, (some .int), { frames := 5, cells := 0, slots := 0, locals := 146 })
def kX9_is : jK := (yX9_is, cX9_is, 2, (some .int), { frames := 6, cells := 0, slots := 0, locals := 185 })
def kX9_at : jK := (yX9_at, cX9_at, 2, (some .int), { frames := 1, cells := 0, slots := 0, locals := 21 })
def kX9_token : jK := (yX9_token, cX9_token, 4, (some .int), { frames := 6, cells := 0, slots := 0, locals := 185 })
def kX9_tokenAt : jK := (yX9_tokenAt, cX9_tokenAt, 2, (some .int), { frames := 6, cells := 0, slots := 0, locals := 185 })
def kX9_rule : jK := (yX9_rule, cX9_rule, 3, (some .int), { frames := 6, cells := 0, slots := 0, locals := 185 })
def kX9_fits : jK := (yX9_fits, cX9_fits, 3, (some .boolean), { frames := 6, cells := 0, slots := 0, locals := 185 })
def kX9_finding : jK := (yX9_finding, cX9_finding, 4, (some .int), { frames := 6, cells := 0, slots := 0, locals := 185 })
def kX9_fresh : jK := (yX9_fresh, cX9_fresh, 4, (some .int), { frames := 6, cells := 0, slots := 0, locals := 185 })
def kX9_clashes : jK := (yX9_clashes, cX9_clashes, 3, (some .int), { frames := 6, cells := 0, slots := 0, locals := 185 })
def kX9_set : jK := (yX9_set, cX9_set, 3, (some .int), { frames := 6, cells := 0, slots := 0, locals := 185 })
def kX9_worth : jK := (yX9_worth, cX9_worth, 1, (some .int), { frames := 6, cells := 0, slots := 0, locals := 185 })
def kX9_chosen : jK := (yX9_chosen, cX9_chosen, 2, (some .int), { frames := 6, cells := 0, slots := 0, locals := 185 })
def kX9_without : jK := (yX9_without, cX9_without, 2, (some .int), { frames := 5, cells := 0, slots := 0, locals := 165 })
def kX9_span : jK := (yX9_span, cX9_span, 5, (some .int), { frames := 6, cells := 0, slots := 0, locals := 185 })
def kX9_silenced : jK := (yX9_silenced, cX9_silenced, 4, (some .int), { frames := 0, cells := 0, slots := 0, locals := 0 })
def kX9_isSilent : jK := (yX9_isSilent, cX9_isSilent, 2, (some .boolean), { frames := 1, cells := 0, slots := 0, locals := 23 })
def kX9_yielding : jK := (yX9_yielding, cX9_yielding, 2, (some .int), { frames := 0, cells := 0, slots := 0, locals := 0 })
def kX9_paint : jK := (yX9_paint, cX9_paint, 2, (some .int), { frames := 1, cells := 0, slots := 0, locals := 21 })
def kX9_painted : jK := (yX9_painted, cX9_painted, 2, (some .int), { frames := 1, cells := 0, slots := 0, locals := 23 })
def kX9_book : jK := (yX9_book, cX9_book, 3, (some .int), { frames := 0, cells := 0, slots := 0, locals := 0 })
def kX9_common : jK := (yX9_common, cX9_common, 4, (some .int), { frames := 6, cells := 0, slots := 0, locals := 185 })
def kX9_paired : jK := (yX9_paired, cX9_paired, 2, (some .int), { frames := 3, cells := 0, slots := 0, locals := 66 })
def kX9_line : jK := (yX9_line, cX9_line, 3, (some .int), { frames := 1, cells := 0, slots := 0, locals := 23 })
def kX9_circling : jK := (yX9_circling, cX9_circling, 2, (some .int), { frames := 7, cells := 0, slots := 0, locals := 209 })
def kX9_course : jK := (yX9_course, cX9_course, 4, (some .int), { frames := 7, cells := 0, slots := 0, locals := 209 })
def kX9_later : jK := (yX9_later, cX9_later, 4, (some .int), { frames := 7, cells := 0, slots := 0, locals := 209 })
def kX9_digest : jK := (yX9_digest, cX9_digest, 2, (some .int), { frames := 7, cells := 0, slots := 0, locals := 209 })
def kX9_used : jK := (yX9_used, cX9_used, 1, (some .int), { frames := 7, cells := 0, slots := 0, locals := 209 })
def kX9_cure : jK := (yX9_cure, cX9_cure, 3, (some .int), { frames := 6, cells := 0, slots := 0, locals := 189 })
def kX9_mean : jK := (yX9_mean, cX9_mean, 3, (some .int), { frames := 6, cells := 0, slots := 0, locals := 185 })
def kX9_share : jK := (yX9_share, cX9_share, 2, (some .long), { frames := 6, cells := 0, slots := 0, locals := 185 })
def kX9_image : jK := (yX9_image, cX9_image, 1, (some .int), { frames := 5, cells := 0, slots := 0, locals := 147 })
def kX9_back : jK := (yX9_back, cX9_back, 1, (some .int), { frames := 5, cells := 0, slots := 0, locals := 147 })
def kX9_steps : jK := (yX9_steps, cX9_steps, 1, (some .int), { frames := 0, cells := 0, slots := 0, locals := 0 })
def kX9_spool : jK := (yX9_spool, cX9_spool, 3, none, { frames := 0, cells := 0, slots := 0, locals := 0 })
def kX9_isRule : jK := (yX9_isRule, cX9_isRule, 2, (some .boolean), { frames := 0, cells := 0, slots := 0, locals := 0 })
def kX9_isByte : jK := (yX9_isByte, cX9_isByte, 2, (some .boolean), { frames := 0, cells := 0, slots := 0, locals := 0 })
def kX9_keepStep : jK := (yX9_keepStep, cX9_keepStep, 1, none, { frames := 5, cells := 0, slots := 0, locals := 146 })
def kX9_forget : jK := (yX9_forget, cX9_forget, 1, none, { frames := 0, cells := 0, slots := 0, locals := 0 })
def kX9_found : jK := (yX9_found, cX9_found, 1, (some (.object "StyleFixes$Finder")), { frames := 5, cells := 0, slots := 0, locals := 165 })
def kX9_way : jK := (yX9_way, cX9_way, 1, (some (.object "StyleFixes$Journey")), { frames := 6, cells := 0, slots := 0, locals := 189 })
def kX9_makeRound : jK := (yX9_makeRound, cX9_makeRound, 2, none, { frames := 6, cells := 0, slots := 0, locals := 185 })
def kX9_mayStandInText : jK := (yX9_mayStandInText, cX9_mayStandInText, 1, (some .boolean), { frames := 0, cells := 0, slots := 0, locals := 0 })
def kX9_sortOf : jK := (yX9_sortOf, cX9_sortOf, 1, (some .int), { frames := 0, cells := 0, slots := 0, locals := 0 })
def kX9_bitsOfFloat : jK := (yX9_bitsOfFloat, cX9_bitsOfFloat, 4, (some .int), { frames := 0, cells := 0, slots := 0, locals := 0 })
def kX9_bitsOfDouble : jK := (yX9_bitsOfDouble, cX9_bitsOfDouble, 7, (some .long), { frames := 0, cells := 0, slots := 0, locals := 0 })
def kX10_init : jK := (yX10_init, cX10_init, 1, none, { frames := 1, cells := 28, slots := 116992, locals := 60 })
def kX10_copy : jK := (yX10_copy, cX10_copy, 3, none, { frames := 0, cells := 0, slots := 0, locals := 0 })
def kX10_isIn : jK := (yX10_isIn, cX10_isIn, 3, (some .boolean), { frames := 0, cells := 0, slots := 0, locals := 0 })
def kX10_isLetter : jK := (yX10_isLetter, cX10_isLetter, 1, (some .boolean), { frames := 0, cells := 0, slots := 0, locals := 0 })
def kX10_isFigure : jK := (yX10_isFigure, cX10_isFigure, 1, (some .boolean), { frames := 0, cells := 0, slots := 0, locals := 0 })
def kX10_isBlank : jK := (yX10_isBlank, cX10_isBlank, 1, (some .boolean), { frames := 0, cells := 0, slots := 0, locals := 0 })
def kX10_isByte : jK := (yX10_isByte, cX10_isByte, 1, (some .boolean), { frames := 1, cells := 0, slots := 0, locals := 22 })
def kX10_sortOf : jK := (yX10_sortOf, cX10_sortOf, 1, (some .int), { frames := 1, cells := 0, slots := 0, locals := 20 })
def kX10_byteAt : jK := (yX10_byteAt, cX10_byteAt, 2, (some .int), { frames := 0, cells := 0, slots := 0, locals := 0 })
def kX10_layTokens : jK := (yX10_layTokens, cX10_layTokens, 4, none, { frames := 2, cells := 0, slots := 0, locals := 40 })
def kX10_areLike : jK := (yX10_areLike, cX10_areLike, 4, (some .boolean), { frames := 1, cells := 0, slots := 0, locals := 21 })
def kX10_get : jK := (yX10_get, cX10_get, 3, (some .int), { frames := 0, cells := 0, slots := 0, locals := 0 })
def kX10_elementOf : jK := (yX10_elementOf, cX10_elementOf, 4, (some .int), { frames := 1, cells := 0, slots := 0, locals := 22 })
def kX10_partOf : jK := (yX10_partOf, cX10_partOf, 4, (some .int), { frames := 1, cells := 0, slots := 0, locals := 22 })
def kX10_isRule : jK := (yX10_isRule, cX10_isRule, 2, (some .boolean), { frames := 1, cells := 0, slots := 0, locals := 22 })
def kX10_isSaid : jK := (yX10_isSaid, cX10_isSaid, 6, (some .boolean), { frames := 2, cells := 0, slots := 0, locals := 45 })
def kX10_binds : jK := (yX10_binds, cX10_binds, 5, (some .boolean), { frames := 2, cells := 0, slots := 0, locals := 44 })
def kX10_fitsOne : jK := (yX10_fitsOne, cX10_fitsOne, 5, (some .boolean), { frames := 3, cells := 0, slots := 0, locals := 70 })
def kX10_fitsNow : jK := (yX10_fitsNow, cX10_fitsNow, 5, (some .boolean), { frames := 4, cells := 0, slots := 0, locals := 94 })
def kX10_write : jK := (yX10_write, cX10_write, 2, none, { frames := 0, cells := 0, slots := 0, locals := 0 })
def kX10_writeNumber : jK := (yX10_writeNumber, cX10_writeNumber, 6, none, { frames := 1, cells := 0, slots := 0, locals := 21 })
def kX10_writePart : jK := (yX10_writePart, cX10_writePart, 8, none, { frames := 2, cells := 0, slots := 0, locals := 46 })
def kX10_layOut : jK := (yX10_layOut, cX10_layOut, 5, none, { frames := 5, cells := 0, slots := 0, locals := 118 })
def kX10_isElse : jK := (yX10_isElse, cX10_isElse, 4, (some .boolean), { frames := 1, cells := 0, slots := 0, locals := 21 })
def kX10_valueOf : jK := (yX10_valueOf, cX10_valueOf, 4, (some .int), { frames := 1, cells := 0, slots := 0, locals := 22 })
def kX10_isSilentSpan : jK := (yX10_isSilentSpan, cX10_isSilentSpan, 4, (some .boolean), { frames := 0, cells := 0, slots := 0, locals := 0 })
def kX10_comeFinding : jK := (yX10_comeFinding, cX10_comeFinding, 7, none, { frames := 6, cells := 0, slots := 0, locals := 142 })
def kX10_areTogether : jK := (yX10_areTogether, cX10_areTogether, 3, (some .boolean), { frames := 0, cells := 0, slots := 0, locals := 0 })
def kX10_yieldsTo : jK := (yX10_yieldsTo, cX10_yieldsTo, 4, (some .boolean), { frames := 0, cells := 0, slots := 0, locals := 0 })
def kX10_isYielded : jK := (yX10_isYielded, cX10_isYielded, 3, (some .boolean), { frames := 1, cells := 0, slots := 0, locals := 23 })
def kX10_layFindings : jK := (yX10_layFindings, cX10_layFindings, 3, none, { frames := 7, cells := 0, slots := 0, locals := 168 })
def kX10_isFree : jK := (yX10_isFree, cX10_isFree, 2, (some .boolean), { frames := 0, cells := 0, slots := 0, locals := 0 })
def kX10_behind : jK := (yX10_behind, cX10_behind, 3, (some .int), { frames := 0, cells := 0, slots := 0, locals := 0 })
def kX10_laySet : jK := (yX10_laySet, cX10_laySet, 7, none, { frames := 2, cells := 0, slots := 0, locals := 46 })
def kX10_markSet : jK := (yX10_markSet, cX10_markSet, 5, none, { frames := 1, cells := 0, slots := 0, locals := 22 })
def kX10_longThen : jK := (yX10_longThen, cX10_longThen, 4, (some .int), { frames := 0, cells := 0, slots := 0, locals := 0 })
def kX10_writeNew : jK := (yX10_writeNew, cX10_writeNew, 3, none, { frames := 0, cells := 0, slots := 0, locals := 0 })
def kX10_along : jK := (yX10_along, cX10_along, 5, (some .int), { frames := 0, cells := 0, slots := 0, locals := 0 })
def kX10_makeNow : jK := (yX10_makeNow, cX10_makeNow, 5, none, { frames := 6, cells := 0, slots := 0, locals := 142 })
def kX10_writeDown : jK := (yX10_writeDown, cX10_writeDown, 2, none, { frames := 1, cells := 0, slots := 0, locals := 23 })
def kX10_roundNow : jK := (yX10_roundNow, cX10_roundNow, 1, (some .boolean), { frames := 8, cells := 0, slots := 0, locals := 190 })
def kX10_stepAt : jK := (yX10_stepAt, cX10_stepAt, 2, (some .int), { frames := 0, cells := 0, slots := 0, locals := 0 })
def kX10_keep : jK := (yX10_keep, cX10_keep, 3, none, { frames := 1, cells := 0, slots := 0, locals := 21 })
def kX10_undo : jK := (yX10_undo, cX10_undo, 3, (some .int), { frames := 1, cells := 0, slots := 0, locals := 21 })
def kX10_four : jK := (yX10_four, cX10_four, 3, none, { frames := 0, cells := 0, slots := 0, locals := 0 })
def kX10_feed : jK := (yX10_feed, cX10_feed, 6, (some .int), { frames := 1, cells := 0, slots := 0, locals := 22 })
def kX10_end : jK := (yX10_end, cX10_end, 2, (some .int), { frames := 1, cells := 0, slots := 0, locals := 22 })
def kX10_text : jK := (yX10_text, cX10_text, 4, (some .int), { frames := 2, cells := 0, slots := 0, locals := 43 })
def kX10_next : jK := (yX10_next, cX10_next, 1, (some .int), { frames := 0, cells := 0, slots := 0, locals := 0 })
def kX10_isWrong : jK := (yX10_isWrong, cX10_isWrong, 3, (some .boolean), { frames := 0, cells := 0, slots := 0, locals := 0 })
def kX10_isName : jK := (yX10_isName, cX10_isName, 1, (some .boolean), { frames := 0, cells := 0, slots := 0, locals := 0 })
def kX10_sortBy : jK := (yX10_sortBy, cX10_sortBy, 1, (some .int), { frames := 0, cells := 0, slots := 0, locals := 0 })
def kX10_come : jK := (yX10_come, cX10_come, 5, none, { frames := 0, cells := 0, slots := 0, locals := 0 })
def kX10_readBytes : jK := (yX10_readBytes, cX10_readBytes, 4, (some .boolean), { frames := 3, cells := 0, slots := 0, locals := 64 })
def kX10_isToken : jK := (yX10_isToken, cX10_isToken, 5, (some .boolean), { frames := 2, cells := 0, slots := 0, locals := 40 })
def kX10_beginsElement : jK := (yX10_beginsElement, cX10_beginsElement, 1, (some .boolean), { frames := 1, cells := 0, slots := 0, locals := 20 })
def kX10_readElement : jK := (yX10_readElement, cX10_readElement, 3, (some .boolean), { frames := 4, cells := 0, slots := 0, locals := 87 })
def kX10_beginsPart : jK := (yX10_beginsPart, cX10_beginsPart, 1, (some .boolean), { frames := 1, cells := 0, slots := 0, locals := 20 })
def kX10_isNamed : jK := (yX10_isNamed, cX10_isNamed, 5, (some .boolean), { frames := 0, cells := 0, slots := 0, locals := 0 })
def kX10_readPart : jK := (yX10_readPart, cX10_readPart, 8, (some .boolean), { frames := 4, cells := 0, slots := 0, locals := 87 })
def kX10_readElements : jK := (yX10_readElements, cX10_readElements, 3, (some .boolean), { frames := 5, cells := 0, slots := 0, locals := 109 })
def kX10_readParts : jK := (yX10_readParts, cX10_readParts, 3, (some .boolean), { frames := 5, cells := 0, slots := 0, locals := 114 })
def kX10_readRule : jK := (yX10_readRule, cX10_readRule, 5, (some .boolean), { frames := 6, cells := 0, slots := 0, locals := 136 })
def kX10_readAll : jK := (yX10_readAll, cX10_readAll, 2, (some .boolean), { frames := 7, cells := 0, slots := 0, locals := 160 })
def kX10_rules : jK := (yX10_rules, cX10_rules, 2, (some .int), { frames := 8, cells := 0, slots := 0, locals := 181 })
def kX10_fault : jK := (yX10_fault, cX10_fault, 2, (some .int), { frames := 0, cells := 0, slots := 0, locals := 0 })
def kX10_on : jK := (yX10_on, cX10_on, 3, (some .boolean), { frames := 2, cells := 0, slots := 0, locals := 43 })
def kX10_silence : jK := (yX10_silence, cX10_silence, 3, (some .int), { frames := 2, cells := 0, slots := 0, locals := 43 })
def kX10_hear : jK := (yX10_hear, cX10_hear, 3, (some .boolean), { frames := 2, cells := 0, slots := 0, locals := 43 })
def kX10_setNow : jK := (yX10_setNow, cX10_setNow, 4, (some .boolean), { frames := 2, cells := 0, slots := 0, locals := 43 })
def kX10_measure : jK := (yX10_measure, cX10_measure, 2, (some .boolean), { frames := 3, cells := 0, slots := 0, locals := 66 })
def kX10_most : jK := (yX10_most, cX10_most, 2, (some .boolean), { frames := 3, cells := 0, slots := 0, locals := 66 })
def kX10_isPlace : jK := (yX10_isPlace, cX10_isPlace, 2, (some .boolean), { frames := 1, cells := 0, slots := 0, locals := 22 })
def kX10_put : jK := (yX10_put, cX10_put, 3, (some .boolean), { frames := 2, cells := 0, slots := 0, locals := 43 })
def kX10_isBelow : jK := (yX10_isBelow, cX10_isBelow, 6, (some .boolean), { frames := 0, cells := 0, slots := 0, locals := 0 })
def kX10_yields : jK := (yX10_yields, cX10_yields, 3, (some .boolean), { frames := 2, cells := 0, slots := 0, locals := 43 })
def kX10_insist : jK := (yX10_insist, cX10_insist, 3, (some .int), { frames := 2, cells := 0, slots := 0, locals := 43 })
def kX10_isFinding : jK := (yX10_isFinding, cX10_isFinding, 2, (some .boolean), { frames := 8, cells := 0, slots := 0, locals := 190 })
def kX10_apply : jK := (yX10_apply, cX10_apply, 2, (some .int), { frames := 9, cells := 0, slots := 0, locals := 211 })
def kX10_make : jK := (yX10_make, cX10_make, 3, (some .int), { frames := 9, cells := 0, slots := 0, locals := 210 })
def kX10_countOf : jK := (yX10_countOf, cX10_countOf, 4, (some .int), { frames := 0, cells := 0, slots := 0, locals := 0 })
def kX10_onBits : jK := (yX10_onBits, cX10_onBits, 3, (some .int), { frames := 1, cells := 0, slots := 0, locals := 22 })
def kX10_is : jK := (yX10_is, cX10_is, 2, (some .int), { frames := 8, cells := 0, slots := 0, locals := 190 })
def kX10_at : jK := (yX10_at, cX10_at, 2, (some .int), { frames := 2, cells := 0, slots := 0, locals := 43 })
def kX10_token : jK := (yX10_token, cX10_token, 3, (some .int), { frames := 3, cells := 0, slots := 0, locals := 63 })
def kX10_toldSort : jK := (yX10_toldSort, cX10_toldSort, 1, (some .int), { frames := 0, cells := 0, slots := 0, locals := 0 })
def kX10_tokenAt : jK := (yX10_tokenAt, cX10_tokenAt, 3, (some .int), { frames := 3, cells := 0, slots := 0, locals := 63 })
def kX10_findingsOf : jK := (yX10_findingsOf, cX10_findingsOf, 4, (some .int), { frames := 8, cells := 0, slots := 0, locals := 190 })
def kX10_rule : jK := (yX10_rule, cX10_rule, 3, (some .int), { frames := 9, cells := 0, slots := 0, locals := 213 })
def kX10_fits : jK := (yX10_fits, cX10_fits, 3, (some .boolean), { frames := 5, cells := 0, slots := 0, locals := 118 })
def kX10_finding : jK := (yX10_finding, cX10_finding, 3, (some .int), { frames := 9, cells := 0, slots := 0, locals := 211 })
def kX10_fresh : jK := (yX10_fresh, cX10_fresh, 3, (some .int), { frames := 9, cells := 0, slots := 0, locals := 211 })
def kX10_clashes : jK := (yX10_clashes, cX10_clashes, 4, (some .int), { frames := 9, cells := 0, slots := 0, locals := 211 })
def kX10_set : jK := (yX10_set, cX10_set, 4, (some .int), { frames := 8, cells := 0, slots := 0, locals := 190 })
def kX10_worth : jK := (yX10_worth, cX10_worth, 1, (some .int), { frames := 8, cells := 0, slots := 0, locals := 190 })
def kX10_chosen : jK := (yX10_chosen, cX10_chosen, 4, (some .int), { frames := 8, cells := 0, slots := 0, locals := 190 })
def kX10_without : jK := (yX10_without, cX10_without, 3, (some .int), { frames := 8, cells := 0, slots := 0, locals := 190 })
def kX10_span : jK := (yX10_span, cX10_span, 4, (some .int), { frames := 6, cells := 0, slots := 0, locals := 140 })
def kX10_silenced : jK := (yX10_silenced, cX10_silenced, 3, (some .int), { frames := 1, cells := 0, slots := 0, locals := 22 })
def kX10_isSilent : jK := (yX10_isSilent, cX10_isSilent, 2, (some .boolean), { frames := 2, cells := 0, slots := 0, locals := 43 })
def kX10_yielding : jK := (yX10_yielding, cX10_yielding, 2, (some .int), { frames := 1, cells := 0, slots := 0, locals := 22 })
def kX10_paint : jK := (yX10_paint, cX10_paint, 2, (some .int), { frames := 2, cells := 0, slots := 0, locals := 43 })
def kX10_painted : jK := (yX10_painted, cX10_painted, 4, (some .int), { frames := 2, cells := 0, slots := 0, locals := 43 })
def kX10_book : jK := (yX10_book, cX10_book, 3, (some .int), { frames := 1, cells := 0, slots := 0, locals := 22 })
def kX10_common : jK := (yX10_common, cX10_common, 7, (some .int), { frames := 3, cells := 0, slots := 0, locals := 63 })
def kX10_opens : jK := (yX10_opens, cX10_opens, 1, (some .int), { frames := 0, cells := 0, slots := 0, locals := 0 })
def kX10_shuts : jK := (yX10_shuts, cX10_shuts, 1, (some .int), { frames := 0, cells := 0, slots := 0, locals := 0 })
def kX10_layPairs : jK := (yX10_layPairs, cX10_layPairs, 4, none, { frames := 1, cells := 0, slots := 0, locals := 21 })
def kX10_unpaired : jK := (yX10_unpaired, cX10_unpaired, 3, (some .int), { frames := 2, cells := 0, slots := 0, locals := 44 })
def kX10_paired : jK := (yX10_paired, cX10_paired, 2, (some .int), { frames := 2, cells := 0, slots := 0, locals := 44 })
def kX10_lineOf : jK := (yX10_lineOf, cX10_lineOf, 4, (some .int), { frames := 1, cells := 0, slots := 0, locals := 21 })
def kX10_aheadOf : jK := (yX10_aheadOf, cX10_aheadOf, 3, (some .int), { frames := 1, cells := 0, slots := 0, locals := 21 })
def kX10_longestLine : jK := (yX10_longestLine, cX10_longestLine, 3, (some .int), { frames := 2, cells := 0, slots := 0, locals := 43 })
def kX10_line : jK := (yX10_line, cX10_line, 3, (some .int), { frames := 2, cells := 0, slots := 0, locals := 44 })
def kX10_layWas : jK := (yX10_layWas, cX10_layWas, 3, none, { frames := 1, cells := 0, slots := 0, locals := 21 })
def kX10_areAlike : jK := (yX10_areAlike, cX10_areAlike, 4, (some .boolean), { frames := 0, cells := 0, slots := 0, locals := 0 })
def kX10_sameAs : jK := (yX10_sameAs, cX10_sameAs, 3, (some .int), { frames := 1, cells := 0, slots := 0, locals := 23 })
def kX10_rulesOfSet : jK := (yX10_rulesOfSet, cX10_rulesOfSet, 3, (some .int), { frames := 0, cells := 0, slots := 0, locals := 0 })
def kX10_goCourse : jK := (yX10_goCourse, cX10_goCourse, 1, none, { frames := 8, cells := 0, slots := 0, locals := 190 })
def kX10_layCourse : jK := (yX10_layCourse, cX10_layCourse, 2, none, { frames := 9, cells := 0, slots := 0, locals := 210 })
def kX10_madeFrom : jK := (yX10_madeFrom, cX10_madeFrom, 4, (some .int), { frames := 0, cells := 0, slots := 0, locals := 0 })
def kX10_circling : jK := (yX10_circling, cX10_circling, 1, (some .int), { frames := 10, cells := 0, slots := 0, locals := 231 })
def kX10_course : jK := (yX10_course, cX10_course, 2, (some .int), { frames := 10, cells := 0, slots := 0, locals := 231 })
def kX10_behindRounds : jK := (yX10_behindRounds, cX10_behindRounds, 2, (some .int), { frames := 10, cells := 0, slots := 0, locals := 231 })
def kX10_later : jK := (yX10_later, cX10_later, 4, (some .int), { frames := 11, cells := 0, slots := 0, locals := 252 })
def kX10_digest : jK := (yX10_digest, cX10_digest, 5, (some .int), { frames := 11, cells := 0, slots := 0, locals := 252 })
def kX10_used : jK := (yX10_used, cX10_used, 1, (some .int), { frames := 10, cells := 0, slots := 0, locals := 231 })
def kX10_many : jK := (yX10_many, cX10_many, 3, (some .int), { frames := 0, cells := 0, slots := 0, locals := 0 })
def kX10_cure : jK := (yX10_cure, cX10_cure, 5, (some .int), { frames := 10, cells := 0, slots := 0, locals := 231 })
def kX10_mean : jK := (yX10_mean, cX10_mean, 4, (some .int), { frames := 8, cells := 0, slots := 0, locals := 190 })
def kX10_share : jK := (yX10_share, cX10_share, 3, (some .long), { frames := 8, cells := 0, slots := 0, locals := 190 })
def kX10_image : jK := (yX10_image, cX10_image, 1, (some .int), { frames := 1, cells := 0, slots := 0, locals := 22 })
def kX10_back : jK := (yX10_back, cX10_back, 1, (some .int), { frames := 1, cells := 0, slots := 0, locals := 22 })
def kX10_steps : jK := (yX10_steps, cX10_steps, 1, (some .int), { frames := 0, cells := 0, slots := 0, locals := 0 })
def kJxe99ae_isNaN_b9ae7 : jK := (yJxe99ae_isNaN_b9ae7, cJxe99ae_isNaN_b9ae7, 2, (some .boolean), { frames := 0, cells := 0, slots := 0, locals := 0 })
def kJxe99ae_doubleToLongBits_ccdee : jK := (yJxe99ae_doubleToLongBits_ccdee, cJxe99ae_doubleToLongBits_ccdee, 2, (some .long), { frames := 1, cells := 0, slots := 0, locals := 60 })
def kJxf58ca_isNaN_12338 : jK := (yJxf58ca_isNaN_12338, cJxf58ca_isNaN_12338, 1, (some .boolean), { frames := 0, cells := 0, slots := 0, locals := 0 })
def kJxf58ca_floatToIntBits_5c35a : jK := (yJxf58ca_floatToIntBits_5c35a, cJxf58ca_floatToIntBits_5c35a, 1, (some .int), { frames := 1, cells := 0, slots := 0, locals := 60 })
def kJ6_bitCount_0f7a4 : jK := (yJ6_bitCount_0f7a4, cJ6_bitCount_0f7a4, 1, (some .int), { frames := 0, cells := 0, slots := 0, locals := 0 })
def kJ9_floorMod_7cf53 : jK := (yJ9_floorMod_7cf53, cJ9_floorMod_7cf53, 3, (some .int), { frames := 0, cells := 0, slots := 0, locals := 0 })
theorem mt_X0_init : jMth kX0_init := ⟨jTB_1 100 rfl rfl, jTB_1 4 (by decide +kernel) rfl, ⟨by decide +kernel, by decide +kernel⟩, by decide +kernel⟩
theorem mi_X0_init : Cond.instanceMethod yX0_init ∈ jTB := jTB_1 99 (by decide +kernel) rfl
theorem mt_X0_partnerOf : jMth kX0_partnerOf := ⟨jTB_5 16 rfl rfl, jTB_1 4 (by decide +kernel) rfl, ⟨by decide +kernel, by decide +kernel⟩, by decide +kernel⟩
theorem mi_X0_partnerOf : Cond.instanceMethod yX0_partnerOf ∈ jTB ∧ Cond.selects yX0_partnerOf.cls yX0_partnerOf yX0_partnerOf ∈ jTB := ⟨jTB_5 14 (by decide +kernel) rfl, jTB_5 15 (by decide +kernel) rfl⟩
theorem mt_X0_countUnpaired : jMth kX0_countUnpaired := ⟨jTB_4 105 rfl rfl, jTB_1 4 (by decide +kernel) rfl, ⟨by decide +kernel, by decide +kernel⟩, by decide +kernel⟩
theorem mi_X0_countUnpaired : Cond.instanceMethod yX0_countUnpaired ∈ jTB ∧ Cond.selects yX0_countUnpaired.cls yX0_countUnpaired yX0_countUnpaired ∈ jTB := ⟨jTB_4 103 (by decide +kernel) rfl, jTB_4 104 (by decide +kernel) rfl⟩
theorem mt_X0_pair : jMth kX0_pair := ⟨jTB_4 109 rfl rfl, jTB_1 4 (by decide +kernel) rfl, ⟨by decide +kernel, by decide +kernel⟩, by decide +kernel⟩
theorem mi_X0_pair : Cond.instanceMethod yX0_pair ∈ jTB ∧ Cond.selects yX0_pair.cls yX0_pair yX0_pair ∈ jTB := ⟨jTB_4 108 (by decide +kernel) rfl, jTB_in 36 (by decide +kernel) rfl⟩
theorem mt_X0_closerOf : jMth kX0_closerOf := ⟨jTB_4 112 rfl rfl, jTB_1 4 (by decide +kernel) rfl, ⟨by decide +kernel, by decide +kernel⟩, by decide +kernel⟩
theorem ms_X0_closerOf : Cond.static yX0_closerOf ∈ jTB := jTB_4 111 (by decide +kernel) rfl
theorem mt_X0_isCloser : jMth kX0_isCloser := ⟨jTB_4 115 rfl rfl, jTB_1 4 (by decide +kernel) rfl, ⟨by decide +kernel, by decide +kernel⟩, by decide +kernel⟩
theorem ms_X0_isCloser : Cond.static yX0_isCloser ∈ jTB := jTB_4 114 (by decide +kernel) rfl
theorem mt_X1_init : jMth kX1_init := ⟨jTB_2 53 rfl rfl, jTB_1 9 (by decide +kernel) rfl, ⟨by decide +kernel, by decide +kernel⟩, by decide +kernel⟩
theorem mi_X1_init : Cond.instanceMethod yX1_init ∈ jTB := jTB_2 52 (by decide +kernel) rfl
theorem mt_X1_look : jMth kX1_look := ⟨jTB_3 186 rfl rfl, jTB_1 9 (by decide +kernel) rfl, ⟨by decide +kernel, by decide +kernel⟩, by decide +kernel⟩
theorem mi_X1_look : Cond.instanceMethod yX1_look ∈ jTB ∧ Cond.selects yX1_look.cls yX1_look yX1_look ∈ jTB := ⟨jTB_3 184 (by decide +kernel) rfl, jTB_3 185 (by decide +kernel) rfl⟩
theorem mt_X1_fitsFrom : jMth kX1_fitsFrom := ⟨jTB_3 195 rfl rfl, jTB_1 9 (by decide +kernel) rfl, ⟨by decide +kernel, by decide +kernel⟩, by decide +kernel⟩
theorem mi_X1_fitsFrom : Cond.instanceMethod yX1_fitsFrom ∈ jTB ∧ Cond.selects yX1_fitsFrom.cls yX1_fitsFrom yX1_fitsFrom ∈ jTB := ⟨jTB_3 193 (by decide +kernel) rfl, jTB_3 194 (by decide +kernel) rfl⟩
theorem mt_X1_fitsElement : jMth kX1_fitsElement := ⟨jTB_3 199 rfl rfl, jTB_1 9 (by decide +kernel) rfl, ⟨by decide +kernel, by decide +kernel⟩, by decide +kernel⟩
theorem mi_X1_fitsElement : Cond.instanceMethod yX1_fitsElement ∈ jTB ∧ Cond.selects yX1_fitsElement.cls yX1_fitsElement yX1_fitsElement ∈ jTB := ⟨jTB_3 198 (by decide +kernel) rfl, jTB_in 18 (by decide +kernel) rfl⟩
theorem mt_X1_hasBytes : jMth kX1_hasBytes := ⟨jTB_3 203 rfl rfl, jTB_1 9 (by decide +kernel) rfl, ⟨by decide +kernel, by decide +kernel⟩, by decide +kernel⟩
theorem mi_X1_hasBytes : Cond.instanceMethod yX1_hasBytes ∈ jTB ∧ Cond.selects yX1_hasBytes.cls yX1_hasBytes yX1_hasBytes ∈ jTB := ⟨jTB_3 202 (by decide +kernel) rfl, jTB_in 19 (by decide +kernel) rfl⟩
theorem mt_X1_consider : jMth kX1_consider := ⟨jTB_3 207 rfl rfl, jTB_1 9 (by decide +kernel) rfl, ⟨by decide +kernel, by decide +kernel⟩, by decide +kernel⟩
theorem mi_X1_consider : Cond.instanceMethod yX1_consider ∈ jTB ∧ Cond.selects yX1_consider.cls yX1_consider yX1_consider ∈ jTB := ⟨jTB_3 206 (by decide +kernel) rfl, jTB_in 20 (by decide +kernel) rfl⟩
theorem mt_X1_valueOf : jMth kX1_valueOf := ⟨jTB_3 232 rfl rfl, jTB_1 9 (by decide +kernel) rfl, ⟨by decide +kernel, by decide +kernel⟩, by decide +kernel⟩
theorem ms_X1_valueOf : Cond.static yX1_valueOf ∈ jTB := jTB_3 231 (by decide +kernel) rfl
theorem mt_X1_writeFresh : jMth kX1_writeFresh := ⟨jTB_3 211 rfl rfl, jTB_1 9 (by decide +kernel) rfl, ⟨by decide +kernel, by decide +kernel⟩, by decide +kernel⟩
theorem mi_X1_writeFresh : Cond.instanceMethod yX1_writeFresh ∈ jTB ∧ Cond.selects yX1_writeFresh.cls yX1_writeFresh yX1_writeFresh ∈ jTB := ⟨jTB_3 210 (by decide +kernel) rfl, jTB_in 21 (by decide +kernel) rfl⟩
theorem mt_X1_writeBytes : jMth kX1_writeBytes := ⟨jTB_3 215 rfl rfl, jTB_1 9 (by decide +kernel) rfl, ⟨by decide +kernel, by decide +kernel⟩, by decide +kernel⟩
theorem mi_X1_writeBytes : Cond.instanceMethod yX1_writeBytes ∈ jTB ∧ Cond.selects yX1_writeBytes.cls yX1_writeBytes yX1_writeBytes ∈ jTB := ⟨jTB_3 214 (by decide +kernel) rfl, jTB_in 22 (by decide +kernel) rfl⟩
theorem mt_X1_writeTurned : jMth kX1_writeTurned := ⟨jTB_3 219 rfl rfl, jTB_1 9 (by decide +kernel) rfl, ⟨by decide +kernel, by decide +kernel⟩, by decide +kernel⟩
theorem mi_X1_writeTurned : Cond.instanceMethod yX1_writeTurned ∈ jTB ∧ Cond.selects yX1_writeTurned.cls yX1_writeTurned yX1_writeTurned ∈ jTB := ⟨jTB_3 218 (by decide +kernel) rfl, jTB_in 23 (by decide +kernel) rfl⟩
theorem mt_X1_writeNumber : jMth kX1_writeNumber := ⟨jTB_3 223 rfl rfl, jTB_1 9 (by decide +kernel) rfl, ⟨by decide +kernel, by decide +kernel⟩, by decide +kernel⟩
theorem mi_X1_writeNumber : Cond.instanceMethod yX1_writeNumber ∈ jTB ∧ Cond.selects yX1_writeNumber.cls yX1_writeNumber yX1_writeNumber ∈ jTB := ⟨jTB_3 222 (by decide +kernel) rfl, jTB_in 24 (by decide +kernel) rfl⟩
theorem mt_X1_isFreshLike : jMth kX1_isFreshLike := ⟨jTB_3 229 rfl rfl, jTB_1 9 (by decide +kernel) rfl, ⟨by decide +kernel, by decide +kernel⟩, by decide +kernel⟩
theorem mi_X1_isFreshLike : Cond.instanceMethod yX1_isFreshLike ∈ jTB ∧ Cond.selects yX1_isFreshLike.cls yX1_isFreshLike yX1_isFreshLike ∈ jTB := ⟨jTB_3 228 (by decide +kernel) rfl, jTB_in 25 (by decide +kernel) rfl⟩
theorem mt_X1_freshByte : jMth kX1_freshByte := ⟨jTB_4 175 rfl rfl, jTB_1 9 (by decide +kernel) rfl, ⟨by decide +kernel, by decide +kernel⟩, by decide +kernel⟩
theorem mi_X1_freshByte : Cond.instanceMethod yX1_freshByte ∈ jTB ∧ Cond.selects yX1_freshByte.cls yX1_freshByte yX1_freshByte ∈ jTB := ⟨jTB_4 173 (by decide +kernel) rfl, jTB_4 174 (by decide +kernel) rfl⟩
theorem mt_X1_firstNear : jMth kX1_firstNear := ⟨jTB_4 7 rfl rfl, jTB_1 9 (by decide +kernel) rfl, ⟨by decide +kernel, by decide +kernel⟩, by decide +kernel⟩
theorem mi_X1_firstNear : Cond.instanceMethod yX1_firstNear ∈ jTB ∧ Cond.selects yX1_firstNear.cls yX1_firstNear yX1_firstNear ∈ jTB := ⟨jTB_4 6 (by decide +kernel) rfl, jTB_in 28 (by decide +kernel) rfl⟩
theorem mt_X1_isLoudAndShares : jMth kX1_isLoudAndShares := ⟨jTB_4 11 rfl rfl, jTB_1 9 (by decide +kernel) rfl, ⟨by decide +kernel, by decide +kernel⟩, by decide +kernel⟩
theorem mi_X1_isLoudAndShares : Cond.instanceMethod yX1_isLoudAndShares ∈ jTB ∧ Cond.selects yX1_isLoudAndShares.cls yX1_isLoudAndShares yX1_isLoudAndShares ∈ jTB := ⟨jTB_4 10 (by decide +kernel) rfl, jTB_in 29 (by decide +kernel) rfl⟩
theorem mt_X1_markYielded : jMth kX1_markYielded := ⟨jTB_3 238 rfl rfl, jTB_1 9 (by decide +kernel) rfl, ⟨by decide +kernel, by decide +kernel⟩, by decide +kernel⟩
theorem mi_X1_markYielded : Cond.instanceMethod yX1_markYielded ∈ jTB ∧ Cond.selects yX1_markYielded.cls yX1_markYielded yX1_markYielded ∈ jTB := ⟨jTB_3 237 (by decide +kernel) rfl, jTB_in 26 (by decide +kernel) rfl⟩
theorem mt_X1_sharesWithOneOf : jMth kX1_sharesWithOneOf := ⟨jTB_4 3 rfl rfl, jTB_1 9 (by decide +kernel) rfl, ⟨by decide +kernel, by decide +kernel⟩, by decide +kernel⟩
theorem mi_X1_sharesWithOneOf : Cond.instanceMethod yX1_sharesWithOneOf ∈ jTB ∧ Cond.selects yX1_sharesWithOneOf.cls yX1_sharesWithOneOf yX1_sharesWithOneOf ∈ jTB := ⟨jTB_4 2 (by decide +kernel) rfl, jTB_in 27 (by decide +kernel) rfl⟩
theorem mt_X1_countClashes : jMth kX1_countClashes := ⟨jTB_4 183 rfl rfl, jTB_1 9 (by decide +kernel) rfl, ⟨by decide +kernel, by decide +kernel⟩, by decide +kernel⟩
theorem mi_X1_countClashes : Cond.instanceMethod yX1_countClashes ∈ jTB ∧ Cond.selects yX1_countClashes.cls yX1_countClashes yX1_countClashes ∈ jTB := ⟨jTB_4 181 (by decide +kernel) rfl, jTB_4 182 (by decide +kernel) rfl⟩
theorem mt_X1_weigh : jMth kX1_weigh := ⟨jTB_4 15 rfl rfl, jTB_1 9 (by decide +kernel) rfl, ⟨by decide +kernel, by decide +kernel⟩, by decide +kernel⟩
theorem mi_X1_weigh : Cond.instanceMethod yX1_weigh ∈ jTB ∧ Cond.selects yX1_weigh.cls yX1_weigh yX1_weigh ∈ jTB := ⟨jTB_4 14 (by decide +kernel) rfl, jTB_in 30 (by decide +kernel) rfl⟩
theorem mt_X1_gain : jMth kX1_gain := ⟨jTB_4 19 rfl rfl, jTB_1 9 (by decide +kernel) rfl, ⟨by decide +kernel, by decide +kernel⟩, by decide +kernel⟩
theorem mi_X1_gain : Cond.instanceMethod yX1_gain ∈ jTB ∧ Cond.selects yX1_gain.cls yX1_gain yX1_gain ∈ jTB := ⟨jTB_4 18 (by decide +kernel) rfl, jTB_in 31 (by decide +kernel) rfl⟩
theorem mt_X1_pick : jMth kX1_pick := ⟨jTB_4 23 rfl rfl, jTB_1 9 (by decide +kernel) rfl, ⟨by decide +kernel, by decide +kernel⟩, by decide +kernel⟩
theorem mi_X1_pick : Cond.instanceMethod yX1_pick ∈ jTB ∧ Cond.selects yX1_pick.cls yX1_pick yX1_pick ∈ jTB := ⟨jTB_4 22 (by decide +kernel) rfl, jTB_in 32 (by decide +kernel) rfl⟩
theorem mt_X1_firstBest : jMth kX1_firstBest := ⟨jTB_4 27 rfl rfl, jTB_1 9 (by decide +kernel) rfl, ⟨by decide +kernel, by decide +kernel⟩, by decide +kernel⟩
theorem mi_X1_firstBest : Cond.instanceMethod yX1_firstBest ∈ jTB ∧ Cond.selects yX1_firstBest.cls yX1_firstBest yX1_firstBest ∈ jTB := ⟨jTB_4 26 (by decide +kernel) rfl, jTB_in 33 (by decide +kernel) rfl⟩
theorem mt_X1_canBeMade : jMth kX1_canBeMade := ⟨jTB_4 71 rfl rfl, jTB_1 9 (by decide +kernel) rfl, ⟨by decide +kernel, by decide +kernel⟩, by decide +kernel⟩
theorem mi_X1_canBeMade : Cond.instanceMethod yX1_canBeMade ∈ jTB ∧ Cond.selects yX1_canBeMade.cls yX1_canBeMade yX1_canBeMade ∈ jTB := ⟨jTB_4 69 (by decide +kernel) rfl, jTB_4 70 (by decide +kernel) rfl⟩
theorem mt_X1_lengthBehind : jMth kX1_lengthBehind := ⟨jTB_4 39 rfl rfl, jTB_1 9 (by decide +kernel) rfl, ⟨by decide +kernel, by decide +kernel⟩, by decide +kernel⟩
theorem mi_X1_lengthBehind : Cond.instanceMethod yX1_lengthBehind ∈ jTB ∧ Cond.selects yX1_lengthBehind.cls yX1_lengthBehind yX1_lengthBehind ∈ jTB := ⟨jTB_4 37 (by decide +kernel) rfl, jTB_4 38 (by decide +kernel) rfl⟩
theorem mt_X1_growth : jMth kX1_growth := ⟨jTB_4 43 rfl rfl, jTB_1 9 (by decide +kernel) rfl, ⟨by decide +kernel, by decide +kernel⟩, by decide +kernel⟩
theorem mi_X1_growth : Cond.instanceMethod yX1_growth ∈ jTB ∧ Cond.selects yX1_growth.cls yX1_growth yX1_growth ∈ jTB := ⟨jTB_4 42 (by decide +kernel) rfl, jTB_in 34 (by decide +kernel) rfl⟩
theorem mt_X1_rewrite : jMth kX1_rewrite := ⟨jTB_4 47 rfl rfl, jTB_1 9 (by decide +kernel) rfl, ⟨by decide +kernel, by decide +kernel⟩, by decide +kernel⟩
theorem mi_X1_rewrite : Cond.instanceMethod yX1_rewrite ∈ jTB ∧ Cond.selects yX1_rewrite.cls yX1_rewrite yX1_rewrite ∈ jTB := ⟨jTB_4 45 (by decide +kernel) rfl, jTB_4 46 (by decide +kernel) rfl⟩
theorem mt_X1_has : jMth kX1_has := ⟨jTB_4 31 rfl rfl, jTB_1 9 (by decide +kernel) rfl, ⟨by decide +kernel, by decide +kernel⟩, by decide +kernel⟩
theorem mi_X1_has : Cond.instanceMethod yX1_has ∈ jTB ∧ Cond.selects yX1_has.cls yX1_has yX1_has ∈ jTB := ⟨jTB_4 29 (by decide +kernel) rfl, jTB_4 30 (by decide +kernel) rfl⟩
theorem mt_X1_isMarked : jMth kX1_isMarked := ⟨jTB_4 35 rfl rfl, jTB_1 9 (by decide +kernel) rfl, ⟨by decide +kernel, by decide +kernel⟩, by decide +kernel⟩
theorem mi_X1_isMarked : Cond.instanceMethod yX1_isMarked ∈ jTB ∧ Cond.selects yX1_isMarked.cls yX1_isMarked yX1_isMarked ∈ jTB := ⟨jTB_4 33 (by decide +kernel) rfl, jTB_4 34 (by decide +kernel) rfl⟩
theorem mt_X1_isPicked : jMth kX1_isPicked := ⟨jTB_4 167 rfl rfl, jTB_1 9 (by decide +kernel) rfl, ⟨by decide +kernel, by decide +kernel⟩, by decide +kernel⟩
theorem mi_X1_isPicked : Cond.instanceMethod yX1_isPicked ∈ jTB ∧ Cond.selects yX1_isPicked.cls yX1_isPicked yX1_isPicked ∈ jTB := ⟨jTB_4 165 (by decide +kernel) rfl, jTB_4 166 (by decide +kernel) rfl⟩
theorem mt_X1_beginOf : jMth kX1_beginOf := ⟨jTB_4 52 rfl rfl, jTB_1 9 (by decide +kernel) rfl, ⟨by decide +kernel, by decide +kernel⟩, by decide +kernel⟩
theorem mi_X1_beginOf : Cond.instanceMethod yX1_beginOf ∈ jTB ∧ Cond.selects yX1_beginOf.cls yX1_beginOf yX1_beginOf ∈ jTB := ⟨jTB_4 50 (by decide +kernel) rfl, jTB_4 51 (by decide +kernel) rfl⟩
theorem mt_X1_endOf : jMth kX1_endOf := ⟨jTB_4 58 rfl rfl, jTB_1 9 (by decide +kernel) rfl, ⟨by decide +kernel, by decide +kernel⟩, by decide +kernel⟩
theorem mi_X1_endOf : Cond.instanceMethod yX1_endOf ∈ jTB ∧ Cond.selects yX1_endOf.cls yX1_endOf yX1_endOf ∈ jTB := ⟨jTB_4 56 (by decide +kernel) rfl, jTB_4 57 (by decide +kernel) rfl⟩
theorem mt_X1_countMarked : jMth kX1_countMarked := ⟨jTB_4 100 rfl rfl, jTB_1 9 (by decide +kernel) rfl, ⟨by decide +kernel, by decide +kernel⟩, by decide +kernel⟩
theorem mi_X1_countMarked : Cond.instanceMethod yX1_countMarked ∈ jTB ∧ Cond.selects yX1_countMarked.cls yX1_countMarked yX1_countMarked ∈ jTB := ⟨jTB_4 98 (by decide +kernel) rfl, jTB_4 99 (by decide +kernel) rfl⟩
theorem mt_X1_countOfRule : jMth kX1_countOfRule := ⟨jTB_4 152 rfl rfl, jTB_1 9 (by decide +kernel) rfl, ⟨by decide +kernel, by decide +kernel⟩, by decide +kernel⟩
theorem mi_X1_countOfRule : Cond.instanceMethod yX1_countOfRule ∈ jTB ∧ Cond.selects yX1_countOfRule.cls yX1_countOfRule yX1_countOfRule ∈ jTB := ⟨jTB_4 150 (by decide +kernel) rfl, jTB_4 151 (by decide +kernel) rfl⟩
theorem mt_X1_countPicked : jMth kX1_countPicked := ⟨jTB_4 199 rfl rfl, jTB_1 9 (by decide +kernel) rfl, ⟨by decide +kernel, by decide +kernel⟩, by decide +kernel⟩
theorem mi_X1_countPicked : Cond.instanceMethod yX1_countPicked ∈ jTB ∧ Cond.selects yX1_countPicked.cls yX1_countPicked yX1_countPicked ∈ jTB := ⟨jTB_4 197 (by decide +kernel) rfl, jTB_4 198 (by decide +kernel) rfl⟩
theorem mt_X1_pickedRules : jMth kX1_pickedRules := ⟨jTB_5 57 rfl rfl, jTB_1 9 (by decide +kernel) rfl, ⟨by decide +kernel, by decide +kernel⟩, by decide +kernel⟩
theorem mi_X1_pickedRules : Cond.instanceMethod yX1_pickedRules ∈ jTB ∧ Cond.selects yX1_pickedRules.cls yX1_pickedRules yX1_pickedRules ∈ jTB := ⟨jTB_5 55 (by decide +kernel) rfl, jTB_5 56 (by decide +kernel) rfl⟩
theorem mt_X1_pickedValue : jMth kX1_pickedValue := ⟨jTB_4 80 rfl rfl, jTB_1 9 (by decide +kernel) rfl, ⟨by decide +kernel, by decide +kernel⟩, by decide +kernel⟩
theorem mi_X1_pickedValue : Cond.instanceMethod yX1_pickedValue ∈ jTB ∧ Cond.selects yX1_pickedValue.cls yX1_pickedValue yX1_pickedValue ∈ jTB := ⟨jTB_4 78 (by decide +kernel) rfl, jTB_4 79 (by decide +kernel) rfl⟩
theorem mt_X1_pickedBytes : jMth kX1_pickedBytes := ⟨jTB_5 117 rfl rfl, jTB_1 9 (by decide +kernel) rfl, ⟨by decide +kernel, by decide +kernel⟩, by decide +kernel⟩
theorem mi_X1_pickedBytes : Cond.instanceMethod yX1_pickedBytes ∈ jTB ∧ Cond.selects yX1_pickedBytes.cls yX1_pickedBytes yX1_pickedBytes ∈ jTB := ⟨jTB_5 115 (by decide +kernel) rfl, jTB_5 116 (by decide +kernel) rfl⟩
theorem mt_X1_loudValue : jMth kX1_loudValue := ⟨jTB_5 105 rfl rfl, jTB_1 9 (by decide +kernel) rfl, ⟨by decide +kernel, by decide +kernel⟩, by decide +kernel⟩
theorem mi_X1_loudValue : Cond.instanceMethod yX1_loudValue ∈ jTB ∧ Cond.selects yX1_loudValue.cls yX1_loudValue yX1_loudValue ∈ jTB := ⟨jTB_5 103 (by decide +kernel) rfl, jTB_5 104 (by decide +kernel) rfl⟩
theorem mt_X1_countLike : jMth kX1_countLike := ⟨jTB_5 7 rfl rfl, jTB_1 9 (by decide +kernel) rfl, ⟨by decide +kernel, by decide +kernel⟩, by decide +kernel⟩
theorem mi_X1_countLike : Cond.instanceMethod yX1_countLike ∈ jTB ∧ Cond.selects yX1_countLike.cls yX1_countLike yX1_countLike ∈ jTB := ⟨jTB_5 5 (by decide +kernel) rfl, jTB_5 6 (by decide +kernel) rfl⟩
theorem mt_X1_commonWord : jMth kX1_commonWord := ⟨jTB_5 3 rfl rfl, jTB_1 9 (by decide +kernel) rfl, ⟨by decide +kernel, by decide +kernel⟩, by decide +kernel⟩
theorem mi_X1_commonWord : Cond.instanceMethod yX1_commonWord ∈ jTB ∧ Cond.selects yX1_commonWord.cls yX1_commonWord yX1_commonWord ∈ jTB := ⟨jTB_5 1 (by decide +kernel) rfl, jTB_5 2 (by decide +kernel) rfl⟩
theorem mt_X2_init : jMth kX2_init := ⟨jTB_2 33 rfl rfl, jTB_1 8 (by decide +kernel) rfl, ⟨by decide +kernel, by decide +kernel⟩, by decide +kernel⟩
theorem mi_X2_init : Cond.instanceMethod yX2_init ∈ jTB := jTB_2 32 (by decide +kernel) rfl
theorem mt_X2_keep : jMth kX2_keep := ⟨jTB_2 216 rfl rfl, jTB_1 8 (by decide +kernel) rfl, ⟨by decide +kernel, by decide +kernel⟩, by decide +kernel⟩
theorem mi_X2_keep : Cond.instanceMethod yX2_keep ∈ jTB ∧ Cond.selects yX2_keep.cls yX2_keep yX2_keep ∈ jTB := ⟨jTB_2 214 (by decide +kernel) rfl, jTB_2 215 (by decide +kernel) rfl⟩
theorem mt_X2_takeBack : jMth kX2_takeBack := ⟨jTB_4 92 rfl rfl, jTB_1 8 (by decide +kernel) rfl, ⟨by decide +kernel, by decide +kernel⟩, by decide +kernel⟩
theorem mi_X2_takeBack : Cond.instanceMethod yX2_takeBack ∈ jTB ∧ Cond.selects yX2_takeBack.cls yX2_takeBack yX2_takeBack ∈ jTB := ⟨jTB_4 90 (by decide +kernel) rfl, jTB_4 91 (by decide +kernel) rfl⟩
theorem mt_X2_copyFrom : jMth kX2_copyFrom := ⟨jTB_5 132 rfl rfl, jTB_1 8 (by decide +kernel) rfl, ⟨by decide +kernel, by decide +kernel⟩, by decide +kernel⟩
theorem mi_X2_copyFrom : Cond.instanceMethod yX2_copyFrom ∈ jTB ∧ Cond.selects yX2_copyFrom.cls yX2_copyFrom yX2_copyFrom ∈ jTB := ⟨jTB_5 130 (by decide +kernel) rfl, jTB_5 131 (by decide +kernel) rfl⟩
theorem mt_X2_kept : jMth kX2_kept := ⟨jTB_2 220 rfl rfl, jTB_1 8 (by decide +kernel) rfl, ⟨by decide +kernel, by decide +kernel⟩, by decide +kernel⟩
theorem mi_X2_kept : Cond.instanceMethod yX2_kept ∈ jTB ∧ Cond.selects yX2_kept.cls yX2_kept yX2_kept ∈ jTB := ⟨jTB_2 219 (by decide +kernel) rfl, jTB_in 2 (by decide +kernel) rfl⟩
theorem mt_X3_init : jMth kX3_init := ⟨jTB_1 68 rfl rfl, jTB_1 3 (by decide +kernel) rfl, ⟨by decide +kernel, by decide +kernel⟩, by decide +kernel⟩
theorem mi_X3_init : Cond.instanceMethod yX3_init ∈ jTB := jTB_1 67 (by decide +kernel) rfl
theorem mt_X3_travel : jMth kX3_travel := ⟨jTB_5 37 rfl rfl, jTB_1 3 (by decide +kernel) rfl, ⟨by decide +kernel, by decide +kernel⟩, by decide +kernel⟩
theorem mi_X3_travel : Cond.instanceMethod yX3_travel ∈ jTB ∧ Cond.selects yX3_travel.cls yX3_travel yX3_travel ∈ jTB := ⟨jTB_5 35 (by decide +kernel) rfl, jTB_5 36 (by decide +kernel) rfl⟩
theorem mt_X3_endingOf : jMth kX3_endingOf := ⟨jTB_5 43 rfl rfl, jTB_1 3 (by decide +kernel) rfl, ⟨by decide +kernel, by decide +kernel⟩, by decide +kernel⟩
theorem mi_X3_endingOf : Cond.instanceMethod yX3_endingOf ∈ jTB ∧ Cond.selects yX3_endingOf.cls yX3_endingOf yX3_endingOf ∈ jTB := ⟨jTB_5 42 (by decide +kernel) rfl, jTB_in 38 (by decide +kernel) rfl⟩
theorem mt_X3_earlierLike : jMth kX3_earlierLike := ⟨jTB_5 47 rfl rfl, jTB_1 3 (by decide +kernel) rfl, ⟨by decide +kernel, by decide +kernel⟩, by decide +kernel⟩
theorem mi_X3_earlierLike : Cond.instanceMethod yX3_earlierLike ∈ jTB ∧ Cond.selects yX3_earlierLike.cls yX3_earlierLike yX3_earlierLike ∈ jTB := ⟨jTB_5 46 (by decide +kernel) rfl, jTB_in 39 (by decide +kernel) rfl⟩
theorem mt_X3_pageBehind : jMth kX3_pageBehind := ⟨jTB_5 70 rfl rfl, jTB_1 3 (by decide +kernel) rfl, ⟨by decide +kernel, by decide +kernel⟩, by decide +kernel⟩
theorem mi_X3_pageBehind : Cond.instanceMethod yX3_pageBehind ∈ jTB ∧ Cond.selects yX3_pageBehind.cls yX3_pageBehind yX3_pageBehind ∈ jTB := ⟨jTB_5 68 (by decide +kernel) rfl, jTB_5 69 (by decide +kernel) rfl⟩
theorem mt_X3_rulesMade : jMth kX3_rulesMade := ⟨jTB_5 61 rfl rfl, jTB_1 3 (by decide +kernel) rfl, ⟨by decide +kernel, by decide +kernel⟩, by decide +kernel⟩
theorem mi_X3_rulesMade : Cond.instanceMethod yX3_rulesMade ∈ jTB ∧ Cond.selects yX3_rulesMade.cls yX3_rulesMade yX3_rulesMade ∈ jTB := ⟨jTB_5 59 (by decide +kernel) rfl, jTB_5 60 (by decide +kernel) rfl⟩
theorem mt_X4_init : jMth kX4_init := ⟨jTB_1 29 rfl rfl, jTB_1 2 (by decide +kernel) rfl, ⟨by decide +kernel, by decide +kernel⟩, by decide +kernel⟩
theorem mi_X4_init : Cond.instanceMethod yX4_init ∈ jTB := jTB_1 28 (by decide +kernel) rfl
theorem mt_X4_copyFrom : jMth kX4_copyFrom := ⟨jTB_2 231 rfl rfl, jTB_1 2 (by decide +kernel) rfl, ⟨by decide +kernel, by decide +kernel⟩, by decide +kernel⟩
theorem mi_X4_copyFrom : Cond.instanceMethod yX4_copyFrom ∈ jTB ∧ Cond.selects yX4_copyFrom.cls yX4_copyFrom yX4_copyFrom ∈ jTB := ⟨jTB_2 229 (by decide +kernel) rfl, jTB_2 230 (by decide +kernel) rfl⟩
theorem mt_X4_copySpans : jMth kX4_copySpans := ⟨jTB_3 2 rfl rfl, jTB_1 2 (by decide +kernel) rfl, ⟨by decide +kernel, by decide +kernel⟩, by decide +kernel⟩
theorem mi_X4_copySpans : Cond.instanceMethod yX4_copySpans ∈ jTB ∧ Cond.selects yX4_copySpans.cls yX4_copySpans yX4_copySpans ∈ jTB := ⟨jTB_3 0 (by decide +kernel) rfl, jTB_3 1 (by decide +kernel) rfl⟩
theorem mt_X4_tell : jMth kX4_tell := ⟨jTB_3 11 rfl rfl, jTB_1 2 (by decide +kernel) rfl, ⟨by decide +kernel, by decide +kernel⟩, by decide +kernel⟩
theorem mi_X4_tell : Cond.instanceMethod yX4_tell ∈ jTB ∧ Cond.selects yX4_tell.cls yX4_tell yX4_tell ∈ jTB := ⟨jTB_3 9 (by decide +kernel) rfl, jTB_3 10 (by decide +kernel) rfl⟩
theorem mt_X4_write : jMth kX4_write := ⟨jTB_3 15 rfl rfl, jTB_1 2 (by decide +kernel) rfl, ⟨by decide +kernel, by decide +kernel⟩, by decide +kernel⟩
theorem mi_X4_write : Cond.instanceMethod yX4_write ∈ jTB ∧ Cond.selects yX4_write.cls yX4_write yX4_write ∈ jTB := ⟨jTB_3 13 (by decide +kernel) rfl, jTB_3 14 (by decide +kernel) rfl⟩
theorem mt_X4_carry : jMth kX4_carry := ⟨jTB_2 235 rfl rfl, jTB_1 2 (by decide +kernel) rfl, ⟨by decide +kernel, by decide +kernel⟩, by decide +kernel⟩
theorem mi_X4_carry : Cond.instanceMethod yX4_carry ∈ jTB ∧ Cond.selects yX4_carry.cls yX4_carry yX4_carry ∈ jTB := ⟨jTB_2 233 (by decide +kernel) rfl, jTB_2 234 (by decide +kernel) rfl⟩
theorem mt_X4_addSpan : jMth kX4_addSpan := ⟨jTB_3 122 rfl rfl, jTB_1 2 (by decide +kernel) rfl, ⟨by decide +kernel, by decide +kernel⟩, by decide +kernel⟩
theorem mi_X4_addSpan : Cond.instanceMethod yX4_addSpan ∈ jTB ∧ Cond.selects yX4_addSpan.cls yX4_addSpan yX4_addSpan ∈ jTB := ⟨jTB_3 120 (by decide +kernel) rfl, jTB_3 121 (by decide +kernel) rfl⟩
theorem mt_X4_removeSpan : jMth kX4_removeSpan := ⟨jTB_3 130 rfl rfl, jTB_1 2 (by decide +kernel) rfl, ⟨by decide +kernel, by decide +kernel⟩, by decide +kernel⟩
theorem mi_X4_removeSpan : Cond.instanceMethod yX4_removeSpan ∈ jTB ∧ Cond.selects yX4_removeSpan.cls yX4_removeSpan yX4_removeSpan ∈ jTB := ⟨jTB_3 128 (by decide +kernel) rfl, jTB_3 129 (by decide +kernel) rfl⟩
theorem mt_X4_shiftSpans : jMth kX4_shiftSpans := ⟨jTB_4 62 rfl rfl, jTB_1 2 (by decide +kernel) rfl, ⟨by decide +kernel, by decide +kernel⟩, by decide +kernel⟩
theorem mi_X4_shiftSpans : Cond.instanceMethod yX4_shiftSpans ∈ jTB ∧ Cond.selects yX4_shiftSpans.cls yX4_shiftSpans yX4_shiftSpans ∈ jTB := ⟨jTB_4 60 (by decide +kernel) rfl, jTB_4 61 (by decide +kernel) rfl⟩
theorem mt_X4_hides : jMth kX4_hides := ⟨jTB_3 150 rfl rfl, jTB_1 2 (by decide +kernel) rfl, ⟨by decide +kernel, by decide +kernel⟩, by decide +kernel⟩
theorem mi_X4_hides : Cond.instanceMethod yX4_hides ∈ jTB ∧ Cond.selects yX4_hides.cls yX4_hides yX4_hides ∈ jTB := ⟨jTB_3 148 (by decide +kernel) rfl, jTB_3 149 (by decide +kernel) rfl⟩
theorem mt_X4_isLike : jMth kX4_isLike := ⟨jTB_5 51 rfl rfl, jTB_1 2 (by decide +kernel) rfl, ⟨by decide +kernel, by decide +kernel⟩, by decide +kernel⟩
theorem mi_X4_isLike : Cond.instanceMethod yX4_isLike ∈ jTB ∧ Cond.selects yX4_isLike.cls yX4_isLike yX4_isLike ∈ jTB := ⟨jTB_5 49 (by decide +kernel) rfl, jTB_5 50 (by decide +kernel) rfl⟩
theorem mt_X4_countPainted : jMth kX4_countPainted := ⟨jTB_4 231 rfl rfl, jTB_1 2 (by decide +kernel) rfl, ⟨by decide +kernel, by decide +kernel⟩, by decide +kernel⟩
theorem mi_X4_countPainted : Cond.instanceMethod yX4_countPainted ∈ jTB ∧ Cond.selects yX4_countPainted.cls yX4_countPainted yX4_countPainted ∈ jTB := ⟨jTB_4 229 (by decide +kernel) rfl, jTB_4 230 (by decide +kernel) rfl⟩
theorem mt_X4_lineOf : jMth kX4_lineOf := ⟨jTB_4 123 rfl rfl, jTB_1 2 (by decide +kernel) rfl, ⟨by decide +kernel, by decide +kernel⟩, by decide +kernel⟩
theorem mi_X4_lineOf : Cond.instanceMethod yX4_lineOf ∈ jTB ∧ Cond.selects yX4_lineOf.cls yX4_lineOf yX4_lineOf ∈ jTB := ⟨jTB_4 121 (by decide +kernel) rfl, jTB_4 122 (by decide +kernel) rfl⟩
theorem mt_X4_columnOf : jMth kX4_columnOf := ⟨jTB_5 25 rfl rfl, jTB_1 2 (by decide +kernel) rfl, ⟨by decide +kernel, by decide +kernel⟩, by decide +kernel⟩
theorem mi_X4_columnOf : Cond.instanceMethod yX4_columnOf ∈ jTB ∧ Cond.selects yX4_columnOf.cls yX4_columnOf yX4_columnOf ∈ jTB := ⟨jTB_5 23 (by decide +kernel) rfl, jTB_5 24 (by decide +kernel) rfl⟩
theorem mt_X4_countLines : jMth kX4_countLines := ⟨jTB_4 119 rfl rfl, jTB_1 2 (by decide +kernel) rfl, ⟨by decide +kernel, by decide +kernel⟩, by decide +kernel⟩
theorem mi_X4_countLines : Cond.instanceMethod yX4_countLines ∈ jTB ∧ Cond.selects yX4_countLines.cls yX4_countLines yX4_countLines ∈ jTB := ⟨jTB_4 117 (by decide +kernel) rfl, jTB_4 118 (by decide +kernel) rfl⟩
theorem mt_X4_longestLine : jMth kX4_longestLine := ⟨jTB_4 127 rfl rfl, jTB_1 2 (by decide +kernel) rfl, ⟨by decide +kernel, by decide +kernel⟩, by decide +kernel⟩
theorem mi_X4_longestLine : Cond.instanceMethod yX4_longestLine ∈ jTB ∧ Cond.selects yX4_longestLine.cls yX4_longestLine yX4_longestLine ∈ jTB := ⟨jTB_4 125 (by decide +kernel) rfl, jTB_4 126 (by decide +kernel) rfl⟩
theorem mt_X4_hash : jMth kX4_hash := ⟨jTB_5 83 rfl rfl, jTB_1 2 (by decide +kernel) rfl, ⟨by decide +kernel, by decide +kernel⟩, by decide +kernel⟩
theorem mi_X4_hash : Cond.instanceMethod yX4_hash ∈ jTB ∧ Cond.selects yX4_hash.cls yX4_hash yX4_hash ∈ jTB := ⟨jTB_5 81 (by decide +kernel) rfl, jTB_5 82 (by decide +kernel) rfl⟩
theorem mt_X5_init : jMth kX5_init := ⟨jTB_2 6 rfl rfl, jTB_1 7 (by decide +kernel) rfl, ⟨by decide +kernel, by decide +kernel⟩, by decide +kernel⟩
theorem mi_X5_init : Cond.instanceMethod yX5_init ∈ jTB := jTB_2 5 (by decide +kernel) rfl
theorem mt_X5_read : jMth kX5_read := ⟨jTB_3 23 rfl rfl, jTB_1 7 (by decide +kernel) rfl, ⟨by decide +kernel, by decide +kernel⟩, by decide +kernel⟩
theorem mi_X5_read : Cond.instanceMethod yX5_read ∈ jTB ∧ Cond.selects yX5_read.cls yX5_read yX5_read ∈ jTB := ⟨jTB_3 21 (by decide +kernel) rfl, jTB_3 22 (by decide +kernel) rfl⟩
theorem mt_X5_readWeight : jMth kX5_readWeight := ⟨jTB_3 33 rfl rfl, jTB_1 7 (by decide +kernel) rfl, ⟨by decide +kernel, by decide +kernel⟩, by decide +kernel⟩
theorem mi_X5_readWeight : Cond.instanceMethod yX5_readWeight ∈ jTB ∧ Cond.selects yX5_readWeight.cls yX5_readWeight yX5_readWeight ∈ jTB := ⟨jTB_3 32 (by decide +kernel) rfl, jTB_in 4 (by decide +kernel) rfl⟩
theorem mt_X5_readElements : jMth kX5_readElements := ⟨jTB_3 48 rfl rfl, jTB_1 7 (by decide +kernel) rfl, ⟨by decide +kernel, by decide +kernel⟩, by decide +kernel⟩
theorem mi_X5_readElements : Cond.instanceMethod yX5_readElements ∈ jTB ∧ Cond.selects yX5_readElements.cls yX5_readElements yX5_readElements ∈ jTB := ⟨jTB_3 47 (by decide +kernel) rfl, jTB_in 7 (by decide +kernel) rfl⟩
theorem mt_X5_readElement : jMth kX5_readElement := ⟨jTB_3 55 rfl rfl, jTB_1 7 (by decide +kernel) rfl, ⟨by decide +kernel, by decide +kernel⟩, by decide +kernel⟩
theorem mi_X5_readElement : Cond.instanceMethod yX5_readElement ∈ jTB ∧ Cond.selects yX5_readElement.cls yX5_readElement yX5_readElement ∈ jTB := ⟨jTB_3 54 (by decide +kernel) rfl, jTB_in 8 (by decide +kernel) rfl⟩
theorem mt_X5_readParts : jMth kX5_readParts := ⟨jTB_3 78 rfl rfl, jTB_1 7 (by decide +kernel) rfl, ⟨by decide +kernel, by decide +kernel⟩, by decide +kernel⟩
theorem mi_X5_readParts : Cond.instanceMethod yX5_readParts ∈ jTB ∧ Cond.selects yX5_readParts.cls yX5_readParts yX5_readParts ∈ jTB := ⟨jTB_3 77 (by decide +kernel) rfl, jTB_in 12 (by decide +kernel) rfl⟩
theorem mt_X5_readPart : jMth kX5_readPart := ⟨jTB_3 82 rfl rfl, jTB_1 7 (by decide +kernel) rfl, ⟨by decide +kernel, by decide +kernel⟩, by decide +kernel⟩
theorem mi_X5_readPart : Cond.instanceMethod yX5_readPart ∈ jTB ∧ Cond.selects yX5_readPart.cls yX5_readPart yX5_readPart ∈ jTB := ⟨jTB_3 81 (by decide +kernel) rfl, jTB_in 13 (by decide +kernel) rfl⟩
theorem mt_X5_readKnownName : jMth kX5_readKnownName := ⟨jTB_3 89 rfl rfl, jTB_1 7 (by decide +kernel) rfl, ⟨by decide +kernel, by decide +kernel⟩, by decide +kernel⟩
theorem mi_X5_readKnownName : Cond.instanceMethod yX5_readKnownName ∈ jTB ∧ Cond.selects yX5_readKnownName.cls yX5_readKnownName yX5_readKnownName ∈ jTB := ⟨jTB_3 88 (by decide +kernel) rfl, jTB_in 14 (by decide +kernel) rfl⟩
theorem mt_X5_readName : jMth kX5_readName := ⟨jTB_3 67 rfl rfl, jTB_1 7 (by decide +kernel) rfl, ⟨by decide +kernel, by decide +kernel⟩, by decide +kernel⟩
theorem mi_X5_readName : Cond.instanceMethod yX5_readName ∈ jTB ∧ Cond.selects yX5_readName.cls yX5_readName yX5_readName ∈ jTB := ⟨jTB_3 66 (by decide +kernel) rfl, jTB_in 11 (by decide +kernel) rfl⟩
theorem mt_X5_readQuote : jMth kX5_readQuote := ⟨jTB_3 59 rfl rfl, jTB_1 7 (by decide +kernel) rfl, ⟨by decide +kernel, by decide +kernel⟩, by decide +kernel⟩
theorem mi_X5_readQuote : Cond.instanceMethod yX5_readQuote ∈ jTB ∧ Cond.selects yX5_readQuote.cls yX5_readQuote yX5_readQuote ∈ jTB := ⟨jTB_3 58 (by decide +kernel) rfl, jTB_in 9 (by decide +kernel) rfl⟩
theorem mt_X5_isOneToken : jMth kX5_isOneToken := ⟨jTB_3 63 rfl rfl, jTB_1 7 (by decide +kernel) rfl, ⟨by decide +kernel, by decide +kernel⟩, by decide +kernel⟩
theorem mi_X5_isOneToken : Cond.instanceMethod yX5_isOneToken ∈ jTB ∧ Cond.selects yX5_isOneToken.cls yX5_isOneToken yX5_isOneToken ∈ jTB := ⟨jTB_3 62 (by decide +kernel) rfl, jTB_in 10 (by decide +kernel) rfl⟩
theorem mt_X5_peek : jMth kX5_peek := ⟨jTB_3 37 rfl rfl, jTB_1 7 (by decide +kernel) rfl, ⟨by decide +kernel, by decide +kernel⟩, by decide +kernel⟩
theorem mi_X5_peek : Cond.instanceMethod yX5_peek ∈ jTB ∧ Cond.selects yX5_peek.cls yX5_peek yX5_peek ∈ jTB := ⟨jTB_3 36 (by decide +kernel) rfl, jTB_in 5 (by decide +kernel) rfl⟩
theorem mt_X5_fail : jMth kX5_fail := ⟨jTB_3 44 rfl rfl, jTB_1 7 (by decide +kernel) rfl, ⟨by decide +kernel, by decide +kernel⟩, by decide +kernel⟩
theorem mi_X5_fail : Cond.instanceMethod yX5_fail ∈ jTB ∧ Cond.selects yX5_fail.cls yX5_fail yX5_fail ∈ jTB := ⟨jTB_3 43 (by decide +kernel) rfl, jTB_in 6 (by decide +kernel) rfl⟩
theorem mt_X5_isNamedSort : jMth kX5_isNamedSort := ⟨jTB_3 51 rfl rfl, jTB_1 7 (by decide +kernel) rfl, ⟨by decide +kernel, by decide +kernel⟩, by decide +kernel⟩
theorem ms_X5_isNamedSort : Cond.static yX5_isNamedSort ∈ jTB := jTB_3 50 (by decide +kernel) rfl
theorem mt_X5_namedSort : jMth kX5_namedSort := ⟨jTB_3 70 rfl rfl, jTB_1 7 (by decide +kernel) rfl, ⟨by decide +kernel, by decide +kernel⟩, by decide +kernel⟩
theorem ms_X5_namedSort : Cond.static yX5_namedSort ∈ jTB := jTB_3 69 (by decide +kernel) rfl
theorem mt_X5_partKindOf : jMth kX5_partKindOf := ⟨jTB_3 85 rfl rfl, jTB_1 7 (by decide +kernel) rfl, ⟨by decide +kernel, by decide +kernel⟩, by decide +kernel⟩
theorem ms_X5_partKindOf : Cond.static yX5_partKindOf ∈ jTB := jTB_3 84 (by decide +kernel) rfl
theorem mt_X6_init : jMth kX6_init := ⟨jTB_1 113 rfl rfl, jTB_1 5 (by decide +kernel) rfl, ⟨by decide +kernel, by decide +kernel⟩, by decide +kernel⟩
theorem mi_X6_init : Cond.instanceMethod yX6_init ∈ jTB := jTB_1 112 (by decide +kernel) rfl
theorem mt_X6_elementNamed : jMth kX6_elementNamed := ⟨jTB_3 74 rfl rfl, jTB_1 5 (by decide +kernel) rfl, ⟨by decide +kernel, by decide +kernel⟩, by decide +kernel⟩
theorem mi_X6_elementNamed : Cond.instanceMethod yX6_elementNamed ∈ jTB ∧ Cond.selects yX6_elementNamed.cls yX6_elementNamed yX6_elementNamed ∈ jTB := ⟨jTB_3 72 (by decide +kernel) rfl, jTB_3 73 (by decide +kernel) rfl⟩
theorem mt_X6_putInOrder : jMth kX6_putInOrder := ⟨jTB_3 94 rfl rfl, jTB_1 5 (by decide +kernel) rfl, ⟨by decide +kernel, by decide +kernel⟩, by decide +kernel⟩
theorem mi_X6_putInOrder : Cond.instanceMethod yX6_putInOrder ∈ jTB ∧ Cond.selects yX6_putInOrder.cls yX6_putInOrder yX6_putInOrder ∈ jTB := ⟨jTB_3 92 (by decide +kernel) rfl, jTB_3 93 (by decide +kernel) rfl⟩
theorem mt_X7_init : jMth kX7_init := ⟨jTB_1 188 rfl rfl, jTB_1 6 (by decide +kernel) rfl, ⟨by decide +kernel, by decide +kernel⟩, by decide +kernel⟩
theorem mi_X7_init : Cond.instanceMethod yX7_init ∈ jTB := jTB_1 187 (by decide +kernel) rfl
theorem mt_X7_copyFrom : jMth kX7_copyFrom := ⟨jTB_2 227 rfl rfl, jTB_1 6 (by decide +kernel) rfl, ⟨by decide +kernel, by decide +kernel⟩, by decide +kernel⟩
theorem mi_X7_copyFrom : Cond.instanceMethod yX7_copyFrom ∈ jTB ∧ Cond.selects yX7_copyFrom.cls yX7_copyFrom yX7_copyFrom ∈ jTB := ⟨jTB_2 225 (by decide +kernel) rfl, jTB_2 226 (by decide +kernel) rfl⟩
theorem mt_X7_takeRules : jMth kX7_takeRules := ⟨jTB_3 98 rfl rfl, jTB_1 6 (by decide +kernel) rfl, ⟨by decide +kernel, by decide +kernel⟩, by decide +kernel⟩
theorem mi_X7_takeRules : Cond.instanceMethod yX7_takeRules ∈ jTB ∧ Cond.selects yX7_takeRules.cls yX7_takeRules yX7_takeRules ∈ jTB := ⟨jTB_3 96 (by decide +kernel) rfl, jTB_3 97 (by decide +kernel) rfl⟩
theorem mt_X7_isOn : jMth kX7_isOn := ⟨jTB_3 114 rfl rfl, jTB_1 6 (by decide +kernel) rfl, ⟨by decide +kernel, by decide +kernel⟩, by decide +kernel⟩
theorem mi_X7_isOn : Cond.instanceMethod yX7_isOn ∈ jTB ∧ Cond.selects yX7_isOn.cls yX7_isOn yX7_isOn ∈ jTB := ⟨jTB_3 112 (by decide +kernel) rfl, jTB_3 113 (by decide +kernel) rfl⟩
theorem mt_X7_isYieldTold : jMth kX7_isYieldTold := ⟨jTB_3 158 rfl rfl, jTB_1 6 (by decide +kernel) rfl, ⟨by decide +kernel, by decide +kernel⟩, by decide +kernel⟩
theorem mi_X7_isYieldTold : Cond.instanceMethod yX7_isYieldTold ∈ jTB ∧ Cond.selects yX7_isYieldTold.cls yX7_isYieldTold yX7_isYieldTold ∈ jTB := ⟨jTB_3 156 (by decide +kernel) rfl, jTB_3 157 (by decide +kernel) rfl⟩
theorem mt_X7_addYield : jMth kX7_addYield := ⟨jTB_3 170 rfl rfl, jTB_1 6 (by decide +kernel) rfl, ⟨by decide +kernel, by decide +kernel⟩, by decide +kernel⟩
theorem mi_X7_addYield : Cond.instanceMethod yX7_addYield ∈ jTB ∧ Cond.selects yX7_addYield.cls yX7_addYield yX7_addYield ∈ jTB := ⟨jTB_3 168 (by decide +kernel) rfl, jTB_3 169 (by decide +kernel) rfl⟩
theorem mt_X7_yieldsTo : jMth kX7_yieldsTo := ⟨jTB_3 166 rfl rfl, jTB_1 6 (by decide +kernel) rfl, ⟨by decide +kernel, by decide +kernel⟩, by decide +kernel⟩
theorem mi_X7_yieldsTo : Cond.instanceMethod yX7_yieldsTo ∈ jTB ∧ Cond.selects yX7_yieldsTo.cls yX7_yieldsTo yX7_yieldsTo ∈ jTB := ⟨jTB_3 164 (by decide +kernel) rfl, jTB_3 165 (by decide +kernel) rfl⟩
theorem mt_X7_reachesByYielding : jMth kX7_reachesByYielding := ⟨jTB_3 162 rfl rfl, jTB_1 6 (by decide +kernel) rfl, ⟨by decide +kernel, by decide +kernel⟩, by decide +kernel⟩
theorem mi_X7_reachesByYielding : Cond.instanceMethod yX7_reachesByYielding ∈ jTB ∧ Cond.selects yX7_reachesByYielding.cls yX7_reachesByYielding yX7_reachesByYielding ∈ jTB := ⟨jTB_3 160 (by decide +kernel) rfl, jTB_3 161 (by decide +kernel) rfl⟩
theorem mt_X7_enterRound : jMth kX7_enterRound := ⟨jTB_4 84 rfl rfl, jTB_1 6 (by decide +kernel) rfl, ⟨by decide +kernel, by decide +kernel⟩, by decide +kernel⟩
theorem mi_X7_enterRound : Cond.instanceMethod yX7_enterRound ∈ jTB ∧ Cond.selects yX7_enterRound.cls yX7_enterRound yX7_enterRound ∈ jTB := ⟨jTB_4 82 (by decide +kernel) rfl, jTB_4 83 (by decide +kernel) rfl⟩
theorem mt_X8_init : jMth kX8_init := ⟨jTB_2 59 rfl rfl, jTB_1 10 (by decide +kernel) rfl, ⟨by decide +kernel, by decide +kernel⟩, by decide +kernel⟩
theorem mi_X8_init : Cond.instanceMethod yX8_init ∈ jTB := jTB_2 58 (by decide +kernel) rfl
theorem mt_X8_split : jMth kX8_split := ⟨jTB_3 190 rfl rfl, jTB_1 10 (by decide +kernel) rfl, ⟨by decide +kernel, by decide +kernel⟩, by decide +kernel⟩
theorem mi_X8_split : Cond.instanceMethod yX8_split ∈ jTB ∧ Cond.selects yX8_split.cls yX8_split yX8_split ∈ jTB := ⟨jTB_3 188 (by decide +kernel) rfl, jTB_3 189 (by decide +kernel) rfl⟩
theorem mt_X8_holding : jMth kX8_holding := ⟨jTB_4 144 rfl rfl, jTB_1 10 (by decide +kernel) rfl, ⟨by decide +kernel, by decide +kernel⟩, by decide +kernel⟩
theorem mi_X8_holding : Cond.instanceMethod yX8_holding ∈ jTB ∧ Cond.selects yX8_holding.cls yX8_holding yX8_holding ∈ jTB := ⟨jTB_4 142 (by decide +kernel) rfl, jTB_4 143 (by decide +kernel) rfl⟩
theorem mt_X9_init : jMth kX9_init := ⟨jTB_1 21 rfl rfl, jTB_1 1 (by decide +kernel) rfl, ⟨by decide +kernel, by decide +kernel⟩, by decide +kernel⟩
theorem mi_X9_init : Cond.instanceMethod yX9_init ∈ jTB := jTB_1 20 (by decide +kernel) rfl
theorem mt_X9_feed : jMth kX9_feed := ⟨jTB_2 193 rfl rfl, jTB_1 1 (by decide +kernel) rfl, ⟨by decide +kernel, by decide +kernel⟩, by decide +kernel⟩
theorem mi_X9_feed : Cond.instanceMethod yX9_feed ∈ jTB ∧ Cond.selects yX9_feed.cls yX9_feed yX9_feed ∈ jTB := ⟨jTB_2 191 (by decide +kernel) rfl, jTB_2 192 (by decide +kernel) rfl⟩
theorem mt_X9_end : jMth kX9_end := ⟨jTB_2 201 rfl rfl, jTB_1 1 (by decide +kernel) rfl, ⟨by decide +kernel, by decide +kernel⟩, by decide +kernel⟩
theorem mi_X9_end : Cond.instanceMethod yX9_end ∈ jTB ∧ Cond.selects yX9_end.cls yX9_end yX9_end ∈ jTB := ⟨jTB_2 199 (by decide +kernel) rfl, jTB_2 200 (by decide +kernel) rfl⟩
theorem mt_X9_text : jMth kX9_text := ⟨jTB_2 205 rfl rfl, jTB_1 1 (by decide +kernel) rfl, ⟨by decide +kernel, by decide +kernel⟩, by decide +kernel⟩
theorem mi_X9_text : Cond.instanceMethod yX9_text ∈ jTB ∧ Cond.selects yX9_text.cls yX9_text yX9_text ∈ jTB := ⟨jTB_2 203 (by decide +kernel) rfl, jTB_2 204 (by decide +kernel) rfl⟩
theorem mt_X9_rules : jMth kX9_rules := ⟨jTB_3 19 rfl rfl, jTB_1 1 (by decide +kernel) rfl, ⟨by decide +kernel, by decide +kernel⟩, by decide +kernel⟩
theorem mi_X9_rules : Cond.instanceMethod yX9_rules ∈ jTB ∧ Cond.selects yX9_rules.cls yX9_rules yX9_rules ∈ jTB := ⟨jTB_3 17 (by decide +kernel) rfl, jTB_3 18 (by decide +kernel) rfl⟩
theorem mt_X9_fault : jMth kX9_fault := ⟨jTB_3 102 rfl rfl, jTB_1 1 (by decide +kernel) rfl, ⟨by decide +kernel, by decide +kernel⟩, by decide +kernel⟩
theorem mi_X9_fault : Cond.instanceMethod yX9_fault ∈ jTB ∧ Cond.selects yX9_fault.cls yX9_fault yX9_fault ∈ jTB := ⟨jTB_3 100 (by decide +kernel) rfl, jTB_3 101 (by decide +kernel) rfl⟩
theorem mt_X9_on : jMth kX9_on := ⟨jTB_3 106 rfl rfl, jTB_1 1 (by decide +kernel) rfl, ⟨by decide +kernel, by decide +kernel⟩, by decide +kernel⟩
theorem mi_X9_on : Cond.instanceMethod yX9_on ∈ jTB ∧ Cond.selects yX9_on.cls yX9_on yX9_on ∈ jTB := ⟨jTB_3 104 (by decide +kernel) rfl, jTB_3 105 (by decide +kernel) rfl⟩
theorem mt_X9_silence : jMth kX9_silence := ⟨jTB_3 118 rfl rfl, jTB_1 1 (by decide +kernel) rfl, ⟨by decide +kernel, by decide +kernel⟩, by decide +kernel⟩
theorem mi_X9_silence : Cond.instanceMethod yX9_silence ∈ jTB ∧ Cond.selects yX9_silence.cls yX9_silence yX9_silence ∈ jTB := ⟨jTB_3 116 (by decide +kernel) rfl, jTB_3 117 (by decide +kernel) rfl⟩
theorem mt_X9_hear : jMth kX9_hear := ⟨jTB_3 126 rfl rfl, jTB_1 1 (by decide +kernel) rfl, ⟨by decide +kernel, by decide +kernel⟩, by decide +kernel⟩
theorem mi_X9_hear : Cond.instanceMethod yX9_hear ∈ jTB ∧ Cond.selects yX9_hear.cls yX9_hear yX9_hear ∈ jTB := ⟨jTB_3 124 (by decide +kernel) rfl, jTB_3 125 (by decide +kernel) rfl⟩
theorem mt_X9_measure : jMth kX9_measure := ⟨jTB_3 134 rfl rfl, jTB_1 1 (by decide +kernel) rfl, ⟨by decide +kernel, by decide +kernel⟩, by decide +kernel⟩
theorem mi_X9_measure : Cond.instanceMethod yX9_measure ∈ jTB ∧ Cond.selects yX9_measure.cls yX9_measure yX9_measure ∈ jTB := ⟨jTB_3 132 (by decide +kernel) rfl, jTB_3 133 (by decide +kernel) rfl⟩
theorem mt_X9_most : jMth kX9_most := ⟨jTB_3 138 rfl rfl, jTB_1 1 (by decide +kernel) rfl, ⟨by decide +kernel, by decide +kernel⟩, by decide +kernel⟩
theorem mi_X9_most : Cond.instanceMethod yX9_most ∈ jTB ∧ Cond.selects yX9_most.cls yX9_most yX9_most ∈ jTB := ⟨jTB_3 136 (by decide +kernel) rfl, jTB_3 137 (by decide +kernel) rfl⟩
theorem mt_X9_put : jMth kX9_put := ⟨jTB_3 142 rfl rfl, jTB_1 1 (by decide +kernel) rfl, ⟨by decide +kernel, by decide +kernel⟩, by decide +kernel⟩
theorem mi_X9_put : Cond.instanceMethod yX9_put ∈ jTB ∧ Cond.selects yX9_put.cls yX9_put yX9_put ∈ jTB := ⟨jTB_3 140 (by decide +kernel) rfl, jTB_3 141 (by decide +kernel) rfl⟩
theorem mt_X9_yields : jMth kX9_yields := ⟨jTB_3 154 rfl rfl, jTB_1 1 (by decide +kernel) rfl, ⟨by decide +kernel, by decide +kernel⟩, by decide +kernel⟩
theorem mi_X9_yields : Cond.instanceMethod yX9_yields ∈ jTB ∧ Cond.selects yX9_yields.cls yX9_yields yX9_yields ∈ jTB := ⟨jTB_3 152 (by decide +kernel) rfl, jTB_3 153 (by decide +kernel) rfl⟩
theorem mt_X9_insist : jMth kX9_insist := ⟨jTB_3 174 rfl rfl, jTB_1 1 (by decide +kernel) rfl, ⟨by decide +kernel, by decide +kernel⟩, by decide +kernel⟩
theorem mi_X9_insist : Cond.instanceMethod yX9_insist ∈ jTB ∧ Cond.selects yX9_insist.cls yX9_insist yX9_insist ∈ jTB := ⟨jTB_3 172 (by decide +kernel) rfl, jTB_3 173 (by decide +kernel) rfl⟩
theorem mt_X9_apply : jMth kX9_apply := ⟨jTB_3 178 rfl rfl, jTB_1 1 (by decide +kernel) rfl, ⟨by decide +kernel, by decide +kernel⟩, by decide +kernel⟩
theorem mi_X9_apply : Cond.instanceMethod yX9_apply ∈ jTB ∧ Cond.selects yX9_apply.cls yX9_apply yX9_apply ∈ jTB := ⟨jTB_3 176 (by decide +kernel) rfl, jTB_3 177 (by decide +kernel) rfl⟩
theorem mt_X9_make : jMth kX9_make := ⟨jTB_4 67 rfl rfl, jTB_1 1 (by decide +kernel) rfl, ⟨by decide +kernel, by decide +kernel⟩, by decide +kernel⟩
theorem mi_X9_make : Cond.instanceMethod yX9_make ∈ jTB ∧ Cond.selects yX9_make.cls yX9_make yX9_make ∈ jTB := ⟨jTB_4 65 (by decide +kernel) rfl, jTB_4 66 (by decide +kernel) rfl⟩
theorem mt_X9_undo : jMth kX9_undo := ⟨jTB_4 88 rfl rfl, jTB_1 1 (by decide +kernel) rfl, ⟨by decide +kernel, by decide +kernel⟩, by decide +kernel⟩
theorem mi_X9_undo : Cond.instanceMethod yX9_undo ∈ jTB ∧ Cond.selects yX9_undo.cls yX9_undo yX9_undo ∈ jTB := ⟨jTB_4 86 (by decide +kernel) rfl, jTB_4 87 (by decide +kernel) rfl⟩
theorem mt_X9_is : jMth kX9_is := ⟨jTB_4 96 rfl rfl, jTB_1 1 (by decide +kernel) rfl, ⟨by decide +kernel, by decide +kernel⟩, by decide +kernel⟩
theorem mi_X9_is : Cond.instanceMethod yX9_is ∈ jTB ∧ Cond.selects yX9_is.cls yX9_is yX9_is ∈ jTB := ⟨jTB_4 94 (by decide +kernel) rfl, jTB_4 95 (by decide +kernel) rfl⟩
theorem mt_X9_at : jMth kX9_at := ⟨jTB_4 132 rfl rfl, jTB_1 1 (by decide +kernel) rfl, ⟨by decide +kernel, by decide +kernel⟩, by decide +kernel⟩
theorem mi_X9_at : Cond.instanceMethod yX9_at ∈ jTB ∧ Cond.selects yX9_at.cls yX9_at yX9_at ∈ jTB := ⟨jTB_4 130 (by decide +kernel) rfl, jTB_4 131 (by decide +kernel) rfl⟩
theorem mt_X9_token : jMth kX9_token := ⟨jTB_4 136 rfl rfl, jTB_1 1 (by decide +kernel) rfl, ⟨by decide +kernel, by decide +kernel⟩, by decide +kernel⟩
theorem mi_X9_token : Cond.instanceMethod yX9_token ∈ jTB ∧ Cond.selects yX9_token.cls yX9_token yX9_token ∈ jTB := ⟨jTB_4 134 (by decide +kernel) rfl, jTB_4 135 (by decide +kernel) rfl⟩
theorem mt_X9_tokenAt : jMth kX9_tokenAt := ⟨jTB_4 140 rfl rfl, jTB_1 1 (by decide +kernel) rfl, ⟨by decide +kernel, by decide +kernel⟩, by decide +kernel⟩
theorem mi_X9_tokenAt : Cond.instanceMethod yX9_tokenAt ∈ jTB ∧ Cond.selects yX9_tokenAt.cls yX9_tokenAt yX9_tokenAt ∈ jTB := ⟨jTB_4 138 (by decide +kernel) rfl, jTB_4 139 (by decide +kernel) rfl⟩
theorem mt_X9_rule : jMth kX9_rule := ⟨jTB_4 148 rfl rfl, jTB_1 1 (by decide +kernel) rfl, ⟨by decide +kernel, by decide +kernel⟩, by decide +kernel⟩
theorem mi_X9_rule : Cond.instanceMethod yX9_rule ∈ jTB ∧ Cond.selects yX9_rule.cls yX9_rule yX9_rule ∈ jTB := ⟨jTB_4 146 (by decide +kernel) rfl, jTB_4 147 (by decide +kernel) rfl⟩
theorem mt_X9_fits : jMth kX9_fits := ⟨jTB_4 156 rfl rfl, jTB_1 1 (by decide +kernel) rfl, ⟨by decide +kernel, by decide +kernel⟩, by decide +kernel⟩
theorem mi_X9_fits : Cond.instanceMethod yX9_fits ∈ jTB ∧ Cond.selects yX9_fits.cls yX9_fits yX9_fits ∈ jTB := ⟨jTB_4 154 (by decide +kernel) rfl, jTB_4 155 (by decide +kernel) rfl⟩
theorem mt_X9_finding : jMth kX9_finding := ⟨jTB_4 161 rfl rfl, jTB_1 1 (by decide +kernel) rfl, ⟨by decide +kernel, by decide +kernel⟩, by decide +kernel⟩
theorem mi_X9_finding : Cond.instanceMethod yX9_finding ∈ jTB ∧ Cond.selects yX9_finding.cls yX9_finding yX9_finding ∈ jTB := ⟨jTB_4 159 (by decide +kernel) rfl, jTB_4 160 (by decide +kernel) rfl⟩
theorem mt_X9_fresh : jMth kX9_fresh := ⟨jTB_4 171 rfl rfl, jTB_1 1 (by decide +kernel) rfl, ⟨by decide +kernel, by decide +kernel⟩, by decide +kernel⟩
theorem mi_X9_fresh : Cond.instanceMethod yX9_fresh ∈ jTB ∧ Cond.selects yX9_fresh.cls yX9_fresh yX9_fresh ∈ jTB := ⟨jTB_4 169 (by decide +kernel) rfl, jTB_4 170 (by decide +kernel) rfl⟩
theorem mt_X9_clashes : jMth kX9_clashes := ⟨jTB_4 179 rfl rfl, jTB_1 1 (by decide +kernel) rfl, ⟨by decide +kernel, by decide +kernel⟩, by decide +kernel⟩
theorem mi_X9_clashes : Cond.instanceMethod yX9_clashes ∈ jTB ∧ Cond.selects yX9_clashes.cls yX9_clashes yX9_clashes ∈ jTB := ⟨jTB_4 177 (by decide +kernel) rfl, jTB_4 178 (by decide +kernel) rfl⟩
theorem mt_X9_set : jMth kX9_set := ⟨jTB_4 187 rfl rfl, jTB_1 1 (by decide +kernel) rfl, ⟨by decide +kernel, by decide +kernel⟩, by decide +kernel⟩
theorem mi_X9_set : Cond.instanceMethod yX9_set ∈ jTB ∧ Cond.selects yX9_set.cls yX9_set yX9_set ∈ jTB := ⟨jTB_4 185 (by decide +kernel) rfl, jTB_4 186 (by decide +kernel) rfl⟩
theorem mt_X9_worth : jMth kX9_worth := ⟨jTB_4 191 rfl rfl, jTB_1 1 (by decide +kernel) rfl, ⟨by decide +kernel, by decide +kernel⟩, by decide +kernel⟩
theorem mi_X9_worth : Cond.instanceMethod yX9_worth ∈ jTB ∧ Cond.selects yX9_worth.cls yX9_worth yX9_worth ∈ jTB := ⟨jTB_4 189 (by decide +kernel) rfl, jTB_4 190 (by decide +kernel) rfl⟩
theorem mt_X9_chosen : jMth kX9_chosen := ⟨jTB_4 195 rfl rfl, jTB_1 1 (by decide +kernel) rfl, ⟨by decide +kernel, by decide +kernel⟩, by decide +kernel⟩
theorem mi_X9_chosen : Cond.instanceMethod yX9_chosen ∈ jTB ∧ Cond.selects yX9_chosen.cls yX9_chosen yX9_chosen ∈ jTB := ⟨jTB_4 193 (by decide +kernel) rfl, jTB_4 194 (by decide +kernel) rfl⟩
theorem mt_X9_without : jMth kX9_without := ⟨jTB_4 203 rfl rfl, jTB_1 1 (by decide +kernel) rfl, ⟨by decide +kernel, by decide +kernel⟩, by decide +kernel⟩
theorem mi_X9_without : Cond.instanceMethod yX9_without ∈ jTB ∧ Cond.selects yX9_without.cls yX9_without yX9_without ∈ jTB := ⟨jTB_4 201 (by decide +kernel) rfl, jTB_4 202 (by decide +kernel) rfl⟩
theorem mt_X9_span : jMth kX9_span := ⟨jTB_4 207 rfl rfl, jTB_1 1 (by decide +kernel) rfl, ⟨by decide +kernel, by decide +kernel⟩, by decide +kernel⟩
theorem mi_X9_span : Cond.instanceMethod yX9_span ∈ jTB ∧ Cond.selects yX9_span.cls yX9_span yX9_span ∈ jTB := ⟨jTB_4 205 (by decide +kernel) rfl, jTB_4 206 (by decide +kernel) rfl⟩
theorem mt_X9_silenced : jMth kX9_silenced := ⟨jTB_4 211 rfl rfl, jTB_1 1 (by decide +kernel) rfl, ⟨by decide +kernel, by decide +kernel⟩, by decide +kernel⟩
theorem mi_X9_silenced : Cond.instanceMethod yX9_silenced ∈ jTB ∧ Cond.selects yX9_silenced.cls yX9_silenced yX9_silenced ∈ jTB := ⟨jTB_4 209 (by decide +kernel) rfl, jTB_4 210 (by decide +kernel) rfl⟩
theorem mt_X9_isSilent : jMth kX9_isSilent := ⟨jTB_4 215 rfl rfl, jTB_1 1 (by decide +kernel) rfl, ⟨by decide +kernel, by decide +kernel⟩, by decide +kernel⟩
theorem mi_X9_isSilent : Cond.instanceMethod yX9_isSilent ∈ jTB ∧ Cond.selects yX9_isSilent.cls yX9_isSilent yX9_isSilent ∈ jTB := ⟨jTB_4 213 (by decide +kernel) rfl, jTB_4 214 (by decide +kernel) rfl⟩
theorem mt_X9_yielding : jMth kX9_yielding := ⟨jTB_4 219 rfl rfl, jTB_1 1 (by decide +kernel) rfl, ⟨by decide +kernel, by decide +kernel⟩, by decide +kernel⟩
theorem mi_X9_yielding : Cond.instanceMethod yX9_yielding ∈ jTB ∧ Cond.selects yX9_yielding.cls yX9_yielding yX9_yielding ∈ jTB := ⟨jTB_4 217 (by decide +kernel) rfl, jTB_4 218 (by decide +kernel) rfl⟩
theorem mt_X9_paint : jMth kX9_paint := ⟨jTB_4 223 rfl rfl, jTB_1 1 (by decide +kernel) rfl, ⟨by decide +kernel, by decide +kernel⟩, by decide +kernel⟩
theorem mi_X9_paint : Cond.instanceMethod yX9_paint ∈ jTB ∧ Cond.selects yX9_paint.cls yX9_paint yX9_paint ∈ jTB := ⟨jTB_4 221 (by decide +kernel) rfl, jTB_4 222 (by decide +kernel) rfl⟩
theorem mt_X9_painted : jMth kX9_painted := ⟨jTB_4 227 rfl rfl, jTB_1 1 (by decide +kernel) rfl, ⟨by decide +kernel, by decide +kernel⟩, by decide +kernel⟩
theorem mi_X9_painted : Cond.instanceMethod yX9_painted ∈ jTB ∧ Cond.selects yX9_painted.cls yX9_painted yX9_painted ∈ jTB := ⟨jTB_4 225 (by decide +kernel) rfl, jTB_4 226 (by decide +kernel) rfl⟩
theorem mt_X9_book : jMth kX9_book := ⟨jTB_4 235 rfl rfl, jTB_1 1 (by decide +kernel) rfl, ⟨by decide +kernel, by decide +kernel⟩, by decide +kernel⟩
theorem mi_X9_book : Cond.instanceMethod yX9_book ∈ jTB ∧ Cond.selects yX9_book.cls yX9_book yX9_book ∈ jTB := ⟨jTB_4 233 (by decide +kernel) rfl, jTB_4 234 (by decide +kernel) rfl⟩
theorem mt_X9_common : jMth kX9_common := ⟨jTB_4 239 rfl rfl, jTB_1 1 (by decide +kernel) rfl, ⟨by decide +kernel, by decide +kernel⟩, by decide +kernel⟩
theorem mi_X9_common : Cond.instanceMethod yX9_common ∈ jTB ∧ Cond.selects yX9_common.cls yX9_common yX9_common ∈ jTB := ⟨jTB_4 237 (by decide +kernel) rfl, jTB_4 238 (by decide +kernel) rfl⟩
theorem mt_X9_paired : jMth kX9_paired := ⟨jTB_5 12 rfl rfl, jTB_1 1 (by decide +kernel) rfl, ⟨by decide +kernel, by decide +kernel⟩, by decide +kernel⟩
theorem mi_X9_paired : Cond.instanceMethod yX9_paired ∈ jTB ∧ Cond.selects yX9_paired.cls yX9_paired yX9_paired ∈ jTB := ⟨jTB_5 10 (by decide +kernel) rfl, jTB_5 11 (by decide +kernel) rfl⟩
theorem mt_X9_line : jMth kX9_line := ⟨jTB_5 20 rfl rfl, jTB_1 1 (by decide +kernel) rfl, ⟨by decide +kernel, by decide +kernel⟩, by decide +kernel⟩
theorem mi_X9_line : Cond.instanceMethod yX9_line ∈ jTB ∧ Cond.selects yX9_line.cls yX9_line yX9_line ∈ jTB := ⟨jTB_5 18 (by decide +kernel) rfl, jTB_5 19 (by decide +kernel) rfl⟩
theorem mt_X9_circling : jMth kX9_circling := ⟨jTB_5 29 rfl rfl, jTB_1 1 (by decide +kernel) rfl, ⟨by decide +kernel, by decide +kernel⟩, by decide +kernel⟩
theorem mi_X9_circling : Cond.instanceMethod yX9_circling ∈ jTB ∧ Cond.selects yX9_circling.cls yX9_circling yX9_circling ∈ jTB := ⟨jTB_5 27 (by decide +kernel) rfl, jTB_5 28 (by decide +kernel) rfl⟩
theorem mt_X9_course : jMth kX9_course := ⟨jTB_5 66 rfl rfl, jTB_1 1 (by decide +kernel) rfl, ⟨by decide +kernel, by decide +kernel⟩, by decide +kernel⟩
theorem mi_X9_course : Cond.instanceMethod yX9_course ∈ jTB ∧ Cond.selects yX9_course.cls yX9_course yX9_course ∈ jTB := ⟨jTB_5 64 (by decide +kernel) rfl, jTB_5 65 (by decide +kernel) rfl⟩
theorem mt_X9_later : jMth kX9_later := ⟨jTB_5 75 rfl rfl, jTB_1 1 (by decide +kernel) rfl, ⟨by decide +kernel, by decide +kernel⟩, by decide +kernel⟩
theorem mi_X9_later : Cond.instanceMethod yX9_later ∈ jTB ∧ Cond.selects yX9_later.cls yX9_later yX9_later ∈ jTB := ⟨jTB_5 73 (by decide +kernel) rfl, jTB_5 74 (by decide +kernel) rfl⟩
theorem mt_X9_digest : jMth kX9_digest := ⟨jTB_5 79 rfl rfl, jTB_1 1 (by decide +kernel) rfl, ⟨by decide +kernel, by decide +kernel⟩, by decide +kernel⟩
theorem mi_X9_digest : Cond.instanceMethod yX9_digest ∈ jTB ∧ Cond.selects yX9_digest.cls yX9_digest yX9_digest ∈ jTB := ⟨jTB_5 77 (by decide +kernel) rfl, jTB_5 78 (by decide +kernel) rfl⟩
theorem mt_X9_used : jMth kX9_used := ⟨jTB_5 87 rfl rfl, jTB_1 1 (by decide +kernel) rfl, ⟨by decide +kernel, by decide +kernel⟩, by decide +kernel⟩
theorem mi_X9_used : Cond.instanceMethod yX9_used ∈ jTB ∧ Cond.selects yX9_used.cls yX9_used yX9_used ∈ jTB := ⟨jTB_5 85 (by decide +kernel) rfl, jTB_5 86 (by decide +kernel) rfl⟩
theorem mt_X9_cure : jMth kX9_cure := ⟨jTB_5 91 rfl rfl, jTB_1 1 (by decide +kernel) rfl, ⟨by decide +kernel, by decide +kernel⟩, by decide +kernel⟩
theorem mi_X9_cure : Cond.instanceMethod yX9_cure ∈ jTB ∧ Cond.selects yX9_cure.cls yX9_cure yX9_cure ∈ jTB := ⟨jTB_5 89 (by decide +kernel) rfl, jTB_5 90 (by decide +kernel) rfl⟩
theorem mt_X9_mean : jMth kX9_mean := ⟨jTB_5 101 rfl rfl, jTB_1 1 (by decide +kernel) rfl, ⟨by decide +kernel, by decide +kernel⟩, by decide +kernel⟩
theorem mi_X9_mean : Cond.instanceMethod yX9_mean ∈ jTB ∧ Cond.selects yX9_mean.cls yX9_mean yX9_mean ∈ jTB := ⟨jTB_5 99 (by decide +kernel) rfl, jTB_5 100 (by decide +kernel) rfl⟩
theorem mt_X9_share : jMth kX9_share := ⟨jTB_5 113 rfl rfl, jTB_1 1 (by decide +kernel) rfl, ⟨by decide +kernel, by decide +kernel⟩, by decide +kernel⟩
theorem mi_X9_share : Cond.instanceMethod yX9_share ∈ jTB ∧ Cond.selects yX9_share.cls yX9_share yX9_share ∈ jTB := ⟨jTB_5 111 (by decide +kernel) rfl, jTB_5 112 (by decide +kernel) rfl⟩
theorem mt_X9_image : jMth kX9_image := ⟨jTB_5 127 rfl rfl, jTB_1 1 (by decide +kernel) rfl, ⟨by decide +kernel, by decide +kernel⟩, by decide +kernel⟩
theorem mi_X9_image : Cond.instanceMethod yX9_image ∈ jTB ∧ Cond.selects yX9_image.cls yX9_image yX9_image ∈ jTB := ⟨jTB_5 125 (by decide +kernel) rfl, jTB_5 126 (by decide +kernel) rfl⟩
theorem mt_X9_back : jMth kX9_back := ⟨jTB_5 136 rfl rfl, jTB_1 1 (by decide +kernel) rfl, ⟨by decide +kernel, by decide +kernel⟩, by decide +kernel⟩
theorem mi_X9_back : Cond.instanceMethod yX9_back ∈ jTB ∧ Cond.selects yX9_back.cls yX9_back yX9_back ∈ jTB := ⟨jTB_5 134 (by decide +kernel) rfl, jTB_5 135 (by decide +kernel) rfl⟩
theorem mt_X9_steps : jMth kX9_steps := ⟨jTB_5 140 rfl rfl, jTB_1 1 (by decide +kernel) rfl, ⟨by decide +kernel, by decide +kernel⟩, by decide +kernel⟩
theorem mi_X9_steps : Cond.instanceMethod yX9_steps ∈ jTB ∧ Cond.selects yX9_steps.cls yX9_steps yX9_steps ∈ jTB := ⟨jTB_5 138 (by decide +kernel) rfl, jTB_5 139 (by decide +kernel) rfl⟩
theorem mt_X9_spool : jMth kX9_spool := ⟨jTB_2 197 rfl rfl, jTB_1 1 (by decide +kernel) rfl, ⟨by decide +kernel, by decide +kernel⟩, by decide +kernel⟩
theorem mi_X9_spool : Cond.instanceMethod yX9_spool ∈ jTB ∧ Cond.selects yX9_spool.cls yX9_spool yX9_spool ∈ jTB := ⟨jTB_2 196 (by decide +kernel) rfl, jTB_in 0 (by decide +kernel) rfl⟩
theorem mt_X9_isRule : jMth kX9_isRule := ⟨jTB_3 110 rfl rfl, jTB_1 1 (by decide +kernel) rfl, ⟨by decide +kernel, by decide +kernel⟩, by decide +kernel⟩
theorem mi_X9_isRule : Cond.instanceMethod yX9_isRule ∈ jTB ∧ Cond.selects yX9_isRule.cls yX9_isRule yX9_isRule ∈ jTB := ⟨jTB_3 109 (by decide +kernel) rfl, jTB_in 15 (by decide +kernel) rfl⟩
theorem mt_X9_isByte : jMth kX9_isByte := ⟨jTB_3 146 rfl rfl, jTB_1 1 (by decide +kernel) rfl, ⟨by decide +kernel, by decide +kernel⟩, by decide +kernel⟩
theorem mi_X9_isByte : Cond.instanceMethod yX9_isByte ∈ jTB ∧ Cond.selects yX9_isByte.cls yX9_isByte yX9_isByte ∈ jTB := ⟨jTB_3 145 (by decide +kernel) rfl, jTB_in 16 (by decide +kernel) rfl⟩
theorem mt_X9_keepStep : jMth kX9_keepStep := ⟨jTB_2 212 rfl rfl, jTB_1 1 (by decide +kernel) rfl, ⟨by decide +kernel, by decide +kernel⟩, by decide +kernel⟩
theorem mi_X9_keepStep : Cond.instanceMethod yX9_keepStep ∈ jTB ∧ Cond.selects yX9_keepStep.cls yX9_keepStep yX9_keepStep ∈ jTB := ⟨jTB_2 211 (by decide +kernel) rfl, jTB_in 1 (by decide +kernel) rfl⟩
theorem mt_X9_forget : jMth kX9_forget := ⟨jTB_3 7 rfl rfl, jTB_1 1 (by decide +kernel) rfl, ⟨by decide +kernel, by decide +kernel⟩, by decide +kernel⟩
theorem mi_X9_forget : Cond.instanceMethod yX9_forget ∈ jTB ∧ Cond.selects yX9_forget.cls yX9_forget yX9_forget ∈ jTB := ⟨jTB_3 6 (by decide +kernel) rfl, jTB_in 3 (by decide +kernel) rfl⟩
theorem mt_X9_found : jMth kX9_found := ⟨jTB_3 182 rfl rfl, jTB_1 1 (by decide +kernel) rfl, ⟨by decide +kernel, by decide +kernel⟩, by decide +kernel⟩
theorem mi_X9_found : Cond.instanceMethod yX9_found ∈ jTB ∧ Cond.selects yX9_found.cls yX9_found yX9_found ∈ jTB := ⟨jTB_3 181 (by decide +kernel) rfl, jTB_in 17 (by decide +kernel) rfl⟩
theorem mt_X9_way : jMth kX9_way := ⟨jTB_5 33 rfl rfl, jTB_1 1 (by decide +kernel) rfl, ⟨by decide +kernel, by decide +kernel⟩, by decide +kernel⟩
theorem mi_X9_way : Cond.instanceMethod yX9_way ∈ jTB ∧ Cond.selects yX9_way.cls yX9_way yX9_way ∈ jTB := ⟨jTB_5 32 (by decide +kernel) rfl, jTB_in 37 (by decide +kernel) rfl⟩
theorem mt_X9_makeRound : jMth kX9_makeRound := ⟨jTB_4 76 rfl rfl, jTB_1 1 (by decide +kernel) rfl, ⟨by decide +kernel, by decide +kernel⟩, by decide +kernel⟩
theorem mi_X9_makeRound : Cond.instanceMethod yX9_makeRound ∈ jTB ∧ Cond.selects yX9_makeRound.cls yX9_makeRound yX9_makeRound ∈ jTB := ⟨jTB_4 75 (by decide +kernel) rfl, jTB_in 35 (by decide +kernel) rfl⟩
theorem mt_X9_mayStandInText : jMth kX9_mayStandInText := ⟨jTB_2 208 rfl rfl, jTB_1 1 (by decide +kernel) rfl, ⟨by decide +kernel, by decide +kernel⟩, by decide +kernel⟩
theorem ms_X9_mayStandInText : Cond.static yX9_mayStandInText ∈ jTB := jTB_2 207 (by decide +kernel) rfl
theorem mt_X9_sortOf : jMth kX9_sortOf := ⟨jTB_3 40 rfl rfl, jTB_1 1 (by decide +kernel) rfl, ⟨by decide +kernel, by decide +kernel⟩, by decide +kernel⟩
theorem ms_X9_sortOf : Cond.static yX9_sortOf ∈ jTB := jTB_3 39 (by decide +kernel) rfl
theorem mt_X9_bitsOfFloat : jMth kX9_bitsOfFloat := ⟨jTB_5 108 rfl rfl, jTB_1 1 (by decide +kernel) rfl, ⟨by decide +kernel, by decide +kernel⟩, by decide +kernel⟩
theorem ms_X9_bitsOfFloat : Cond.static yX9_bitsOfFloat ∈ jTB := jTB_5 107 (by decide +kernel) rfl
theorem mt_X9_bitsOfDouble : jMth kX9_bitsOfDouble := ⟨jTB_5 120 rfl rfl, jTB_1 1 (by decide +kernel) rfl, ⟨by decide +kernel, by decide +kernel⟩, by decide +kernel⟩
theorem ms_X9_bitsOfDouble : Cond.static yX9_bitsOfDouble ∈ jTB := jTB_5 119 (by decide +kernel) rfl
theorem mt_X10_init : jMth kX10_init := ⟨jTB_5 145 rfl rfl, jTB_1 11 (by decide +kernel) rfl, ⟨by decide +kernel, by decide +kernel⟩, by decide +kernel⟩
theorem mi_X10_init : Cond.instanceMethod yX10_init ∈ jTB := jTB_5 144 (by decide +kernel) rfl
theorem mt_X10_copy : jMth kX10_copy := ⟨jTB_5 149 rfl rfl, jTB_1 11 (by decide +kernel) rfl, ⟨by decide +kernel, by decide +kernel⟩, by decide +kernel⟩
theorem ms_X10_copy : Cond.static yX10_copy ∈ jTB := jTB_5 148 (by decide +kernel) rfl
theorem mt_X10_isIn : jMth kX10_isIn := ⟨jTB_6 65 rfl rfl, jTB_1 11 (by decide +kernel) rfl, ⟨by decide +kernel, by decide +kernel⟩, by decide +kernel⟩
theorem ms_X10_isIn : Cond.static yX10_isIn ∈ jTB := jTB_6 64 (by decide +kernel) rfl
theorem mt_X10_isLetter : jMth kX10_isLetter := ⟨jTB_6 127 rfl rfl, jTB_1 11 (by decide +kernel) rfl, ⟨by decide +kernel, by decide +kernel⟩, by decide +kernel⟩
theorem ms_X10_isLetter : Cond.static yX10_isLetter ∈ jTB := jTB_6 126 (by decide +kernel) rfl
theorem mt_X10_isFigure : jMth kX10_isFigure := ⟨jTB_6 95 rfl rfl, jTB_1 11 (by decide +kernel) rfl, ⟨by decide +kernel, by decide +kernel⟩, by decide +kernel⟩
theorem ms_X10_isFigure : Cond.static yX10_isFigure ∈ jTB := jTB_6 94 (by decide +kernel) rfl
theorem mt_X10_isBlank : jMth kX10_isBlank := ⟨jTB_6 130 rfl rfl, jTB_1 11 (by decide +kernel) rfl, ⟨by decide +kernel, by decide +kernel⟩, by decide +kernel⟩
theorem ms_X10_isBlank : Cond.static yX10_isBlank ∈ jTB := jTB_6 129 (by decide +kernel) rfl
theorem mt_X10_isByte : jMth kX10_isByte := ⟨jTB_6 72 rfl rfl, jTB_1 11 (by decide +kernel) rfl, ⟨by decide +kernel, by decide +kernel⟩, by decide +kernel⟩
theorem ms_X10_isByte : Cond.static yX10_isByte ∈ jTB := jTB_6 71 (by decide +kernel) rfl
theorem mt_X10_sortOf : jMth kX10_sortOf := ⟨jTB_6 124 rfl rfl, jTB_1 11 (by decide +kernel) rfl, ⟨by decide +kernel, by decide +kernel⟩, by decide +kernel⟩
theorem ms_X10_sortOf : Cond.static yX10_sortOf ∈ jTB := jTB_6 123 (by decide +kernel) rfl
theorem mt_X10_byteAt : jMth kX10_byteAt := ⟨jTB_6 236 rfl rfl, jTB_1 11 (by decide +kernel) rfl, ⟨by decide +kernel, by decide +kernel⟩, by decide +kernel⟩
theorem mi_X10_byteAt : Cond.instanceMethod yX10_byteAt ∈ jTB ∧ Cond.selects yX10_byteAt.cls yX10_byteAt yX10_byteAt ∈ jTB := ⟨jTB_6 235 (by decide +kernel) rfl, jTB_in 64 (by decide +kernel) rfl⟩
theorem mt_X10_layTokens : jMth kX10_layTokens := ⟨jTB_6 232 rfl rfl, jTB_1 11 (by decide +kernel) rfl, ⟨by decide +kernel, by decide +kernel⟩, by decide +kernel⟩
theorem mi_X10_layTokens : Cond.instanceMethod yX10_layTokens ∈ jTB ∧ Cond.selects yX10_layTokens.cls yX10_layTokens yX10_layTokens ∈ jTB := ⟨jTB_6 231 (by decide +kernel) rfl, jTB_in 63 (by decide +kernel) rfl⟩
theorem mt_X10_areLike : jMth kX10_areLike := ⟨jTB_7 20 rfl rfl, jTB_1 11 (by decide +kernel) rfl, ⟨by decide +kernel, by decide +kernel⟩, by decide +kernel⟩
theorem mi_X10_areLike : Cond.instanceMethod yX10_areLike ∈ jTB ∧ Cond.selects yX10_areLike.cls yX10_areLike yX10_areLike ∈ jTB := ⟨jTB_7 19 (by decide +kernel) rfl, jTB_in 70 (by decide +kernel) rfl⟩
theorem mt_X10_get : jMth kX10_get := ⟨jTB_6 168 rfl rfl, jTB_1 11 (by decide +kernel) rfl, ⟨by decide +kernel, by decide +kernel⟩, by decide +kernel⟩
theorem mi_X10_get : Cond.instanceMethod yX10_get ∈ jTB ∧ Cond.selects yX10_get.cls yX10_get yX10_get ∈ jTB := ⟨jTB_6 167 (by decide +kernel) rfl, jTB_in 55 (by decide +kernel) rfl⟩
theorem mt_X10_elementOf : jMth kX10_elementOf := ⟨jTB_7 8 rfl rfl, jTB_1 11 (by decide +kernel) rfl, ⟨by decide +kernel, by decide +kernel⟩, by decide +kernel⟩
theorem mi_X10_elementOf : Cond.instanceMethod yX10_elementOf ∈ jTB ∧ Cond.selects yX10_elementOf.cls yX10_elementOf yX10_elementOf ∈ jTB := ⟨jTB_7 7 (by decide +kernel) rfl, jTB_in 67 (by decide +kernel) rfl⟩
theorem mt_X10_partOf : jMth kX10_partOf := ⟨jTB_7 36 rfl rfl, jTB_1 11 (by decide +kernel) rfl, ⟨by decide +kernel, by decide +kernel⟩, by decide +kernel⟩
theorem mi_X10_partOf : Cond.instanceMethod yX10_partOf ∈ jTB ∧ Cond.selects yX10_partOf.cls yX10_partOf yX10_partOf ∈ jTB := ⟨jTB_7 35 (by decide +kernel) rfl, jTB_in 74 (by decide +kernel) rfl⟩
theorem mt_X10_isRule : jMth kX10_isRule := ⟨jTB_6 164 rfl rfl, jTB_1 11 (by decide +kernel) rfl, ⟨by decide +kernel, by decide +kernel⟩, by decide +kernel⟩
theorem mi_X10_isRule : Cond.instanceMethod yX10_isRule ∈ jTB ∧ Cond.selects yX10_isRule.cls yX10_isRule yX10_isRule ∈ jTB := ⟨jTB_6 163 (by decide +kernel) rfl, jTB_in 54 (by decide +kernel) rfl⟩
theorem mt_X10_isSaid : jMth kX10_isSaid := ⟨jTB_7 12 rfl rfl, jTB_1 11 (by decide +kernel) rfl, ⟨by decide +kernel, by decide +kernel⟩, by decide +kernel⟩
theorem mi_X10_isSaid : Cond.instanceMethod yX10_isSaid ∈ jTB ∧ Cond.selects yX10_isSaid.cls yX10_isSaid yX10_isSaid ∈ jTB := ⟨jTB_7 11 (by decide +kernel) rfl, jTB_in 68 (by decide +kernel) rfl⟩
theorem mt_X10_binds : jMth kX10_binds := ⟨jTB_7 16 rfl rfl, jTB_1 11 (by decide +kernel) rfl, ⟨by decide +kernel, by decide +kernel⟩, by decide +kernel⟩
theorem mi_X10_binds : Cond.instanceMethod yX10_binds ∈ jTB ∧ Cond.selects yX10_binds.cls yX10_binds yX10_binds ∈ jTB := ⟨jTB_7 15 (by decide +kernel) rfl, jTB_in 69 (by decide +kernel) rfl⟩
theorem mt_X10_fitsOne : jMth kX10_fitsOne := ⟨jTB_7 4 rfl rfl, jTB_1 11 (by decide +kernel) rfl, ⟨by decide +kernel, by decide +kernel⟩, by decide +kernel⟩
theorem mi_X10_fitsOne : Cond.instanceMethod yX10_fitsOne ∈ jTB ∧ Cond.selects yX10_fitsOne.cls yX10_fitsOne yX10_fitsOne ∈ jTB := ⟨jTB_7 3 (by decide +kernel) rfl, jTB_in 66 (by decide +kernel) rfl⟩
theorem mt_X10_fitsNow : jMth kX10_fitsNow := ⟨jTB_7 0 rfl rfl, jTB_1 11 (by decide +kernel) rfl, ⟨by decide +kernel, by decide +kernel⟩, by decide +kernel⟩
theorem mi_X10_fitsNow : Cond.instanceMethod yX10_fitsNow ∈ jTB ∧ Cond.selects yX10_fitsNow.cls yX10_fitsNow yX10_fitsNow ∈ jTB := ⟨jTB_6 239 (by decide +kernel) rfl, jTB_in 65 (by decide +kernel) rfl⟩
theorem mt_X10_write : jMth kX10_write := ⟨jTB_7 40 rfl rfl, jTB_1 11 (by decide +kernel) rfl, ⟨by decide +kernel, by decide +kernel⟩, by decide +kernel⟩
theorem mi_X10_write : Cond.instanceMethod yX10_write ∈ jTB ∧ Cond.selects yX10_write.cls yX10_write yX10_write ∈ jTB := ⟨jTB_7 39 (by decide +kernel) rfl, jTB_in 75 (by decide +kernel) rfl⟩
theorem mt_X10_writeNumber : jMth kX10_writeNumber := ⟨jTB_7 44 rfl rfl, jTB_1 11 (by decide +kernel) rfl, ⟨by decide +kernel, by decide +kernel⟩, by decide +kernel⟩
theorem mi_X10_writeNumber : Cond.instanceMethod yX10_writeNumber ∈ jTB ∧ Cond.selects yX10_writeNumber.cls yX10_writeNumber yX10_writeNumber ∈ jTB := ⟨jTB_7 43 (by decide +kernel) rfl, jTB_in 76 (by decide +kernel) rfl⟩
theorem mt_X10_writePart : jMth kX10_writePart := ⟨jTB_7 32 rfl rfl, jTB_1 11 (by decide +kernel) rfl, ⟨by decide +kernel, by decide +kernel⟩, by decide +kernel⟩
theorem mi_X10_writePart : Cond.instanceMethod yX10_writePart ∈ jTB ∧ Cond.selects yX10_writePart.cls yX10_writePart yX10_writePart ∈ jTB := ⟨jTB_7 31 (by decide +kernel) rfl, jTB_in 73 (by decide +kernel) rfl⟩
theorem mt_X10_layOut : jMth kX10_layOut := ⟨jTB_7 28 rfl rfl, jTB_1 11 (by decide +kernel) rfl, ⟨by decide +kernel, by decide +kernel⟩, by decide +kernel⟩
theorem mi_X10_layOut : Cond.instanceMethod yX10_layOut ∈ jTB ∧ Cond.selects yX10_layOut.cls yX10_layOut yX10_layOut ∈ jTB := ⟨jTB_7 27 (by decide +kernel) rfl, jTB_in 72 (by decide +kernel) rfl⟩
theorem mt_X10_isElse : jMth kX10_isElse := ⟨jTB_7 48 rfl rfl, jTB_1 11 (by decide +kernel) rfl, ⟨by decide +kernel, by decide +kernel⟩, by decide +kernel⟩
theorem mi_X10_isElse : Cond.instanceMethod yX10_isElse ∈ jTB ∧ Cond.selects yX10_isElse.cls yX10_isElse yX10_isElse ∈ jTB := ⟨jTB_7 47 (by decide +kernel) rfl, jTB_in 77 (by decide +kernel) rfl⟩
theorem mt_X10_valueOf : jMth kX10_valueOf := ⟨jTB_7 52 rfl rfl, jTB_1 11 (by decide +kernel) rfl, ⟨by decide +kernel, by decide +kernel⟩, by decide +kernel⟩
theorem mi_X10_valueOf : Cond.instanceMethod yX10_valueOf ∈ jTB ∧ Cond.selects yX10_valueOf.cls yX10_valueOf yX10_valueOf ∈ jTB := ⟨jTB_7 51 (by decide +kernel) rfl, jTB_in 78 (by decide +kernel) rfl⟩
theorem mt_X10_isSilentSpan : jMth kX10_isSilentSpan := ⟨jTB_6 200 rfl rfl, jTB_1 11 (by decide +kernel) rfl, ⟨by decide +kernel, by decide +kernel⟩, by decide +kernel⟩
theorem mi_X10_isSilentSpan : Cond.instanceMethod yX10_isSilentSpan ∈ jTB ∧ Cond.selects yX10_isSilentSpan.cls yX10_isSilentSpan yX10_isSilentSpan ∈ jTB := ⟨jTB_6 199 (by decide +kernel) rfl, jTB_in 58 (by decide +kernel) rfl⟩
theorem mt_X10_comeFinding : jMth kX10_comeFinding := ⟨jTB_7 24 rfl rfl, jTB_1 11 (by decide +kernel) rfl, ⟨by decide +kernel, by decide +kernel⟩, by decide +kernel⟩
theorem mi_X10_comeFinding : Cond.instanceMethod yX10_comeFinding ∈ jTB ∧ Cond.selects yX10_comeFinding.cls yX10_comeFinding yX10_comeFinding ∈ jTB := ⟨jTB_7 23 (by decide +kernel) rfl, jTB_in 71 (by decide +kernel) rfl⟩
theorem mt_X10_areTogether : jMth kX10_areTogether := ⟨jTB_7 61 rfl rfl, jTB_1 11 (by decide +kernel) rfl, ⟨by decide +kernel, by decide +kernel⟩, by decide +kernel⟩
theorem mi_X10_areTogether : Cond.instanceMethod yX10_areTogether ∈ jTB ∧ Cond.selects yX10_areTogether.cls yX10_areTogether yX10_areTogether ∈ jTB := ⟨jTB_7 60 (by decide +kernel) rfl, jTB_in 80 (by decide +kernel) rfl⟩
theorem mt_X10_yieldsTo : jMth kX10_yieldsTo := ⟨jTB_6 208 rfl rfl, jTB_1 11 (by decide +kernel) rfl, ⟨by decide +kernel, by decide +kernel⟩, by decide +kernel⟩
theorem mi_X10_yieldsTo : Cond.instanceMethod yX10_yieldsTo ∈ jTB ∧ Cond.selects yX10_yieldsTo.cls yX10_yieldsTo yX10_yieldsTo ∈ jTB := ⟨jTB_6 207 (by decide +kernel) rfl, jTB_in 59 (by decide +kernel) rfl⟩
theorem mt_X10_isYielded : jMth kX10_isYielded := ⟨jTB_7 57 rfl rfl, jTB_1 11 (by decide +kernel) rfl, ⟨by decide +kernel, by decide +kernel⟩, by decide +kernel⟩
theorem mi_X10_isYielded : Cond.instanceMethod yX10_isYielded ∈ jTB ∧ Cond.selects yX10_isYielded.cls yX10_isYielded yX10_isYielded ∈ jTB := ⟨jTB_7 56 (by decide +kernel) rfl, jTB_in 79 (by decide +kernel) rfl⟩
theorem mt_X10_layFindings : jMth kX10_layFindings := ⟨jTB_6 228 rfl rfl, jTB_1 11 (by decide +kernel) rfl, ⟨by decide +kernel, by decide +kernel⟩, by decide +kernel⟩
theorem mi_X10_layFindings : Cond.instanceMethod yX10_layFindings ∈ jTB ∧ Cond.selects yX10_layFindings.cls yX10_layFindings yX10_layFindings ∈ jTB := ⟨jTB_6 227 (by decide +kernel) rfl, jTB_in 62 (by decide +kernel) rfl⟩
theorem mt_X10_isFree : jMth kX10_isFree := ⟨jTB_7 69 rfl rfl, jTB_1 11 (by decide +kernel) rfl, ⟨by decide +kernel, by decide +kernel⟩, by decide +kernel⟩
theorem mi_X10_isFree : Cond.instanceMethod yX10_isFree ∈ jTB ∧ Cond.selects yX10_isFree.cls yX10_isFree yX10_isFree ∈ jTB := ⟨jTB_7 68 (by decide +kernel) rfl, jTB_in 82 (by decide +kernel) rfl⟩
theorem mt_X10_behind : jMth kX10_behind := ⟨jTB_7 73 rfl rfl, jTB_1 11 (by decide +kernel) rfl, ⟨by decide +kernel, by decide +kernel⟩, by decide +kernel⟩
theorem mi_X10_behind : Cond.instanceMethod yX10_behind ∈ jTB ∧ Cond.selects yX10_behind.cls yX10_behind yX10_behind ∈ jTB := ⟨jTB_7 72 (by decide +kernel) rfl, jTB_in 83 (by decide +kernel) rfl⟩
theorem mt_X10_laySet : jMth kX10_laySet := ⟨jTB_7 65 rfl rfl, jTB_1 11 (by decide +kernel) rfl, ⟨by decide +kernel, by decide +kernel⟩, by decide +kernel⟩
theorem mi_X10_laySet : Cond.instanceMethod yX10_laySet ∈ jTB ∧ Cond.selects yX10_laySet.cls yX10_laySet yX10_laySet ∈ jTB := ⟨jTB_7 64 (by decide +kernel) rfl, jTB_in 81 (by decide +kernel) rfl⟩
theorem mt_X10_markSet : jMth kX10_markSet := ⟨jTB_7 77 rfl rfl, jTB_1 11 (by decide +kernel) rfl, ⟨by decide +kernel, by decide +kernel⟩, by decide +kernel⟩
theorem mi_X10_markSet : Cond.instanceMethod yX10_markSet ∈ jTB ∧ Cond.selects yX10_markSet.cls yX10_markSet yX10_markSet ∈ jTB := ⟨jTB_7 76 (by decide +kernel) rfl, jTB_in 84 (by decide +kernel) rfl⟩
theorem mt_X10_longThen : jMth kX10_longThen := ⟨jTB_7 81 rfl rfl, jTB_1 11 (by decide +kernel) rfl, ⟨by decide +kernel, by decide +kernel⟩, by decide +kernel⟩
theorem mi_X10_longThen : Cond.instanceMethod yX10_longThen ∈ jTB ∧ Cond.selects yX10_longThen.cls yX10_longThen yX10_longThen ∈ jTB := ⟨jTB_7 80 (by decide +kernel) rfl, jTB_in 85 (by decide +kernel) rfl⟩
theorem mt_X10_writeNew : jMth kX10_writeNew := ⟨jTB_7 89 rfl rfl, jTB_1 11 (by decide +kernel) rfl, ⟨by decide +kernel, by decide +kernel⟩, by decide +kernel⟩
theorem mi_X10_writeNew : Cond.instanceMethod yX10_writeNew ∈ jTB ∧ Cond.selects yX10_writeNew.cls yX10_writeNew yX10_writeNew ∈ jTB := ⟨jTB_7 88 (by decide +kernel) rfl, jTB_in 87 (by decide +kernel) rfl⟩
theorem mt_X10_along : jMth kX10_along := ⟨jTB_7 93 rfl rfl, jTB_1 11 (by decide +kernel) rfl, ⟨by decide +kernel, by decide +kernel⟩, by decide +kernel⟩
theorem mi_X10_along : Cond.instanceMethod yX10_along ∈ jTB ∧ Cond.selects yX10_along.cls yX10_along yX10_along ∈ jTB := ⟨jTB_7 92 (by decide +kernel) rfl, jTB_in 88 (by decide +kernel) rfl⟩
theorem mt_X10_makeNow : jMth kX10_makeNow := ⟨jTB_7 85 rfl rfl, jTB_1 11 (by decide +kernel) rfl, ⟨by decide +kernel, by decide +kernel⟩, by decide +kernel⟩
theorem mi_X10_makeNow : Cond.instanceMethod yX10_makeNow ∈ jTB ∧ Cond.selects yX10_makeNow.cls yX10_makeNow yX10_makeNow ∈ jTB := ⟨jTB_7 84 (by decide +kernel) rfl, jTB_in 86 (by decide +kernel) rfl⟩
theorem mt_X10_writeDown : jMth kX10_writeDown := ⟨jTB_7 105 rfl rfl, jTB_1 11 (by decide +kernel) rfl, ⟨by decide +kernel, by decide +kernel⟩, by decide +kernel⟩
theorem mi_X10_writeDown : Cond.instanceMethod yX10_writeDown ∈ jTB ∧ Cond.selects yX10_writeDown.cls yX10_writeDown yX10_writeDown ∈ jTB := ⟨jTB_7 104 (by decide +kernel) rfl, jTB_in 90 (by decide +kernel) rfl⟩
theorem mt_X10_roundNow : jMth kX10_roundNow := ⟨jTB_7 101 rfl rfl, jTB_1 11 (by decide +kernel) rfl, ⟨by decide +kernel, by decide +kernel⟩, by decide +kernel⟩
theorem mi_X10_roundNow : Cond.instanceMethod yX10_roundNow ∈ jTB ∧ Cond.selects yX10_roundNow.cls yX10_roundNow yX10_roundNow ∈ jTB := ⟨jTB_7 100 (by decide +kernel) rfl, jTB_in 89 (by decide +kernel) rfl⟩
theorem mt_X10_stepAt : jMth kX10_stepAt := ⟨jTB_6 50 rfl rfl, jTB_1 11 (by decide +kernel) rfl, ⟨by decide +kernel, by decide +kernel⟩, by decide +kernel⟩
theorem ms_X10_stepAt : Cond.static yX10_stepAt ∈ jTB := jTB_6 49 (by decide +kernel) rfl
theorem mt_X10_keep : jMth kX10_keep := ⟨jTB_6 76 rfl rfl, jTB_1 11 (by decide +kernel) rfl, ⟨by decide +kernel, by decide +kernel⟩, by decide +kernel⟩
theorem mi_X10_keep : Cond.instanceMethod yX10_keep ∈ jTB ∧ Cond.selects yX10_keep.cls yX10_keep yX10_keep ∈ jTB := ⟨jTB_6 75 (by decide +kernel) rfl, jTB_in 41 (by decide +kernel) rfl⟩
theorem mt_X10_undo : jMth kX10_undo := ⟨jTB_6 47 rfl rfl, jTB_1 11 (by decide +kernel) rfl, ⟨by decide +kernel, by decide +kernel⟩, by decide +kernel⟩
theorem mi_X10_undo : Cond.instanceMethod yX10_undo ∈ jTB ∧ Cond.selects yX10_undo.cls yX10_undo yX10_undo ∈ jTB := ⟨jTB_6 45 (by decide +kernel) rfl, jTB_6 46 (by decide +kernel) rfl⟩
theorem mt_X10_four : jMth kX10_four := ⟨jTB_6 58 rfl rfl, jTB_1 11 (by decide +kernel) rfl, ⟨by decide +kernel, by decide +kernel⟩, by decide +kernel⟩
theorem mi_X10_four : Cond.instanceMethod yX10_four ∈ jTB ∧ Cond.selects yX10_four.cls yX10_four yX10_four ∈ jTB := ⟨jTB_6 57 (by decide +kernel) rfl, jTB_in 40 (by decide +kernel) rfl⟩
theorem mt_X10_feed : jMth kX10_feed := ⟨jTB_6 54 rfl rfl, jTB_1 11 (by decide +kernel) rfl, ⟨by decide +kernel, by decide +kernel⟩, by decide +kernel⟩
theorem mi_X10_feed : Cond.instanceMethod yX10_feed ∈ jTB ∧ Cond.selects yX10_feed.cls yX10_feed yX10_feed ∈ jTB := ⟨jTB_6 52 (by decide +kernel) rfl, jTB_6 53 (by decide +kernel) rfl⟩
theorem mt_X10_end : jMth kX10_end := ⟨jTB_6 62 rfl rfl, jTB_1 11 (by decide +kernel) rfl, ⟨by decide +kernel, by decide +kernel⟩, by decide +kernel⟩
theorem mi_X10_end : Cond.instanceMethod yX10_end ∈ jTB ∧ Cond.selects yX10_end.cls yX10_end yX10_end ∈ jTB := ⟨jTB_6 60 (by decide +kernel) rfl, jTB_6 61 (by decide +kernel) rfl⟩
theorem mt_X10_text : jMth kX10_text := ⟨jTB_6 69 rfl rfl, jTB_1 11 (by decide +kernel) rfl, ⟨by decide +kernel, by decide +kernel⟩, by decide +kernel⟩
theorem mi_X10_text : Cond.instanceMethod yX10_text ∈ jTB ∧ Cond.selects yX10_text.cls yX10_text yX10_text ∈ jTB := ⟨jTB_6 67 (by decide +kernel) rfl, jTB_6 68 (by decide +kernel) rfl⟩
theorem mt_X10_next : jMth kX10_next := ⟨jTB_6 92 rfl rfl, jTB_1 11 (by decide +kernel) rfl, ⟨by decide +kernel, by decide +kernel⟩, by decide +kernel⟩
theorem mi_X10_next : Cond.instanceMethod yX10_next ∈ jTB ∧ Cond.selects yX10_next.cls yX10_next yX10_next ∈ jTB := ⟨jTB_6 91 (by decide +kernel) rfl, jTB_in 44 (by decide +kernel) rfl⟩
theorem mt_X10_isWrong : jMth kX10_isWrong := ⟨jTB_6 99 rfl rfl, jTB_1 11 (by decide +kernel) rfl, ⟨by decide +kernel, by decide +kernel⟩, by decide +kernel⟩
theorem mi_X10_isWrong : Cond.instanceMethod yX10_isWrong ∈ jTB ∧ Cond.selects yX10_isWrong.cls yX10_isWrong yX10_isWrong ∈ jTB := ⟨jTB_6 98 (by decide +kernel) rfl, jTB_in 45 (by decide +kernel) rfl⟩
theorem mt_X10_isName : jMth kX10_isName := ⟨jTB_6 137 rfl rfl, jTB_1 11 (by decide +kernel) rfl, ⟨by decide +kernel, by decide +kernel⟩, by decide +kernel⟩
theorem ms_X10_isName : Cond.static yX10_isName ∈ jTB := jTB_6 136 (by decide +kernel) rfl
theorem mt_X10_sortBy : jMth kX10_sortBy := ⟨jTB_6 109 rfl rfl, jTB_1 11 (by decide +kernel) rfl, ⟨by decide +kernel, by decide +kernel⟩, by decide +kernel⟩
theorem ms_X10_sortBy : Cond.static yX10_sortBy ∈ jTB := jTB_6 108 (by decide +kernel) rfl
theorem mt_X10_come : jMth kX10_come := ⟨jTB_6 134 rfl rfl, jTB_1 11 (by decide +kernel) rfl, ⟨by decide +kernel, by decide +kernel⟩, by decide +kernel⟩
theorem mi_X10_come : Cond.instanceMethod yX10_come ∈ jTB ∧ Cond.selects yX10_come.cls yX10_come yX10_come ∈ jTB := ⟨jTB_6 133 (by decide +kernel) rfl, jTB_in 50 (by decide +kernel) rfl⟩
theorem mt_X10_readBytes : jMth kX10_readBytes := ⟨jTB_6 117 rfl rfl, jTB_1 11 (by decide +kernel) rfl, ⟨by decide +kernel, by decide +kernel⟩, by decide +kernel⟩
theorem mi_X10_readBytes : Cond.instanceMethod yX10_readBytes ∈ jTB ∧ Cond.selects yX10_readBytes.cls yX10_readBytes yX10_readBytes ∈ jTB := ⟨jTB_6 116 (by decide +kernel) rfl, jTB_in 48 (by decide +kernel) rfl⟩
theorem mt_X10_isToken : jMth kX10_isToken := ⟨jTB_6 121 rfl rfl, jTB_1 11 (by decide +kernel) rfl, ⟨by decide +kernel, by decide +kernel⟩, by decide +kernel⟩
theorem mi_X10_isToken : Cond.instanceMethod yX10_isToken ∈ jTB ∧ Cond.selects yX10_isToken.cls yX10_isToken yX10_isToken ∈ jTB := ⟨jTB_6 120 (by decide +kernel) rfl, jTB_in 49 (by decide +kernel) rfl⟩
theorem mt_X10_beginsElement : jMth kX10_beginsElement := ⟨jTB_6 106 rfl rfl, jTB_1 11 (by decide +kernel) rfl, ⟨by decide +kernel, by decide +kernel⟩, by decide +kernel⟩
theorem ms_X10_beginsElement : Cond.static yX10_beginsElement ∈ jTB := jTB_6 105 (by decide +kernel) rfl
theorem mt_X10_readElement : jMth kX10_readElement := ⟨jTB_6 113 rfl rfl, jTB_1 11 (by decide +kernel) rfl, ⟨by decide +kernel, by decide +kernel⟩, by decide +kernel⟩
theorem mi_X10_readElement : Cond.instanceMethod yX10_readElement ∈ jTB ∧ Cond.selects yX10_readElement.cls yX10_readElement yX10_readElement ∈ jTB := ⟨jTB_6 112 (by decide +kernel) rfl, jTB_in 47 (by decide +kernel) rfl⟩
theorem mt_X10_beginsPart : jMth kX10_beginsPart := ⟨jTB_6 144 rfl rfl, jTB_1 11 (by decide +kernel) rfl, ⟨by decide +kernel, by decide +kernel⟩, by decide +kernel⟩
theorem ms_X10_beginsPart : Cond.static yX10_beginsPart ∈ jTB := jTB_6 143 (by decide +kernel) rfl
theorem mt_X10_isNamed : jMth kX10_isNamed := ⟨jTB_6 152 rfl rfl, jTB_1 11 (by decide +kernel) rfl, ⟨by decide +kernel, by decide +kernel⟩, by decide +kernel⟩
theorem mi_X10_isNamed : Cond.instanceMethod yX10_isNamed ∈ jTB ∧ Cond.selects yX10_isNamed.cls yX10_isNamed yX10_isNamed ∈ jTB := ⟨jTB_6 151 (by decide +kernel) rfl, jTB_in 53 (by decide +kernel) rfl⟩
theorem mt_X10_readPart : jMth kX10_readPart := ⟨jTB_6 148 rfl rfl, jTB_1 11 (by decide +kernel) rfl, ⟨by decide +kernel, by decide +kernel⟩, by decide +kernel⟩
theorem mi_X10_readPart : Cond.instanceMethod yX10_readPart ∈ jTB ∧ Cond.selects yX10_readPart.cls yX10_readPart yX10_readPart ∈ jTB := ⟨jTB_6 147 (by decide +kernel) rfl, jTB_in 52 (by decide +kernel) rfl⟩
theorem mt_X10_readElements : jMth kX10_readElements := ⟨jTB_6 103 rfl rfl, jTB_1 11 (by decide +kernel) rfl, ⟨by decide +kernel, by decide +kernel⟩, by decide +kernel⟩
theorem mi_X10_readElements : Cond.instanceMethod yX10_readElements ∈ jTB ∧ Cond.selects yX10_readElements.cls yX10_readElements yX10_readElements ∈ jTB := ⟨jTB_6 102 (by decide +kernel) rfl, jTB_in 46 (by decide +kernel) rfl⟩
theorem mt_X10_readParts : jMth kX10_readParts := ⟨jTB_6 141 rfl rfl, jTB_1 11 (by decide +kernel) rfl, ⟨by decide +kernel, by decide +kernel⟩, by decide +kernel⟩
theorem mi_X10_readParts : Cond.instanceMethod yX10_readParts ∈ jTB ∧ Cond.selects yX10_readParts.cls yX10_readParts yX10_readParts ∈ jTB := ⟨jTB_6 140 (by decide +kernel) rfl, jTB_in 51 (by decide +kernel) rfl⟩
theorem mt_X10_readRule : jMth kX10_readRule := ⟨jTB_6 88 rfl rfl, jTB_1 11 (by decide +kernel) rfl, ⟨by decide +kernel, by decide +kernel⟩, by decide +kernel⟩
theorem mi_X10_readRule : Cond.instanceMethod yX10_readRule ∈ jTB ∧ Cond.selects yX10_readRule.cls yX10_readRule yX10_readRule ∈ jTB := ⟨jTB_6 87 (by decide +kernel) rfl, jTB_in 43 (by decide +kernel) rfl⟩
theorem mt_X10_readAll : jMth kX10_readAll := ⟨jTB_6 84 rfl rfl, jTB_1 11 (by decide +kernel) rfl, ⟨by decide +kernel, by decide +kernel⟩, by decide +kernel⟩
theorem mi_X10_readAll : Cond.instanceMethod yX10_readAll ∈ jTB ∧ Cond.selects yX10_readAll.cls yX10_readAll yX10_readAll ∈ jTB := ⟨jTB_6 83 (by decide +kernel) rfl, jTB_in 42 (by decide +kernel) rfl⟩
theorem mt_X10_rules : jMth kX10_rules := ⟨jTB_6 80 rfl rfl, jTB_1 11 (by decide +kernel) rfl, ⟨by decide +kernel, by decide +kernel⟩, by decide +kernel⟩
theorem mi_X10_rules : Cond.instanceMethod yX10_rules ∈ jTB ∧ Cond.selects yX10_rules.cls yX10_rules yX10_rules ∈ jTB := ⟨jTB_6 78 (by decide +kernel) rfl, jTB_6 79 (by decide +kernel) rfl⟩
theorem mt_X10_fault : jMth kX10_fault := ⟨jTB_6 156 rfl rfl, jTB_1 11 (by decide +kernel) rfl, ⟨by decide +kernel, by decide +kernel⟩, by decide +kernel⟩
theorem mi_X10_fault : Cond.instanceMethod yX10_fault ∈ jTB ∧ Cond.selects yX10_fault.cls yX10_fault yX10_fault ∈ jTB := ⟨jTB_6 154 (by decide +kernel) rfl, jTB_6 155 (by decide +kernel) rfl⟩
theorem mt_X10_on : jMth kX10_on := ⟨jTB_6 160 rfl rfl, jTB_1 11 (by decide +kernel) rfl, ⟨by decide +kernel, by decide +kernel⟩, by decide +kernel⟩
theorem mi_X10_on : Cond.instanceMethod yX10_on ∈ jTB ∧ Cond.selects yX10_on.cls yX10_on yX10_on ∈ jTB := ⟨jTB_6 158 (by decide +kernel) rfl, jTB_6 159 (by decide +kernel) rfl⟩
theorem mt_X10_silence : jMth kX10_silence := ⟨jTB_6 172 rfl rfl, jTB_1 11 (by decide +kernel) rfl, ⟨by decide +kernel, by decide +kernel⟩, by decide +kernel⟩
theorem mi_X10_silence : Cond.instanceMethod yX10_silence ∈ jTB ∧ Cond.selects yX10_silence.cls yX10_silence yX10_silence ∈ jTB := ⟨jTB_6 170 (by decide +kernel) rfl, jTB_6 171 (by decide +kernel) rfl⟩
theorem mt_X10_hear : jMth kX10_hear := ⟨jTB_6 176 rfl rfl, jTB_1 11 (by decide +kernel) rfl, ⟨by decide +kernel, by decide +kernel⟩, by decide +kernel⟩
theorem mi_X10_hear : Cond.instanceMethod yX10_hear ∈ jTB ∧ Cond.selects yX10_hear.cls yX10_hear yX10_hear ∈ jTB := ⟨jTB_6 174 (by decide +kernel) rfl, jTB_6 175 (by decide +kernel) rfl⟩
theorem mt_X10_setNow : jMth kX10_setNow := ⟨jTB_6 184 rfl rfl, jTB_1 11 (by decide +kernel) rfl, ⟨by decide +kernel, by decide +kernel⟩, by decide +kernel⟩
theorem mi_X10_setNow : Cond.instanceMethod yX10_setNow ∈ jTB ∧ Cond.selects yX10_setNow.cls yX10_setNow yX10_setNow ∈ jTB := ⟨jTB_6 183 (by decide +kernel) rfl, jTB_in 56 (by decide +kernel) rfl⟩
theorem mt_X10_measure : jMth kX10_measure := ⟨jTB_6 180 rfl rfl, jTB_1 11 (by decide +kernel) rfl, ⟨by decide +kernel, by decide +kernel⟩, by decide +kernel⟩
theorem mi_X10_measure : Cond.instanceMethod yX10_measure ∈ jTB ∧ Cond.selects yX10_measure.cls yX10_measure yX10_measure ∈ jTB := ⟨jTB_6 178 (by decide +kernel) rfl, jTB_6 179 (by decide +kernel) rfl⟩
theorem mt_X10_most : jMth kX10_most := ⟨jTB_6 188 rfl rfl, jTB_1 11 (by decide +kernel) rfl, ⟨by decide +kernel, by decide +kernel⟩, by decide +kernel⟩
theorem mi_X10_most : Cond.instanceMethod yX10_most ∈ jTB ∧ Cond.selects yX10_most.cls yX10_most yX10_most ∈ jTB := ⟨jTB_6 186 (by decide +kernel) rfl, jTB_6 187 (by decide +kernel) rfl⟩
theorem mt_X10_isPlace : jMth kX10_isPlace := ⟨jTB_6 196 rfl rfl, jTB_1 11 (by decide +kernel) rfl, ⟨by decide +kernel, by decide +kernel⟩, by decide +kernel⟩
theorem mi_X10_isPlace : Cond.instanceMethod yX10_isPlace ∈ jTB ∧ Cond.selects yX10_isPlace.cls yX10_isPlace yX10_isPlace ∈ jTB := ⟨jTB_6 195 (by decide +kernel) rfl, jTB_in 57 (by decide +kernel) rfl⟩
theorem mt_X10_put : jMth kX10_put := ⟨jTB_6 192 rfl rfl, jTB_1 11 (by decide +kernel) rfl, ⟨by decide +kernel, by decide +kernel⟩, by decide +kernel⟩
theorem mi_X10_put : Cond.instanceMethod yX10_put ∈ jTB ∧ Cond.selects yX10_put.cls yX10_put yX10_put ∈ jTB := ⟨jTB_6 190 (by decide +kernel) rfl, jTB_6 191 (by decide +kernel) rfl⟩
theorem mt_X10_isBelow : jMth kX10_isBelow := ⟨jTB_6 212 rfl rfl, jTB_1 11 (by decide +kernel) rfl, ⟨by decide +kernel, by decide +kernel⟩, by decide +kernel⟩
theorem mi_X10_isBelow : Cond.instanceMethod yX10_isBelow ∈ jTB ∧ Cond.selects yX10_isBelow.cls yX10_isBelow yX10_isBelow ∈ jTB := ⟨jTB_6 211 (by decide +kernel) rfl, jTB_in 60 (by decide +kernel) rfl⟩
theorem mt_X10_yields : jMth kX10_yields := ⟨jTB_6 204 rfl rfl, jTB_1 11 (by decide +kernel) rfl, ⟨by decide +kernel, by decide +kernel⟩, by decide +kernel⟩
theorem mi_X10_yields : Cond.instanceMethod yX10_yields ∈ jTB ∧ Cond.selects yX10_yields.cls yX10_yields yX10_yields ∈ jTB := ⟨jTB_6 202 (by decide +kernel) rfl, jTB_6 203 (by decide +kernel) rfl⟩
theorem mt_X10_insist : jMth kX10_insist := ⟨jTB_6 216 rfl rfl, jTB_1 11 (by decide +kernel) rfl, ⟨by decide +kernel, by decide +kernel⟩, by decide +kernel⟩
theorem mi_X10_insist : Cond.instanceMethod yX10_insist ∈ jTB ∧ Cond.selects yX10_insist.cls yX10_insist yX10_insist ∈ jTB := ⟨jTB_6 214 (by decide +kernel) rfl, jTB_6 215 (by decide +kernel) rfl⟩
theorem mt_X10_isFinding : jMth kX10_isFinding := ⟨jTB_6 224 rfl rfl, jTB_1 11 (by decide +kernel) rfl, ⟨by decide +kernel, by decide +kernel⟩, by decide +kernel⟩
theorem mi_X10_isFinding : Cond.instanceMethod yX10_isFinding ∈ jTB ∧ Cond.selects yX10_isFinding.cls yX10_isFinding yX10_isFinding ∈ jTB := ⟨jTB_6 223 (by decide +kernel) rfl, jTB_in 61 (by decide +kernel) rfl⟩
theorem mt_X10_apply : jMth kX10_apply := ⟨jTB_6 220 rfl rfl, jTB_1 11 (by decide +kernel) rfl, ⟨by decide +kernel, by decide +kernel⟩, by decide +kernel⟩
theorem mi_X10_apply : Cond.instanceMethod yX10_apply ∈ jTB ∧ Cond.selects yX10_apply.cls yX10_apply yX10_apply ∈ jTB := ⟨jTB_6 218 (by decide +kernel) rfl, jTB_6 219 (by decide +kernel) rfl⟩
theorem mt_X10_make : jMth kX10_make := ⟨jTB_7 97 rfl rfl, jTB_1 11 (by decide +kernel) rfl, ⟨by decide +kernel, by decide +kernel⟩, by decide +kernel⟩
theorem mi_X10_make : Cond.instanceMethod yX10_make ∈ jTB ∧ Cond.selects yX10_make.cls yX10_make yX10_make ∈ jTB := ⟨jTB_7 95 (by decide +kernel) rfl, jTB_7 96 (by decide +kernel) rfl⟩
theorem mt_X10_countOf : jMth kX10_countOf := ⟨jTB_7 117 rfl rfl, jTB_1 11 (by decide +kernel) rfl, ⟨by decide +kernel, by decide +kernel⟩, by decide +kernel⟩
theorem mi_X10_countOf : Cond.instanceMethod yX10_countOf ∈ jTB ∧ Cond.selects yX10_countOf.cls yX10_countOf yX10_countOf ∈ jTB := ⟨jTB_7 116 (by decide +kernel) rfl, jTB_in 92 (by decide +kernel) rfl⟩
theorem mt_X10_onBits : jMth kX10_onBits := ⟨jTB_7 113 rfl rfl, jTB_1 11 (by decide +kernel) rfl, ⟨by decide +kernel, by decide +kernel⟩, by decide +kernel⟩
theorem mi_X10_onBits : Cond.instanceMethod yX10_onBits ∈ jTB ∧ Cond.selects yX10_onBits.cls yX10_onBits yX10_onBits ∈ jTB := ⟨jTB_7 112 (by decide +kernel) rfl, jTB_in 91 (by decide +kernel) rfl⟩
theorem mt_X10_is : jMth kX10_is := ⟨jTB_7 109 rfl rfl, jTB_1 11 (by decide +kernel) rfl, ⟨by decide +kernel, by decide +kernel⟩, by decide +kernel⟩
theorem mi_X10_is : Cond.instanceMethod yX10_is ∈ jTB ∧ Cond.selects yX10_is.cls yX10_is yX10_is ∈ jTB := ⟨jTB_7 107 (by decide +kernel) rfl, jTB_7 108 (by decide +kernel) rfl⟩
theorem mt_X10_at : jMth kX10_at := ⟨jTB_7 147 rfl rfl, jTB_1 11 (by decide +kernel) rfl, ⟨by decide +kernel, by decide +kernel⟩, by decide +kernel⟩
theorem mi_X10_at : Cond.instanceMethod yX10_at ∈ jTB ∧ Cond.selects yX10_at.cls yX10_at yX10_at ∈ jTB := ⟨jTB_7 145 (by decide +kernel) rfl, jTB_7 146 (by decide +kernel) rfl⟩
theorem mt_X10_token : jMth kX10_token := ⟨jTB_7 151 rfl rfl, jTB_1 11 (by decide +kernel) rfl, ⟨by decide +kernel, by decide +kernel⟩, by decide +kernel⟩
theorem mi_X10_token : Cond.instanceMethod yX10_token ∈ jTB ∧ Cond.selects yX10_token.cls yX10_token yX10_token ∈ jTB := ⟨jTB_7 149 (by decide +kernel) rfl, jTB_7 150 (by decide +kernel) rfl⟩
theorem mt_X10_toldSort : jMth kX10_toldSort := ⟨jTB_7 154 rfl rfl, jTB_1 11 (by decide +kernel) rfl, ⟨by decide +kernel, by decide +kernel⟩, by decide +kernel⟩
theorem ms_X10_toldSort : Cond.static yX10_toldSort ∈ jTB := jTB_7 153 (by decide +kernel) rfl
theorem mt_X10_tokenAt : jMth kX10_tokenAt := ⟨jTB_7 158 rfl rfl, jTB_1 11 (by decide +kernel) rfl, ⟨by decide +kernel, by decide +kernel⟩, by decide +kernel⟩
theorem mi_X10_tokenAt : Cond.instanceMethod yX10_tokenAt ∈ jTB ∧ Cond.selects yX10_tokenAt.cls yX10_tokenAt yX10_tokenAt ∈ jTB := ⟨jTB_7 156 (by decide +kernel) rfl, jTB_7 157 (by decide +kernel) rfl⟩
theorem mt_X10_findingsOf : jMth kX10_findingsOf := ⟨jTB_7 166 rfl rfl, jTB_1 11 (by decide +kernel) rfl, ⟨by decide +kernel, by decide +kernel⟩, by decide +kernel⟩
theorem mi_X10_findingsOf : Cond.instanceMethod yX10_findingsOf ∈ jTB ∧ Cond.selects yX10_findingsOf.cls yX10_findingsOf yX10_findingsOf ∈ jTB := ⟨jTB_7 165 (by decide +kernel) rfl, jTB_in 98 (by decide +kernel) rfl⟩
theorem mt_X10_rule : jMth kX10_rule := ⟨jTB_7 162 rfl rfl, jTB_1 11 (by decide +kernel) rfl, ⟨by decide +kernel, by decide +kernel⟩, by decide +kernel⟩
theorem mi_X10_rule : Cond.instanceMethod yX10_rule ∈ jTB ∧ Cond.selects yX10_rule.cls yX10_rule yX10_rule ∈ jTB := ⟨jTB_7 160 (by decide +kernel) rfl, jTB_7 161 (by decide +kernel) rfl⟩
theorem mt_X10_fits : jMth kX10_fits := ⟨jTB_7 170 rfl rfl, jTB_1 11 (by decide +kernel) rfl, ⟨by decide +kernel, by decide +kernel⟩, by decide +kernel⟩
theorem mi_X10_fits : Cond.instanceMethod yX10_fits ∈ jTB ∧ Cond.selects yX10_fits.cls yX10_fits yX10_fits ∈ jTB := ⟨jTB_7 168 (by decide +kernel) rfl, jTB_7 169 (by decide +kernel) rfl⟩
theorem mt_X10_finding : jMth kX10_finding := ⟨jTB_7 174 rfl rfl, jTB_1 11 (by decide +kernel) rfl, ⟨by decide +kernel, by decide +kernel⟩, by decide +kernel⟩
theorem mi_X10_finding : Cond.instanceMethod yX10_finding ∈ jTB ∧ Cond.selects yX10_finding.cls yX10_finding yX10_finding ∈ jTB := ⟨jTB_7 172 (by decide +kernel) rfl, jTB_7 173 (by decide +kernel) rfl⟩
theorem mt_X10_fresh : jMth kX10_fresh := ⟨jTB_7 178 rfl rfl, jTB_1 11 (by decide +kernel) rfl, ⟨by decide +kernel, by decide +kernel⟩, by decide +kernel⟩
theorem mi_X10_fresh : Cond.instanceMethod yX10_fresh ∈ jTB ∧ Cond.selects yX10_fresh.cls yX10_fresh yX10_fresh ∈ jTB := ⟨jTB_7 176 (by decide +kernel) rfl, jTB_7 177 (by decide +kernel) rfl⟩
theorem mt_X10_clashes : jMth kX10_clashes := ⟨jTB_7 182 rfl rfl, jTB_1 11 (by decide +kernel) rfl, ⟨by decide +kernel, by decide +kernel⟩, by decide +kernel⟩
theorem mi_X10_clashes : Cond.instanceMethod yX10_clashes ∈ jTB ∧ Cond.selects yX10_clashes.cls yX10_clashes yX10_clashes ∈ jTB := ⟨jTB_7 180 (by decide +kernel) rfl, jTB_7 181 (by decide +kernel) rfl⟩
theorem mt_X10_set : jMth kX10_set := ⟨jTB_7 186 rfl rfl, jTB_1 11 (by decide +kernel) rfl, ⟨by decide +kernel, by decide +kernel⟩, by decide +kernel⟩
theorem mi_X10_set : Cond.instanceMethod yX10_set ∈ jTB ∧ Cond.selects yX10_set.cls yX10_set yX10_set ∈ jTB := ⟨jTB_7 184 (by decide +kernel) rfl, jTB_7 185 (by decide +kernel) rfl⟩
theorem mt_X10_worth : jMth kX10_worth := ⟨jTB_7 190 rfl rfl, jTB_1 11 (by decide +kernel) rfl, ⟨by decide +kernel, by decide +kernel⟩, by decide +kernel⟩
theorem mi_X10_worth : Cond.instanceMethod yX10_worth ∈ jTB ∧ Cond.selects yX10_worth.cls yX10_worth yX10_worth ∈ jTB := ⟨jTB_7 188 (by decide +kernel) rfl, jTB_7 189 (by decide +kernel) rfl⟩
theorem mt_X10_chosen : jMth kX10_chosen := ⟨jTB_7 194 rfl rfl, jTB_1 11 (by decide +kernel) rfl, ⟨by decide +kernel, by decide +kernel⟩, by decide +kernel⟩
theorem mi_X10_chosen : Cond.instanceMethod yX10_chosen ∈ jTB ∧ Cond.selects yX10_chosen.cls yX10_chosen yX10_chosen ∈ jTB := ⟨jTB_7 192 (by decide +kernel) rfl, jTB_7 193 (by decide +kernel) rfl⟩
theorem mt_X10_without : jMth kX10_without := ⟨jTB_7 198 rfl rfl, jTB_1 11 (by decide +kernel) rfl, ⟨by decide +kernel, by decide +kernel⟩, by decide +kernel⟩
theorem mi_X10_without : Cond.instanceMethod yX10_without ∈ jTB ∧ Cond.selects yX10_without.cls yX10_without yX10_without ∈ jTB := ⟨jTB_7 196 (by decide +kernel) rfl, jTB_7 197 (by decide +kernel) rfl⟩
theorem mt_X10_span : jMth kX10_span := ⟨jTB_7 202 rfl rfl, jTB_1 11 (by decide +kernel) rfl, ⟨by decide +kernel, by decide +kernel⟩, by decide +kernel⟩
theorem mi_X10_span : Cond.instanceMethod yX10_span ∈ jTB ∧ Cond.selects yX10_span.cls yX10_span yX10_span ∈ jTB := ⟨jTB_7 200 (by decide +kernel) rfl, jTB_7 201 (by decide +kernel) rfl⟩
theorem mt_X10_silenced : jMth kX10_silenced := ⟨jTB_7 207 rfl rfl, jTB_1 11 (by decide +kernel) rfl, ⟨by decide +kernel, by decide +kernel⟩, by decide +kernel⟩
theorem mi_X10_silenced : Cond.instanceMethod yX10_silenced ∈ jTB ∧ Cond.selects yX10_silenced.cls yX10_silenced yX10_silenced ∈ jTB := ⟨jTB_7 205 (by decide +kernel) rfl, jTB_7 206 (by decide +kernel) rfl⟩
theorem mt_X10_isSilent : jMth kX10_isSilent := ⟨jTB_7 211 rfl rfl, jTB_1 11 (by decide +kernel) rfl, ⟨by decide +kernel, by decide +kernel⟩, by decide +kernel⟩
theorem mi_X10_isSilent : Cond.instanceMethod yX10_isSilent ∈ jTB ∧ Cond.selects yX10_isSilent.cls yX10_isSilent yX10_isSilent ∈ jTB := ⟨jTB_7 209 (by decide +kernel) rfl, jTB_7 210 (by decide +kernel) rfl⟩
theorem mt_X10_yielding : jMth kX10_yielding := ⟨jTB_7 215 rfl rfl, jTB_1 11 (by decide +kernel) rfl, ⟨by decide +kernel, by decide +kernel⟩, by decide +kernel⟩
theorem mi_X10_yielding : Cond.instanceMethod yX10_yielding ∈ jTB ∧ Cond.selects yX10_yielding.cls yX10_yielding yX10_yielding ∈ jTB := ⟨jTB_7 213 (by decide +kernel) rfl, jTB_7 214 (by decide +kernel) rfl⟩
theorem mt_X10_paint : jMth kX10_paint := ⟨jTB_7 219 rfl rfl, jTB_1 11 (by decide +kernel) rfl, ⟨by decide +kernel, by decide +kernel⟩, by decide +kernel⟩
theorem mi_X10_paint : Cond.instanceMethod yX10_paint ∈ jTB ∧ Cond.selects yX10_paint.cls yX10_paint yX10_paint ∈ jTB := ⟨jTB_7 217 (by decide +kernel) rfl, jTB_7 218 (by decide +kernel) rfl⟩
theorem mt_X10_painted : jMth kX10_painted := ⟨jTB_7 223 rfl rfl, jTB_1 11 (by decide +kernel) rfl, ⟨by decide +kernel, by decide +kernel⟩, by decide +kernel⟩
theorem mi_X10_painted : Cond.instanceMethod yX10_painted ∈ jTB ∧ Cond.selects yX10_painted.cls yX10_painted yX10_painted ∈ jTB := ⟨jTB_7 221 (by decide +kernel) rfl, jTB_7 222 (by decide +kernel) rfl⟩
theorem mt_X10_book : jMth kX10_book := ⟨jTB_7 227 rfl rfl, jTB_1 11 (by decide +kernel) rfl, ⟨by decide +kernel, by decide +kernel⟩, by decide +kernel⟩
theorem mi_X10_book : Cond.instanceMethod yX10_book ∈ jTB ∧ Cond.selects yX10_book.cls yX10_book yX10_book ∈ jTB := ⟨jTB_7 225 (by decide +kernel) rfl, jTB_7 226 (by decide +kernel) rfl⟩
theorem mt_X10_common : jMth kX10_common := ⟨jTB_7 231 rfl rfl, jTB_1 11 (by decide +kernel) rfl, ⟨by decide +kernel, by decide +kernel⟩, by decide +kernel⟩
theorem mi_X10_common : Cond.instanceMethod yX10_common ∈ jTB ∧ Cond.selects yX10_common.cls yX10_common yX10_common ∈ jTB := ⟨jTB_7 229 (by decide +kernel) rfl, jTB_7 230 (by decide +kernel) rfl⟩
theorem mt_X10_opens : jMth kX10_opens := ⟨jTB_7 128 rfl rfl, jTB_1 11 (by decide +kernel) rfl, ⟨by decide +kernel, by decide +kernel⟩, by decide +kernel⟩
theorem ms_X10_opens : Cond.static yX10_opens ∈ jTB := jTB_7 127 (by decide +kernel) rfl
theorem mt_X10_shuts : jMth kX10_shuts := ⟨jTB_7 131 rfl rfl, jTB_1 11 (by decide +kernel) rfl, ⟨by decide +kernel, by decide +kernel⟩, by decide +kernel⟩
theorem ms_X10_shuts : Cond.static yX10_shuts ∈ jTB := jTB_7 130 (by decide +kernel) rfl
theorem mt_X10_layPairs : jMth kX10_layPairs := ⟨jTB_7 125 rfl rfl, jTB_1 11 (by decide +kernel) rfl, ⟨by decide +kernel, by decide +kernel⟩, by decide +kernel⟩
theorem mi_X10_layPairs : Cond.instanceMethod yX10_layPairs ∈ jTB ∧ Cond.selects yX10_layPairs.cls yX10_layPairs yX10_layPairs ∈ jTB := ⟨jTB_7 124 (by decide +kernel) rfl, jTB_in 94 (by decide +kernel) rfl⟩
theorem mt_X10_unpaired : jMth kX10_unpaired := ⟨jTB_7 121 rfl rfl, jTB_1 11 (by decide +kernel) rfl, ⟨by decide +kernel, by decide +kernel⟩, by decide +kernel⟩
theorem mi_X10_unpaired : Cond.instanceMethod yX10_unpaired ∈ jTB ∧ Cond.selects yX10_unpaired.cls yX10_unpaired yX10_unpaired ∈ jTB := ⟨jTB_7 120 (by decide +kernel) rfl, jTB_in 93 (by decide +kernel) rfl⟩
theorem mt_X10_paired : jMth kX10_paired := ⟨jTB_7 235 rfl rfl, jTB_1 11 (by decide +kernel) rfl, ⟨by decide +kernel, by decide +kernel⟩, by decide +kernel⟩
theorem mi_X10_paired : Cond.instanceMethod yX10_paired ∈ jTB ∧ Cond.selects yX10_paired.cls yX10_paired yX10_paired ∈ jTB := ⟨jTB_7 233 (by decide +kernel) rfl, jTB_7 234 (by decide +kernel) rfl⟩
theorem mt_X10_lineOf : jMth kX10_lineOf := ⟨jTB_7 135 rfl rfl, jTB_1 11 (by decide +kernel) rfl, ⟨by decide +kernel, by decide +kernel⟩, by decide +kernel⟩
theorem mi_X10_lineOf : Cond.instanceMethod yX10_lineOf ∈ jTB ∧ Cond.selects yX10_lineOf.cls yX10_lineOf yX10_lineOf ∈ jTB := ⟨jTB_7 134 (by decide +kernel) rfl, jTB_in 95 (by decide +kernel) rfl⟩
theorem mt_X10_aheadOf : jMth kX10_aheadOf := ⟨jTB_7 143 rfl rfl, jTB_1 11 (by decide +kernel) rfl, ⟨by decide +kernel, by decide +kernel⟩, by decide +kernel⟩
theorem mi_X10_aheadOf : Cond.instanceMethod yX10_aheadOf ∈ jTB ∧ Cond.selects yX10_aheadOf.cls yX10_aheadOf yX10_aheadOf ∈ jTB := ⟨jTB_7 142 (by decide +kernel) rfl, jTB_in 97 (by decide +kernel) rfl⟩
theorem mt_X10_longestLine : jMth kX10_longestLine := ⟨jTB_7 139 rfl rfl, jTB_1 11 (by decide +kernel) rfl, ⟨by decide +kernel, by decide +kernel⟩, by decide +kernel⟩
theorem mi_X10_longestLine : Cond.instanceMethod yX10_longestLine ∈ jTB ∧ Cond.selects yX10_longestLine.cls yX10_longestLine yX10_longestLine ∈ jTB := ⟨jTB_7 138 (by decide +kernel) rfl, jTB_in 96 (by decide +kernel) rfl⟩
theorem mt_X10_line : jMth kX10_line := ⟨jTB_7 239 rfl rfl, jTB_1 11 (by decide +kernel) rfl, ⟨by decide +kernel, by decide +kernel⟩, by decide +kernel⟩
theorem mi_X10_line : Cond.instanceMethod yX10_line ∈ jTB ∧ Cond.selects yX10_line.cls yX10_line yX10_line ∈ jTB := ⟨jTB_7 237 (by decide +kernel) rfl, jTB_7 238 (by decide +kernel) rfl⟩
theorem mt_X10_layWas : jMth kX10_layWas := ⟨jTB_8 15 rfl rfl, jTB_1 11 (by decide +kernel) rfl, ⟨by decide +kernel, by decide +kernel⟩, by decide +kernel⟩
theorem mi_X10_layWas : Cond.instanceMethod yX10_layWas ∈ jTB ∧ Cond.selects yX10_layWas.cls yX10_layWas yX10_layWas ∈ jTB := ⟨jTB_8 14 (by decide +kernel) rfl, jTB_in 101 (by decide +kernel) rfl⟩
theorem mt_X10_areAlike : jMth kX10_areAlike := ⟨jTB_8 23 rfl rfl, jTB_1 11 (by decide +kernel) rfl, ⟨by decide +kernel, by decide +kernel⟩, by decide +kernel⟩
theorem mi_X10_areAlike : Cond.instanceMethod yX10_areAlike ∈ jTB ∧ Cond.selects yX10_areAlike.cls yX10_areAlike yX10_areAlike ∈ jTB := ⟨jTB_8 22 (by decide +kernel) rfl, jTB_in 103 (by decide +kernel) rfl⟩
theorem mt_X10_sameAs : jMth kX10_sameAs := ⟨jTB_8 19 rfl rfl, jTB_1 11 (by decide +kernel) rfl, ⟨by decide +kernel, by decide +kernel⟩, by decide +kernel⟩
theorem mi_X10_sameAs : Cond.instanceMethod yX10_sameAs ∈ jTB ∧ Cond.selects yX10_sameAs.cls yX10_sameAs yX10_sameAs ∈ jTB := ⟨jTB_8 18 (by decide +kernel) rfl, jTB_in 102 (by decide +kernel) rfl⟩
theorem mt_X10_rulesOfSet : jMth kX10_rulesOfSet := ⟨jTB_8 27 rfl rfl, jTB_1 11 (by decide +kernel) rfl, ⟨by decide +kernel, by decide +kernel⟩, by decide +kernel⟩
theorem mi_X10_rulesOfSet : Cond.instanceMethod yX10_rulesOfSet ∈ jTB ∧ Cond.selects yX10_rulesOfSet.cls yX10_rulesOfSet yX10_rulesOfSet ∈ jTB := ⟨jTB_8 26 (by decide +kernel) rfl, jTB_in 104 (by decide +kernel) rfl⟩
theorem mt_X10_goCourse : jMth kX10_goCourse := ⟨jTB_8 11 rfl rfl, jTB_1 11 (by decide +kernel) rfl, ⟨by decide +kernel, by decide +kernel⟩, by decide +kernel⟩
theorem mi_X10_goCourse : Cond.instanceMethod yX10_goCourse ∈ jTB ∧ Cond.selects yX10_goCourse.cls yX10_goCourse yX10_goCourse ∈ jTB := ⟨jTB_8 10 (by decide +kernel) rfl, jTB_in 100 (by decide +kernel) rfl⟩
theorem mt_X10_layCourse : jMth kX10_layCourse := ⟨jTB_8 7 rfl rfl, jTB_1 11 (by decide +kernel) rfl, ⟨by decide +kernel, by decide +kernel⟩, by decide +kernel⟩
theorem mi_X10_layCourse : Cond.instanceMethod yX10_layCourse ∈ jTB ∧ Cond.selects yX10_layCourse.cls yX10_layCourse yX10_layCourse ∈ jTB := ⟨jTB_8 6 (by decide +kernel) rfl, jTB_in 99 (by decide +kernel) rfl⟩
theorem mt_X10_madeFrom : jMth kX10_madeFrom := ⟨jTB_8 31 rfl rfl, jTB_1 11 (by decide +kernel) rfl, ⟨by decide +kernel, by decide +kernel⟩, by decide +kernel⟩
theorem mi_X10_madeFrom : Cond.instanceMethod yX10_madeFrom ∈ jTB ∧ Cond.selects yX10_madeFrom.cls yX10_madeFrom yX10_madeFrom ∈ jTB := ⟨jTB_8 30 (by decide +kernel) rfl, jTB_in 105 (by decide +kernel) rfl⟩
theorem mt_X10_circling : jMth kX10_circling := ⟨jTB_8 3 rfl rfl, jTB_1 11 (by decide +kernel) rfl, ⟨by decide +kernel, by decide +kernel⟩, by decide +kernel⟩
theorem mi_X10_circling : Cond.instanceMethod yX10_circling ∈ jTB ∧ Cond.selects yX10_circling.cls yX10_circling yX10_circling ∈ jTB := ⟨jTB_8 1 (by decide +kernel) rfl, jTB_8 2 (by decide +kernel) rfl⟩
theorem mt_X10_course : jMth kX10_course := ⟨jTB_8 35 rfl rfl, jTB_1 11 (by decide +kernel) rfl, ⟨by decide +kernel, by decide +kernel⟩, by decide +kernel⟩
theorem mi_X10_course : Cond.instanceMethod yX10_course ∈ jTB ∧ Cond.selects yX10_course.cls yX10_course yX10_course ∈ jTB := ⟨jTB_8 33 (by decide +kernel) rfl, jTB_8 34 (by decide +kernel) rfl⟩
theorem mt_X10_behindRounds : jMth kX10_behindRounds := ⟨jTB_8 43 rfl rfl, jTB_1 11 (by decide +kernel) rfl, ⟨by decide +kernel, by decide +kernel⟩, by decide +kernel⟩
theorem mi_X10_behindRounds : Cond.instanceMethod yX10_behindRounds ∈ jTB ∧ Cond.selects yX10_behindRounds.cls yX10_behindRounds yX10_behindRounds ∈ jTB := ⟨jTB_8 42 (by decide +kernel) rfl, jTB_in 106 (by decide +kernel) rfl⟩
theorem mt_X10_later : jMth kX10_later := ⟨jTB_8 39 rfl rfl, jTB_1 11 (by decide +kernel) rfl, ⟨by decide +kernel, by decide +kernel⟩, by decide +kernel⟩
theorem mi_X10_later : Cond.instanceMethod yX10_later ∈ jTB ∧ Cond.selects yX10_later.cls yX10_later yX10_later ∈ jTB := ⟨jTB_8 37 (by decide +kernel) rfl, jTB_8 38 (by decide +kernel) rfl⟩
theorem mt_X10_digest : jMth kX10_digest := ⟨jTB_8 47 rfl rfl, jTB_1 11 (by decide +kernel) rfl, ⟨by decide +kernel, by decide +kernel⟩, by decide +kernel⟩
theorem mi_X10_digest : Cond.instanceMethod yX10_digest ∈ jTB ∧ Cond.selects yX10_digest.cls yX10_digest yX10_digest ∈ jTB := ⟨jTB_8 45 (by decide +kernel) rfl, jTB_8 46 (by decide +kernel) rfl⟩
theorem mt_X10_used : jMth kX10_used := ⟨jTB_8 51 rfl rfl, jTB_1 11 (by decide +kernel) rfl, ⟨by decide +kernel, by decide +kernel⟩, by decide +kernel⟩
theorem mi_X10_used : Cond.instanceMethod yX10_used ∈ jTB ∧ Cond.selects yX10_used.cls yX10_used yX10_used ∈ jTB := ⟨jTB_8 49 (by decide +kernel) rfl, jTB_8 50 (by decide +kernel) rfl⟩
theorem mt_X10_many : jMth kX10_many := ⟨jTB_8 58 rfl rfl, jTB_1 11 (by decide +kernel) rfl, ⟨by decide +kernel, by decide +kernel⟩, by decide +kernel⟩
theorem ms_X10_many : Cond.static yX10_many ∈ jTB := jTB_8 57 (by decide +kernel) rfl
theorem mt_X10_cure : jMth kX10_cure := ⟨jTB_8 55 rfl rfl, jTB_1 11 (by decide +kernel) rfl, ⟨by decide +kernel, by decide +kernel⟩, by decide +kernel⟩
theorem mi_X10_cure : Cond.instanceMethod yX10_cure ∈ jTB ∧ Cond.selects yX10_cure.cls yX10_cure yX10_cure ∈ jTB := ⟨jTB_8 53 (by decide +kernel) rfl, jTB_8 54 (by decide +kernel) rfl⟩
theorem mt_X10_mean : jMth kX10_mean := ⟨jTB_8 62 rfl rfl, jTB_1 11 (by decide +kernel) rfl, ⟨by decide +kernel, by decide +kernel⟩, by decide +kernel⟩
theorem mi_X10_mean : Cond.instanceMethod yX10_mean ∈ jTB ∧ Cond.selects yX10_mean.cls yX10_mean yX10_mean ∈ jTB := ⟨jTB_8 60 (by decide +kernel) rfl, jTB_8 61 (by decide +kernel) rfl⟩
theorem mt_X10_share : jMth kX10_share := ⟨jTB_8 76 rfl rfl, jTB_1 11 (by decide +kernel) rfl, ⟨by decide +kernel, by decide +kernel⟩, by decide +kernel⟩
theorem mi_X10_share : Cond.instanceMethod yX10_share ∈ jTB ∧ Cond.selects yX10_share.cls yX10_share yX10_share ∈ jTB := ⟨jTB_8 74 (by decide +kernel) rfl, jTB_8 75 (by decide +kernel) rfl⟩
theorem mt_X10_image : jMth kX10_image := ⟨jTB_8 90 rfl rfl, jTB_1 11 (by decide +kernel) rfl, ⟨by decide +kernel, by decide +kernel⟩, by decide +kernel⟩
theorem mi_X10_image : Cond.instanceMethod yX10_image ∈ jTB ∧ Cond.selects yX10_image.cls yX10_image yX10_image ∈ jTB := ⟨jTB_8 88 (by decide +kernel) rfl, jTB_8 89 (by decide +kernel) rfl⟩
theorem mt_X10_back : jMth kX10_back := ⟨jTB_8 94 rfl rfl, jTB_1 11 (by decide +kernel) rfl, ⟨by decide +kernel, by decide +kernel⟩, by decide +kernel⟩
theorem mi_X10_back : Cond.instanceMethod yX10_back ∈ jTB ∧ Cond.selects yX10_back.cls yX10_back yX10_back ∈ jTB := ⟨jTB_8 92 (by decide +kernel) rfl, jTB_8 93 (by decide +kernel) rfl⟩
theorem mt_X10_steps : jMth kX10_steps := ⟨jTB_8 98 rfl rfl, jTB_1 11 (by decide +kernel) rfl, ⟨by decide +kernel, by decide +kernel⟩, by decide +kernel⟩
theorem mi_X10_steps : Cond.instanceMethod yX10_steps ∈ jTB ∧ Cond.selects yX10_steps.cls yX10_steps yX10_steps ∈ jTB := ⟨jTB_8 96 (by decide +kernel) rfl, jTB_8 97 (by decide +kernel) rfl⟩
theorem mt_Jxe99ae_isNaN_b9ae7 : jMth kJxe99ae_isNaN_b9ae7 := ⟨jTB_8 82 rfl rfl, jTB_1 16 (by decide +kernel) rfl, ⟨by decide +kernel, by decide +kernel⟩, by decide +kernel⟩
theorem ms_Jxe99ae_isNaN_b9ae7 : Cond.static yJxe99ae_isNaN_b9ae7 ∈ jTB := jTB_8 81 (by decide +kernel) rfl
theorem mt_Jxe99ae_doubleToLongBits_ccdee : jMth kJxe99ae_doubleToLongBits_ccdee := ⟨jTB_8 79 rfl rfl, jTB_1 16 (by decide +kernel) rfl, ⟨by decide +kernel, by decide +kernel⟩, by decide +kernel⟩
theorem ms_Jxe99ae_doubleToLongBits_ccdee : Cond.static yJxe99ae_doubleToLongBits_ccdee ∈ jTB := jTB_8 78 (by decide +kernel) rfl
theorem mt_Jxf58ca_isNaN_12338 : jMth kJxf58ca_isNaN_12338 := ⟨jTB_8 68 rfl rfl, jTB_1 15 (by decide +kernel) rfl, ⟨by decide +kernel, by decide +kernel⟩, by decide +kernel⟩
theorem ms_Jxf58ca_isNaN_12338 : Cond.static yJxf58ca_isNaN_12338 ∈ jTB := jTB_8 67 (by decide +kernel) rfl
theorem mt_Jxf58ca_floatToIntBits_5c35a : jMth kJxf58ca_floatToIntBits_5c35a := ⟨jTB_8 65 rfl rfl, jTB_1 15 (by decide +kernel) rfl, ⟨by decide +kernel, by decide +kernel⟩, by decide +kernel⟩
theorem ms_Jxf58ca_floatToIntBits_5c35a : Cond.static yJxf58ca_floatToIntBits_5c35a ∈ jTB := jTB_8 64 (by decide +kernel) rfl
theorem mt_J6_bitCount_0f7a4 : jMth kJ6_bitCount_0f7a4 := ⟨jTB_5 94 rfl rfl, jTB_1 14 (by decide +kernel) rfl, ⟨by decide +kernel, by decide +kernel⟩, by decide +kernel⟩
theorem ms_J6_bitCount_0f7a4 : Cond.static yJ6_bitCount_0f7a4 ∈ jTB := jTB_5 93 (by decide +kernel) rfl
theorem mt_J9_floorMod_7cf53 : jMth kJ9_floorMod_7cf53 := ⟨jTB_2 223 rfl rfl, jTB_1 12 (by decide +kernel) rfl, ⟨by decide +kernel, by decide +kernel⟩, by decide +kernel⟩
theorem ms_J9_floorMod_7cf53 : Cond.static yJ9_floorMod_7cf53 ∈ jTB := jTB_2 222 (by decide +kernel) rfl
