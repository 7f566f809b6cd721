/-! ===== methods: what a call of each wants (by program: wip/gen_words.py) ===== -/
abbrev mX0_init : mM := (yX0_init, cX0_init, 2, none, [], false)
theorem sX0_init : mIn mX0_init 1 := ⟨mw_92, mw_91, mw_33, ⟨by decide +kernel, by decide +kernel, by decide +kernel⟩, rfl, rfl, rfl⟩
abbrev mX0_sortUp : mM := (yX0_sortUp, cX0_sortUp, 5, some .int, [], false)
theorem sX0_sortUp : mV mX0_sortUp 2 := ⟨mw_146, mw_144, mw_145, mw_33, ⟨by decide +kernel, by decide +kernel, by decide +kernel⟩, rfl⟩
abbrev mX0_weaveJoined : mM := (yX0_weaveJoined, cX0_weaveJoined, 2, none, [], false)
theorem sX0_weaveJoined : mV mX0_weaveJoined 1 := ⟨mw_215, mw_213, mw_214, mw_33, ⟨by decide +kernel, by decide +kernel, by decide +kernel⟩, rfl⟩
abbrev mX0_mergeNeighbours : mM := (yX0_mergeNeighbours, cX0_mergeNeighbours, 7, some .int, [], false)
theorem sX0_mergeNeighbours : mV mX0_mergeNeighbours 2 := ⟨mw_160, mw_159, mw_1, mw_33, ⟨by decide +kernel, by decide +kernel, by decide +kernel⟩, rfl⟩
abbrev mX0_mergeSpans : mM := (yX0_mergeSpans, cX0_mergeSpans, 8, some .int, [], false)
theorem sX0_mergeSpans : mSt mX0_mergeSpans 5 := ⟨mw_168, mw_167, mw_33, ⟨by decide +kernel, by decide +kernel, by decide +kernel⟩, rfl⟩
abbrev mX1_init : mM := (yX1_init, cX1_init, 3, none, [], false)
theorem sX1_init : mIn mX1_init 2 := ⟨mw_65, mw_64, mw_32, ⟨by decide +kernel, by decide +kernel, by decide +kernel⟩, rfl, rfl, rfl⟩
abbrev mX1_room : mM := (yX1_room, cX1_room, 1, some .int, [], false)
theorem sX1_room : mV mX1_room 0 := ⟨mw_406, mw_404, mw_405, mw_32, ⟨by decide +kernel, by decide +kernel, by decide +kernel⟩, rfl⟩
abbrev mX1_free : mM := (yX1_free, cX1_free, 1, some .int, [], false)
theorem sX1_free : mV mX1_free 0 := ⟨mw_209, mw_207, mw_208, mw_32, ⟨by decide +kernel, by decide +kernel, by decide +kernel⟩, rfl⟩
abbrev mX1_empty : mM := (yX1_empty, cX1_empty, 1, none, [], false)
theorem sX1_empty : mV mX1_empty 0 := ⟨mw_164, mw_162, mw_163, mw_32, ⟨by decide +kernel, by decide +kernel, by decide +kernel⟩, rfl⟩
abbrev mX1_append : mM := (yX1_append, cX1_append, 3, none, [], false)
theorem sX1_append : mV mX1_append 2 := ⟨mw_172, mw_170, mw_171, mw_32, ⟨by decide +kernel, by decide +kernel, by decide +kernel⟩, rfl⟩
abbrev mX1_appendSpan : mM := (yX1_appendSpan, cX1_appendSpan, 5, none, [], false)
theorem sX1_appendSpan : mV mX1_appendSpan 3 := ⟨mw_176, mw_174, mw_175, mw_32, ⟨by decide +kernel, by decide +kernel, by decide +kernel⟩, rfl⟩
abbrev mX1_become : mM := (yX1_become, cX1_become, 3, none, [], false)
theorem sX1_become : mV mX1_become 1 := ⟨mw_150, mw_148, mw_149, mw_32, ⟨by decide +kernel, by decide +kernel, by decide +kernel⟩, rfl⟩
abbrev mX1_trade : mM := (yX1_trade, cX1_trade, 5, none, [], false)
theorem sX1_trade : mV mX1_trade 2 := ⟨mw_495, mw_493, mw_494, mw_32, ⟨by decide +kernel, by decide +kernel, by decide +kernel⟩, rfl⟩
abbrev mX1_wrongerByExchange : mM := (yX1_wrongerByExchange, cX1_wrongerByExchange, 2, some .int, [], false)
theorem sX1_wrongerByExchange : mV mX1_wrongerByExchange 1 := ⟨mw_491, mw_489, mw_490, mw_32, ⟨by decide +kernel, by decide +kernel, by decide +kernel⟩, rfl⟩
abbrev mX1_otherKeys : mM := (yX1_otherKeys, cX1_otherKeys, 5, some .int, [], false)
theorem sX1_otherKeys : mV mX1_otherKeys 1 := ⟨mw_513, mw_511, mw_512, mw_32, ⟨by decide +kernel, by decide +kernel, by decide +kernel⟩, rfl⟩
abbrev mX1_otherItems : mM := (yX1_otherItems, cX1_otherItems, 5, some .int, [], false)
theorem sX1_otherItems : mV mX1_otherItems 1 := ⟨mw_219, mw_217, mw_218, mw_32, ⟨by decide +kernel, by decide +kernel, by decide +kernel⟩, rfl⟩
abbrev mX1_isRising : mM := (yX1_isRising, cX1_isRising, 2, some .boolean, [], false)
theorem sX1_isRising : mV mX1_isRising 0 := ⟨mw_185, mw_183, mw_184, mw_32, ⟨by decide +kernel, by decide +kernel, by decide +kernel⟩, rfl⟩
abbrev mX1_fallsThroughout : mM := (yX1_fallsThroughout, cX1_fallsThroughout, 2, some .boolean, [], false)
theorem sX1_fallsThroughout : mV mX1_fallsThroughout 0 := ⟨mw_916, mw_914, mw_915, mw_32, ⟨by decide +kernel, by decide +kernel, by decide +kernel⟩, rfl⟩
abbrev mX1_keepsStamps : mM := (yX1_keepsStamps, cX1_keepsStamps, 2, some .boolean, [], false)
theorem sX1_keepsStamps : mV mX1_keepsStamps 0 := ⟨mw_927, mw_925, mw_926, mw_32, ⟨by decide +kernel, by decide +kernel, by decide +kernel⟩, rfl⟩
abbrev mX1_rankAt : mM := (yX1_rankAt, cX1_rankAt, 5, some .int, [], false)
theorem sX1_rankAt : mV mX1_rankAt 1 := ⟨mw_201, mw_199, mw_200, mw_32, ⟨by decide +kernel, by decide +kernel, by decide +kernel⟩, rfl⟩
abbrev mX1_standsByRanksIn : mM := (yX1_standsByRanksIn, cX1_standsByRanksIn, 4, some .boolean, [], false)
theorem sX1_standsByRanksIn : mV mX1_standsByRanksIn 1 := ⟨mw_197, mw_195, mw_196, mw_32, ⟨by decide +kernel, by decide +kernel, by decide +kernel⟩, rfl⟩
abbrev mX1_wrongPairsWith : mM := (yX1_wrongPairsWith, cX1_wrongPairsWith, 5, some .int, [], false)
theorem sX1_wrongPairsWith : mV mX1_wrongPairsWith 1 := ⟨mw_614, mw_612, mw_613, mw_32, ⟨by decide +kernel, by decide +kernel, by decide +kernel⟩, rfl⟩
abbrev mX1_wrongPairs : mM := (yX1_wrongPairs, cX1_wrongPairs, 4, some .int, [], false)
theorem sX1_wrongPairs : mV mX1_wrongPairs 0 := ⟨mw_181, mw_179, mw_180, mw_32, ⟨by decide +kernel, by decide +kernel, by decide +kernel⟩, rfl⟩
abbrev mX1_rightPairs : mM := (yX1_rightPairs, cX1_rightPairs, 4, some .int, [], false)
theorem sX1_rightPairs : mV mX1_rightPairs 0 := ⟨mw_189, mw_187, mw_188, mw_32, ⟨by decide +kernel, by decide +kernel, by decide +kernel⟩, rfl⟩
abbrev mX1_endOfRun : mM := (yX1_endOfRun, cX1_endOfRun, 3, some .int, [], false)
theorem sX1_endOfRun : mV mX1_endOfRun 1 := ⟨mw_632, mw_630, mw_631, mw_32, ⟨by decide +kernel, by decide +kernel, by decide +kernel⟩, rfl⟩
abbrev mX1_runsInAll : mM := (yX1_runsInAll, cX1_runsInAll, 3, some .int, [], false)
theorem sX1_runsInAll : mV mX1_runsInAll 0 := ⟨mw_339, mw_337, mw_338, mw_32, ⟨by decide +kernel, by decide +kernel, by decide +kernel⟩, rfl⟩
abbrev mX1_longestRun : mM := (yX1_longestRun, cX1_longestRun, 4, some .int, [], false)
theorem sX1_longestRun : mV mX1_longestRun 0 := ⟨mw_347, mw_345, mw_346, mw_32, ⟨by decide +kernel, by decide +kernel, by decide +kernel⟩, rfl⟩
abbrev mX1_itemsWith : mM := (yX1_itemsWith, cX1_itemsWith, 4, some .int, [], false)
theorem sX1_itemsWith : mV mX1_itemsWith 1 := ⟨mw_961, mw_959, mw_960, mw_32, ⟨by decide +kernel, by decide +kernel, by decide +kernel⟩, rfl⟩
abbrev mX1_itemsBelow : mM := (yX1_itemsBelow, cX1_itemsBelow, 4, some .int, [], false)
theorem sX1_itemsBelow : mV mX1_itemsBelow 1 := ⟨mw_972, mw_970, mw_971, mw_32, ⟨by decide +kernel, by decide +kernel, by decide +kernel⟩, rfl⟩
abbrev mX1_firstPlaceOf : mM := (yX1_firstPlaceOf, cX1_firstPlaceOf, 3, some .int, [], false)
theorem sX1_firstPlaceOf : mV mX1_firstPlaceOf 1 := ⟨mw_987, mw_985, mw_986, mw_32, ⟨by decide +kernel, by decide +kernel, by decide +kernel⟩, rfl⟩
abbrev mX1_lastPlaceOf : mM := (yX1_lastPlaceOf, cX1_lastPlaceOf, 3, some .int, [], false)
theorem sX1_lastPlaceOf : mV mX1_lastPlaceOf 1 := ⟨mw_983, mw_981, mw_982, mw_32, ⟨by decide +kernel, by decide +kernel, by decide +kernel⟩, rfl⟩
abbrev mX1_leastKey : mM := (yX1_leastKey, cX1_leastKey, 3, some .int, [], false)
theorem sX1_leastKey : mV mX1_leastKey 0 := ⟨mw_1003, mw_1001, mw_1002, mw_32, ⟨by decide +kernel, by decide +kernel, by decide +kernel⟩, rfl⟩
abbrev mX1_greatestKey : mM := (yX1_greatestKey, cX1_greatestKey, 3, some .int, [], false)
theorem sX1_greatestKey : mV mX1_greatestKey 0 := ⟨mw_998, mw_996, mw_997, mw_32, ⟨by decide +kernel, by decide +kernel, by decide +kernel⟩, rfl⟩
abbrev mX1_keysTogether : mM := (yX1_keysTogether, cX1_keysTogether, 3, some .int, [], false)
theorem sX1_keysTogether : mV mX1_keysTogether 0 := ⟨mw_358, mw_356, mw_357, mw_32, ⟨by decide +kernel, by decide +kernel, by decide +kernel⟩, rfl⟩
abbrev mX1_tiedPairsOfSorted : mM := (yX1_tiedPairsOfSorted, cX1_tiedPairsOfSorted, 4, some .int, [], false)
theorem sX1_tiedPairsOfSorted : mV mX1_tiedPairsOfSorted 0 := ⟨mw_193, mw_191, mw_192, mw_32, ⟨by decide +kernel, by decide +kernel, by decide +kernel⟩, rfl⟩
abbrev mX1_unlikeKeysOfSorted : mM := (yX1_unlikeKeysOfSorted, cX1_unlikeKeysOfSorted, 3, some .int, [], false)
theorem sX1_unlikeKeysOfSorted : mV mX1_unlikeKeysOfSorted 0 := ⟨mw_366, mw_364, mw_365, mw_32, ⟨by decide +kernel, by decide +kernel, by decide +kernel⟩, rfl⟩
abbrev mX1_commonestKeyOfSorted : mM := (yX1_commonestKeyOfSorted, cX1_commonestKeyOfSorted, 5, some .int, [], false)
theorem sX1_commonestKeyOfSorted : mV mX1_commonestKeyOfSorted 0 := ⟨mw_1018, mw_1016, mw_1017, mw_32, ⟨by decide +kernel, by decide +kernel, by decide +kernel⟩, rfl⟩
abbrev mX2_init : mM := (yX2_init, cX2_init, 1, none, [], false)
theorem sX2_init : mIn mX2_init 0 := ⟨mw_56, mw_55, mw_31, ⟨by decide +kernel, by decide +kernel, by decide +kernel⟩, rfl, rfl, rfl⟩
abbrev mX2_fill : mM := (yX2_fill, cX2_fill, 8, some .int, [], false)
theorem sX2_fill : mV mX2_fill 5 := ⟨mw_402, mw_400, mw_401, mw_31, ⟨by decide +kernel, by decide +kernel, by decide +kernel⟩, rfl⟩
abbrev mX2_add : mM := (yX2_add, cX2_add, 4, some .int, [], false)
theorem sX2_add : mV mX2_add 2 := ⟨mw_440, mw_438, mw_439, mw_31, ⟨by decide +kernel, by decide +kernel, by decide +kernel⟩, rfl⟩
abbrev mX2_put : mM := (yX2_put, cX2_put, 6, some .int, [], false)
theorem sX2_put : mV mX2_put 3 := ⟨mw_456, mw_454, mw_455, mw_31, ⟨by decide +kernel, by decide +kernel, by decide +kernel⟩, rfl⟩
abbrev mX2_drop : mM := (yX2_drop, cX2_drop, 6, some .int, [], false)
theorem sX2_drop : mV mX2_drop 2 := ⟨mw_470, mw_468, mw_469, mw_31, ⟨by decide +kernel, by decide +kernel, by decide +kernel⟩, rfl⟩
abbrev mX2_clear : mM := (yX2_clear, cX2_clear, 4, some .int, [], false)
theorem sX2_clear : mV mX2_clear 1 := ⟨mw_477, mw_475, mw_476, mw_31, ⟨by decide +kernel, by decide +kernel, by decide +kernel⟩, rfl⟩
abbrev mX2_exchange : mM := (yX2_exchange, cX2_exchange, 5, some .int, [], false)
theorem sX2_exchange : mV mX2_exchange 2 := ⟨mw_484, mw_482, mw_483, mw_31, ⟨by decide +kernel, by decide +kernel, by decide +kernel⟩, rfl⟩
abbrev mX2_swap : mM := (yX2_swap, cX2_swap, 6, some .int, [], false)
theorem sX2_swap : mV mX2_swap 3 := ⟨mw_502, mw_500, mw_501, mw_31, ⟨by decide +kernel, by decide +kernel, by decide +kernel⟩, rfl⟩
abbrev mX2_turn : mM := (yX2_turn, cX2_turn, 5, some .int, [], false)
theorem sX2_turn : mV mX2_turn 1 := ⟨mw_509, mw_507, mw_508, mw_31, ⟨by decide +kernel, by decide +kernel, by decide +kernel⟩, rfl⟩
abbrev mX2_roll : mM := (yX2_roll, cX2_roll, 6, some .int, [], false)
theorem sX2_roll : mV mX2_roll 2 := ⟨mw_520, mw_518, mw_519, mw_31, ⟨by decide +kernel, by decide +kernel, by decide +kernel⟩, rfl⟩
abbrev mX2_keep : mM := (yX2_keep, cX2_keep, 6, some .int, [], false)
theorem sX2_keep : mV mX2_keep 3 := ⟨mw_527, mw_525, mw_526, mw_31, ⟨by decide +kernel, by decide +kernel, by decide +kernel⟩, rfl⟩
abbrev mX2_sort : mM := (yX2_sort, cX2_sort, 4, some .int, [], false)
theorem sX2_sort : mV mX2_sort 1 := ⟨mw_534, mw_532, mw_533, mw_31, ⟨by decide +kernel, by decide +kernel, by decide +kernel⟩, rfl⟩
abbrev mX2_copy : mM := (yX2_copy, cX2_copy, 5, some .int, [], false)
theorem sX2_copy : mV mX2_copy 2 := ⟨mw_541, mw_539, mw_540, mw_31, ⟨by decide +kernel, by decide +kernel, by decide +kernel⟩, rfl⟩
abbrev mX2_join : mM := (yX2_join, cX2_join, 5, some .int, [], false)
theorem sX2_join : mV mX2_join 2 := ⟨mw_556, mw_554, mw_555, mw_31, ⟨by decide +kernel, by decide +kernel, by decide +kernel⟩, rfl⟩
abbrev mX2_merge : mM := (yX2_merge, cX2_merge, 5, some .int, [], false)
theorem sX2_merge : mV mX2_merge 2 := ⟨mw_563, mw_561, mw_562, mw_31, ⟨by decide +kernel, by decide +kernel, by decide +kernel⟩, rfl⟩
abbrev mX2_many : mM := (yX2_many, cX2_many, 2, some .int, [], false)
theorem sX2_many : mV mX2_many 1 := ⟨mw_229, mw_227, mw_228, mw_31, ⟨by decide +kernel, by decide +kernel, by decide +kernel⟩, rfl⟩
abbrev mX2_key : mM := (yX2_key, cX2_key, 4, some .int, [], false)
theorem sX2_key : mV mX2_key 2 := ⟨mw_574, mw_572, mw_573, mw_31, ⟨by decide +kernel, by decide +kernel, by decide +kernel⟩, rfl⟩
abbrev mX2_stamp : mM := (yX2_stamp, cX2_stamp, 4, some .int, [], false)
theorem sX2_stamp : mV mX2_stamp 2 := ⟨mw_581, mw_579, mw_580, mw_31, ⟨by decide +kernel, by decide +kernel, by decide +kernel⟩, rfl⟩
abbrev mX2_rank : mM := (yX2_rank, cX2_rank, 4, some .int, [], false)
theorem sX2_rank : mV mX2_rank 2 := ⟨mw_588, mw_586, mw_587, mw_31, ⟨by decide +kernel, by decide +kernel, by decide +kernel⟩, rfl⟩
abbrev mX2_would : mM := (yX2_would, cX2_would, 4, some .int, [], false)
theorem sX2_would : mV mX2_would 2 := ⟨mw_596, mw_594, mw_595, mw_31, ⟨by decide +kernel, by decide +kernel, by decide +kernel⟩, rfl⟩
abbrev mX2_wouldStamp : mM := (yX2_wouldStamp, cX2_wouldStamp, 4, some .int, [], false)
theorem sX2_wouldStamp : mV mX2_wouldStamp 2 := ⟨mw_603, mw_601, mw_602, mw_31, ⟨by decide +kernel, by decide +kernel, by decide +kernel⟩, rfl⟩
abbrev mX2_wrongAt : mM := (yX2_wrongAt, cX2_wrongAt, 4, some .int, [], false)
theorem sX2_wrongAt : mV mX2_wrongAt 2 := ⟨mw_610, mw_608, mw_609, mw_31, ⟨by decide +kernel, by decide +kernel, by decide +kernel⟩, rfl⟩
abbrev mX2_after : mM := (yX2_after, cX2_after, 4, some .int, [], false)
theorem sX2_after : mV mX2_after 2 := ⟨mw_621, mw_619, mw_620, mw_31, ⟨by decide +kernel, by decide +kernel, by decide +kernel⟩, rfl⟩
abbrev mX2_runAt : mM := (yX2_runAt, cX2_runAt, 4, some .int, [], false)
theorem sX2_runAt : mV mX2_runAt 2 := ⟨mw_628, mw_626, mw_627, mw_31, ⟨by decide +kernel, by decide +kernel, by decide +kernel⟩, rfl⟩
abbrev mX2_text : mM := (yX2_text, cX2_text, 8, some (.object "java/lang/String"), [], false)
theorem sX2_text : mV mX2_text 3 := ⟨mw_639, mw_637, mw_638, mw_31, ⟨by decide +kernel, by decide +kernel, by decide +kernel⟩, rfl⟩
abbrev mX2_isSorted : mM := (yX2_isSorted, cX2_isSorted, 2, some .boolean, [], false)
theorem sX2_isSorted : mV mX2_isSorted 1 := ⟨mw_905, mw_903, mw_904, mw_31, ⟨by decide +kernel, by decide +kernel, by decide +kernel⟩, rfl⟩
abbrev mX2_isFalling : mM := (yX2_isFalling, cX2_isFalling, 2, some .boolean, [], false)
theorem sX2_isFalling : mV mX2_isFalling 1 := ⟨mw_912, mw_910, mw_911, mw_31, ⟨by decide +kernel, by decide +kernel, by decide +kernel⟩, rfl⟩
abbrev mX2_isKept : mM := (yX2_isKept, cX2_isKept, 2, some .boolean, [], false)
theorem sX2_isKept : mV mX2_isKept 1 := ⟨mw_923, mw_921, mw_922, mw_31, ⟨by decide +kernel, by decide +kernel, by decide +kernel⟩, rfl⟩
abbrev mX2_wrong : mM := (yX2_wrong, cX2_wrong, 4, some .int, [], false)
theorem sX2_wrong : mV mX2_wrong 2 := ⟨mw_308, mw_306, mw_307, mw_31, ⟨by decide +kernel, by decide +kernel, by decide +kernel⟩, rfl⟩
abbrev mX2_right : mM := (yX2_right, cX2_right, 2, some .int, [], false)
theorem sX2_right : mV mX2_right 1 := ⟨mw_938, mw_936, mw_937, mw_31, ⟨by decide +kernel, by decide +kernel, by decide +kernel⟩, rfl⟩
abbrev mX2_ties : mM := (yX2_ties, cX2_ties, 2, some .int, [], false)
theorem sX2_ties : mV mX2_ties 1 := ⟨mw_331, mw_329, mw_330, mw_31, ⟨by decide +kernel, by decide +kernel, by decide +kernel⟩, rfl⟩
abbrev mX2_runs : mM := (yX2_runs, cX2_runs, 2, some .int, [], false)
theorem sX2_runs : mV mX2_runs 1 := ⟨mw_335, mw_333, mw_334, mw_31, ⟨by decide +kernel, by decide +kernel, by decide +kernel⟩, rfl⟩
abbrev mX2_longest : mM := (yX2_longest, cX2_longest, 2, some .int, [], false)
theorem sX2_longest : mV mX2_longest 1 := ⟨mw_343, mw_341, mw_342, mw_31, ⟨by decide +kernel, by decide +kernel, by decide +kernel⟩, rfl⟩
abbrev mX2_count : mM := (yX2_count, cX2_count, 4, some .int, [], false)
theorem sX2_count : mV mX2_count 2 := ⟨mw_957, mw_955, mw_956, mw_31, ⟨by decide +kernel, by decide +kernel, by decide +kernel⟩, rfl⟩
abbrev mX2_below : mM := (yX2_below, cX2_below, 4, some .int, [], false)
theorem sX2_below : mV mX2_below 2 := ⟨mw_968, mw_966, mw_967, mw_31, ⟨by decide +kernel, by decide +kernel, by decide +kernel⟩, rfl⟩
abbrev mX2_first : mM := (yX2_first, cX2_first, 5, some .int, [], false)
theorem sX2_first : mV mX2_first 3 := ⟨mw_979, mw_977, mw_978, mw_31, ⟨by decide +kernel, by decide +kernel, by decide +kernel⟩, rfl⟩
abbrev mX2_end : mM := (yX2_end, cX2_end, 4, some .int, [], false)
theorem sX2_end : mV mX2_end 2 := ⟨mw_994, mw_992, mw_993, mw_31, ⟨by decide +kernel, by decide +kernel, by decide +kernel⟩, rfl⟩
abbrev mX2_unlike : mM := (yX2_unlike, cX2_unlike, 2, some .int, [], false)
theorem sX2_unlike : mV mX2_unlike 1 := ⟨mw_362, mw_360, mw_361, mw_31, ⟨by decide +kernel, by decide +kernel, by decide +kernel⟩, rfl⟩
abbrev mX2_most : mM := (yX2_most, cX2_most, 2, some .int, [], false)
theorem sX2_most : mV mX2_most 1 := ⟨mw_1014, mw_1012, mw_1013, mw_31, ⟨by decide +kernel, by decide +kernel, by decide +kernel⟩, rfl⟩
abbrev mX2_sum : mM := (yX2_sum, cX2_sum, 2, some .int, [], false)
theorem sX2_sum : mV mX2_sum 1 := ⟨mw_354, mw_352, mw_353, mw_31, ⟨by decide +kernel, by decide +kernel, by decide +kernel⟩, rfl⟩
abbrev mX2_same : mM := (yX2_same, cX2_same, 5, some .boolean, [], false)
theorem sX2_same : mV mX2_same 2 := ⟨mw_1029, mw_1027, mw_1028, mw_31, ⟨by decide +kernel, by decide +kernel, by decide +kernel⟩, rfl⟩
abbrev mX2_bag : mM := (yX2_bag, cX2_bag, 5, some .boolean, [], false)
theorem sX2_bag : mV mX2_bag 2 := ⟨mw_1036, mw_1034, mw_1035, mw_31, ⟨by decide +kernel, by decide +kernel, by decide +kernel⟩, rfl⟩
abbrev mX2_mark : mM := (yX2_mark, cX2_mark, 6, some .int, [], false)
theorem sX2_mark : mV mX2_mark 2 := ⟨mw_304, mw_302, mw_303, mw_31, ⟨by decide +kernel, by decide +kernel, by decide +kernel⟩, rfl⟩
abbrev mX2_house : mM := (yX2_house, cX2_house, 2, some .int, [], false)
theorem sX2_house : mV mX2_house 1 := ⟨mw_370, mw_368, mw_369, mw_31, ⟨by decide +kernel, by decide +kernel, by decide +kernel⟩, rfl⟩
abbrev mX2_knock : mM := (yX2_knock, cX2_knock, 1, some .int, [], false)
theorem sX2_knock : mV mX2_knock 0 := ⟨mw_134, mw_132, mw_133, mw_31, ⟨by decide +kernel, by decide +kernel, by decide +kernel⟩, rfl⟩
abbrev mX2_isSound : mM := (yX2_isSound, cX2_isSound, 2, some .boolean, [], false)
theorem sX2_isSound : mV mX2_isSound 0 := ⟨mw_138, mw_136, mw_137, mw_31, ⟨by decide +kernel, by decide +kernel, by decide +kernel⟩, rfl⟩
abbrev mX2_digest : mM := (yX2_digest, cX2_digest, 4, some .long, [], false)
theorem sX2_digest : mV mX2_digest 0 := ⟨mw_223, mw_221, mw_222, mw_31, ⟨by decide +kernel, by decide +kernel, by decide +kernel⟩, rfl⟩
abbrev mX2_rowOf : mM := (yX2_rowOf, cX2_rowOf, 2, some (.object "Runweaver$Row"), [], false)
theorem sX2_rowOf : mV mX2_rowOf 1 := ⟨mw_233, mw_232, mw_3, mw_31, ⟨by decide +kernel, by decide +kernel, by decide +kernel⟩, rfl⟩
abbrev mX2_demand : mM := (yX2_demand, cX2_demand, 1, none, [], false)
theorem sX2_demand : mSt mX2_demand 1 := ⟨mw_311, mw_310, mw_31, ⟨by decide +kernel, by decide +kernel, by decide +kernel⟩, rfl⟩
abbrev mX2_demandKey : mM := (yX2_demandKey, cX2_demandKey, 1, none, [], false)
theorem sX2_demandKey : mSt mX2_demandKey 1 := ⟨mw_443, mw_442, mw_31, ⟨by decide +kernel, by decide +kernel, by decide +kernel⟩, rfl⟩
abbrev mX2_demandWithin : mM := (yX2_demandWithin, cX2_demandWithin, 1, none, [], false)
theorem sX2_demandWithin : mSt mX2_demandWithin 1 := ⟨mw_462, mw_461, mw_31, ⟨by decide +kernel, by decide +kernel, by decide +kernel⟩, rfl⟩
abbrev mX2_demandPlace : mM := (yX2_demandPlace, cX2_demandPlace, 2, none, [], false)
theorem sX2_demandPlace : mSt mX2_demandPlace 2 := ⟨mw_459, mw_458, mw_31, ⟨by decide +kernel, by decide +kernel, by decide +kernel⟩, rfl⟩
abbrev mX2_demandPlaceWithNext : mM := (yX2_demandPlaceWithNext, cX2_demandPlaceWithNext, 2, none, [], false)
theorem sX2_demandPlaceWithNext : mSt mX2_demandPlaceWithNext 2 := ⟨mw_487, mw_486, mw_31, ⟨by decide +kernel, by decide +kernel, by decide +kernel⟩, rfl⟩
abbrev mX2_done : mM := (yX2_done, cX2_done, 2, some .int, [], false)
theorem sX2_done : mV mX2_done 1 := ⟨mw_433, mw_432, mw_11, mw_31, ⟨by decide +kernel, by decide +kernel, by decide +kernel⟩, rfl⟩
abbrev mX2_refused : mM := (yX2_refused, cX2_refused, 1, some .int, [], false)
theorem sX2_refused : mV mX2_refused 0 := ⟨mw_449, mw_448, mw_12, mw_31, ⟨by decide +kernel, by decide +kernel, by decide +kernel⟩, rfl⟩
abbrev mX2_nextStamp : mM := (yX2_nextStamp, cX2_nextStamp, 2, some .int, [], false)
theorem sX2_nextStamp : mV mX2_nextStamp 0 := ⟨mw_420, mw_419, mw_9, mw_31, ⟨by decide +kernel, by decide +kernel, by decide +kernel⟩, rfl⟩
abbrev mX2_stampOfNew : mM := (yX2_stampOfNew, cX2_stampOfNew, 2, some .int, [], false)
theorem sX2_stampOfNew : mV mX2_stampOfNew 1 := ⟨mw_416, mw_415, mw_8, mw_31, ⟨by decide +kernel, by decide +kernel, by decide +kernel⟩, rfl⟩
abbrev mX2_appendPattern : mM := (yX2_appendPattern, cX2_appendPattern, 7, none, [], false)
theorem sX2_appendPattern : mV mX2_appendPattern 5 := ⟨mw_425, mw_424, mw_10, mw_31, ⟨by decide +kernel, by decide +kernel, by decide +kernel⟩, rfl⟩
abbrev mX2_appendDrawn : mM := (yX2_appendDrawn, cX2_appendDrawn, 7, none, [], false)
theorem sX2_appendDrawn : mV mX2_appendDrawn 4 := ⟨mw_411, mw_410, mw_7, mw_31, ⟨by decide +kernel, by decide +kernel, by decide +kernel⟩, rfl⟩
abbrev mX2_patternKey : mM := (yX2_patternKey, cX2_patternKey, 5, some .int, [], false)
theorem sX2_patternKey : mSt mX2_patternKey 5 := ⟨mw_428, mw_427, mw_31, ⟨by decide +kernel, by decide +kernel, by decide +kernel⟩, rfl⟩
abbrev mX2_bring : mM := (yX2_bring, cX2_bring, 6, none, [], false)
theorem sX2_bring : mV mX2_bring 3 := ⟨mw_545, mw_544, mw_13, mw_31, ⟨by decide +kernel, by decide +kernel, by decide +kernel⟩, rfl⟩
abbrev mX2_stampOfComer : mM := (yX2_stampOfComer, cX2_stampOfComer, 4, some .int, [], false)
theorem sX2_stampOfComer : mV mX2_stampOfComer 3 := ⟨mw_549, mw_548, mw_14, mw_31, ⟨by decide +kernel, by decide +kernel, by decide +kernel⟩, rfl⟩
abbrev mX2_itemsInAll : mM := (yX2_itemsInAll, cX2_itemsInAll, 3, some .int, [], false)
theorem sX2_itemsInAll : mV mX2_itemsInAll 0 := ⟨mw_374, mw_373, mw_5, mw_31, ⟨by decide +kernel, by decide +kernel, by decide +kernel⟩, rfl⟩
abbrev mX2_sortedRows : mM := (yX2_sortedRows, cX2_sortedRows, 3, some .int, [], false)
theorem sX2_sortedRows : mV mX2_sortedRows 0 := ⟨mw_378, mw_377, mw_6, mw_31, ⟨by decide +kernel, by decide +kernel, by decide +kernel⟩, rfl⟩
abbrev mX2_isRowSound : mM := (yX2_isRowSound, cX2_isRowSound, 4, some .boolean, [], false)
theorem sX2_isRowSound : mV mX2_isRowSound 1 := ⟨mw_142, mw_141, mw_0, mw_31, ⟨by decide +kernel, by decide +kernel, by decide +kernel⟩, rfl⟩
abbrev mX2_isWeaveSound : mM := (yX2_isWeaveSound, cX2_isWeaveSound, 3, some .boolean, [], false)
theorem sX2_isWeaveSound : mV mX2_isWeaveSound 2 := ⟨mw_205, mw_204, mw_2, mw_31, ⟨by decide +kernel, by decide +kernel, by decide +kernel⟩, rfl⟩
abbrev mX3_init : mM := (yX3_init, cX3_init, 1, none, [], false)
theorem sX3_init : mIn mX3_init 0 := ⟨mw_385, mw_384, mw_35, ⟨by decide +kernel, by decide +kernel, by decide +kernel⟩, rfl, rfl, rfl⟩
abbrev mX4_init : mM := (yX4_init, cX4_init, 1, none, [], false)
theorem sX4_init : mIn mX4_init 0 := ⟨mw_1049, mw_1048, mw_34, ⟨by decide +kernel, by decide +kernel, by decide +kernel⟩, rfl, rfl, rfl⟩
abbrev mX4_thrown : mM := (yX4_thrown, cX4_thrown, 1, some .int, [], false)
theorem sX4_thrown : mV mX4_thrown 0 := ⟨mw_1078, mw_1076, mw_1077, mw_34, ⟨by decide +kernel, by decide +kernel, by decide +kernel⟩, rfl⟩
abbrev mX4_isIn : mM := (yX4_isIn, cX4_isIn, 3, some .boolean, [], false)
theorem sX4_isIn : mSt mX4_isIn 3 := ⟨mw_1088, mw_1087, mw_34, ⟨by decide +kernel, by decide +kernel, by decide +kernel⟩, rfl⟩
abbrev mX4_room : mM := (yX4_room, cX4_room, 1, some .int, [], false)
theorem sX4_room : mSt mX4_room 1 := ⟨mw_1091, mw_1090, mw_34, ⟨by decide +kernel, by decide +kernel, by decide +kernel⟩, rfl⟩
abbrev mX4_isRow : mM := (yX4_isRow, cX4_isRow, 1, some .boolean, [], false)
theorem sX4_isRow : mSt mX4_isRow 1 := ⟨mw_1085, mw_1084, mw_34, ⟨by decide +kernel, by decide +kernel, by decide +kernel⟩, rfl⟩
abbrev mX4_isPlace : mM := (yX4_isPlace, cX4_isPlace, 3, some .boolean, [], false)
theorem sX4_isPlace : mV mX4_isPlace 2 := ⟨mw_1129, mw_1128, mw_19, mw_34, ⟨by decide +kernel, by decide +kernel, by decide +kernel⟩, rfl⟩
abbrev mX4_isLet : mM := (yX4_isLet, cX4_isLet, 3, some .boolean, [], false)
theorem sX4_isLet : mV mX4_isLet 2 := ⟨mw_1095, mw_1094, mw_15, mw_34, ⟨by decide +kernel, by decide +kernel, by decide +kernel⟩, rfl⟩
abbrev mX4_did : mM := (yX4_did, cX4_did, 2, some .int, [], false)
theorem sX4_did : mV mX4_did 1 := ⟨mw_1108, mw_1107, mw_17, mw_34, ⟨by decide +kernel, by decide +kernel, by decide +kernel⟩, rfl⟩
abbrev mX4_refuse : mM := (yX4_refuse, cX4_refuse, 1, some .int, [], false)
theorem sX4_refuse : mV mX4_refuse 0 := ⟨mw_1118, mw_1117, mw_18, mw_34, ⟨by decide +kernel, by decide +kernel, by decide +kernel⟩, rfl⟩
abbrev mX4_made : mM := (yX4_made, cX4_made, 5, some (.array .int), [], false)
theorem sX4_made : mV mX4_made 2 := ⟨mw_1104, mw_1103, mw_16, mw_34, ⟨by decide +kernel, by decide +kernel, by decide +kernel⟩, rfl⟩
abbrev mX4_coming : mM := (yX4_coming, cX4_coming, 3, some (.array .int), [], false)
theorem sX4_coming : mV mX4_coming 2 := ⟨mw_1202, mw_1201, mw_26, mw_34, ⟨by decide +kernel, by decide +kernel, by decide +kernel⟩, rfl⟩
abbrev mX4_side : mM := (yX4_side, cX4_side, 2, some .int, [], false)
theorem sX4_side : mSt mX4_side 2 := ⟨mw_1152, mw_1151, mw_34, ⟨by decide +kernel, by decide +kernel, by decide +kernel⟩, rfl⟩
abbrev mX4_part : mM := (yX4_part, cX4_part, 5, some (.array .int), [], false)
theorem sX4_part : mSt mX4_part 3 := ⟨mw_1182, mw_1181, mw_34, ⟨by decide +kernel, by decide +kernel, by decide +kernel⟩, rfl⟩
abbrev mX4_both : mM := (yX4_both, cX4_both, 4, some (.array .int), [], false)
theorem sX4_both : mSt mX4_both 2 := ⟨mw_1121, mw_1120, mw_34, ⟨by decide +kernel, by decide +kernel, by decide +kernel⟩, rfl⟩
abbrev mX4_choose : mM := (yX4_choose, cX4_choose, 6, none, [], false)
theorem sX4_choose : mV mX4_choose 2 := ⟨mw_1137, mw_1136, mw_20, mw_34, ⟨by decide +kernel, by decide +kernel, by decide +kernel⟩, rfl⟩
abbrev mX4_unlike : mM := (yX4_unlike, cX4_unlike, 4, some .int, [], false)
theorem sX4_unlike : mSt mX4_unlike 2 := ⟨mw_1171, mw_1170, mw_34, ⟨by decide +kernel, by decide +kernel, by decide +kernel⟩, rfl⟩
abbrev mX4_patterned : mM := (yX4_patterned, cX4_patterned, 7, some .int, [], false)
theorem sX4_patterned : mSt mX4_patterned 5 := ⟨mw_1099, mw_1098, mw_34, ⟨by decide +kernel, by decide +kernel, by decide +kernel⟩, rfl⟩
abbrev mX4_fill : mM := (yX4_fill, cX4_fill, 9, some .int, [], false)
theorem sX4_fill : mV mX4_fill 5 := ⟨mw_1082, mw_1080, mw_1081, mw_34, ⟨by decide +kernel, by decide +kernel, by decide +kernel⟩, rfl⟩
abbrev mX4_add : mM := (yX4_add, cX4_add, 3, some .int, [], false)
theorem sX4_add : mV mX4_add 2 := ⟨mw_1112, mw_1110, mw_1111, mw_34, ⟨by decide +kernel, by decide +kernel, by decide +kernel⟩, rfl⟩
abbrev mX4_put : mM := (yX4_put, cX4_put, 5, some .int, [], false)
theorem sX4_put : mV mX4_put 3 := ⟨mw_1125, mw_1123, mw_1124, mw_34, ⟨by decide +kernel, by decide +kernel, by decide +kernel⟩, rfl⟩
abbrev mX4_drop : mM := (yX4_drop, cX4_drop, 6, some .int, [], false)
theorem sX4_drop : mV mX4_drop 2 := ⟨mw_1133, mw_1131, mw_1132, mw_34, ⟨by decide +kernel, by decide +kernel, by decide +kernel⟩, rfl⟩
abbrev mX4_clear : mM := (yX4_clear, cX4_clear, 3, some .int, [], false)
theorem sX4_clear : mV mX4_clear 1 := ⟨mw_1141, mw_1139, mw_1140, mw_34, ⟨by decide +kernel, by decide +kernel, by decide +kernel⟩, rfl⟩
abbrev mX4_change : mM := (yX4_change, cX4_change, 6, none, [], false)
theorem sX4_change : mV mX4_change 3 := ⟨mw_1156, mw_1155, mw_22, mw_34, ⟨by decide +kernel, by decide +kernel, by decide +kernel⟩, rfl⟩
abbrev mX4_exchange : mM := (yX4_exchange, cX4_exchange, 4, some .int, [], false)
theorem sX4_exchange : mV mX4_exchange 2 := ⟨mw_1145, mw_1143, mw_1144, mw_34, ⟨by decide +kernel, by decide +kernel, by decide +kernel⟩, rfl⟩
abbrev mX4_swap : mM := (yX4_swap, cX4_swap, 4, some .int, [], false)
theorem sX4_swap : mV mX4_swap 3 := ⟨mw_1160, mw_1158, mw_1159, mw_34, ⟨by decide +kernel, by decide +kernel, by decide +kernel⟩, rfl⟩
abbrev mX4_ordered : mM := (yX4_ordered, cX4_ordered, 4, some .int, [], false)
theorem sX4_ordered : mV mX4_ordered 2 := ⟨mw_1168, mw_1167, mw_23, mw_34, ⟨by decide +kernel, by decide +kernel, by decide +kernel⟩, rfl⟩
abbrev mX4_turn : mM := (yX4_turn, cX4_turn, 4, some .int, [], false)
theorem sX4_turn : mV mX4_turn 1 := ⟨mw_1164, mw_1162, mw_1163, mw_34, ⟨by decide +kernel, by decide +kernel, by decide +kernel⟩, rfl⟩
abbrev mX4_roll : mM := (yX4_roll, cX4_roll, 5, some .int, [], false)
theorem sX4_roll : mV mX4_roll 2 := ⟨mw_1175, mw_1173, mw_1174, mw_34, ⟨by decide +kernel, by decide +kernel, by decide +kernel⟩, rfl⟩
abbrev mX4_keep : mM := (yX4_keep, cX4_keep, 4, some .int, [], false)
theorem sX4_keep : mV mX4_keep 3 := ⟨mw_1179, mw_1177, mw_1178, mw_34, ⟨by decide +kernel, by decide +kernel, by decide +kernel⟩, rfl⟩
abbrev mX4_sorted : mM := (yX4_sorted, cX4_sorted, 4, some (.array .int), [], false)
theorem sX4_sorted : mV mX4_sorted 1 := ⟨mw_1190, mw_1189, mw_24, mw_34, ⟨by decide +kernel, by decide +kernel, by decide +kernel⟩, rfl⟩
abbrev mX4_sort : mM := (yX4_sort, cX4_sort, 6, some .int, [], false)
theorem sX4_sort : mV mX4_sort 1 := ⟨mw_1186, mw_1184, mw_1185, mw_34, ⟨by decide +kernel, by decide +kernel, by decide +kernel⟩, rfl⟩
abbrev mX4_copy : mM := (yX4_copy, cX4_copy, 4, some .int, [], false)
theorem sX4_copy : mV mX4_copy 2 := ⟨mw_1198, mw_1196, mw_1197, mw_34, ⟨by decide +kernel, by decide +kernel, by decide +kernel⟩, rfl⟩
abbrev mX4_join : mM := (yX4_join, cX4_join, 3, some .int, [], false)
theorem sX4_join : mV mX4_join 2 := ⟨mw_1206, mw_1204, mw_1205, mw_34, ⟨by decide +kernel, by decide +kernel, by decide +kernel⟩, rfl⟩
abbrev mX4_merge : mM := (yX4_merge, cX4_merge, 3, some .int, [], false)
theorem sX4_merge : mV mX4_merge 2 := ⟨mw_1210, mw_1208, mw_1209, mw_34, ⟨by decide +kernel, by decide +kernel, by decide +kernel⟩, rfl⟩
abbrev mX4_many : mM := (yX4_many, cX4_many, 2, some .int, [], false)
theorem sX4_many : mV mX4_many 1 := ⟨mw_1214, mw_1212, mw_1213, mw_34, ⟨by decide +kernel, by decide +kernel, by decide +kernel⟩, rfl⟩
abbrev mX4_key : mM := (yX4_key, cX4_key, 3, some .int, [], false)
theorem sX4_key : mV mX4_key 2 := ⟨mw_1218, mw_1216, mw_1217, mw_34, ⟨by decide +kernel, by decide +kernel, by decide +kernel⟩, rfl⟩
abbrev mX4_stamp : mM := (yX4_stamp, cX4_stamp, 3, some .int, [], false)
theorem sX4_stamp : mV mX4_stamp 2 := ⟨mw_1222, mw_1220, mw_1221, mw_34, ⟨by decide +kernel, by decide +kernel, by decide +kernel⟩, rfl⟩
abbrev mX4_ranked : mM := (yX4_ranked, cX4_ranked, 5, some .int, [], false)
theorem sX4_ranked : mV mX4_ranked 2 := ⟨mw_1194, mw_1193, mw_25, mw_34, ⟨by decide +kernel, by decide +kernel, by decide +kernel⟩, rfl⟩
abbrev mX4_rank : mM := (yX4_rank, cX4_rank, 3, some .int, [], false)
theorem sX4_rank : mV mX4_rank 2 := ⟨mw_1226, mw_1224, mw_1225, mw_34, ⟨by decide +kernel, by decide +kernel, by decide +kernel⟩, rfl⟩
abbrev mX4_would : mM := (yX4_would, cX4_would, 3, some .int, [], false)
theorem sX4_would : mV mX4_would 2 := ⟨mw_1230, mw_1228, mw_1229, mw_34, ⟨by decide +kernel, by decide +kernel, by decide +kernel⟩, rfl⟩
abbrev mX4_wouldStamp : mM := (yX4_wouldStamp, cX4_wouldStamp, 3, some .int, [], false)
theorem sX4_wouldStamp : mV mX4_wouldStamp 2 := ⟨mw_1234, mw_1232, mw_1233, mw_34, ⟨by decide +kernel, by decide +kernel, by decide +kernel⟩, rfl⟩
abbrev mX4_wrongAt : mM := (yX4_wrongAt, cX4_wrongAt, 5, some .int, [], false)
theorem sX4_wrongAt : mV mX4_wrongAt 2 := ⟨mw_1238, mw_1236, mw_1237, mw_34, ⟨by decide +kernel, by decide +kernel, by decide +kernel⟩, rfl⟩
abbrev mX4_after : mM := (yX4_after, cX4_after, 3, some .int, [], false)
theorem sX4_after : mV mX4_after 2 := ⟨mw_1242, mw_1240, mw_1241, mw_34, ⟨by decide +kernel, by decide +kernel, by decide +kernel⟩, rfl⟩
abbrev mX4_behind : mM := (yX4_behind, cX4_behind, 4, some .int, [], false)
theorem sX4_behind : mV mX4_behind 2 := ⟨mw_1250, mw_1249, mw_27, mw_34, ⟨by decide +kernel, by decide +kernel, by decide +kernel⟩, rfl⟩
abbrev mX4_runAt : mM := (yX4_runAt, cX4_runAt, 3, some .int, [], false)
theorem sX4_runAt : mV mX4_runAt 2 := ⟨mw_1246, mw_1244, mw_1245, mw_34, ⟨by decide +kernel, by decide +kernel, by decide +kernel⟩, rfl⟩
abbrev mX4_text : mM := (yX4_text, cX4_text, 6, some (.object "java/lang/String"), [], false)
theorem sX4_text : mV mX4_text 3 := ⟨mw_1254, mw_1252, mw_1253, mw_34, ⟨by decide +kernel, by decide +kernel, by decide +kernel⟩, rfl⟩
abbrev mX4_pairs : mM := (yX4_pairs, cX4_pairs, 6, some .int, [], false)
theorem sX4_pairs : mV mX4_pairs 2 := ⟨mw_1149, mw_1148, mw_21, mw_34, ⟨by decide +kernel, by decide +kernel, by decide +kernel⟩, rfl⟩
abbrev mX4_isSorted : mM := (yX4_isSorted, cX4_isSorted, 2, some .boolean, [], false)
theorem sX4_isSorted : mV mX4_isSorted 1 := ⟨mw_1265, mw_1263, mw_1264, mw_34, ⟨by decide +kernel, by decide +kernel, by decide +kernel⟩, rfl⟩
abbrev mX4_isFalling : mM := (yX4_isFalling, cX4_isFalling, 2, some .boolean, [], false)
theorem sX4_isFalling : mV mX4_isFalling 1 := ⟨mw_1269, mw_1267, mw_1268, mw_34, ⟨by decide +kernel, by decide +kernel, by decide +kernel⟩, rfl⟩
abbrev mX4_isKept : mM := (yX4_isKept, cX4_isKept, 3, some .boolean, [], false)
theorem sX4_isKept : mV mX4_isKept 1 := ⟨mw_1273, mw_1271, mw_1272, mw_34, ⟨by decide +kernel, by decide +kernel, by decide +kernel⟩, rfl⟩
abbrev mX4_wrong : mM := (yX4_wrong, cX4_wrong, 3, some .int, [], false)
theorem sX4_wrong : mV mX4_wrong 2 := ⟨mw_1277, mw_1275, mw_1276, mw_34, ⟨by decide +kernel, by decide +kernel, by decide +kernel⟩, rfl⟩
abbrev mX4_right : mM := (yX4_right, cX4_right, 2, some .int, [], false)
theorem sX4_right : mV mX4_right 1 := ⟨mw_1281, mw_1279, mw_1280, mw_34, ⟨by decide +kernel, by decide +kernel, by decide +kernel⟩, rfl⟩
abbrev mX4_ties : mM := (yX4_ties, cX4_ties, 2, some .int, [], false)
theorem sX4_ties : mV mX4_ties 1 := ⟨mw_1285, mw_1283, mw_1284, mw_34, ⟨by decide +kernel, by decide +kernel, by decide +kernel⟩, rfl⟩
abbrev mX4_runs : mM := (yX4_runs, cX4_runs, 4, some .int, [], false)
theorem sX4_runs : mV mX4_runs 1 := ⟨mw_1289, mw_1287, mw_1288, mw_34, ⟨by decide +kernel, by decide +kernel, by decide +kernel⟩, rfl⟩
abbrev mX4_longest : mM := (yX4_longest, cX4_longest, 4, some .int, [], false)
theorem sX4_longest : mV mX4_longest 1 := ⟨mw_1293, mw_1291, mw_1292, mw_34, ⟨by decide +kernel, by decide +kernel, by decide +kernel⟩, rfl⟩
abbrev mX4_often : mM := (yX4_often, cX4_often, 9, some .int, [], false)
theorem sX4_often : mV mX4_often 3 := ⟨mw_1302, mw_1301, mw_28, mw_34, ⟨by decide +kernel, by decide +kernel, by decide +kernel⟩, rfl⟩
abbrev mX4_count : mM := (yX4_count, cX4_count, 3, some .int, [], false)
theorem sX4_count : mV mX4_count 2 := ⟨mw_1298, mw_1296, mw_1297, mw_34, ⟨by decide +kernel, by decide +kernel, by decide +kernel⟩, rfl⟩
abbrev mX4_below : mM := (yX4_below, cX4_below, 3, some .int, [], false)
theorem sX4_below : mV mX4_below 2 := ⟨mw_1306, mw_1304, mw_1305, mw_34, ⟨by decide +kernel, by decide +kernel, by decide +kernel⟩, rfl⟩
abbrev mX4_first : mM := (yX4_first, cX4_first, 6, some .int, [], false)
theorem sX4_first : mV mX4_first 3 := ⟨mw_1310, mw_1308, mw_1309, mw_34, ⟨by decide +kernel, by decide +kernel, by decide +kernel⟩, rfl⟩
abbrev mX4_end : mM := (yX4_end, cX4_end, 8, some .int, [], false)
theorem sX4_end : mV mX4_end 2 := ⟨mw_1314, mw_1312, mw_1313, mw_34, ⟨by decide +kernel, by decide +kernel, by decide +kernel⟩, rfl⟩
abbrev mX4_unlike_ : mM := (yX4_unlike_, cX4_unlike_, 4, some .int, [], false)
theorem sX4_unlike_ : mV mX4_unlike_ 1 := ⟨mw_1319, mw_1317, mw_1318, mw_34, ⟨by decide +kernel, by decide +kernel, by decide +kernel⟩, rfl⟩
abbrev mX4_isNew : mM := (yX4_isNew, cX4_isNew, 4, some .boolean, [], false)
theorem sX4_isNew : mV mX4_isNew 2 := ⟨mw_1323, mw_1322, mw_29, mw_34, ⟨by decide +kernel, by decide +kernel, by decide +kernel⟩, rfl⟩
abbrev mX4_most : mM := (yX4_most, cX4_most, 9, some .int, [], false)
theorem sX4_most : mV mX4_most 1 := ⟨mw_1327, mw_1325, mw_1326, mw_34, ⟨by decide +kernel, by decide +kernel, by decide +kernel⟩, rfl⟩
abbrev mX4_sum : mM := (yX4_sum, cX4_sum, 7, some .int, [], false)
theorem sX4_sum : mV mX4_sum 1 := ⟨mw_1331, mw_1329, mw_1330, mw_34, ⟨by decide +kernel, by decide +kernel, by decide +kernel⟩, rfl⟩
abbrev mX4_same : mM := (yX4_same, cX4_same, 3, some .boolean, [], false)
theorem sX4_same : mV mX4_same 2 := ⟨mw_1335, mw_1333, mw_1334, mw_34, ⟨by decide +kernel, by decide +kernel, by decide +kernel⟩, rfl⟩
abbrev mX4_bag : mM := (yX4_bag, cX4_bag, 8, some .boolean, [], false)
theorem sX4_bag : mV mX4_bag 2 := ⟨mw_1339, mw_1337, mw_1338, mw_34, ⟨by decide +kernel, by decide +kernel, by decide +kernel⟩, rfl⟩
abbrev mX4_mark : mM := (yX4_mark, cX4_mark, 8, some .int, [], false)
theorem sX4_mark : mV mX4_mark 2 := ⟨mw_1343, mw_1341, mw_1342, mw_34, ⟨by decide +kernel, by decide +kernel, by decide +kernel⟩, rfl⟩
abbrev mX4_house : mM := (yX4_house, cX4_house, 5, some .int, [], false)
theorem sX4_house : mV mX4_house 1 := ⟨mw_1347, mw_1345, mw_1346, mw_34, ⟨by decide +kernel, by decide +kernel, by decide +kernel⟩, rfl⟩
abbrev mX4_knock : mM := (yX4_knock, cX4_knock, 1, some .int, [], false)
theorem sX4_knock : mV mX4_knock 0 := ⟨mw_1351, mw_1349, mw_1350, mw_34, ⟨by decide +kernel, by decide +kernel, by decide +kernel⟩, rfl⟩
abbrev mX4_isSound : mM := (yX4_isSound, cX4_isSound, 1, some .boolean, [], false)
theorem sX4_isSound : mV mX4_isSound 0 := ⟨mw_1355, mw_1353, mw_1354, mw_34, ⟨by decide +kernel, by decide +kernel, by decide +kernel⟩, rfl⟩
abbrev mX4_digest : mM := (yX4_digest, cX4_digest, 9, some .long, [], false)
theorem sX4_digest : mV mX4_digest 0 := ⟨mw_1359, mw_1357, mw_1358, mw_34, ⟨by decide +kernel, by decide +kernel, by decide +kernel⟩, rfl⟩
abbrev mJ5_init_d00df : mM := (yJ5_init_d00df, cJ5_init_d00df, 2, none, [], false)
theorem sJ5_init_d00df : mIn mJ5_init_d00df 1 := ⟨mw_647, mw_646, mw_43, ⟨by decide +kernel, by decide +kernel, by decide +kernel⟩, rfl, rfl, rfl⟩
abbrev mJ5_length_8abf5 : mM := (yJ5_length_8abf5, cJ5_length_8abf5, 1, some .int, [], false)
abbrev mJ5_ensureCapacityInternal_d00df : mM := (yJ5_ensureCapacityInternal_d00df, cJ5_ensureCapacityInternal_d00df, 3, none, [], false)
abbrev mJ5_newCapacity_0f7a4 : mM := (yJ5_newCapacity_0f7a4, cJ5_newCapacity_0f7a4, 6, some .int, [], false)
abbrev mJ5_inflate_da8c8 : mM := (yJ5_inflate_da8c8, cJ5_inflate_da8c8, 2, none, [], false)
abbrev mJ5_append_cf1ce : mM := (yJ5_append_cf1ce, cJ5_append_cf1ce, 3, some (.object "java/lang/AbstractStringBuilder"), [], false)
abbrev mJ5_appendNull_278bc : mM := (yJ5_appendNull_278bc, cJ5_appendNull_278bc, 3, some (.object "java/lang/AbstractStringBuilder"), [], false)
abbrev mJ5_append_3fe6f : mM := (yJ5_append_3fe6f, cJ5_append_3fe6f, 2, some (.object "java/lang/AbstractStringBuilder"), [], false)
abbrev mJ5_append_c97b9 : mM := (yJ5_append_c97b9, cJ5_append_c97b9, 4, some (.object "java/lang/AbstractStringBuilder"), [], false)
abbrev mJ5_getValue_6d5f1 : mM := (yJ5_getValue_6d5f1, cJ5_getValue_6d5f1, 1, some (.array .byte), [], false)
abbrev mJ5_isLatin1_aae02 : mM := (yJ5_isLatin1_aae02, cJ5_isLatin1_aae02, 1, some .boolean, [], false)
abbrev mJ5_inflateIfNeededFor_a7421 : mM := (yJ5_inflateIfNeededFor_a7421, cJ5_inflateIfNeededFor_a7421, 2, none, [], false)
abbrev mJ5_putStringAt_47b60 : mM := (yJ5_putStringAt_47b60, cJ5_putStringAt_47b60, 3, none, [], false)
abbrev mJ6_getChars_ba4f3 : mM := (yJ6_getChars_ba4f3, cJ6_getChars_ba4f3, 7, some .int, [], false)
theorem sJ6_getChars_ba4f3 : mSt mJ6_getChars_ba4f3 3 := ⟨mw_772, mw_771, mw_51, ⟨by decide +kernel, by decide +kernel, by decide +kernel⟩, rfl⟩
abbrev mJ6_stringSize_0f7a4 : mM := (yJ6_stringSize_0f7a4, cJ6_stringSize_0f7a4, 4, some .int, [], false)
theorem sJ6_stringSize_0f7a4 : mSt mJ6_stringSize_0f7a4 1 := ⟨mw_769, mw_768, mw_51, ⟨by decide +kernel, by decide +kernel, by decide +kernel⟩, rfl⟩
abbrev mJ9_max_7cf53 : mM := (yJ9_max_7cf53, cJ9_max_7cf53, 2, some .int, [], false)
theorem sJ9_max_7cf53 : mSt mJ9_max_7cf53 2 := ⟨mw_350, mw_349, mw_41, ⟨by decide +kernel, by decide +kernel, by decide +kernel⟩, rfl⟩
abbrev mJ9_min_7cf53 : mM := (yJ9_min_7cf53, cJ9_min_7cf53, 2, some .int, [], false)
theorem sJ9_min_7cf53 : mSt mJ9_min_7cf53 2 := ⟨mw_153, mw_152, mw_41, ⟨by decide +kernel, by decide +kernel, by decide +kernel⟩, rfl⟩
abbrev mJ0_init_81219 : mM := (yJ0_init_81219, cJ0_init_81219, 2, none, [], false)
theorem sJ0_init_81219 : mIn mJ0_init_81219 1 := ⟨mw_802, mw_801, mw_45, ⟨by decide +kernel, by decide +kernel, by decide +kernel⟩, rfl, rfl, rfl⟩
abbrev mJ0_length_8abf5 : mM := (yJ0_length_8abf5, cJ0_length_8abf5, 1, some .int, [], false)
theorem sJ0_length_8abf5 : mV mJ0_length_8abf5 0 := ⟨mw_852, mw_850, mw_851, mw_45, ⟨by decide +kernel, by decide +kernel, by decide +kernel⟩, rfl⟩
abbrev mJ0_getBytes_840e7 : mM := (yJ0_getBytes_840e7, cJ0_getBytes_840e7, 4, none, [], false)
theorem sJ0_getBytes_840e7 : mV mJ0_getBytes_840e7 3 := ⟨mw_870, mw_868, mw_869, mw_45, ⟨by decide +kernel, by decide +kernel, by decide +kernel⟩, rfl⟩
abbrev mJ0_init_db425 : mM := (yJ0_init_db425, cJ0_init_db425, 5, none, [], false)
theorem sJ0_init_db425 : mIn mJ0_init_db425 2 := ⟨mw_805, mw_804, mw_45, ⟨by decide +kernel, by decide +kernel, by decide +kernel⟩, rfl, rfl, rfl⟩
abbrev mJ0_coder_7d493 : mM := (yJ0_coder_7d493, cJ0_coder_7d493, 1, some .byte, [], false)
theorem sJ0_coder_7d493 : mV mJ0_coder_7d493 0 := ⟨mw_856, mw_854, mw_855, mw_45, ⟨by decide +kernel, by decide +kernel, by decide +kernel⟩, rfl⟩
abbrev mJ0_checkIndex_df160 : mM := (yJ0_checkIndex_df160, cJ0_checkIndex_df160, 2, none, [], false)
theorem sJ0_checkIndex_df160 : mSt mJ0_checkIndex_df160 2 := ⟨mw_756, mw_755, mw_45, ⟨by decide +kernel, by decide +kernel, by decide +kernel⟩, rfl⟩
abbrev mJ0_checkBoundsOffCount_cabcc : mM := (yJ0_checkBoundsOffCount_cabcc, cJ0_checkBoundsOffCount_cabcc, 3, some .int, [], false)
theorem sJ0_checkBoundsOffCount_cabcc : mSt mJ0_checkBoundsOffCount_cabcc 3 := ⟨mw_733, mw_732, mw_45, ⟨by decide +kernel, by decide +kernel, by decide +kernel⟩, rfl⟩
abbrev mJ0_checkBoundsBeginEnd_23922 : mM := (yJ0_checkBoundsBeginEnd_23922, cJ0_checkBoundsBeginEnd_23922, 3, none, [], false)
theorem sJ0_checkBoundsBeginEnd_23922 : mSt mJ0_checkBoundsBeginEnd_23922 3 := ⟨mw_785, mw_784, mw_45, ⟨by decide +kernel, by decide +kernel, by decide +kernel⟩, rfl⟩
abbrev mJ4_init_da8c8 : mM := (yJ4_init_da8c8, cJ4_init_da8c8, 1, none, [], false)
theorem sJ4_init_da8c8 : mIn mJ4_init_da8c8 0 := ⟨mw_644, mw_643, mw_44, ⟨by decide +kernel, by decide +kernel, by decide +kernel⟩, rfl, rfl, rfl⟩
abbrev mJ4_append_15ec4 : mM := (yJ4_append_15ec4, cJ4_append_15ec4, 2, some (.object "java/lang/StringBuilder"), [], false)
theorem sJ4_append_15ec4 : mV mJ4_append_15ec4 1 := ⟨mw_838, mw_836, mw_837, mw_44, ⟨by decide +kernel, by decide +kernel, by decide +kernel⟩, rfl⟩
abbrev mJ4_append_cf468 : mM := (yJ4_append_cf468, cJ4_append_cf468, 2, some (.object "java/lang/StringBuilder"), [], false)
theorem sJ4_append_cf468 : mV mJ4_append_cf468 1 := ⟨mw_674, mw_672, mw_673, mw_44, ⟨by decide +kernel, by decide +kernel, by decide +kernel⟩, rfl⟩
abbrev mJ4_append_bf812 : mM := (yJ4_append_bf812, cJ4_append_bf812, 2, some (.object "java/lang/StringBuilder"), [], false)
theorem sJ4_append_bf812 : mV mJ4_append_bf812 1 := ⟨mw_763, mw_761, mw_762, mw_44, ⟨by decide +kernel, by decide +kernel, by decide +kernel⟩, rfl⟩
abbrev mJ4_toString_0e30d : mM := (yJ4_toString_0e30d, cJ4_toString_0e30d, 1, some (.object "java/lang/String"), [], false)
theorem sJ4_toString_0e30d : mV mJ4_toString_0e30d 0 := ⟨mw_797, mw_795, mw_796, mw_44, ⟨by decide +kernel, by decide +kernel, by decide +kernel⟩, rfl⟩
abbrev mJ4_length_8abf5 : mM := (yJ4_length_8abf5, cJ4_length_8abf5, 1, some .int, [], false)
abbrev mJ1_canEncode_fc78d : mM := (yJ1_canEncode_fc78d, cJ1_canEncode_fc78d, 1, some .boolean, [], false)
theorem sJ1_canEncode_fc78d : mSt mJ1_canEncode_fc78d 1 := ⟨mw_714, mw_713, mw_49, ⟨by decide +kernel, by decide +kernel, by decide +kernel⟩, rfl⟩
abbrev mJ1_inflate_0e8fd : mM := (yJ1_inflate_0e8fd, cJ1_inflate_0e8fd, 5, none, [], false)
theorem sJ1_inflate_0e8fd : mSt mJ1_inflate_0e8fd 5 := ⟨mw_721, mw_720, mw_49, ⟨by decide +kernel, by decide +kernel, by decide +kernel⟩, rfl⟩
abbrev mJ2_newBytesFor_77867 : mM := (yJ2_newBytesFor_77867, cJ2_newBytesFor_77867, 1, some (.array .byte), [], false)
theorem sJ2_newBytesFor_77867 : mSt mJ2_newBytesFor_77867 1 := ⟨mw_653, mw_652, mw_46, ⟨by decide +kernel, by decide +kernel, by decide +kernel⟩, rfl⟩
abbrev mJ2_newBytesLength_0f7a4 : mM := (yJ2_newBytesLength_0f7a4, cJ2_newBytesLength_0f7a4, 1, some .int, [], false)
theorem sJ2_newBytesLength_0f7a4 : mSt mJ2_newBytesLength_0f7a4 1 := ⟨mw_656, mw_655, mw_46, ⟨by decide +kernel, by decide +kernel, by decide +kernel⟩, rfl⟩
abbrev mJ2_putChar_b72d1 : mM := (yJ2_putChar_b72d1, cJ2_putChar_b72d1, 3, none, [], false)
theorem sJ2_putChar_b72d1 : mSt mJ2_putChar_b72d1 3 := ⟨mw_741, mw_740, mw_46, ⟨by decide +kernel, by decide +kernel, by decide +kernel⟩, rfl⟩
abbrev mJ2_getChar_3b067 : mM := (yJ2_getChar_3b067, cJ2_getChar_3b067, 2, some .char, [], false)
theorem sJ2_getChar_3b067 : mSt mJ2_getChar_3b067 2 := ⟨mw_883, mw_882, mw_46, ⟨by decide +kernel, by decide +kernel, by decide +kernel⟩, rfl⟩
abbrev mJ2_length_9d52b : mM := (yJ2_length_9d52b, cJ2_length_9d52b, 1, some .int, [], false)
theorem sJ2_length_9d52b : mSt mJ2_length_9d52b 1 := ⟨mw_730, mw_729, mw_46, ⟨by decide +kernel, by decide +kernel, by decide +kernel⟩, rfl⟩
abbrev mJ2_coderFromArrayLen_85cad : mM := (yJ2_coderFromArrayLen_85cad, cJ2_coderFromArrayLen_85cad, 2, some .byte, [], false)
theorem sJ2_coderFromArrayLen_85cad : mSt mJ2_coderFromArrayLen_85cad 2 := ⟨mw_887, mw_886, mw_46, ⟨by decide +kernel, by decide +kernel, by decide +kernel⟩, rfl⟩
abbrev mJ2_compress_39247 : mM := (yJ2_compress_39247, cJ2_compress_39247, 6, some (.array .byte), [], false)
theorem sJ2_compress_39247 : mSt mJ2_compress_39247 3 := ⟨mw_877, mw_876, mw_46, ⟨by decide +kernel, by decide +kernel, by decide +kernel⟩, rfl⟩
abbrev mJ2_compress_5af95 : mM := (yJ2_compress_5af95, cJ2_compress_5af95, 7, some .int, [], false)
theorem sJ2_compress_5af95 : mSt mJ2_compress_5af95 5 := ⟨mw_880, mw_879, mw_46, ⟨by decide +kernel, by decide +kernel, by decide +kernel⟩, rfl⟩
abbrev mJ2_putCharSB_b72d1 : mM := (yJ2_putCharSB_b72d1, cJ2_putCharSB_b72d1, 3, none, [], false)
theorem sJ2_putCharSB_b72d1 : mSt mJ2_putCharSB_b72d1 3 := ⟨mw_750, mw_749, mw_46, ⟨by decide +kernel, by decide +kernel, by decide +kernel⟩, rfl⟩
abbrev mJ2_getChars_46870 : mM := (yJ2_getChars_46870, cJ2_getChars_46870, 5, some .int, [], false)
theorem sJ2_getChars_46870 : mSt mJ2_getChars_46870 4 := ⟨mw_779, mw_778, mw_46, ⟨by decide +kernel, by decide +kernel, by decide +kernel⟩, rfl⟩
abbrev mJ2_putCharsAt_cd4e5 : mM := (yJ2_putCharsAt_cd4e5, cJ2_putCharsAt_cd4e5, 7, some .int, [], false)
theorem sJ2_putCharsAt_cd4e5 : mSt mJ2_putCharsAt_cd4e5 6 := ⟨mw_848, mw_847, mw_46, ⟨by decide +kernel, by decide +kernel, by decide +kernel⟩, rfl⟩
abbrev mJ2_inflate_0e8fd : mM := (yJ2_inflate_0e8fd, cJ2_inflate_0e8fd, 6, none, [], false)
theorem sJ2_inflate_0e8fd : mSt mJ2_inflate_0e8fd 5 := ⟨mw_724, mw_723, mw_46, ⟨by decide +kernel, by decide +kernel, by decide +kernel⟩, rfl⟩
abbrev mJ2_getChars_ba4f3 : mM := (yJ2_getChars_ba4f3, cJ2_getChars_ba4f3, 7, some .int, [], false)
theorem sJ2_getChars_ba4f3 : mSt mJ2_getChars_ba4f3 3 := ⟨mw_791, mw_790, mw_46, ⟨by decide +kernel, by decide +kernel, by decide +kernel⟩, rfl⟩
abbrev mJ2_checkIndex_2214a : mM := (yJ2_checkIndex_2214a, cJ2_checkIndex_2214a, 2, none, [], false)
theorem sJ2_checkIndex_2214a : mSt mJ2_checkIndex_2214a 2 := ⟨mw_753, mw_752, mw_46, ⟨by decide +kernel, by decide +kernel, by decide +kernel⟩, rfl⟩
abbrev mJ2_checkBoundsBeginEnd_d044e : mM := (yJ2_checkBoundsBeginEnd_d044e, cJ2_checkBoundsBeginEnd_d044e, 3, none, [], false)
theorem sJ2_checkBoundsBeginEnd_d044e : mSt mJ2_checkBoundsBeginEnd_d044e 3 := ⟨mw_782, mw_781, mw_46, ⟨by decide +kernel, by decide +kernel, by decide +kernel⟩, rfl⟩
abbrev mJ2_checkBoundsOffCount_d044e : mM := (yJ2_checkBoundsOffCount_d044e, cJ2_checkBoundsOffCount_d044e, 3, none, [], false)
theorem sJ2_checkBoundsOffCount_d044e : mSt mJ2_checkBoundsOffCount_d044e 3 := ⟨mw_727, mw_726, mw_46, ⟨by decide +kernel, by decide +kernel, by decide +kernel⟩, rfl⟩
abbrev mJ7_copyOf_9075b : mM := (yJ7_copyOf_9075b, cJ7_copyOf_9075b, 3, some (.array .byte), [], false)
theorem sJ7_copyOf_9075b : mSt mJ7_copyOf_9075b 2 := ⟨mw_697, mw_696, mw_48, ⟨by decide +kernel, by decide +kernel, by decide +kernel⟩, rfl⟩
abbrev mJ7_checkLength_df160 : mM := (yJ7_checkLength_df160, cJ7_checkLength_df160, 2, none, [], false)
theorem sJ7_checkLength_df160 : mSt mJ7_checkLength_df160 2 := ⟨mw_829, mw_828, mw_48, ⟨by decide +kernel, by decide +kernel, by decide +kernel⟩, rfl⟩
abbrev mJ7_copyOfRange_39247 : mM := (yJ7_copyOfRange_39247, cJ7_copyOfRange_39247, 3, some (.array .byte), [], false)
theorem sJ7_copyOfRange_39247 : mSt mJ7_copyOfRange_39247 3 := ⟨mw_823, mw_822, mw_48, ⟨by decide +kernel, by decide +kernel, by decide +kernel⟩, rfl⟩
abbrev mJ7_copyOfRangeByte_39247 : mM := (yJ7_copyOfRangeByte_39247, cJ7_copyOfRangeByte_39247, 5, some (.array .byte), [], false)
theorem sJ7_copyOfRangeByte_39247 : mSt mJ7_copyOfRangeByte_39247 3 := ⟨mw_826, mw_825, mw_48, ⟨by decide +kernel, by decide +kernel, by decide +kernel⟩, rfl⟩
abbrev mJ8_newLength_cabcc : mM := (yJ8_newLength_cabcc, cJ8_newLength_cabcc, 4, some .int, [], false)
theorem sJ8_newLength_cabcc : mSt mJ8_newLength_cabcc 3 := ⟨mw_688, mw_687, mw_47, ⟨by decide +kernel, by decide +kernel, by decide +kernel⟩, rfl⟩
abbrev mJ8_hugeLength_7cf53 : mM := (yJ8_hugeLength_7cf53, cJ8_hugeLength_7cf53, 3, some .int, [], false)
theorem sJ8_hugeLength_7cf53 : mSt mJ8_hugeLength_7cf53 2 := ⟨mw_693, mw_692, mw_47, ⟨by decide +kernel, by decide +kernel, by decide +kernel⟩, rfl⟩
abbrev mJ3_checkIndex_8e157 : mM := (yJ3_checkIndex_8e157, cJ3_checkIndex_8e157, 3, some .int, [], false)
theorem sJ3_checkIndex_8e157 : mSt mJ3_checkIndex_8e157 3 := ⟨mw_759, mw_758, mw_50, ⟨by decide +kernel, by decide +kernel, by decide +kernel⟩, rfl⟩
abbrev mJ3_checkFromToIndex_8c36e : mM := (yJ3_checkFromToIndex_8c36e, cJ3_checkFromToIndex_8c36e, 4, some .int, [], false)
theorem sJ3_checkFromToIndex_8c36e : mSt mJ3_checkFromToIndex_8c36e 4 := ⟨mw_788, mw_787, mw_50, ⟨by decide +kernel, by decide +kernel, by decide +kernel⟩, rfl⟩
abbrev mJ3_checkFromIndexSize_8c36e : mM := (yJ3_checkFromIndexSize_8c36e, cJ3_checkFromIndexSize_8c36e, 4, some .int, [], false)
theorem sJ3_checkFromIndexSize_8c36e : mSt mJ3_checkFromIndexSize_8c36e 4 := ⟨mw_738, mw_737, mw_50, ⟨by decide +kernel, by decide +kernel, by decide +kernel⟩, rfl⟩
abbrev mL_fill : mM := (yL_fill, cL_fill, 8, some .int, [(0, 17, 20, 19), (0, 17, 24, 21)], false)
theorem sL_fill : mSw mL_fill 7 := ⟨mw_396, mw_395, mw_30, ⟨by decide +kernel, by decide +kernel, by decide +kernel⟩, by intro h; cases h⟩
abbrev mL_add : mM := (yL_add, cL_add, 5, some .int, [(0, 11, 14, 19), (0, 11, 18, 21)], false)
theorem sL_add : mSw mL_add 4 := ⟨mw_436, mw_435, mw_30, ⟨by decide +kernel, by decide +kernel, by decide +kernel⟩, by intro h; cases h⟩
abbrev mL_put : mM := (yL_put, cL_put, 6, some .int, [(0, 13, 16, 19), (0, 13, 20, 21)], false)
theorem sL_put : mSw mL_put 5 := ⟨mw_452, mw_451, mw_30, ⟨by decide +kernel, by decide +kernel, by decide +kernel⟩, by intro h; cases h⟩
abbrev mL_drop : mM := (yL_drop, cL_drop, 5, some .int, [(0, 11, 14, 19)], false)
theorem sL_drop : mSw mL_drop 4 := ⟨mw_466, mw_465, mw_30, ⟨by decide +kernel, by decide +kernel, by decide +kernel⟩, by intro h; cases h⟩
abbrev mL_clear : mM := (yL_clear, cL_clear, 4, some .int, [(0, 10, 13, 19)], false)
theorem sL_clear : mSw mL_clear 3 := ⟨mw_473, mw_472, mw_30, ⟨by decide +kernel, by decide +kernel, by decide +kernel⟩, by intro h; cases h⟩
abbrev mL_exchange : mM := (yL_exchange, cL_exchange, 5, some .int, [(0, 11, 14, 19)], false)
theorem sL_exchange : mSw mL_exchange 4 := ⟨mw_480, mw_479, mw_30, ⟨by decide +kernel, by decide +kernel, by decide +kernel⟩, by intro h; cases h⟩
abbrev mL_swap : mM := (yL_swap, cL_swap, 6, some .int, [(0, 13, 16, 19)], false)
theorem sL_swap : mSw mL_swap 5 := ⟨mw_498, mw_497, mw_30, ⟨by decide +kernel, by decide +kernel, by decide +kernel⟩, by intro h; cases h⟩
abbrev mL_turn : mM := (yL_turn, cL_turn, 4, some .int, [(0, 10, 13, 19)], false)
theorem sL_turn : mSw mL_turn 3 := ⟨mw_505, mw_504, mw_30, ⟨by decide +kernel, by decide +kernel, by decide +kernel⟩, by intro h; cases h⟩
abbrev mL_roll : mM := (yL_roll, cL_roll, 5, some .int, [(0, 11, 14, 19), (0, 11, 18, 21)], false)
theorem sL_roll : mSw mL_roll 4 := ⟨mw_516, mw_515, mw_30, ⟨by decide +kernel, by decide +kernel, by decide +kernel⟩, by intro h; cases h⟩
abbrev mL_keep : mM := (yL_keep, cL_keep, 6, some .int, [(0, 13, 16, 19)], false)
theorem sL_keep : mSw mL_keep 5 := ⟨mw_523, mw_522, mw_30, ⟨by decide +kernel, by decide +kernel, by decide +kernel⟩, by intro h; cases h⟩
abbrev mL_sort : mM := (yL_sort, cL_sort, 4, some .int, [(0, 10, 13, 19)], false)
theorem sL_sort : mSw mL_sort 3 := ⟨mw_530, mw_529, mw_30, ⟨by decide +kernel, by decide +kernel, by decide +kernel⟩, by intro h; cases h⟩
abbrev mL_copy : mM := (yL_copy, cL_copy, 5, some .int, [(0, 11, 14, 19)], false)
theorem sL_copy : mSw mL_copy 4 := ⟨mw_537, mw_536, mw_30, ⟨by decide +kernel, by decide +kernel, by decide +kernel⟩, by intro h; cases h⟩
abbrev mL_join : mM := (yL_join, cL_join, 5, some .int, [(0, 11, 14, 19)], false)
theorem sL_join : mSw mL_join 4 := ⟨mw_552, mw_551, mw_30, ⟨by decide +kernel, by decide +kernel, by decide +kernel⟩, by intro h; cases h⟩
abbrev mL_merge : mM := (yL_merge, cL_merge, 5, some .int, [(0, 11, 14, 19)], false)
theorem sL_merge : mSw mL_merge 4 := ⟨mw_559, mw_558, mw_30, ⟨by decide +kernel, by decide +kernel, by decide +kernel⟩, by intro h; cases h⟩
abbrev mL_many : mM := (yL_many, cL_many, 4, some .int, [(0, 10, 13, 19)], false)
theorem sL_many : mSw mL_many 3 := ⟨mw_566, mw_565, mw_30, ⟨by decide +kernel, by decide +kernel, by decide +kernel⟩, by intro h; cases h⟩
abbrev mL_key : mM := (yL_key, cL_key, 5, some .int, [(0, 11, 14, 19)], false)
theorem sL_key : mSw mL_key 4 := ⟨mw_570, mw_569, mw_30, ⟨by decide +kernel, by decide +kernel, by decide +kernel⟩, by intro h; cases h⟩
abbrev mL_stamp : mM := (yL_stamp, cL_stamp, 5, some .int, [(0, 11, 14, 19)], false)
theorem sL_stamp : mSw mL_stamp 4 := ⟨mw_577, mw_576, mw_30, ⟨by decide +kernel, by decide +kernel, by decide +kernel⟩, by intro h; cases h⟩
abbrev mL_rank : mM := (yL_rank, cL_rank, 5, some .int, [(0, 11, 14, 19)], false)
theorem sL_rank : mSw mL_rank 4 := ⟨mw_584, mw_583, mw_30, ⟨by decide +kernel, by decide +kernel, by decide +kernel⟩, by intro h; cases h⟩
abbrev mL_would : mM := (yL_would, cL_would, 5, some .int, [(0, 11, 14, 19)], false)
theorem sL_would : mSw mL_would 4 := ⟨mw_592, mw_591, mw_30, ⟨by decide +kernel, by decide +kernel, by decide +kernel⟩, by intro h; cases h⟩
abbrev mL_wouldStamp : mM := (yL_wouldStamp, cL_wouldStamp, 5, some .int, [(0, 11, 14, 19)], false)
theorem sL_wouldStamp : mSw mL_wouldStamp 4 := ⟨mw_599, mw_598, mw_30, ⟨by decide +kernel, by decide +kernel, by decide +kernel⟩, by intro h; cases h⟩
abbrev mL_wrongAt : mM := (yL_wrongAt, cL_wrongAt, 5, some .int, [(0, 11, 14, 19)], false)
theorem sL_wrongAt : mSw mL_wrongAt 4 := ⟨mw_606, mw_605, mw_30, ⟨by decide +kernel, by decide +kernel, by decide +kernel⟩, by intro h; cases h⟩
abbrev mL_after : mM := (yL_after, cL_after, 5, some .int, [(0, 11, 14, 19)], false)
theorem sL_after : mSw mL_after 4 := ⟨mw_617, mw_616, mw_30, ⟨by decide +kernel, by decide +kernel, by decide +kernel⟩, by intro h; cases h⟩
abbrev mL_runAt : mM := (yL_runAt, cL_runAt, 5, some .int, [(0, 11, 14, 19)], false)
theorem sL_runAt : mSw mL_runAt 4 := ⟨mw_624, mw_623, mw_30, ⟨by decide +kernel, by decide +kernel, by decide +kernel⟩, by intro h; cases h⟩
abbrev mL_text : mM := (yL_text, cL_text, 6, some .int, [(0, 12, 15, 19), (0, 12, 19, 21)], false)
theorem sL_text : mSw mL_text 5 := ⟨mw_635, mw_634, mw_30, ⟨by decide +kernel, by decide +kernel, by decide +kernel⟩, by intro h; cases h⟩
abbrev mL_isSorted : mM := (yL_isSorted, cL_isSorted, 4, some .int, [(0, 17, 20, 19)], false)
theorem sL_isSorted : mSw mL_isSorted 3 := ⟨mw_901, mw_900, mw_30, ⟨by decide +kernel, by decide +kernel, by decide +kernel⟩, by intro h; cases h⟩
abbrev mL_isFalling : mM := (yL_isFalling, cL_isFalling, 4, some .int, [(0, 17, 20, 19)], false)
theorem sL_isFalling : mSw mL_isFalling 3 := ⟨mw_908, mw_907, mw_30, ⟨by decide +kernel, by decide +kernel, by decide +kernel⟩, by intro h; cases h⟩
abbrev mL_isKept : mM := (yL_isKept, cL_isKept, 4, some .int, [(0, 17, 20, 19)], false)
theorem sL_isKept : mSw mL_isKept 3 := ⟨mw_919, mw_918, mw_30, ⟨by decide +kernel, by decide +kernel, by decide +kernel⟩, by intro h; cases h⟩
abbrev mL_wrong : mM := (yL_wrong, cL_wrong, 5, some .int, [(0, 11, 14, 19), (0, 11, 18, 21)], false)
theorem sL_wrong : mSw mL_wrong 4 := ⟨mw_930, mw_929, mw_30, ⟨by decide +kernel, by decide +kernel, by decide +kernel⟩, by intro h; cases h⟩
abbrev mL_right : mM := (yL_right, cL_right, 4, some .int, [(0, 10, 13, 19)], false)
theorem sL_right : mSw mL_right 3 := ⟨mw_934, mw_933, mw_30, ⟨by decide +kernel, by decide +kernel, by decide +kernel⟩, by intro h; cases h⟩
abbrev mL_ties : mM := (yL_ties, cL_ties, 4, some .int, [(0, 10, 13, 19)], false)
theorem sL_ties : mSw mL_ties 3 := ⟨mw_941, mw_940, mw_30, ⟨by decide +kernel, by decide +kernel, by decide +kernel⟩, by intro h; cases h⟩
abbrev mL_runs : mM := (yL_runs, cL_runs, 4, some .int, [(0, 10, 13, 19)], false)
theorem sL_runs : mSw mL_runs 3 := ⟨mw_945, mw_944, mw_30, ⟨by decide +kernel, by decide +kernel, by decide +kernel⟩, by intro h; cases h⟩
abbrev mL_longest : mM := (yL_longest, cL_longest, 4, some .int, [(0, 10, 13, 19)], false)
theorem sL_longest : mSw mL_longest 3 := ⟨mw_949, mw_948, mw_30, ⟨by decide +kernel, by decide +kernel, by decide +kernel⟩, by intro h; cases h⟩
abbrev mL_count : mM := (yL_count, cL_count, 5, some .int, [(0, 11, 14, 19), (0, 11, 18, 21)], false)
theorem sL_count : mSw mL_count 4 := ⟨mw_953, mw_952, mw_30, ⟨by decide +kernel, by decide +kernel, by decide +kernel⟩, by intro h; cases h⟩
abbrev mL_below : mM := (yL_below, cL_below, 5, some .int, [(0, 11, 14, 19), (0, 11, 18, 21)], false)
theorem sL_below : mSw mL_below 4 := ⟨mw_964, mw_963, mw_30, ⟨by decide +kernel, by decide +kernel, by decide +kernel⟩, by intro h; cases h⟩
abbrev mL_first : mM := (yL_first, cL_first, 6, some .int, [(0, 13, 16, 19), (0, 13, 20, 21)], false)
theorem sL_first : mSw mL_first 5 := ⟨mw_975, mw_974, mw_30, ⟨by decide +kernel, by decide +kernel, by decide +kernel⟩, by intro h; cases h⟩
abbrev mL_end : mM := (yL_end, cL_end, 5, some .int, [(0, 11, 14, 19)], false)
theorem sL_end : mSw mL_end 4 := ⟨mw_990, mw_989, mw_30, ⟨by decide +kernel, by decide +kernel, by decide +kernel⟩, by intro h; cases h⟩
abbrev mL_unlike : mM := (yL_unlike, cL_unlike, 4, some .int, [(0, 10, 13, 19)], false)
theorem sL_unlike : mSw mL_unlike 3 := ⟨mw_1006, mw_1005, mw_30, ⟨by decide +kernel, by decide +kernel, by decide +kernel⟩, by intro h; cases h⟩
abbrev mL_most : mM := (yL_most, cL_most, 4, some .int, [(0, 10, 13, 19)], false)
theorem sL_most : mSw mL_most 3 := ⟨mw_1010, mw_1009, mw_30, ⟨by decide +kernel, by decide +kernel, by decide +kernel⟩, by intro h; cases h⟩
abbrev mL_sum : mM := (yL_sum, cL_sum, 4, some .int, [(0, 10, 13, 19)], false)
theorem sL_sum : mSw mL_sum 3 := ⟨mw_1021, mw_1020, mw_30, ⟨by decide +kernel, by decide +kernel, by decide +kernel⟩, by intro h; cases h⟩
abbrev mL_same : mM := (yL_same, cL_same, 5, some .int, [(0, 18, 21, 19)], false)
theorem sL_same : mSw mL_same 4 := ⟨mw_1025, mw_1024, mw_30, ⟨by decide +kernel, by decide +kernel, by decide +kernel⟩, by intro h; cases h⟩
abbrev mL_bag : mM := (yL_bag, cL_bag, 5, some .int, [(0, 18, 21, 19)], false)
theorem sL_bag : mSw mL_bag 4 := ⟨mw_1032, mw_1031, mw_30, ⟨by decide +kernel, by decide +kernel, by decide +kernel⟩, by intro h; cases h⟩
abbrev mL_mark : mM := (yL_mark, cL_mark, 5, some .int, [(0, 11, 14, 19)], false)
theorem sL_mark : mSw mL_mark 4 := ⟨mw_1039, mw_1038, mw_30, ⟨by decide +kernel, by decide +kernel, by decide +kernel⟩, by intro h; cases h⟩
abbrev mL_house : mM := (yL_house, cL_house, 4, some .int, [(0, 10, 13, 21)], false)
theorem sL_house : mSw mL_house 3 := ⟨mw_1043, mw_1042, mw_30, ⟨by decide +kernel, by decide +kernel, by decide +kernel⟩, by intro h; cases h⟩
theorem goodIn_mem {ws : List Cond} (h : ws.all (fun w => decide (w ∈ lw_tbl) && goodWord w) = true) : ∀ w ∈ ws, w ∈ mGw := by
  intro w hw
  have h1 := List.all_eq_true.mp h w hw
  simp only [Bool.and_eq_true, decide_eq_true_eq] at h1
  exact mGw_of h1.1 h1.2
theorem mKJ0 : mCl 0 RJ0 TJ0 4 tyJ0 := ⟨rfl, fun w hw => (goodIn_mem (by decide +kernel) w hw), tyJ0_ok, nmJ0⟩
theorem mKJ4 : mCl 1 RJ4 TJ4 4 tyJ4 := ⟨rfl, fun w hw => (goodIn_mem (by decide +kernel) w hw), tyJ4_ok, nmJ4⟩
theorem mKX0 : mCl 2 RX0 TX0 4 tyX0 := ⟨rfl, fun w hw => (goodIn_mem (by decide +kernel) w hw), tyX0_ok, nmX0⟩
theorem mKX1 : mCl 3 RX1 TX1 4 tyX1 := ⟨rfl, fun w hw => (goodIn_mem (by decide +kernel) w hw), tyX1_ok, nmX1⟩
theorem mKX2 : mCl 4 RX2 TX2 6 tyX2 := ⟨rfl, fun w hw => (goodIn_mem (by decide +kernel) w hw), tyX2_ok, nmX2⟩
theorem mKX3 : mCl 5 RX3 TX3 2 tyX3 := ⟨rfl, fun w hw => (goodIn_mem (by decide +kernel) w hw), tyX3_ok, nmX3⟩
theorem mKX4 : mCl 6 RX4 TX4 7 tyX4 := ⟨rfl, fun w hw => (goodIn_mem (by decide +kernel) w hw), tyX4_ok, nmX4⟩

/-! ===== rows as the walker uses them: heaps by what they hold, numbers named ===== -/
theorem mI_pos {k : Nat} : Int32.ofInt (k : Int) = nI k := rfl
theorem mI_inc {i : Nat} : nI i + Int32.ofInt 1 = nI (i + 1) := nI_1 i
theorem mI_dec {i : Nat} (h : 0 < i) : nI i + Int32.ofInt (-1) = nI (i - 1) := by
  obtain ⟨j, rfl⟩ : ∃ j, i = j + 1 := ⟨i - 1, by omega⟩
  have := nI_pred j
  rw [Nat.add_sub_cancel, ← this, Int32.sub_eq_add_neg]
  rfl
theorem mI_eq0 {k : Nat} (h : k < 2 ^ 31) : nI k = 0 ↔ k = 0 := nI_eq h (by decide)
theorem mI_le0 {k : Nat} (h : k < 2 ^ 31) : nI k ≤ 0 ↔ k ≤ 0 := nI_leI h (by decide)
theorem mI_gt0 {k : Nat} (h : k < 2 ^ 31) : 0 < nI k ↔ 0 < k := nI_ltI (by decide) h
theorem mI_lt0 {k : Nat} (h : k < 2 ^ 31) : nI k < 0 ↔ False := ⟨fun q => nI_pos h q, False.elim⟩
theorem mI_ge0 {k : Nat} (h : k < 2 ^ 31) : 0 ≤ nI k ↔ True := ⟨fun _ => trivial, fun _ => nI_pos' h⟩
theorem mI_mul (a b : Nat) : nI a * nI b = nI (a * b) := (Int32.ofNat_mul a b).symm
section MTF
variable {l : Launch} {M : mM} {R : Room} {K : mK} {pc : Nat} {ls st : List Value} {h : mH} {n cc sc : Nat}
theorem mp_iadd {x y v : Int32} (hdg : decode M.2.1 pc = .ok (.iadd, 1)) (hv : x + y = v) (k : mT l M R K (pc + 1) ls (.int v :: st) h n cc sc) : mT l M R K pc ls (.int y :: .int x :: st) h n cc sc := mt_iadd hdg (by rw [hv]; exact k)
theorem mp_isub {x y v : Int32} (hdg : decode M.2.1 pc = .ok (.isub, 1)) (hv : x - y = v) (k : mT l M R K (pc + 1) ls (.int v :: st) h n cc sc) : mT l M R K pc ls (.int y :: .int x :: st) h n cc sc := mt_isub hdg (by rw [hv]; exact k)
theorem mp_imul {x y v : Int32} (hdg : decode M.2.1 pc = .ok (.imul, 1)) (hv : x * y = v) (k : mT l M R K (pc + 1) ls (.int v :: st) h n cc sc) : mT l M R K pc ls (.int y :: .int x :: st) h n cc sc := mt_imul hdg (by rw [hv]; exact k)
theorem mp_idiv {x y v : Int32} (hdg : decode M.2.1 pc = .ok (.idiv, 1)) (hne : ¬ y = 0) (hv : x / y = v) (k : mT l M R K (pc + 1) ls (.int v :: st) h n cc sc) : mT l M R K pc ls (.int y :: .int x :: st) h n cc sc := mt_idiv hdg hne (by rw [hv]; exact k)
theorem mp_irem {x y v : Int32} (hdg : decode M.2.1 pc = .ok (.irem, 1)) (hne : ¬ y = 0) (hv : x - x / y * y = v) (k : mT l M R K (pc + 1) ls (.int v :: st) h n cc sc) : mT l M R K pc ls (.int y :: .int x :: st) h n cc sc := mt_irem hdg hne (by rw [hv]; exact k)
theorem mp_istore {i : Nat} {x : Int32} {ls' : List Value} (hdg : decode M.2.1 pc = .ok (.istore i, 2)) (hls : ls.set i (.int x) = ls') (hn : i < M.2.2.1) (hg : mnl ls i = true) (k : mT l M R K (pc + 2) ls' st h n cc sc) : mT l M R K pc ls (.int x :: st) h n cc sc := mt_istore hdg hn hg (by rw [hls]; exact k)
theorem mp_istore_n {k0 : Fin 4} {x : Int32} {ls' : List Value} (hdg : decode M.2.1 pc = .ok (.istore_n k0, 1)) (hls : ls.set (k0 : Nat) (.int x) = ls') (hn : (k0 : Nat) < M.2.2.1) (hg : mnl ls (k0 : Nat) = true) (k : mT l M R K (pc + 1) ls' st h n cc sc) : mT l M R K pc ls (.int x :: st) h n cc sc := mt_istore_n hdg hn hg (by rw [hls]; exact k)
theorem mp_lstore {i : Nat} {x : Int64} {ls' : List Value} (hdg : decode M.2.1 pc = .ok (.lstore i, 2)) (hls : (ls.set i (.long x)).set (i + 1) (.double 0) = ls') (hn : i + 1 < M.2.2.1) (hg : mnl ls i = true) (k : mT l M R K (pc + 2) ls' st h n cc sc) : mT l M R K pc ls (.long x :: st) h n cc sc := mt_lstore hdg hn hg (by rw [hls]; exact k)
theorem mp_lstore_n {k0 : Fin 4} {x : Int64} {ls' : List Value} (hdg : decode M.2.1 pc = .ok (.lstore_n k0, 1)) (hls : (ls.set (k0 : Nat) (.long x)).set ((k0 : Nat) + 1) (.double 0) = ls') (hn : (k0 : Nat) + 1 < M.2.2.1) (hg : mnl ls (k0 : Nat) = true) (k : mT l M R K (pc + 1) ls' st h n cc sc) : mT l M R K pc ls (.long x :: st) h n cc sc := mt_lstore_n hdg hn hg (by rw [hls]; exact k)
theorem mp_astore {i : Nat} {v : Value} {ls' : List Value} (hdg : decode M.2.1 pc = .ok (.astore i, 2)) (hls : ls.set i v = ls') (hv : mir v = true) (hn : i < M.2.2.1) (hg : mnl ls i = true) (k : mT l M R K (pc + 2) ls' st h n cc sc) : mT l M R K pc ls (v :: st) h n cc sc := mt_astore hdg hv hn hg (by rw [hls]; exact k)
theorem mp_astore_n {k0 : Fin 4} {v : Value} {ls' : List Value} (hdg : decode M.2.1 pc = .ok (.astore_n k0, 1)) (hls : ls.set (k0 : Nat) v = ls') (hv : mir v = true) (hn : (k0 : Nat) < M.2.2.1) (hg : mnl ls (k0 : Nat) = true) (k : mT l M R K (pc + 1) ls' st h n cc sc) : mT l M R K pc ls (v :: st) h n cc sc := mt_astore_n hdg hv hn hg (by rw [hls]; exact k)
theorem mp_iinc {i : Nat} {q : Int} {x v : Int32} {ls' : List Value} (hdg : decode M.2.1 pc = .ok (.iinc i q, 3)) (hl : ls[i]? = some (.int x)) (hv : x + Int32.ofInt q = v) (hls : ls.set i (.int v) = ls') (hn : i < M.2.2.1) (hg : mnl ls i = true) (k : mT l M R K (pc + 3) ls' st h n cc sc) : mT l M R K pc ls st h n cc sc := mt_iinc hdg hl hv hn hg (by rw [hls]; exact k)
theorem mp_putfield {a ci i : Nat} {C : String} {T : u_T} {N index : Nat} {ty0 : Nat → FieldType} {fs fs' : List Value} {v : Value} (hc : mCl ci C T N ty0) (hk : i < N) (hlink : Cond.fieldLink M.1.cls index (T i).1 (T i).2.1 (T i).2.2.1 ∈ mGw) (hfin : (T i).2.2.2 = false) (hdg : decode M.2.1 pc = .ok (.putfield index, 3)) (he : h a = .inr (.inr (ci, fs))) (hl : i < fs.length) (hfs : fs.set i v = fs') (hf : mfit (ty0 i) v = true) (k : ∀ h' : mH, h' a = .inr (.inr (ci, fs')) → (∀ j, j ≠ a → h' j = h j) → mT l M R K (pc + 3) ls st h' n cc sc) : mT l M R K pc ls (v :: .ref a :: st) h n cc sc := mt_putfield hc hk hlink hfin hdg he hl hf (by subst hfs; exact k _ mup_s (fun j hj => mup_n hj))
theorem mp_putfieldN {a ci i : Nat} {C host : String} {T : u_T} {N index : Nat} {ty0 : Nat → FieldType} {fs fs' : List Value} {v : Value} (hc : mCl ci C T N ty0) (hk : i < N) (hlink : Cond.fieldLinkNest M.1.cls index (T i).1 (T i).2.1 (T i).2.2.1 host ∈ mNw) (hfin : (T i).2.2.2 = false) (hdg : decode M.2.1 pc = .ok (.putfield index, 3)) (he : h a = .inr (.inr (ci, fs))) (hl : i < fs.length) (hfs : fs.set i v = fs') (hf : mfit (ty0 i) v = true) (k : ∀ h' : mH, h' a = .inr (.inr (ci, fs')) → (∀ j, j ≠ a → h' j = h j) → mT l M R K (pc + 3) ls st h' n cc sc) : mT l M R K pc ls (v :: .ref a :: st) h n cc sc := mt_putfieldN hc hk hlink hfin hdg he hl hf (by subst hfs; exact k _ mup_s (fun j hj => mup_n hj))
theorem mp_putfinal {a ci i : Nat} {C : String} {T : u_T} {N index : Nat} {ty0 : Nat → FieldType} {fs fs' : List Value} {v : Value} (hc : mCl ci C T N ty0) (hk : i < N) (hlink : Cond.fieldLink M.1.cls index (T i).1 (T i).2.1 (T i).2.2.1 ∈ mGw) (hfin : (T i).2.2.2 = true) (hin : M.1.name = "<init>") (hdecl : (T i).1 = M.1.cls) (hdg : decode M.2.1 pc = .ok (.putfield index, 3)) (he : h a = .inr (.inr (ci, fs))) (hl : i < fs.length) (hfs : fs.set i v = fs') (hf : mfit (ty0 i) v = true) (k : ∀ h' : mH, h' a = .inr (.inr (ci, fs')) → (∀ j, j ≠ a → h' j = h j) → mT l M R K (pc + 3) ls st h' n cc sc) : mT l M R K pc ls (v :: .ref a :: st) h n cc sc := mt_putfinal hc hk hlink hfin hin hdecl hdg he hl hf (by subst hfs; exact k _ mup_s (fun j hj => mup_n hj))
theorem mp_iaload {a len j : Nat} {i v : Int32} {f : Nat → Int32} (hdg : decode M.2.1 pc = .ok (.iaload, 1)) (he : h a = .inl (0, len, f)) (hi : i = nI j) (hj : j < len) (hL : len < 2 ^ 31) (hv : f j = v) (k : mT l M R K (pc + 1) ls (.int v :: st) h n cc sc) : mT l M R K pc ls (.int i :: .ref a :: st) h n cc sc := mt_iaload hdg he hi hj hL (by rw [hv]; exact k)
theorem mp_iastore {a len j : Nat} {i x : Int32} {f : Nat → Int32} (hdg : decode M.2.1 pc = .ok (.iastore, 1)) (he : h a = .inl (0, len, f)) (hi : i = nI j) (hj : j < len) (hL : len < 2 ^ 31) (k : ∀ h' : mH, h' a = .inl (0, len, upd f j x) → (∀ j, j ≠ a → h' j = h j) → mT l M R K (pc + 1) ls st h' n cc sc) : mT l M R K pc ls (.int x :: .int i :: .ref a :: st) h n cc sc := mt_iastore hdg he hi hj hL (k _ mup_s (fun j hj => mup_n hj))
theorem mp_newarray {x : Int32} {len : Nat} (hdg : decode M.2.1 pc = .ok (.newarray .int, 2)) (harr : Cond.arrayClass .int ∈ mGw) (hx : x = nI len) (hL : len < 2 ^ 27) (hcc : cc + 1 ≤ R.cells) (hsc : sc + len ≤ R.slots) (k : ∀ h' : mH, h' n = .inl (0, len, fun _ => 0) → (∀ j, j ≠ n → h' j = h j) → mT l M R K (pc + 2) ls (.ref n :: st) h' (n + 1) (cc + 1) (sc + len)) : mT l M R K pc ls (.int x :: st) h n cc sc := mt_newarray hdg harr hx hL hcc hsc (k _ mup_s (fun j hj => mup_n hj))
theorem mp_anewrow {x : Int32} {len index : Nat} (hdg : decode M.2.1 pc = .ok (.anewarray index, 3)) (hlk : Cond.classLink M.1.cls index "Runweaver$Row" ∈ mGw) (hx : x = nI len) (hL : len < 2 ^ 27) (hcc : cc + 1 ≤ R.cells) (hsc : sc + len ≤ R.slots) (k : ∀ h' : mH, h' n = .inr (.inl (2, len, fun _ => none)) → (∀ j, j ≠ n → h' j = h j) → mT l M R K (pc + 3) ls (.ref n :: st) h' (n + 1) (cc + 1) (sc + len)) : mT l M R K pc ls (.int x :: st) h n cc sc := mt_anewrow hdg hlk hx hL hcc hsc (k _ mup_s (fun j hj => mup_n hj))
theorem mp_new {ci index : Nat} {C : String} {T : u_T} {N : Nat} {ty0 : Nat → FieldType} {fs : List Value} (hc : mCl ci C T N ty0) (hdg : decode M.2.1 pc = .ok (.new index, 3)) (hlk : Cond.classLink M.1.cls index C ∈ mGw) (hins : Cond.instantiable C N ∈ mGw) (hini : Cond.initialized C ∈ mGw) (hfs : ∀ j, j < N → defaultValue (ty0 j) = vp_V fs j) (hfv : ∀ v ∈ fs, (∃ x, v = .int x) ∨ (∃ x, v = .long x) ∨ v = .null) (hcc : cc + 1 ≤ R.cells) (hsc : sc + N ≤ R.slots) (k : ∀ h' : mH, h' n = .inr (.inr (ci, fs)) → (∀ j, j ≠ n → h' j = h j) → mT l M R K (pc + 3) ls (.ref n :: st) h' (n + 1) (cc + 1) (sc + N)) : mT l M R K pc ls st h n cc sc := mt_new hc hdg hlk hins hini hfs hfv hcc hsc (k _ mup_s (fun j hj => mup_n hj))
theorem mp_aastoreR {a b2 len j : Nat} {i : Int32} {g : Nat → Option Nat} {fs : List Value} (hdg : decode M.2.1 pc = .ok (.aastore, 1)) (he : h a = .inr (.inl (2, len, g))) (hv : h b2 = .inr (.inr (3, fs))) (hi : i = nI j) (hj : j < len) (hL : len < 2 ^ 31) (k : ∀ h' : mH, h' a = .inr (.inl (2, len, va_up g j (some b2))) → (∀ j, j ≠ a → h' j = h j) → mT l M R K (pc + 1) ls st h' n cc sc) : mT l M R K pc ls (.ref b2 :: .int i :: .ref a :: st) h n cc sc := mt_aastoreR hdg he hv hi hj hL (k _ mup_s (fun j hj => mup_n hj))
theorem mp_aastoreA {a b2 len len2 j : Nat} {i : Int32} {g : Nat → Option Nat} {f : Nat → Int32} (hdg : decode M.2.1 pc = .ok (.aastore, 1)) (he : h a = .inr (.inl (3, len, g))) (hv : h b2 = .inl (0, len2, f)) (hi : i = nI j) (hj : j < len) (hL : len < 2 ^ 31) (k : ∀ h' : mH, h' a = .inr (.inl (3, len, va_up g j (some b2))) → (∀ j, j ≠ a → h' j = h j) → mT l M R K (pc + 1) ls st h' n cc sc) : mT l M R K pc ls (.ref b2 :: .int i :: .ref a :: st) h n cc sc := mt_aastoreA hdg he hv hi hj hL (k _ mup_s (fun j hj => mup_n hj))
theorem mp_acopy {a b la lb sp dp cnt index : Nat} {f g : Nat → Int32} {xs xd xn : Int32} (hdg : decode M.2.1 pc = .ok (.invokestatic index, 3)) (hlk : Cond.methodLink M.1.cls index arraycopyName ∈ mGw) (hnat : Cond.native arraycopyName ∈ mGw) (hst : Cond.static arraycopyName ∈ mGw) (hini : Cond.initialized "java/lang/System" ∈ mGw) (ha : h a = .inl (0, la, f)) (hb : h b = .inl (0, lb, g)) (h1 : xs = nI sp) (h2 : xd = nI dp) (h3 : xn = nI cnt) (h4 : sp + cnt ≤ la) (h5 : dp + cnt ≤ lb) (hla : la < 2 ^ 31) (hlb : lb < 2 ^ 31) (hw : (st.map mcw).sum ≤ 8) (hR : 1 ≤ R.frames ∧ 8 + 18 ≤ R.locals) (k : ∀ h' : mH, h' b = .inl (0, lb, va_cpy f g sp dp cnt) → (∀ j, j ≠ b → h' j = h j) → mT l M R K (pc + 3) ls st h' n cc sc) : mT l M R K pc ls (.int xn :: .int xd :: .ref b :: .int xs :: .ref a :: st) h n cc sc := mt_acopy hdg hlk hnat hst hini ha hb h1 h2 h3 h4 h5 hla hlb hw hR (k _ mup_s (fun j hj => mup_n hj))
end MTF
/-! ===== loops as functions ===== -/
def mlp {α : Type} (f : Nat → α → α) : Nat → Nat → α → α
  | 0, _, a => a
  | d + 1, i, a => mlp f d (i + 1) (f i a)
theorem mlp_go {α : Type} {f : Nat → α → α} {N i : Nat} {a b : α} (h : i < N) (hb : f i a = b) : mlp f (N - i) i a = mlp f (N - (i + 1)) (i + 1) b := by
  rw [show N - i = (N - (i + 1)) + 1 by omega, ← hb]
  rfl
theorem mlp_end {α : Type} {f : Nat → α → α} {N i : Nat} {a : α} (h : ¬ i < N) : mlp f (N - i) i a = a := by
  rw [show N - i = 0 by omega]
  rfl
theorem mlp_congr {α : Type} {f g : Nat → α → α} : ∀ {d i : Nat} {a : α}, (∀ j b, i ≤ j → j < i + d → f j b = g j b) → mlp f d i a = mlp g d i a
  | 0, _, _, _ => rfl
  | d + 1, i, a, h => by
    show mlp f d (i + 1) (f i a) = mlp g d (i + 1) (g i a)
    rw [h i a (Nat.le_refl _) (by omega)]
    exact mlp_congr (fun j b h1 h2 => h j b (by omega) (by omega))
def mall (p : Nat → Bool) : Nat → Nat → Bool
  | 0, _ => true
  | d + 1, i => p i && mall p d (i + 1)
theorem mall_go {p : Nat → Bool} {N i : Nat} (h : i < N) (hb : p i = true) : mall p (N - i) i = mall p (N - (i + 1)) (i + 1) := by
  rw [show N - i = (N - (i + 1)) + 1 by omega]
  show (p i && _) = _
  rw [hb, Bool.true_and]
theorem mall_no {p : Nat → Bool} {N i : Nat} (h : i < N) (hb : p i = false) : mall p (N - i) i = false := by
  rw [show N - i = (N - (i + 1)) + 1 by omega]
  show (p i && _) = _
  rw [hb, Bool.false_and]
theorem mall_end {p : Nat → Bool} {N i : Nat} (h : ¬ i < N) : mall p (N - i) i = true := by
  rw [show N - i = 0 by omega]
  rfl
/-! ===== rows of items ===== -/
abbrev mIt : Type := Int32 × Int32
def xk (xs : List mIt) (i : Nat) : Int32 := (xs.getD i (0, 0)).1
def xt (xs : List mIt) (i : Nat) : Int32 := (xs.getD i (0, 0)).2
/-- a row of the class: its object at a, its keys, its stamps; room, whether of things, its items -/
def rowAt (h : mH) (a room : Nat) (fl : Int32) (xs : List mIt) : Prop := ∃ f g : Nat → Int32, h a = .inr (.inr (3, [.ref (a + 1), .ref (a + 2), .int fl, .int (nI xs.length)])) ∧ h (a + 1) = .inl (0, room, f) ∧ h (a + 2) = .inl (0, room, g) ∧ xs.length ≤ room ∧ room ≤ 320 ∧ (∀ i, i < xs.length → f i = xk xs i) ∧ (∀ i, i < xs.length → g i = xt xs i)
theorem rowAt.fr {h h' : mH} {b room : Nat} {fl : Int32} {xs : List mIt} (H : rowAt h b room fl xs) (hf : ∀ j, b ≤ j → j < b + 3 → h' j = h j) : rowAt h' b room fl xs := by
  obtain ⟨f, g, e0, e1, e2, e3⟩ := H
  exact ⟨f, g, (hf _ (by omega) (by omega)).trans e0, (hf _ (by omega) (by omega)).trans e1, (hf _ (by omega) (by omega)).trans e2, e3⟩
/-- ends: an int, nothing, a truth; the heap as it was -/
def mRi (r : Int32) (h : mH) (n : Nat) : Option Value → mH → Nat → Prop := fun v h' n' => v = some (.int r) ∧ h' = h ∧ n' = n
def mNX : String → mH → Nat → Prop := fun _ _ _ => False
def mb (b : Bool) : Int32 := if b then 1 else 0
theorem mb_0 {b : Bool} : mb b = 0 ↔ b = false := by cases b <;> decide
theorem mb_1 {b : Bool} : ¬ mb b = 0 ↔ b = true := by cases b <;> decide
theorem narrow_mb {b : Bool} : narrow .boolean (.int (mb b)) = .int (mb b) := by cases b <;> rfl
theorem mI_min {x y : Nat} (hx : x < 2 ^ 31) (hy : y < 2 ^ 31) : (if nI y < nI x then nI y else nI x) = nI (min x y) := by
  by_cases q : y < x
  · rw [if_pos (nI_lt q hx), Nat.min_eq_right (Nat.le_of_lt q)]
  · rw [if_neg (nI_nlt (by omega) hy), Nat.min_eq_left (by omega)]
theorem mI_max {x y : Nat} (hx : x < 2 ^ 31) (hy : y < 2 ^ 31) : (if nI x < nI y then nI y else nI x) = nI (max x y) := by
  by_cases q : x < y
  · rw [if_pos (nI_lt q hy), Nat.max_eq_right (Nat.le_of_lt q)]
  · rw [if_neg (nI_nlt (by omega) hx), Nat.max_eq_left (by omega)]
theorem mI_ne0 {b : Nat} (h : 0 < b) (hb : b < 2 ^ 31) : ¬ nI b = 0 := nI_ne0 h hb
theorem mw_min : Cond.code Lib.Math.min.name Lib.Math.min.code 2 (some .int) ∈ mGw := mGw_of (by decide +kernel) rfl
theorem mw_max : Cond.code Lib.Math.max.name Lib.Math.max.code 2 (some .int) ∈ mGw := mGw_of (by decide +kernel) rfl
theorem mI_one : nI 1 = 1 := rfl
section MTG
variable {l : Launch} {M : mM} {R : Room} {K : mK} {pc : Nat} {ls st : List Value} {h : mH} {n cc sc : Nat}
theorem mt_drop (i : Nat) {ls' : List Value} (hls : ls.set i (.double 0) = ls') (k : mT l M R K pc ls' st h n cc sc) : mT l M R K pc ls st h n cc sc := by
  subst hls
  intro p e s m args below meth c G w0 H locs LS ws st' hC hD
  obtain ⟨d1, d2, d3, d4, d5, ⟨lv, d6, d8⟩, d7⟩ := hD
  refine k p e s m args below meth c G w0 H locs LS ws st' hC ⟨d1, d2, d3, d4, d5, ⟨lv, d6, fun j w hj => ?_⟩, d7⟩
  by_cases q : j = i
  · subst q
    have hl := (List.getElem?_eq_some_iff.mp hj).1
    rw [List.length_set] at hl
    rw [List.getElem?_set_self hl] at hj
    cases hj
    exact Or.inl ⟨0, rfl⟩
  · rw [List.getElem?_set_ne (Ne.symm q)] at hj
    exact d8 j w hj
end MTG
/-- ends: nothing is answered, the row at a holds ys, all else is as it was -/
def mRw (a room : Nat) (fl : Int32) (ys : List mIt) (h : mH) (n : Nat) : Option Value → mH → Nat → Prop := fun v h' n' => v = none ∧ n' = n ∧ rowAt h' a room fl ys ∧ ∀ j, (j < a ∨ a + 3 ≤ j) → h' j = h j
theorem xk_snoc_lt {xs : List mIt} {p : mIt} {i : Nat} (h : i < xs.length) : xk (xs ++ [p]) i = xk xs i := by
  unfold xk
  rw [List.getD_eq_getElem?_getD, List.getD_eq_getElem?_getD, List.getElem?_append_left h]
theorem xt_snoc_lt {xs : List mIt} {p : mIt} {i : Nat} (h : i < xs.length) : xt (xs ++ [p]) i = xt xs i := by
  unfold xt
  rw [List.getD_eq_getElem?_getD, List.getD_eq_getElem?_getD, List.getElem?_append_left h]
theorem xk_snoc {xs : List mIt} {p : mIt} : xk (xs ++ [p]) xs.length = p.1 := by
  unfold xk
  rw [List.getD_eq_getElem?_getD, List.getElem?_append_right (Nat.le_refl _), Nat.sub_self]
  rfl
theorem xt_snoc {xs : List mIt} {p : mIt} : xt (xs ++ [p]) xs.length = p.2 := by
  unfold xt
  rw [List.getD_eq_getElem?_getD, List.getElem?_append_right (Nat.le_refl _), Nat.sub_self]
  rfl
theorem rowAt.snoc {h : mH} {a room : Nat} {fl k s : Int32} {xs : List mIt} {f g : Nat → Int32} (e0 : h a = .inr (.inr (3, [.ref (a + 1), .ref (a + 2), .int fl, .int (nI (xs.length + 1))]))) (e1 : h (a + 1) = .inl (0, room, upd f xs.length k)) (e2 : h (a + 2) = .inl (0, room, upd g xs.length s)) (hl : xs.length < room) (hr : room ≤ 320) (hk : ∀ i, i < xs.length → f i = xk xs i) (ht : ∀ i, i < xs.length → g i = xt xs i) : rowAt h a room fl (xs ++ [(k, s)]) := by
  have e : (xs ++ [(k, s)]).length = xs.length + 1 := by simp
  refine ⟨_, _, by rw [e]; exact e0, e1, e2, by omega, hr, fun i hi => ?_, fun i hi => ?_⟩
  · rw [e] at hi
    by_cases q : i = xs.length
    · subst q; rw [xk_snoc]; simp [upd]
    · rw [xk_snoc_lt (by omega), ← hk i (by omega)]; simp [upd, q]
  · rw [e] at hi
    by_cases q : i = xs.length
    · subst q; rw [xt_snoc]; simp [upd]
    · rw [xt_snoc_lt (by omega), ← ht i (by omega)]; simp [upd, q]
theorem mlp_le {f : Nat → Nat → Nat} (h : ∀ j a, f j a ≤ a + 1) : ∀ {d i a : Nat}, mlp f d i a ≤ a + d
  | 0, _, _ => Nat.le_refl _
  | d + 1, i, a => by
    have h1 := @mlp_le f h d (i + 1) (f i a)
    have h2 := h i a
    show mlp f d (i + 1) (f i a) ≤ _
    omega
/-- the end of the run that goes on at e -/
def erun (xs : List mIt) : Nat → Nat → Nat
  | 0, e => e
  | d + 1, e => if xk xs e < xk xs (e - 1) then e else erun xs d (e + 1)
theorem erun_go {xs : List mIt} {N e : Nat} (h : e < N) (hb : ¬ xk xs e < xk xs (e - 1)) : erun xs (N - e) e = erun xs (N - (e + 1)) (e + 1) := by
  rw [show N - e = (N - (e + 1)) + 1 by omega]
  exact if_neg hb
theorem erun_no {xs : List mIt} {N e : Nat} (h : e < N) (hb : xk xs e < xk xs (e - 1)) : erun xs (N - e) e = e := by
  rw [show N - e = (N - (e + 1)) + 1 by omega]
  exact if_pos hb
theorem erun_end {xs : List mIt} {N e : Nat} (h : ¬ e < N) : erun xs (N - e) e = e := by
  rw [show N - e = 0 by omega]
  rfl
theorem erun_le {xs : List mIt} : ∀ {d e : Nat}, e ≤ erun xs d e ∧ erun xs d e ≤ e + d
  | 0, _ => ⟨Nat.le_refl _, Nat.le_refl _⟩
  | d + 1, e => by
    have h1 := @erun_le xs d (e + 1)
    show e ≤ (if _ then e else erun xs d (e + 1)) ∧ (if _ then e else erun xs d (e + 1)) ≤ _
    split <;> omega
def mff (p : Nat → Bool) : Nat → Nat → Int32
  | 0, _ => -1
  | d + 1, i => if p i = true then nI i else mff p d (i + 1)
theorem mff_go {p : Nat → Bool} {N i : Nat} (h : i < N) (hb : p i = false) : mff p (N - i) i = mff p (N - (i + 1)) (i + 1) := by
  rw [show N - i = (N - (i + 1)) + 1 by omega]
  exact if_neg (by rw [hb]; decide)
theorem mff_yes {p : Nat → Bool} {N i : Nat} (h : i < N) (hb : p i = true) : mff p (N - i) i = nI i := by
  rw [show N - i = (N - (i + 1)) + 1 by omega]
  exact if_pos hb
theorem mff_end {p : Nat → Bool} {N i : Nat} (h : ¬ i < N) : mff p (N - i) i = -1 := by
  rw [show N - i = 0 by omega]
  rfl
def mfl (p : Nat → Bool) : Nat → Int32
  | 0 => -1
  | d + 1 => if p d = true then nI d else mfl p d
/-- a place that is counted down: d - 1, or -1 -/
def mpr (d : Nat) : Int32 := nI d - 1
theorem mpr_0 : mpr 0 = -1 := rfl
theorem mpr_s {d : Nat} : mpr (d + 1) = nI d := nI_pred d
theorem mpr_dec {d : Nat} : nI d + Int32.ofInt (-1) = mpr d := by
  unfold mpr
  rw [Int32.sub_eq_add_neg]
  rfl
/-- a row's items from a place on up to another -/
def span (ys : List mIt) (i e : Nat) : List mIt := (ys.take e).drop i
theorem xk_get {ys : List mIt} {i : Nat} (h : i < ys.length) : ys[i] = (xk ys i, xt ys i) := by
  unfold xk xt
  rw [List.getD_eq_getElem?_getD, List.getElem?_eq_getElem h]
  rfl
theorem span_cons {ys : List mIt} {i e : Nat} (h : i < e) (he : e ≤ ys.length) : span ys i e = (xk ys i, xt ys i) :: span ys (i + 1) e := by
  unfold span
  have h1 : i < (ys.take e).length := by rw [List.length_take]; omega
  rw [List.drop_eq_getElem_cons h1, List.getElem_take, xk_get (by omega)]
theorem span_go {xs ys : List mIt} {i e : Nat} (h : i < e) (he : e ≤ ys.length) : (xs ++ [(xk ys i, xt ys i)]) ++ span ys (i + 1) e = xs ++ span ys i e := by
  rw [span_cons h he, List.append_assoc]
  rfl
theorem span_end {xs ys : List mIt} {i e : Nat} (h : ¬ i < e) : xs ++ span ys i e = xs := by
  unfold span
  rw [List.drop_eq_nil_of_le (by rw [List.length_take]; omega), List.append_nil]
theorem span_len {ys : List mIt} {i e : Nat} (he : e ≤ ys.length) : (span ys i e).length = e - i := by
  unfold span
  rw [List.length_drop, List.length_take]
  omega
theorem span_all {ys : List mIt} : span ys 0 ys.length = ys := by
  unfold span
  rw [List.drop_zero, List.take_length]
theorem rowAt.copied {h : mH} {a room c : Nat} {fl : Int32} {ys : List mIt} {f g f2 g2 : Nat → Int32} (e0 : h a = .inr (.inr (3, [.ref (a + 1), .ref (a + 2), .int fl, .int (nI c)]))) (e1 : h (a + 1) = .inl (0, room, va_cpy f2 f 0 0 c)) (e2 : h (a + 2) = .inl (0, room, va_cpy g2 g 0 0 c)) (hc : c = ys.length) (hl : ys.length ≤ room) (hr : room ≤ 320) (hk : ∀ i, i < ys.length → f2 i = xk ys i) (ht : ∀ i, i < ys.length → g2 i = xt ys i) : rowAt h a room fl ys := by
  subst hc
  refine ⟨_, _, e0, e1, e2, hl, hr, fun i hi => ?_, fun i hi => ?_⟩
  · rw [← hk i hi]; unfold va_cpy; rw [if_pos ⟨Nat.zero_le _, by omega⟩]; congr 1; omega
  · rw [← ht i hi]; unfold va_cpy; rw [if_pos ⟨Nat.zero_le _, by omega⟩]; congr 1; omega
/-- a row with one item changed -/
def xput (xs : List mIt) (i : Nat) (p : mIt) : List mIt := xs.set i p
theorem xk_put {xs : List mIt} {i j : Nat} {p : mIt} (h : i < xs.length) : xk (xs.set i p) j = if j = i then p.1 else xk xs j := by
  unfold xk
  rw [List.getD_eq_getElem?_getD, List.getD_eq_getElem?_getD]
  by_cases q : j = i
  · subst q; rw [List.getElem?_set_self h, if_pos rfl]; rfl
  · rw [List.getElem?_set_ne (Ne.symm q), if_neg q]
theorem xt_put {xs : List mIt} {i j : Nat} {p : mIt} (h : i < xs.length) : xt (xs.set i p) j = if j = i then p.2 else xt xs j := by
  unfold xt
  rw [List.getD_eq_getElem?_getD, List.getD_eq_getElem?_getD]
  by_cases q : j = i
  · subst q; rw [List.getElem?_set_self h, if_pos rfl]; rfl
  · rw [List.getElem?_set_ne (Ne.symm q), if_neg q]
def swp (xs : List mIt) (i j : Nat) : List mIt := (xs.set i (xk xs j, xt xs j)).set j (xk xs i, xt xs i)
theorem rowAt_swp {h : mH} {a room i j : Nat} {fl : Int32} {xs : List mIt} {f g : Nat → Int32} (e0 : h a = .inr (.inr (3, [.ref (a + 1), .ref (a + 2), .int fl, .int (nI xs.length)]))) (e1 : h (a + 1) = .inl (0, room, upd (upd f i (xk xs j)) j (xk xs i))) (e2 : h (a + 2) = .inl (0, room, upd (upd g i (xt xs j)) j (xt xs i))) (hi : i < xs.length) (hj : j < xs.length) (hl : xs.length ≤ room) (hr : room ≤ 320) (hk : ∀ i, i < xs.length → f i = xk xs i) (ht : ∀ i, i < xs.length → g i = xt xs i) : rowAt h a room fl (swp xs i j) := by
  have e : (swp xs i j).length = xs.length := by unfold swp; rw [List.length_set, List.length_set]
  refine ⟨_, _, by rw [e]; exact e0, e1, e2, by omega, hr, fun k hk' => ?_, fun k hk' => ?_⟩
  · rw [e] at hk'
    rw [swp, xk_put (by rw [List.length_set]; exact hj), xk_put hi]
    unfold upd
    by_cases q : k = j
    · simp [q]
    · by_cases q2 : k = i
      · simp [q, q2]
      · simp [q, q2, hk k hk']
  · rw [e] at hk'
    rw [swp, xt_put (by rw [List.length_set]; exact hj), xt_put hi]
    unfold upd
    by_cases q : k = j
    · simp [q]
    · by_cases q2 : k = i
      · simp [q, q2]
      · simp [q, q2, ht k hk']
def mdf : Value → Bool
  | .int _ => true
  | .long _ => true
  | .null => true
  | _ => false
theorem mdf_ok {fs : List Value} (h : fs.all mdf = true) : ∀ v ∈ fs, (∃ x, v = .int x) ∨ (∃ x, v = .long x) ∨ v = .null := by
  intro v hv
  have h1 := List.all_eq_true.mp h v hv
  cases v with
  | int x => exact Or.inl ⟨x, rfl⟩
  | long x => exact Or.inr (Or.inl ⟨x, rfl⟩)
  | null => exact Or.inr (Or.inr rfl)
  | _ => cases h1
theorem mDX0 : ∀ j, j < 4 → defaultValue (tyX0 j) = vp_V [.null, .null, .null, .null] j
  | 0, _ => rfl
  | 1, _ => rfl
  | 2, _ => rfl
  | 3, _ => rfl
  | _ + 4, h => by omega
theorem mDX1 : ∀ j, j < 4 → defaultValue (tyX1 j) = vp_V [.null, .null, .int (nI 0), .int (nI 0)] j
  | 0, _ => rfl
  | 1, _ => rfl
  | 2, _ => rfl
  | 3, _ => rfl
  | _ + 4, h => by omega
theorem mDX2 : ∀ j, j < 6 → defaultValue (tyX2 j) = vp_V [.null, .null, .int (nI 0), .int (nI 0), .int (nI 0), .int (nI 0)] j
  | 0, _ => rfl
  | 1, _ => rfl
  | 2, _ => rfl
  | 3, _ => rfl
  | 4, _ => rfl
  | 5, _ => rfl
  | _ + 6, h => by omega
theorem mDX3 : ∀ j, j < 2 → defaultValue (tyX3 j) = vp_V [.long 0, .null] j
  | 0, _ => rfl
  | 1, _ => rfl
  | _ + 2, h => by omega
theorem mDX4 : ∀ j, j < 7 → defaultValue (tyX4 j) = vp_V [.null, .null, .int (nI 0), .int (nI 0), .int (nI 0), .int (nI 0), .int (nI 0)] j
  | 0, _ => rfl
  | 1, _ => rfl
  | 2, _ => rfl
  | 3, _ => rfl
  | 4, _ => rfl
  | 5, _ => rfl
  | 6, _ => rfl
  | _ + 7, h => by omega
