def wsL_law_r26 : List Cond := [Cond.selects RX8 yX8_calm yX8_calm, Cond.code yX8_calm cX8_calm 2 (some .int), Cond.methodLink RL 108 yX7_best, Cond.instanceMethod yX7_best, Cond.selects RX7 yX7_best yX7_best, Cond.code yX7_best cX7_best 3 (some .int), Cond.fieldLink RX7 251 "BellBook$Plan" "hope" "I", Cond.fieldLink RX7 256 "BellBook$Plan" "toil" "I", Cond.fieldLink RX7 259 "BellBook$Plan" "count" "I", Cond.fieldLink RX7 260 "BellBook$Plan" "order" "[I", Cond.methodLink RX7 247 yX6_bestPlan, Cond.instanceMethod yX6_bestPlan, Cond.selects RX6 yX6_bestPlan yX6_bestPlan, Cond.code yX6_bestPlan cX6_bestPlan 1 (some (.object "BellBook$Plan")), Cond.methodLink RX6 75 yX4_make, Cond.instanceMethod yX4_make, Cond.selects RX4 yX4_make yX4_make, Cond.code yX4_make cX4_make 2 none, Cond.methodLink RX4 33 yX4_findLatest, Cond.instanceMethod yX4_findLatest, Cond.selects RX4 yX4_findLatest yX4_findLatest, Cond.code yX4_findLatest cX4_findLatest 4 none, Cond.fieldLink RX4 45 "BellBook$Wreck" "raised" "I", Cond.fieldLink RX4 48 "BellBook$Wreck" "tangled" "I"]
def wsL_law_r27 : List Cond := [Cond.fieldLink RX4 51 "BellBook$Wreck" "tides" "LBellBook$Tides;", Cond.fieldLink RX4 61 "BellBook$Wreck" "count" "I", Cond.methodLink RX4 55 yX5_lastMoment, Cond.instanceMethod yX5_lastMoment, Cond.selects RX5 yX5_lastMoment yX5_lastMoment, Cond.code yX5_lastMoment cX5_lastMoment 1 (some .int), Cond.methodLink RX5 17 yX5_moment, Cond.static yX5_moment, Cond.code yX5_moment cX5_moment 2 (some .int), Cond.methodLink RX4 62 yX4_latestOf, Cond.instanceMethod yX4_latestOf, Cond.selects RX4 yX4_latestOf yX4_latestOf, Cond.code yX4_latestOf cX4_latestOf 6 (some .int), Cond.methodLink RX4 78 Lib.Math.max.name, Cond.methodLink RX4 66 yX4_mayBeFirst, Cond.static yX4_mayBeFirst, Cond.code yX4_mayBeFirst cX4_mayBeFirst 3 (some .boolean), Cond.fieldLink RX4 86 "BellBook$Wreck" "under" "[I", Cond.methodLink RX4 70 yX6_left, Cond.instanceMethod yX6_left, Cond.selects RX6 yX6_left yX6_left, Cond.code yX6_left cX6_left 2 (some .int), Cond.methodLink RX4 74 yX5_latestBegin, Cond.instanceMethod yX5_latestBegin]
def wsL_law_r28 : List Cond := [Cond.selects RX5 yX5_latestBegin yX5_latestBegin, Cond.code yX5_latestBegin cX5_latestBegin 4 (some .int), Cond.methodLink RX5 21 yX5_tideAt, Cond.static yX5_tideAt, Cond.code yX5_tideAt cX5_tideAt 1 (some .int), Cond.methodLink RX4 37 yX4_chooseSet, Cond.instanceMethod yX4_chooseSet, Cond.selects RX4 yX4_chooseSet yX4_chooseSet, Cond.code yX4_chooseSet cX4_chooseSet 6 (some .int), Cond.methodLink RX4 89 yX6_isWhole, Cond.instanceMethod yX6_isWhole, Cond.selects RX6 yX6_isWhole yX6_isWhole, Cond.code yX6_isWhole cX6_isWhole 3 (some .boolean), Cond.methodLink RX4 93 yX4_hopeOf, Cond.static yX4_hopeOf, Cond.code yX4_hopeOf cX4_hopeOf 4 (some .int), Cond.fieldLink RX4 99 "BellBook$Wreck" "worth" "[I", Cond.fieldLink RX4 102 "BellBook$Wreck" "odds" "[I", Cond.methodLink RX4 96 yX4_toilOf, Cond.static yX4_toilOf, Cond.code yX4_toilOf cX4_toilOf 4 (some .int), Cond.methodLink RX4 41 yX4_setInOrder, Cond.instanceMethod yX4_setInOrder, Cond.selects RX4 yX4_setInOrder yX4_setInOrder]
def wsL_law_r29 : List Cond := [Cond.code yX4_setInOrder cX4_setInOrder 7 none, Cond.methodLink RX4 105 yX4_nextOf, Cond.instanceMethod yX4_nextOf, Cond.selects RX4 yX4_nextOf yX4_nextOf, Cond.code yX4_nextOf cX4_nextOf 6 (some .int), Cond.methodLink RX4 109 yX5_soonestEnd, Cond.instanceMethod yX5_soonestEnd, Cond.selects RX5 yX5_soonestEnd yX5_soonestEnd, Cond.code yX5_soonestEnd cX5_soonestEnd 5 (some .int), Cond.methodLink RX4 112 yX5_tideAt, Cond.methodLink RL 111 yX8_best, Cond.instanceMethod yX8_best, Cond.selects RX8 yX8_best yX8_best, Cond.code yX8_best cX8_best 2 (some .int), Cond.fieldLink RX8 196 "BellBookModel" "bestSet" "I", Cond.fieldLink RX8 205 "BellBookModel" "many" "I", Cond.methodLink RX8 208 yX8_layBest, Cond.instanceMethod yX8_layBest, Cond.selects RX8 yX8_layBest yX8_layBest, Cond.code yX8_layBest cX8_layBest 7 none, Cond.methodLink RX8 192 yX8_layEnds, Cond.instanceMethod yX8_layEnds, Cond.selects RX8 yX8_layEnds yX8_layEnds, Cond.code yX8_layEnds cX8_layEnds 8 none]
def wsL_law_r30 : List Cond := [Cond.methodLink RX8 188 yX8_endWith, Cond.instanceMethod yX8_endWith, Cond.selects RX8 yX8_endWith yX8_endWith, Cond.code yX8_endWith cX8_endWith 5 (some .int), Cond.methodLink RX8 185 yX8_left, Cond.instanceMethod yX8_left, Cond.selects RX8 yX8_left yX8_left, Cond.code yX8_left cX8_left 2 (some .int), Cond.methodLink RX8 199 yX8_hopeOf, Cond.instanceMethod yX8_hopeOf, Cond.selects RX8 yX8_hopeOf yX8_hopeOf, Cond.code yX8_hopeOf cX8_hopeOf 4 (some .int), Cond.methodLink RX8 202 yX8_workOfSet, Cond.instanceMethod yX8_workOfSet, Cond.selects RX8 yX8_workOfSet yX8_workOfSet, Cond.code yX8_workOfSet cX8_workOfSet 4 (some .int), Cond.methodLink RL 112 yX7_tideOf, Cond.instanceMethod yX7_tideOf, Cond.selects RX7 yX7_tideOf yX7_tideOf, Cond.code yX7_tideOf cX7_tideOf 3 (some .int), Cond.fieldLink RX7 263 "BellBook$Plan" "when" "[I", Cond.methodLink RL 115 yX8_tideOf, Cond.instanceMethod yX8_tideOf, Cond.selects RX8 yX8_tideOf yX8_tideOf]
def wsL_law_r31 : List Cond := [Cond.code yX8_tideOf cX8_tideOf 2 (some .int), Cond.methodLink RL 116 yX7_sign, Cond.instanceMethod yX7_sign, Cond.selects RX7 yX7_sign yX7_sign, Cond.code yX7_sign cX7_sign 5 (some .int), Cond.methodLink RX7 266 yX3_put, Cond.instanceMethod yX3_put, Cond.selects RX3 yX3_put yX3_put, Cond.code yX3_put cX3_put 4 none, Cond.methodLink RX7 269 yX3_isTugs, Cond.static yX3_isTugs, Cond.code yX3_isTugs cX3_isTugs 2 (some .boolean), Cond.methodLink RX7 272 yX3_signOf, Cond.instanceMethod yX3_signOf, Cond.selects RX3 yX3_signOf yX3_signOf, Cond.code yX3_signOf cX3_signOf 4 (some .int), Cond.methodLink RX3 32 yX3_isSet, Cond.instanceMethod yX3_isSet, Cond.selects RX3 yX3_isSet yX3_isSet, Cond.code yX3_isSet cX3_isSet 2 (some .boolean), Cond.methodLink RX3 40 yX3_fromSign, Cond.instanceMethod yX3_fromSign, Cond.selects RX3 yX3_fromSign yX3_fromSign, Cond.code yX3_fromSign cX3_fromSign 4 (some .int)]
def wsL_law_r32 : List Cond := [Cond.methodLink RL 119 yX8_sign, Cond.instanceMethod yX8_sign, Cond.selects RX8 yX8_sign yX8_sign, Cond.code yX8_sign cX8_sign 6 (some .int), Cond.methodLink RL 120 yX7_heard, Cond.instanceMethod yX7_heard, Cond.selects RX7 yX7_heard yX7_heard, Cond.code yX7_heard cX7_heard 4 (some .int), Cond.methodLink RX7 275 yX3_isHearing, Cond.static yX3_isHearing, Cond.code yX3_isHearing cX3_isHearing 2 (some .boolean), Cond.methodLink RX7 278 yX3_onlyOneApart, Cond.instanceMethod yX3_onlyOneApart, Cond.selects RX3 yX3_onlyOneApart yX3_onlyOneApart, Cond.code yX3_onlyOneApart cX3_onlyOneApart 5 (some .int), Cond.methodLink RL 123 yX8_heard, Cond.instanceMethod yX8_heard, Cond.selects RX8 yX8_heard yX8_heard, Cond.code yX8_heard cX8_heard 7 (some .int), Cond.methodLink RX8 211 yX8_isHeard, Cond.static yX8_isHeard, Cond.code yX8_isHeard cX8_isHeard 1 (some .boolean), Cond.methodLink RX8 214 yX8_apart, Cond.instanceMethod yX8_apart]
def wsL_law_r33 : List Cond := [Cond.selects RX8 yX8_apart yX8_apart, Cond.code yX8_apart cX8_apart 4 (some .int), Cond.methodLink RL 124 yX7_hear, Cond.instanceMethod yX7_hear, Cond.selects RX7 yX7_hear yX7_hear, Cond.code yX7_hear cX7_hear 3 (some .int), Cond.fieldLink RX7 281 "BellBook$Line" "hearings" "I", Cond.methodLink RX7 284 yX3_addHearing, Cond.instanceMethod yX3_addHearing, Cond.selects RX3 yX3_addHearing yX3_addHearing, Cond.code yX3_addHearing cX3_addHearing 3 (some .int), Cond.methodLink RL 127 yX8_hear, Cond.instanceMethod yX8_hear, Cond.selects RX8 yX8_hear yX8_hear, Cond.code yX8_hear cX8_hear 3 (some .int), Cond.fieldLink RX8 218 "BellBookModel" "hearings" "I", Cond.methodLink RL 128 yX7_tell, Cond.instanceMethod yX7_tell, Cond.selects RX7 yX7_tell yX7_tell, Cond.code yX7_tell cX7_tell 2 (some .int), Cond.methodLink RX7 287 yX3_nearestToRow, Cond.instanceMethod yX3_nearestToRow, Cond.selects RX3 yX3_nearestToRow yX3_nearestToRow, Cond.code yX3_nearestToRow cX3_nearestToRow 5 (some .int)]
def wsL_law_r34 : List Cond := [Cond.methodLink RX3 44 yX3_fromRow, Cond.instanceMethod yX3_fromRow, Cond.selects RX3 yX3_fromRow yX3_fromRow, Cond.code yX3_fromRow cX3_fromRow 4 (some .int), Cond.methodLink RL 131 yX8_tell, Cond.instanceMethod yX8_tell, Cond.selects RX8 yX8_tell yX8_tell, Cond.code yX8_tell cX8_tell 6 (some .int), Cond.methodLink RL 132 yX7_tight, Cond.instanceMethod yX7_tight, Cond.selects RX7 yX7_tight yX7_tight, Cond.code yX7_tight cX7_tight 1 (some .int), Cond.methodLink RX7 290 yX3_leastApart, Cond.instanceMethod yX3_leastApart, Cond.selects RX3 yX3_leastApart yX3_leastApart, Cond.code yX3_leastApart cX3_leastApart 3 (some .int), Cond.methodLink RX3 51 Lib.Math.min.name, Cond.methodLink RX3 48 yX3_fromSignsBehind, Cond.instanceMethod yX3_fromSignsBehind, Cond.selects RX3 yX3_fromSignsBehind yX3_fromSignsBehind, Cond.code yX3_fromSignsBehind cX3_fromSignsBehind 4 (some .int), Cond.methodLink RL 135 yX8_tight, Cond.instanceMethod yX8_tight, Cond.selects RX8 yX8_tight yX8_tight]
def wsL_law_r35 : List Cond := [Cond.code yX8_tight cX8_tight 5 (some .int), Cond.methodLink RL 136 yX7_free, Cond.instanceMethod yX7_free, Cond.selects RX7 yX7_free yX7_free, Cond.code yX7_free cX7_free 2 (some .int), Cond.methodLink RX7 293 yX3_firstFree, Cond.instanceMethod yX3_firstFree, Cond.selects RX3 yX3_firstFree yX3_firstFree, Cond.code yX3_firstFree cX3_firstFree 4 (some .int), Cond.methodLink RX3 57 yX3_isFarFromAll, Cond.instanceMethod yX3_isFarFromAll, Cond.selects RX3 yX3_isFarFromAll yX3_isFarFromAll, Cond.code yX3_isFarFromAll cX3_isFarFromAll 5 (some .boolean), Cond.methodLink RL 139 yX8_free, Cond.instanceMethod yX8_free, Cond.selects RX8 yX8_free yX8_free, Cond.code yX8_free cX8_free 6 (some .int), Cond.methodLink RL 140 yX7_entry, Cond.instanceMethod yX7_entry, Cond.selects RX7 yX7_entry yX7_entry, Cond.code yX7_entry cX7_entry 4 (some .int), Cond.fieldLink RX7 296 "BellBook$Book" "count" "I", Cond.methodLink RX7 297 yX1_mayFollow, Cond.instanceMethod yX1_mayFollow]
def wsL_law_r36 : List Cond := [Cond.selects RX1 yX1_mayFollow yX1_mayFollow, Cond.code yX1_mayFollow cX1_mayFollow 4 (some .boolean), Cond.methodLink RX7 300 yX1_add, Cond.instanceMethod yX1_add, Cond.selects RX1 yX1_add yX1_add, Cond.code yX1_add cX1_add 5 (some .int), Cond.methodLink RL 143 yX8_entry, Cond.instanceMethod yX8_entry, Cond.selects RX8 yX8_entry yX8_entry, Cond.code yX8_entry cX8_entry 5 (some .int), Cond.fieldLink RX8 221 "BellBookModel" "entries" "I", Cond.methodLink RL 144 yX7_log, Cond.instanceMethod yX7_log, Cond.selects RX7 yX7_log yX7_log, Cond.code yX7_log cX7_log 3 (some .int), Cond.fieldLink RX7 306 "BellBook$Book" "seen" "I", Cond.fieldLink RX7 309 "BellBook$Book" "longestSure" "I", Cond.fieldLink RX7 312 "BellBook$Book" "longestMaybe" "I", Cond.fieldLink RX7 318 "BellBook$Book" "sure" "I", Cond.fieldLink RX7 321 "BellBook$Book" "dark" "I", Cond.methodLink RX7 303 yX1_read, Cond.instanceMethod yX1_read, Cond.selects RX1 yX1_read yX1_read, Cond.code yX1_read cX1_read 4 none]
def wsL_law_r37 : List Cond := [Cond.methodLink RX1 25 yX1_forgetReading, Cond.instanceMethod yX1_forgetReading, Cond.selects RX1 yX1_forgetReading yX1_forgetReading, Cond.code yX1_forgetReading cX1_forgetReading 1 none, Cond.fieldLink RX1 36 "BellBook$Book" "seen" "I", Cond.fieldLink RX1 39 "BellBook$Book" "sure" "I", Cond.fieldLink RX1 42 "BellBook$Book" "dark" "I", Cond.fieldLink RX1 45 "BellBook$Book" "longestSure" "I", Cond.fieldLink RX1 48 "BellBook$Book" "longestMaybe" "I", Cond.fieldLink RX1 51 "BellBook$Book" "sureRow" "I", Cond.fieldLink RX1 54 "BellBook$Book" "maybeRow" "I", Cond.methodLink RX1 28 yX1_readGap, Cond.instanceMethod yX1_readGap, Cond.selects RX1 yX1_readGap yX1_readGap, Cond.code yX1_readGap cX1_readGap 3 none, Cond.methodLink RX1 57 yX1_addSure, Cond.instanceMethod yX1_addSure, Cond.selects RX1 yX1_addSure yX1_addSure, Cond.code yX1_addSure cX1_addSure 2 none, Cond.methodLink RX1 64 Lib.Math.max.name, Cond.methodLink RX1 70 yX1_growMaybe, Cond.instanceMethod yX1_growMaybe, Cond.selects RX1 yX1_growMaybe yX1_growMaybe, Cond.code yX1_growMaybe cX1_growMaybe 2 none]
def wsL_law_r38 : List Cond := [Cond.methodLink RX1 61 yX1_addDark, Cond.instanceMethod yX1_addDark, Cond.selects RX1 yX1_addDark yX1_addDark, Cond.code yX1_addDark cX1_addDark 2 none, Cond.methodLink RX1 32 yX1_readEntry, Cond.instanceMethod yX1_readEntry, Cond.selects RX1 yX1_readEntry yX1_readEntry, Cond.code yX1_readEntry cX1_readEntry 2 none, Cond.methodLink RX7 315 yX1_verdict, Cond.instanceMethod yX1_verdict, Cond.selects RX1 yX1_verdict yX1_verdict, Cond.code yX1_verdict cX1_verdict 2 (some .int), Cond.methodLink RL 147 yX8_log, Cond.instanceMethod yX8_log, Cond.selects RX8 yX8_log yX8_log, Cond.code yX8_log cX8_log 5 (some .int), Cond.fieldLink RX8 230 "BellBookModel" "longestSure" "I", Cond.fieldLink RX8 233 "BellBookModel" "longestMaybe" "I", Cond.fieldLink RX8 224 "BellBookModel" "sureMinutes" "I", Cond.fieldLink RX8 227 "BellBookModel" "darkMinutes" "I", Cond.methodLink RX8 236 yX8_readLog, Cond.instanceMethod yX8_readLog, Cond.selects RX8 yX8_readLog yX8_readLog, Cond.code yX8_readLog cX8_readLog 11 none]
def wsL_law_r39 : List Cond := [Cond.methodLink RL 148 yX7_told, Cond.instanceMethod yX7_told, Cond.selects RX7 yX7_told yX7_told, Cond.code yX7_told cX7_told 2 (some .int), Cond.methodLink RX7 324 yX3_countSigns, Cond.instanceMethod yX3_countSigns, Cond.selects RX3 yX3_countSigns yX3_countSigns, Cond.code yX3_countSigns cX3_countSigns 3 (some .int), Cond.methodLink RX7 327 yX6_raisedWorth, Cond.instanceMethod yX6_raisedWorth, Cond.selects RX6 yX6_raisedWorth yX6_raisedWorth, Cond.code yX6_raisedWorth cX6_raisedWorth 3 (some .int), Cond.methodLink RL 151 yX8_told, Cond.instanceMethod yX8_told, Cond.selects RX8 yX8_told yX8_told, Cond.code yX8_told cX8_told 4 (some .int)]
def wsL_law : List Cond := (wsL_law_r1 ++ (wsL_law_r2 ++ (wsL_law_r3 ++ (wsL_law_r4 ++ (wsL_law_r5 ++ (wsL_law_r6 ++ (wsL_law_r7 ++ (wsL_law_r8 ++ (wsL_law_r9 ++ (wsL_law_r10 ++ (wsL_law_r11 ++ (wsL_law_r12 ++ (wsL_law_r13 ++ (wsL_law_r14 ++ (wsL_law_r15 ++ (wsL_law_r16 ++ (wsL_law_r17 ++ (wsL_law_r18 ++ (wsL_law_r19 ++ (wsL_law_r20 ++ (wsL_law_r21 ++ (wsL_law_r22 ++ (wsL_law_r23 ++ (wsL_law_r24 ++ (wsL_law_r25 ++ (wsL_law_r26 ++ (wsL_law_r27 ++ (wsL_law_r28 ++ (wsL_law_r29 ++ (wsL_law_r30 ++ (wsL_law_r31 ++ (wsL_law_r32 ++ (wsL_law_r33 ++ (wsL_law_r34 ++ (wsL_law_r35 ++ (wsL_law_r36 ++ (wsL_law_r37 ++ (wsL_law_r38 ++ wsL_law_r39)))))))))))))))))))))))))))))))))))))) ++ wsX70 ++ wsX80 ++ wsX00 ++ wsX20 ++ wsX60 ++ wsX30 ++ wsX10 ++ wsX50 ++ wsX40 ++ ([] : List Cond)
set_option maxRecDepth 20000 in
theorem ggX0_init_X0_beginAnew : GoodIn wsX0_init wsX0_beginAnew := goodIn_r _ [11, 12, 13, 14, 15, 16, 17, 18, 19, 20, 21, 22, 23, 24, 25, 26, 27, 28, 29, 30, 31, 32] (by decide +kernel) (by decide +kernel)
set_option maxRecDepth 20000 in
theorem gX0_init_X0_beginAnew : GoodIn wsX0_init (wsV RX0 21 RX0 yX0_beginAnew wsX0_beginAnew) := goodIn_app (goodIn_of _ (by decide +kernel)) ggX0_init_X0_beginAnew
theorem dX0_init_0 : decode cX0_init 0 = .ok (.aload_n 0, 1) := by decide +kernel
theorem dX0_init_1 : decode cX0_init 1 = .ok (.invokespecial 3, 3) := by decide +kernel
theorem dX0_init_4 : decode cX0_init 4 = .ok (.aload_n 0, 1) := by decide +kernel
theorem dX0_init_5 : decode cX0_init 5 = .ok (.iconst 0, 1) := by decide +kernel
theorem dX0_init_6 : decode cX0_init 6 = .ok (.putfield 9, 3) := by decide +kernel
theorem dX0_init_9 : decode cX0_init 9 = .ok (.aload_n 0, 1) := by decide +kernel
theorem dX0_init_10 : decode cX0_init 10 = .ok (.iconst 3, 1) := by decide +kernel
theorem dX0_init_11 : decode cX0_init 11 = .ok (.putfield 15, 3) := by decide +kernel
theorem dX0_init_14 : decode cX0_init 14 = .ok (.aload_n 0, 1) := by decide +kernel
theorem dX0_init_15 : decode cX0_init 15 = .ok (.bipush 40, 2) := by decide +kernel
theorem dX0_init_17 : decode cX0_init 17 = .ok (.putfield 18, 3) := by decide +kernel
theorem dX0_init_20 : decode cX0_init 20 = .ok (.aload_n 0, 1) := by decide +kernel
theorem dX0_init_21 : decode cX0_init 21 = .ok (.sipush 1000, 3) := by decide +kernel
theorem dX0_init_24 : decode cX0_init 24 = .ok (.invokevirtual 21, 3) := by decide +kernel
theorem dX0_init_27 : decode cX0_init 27 = .ok (.return_, 1) := by decide +kernel
theorem dX0_beginAnew_0 : decode cX0_beginAnew 0 = .ok (.aload_n 0, 1) := by decide +kernel
theorem dX0_beginAnew_1 : decode cX0_beginAnew 1 = .ok (.iload_n 1, 1) := by decide +kernel
theorem dX0_beginAnew_2 : decode cX0_beginAnew 2 = .ok (.putfield 25, 3) := by decide +kernel
theorem dX0_beginAnew_5 : decode cX0_beginAnew 5 = .ok (.aload_n 0, 1) := by decide +kernel
theorem dX0_beginAnew_6 : decode cX0_beginAnew 6 = .ok (.iload_n 1, 1) := by decide +kernel
theorem dX0_beginAnew_7 : decode cX0_beginAnew 7 = .ok (.putfield 28, 3) := by decide +kernel
theorem dX0_beginAnew_10 : decode cX0_beginAnew 10 = .ok (.aload_n 0, 1) := by decide +kernel
theorem dX0_beginAnew_11 : decode cX0_beginAnew 11 = .ok (.iconst 0, 1) := by decide +kernel
theorem dX0_beginAnew_12 : decode cX0_beginAnew 12 = .ok (.putfield 31, 3) := by decide +kernel
theorem dX0_beginAnew_15 : decode cX0_beginAnew 15 = .ok (.aload_n 0, 1) := by decide +kernel
theorem dX0_beginAnew_16 : decode cX0_beginAnew 16 = .ok (.iload_n 1, 1) := by decide +kernel
theorem dX0_beginAnew_17 : decode cX0_beginAnew 17 = .ok (.putfield 34, 3) := by decide +kernel
theorem dX0_beginAnew_20 : decode cX0_beginAnew 20 = .ok (.aload_n 0, 1) := by decide +kernel
theorem dX0_beginAnew_21 : decode cX0_beginAnew 21 = .ok (.iconst 0, 1) := by decide +kernel
theorem dX0_beginAnew_22 : decode cX0_beginAnew 22 = .ok (.putfield 37, 3) := by decide +kernel
theorem dX0_beginAnew_25 : decode cX0_beginAnew 25 = .ok (.aload_n 0, 1) := by decide +kernel
theorem dX0_beginAnew_26 : decode cX0_beginAnew 26 = .ok (.iconst 0, 1) := by decide +kernel
theorem dX0_beginAnew_27 : decode cX0_beginAnew 27 = .ok (.putfield 40, 3) := by decide +kernel
theorem dX0_beginAnew_30 : decode cX0_beginAnew 30 = .ok (.aload_n 0, 1) := by decide +kernel
theorem dX0_beginAnew_31 : decode cX0_beginAnew 31 = .ok (.iconst 0, 1) := by decide +kernel
theorem dX0_beginAnew_32 : decode cX0_beginAnew 32 = .ok (.putfield 43, 3) := by decide +kernel
theorem dX0_beginAnew_35 : decode cX0_beginAnew 35 = .ok (.aload_n 0, 1) := by decide +kernel
theorem dX0_beginAnew_36 : decode cX0_beginAnew 36 = .ok (.iconst 0, 1) := by decide +kernel
theorem dX0_beginAnew_37 : decode cX0_beginAnew 37 = .ok (.putfield 46, 3) := by decide +kernel
theorem dX0_beginAnew_40 : decode cX0_beginAnew 40 = .ok (.aload_n 0, 1) := by decide +kernel
theorem dX0_beginAnew_41 : decode cX0_beginAnew 41 = .ok (.iconst 0, 1) := by decide +kernel
theorem dX0_beginAnew_42 : decode cX0_beginAnew 42 = .ok (.putfield 49, 3) := by decide +kernel
theorem dX0_beginAnew_45 : decode cX0_beginAnew 45 = .ok (.return_, 1) := by decide +kernel
theorem dX0_shares_0 : decode cX0_shares 0 = .ok (.aload_n 0, 1) := by decide +kernel
theorem dX0_shares_1 : decode cX0_shares 1 = .ok (.getfield 28, 3) := by decide +kernel
theorem dX0_shares_4 : decode cX0_shares 4 = .ok (.aload_n 0, 1) := by decide +kernel
theorem dX0_shares_5 : decode cX0_shares 5 = .ok (.getfield 31, 3) := by decide +kernel
theorem dX0_shares_8 : decode cX0_shares 8 = .ok (.iadd, 1) := by decide +kernel
theorem dX0_shares_9 : decode cX0_shares 9 = .ok (.ireturn, 1) := by decide +kernel
theorem dX0_most_0 : decode cX0_most 0 = .ok (.aload_n 0, 1) := by decide +kernel
theorem dX0_most_1 : decode cX0_most 1 = .ok (.getfield 25, 3) := by decide +kernel
theorem dX0_most_4 : decode cX0_most 4 = .ok (.bipush 10, 2) := by decide +kernel
theorem dX0_most_6 : decode cX0_most 6 = .ok (.aload_n 0, 1) := by decide +kernel
theorem dX0_most_7 : decode cX0_most 7 = .ok (.getfield 9, 3) := by decide +kernel
theorem dX0_most_10 : decode cX0_most 10 = .ok (.iadd, 1) := by decide +kernel
theorem dX0_most_11 : decode cX0_most 11 = .ok (.imul, 1) := by decide +kernel
theorem dX0_most_12 : decode cX0_most 12 = .ok (.bipush 10, 2) := by decide +kernel
theorem dX0_most_14 : decode cX0_most 14 = .ok (.idiv, 1) := by decide +kernel
theorem dX0_most_15 : decode cX0_most 15 = .ok (.ireturn, 1) := by decide +kernel
set_option maxRecDepth 20000 in
theorem ggX0_dry_X0_shares : GoodIn wsX0_dry wsX0_shares := goodIn_r _ [6, 7, 8, 9, 10, 11, 12, 13, 14, 15, 16, 17, 18, 19, 20] (by decide +kernel) (by decide +kernel)
set_option maxRecDepth 20000 in
theorem gX0_dry_X0_shares : GoodIn wsX0_dry (wsV RX0 52 RX0 yX0_shares wsX0_shares) := goodIn_app (goodIn_of _ (by decide +kernel)) ggX0_dry_X0_shares
theorem dX0_dry_0 : decode cX0_dry 0 = .ok (.aload_n 0, 1) := by decide +kernel
theorem dX0_dry_1 : decode cX0_dry 1 = .ok (.invokevirtual 52, 3) := by decide +kernel
theorem dX0_dry_4 : decode cX0_dry 4 = .ok (.bipush 10, 2) := by decide +kernel
theorem dX0_dry_6 : decode cX0_dry 6 = .ok (.imul, 1) := by decide +kernel
theorem dX0_dry_7 : decode cX0_dry 7 = .ok (.bipush 10, 2) := by decide +kernel
theorem dX0_dry_9 : decode cX0_dry 9 = .ok (.aload_n 0, 1) := by decide +kernel
theorem dX0_dry_10 : decode cX0_dry 10 = .ok (.getfield 9, 3) := by decide +kernel
theorem dX0_dry_13 : decode cX0_dry 13 = .ok (.iadd, 1) := by decide +kernel
theorem dX0_dry_14 : decode cX0_dry 14 = .ok (.idiv, 1) := by decide +kernel
theorem dX0_dry_15 : decode cX0_dry 15 = .ok (.ireturn, 1) := by decide +kernel
set_option maxRecDepth 20000 in
theorem ggX0_spill_X0_foulPart : GoodIn wsX0_spill wsX0_foulPart := goodIn_r _ [7] (by decide +kernel) (by decide +kernel)
set_option maxRecDepth 20000 in
theorem gX0_spill_X0_foulPart : GoodIn wsX0_spill (va_wsS RX0 56 yX0_foulPart wsX0_foulPart) := goodIn_app (goodIn_of _ (by decide +kernel)) ggX0_spill_X0_foulPart
theorem dX0_spill_0 : decode cX0_spill 0 = .ok (.iload_n 1, 1) := by decide +kernel
theorem dX0_spill_1 : decode cX0_spill 1 = .ok (.aload_n 0, 1) := by decide +kernel
theorem dX0_spill_2 : decode cX0_spill 2 = .ok (.getfield 28, 3) := by decide +kernel
theorem dX0_spill_5 : decode cX0_spill 5 = .ok (.aload_n 0, 1) := by decide +kernel
theorem dX0_spill_6 : decode cX0_spill 6 = .ok (.getfield 31, 3) := by decide +kernel
theorem dX0_spill_9 : decode cX0_spill 9 = .ok (.invokestatic 56, 3) := by decide +kernel
theorem dX0_spill_12 : decode cX0_spill 12 = .ok (.istore_n 2, 1) := by decide +kernel
theorem dX0_spill_13 : decode cX0_spill 13 = .ok (.aload_n 0, 1) := by decide +kernel
theorem dX0_spill_14 : decode cX0_spill 14 = .ok (.dup, 1) := by decide +kernel
theorem dX0_spill_15 : decode cX0_spill 15 = .ok (.getfield 31, 3) := by decide +kernel
theorem dX0_spill_18 : decode cX0_spill 18 = .ok (.iload_n 2, 1) := by decide +kernel
theorem dX0_spill_19 : decode cX0_spill 19 = .ok (.isub, 1) := by decide +kernel
theorem dX0_spill_20 : decode cX0_spill 20 = .ok (.putfield 31, 3) := by decide +kernel
theorem dX0_spill_23 : decode cX0_spill 23 = .ok (.aload_n 0, 1) := by decide +kernel
theorem dX0_spill_24 : decode cX0_spill 24 = .ok (.dup, 1) := by decide +kernel
theorem dX0_spill_25 : decode cX0_spill 25 = .ok (.getfield 28, 3) := by decide +kernel
theorem dX0_spill_28 : decode cX0_spill 28 = .ok (.iload_n 1, 1) := by decide +kernel
theorem dX0_spill_29 : decode cX0_spill 29 = .ok (.iload_n 2, 1) := by decide +kernel
theorem dX0_spill_30 : decode cX0_spill 30 = .ok (.isub, 1) := by decide +kernel
theorem dX0_spill_31 : decode cX0_spill 31 = .ok (.isub, 1) := by decide +kernel
theorem dX0_spill_32 : decode cX0_spill 32 = .ok (.putfield 28, 3) := by decide +kernel
theorem dX0_spill_35 : decode cX0_spill 35 = .ok (.aload_n 0, 1) := by decide +kernel
theorem dX0_spill_36 : decode cX0_spill 36 = .ok (.dup, 1) := by decide +kernel
theorem dX0_spill_37 : decode cX0_spill 37 = .ok (.getfield 40, 3) := by decide +kernel
theorem dX0_spill_40 : decode cX0_spill 40 = .ok (.iload_n 1, 1) := by decide +kernel
theorem dX0_spill_41 : decode cX0_spill 41 = .ok (.iadd, 1) := by decide +kernel
theorem dX0_spill_42 : decode cX0_spill 42 = .ok (.putfield 40, 3) := by decide +kernel
theorem dX0_spill_45 : decode cX0_spill 45 = .ok (.iload_n 1, 1) := by decide +kernel
theorem dX0_spill_46 : decode cX0_spill 46 = .ok (.ireturn, 1) := by decide +kernel
set_option maxRecDepth 20000 in
theorem ggX0_spillOver_X0_shares : GoodIn wsX0_spillOver wsX0_shares := goodIn_r _ [9, 10, 11, 26, 27, 28, 29, 30, 31, 32, 33, 34, 35, 36, 37] (by decide +kernel) (by decide +kernel)
set_option maxRecDepth 20000 in
theorem gX0_spillOver_X0_shares : GoodIn wsX0_spillOver (wsV RX0 52 RX0 yX0_shares wsX0_shares) := goodIn_app (goodIn_of _ (by decide +kernel)) ggX0_spillOver_X0_shares
set_option maxRecDepth 20000 in
theorem ggX0_spillOver_X0_most : GoodIn wsX0_spillOver wsX0_most := goodIn_r _ [15, 16, 17, 26, 27, 28, 29, 30, 31, 32, 33, 34, 35, 36, 37] (by decide +kernel) (by decide +kernel)
set_option maxRecDepth 20000 in
theorem gX0_spillOver_X0_most : GoodIn wsX0_spillOver (wsV RX0 60 RX0 yX0_most wsX0_most) := goodIn_app (goodIn_of _ (by decide +kernel)) ggX0_spillOver_X0_most
set_option maxRecDepth 20000 in
theorem ggX0_spillOver_X0_spill : GoodIn wsX0_spillOver wsX0_spill := goodIn_r _ [21, 10, 11, 22, 23, 24, 8, 25, 26, 27, 28, 29, 30, 31, 32, 33, 34, 35, 36, 37] (by decide +kernel) (by decide +kernel)
set_option maxRecDepth 20000 in
theorem gX0_spillOver_X0_spill : GoodIn wsX0_spillOver (wsV RX0 69 RX0 yX0_spill wsX0_spill) := goodIn_app (goodIn_of _ (by decide +kernel)) ggX0_spillOver_X0_spill
theorem dX0_spillOver_0 : decode cX0_spillOver 0 = .ok (.aload_n 0, 1) := by decide +kernel
theorem dX0_spillOver_1 : decode cX0_spillOver 1 = .ok (.iconst 0, 1) := by decide +kernel
theorem dX0_spillOver_2 : decode cX0_spillOver 2 = .ok (.aload_n 0, 1) := by decide +kernel
theorem dX0_spillOver_3 : decode cX0_spillOver 3 = .ok (.invokevirtual 52, 3) := by decide +kernel
theorem dX0_spillOver_6 : decode cX0_spillOver 6 = .ok (.aload_n 0, 1) := by decide +kernel
theorem dX0_spillOver_7 : decode cX0_spillOver 7 = .ok (.invokevirtual 60, 3) := by decide +kernel
theorem dX0_spillOver_10 : decode cX0_spillOver 10 = .ok (.isub, 1) := by decide +kernel
theorem dX0_spillOver_11 : decode cX0_spillOver 11 = .ok (.invokestatic 63, 3) := by decide +kernel
theorem dX0_spillOver_14 : decode cX0_spillOver 14 = .ok (.invokevirtual 69, 3) := by decide +kernel
theorem dX0_spillOver_17 : decode cX0_spillOver 17 = .ok (.ireturn, 1) := by decide +kernel
set_option maxRecDepth 20000 in
theorem ggX0_letIn_X0_spillOver : GoodIn wsX0_letIn wsX0_spillOver := goodIn_r _ [8, 9, 10, 11, 12, 13, 14, 15, 7, 16, 3, 17, 18, 19, 20, 21, 22, 23, 24, 25, 26, 27, 28, 29, 30, 31, 32, 33, 34, 35, 36, 37, 38, 39, 40, 41, 42, 43] (by decide +kernel) (by decide +kernel)
set_option maxRecDepth 20000 in
theorem gX0_letIn_X0_spillOver : GoodIn wsX0_letIn (wsV RX0 73 RX0 yX0_spillOver wsX0_spillOver) := goodIn_app (goodIn_of _ (by decide +kernel)) ggX0_letIn_X0_spillOver
theorem dX0_letIn_0 : decode cX0_letIn 0 = .ok (.aload_n 0, 1) := by decide +kernel
theorem dX0_letIn_1 : decode cX0_letIn 1 = .ok (.dup, 1) := by decide +kernel
theorem dX0_letIn_2 : decode cX0_letIn 2 = .ok (.getfield 43, 3) := by decide +kernel
theorem dX0_letIn_5 : decode cX0_letIn 5 = .ok (.iconst 1, 1) := by decide +kernel
theorem dX0_letIn_6 : decode cX0_letIn 6 = .ok (.iadd, 1) := by decide +kernel
theorem dX0_letIn_7 : decode cX0_letIn 7 = .ok (.putfield 43, 3) := by decide +kernel
theorem dX0_letIn_10 : decode cX0_letIn 10 = .ok (.aload_n 0, 1) := by decide +kernel
theorem dX0_letIn_11 : decode cX0_letIn 11 = .ok (.dup, 1) := by decide +kernel
theorem dX0_letIn_12 : decode cX0_letIn 12 = .ok (.getfield 34, 3) := by decide +kernel
theorem dX0_letIn_15 : decode cX0_letIn 15 = .ok (.iload_n 1, 1) := by decide +kernel
theorem dX0_letIn_16 : decode cX0_letIn 16 = .ok (.iadd, 1) := by decide +kernel
theorem dX0_letIn_17 : decode cX0_letIn 17 = .ok (.putfield 34, 3) := by decide +kernel
theorem dX0_letIn_20 : decode cX0_letIn 20 = .ok (.aload_n 0, 1) := by decide +kernel
theorem dX0_letIn_21 : decode cX0_letIn 21 = .ok (.dup, 1) := by decide +kernel
theorem dX0_letIn_22 : decode cX0_letIn 22 = .ok (.getfield 28, 3) := by decide +kernel
theorem dX0_letIn_25 : decode cX0_letIn 25 = .ok (.iload_n 1, 1) := by decide +kernel
theorem dX0_letIn_26 : decode cX0_letIn 26 = .ok (.iadd, 1) := by decide +kernel
theorem dX0_letIn_27 : decode cX0_letIn 27 = .ok (.putfield 28, 3) := by decide +kernel
theorem dX0_letIn_30 : decode cX0_letIn 30 = .ok (.aload_n 0, 1) := by decide +kernel
theorem dX0_letIn_31 : decode cX0_letIn 31 = .ok (.invokevirtual 73, 3) := by decide +kernel
theorem dX0_letIn_34 : decode cX0_letIn 34 = .ok (.ireturn, 1) := by decide +kernel
theorem dX0_breathe_0 : decode cX0_breathe 0 = .ok (.aload_n 0, 1) := by decide +kernel
theorem dX0_breathe_1 : decode cX0_breathe 1 = .ok (.getfield 15, 3) := by decide +kernel
theorem dX0_breathe_4 : decode cX0_breathe 4 = .ok (.aload_n 0, 1) := by decide +kernel
theorem dX0_breathe_5 : decode cX0_breathe 5 = .ok (.getfield 28, 3) := by decide +kernel
theorem dX0_breathe_8 : decode cX0_breathe 8 = .ok (.invokestatic 76, 3) := by decide +kernel
theorem dX0_breathe_11 : decode cX0_breathe 11 = .ok (.istore_n 1, 1) := by decide +kernel
theorem dX0_breathe_12 : decode cX0_breathe 12 = .ok (.aload_n 0, 1) := by decide +kernel
theorem dX0_breathe_13 : decode cX0_breathe 13 = .ok (.dup, 1) := by decide +kernel
theorem dX0_breathe_14 : decode cX0_breathe 14 = .ok (.getfield 28, 3) := by decide +kernel
theorem dX0_breathe_17 : decode cX0_breathe 17 = .ok (.iload_n 1, 1) := by decide +kernel
theorem dX0_breathe_18 : decode cX0_breathe 18 = .ok (.isub, 1) := by decide +kernel
theorem dX0_breathe_19 : decode cX0_breathe 19 = .ok (.putfield 28, 3) := by decide +kernel
theorem dX0_breathe_22 : decode cX0_breathe 22 = .ok (.aload_n 0, 1) := by decide +kernel
theorem dX0_breathe_23 : decode cX0_breathe 23 = .ok (.dup, 1) := by decide +kernel
theorem dX0_breathe_24 : decode cX0_breathe 24 = .ok (.getfield 31, 3) := by decide +kernel
theorem dX0_breathe_27 : decode cX0_breathe 27 = .ok (.iload_n 1, 1) := by decide +kernel
theorem dX0_breathe_28 : decode cX0_breathe 28 = .ok (.iadd, 1) := by decide +kernel
theorem dX0_breathe_29 : decode cX0_breathe 29 = .ok (.putfield 31, 3) := by decide +kernel
theorem dX0_breathe_32 : decode cX0_breathe 32 = .ok (.aload_n 0, 1) := by decide +kernel
theorem dX0_breathe_33 : decode cX0_breathe 33 = .ok (.dup, 1) := by decide +kernel
theorem dX0_breathe_34 : decode cX0_breathe 34 = .ok (.getfield 37, 3) := by decide +kernel
theorem dX0_breathe_37 : decode cX0_breathe 37 = .ok (.iload_n 1, 1) := by decide +kernel
theorem dX0_breathe_38 : decode cX0_breathe 38 = .ok (.iadd, 1) := by decide +kernel
theorem dX0_breathe_39 : decode cX0_breathe 39 = .ok (.putfield 37, 3) := by decide +kernel
theorem dX0_breathe_42 : decode cX0_breathe 42 = .ok (.iload_n 1, 1) := by decide +kernel
theorem dX0_breathe_43 : decode cX0_breathe 43 = .ok (.aload_n 0, 1) := by decide +kernel
theorem dX0_breathe_44 : decode cX0_breathe 44 = .ok (.getfield 15, 3) := by decide +kernel
theorem dX0_breathe_47 : decode cX0_breathe 47 = .ok (.if_icmp .ge 13, 3) := by decide +kernel
theorem dX0_breathe_50 : decode cX0_breathe 50 = .ok (.aload_n 0, 1) := by decide +kernel
theorem dX0_breathe_51 : decode cX0_breathe 51 = .ok (.dup, 1) := by decide +kernel
theorem dX0_breathe_52 : decode cX0_breathe 52 = .ok (.getfield 46, 3) := by decide +kernel
theorem dX0_breathe_55 : decode cX0_breathe 55 = .ok (.iconst 1, 1) := by decide +kernel
theorem dX0_breathe_56 : decode cX0_breathe 56 = .ok (.iadd, 1) := by decide +kernel
theorem dX0_breathe_57 : decode cX0_breathe 57 = .ok (.putfield 46, 3) := by decide +kernel
theorem dX0_breathe_60 : decode cX0_breathe 60 = .ok (.return_, 1) := by decide +kernel
theorem dX0_lasts_0 : decode cX0_lasts 0 = .ok (.iload_n 1, 1) := by decide +kernel
theorem dX0_lasts_1 : decode cX0_lasts 1 = .ok (.aload_n 0, 1) := by decide +kernel
theorem dX0_lasts_2 : decode cX0_lasts 2 = .ok (.getfield 15, 3) := by decide +kernel
theorem dX0_lasts_5 : decode cX0_lasts 5 = .ok (.imul, 1) := by decide +kernel
theorem dX0_lasts_6 : decode cX0_lasts 6 = .ok (.istore_n 2, 1) := by decide +kernel
theorem dX0_lasts_7 : decode cX0_lasts 7 = .ok (.iload_n 2, 1) := by decide +kernel
theorem dX0_lasts_8 : decode cX0_lasts 8 = .ok (.ifCond .gt 8, 3) := by decide +kernel
theorem dX0_lasts_11 : decode cX0_lasts 11 = .ok (.ldc 79, 2) := by decide +kernel
theorem dX0_lasts_13 : decode cX0_lasts 13 = .ok (.goto 9, 3) := by decide +kernel
theorem dX0_lasts_16 : decode cX0_lasts 16 = .ok (.aload_n 0, 1) := by decide +kernel
theorem dX0_lasts_17 : decode cX0_lasts 17 = .ok (.getfield 28, 3) := by decide +kernel
theorem dX0_lasts_20 : decode cX0_lasts 20 = .ok (.iload_n 2, 1) := by decide +kernel
theorem dX0_lasts_21 : decode cX0_lasts 21 = .ok (.idiv, 1) := by decide +kernel
theorem dX0_lasts_22 : decode cX0_lasts 22 = .ok (.ireturn, 1) := by decide +kernel
set_option maxRecDepth 20000 in
theorem ggX0_fewestBarrels_X0_foulness : GoodIn wsX0_fewestBarrels wsX0_foulness := goodIn_r _ [11, 12, 13, 10, 14] (by decide +kernel) (by decide +kernel)
set_option maxRecDepth 20000 in
theorem gX0_fewestBarrels_X0_foulness : GoodIn wsX0_fewestBarrels (va_wsS RX0 80 yX0_foulness wsX0_foulness) := goodIn_app (goodIn_of _ (by decide +kernel)) ggX0_fewestBarrels_X0_foulness
set_option maxRecDepth 20000 in
theorem ggX0_fewestBarrels_X0_most : GoodIn wsX0_fewestBarrels wsX0_most := goodIn_r _ [18, 19, 20, 21, 22, 23, 24, 25, 26, 27, 28, 29, 30, 31, 32] (by decide +kernel) (by decide +kernel)
set_option maxRecDepth 20000 in
theorem gX0_fewestBarrels_X0_most : GoodIn wsX0_fewestBarrels (wsV RX0 60 RX0 yX0_most wsX0_most) := goodIn_app (goodIn_of _ (by decide +kernel)) ggX0_fewestBarrels_X0_most
set_option maxRecDepth 20000 in
theorem ggX0_fewestBarrels_X0_foulPart : GoodIn wsX0_fewestBarrels wsX0_foulPart := goodIn_r _ [14] (by decide +kernel) (by decide +kernel)
set_option maxRecDepth 20000 in
theorem gX0_fewestBarrels_X0_foulPart : GoodIn wsX0_fewestBarrels (va_wsS RX0 56 yX0_foulPart wsX0_foulPart) := goodIn_app (goodIn_of _ (by decide +kernel)) ggX0_fewestBarrels_X0_foulPart
theorem dX0_fewestBarrels_0 : decode cX0_fewestBarrels 0 = .ok (.aload_n 0, 1) := by decide +kernel
theorem dX0_fewestBarrels_1 : decode cX0_fewestBarrels 1 = .ok (.getfield 28, 3) := by decide +kernel
theorem dX0_fewestBarrels_4 : decode cX0_fewestBarrels 4 = .ok (.istore_n 2, 1) := by decide +kernel
theorem dX0_fewestBarrels_5 : decode cX0_fewestBarrels 5 = .ok (.aload_n 0, 1) := by decide +kernel
theorem dX0_fewestBarrels_6 : decode cX0_fewestBarrels 6 = .ok (.getfield 31, 3) := by decide +kernel
theorem dX0_fewestBarrels_9 : decode cX0_fewestBarrels 9 = .ok (.istore_n 3, 1) := by decide +kernel
theorem dX0_fewestBarrels_10 : decode cX0_fewestBarrels 10 = .ok (.iconst 0, 1) := by decide +kernel
theorem dX0_fewestBarrels_11 : decode cX0_fewestBarrels 11 = .ok (.istore 4, 2) := by decide +kernel
theorem dX0_fewestBarrels_13 : decode cX0_fewestBarrels 13 = .ok (.iload 4, 2) := by decide +kernel
theorem dX0_fewestBarrels_15 : decode cX0_fewestBarrels 15 = .ok (.bipush 40, 2) := by decide +kernel
theorem dX0_fewestBarrels_17 : decode cX0_fewestBarrels 17 = .ok (.if_icmp .gt 64, 3) := by decide +kernel
theorem dX0_fewestBarrels_20 : decode cX0_fewestBarrels 20 = .ok (.iload_n 2, 1) := by decide +kernel
theorem dX0_fewestBarrels_21 : decode cX0_fewestBarrels 21 = .ok (.iload_n 3, 1) := by decide +kernel
theorem dX0_fewestBarrels_22 : decode cX0_fewestBarrels 22 = .ok (.invokestatic 80, 3) := by decide +kernel
theorem dX0_fewestBarrels_25 : decode cX0_fewestBarrels 25 = .ok (.aload_n 0, 1) := by decide +kernel
theorem dX0_fewestBarrels_26 : decode cX0_fewestBarrels 26 = .ok (.getfield 18, 3) := by decide +kernel
theorem dX0_fewestBarrels_29 : decode cX0_fewestBarrels 29 = .ok (.if_icmp .gt 6, 3) := by decide +kernel
theorem dX0_fewestBarrels_32 : decode cX0_fewestBarrels 32 = .ok (.iload 4, 2) := by decide +kernel
theorem dX0_fewestBarrels_34 : decode cX0_fewestBarrels 34 = .ok (.ireturn, 1) := by decide +kernel
theorem dX0_fewestBarrels_35 : decode cX0_fewestBarrels 35 = .ok (.iload_n 2, 1) := by decide +kernel
theorem dX0_fewestBarrels_36 : decode cX0_fewestBarrels 36 = .ok (.iload_n 1, 1) := by decide +kernel
theorem dX0_fewestBarrels_37 : decode cX0_fewestBarrels 37 = .ok (.iadd, 1) := by decide +kernel
theorem dX0_fewestBarrels_38 : decode cX0_fewestBarrels 38 = .ok (.istore_n 2, 1) := by decide +kernel
theorem dX0_fewestBarrels_39 : decode cX0_fewestBarrels 39 = .ok (.iconst 0, 1) := by decide +kernel
theorem dX0_fewestBarrels_40 : decode cX0_fewestBarrels 40 = .ok (.iload_n 2, 1) := by decide +kernel
theorem dX0_fewestBarrels_41 : decode cX0_fewestBarrels 41 = .ok (.iload_n 3, 1) := by decide +kernel
theorem dX0_fewestBarrels_42 : decode cX0_fewestBarrels 42 = .ok (.iadd, 1) := by decide +kernel
theorem dX0_fewestBarrels_43 : decode cX0_fewestBarrels 43 = .ok (.aload_n 0, 1) := by decide +kernel
theorem dX0_fewestBarrels_44 : decode cX0_fewestBarrels 44 = .ok (.invokevirtual 60, 3) := by decide +kernel
theorem dX0_fewestBarrels_47 : decode cX0_fewestBarrels 47 = .ok (.isub, 1) := by decide +kernel
theorem dX0_fewestBarrels_48 : decode cX0_fewestBarrels 48 = .ok (.invokestatic 63, 3) := by decide +kernel
theorem dX0_fewestBarrels_51 : decode cX0_fewestBarrels 51 = .ok (.istore 5, 2) := by decide +kernel
theorem dX0_fewestBarrels_53 : decode cX0_fewestBarrels 53 = .ok (.iload 5, 2) := by decide +kernel
theorem dX0_fewestBarrels_55 : decode cX0_fewestBarrels 55 = .ok (.iload_n 2, 1) := by decide +kernel
theorem dX0_fewestBarrels_56 : decode cX0_fewestBarrels 56 = .ok (.iload_n 3, 1) := by decide +kernel
theorem dX0_fewestBarrels_57 : decode cX0_fewestBarrels 57 = .ok (.invokestatic 56, 3) := by decide +kernel
theorem dX0_fewestBarrels_60 : decode cX0_fewestBarrels 60 = .ok (.istore 6, 2) := by decide +kernel
theorem dX0_fewestBarrels_62 : decode cX0_fewestBarrels 62 = .ok (.iload_n 3, 1) := by decide +kernel
theorem dX0_fewestBarrels_63 : decode cX0_fewestBarrels 63 = .ok (.iload 6, 2) := by decide +kernel
theorem dX0_fewestBarrels_65 : decode cX0_fewestBarrels 65 = .ok (.isub, 1) := by decide +kernel
theorem dX0_fewestBarrels_66 : decode cX0_fewestBarrels 66 = .ok (.istore_n 3, 1) := by decide +kernel
theorem dX0_fewestBarrels_67 : decode cX0_fewestBarrels 67 = .ok (.iload_n 2, 1) := by decide +kernel
theorem dX0_fewestBarrels_68 : decode cX0_fewestBarrels 68 = .ok (.iload 5, 2) := by decide +kernel
theorem dX0_fewestBarrels_70 : decode cX0_fewestBarrels 70 = .ok (.iload 6, 2) := by decide +kernel
theorem dX0_fewestBarrels_72 : decode cX0_fewestBarrels 72 = .ok (.isub, 1) := by decide +kernel
theorem dX0_fewestBarrels_73 : decode cX0_fewestBarrels 73 = .ok (.isub, 1) := by decide +kernel
theorem dX0_fewestBarrels_74 : decode cX0_fewestBarrels 74 = .ok (.istore_n 2, 1) := by decide +kernel
theorem dX0_fewestBarrels_75 : decode cX0_fewestBarrels 75 = .ok (.iinc 4 1, 3) := by decide +kernel
theorem dX0_fewestBarrels_78 : decode cX0_fewestBarrels 78 = .ok (.goto (-65), 3) := by decide +kernel
theorem dX0_fewestBarrels_81 : decode cX0_fewestBarrels 81 = .ok (.bipush (-6), 2) := by decide +kernel
theorem dX0_fewestBarrels_83 : decode cX0_fewestBarrels 83 = .ok (.ireturn, 1) := by decide +kernel
set_option maxRecDepth 20000 in
theorem ggX0_foulness_X0_foulPart : GoodIn wsX0_foulness wsX0_foulPart := goodIn_r _ [4] (by decide +kernel) (by decide +kernel)
set_option maxRecDepth 20000 in
theorem gX0_foulness_X0_foulPart : GoodIn wsX0_foulness (va_wsS RX0 56 yX0_foulPart wsX0_foulPart) := goodIn_app (goodIn_of _ (by decide +kernel)) ggX0_foulness_X0_foulPart
theorem dX0_foulness_0 : decode cX0_foulness 0 = .ok (.bipush 100, 2) := by decide +kernel
theorem dX0_foulness_2 : decode cX0_foulness 2 = .ok (.iload_n 0, 1) := by decide +kernel
theorem dX0_foulness_3 : decode cX0_foulness 3 = .ok (.iload_n 1, 1) := by decide +kernel
theorem dX0_foulness_4 : decode cX0_foulness 4 = .ok (.invokestatic 56, 3) := by decide +kernel
theorem dX0_foulness_7 : decode cX0_foulness 7 = .ok (.ireturn, 1) := by decide +kernel
theorem dX0_foulPart_0 : decode cX0_foulPart 0 = .ok (.iload_n 1, 1) := by decide +kernel
theorem dX0_foulPart_1 : decode cX0_foulPart 1 = .ok (.iload_n 2, 1) := by decide +kernel
theorem dX0_foulPart_2 : decode cX0_foulPart 2 = .ok (.iadd, 1) := by decide +kernel
theorem dX0_foulPart_3 : decode cX0_foulPart 3 = .ok (.istore_n 3, 1) := by decide +kernel
theorem dX0_foulPart_4 : decode cX0_foulPart 4 = .ok (.iload_n 3, 1) := by decide +kernel
theorem dX0_foulPart_5 : decode cX0_foulPart 5 = .ok (.ifCond .gt 7, 3) := by decide +kernel
theorem dX0_foulPart_8 : decode cX0_foulPart 8 = .ok (.iconst 0, 1) := by decide +kernel
theorem dX0_foulPart_9 : decode cX0_foulPart 9 = .ok (.goto 12, 3) := by decide +kernel
theorem dX0_foulPart_12 : decode cX0_foulPart 12 = .ok (.iload_n 0, 1) := by decide +kernel
theorem dX0_foulPart_13 : decode cX0_foulPart 13 = .ok (.i2l, 1) := by decide +kernel
theorem dX0_foulPart_14 : decode cX0_foulPart 14 = .ok (.iload_n 2, 1) := by decide +kernel
theorem dX0_foulPart_15 : decode cX0_foulPart 15 = .ok (.i2l, 1) := by decide +kernel
theorem dX0_foulPart_16 : decode cX0_foulPart 16 = .ok (.lmul, 1) := by decide +kernel
theorem dX0_foulPart_17 : decode cX0_foulPart 17 = .ok (.iload_n 3, 1) := by decide +kernel
theorem dX0_foulPart_18 : decode cX0_foulPart 18 = .ok (.i2l, 1) := by decide +kernel
theorem dX0_foulPart_19 : decode cX0_foulPart 19 = .ok (.ldiv, 1) := by decide +kernel
theorem dX0_foulPart_20 : decode cX0_foulPart 20 = .ok (.l2i, 1) := by decide +kernel
theorem dX0_foulPart_21 : decode cX0_foulPart 21 = .ok (.ireturn, 1) := by decide +kernel
theorem dX1_init_0 : decode cX1_init 0 = .ok (.aload_n 0, 1) := by decide +kernel
theorem dX1_init_1 : decode cX1_init 1 = .ok (.invokespecial 3, 3) := by decide +kernel
theorem dX1_init_4 : decode cX1_init 4 = .ok (.aload_n 0, 1) := by decide +kernel
theorem dX1_init_5 : decode cX1_init 5 = .ok (.bipush 40, 2) := by decide +kernel
theorem dX1_init_7 : decode cX1_init 7 = .ok (.newarray .int, 2) := by decide +kernel
theorem dX1_init_9 : decode cX1_init 9 = .ok (.putfield 11, 3) := by decide +kernel
theorem dX1_init_12 : decode cX1_init 12 = .ok (.aload_n 0, 1) := by decide +kernel
theorem dX1_init_13 : decode cX1_init 13 = .ok (.bipush 40, 2) := by decide +kernel
theorem dX1_init_15 : decode cX1_init 15 = .ok (.newarray .int, 2) := by decide +kernel
theorem dX1_init_17 : decode cX1_init 17 = .ok (.putfield 15, 3) := by decide +kernel
theorem dX1_init_20 : decode cX1_init 20 = .ok (.aload_n 0, 1) := by decide +kernel
theorem dX1_init_21 : decode cX1_init 21 = .ok (.bipush 40, 2) := by decide +kernel
theorem dX1_init_23 : decode cX1_init 23 = .ok (.newarray .int, 2) := by decide +kernel
theorem dX1_init_25 : decode cX1_init 25 = .ok (.putfield 18, 3) := by decide +kernel
theorem dX1_init_28 : decode cX1_init 28 = .ok (.aload_n 0, 1) := by decide +kernel
theorem dX1_init_29 : decode cX1_init 29 = .ok (.iconst 0, 1) := by decide +kernel
theorem dX1_init_30 : decode cX1_init 30 = .ok (.putfield 21, 3) := by decide +kernel
theorem dX1_init_33 : decode cX1_init 33 = .ok (.return_, 1) := by decide +kernel
theorem dX1_mayFollow_0 : decode cX1_mayFollow 0 = .ok (.iconst 0, 1) := by decide +kernel
theorem dX1_mayFollow_1 : decode cX1_mayFollow 1 = .ok (.istore_n 3, 1) := by decide +kernel
theorem dX1_mayFollow_2 : decode cX1_mayFollow 2 = .ok (.iload_n 3, 1) := by decide +kernel
theorem dX1_mayFollow_3 : decode cX1_mayFollow 3 = .ok (.aload_n 0, 1) := by decide +kernel
theorem dX1_mayFollow_4 : decode cX1_mayFollow 4 = .ok (.getfield 21, 3) := by decide +kernel
theorem dX1_mayFollow_7 : decode cX1_mayFollow 7 = .ok (.if_icmp .ge 43, 3) := by decide +kernel
theorem dX1_mayFollow_10 : decode cX1_mayFollow 10 = .ok (.aload_n 0, 1) := by decide +kernel
theorem dX1_mayFollow_11 : decode cX1_mayFollow 11 = .ok (.getfield 11, 3) := by decide +kernel
theorem dX1_mayFollow_14 : decode cX1_mayFollow 14 = .ok (.iload_n 3, 1) := by decide +kernel
theorem dX1_mayFollow_15 : decode cX1_mayFollow 15 = .ok (.iaload, 1) := by decide +kernel
theorem dX1_mayFollow_16 : decode cX1_mayFollow 16 = .ok (.iload_n 1, 1) := by decide +kernel
theorem dX1_mayFollow_17 : decode cX1_mayFollow 17 = .ok (.if_icmp .le 5, 3) := by decide +kernel
theorem dX1_mayFollow_20 : decode cX1_mayFollow 20 = .ok (.iconst 0, 1) := by decide +kernel
theorem dX1_mayFollow_21 : decode cX1_mayFollow 21 = .ok (.ireturn, 1) := by decide +kernel
theorem dX1_mayFollow_22 : decode cX1_mayFollow 22 = .ok (.aload_n 0, 1) := by decide +kernel
theorem dX1_mayFollow_23 : decode cX1_mayFollow 23 = .ok (.getfield 11, 3) := by decide +kernel
theorem dX1_mayFollow_26 : decode cX1_mayFollow 26 = .ok (.iload_n 3, 1) := by decide +kernel
theorem dX1_mayFollow_27 : decode cX1_mayFollow 27 = .ok (.iaload, 1) := by decide +kernel
theorem dX1_mayFollow_28 : decode cX1_mayFollow 28 = .ok (.iload_n 1, 1) := by decide +kernel
theorem dX1_mayFollow_29 : decode cX1_mayFollow 29 = .ok (.if_icmp .ne 15, 3) := by decide +kernel
theorem dX1_mayFollow_32 : decode cX1_mayFollow 32 = .ok (.aload_n 0, 1) := by decide +kernel
theorem dX1_mayFollow_33 : decode cX1_mayFollow 33 = .ok (.getfield 15, 3) := by decide +kernel
theorem dX1_mayFollow_36 : decode cX1_mayFollow 36 = .ok (.iload_n 3, 1) := by decide +kernel
theorem dX1_mayFollow_37 : decode cX1_mayFollow 37 = .ok (.iaload, 1) := by decide +kernel
theorem dX1_mayFollow_38 : decode cX1_mayFollow 38 = .ok (.iload_n 2, 1) := by decide +kernel
theorem dX1_mayFollow_39 : decode cX1_mayFollow 39 = .ok (.if_icmp .ne 5, 3) := by decide +kernel
theorem dX1_mayFollow_42 : decode cX1_mayFollow 42 = .ok (.iconst 0, 1) := by decide +kernel
theorem dX1_mayFollow_43 : decode cX1_mayFollow 43 = .ok (.ireturn, 1) := by decide +kernel
theorem dX1_mayFollow_44 : decode cX1_mayFollow 44 = .ok (.iinc 3 1, 3) := by decide +kernel
theorem dX1_mayFollow_47 : decode cX1_mayFollow 47 = .ok (.goto (-45), 3) := by decide +kernel
theorem dX1_mayFollow_50 : decode cX1_mayFollow 50 = .ok (.iconst 1, 1) := by decide +kernel
theorem dX1_mayFollow_51 : decode cX1_mayFollow 51 = .ok (.ireturn, 1) := by decide +kernel
theorem dX1_add_0 : decode cX1_add 0 = .ok (.aload_n 0, 1) := by decide +kernel
theorem dX1_add_1 : decode cX1_add 1 = .ok (.getfield 21, 3) := by decide +kernel
theorem dX1_add_4 : decode cX1_add 4 = .ok (.istore 4, 2) := by decide +kernel
theorem dX1_add_6 : decode cX1_add 6 = .ok (.aload_n 0, 1) := by decide +kernel
theorem dX1_add_7 : decode cX1_add 7 = .ok (.getfield 11, 3) := by decide +kernel
theorem dX1_add_10 : decode cX1_add 10 = .ok (.iload 4, 2) := by decide +kernel
theorem dX1_add_12 : decode cX1_add 12 = .ok (.iload_n 1, 1) := by decide +kernel
theorem dX1_add_13 : decode cX1_add 13 = .ok (.iastore, 1) := by decide +kernel
theorem dX1_add_14 : decode cX1_add 14 = .ok (.aload_n 0, 1) := by decide +kernel
theorem dX1_add_15 : decode cX1_add 15 = .ok (.getfield 15, 3) := by decide +kernel
theorem dX1_add_18 : decode cX1_add 18 = .ok (.iload 4, 2) := by decide +kernel
theorem dX1_add_20 : decode cX1_add 20 = .ok (.iload_n 2, 1) := by decide +kernel
theorem dX1_add_21 : decode cX1_add 21 = .ok (.iastore, 1) := by decide +kernel
theorem dX1_add_22 : decode cX1_add 22 = .ok (.aload_n 0, 1) := by decide +kernel
theorem dX1_add_23 : decode cX1_add 23 = .ok (.getfield 18, 3) := by decide +kernel
theorem dX1_add_26 : decode cX1_add 26 = .ok (.iload 4, 2) := by decide +kernel
theorem dX1_add_28 : decode cX1_add 28 = .ok (.iload_n 3, 1) := by decide +kernel
theorem dX1_add_29 : decode cX1_add 29 = .ok (.iastore, 1) := by decide +kernel
theorem dX1_add_30 : decode cX1_add 30 = .ok (.aload_n 0, 1) := by decide +kernel
theorem dX1_add_31 : decode cX1_add 31 = .ok (.dup, 1) := by decide +kernel
theorem dX1_add_32 : decode cX1_add 32 = .ok (.getfield 21, 3) := by decide +kernel
theorem dX1_add_35 : decode cX1_add 35 = .ok (.iconst 1, 1) := by decide +kernel
theorem dX1_add_36 : decode cX1_add 36 = .ok (.iadd, 1) := by decide +kernel
theorem dX1_add_37 : decode cX1_add 37 = .ok (.putfield 21, 3) := by decide +kernel
theorem dX1_add_40 : decode cX1_add 40 = .ok (.iload 4, 2) := by decide +kernel
theorem dX1_add_42 : decode cX1_add 42 = .ok (.ireturn, 1) := by decide +kernel
set_option maxRecDepth 20000 in
theorem ggX1_read_X1_forgetReading : GoodIn wsX1_read wsX1_forgetReading := goodIn_r _ [9, 10, 11, 12, 13, 14, 15, 16, 41, 42, 43, 44, 45, 46, 47, 48, 49, 50, 51] (by decide +kernel) (by decide +kernel)
set_option maxRecDepth 20000 in
theorem gX1_read_X1_forgetReading : GoodIn wsX1_read (wsV RX1 25 RX1 yX1_forgetReading wsX1_forgetReading) := goodIn_app (goodIn_of _ (by decide +kernel)) ggX1_read_X1_forgetReading
set_option maxRecDepth 20000 in
theorem ggX1_read_X1_readGap : GoodIn wsX1_read wsX1_readGap := goodIn_r _ [20, 21, 22, 23, 8, 24, 11, 15, 13, 25, 26, 27, 28, 29, 30, 31, 32, 16, 14, 33, 34, 35, 36, 12, 41, 42, 43, 44, 45, 46, 47, 48, 49, 50, 51] (by decide +kernel) (by decide +kernel)
set_option maxRecDepth 20000 in
theorem gX1_read_X1_readGap : GoodIn wsX1_read (wsV RX1 28 RX1 yX1_readGap wsX1_readGap) := goodIn_app (goodIn_of _ (by decide +kernel)) ggX1_read_X1_readGap
set_option maxRecDepth 20000 in
theorem ggX1_read_X1_readEntry : GoodIn wsX1_read wsX1_readEntry := goodIn_r _ [40, 10, 15, 16, 21, 22, 23, 8, 24, 11, 13, 25, 26, 27, 28, 29, 30, 31, 32, 14, 41, 42, 43, 44, 45, 46, 47, 48, 49, 50, 51] (by decide +kernel) (by decide +kernel)
set_option maxRecDepth 20000 in
theorem gX1_read_X1_readEntry : GoodIn wsX1_read (wsV RX1 32 RX1 yX1_readEntry wsX1_readEntry) := goodIn_app (goodIn_of _ (by decide +kernel)) ggX1_read_X1_readEntry
theorem dX1_read_0 : decode cX1_read 0 = .ok (.aload_n 0, 1) := by decide +kernel
theorem dX1_read_1 : decode cX1_read 1 = .ok (.invokevirtual 25, 3) := by decide +kernel
theorem dX1_read_4 : decode cX1_read 4 = .ok (.bipush (-6), 2) := by decide +kernel
theorem dX1_read_6 : decode cX1_read 6 = .ok (.istore_n 2, 1) := by decide +kernel
theorem dX1_read_7 : decode cX1_read 7 = .ok (.iconst 0, 1) := by decide +kernel
theorem dX1_read_8 : decode cX1_read 8 = .ok (.istore_n 3, 1) := by decide +kernel
theorem dX1_read_9 : decode cX1_read 9 = .ok (.iload_n 3, 1) := by decide +kernel
theorem dX1_read_10 : decode cX1_read 10 = .ok (.aload_n 0, 1) := by decide +kernel
theorem dX1_read_11 : decode cX1_read 11 = .ok (.getfield 21, 3) := by decide +kernel
theorem dX1_read_14 : decode cX1_read 14 = .ok (.if_icmp .ge 93, 3) := by decide +kernel
theorem dX1_read_17 : decode cX1_read 17 = .ok (.aload_n 0, 1) := by decide +kernel
theorem dX1_read_18 : decode cX1_read 18 = .ok (.getfield 15, 3) := by decide +kernel
theorem dX1_read_21 : decode cX1_read 21 = .ok (.iload_n 3, 1) := by decide +kernel
theorem dX1_read_22 : decode cX1_read 22 = .ok (.iaload, 1) := by decide +kernel
theorem dX1_read_23 : decode cX1_read 23 = .ok (.iload_n 1, 1) := by decide +kernel
theorem dX1_read_24 : decode cX1_read 24 = .ok (.if_icmp .eq 6, 3) := by decide +kernel
theorem dX1_read_27 : decode cX1_read 27 = .ok (.goto 74, 3) := by decide +kernel
theorem dX1_read_30 : decode cX1_read 30 = .ok (.iload_n 2, 1) := by decide +kernel
theorem dX1_read_31 : decode cX1_read 31 = .ok (.bipush (-6), 2) := by decide +kernel
theorem dX1_read_33 : decode cX1_read 33 = .ok (.if_icmp .eq 47, 3) := by decide +kernel
theorem dX1_read_36 : decode cX1_read 36 = .ok (.aload_n 0, 1) := by decide +kernel
theorem dX1_read_37 : decode cX1_read 37 = .ok (.aload_n 0, 1) := by decide +kernel
theorem dX1_read_38 : decode cX1_read 38 = .ok (.getfield 11, 3) := by decide +kernel
theorem dX1_read_41 : decode cX1_read 41 = .ok (.iload_n 3, 1) := by decide +kernel
theorem dX1_read_42 : decode cX1_read 42 = .ok (.iaload, 1) := by decide +kernel
theorem dX1_read_43 : decode cX1_read 43 = .ok (.aload_n 0, 1) := by decide +kernel
theorem dX1_read_44 : decode cX1_read 44 = .ok (.getfield 11, 3) := by decide +kernel
theorem dX1_read_47 : decode cX1_read 47 = .ok (.iload_n 2, 1) := by decide +kernel
theorem dX1_read_48 : decode cX1_read 48 = .ok (.iaload, 1) := by decide +kernel
theorem dX1_read_49 : decode cX1_read 49 = .ok (.isub, 1) := by decide +kernel
theorem dX1_read_50 : decode cX1_read 50 = .ok (.iconst 1, 1) := by decide +kernel
theorem dX1_read_51 : decode cX1_read 51 = .ok (.isub, 1) := by decide +kernel
theorem dX1_read_52 : decode cX1_read 52 = .ok (.aload_n 0, 1) := by decide +kernel
theorem dX1_read_53 : decode cX1_read 53 = .ok (.getfield 18, 3) := by decide +kernel
theorem dX1_read_56 : decode cX1_read 56 = .ok (.iload_n 2, 1) := by decide +kernel
theorem dX1_read_57 : decode cX1_read 57 = .ok (.iaload, 1) := by decide +kernel
theorem dX1_read_58 : decode cX1_read 58 = .ok (.iconst 2, 1) := by decide +kernel
theorem dX1_read_59 : decode cX1_read 59 = .ok (.if_icmp .ne 17, 3) := by decide +kernel
theorem dX1_read_62 : decode cX1_read 62 = .ok (.aload_n 0, 1) := by decide +kernel
theorem dX1_read_63 : decode cX1_read 63 = .ok (.getfield 18, 3) := by decide +kernel
theorem dX1_read_66 : decode cX1_read 66 = .ok (.iload_n 3, 1) := by decide +kernel
theorem dX1_read_67 : decode cX1_read 67 = .ok (.iaload, 1) := by decide +kernel
theorem dX1_read_68 : decode cX1_read 68 = .ok (.iconst 2, 1) := by decide +kernel
theorem dX1_read_69 : decode cX1_read 69 = .ok (.if_icmp .ne 7, 3) := by decide +kernel
theorem dX1_read_72 : decode cX1_read 72 = .ok (.iconst 1, 1) := by decide +kernel
theorem dX1_read_73 : decode cX1_read 73 = .ok (.goto 4, 3) := by decide +kernel
theorem dX1_read_76 : decode cX1_read 76 = .ok (.iconst 0, 1) := by decide +kernel
theorem dX1_read_77 : decode cX1_read 77 = .ok (.invokevirtual 28, 3) := by decide +kernel
theorem dX1_read_80 : decode cX1_read 80 = .ok (.aload_n 0, 1) := by decide +kernel
theorem dX1_read_81 : decode cX1_read 81 = .ok (.aload_n 0, 1) := by decide +kernel
theorem dX1_read_82 : decode cX1_read 82 = .ok (.getfield 18, 3) := by decide +kernel
theorem dX1_read_85 : decode cX1_read 85 = .ok (.iload_n 3, 1) := by decide +kernel
theorem dX1_read_86 : decode cX1_read 86 = .ok (.iaload, 1) := by decide +kernel
theorem dX1_read_87 : decode cX1_read 87 = .ok (.iconst 2, 1) := by decide +kernel
theorem dX1_read_88 : decode cX1_read 88 = .ok (.if_icmp .ne 7, 3) := by decide +kernel
theorem dX1_read_91 : decode cX1_read 91 = .ok (.iconst 1, 1) := by decide +kernel
theorem dX1_read_92 : decode cX1_read 92 = .ok (.goto 4, 3) := by decide +kernel
theorem dX1_read_95 : decode cX1_read 95 = .ok (.iconst 0, 1) := by decide +kernel
theorem dX1_read_96 : decode cX1_read 96 = .ok (.invokevirtual 32, 3) := by decide +kernel
theorem dX1_read_99 : decode cX1_read 99 = .ok (.iload_n 3, 1) := by decide +kernel
theorem dX1_read_100 : decode cX1_read 100 = .ok (.istore_n 2, 1) := by decide +kernel
theorem dX1_read_101 : decode cX1_read 101 = .ok (.iinc 3 1, 3) := by decide +kernel
theorem dX1_read_104 : decode cX1_read 104 = .ok (.goto (-95), 3) := by decide +kernel
theorem dX1_read_107 : decode cX1_read 107 = .ok (.return_, 1) := by decide +kernel
theorem dX1_forgetReading_0 : decode cX1_forgetReading 0 = .ok (.aload_n 0, 1) := by decide +kernel
theorem dX1_forgetReading_1 : decode cX1_forgetReading 1 = .ok (.iconst 0, 1) := by decide +kernel
theorem dX1_forgetReading_2 : decode cX1_forgetReading 2 = .ok (.putfield 36, 3) := by decide +kernel
theorem dX1_forgetReading_5 : decode cX1_forgetReading 5 = .ok (.aload_n 0, 1) := by decide +kernel
theorem dX1_forgetReading_6 : decode cX1_forgetReading 6 = .ok (.iconst 0, 1) := by decide +kernel
theorem dX1_forgetReading_7 : decode cX1_forgetReading 7 = .ok (.putfield 39, 3) := by decide +kernel
theorem dX1_forgetReading_10 : decode cX1_forgetReading 10 = .ok (.aload_n 0, 1) := by decide +kernel
theorem dX1_forgetReading_11 : decode cX1_forgetReading 11 = .ok (.iconst 0, 1) := by decide +kernel
theorem dX1_forgetReading_12 : decode cX1_forgetReading 12 = .ok (.putfield 42, 3) := by decide +kernel
theorem dX1_forgetReading_15 : decode cX1_forgetReading 15 = .ok (.aload_n 0, 1) := by decide +kernel
theorem dX1_forgetReading_16 : decode cX1_forgetReading 16 = .ok (.iconst 0, 1) := by decide +kernel
theorem dX1_forgetReading_17 : decode cX1_forgetReading 17 = .ok (.putfield 45, 3) := by decide +kernel
theorem dX1_forgetReading_20 : decode cX1_forgetReading 20 = .ok (.aload_n 0, 1) := by decide +kernel
theorem dX1_forgetReading_21 : decode cX1_forgetReading 21 = .ok (.iconst 0, 1) := by decide +kernel
theorem dX1_forgetReading_22 : decode cX1_forgetReading 22 = .ok (.putfield 48, 3) := by decide +kernel
theorem dX1_forgetReading_25 : decode cX1_forgetReading 25 = .ok (.aload_n 0, 1) := by decide +kernel
theorem dX1_forgetReading_26 : decode cX1_forgetReading 26 = .ok (.iconst 0, 1) := by decide +kernel
theorem dX1_forgetReading_27 : decode cX1_forgetReading 27 = .ok (.putfield 51, 3) := by decide +kernel
theorem dX1_forgetReading_30 : decode cX1_forgetReading 30 = .ok (.aload_n 0, 1) := by decide +kernel
theorem dX1_forgetReading_31 : decode cX1_forgetReading 31 = .ok (.iconst 0, 1) := by decide +kernel
theorem dX1_forgetReading_32 : decode cX1_forgetReading 32 = .ok (.putfield 54, 3) := by decide +kernel
theorem dX1_forgetReading_35 : decode cX1_forgetReading 35 = .ok (.return_, 1) := by decide +kernel
set_option maxRecDepth 20000 in
theorem ggX1_readGap_X1_addSure : GoodIn wsX1_readGap wsX1_addSure := goodIn_r _ [5, 6, 7, 8, 9, 10, 11, 12, 13, 14, 15, 4, 16, 17, 18, 24, 25, 26, 27, 28, 29, 30, 31, 32, 33, 34] (by decide +kernel) (by decide +kernel)
set_option maxRecDepth 20000 in
theorem gX1_readGap_X1_addSure : GoodIn wsX1_readGap (wsV RX1 57 RX1 yX1_addSure wsX1_addSure) := goodIn_app (goodIn_of _ (by decide +kernel)) ggX1_readGap_X1_addSure
set_option maxRecDepth 20000 in
theorem ggX1_readGap_X1_addDark : GoodIn wsX1_readGap wsX1_addDark := goodIn_r _ [22, 23, 7, 13, 14, 15, 4, 16, 17, 18, 9, 10, 11, 12, 24, 25, 26, 27, 28, 29, 30, 31, 32, 33, 34] (by decide +kernel) (by decide +kernel)
set_option maxRecDepth 20000 in
theorem gX1_readGap_X1_addDark : GoodIn wsX1_readGap (wsV RX1 61 RX1 yX1_addDark wsX1_addDark) := goodIn_app (goodIn_of _ (by decide +kernel)) ggX1_readGap_X1_addDark
theorem dX1_readGap_0 : decode cX1_readGap 0 = .ok (.iload_n 2, 1) := by decide +kernel
theorem dX1_readGap_1 : decode cX1_readGap 1 = .ok (.ifCond .eq 11, 3) := by decide +kernel
theorem dX1_readGap_4 : decode cX1_readGap 4 = .ok (.aload_n 0, 1) := by decide +kernel
theorem dX1_readGap_5 : decode cX1_readGap 5 = .ok (.iload_n 1, 1) := by decide +kernel
theorem dX1_readGap_6 : decode cX1_readGap 6 = .ok (.invokevirtual 57, 3) := by decide +kernel
theorem dX1_readGap_9 : decode cX1_readGap 9 = .ok (.goto 8, 3) := by decide +kernel
theorem dX1_readGap_12 : decode cX1_readGap 12 = .ok (.aload_n 0, 1) := by decide +kernel
theorem dX1_readGap_13 : decode cX1_readGap 13 = .ok (.iload_n 1, 1) := by decide +kernel
theorem dX1_readGap_14 : decode cX1_readGap 14 = .ok (.invokevirtual 61, 3) := by decide +kernel
theorem dX1_readGap_17 : decode cX1_readGap 17 = .ok (.return_, 1) := by decide +kernel
set_option maxRecDepth 20000 in
theorem ggX1_readEntry_X1_addSure : GoodIn wsX1_readEntry wsX1_addSure := goodIn_r _ [8, 9, 2, 10, 11, 12, 13, 14, 15, 16, 17, 7, 18, 3, 19, 20, 21, 22, 23, 24, 25, 26, 27, 28, 29, 30] (by decide +kernel) (by decide +kernel)
set_option maxRecDepth 20000 in
theorem gX1_readEntry_X1_addSure : GoodIn wsX1_readEntry (wsV RX1 57 RX1 yX1_addSure wsX1_addSure) := goodIn_app (goodIn_of _ (by decide +kernel)) ggX1_readEntry_X1_addSure
theorem dX1_readEntry_0 : decode cX1_readEntry 0 = .ok (.aload_n 0, 1) := by decide +kernel
theorem dX1_readEntry_1 : decode cX1_readEntry 1 = .ok (.dup, 1) := by decide +kernel
theorem dX1_readEntry_2 : decode cX1_readEntry 2 = .ok (.getfield 36, 3) := by decide +kernel
theorem dX1_readEntry_5 : decode cX1_readEntry 5 = .ok (.iconst 1, 1) := by decide +kernel
theorem dX1_readEntry_6 : decode cX1_readEntry 6 = .ok (.iadd, 1) := by decide +kernel
theorem dX1_readEntry_7 : decode cX1_readEntry 7 = .ok (.putfield 36, 3) := by decide +kernel
theorem dX1_readEntry_10 : decode cX1_readEntry 10 = .ok (.iload_n 1, 1) := by decide +kernel
theorem dX1_readEntry_11 : decode cX1_readEntry 11 = .ok (.ifCond .eq 11, 3) := by decide +kernel
theorem dX1_readEntry_14 : decode cX1_readEntry 14 = .ok (.aload_n 0, 1) := by decide +kernel
theorem dX1_readEntry_15 : decode cX1_readEntry 15 = .ok (.iconst 1, 1) := by decide +kernel
theorem dX1_readEntry_16 : decode cX1_readEntry 16 = .ok (.invokevirtual 57, 3) := by decide +kernel
theorem dX1_readEntry_19 : decode cX1_readEntry 19 = .ok (.goto 13, 3) := by decide +kernel
theorem dX1_readEntry_22 : decode cX1_readEntry 22 = .ok (.aload_n 0, 1) := by decide +kernel
theorem dX1_readEntry_23 : decode cX1_readEntry 23 = .ok (.iconst 0, 1) := by decide +kernel
theorem dX1_readEntry_24 : decode cX1_readEntry 24 = .ok (.putfield 51, 3) := by decide +kernel
theorem dX1_readEntry_27 : decode cX1_readEntry 27 = .ok (.aload_n 0, 1) := by decide +kernel
theorem dX1_readEntry_28 : decode cX1_readEntry 28 = .ok (.iconst 0, 1) := by decide +kernel
theorem dX1_readEntry_29 : decode cX1_readEntry 29 = .ok (.putfield 54, 3) := by decide +kernel
theorem dX1_readEntry_32 : decode cX1_readEntry 32 = .ok (.return_, 1) := by decide +kernel
set_option maxRecDepth 20000 in
theorem ggX1_addSure_X1_growMaybe : GoodIn wsX1_addSure wsX1_growMaybe := goodIn_r _ [12, 13, 14, 4, 5, 6, 7, 15, 16, 17, 18, 19, 20, 21, 22, 23, 24, 25] (by decide +kernel) (by decide +kernel)
set_option maxRecDepth 20000 in
theorem gX1_addSure_X1_growMaybe : GoodIn wsX1_addSure (wsV RX1 70 RX1 yX1_growMaybe wsX1_growMaybe) := goodIn_app (goodIn_of _ (by decide +kernel)) ggX1_addSure_X1_growMaybe
theorem dX1_addSure_0 : decode cX1_addSure 0 = .ok (.aload_n 0, 1) := by decide +kernel
theorem dX1_addSure_1 : decode cX1_addSure 1 = .ok (.dup, 1) := by decide +kernel
theorem dX1_addSure_2 : decode cX1_addSure 2 = .ok (.getfield 39, 3) := by decide +kernel
theorem dX1_addSure_5 : decode cX1_addSure 5 = .ok (.iload_n 1, 1) := by decide +kernel
theorem dX1_addSure_6 : decode cX1_addSure 6 = .ok (.iadd, 1) := by decide +kernel
theorem dX1_addSure_7 : decode cX1_addSure 7 = .ok (.putfield 39, 3) := by decide +kernel
theorem dX1_addSure_10 : decode cX1_addSure 10 = .ok (.aload_n 0, 1) := by decide +kernel
theorem dX1_addSure_11 : decode cX1_addSure 11 = .ok (.dup, 1) := by decide +kernel
theorem dX1_addSure_12 : decode cX1_addSure 12 = .ok (.getfield 51, 3) := by decide +kernel
theorem dX1_addSure_15 : decode cX1_addSure 15 = .ok (.iload_n 1, 1) := by decide +kernel
theorem dX1_addSure_16 : decode cX1_addSure 16 = .ok (.iadd, 1) := by decide +kernel
theorem dX1_addSure_17 : decode cX1_addSure 17 = .ok (.putfield 51, 3) := by decide +kernel
theorem dX1_addSure_20 : decode cX1_addSure 20 = .ok (.aload_n 0, 1) := by decide +kernel
theorem dX1_addSure_21 : decode cX1_addSure 21 = .ok (.aload_n 0, 1) := by decide +kernel
theorem dX1_addSure_22 : decode cX1_addSure 22 = .ok (.getfield 45, 3) := by decide +kernel
theorem dX1_addSure_25 : decode cX1_addSure 25 = .ok (.aload_n 0, 1) := by decide +kernel
theorem dX1_addSure_26 : decode cX1_addSure 26 = .ok (.getfield 51, 3) := by decide +kernel
theorem dX1_addSure_29 : decode cX1_addSure 29 = .ok (.invokestatic 64, 3) := by decide +kernel
theorem dX1_addSure_32 : decode cX1_addSure 32 = .ok (.putfield 45, 3) := by decide +kernel
theorem dX1_addSure_35 : decode cX1_addSure 35 = .ok (.aload_n 0, 1) := by decide +kernel
theorem dX1_addSure_36 : decode cX1_addSure 36 = .ok (.iload_n 1, 1) := by decide +kernel
theorem dX1_addSure_37 : decode cX1_addSure 37 = .ok (.invokevirtual 70, 3) := by decide +kernel
theorem dX1_addSure_40 : decode cX1_addSure 40 = .ok (.return_, 1) := by decide +kernel
set_option maxRecDepth 20000 in
theorem ggX1_addDark_X1_growMaybe : GoodIn wsX1_addDark wsX1_growMaybe := goodIn_r _ [7, 8, 9, 10, 11, 12, 13, 14, 15, 16, 17, 18, 19, 20, 21, 22, 23, 24] (by decide +kernel) (by decide +kernel)
set_option maxRecDepth 20000 in
theorem gX1_addDark_X1_growMaybe : GoodIn wsX1_addDark (wsV RX1 70 RX1 yX1_growMaybe wsX1_growMaybe) := goodIn_app (goodIn_of _ (by decide +kernel)) ggX1_addDark_X1_growMaybe
theorem dX1_addDark_0 : decode cX1_addDark 0 = .ok (.aload_n 0, 1) := by decide +kernel
theorem dX1_addDark_1 : decode cX1_addDark 1 = .ok (.dup, 1) := by decide +kernel
theorem dX1_addDark_2 : decode cX1_addDark 2 = .ok (.getfield 42, 3) := by decide +kernel
theorem dX1_addDark_5 : decode cX1_addDark 5 = .ok (.iload_n 1, 1) := by decide +kernel
theorem dX1_addDark_6 : decode cX1_addDark 6 = .ok (.iadd, 1) := by decide +kernel
theorem dX1_addDark_7 : decode cX1_addDark 7 = .ok (.putfield 42, 3) := by decide +kernel
theorem dX1_addDark_10 : decode cX1_addDark 10 = .ok (.aload_n 0, 1) := by decide +kernel
theorem dX1_addDark_11 : decode cX1_addDark 11 = .ok (.iconst 0, 1) := by decide +kernel
theorem dX1_addDark_12 : decode cX1_addDark 12 = .ok (.putfield 51, 3) := by decide +kernel
theorem dX1_addDark_15 : decode cX1_addDark 15 = .ok (.aload_n 0, 1) := by decide +kernel
theorem dX1_addDark_16 : decode cX1_addDark 16 = .ok (.iload_n 1, 1) := by decide +kernel
theorem dX1_addDark_17 : decode cX1_addDark 17 = .ok (.invokevirtual 70, 3) := by decide +kernel
theorem dX1_addDark_20 : decode cX1_addDark 20 = .ok (.return_, 1) := by decide +kernel
theorem dX1_growMaybe_0 : decode cX1_growMaybe 0 = .ok (.aload_n 0, 1) := by decide +kernel
theorem dX1_growMaybe_1 : decode cX1_growMaybe 1 = .ok (.dup, 1) := by decide +kernel
theorem dX1_growMaybe_2 : decode cX1_growMaybe 2 = .ok (.getfield 54, 3) := by decide +kernel
theorem dX1_growMaybe_5 : decode cX1_growMaybe 5 = .ok (.iload_n 1, 1) := by decide +kernel
theorem dX1_growMaybe_6 : decode cX1_growMaybe 6 = .ok (.iadd, 1) := by decide +kernel
theorem dX1_growMaybe_7 : decode cX1_growMaybe 7 = .ok (.putfield 54, 3) := by decide +kernel
theorem dX1_growMaybe_10 : decode cX1_growMaybe 10 = .ok (.aload_n 0, 1) := by decide +kernel
theorem dX1_growMaybe_11 : decode cX1_growMaybe 11 = .ok (.aload_n 0, 1) := by decide +kernel
theorem dX1_growMaybe_12 : decode cX1_growMaybe 12 = .ok (.getfield 48, 3) := by decide +kernel
theorem dX1_growMaybe_15 : decode cX1_growMaybe 15 = .ok (.aload_n 0, 1) := by decide +kernel
theorem dX1_growMaybe_16 : decode cX1_growMaybe 16 = .ok (.getfield 54, 3) := by decide +kernel
theorem dX1_growMaybe_19 : decode cX1_growMaybe 19 = .ok (.invokestatic 64, 3) := by decide +kernel
theorem dX1_growMaybe_22 : decode cX1_growMaybe 22 = .ok (.putfield 48, 3) := by decide +kernel
theorem dX1_growMaybe_25 : decode cX1_growMaybe 25 = .ok (.return_, 1) := by decide +kernel
theorem dX1_verdict_0 : decode cX1_verdict 0 = .ok (.aload_n 0, 1) := by decide +kernel
theorem dX1_verdict_1 : decode cX1_verdict 1 = .ok (.getfield 45, 3) := by decide +kernel
theorem dX1_verdict_4 : decode cX1_verdict 4 = .ok (.iload_n 1, 1) := by decide +kernel
theorem dX1_verdict_5 : decode cX1_verdict 5 = .ok (.if_icmp .le 5, 3) := by decide +kernel
theorem dX1_verdict_8 : decode cX1_verdict 8 = .ok (.iconst 2, 1) := by decide +kernel
theorem dX1_verdict_9 : decode cX1_verdict 9 = .ok (.ireturn, 1) := by decide +kernel
theorem dX1_verdict_10 : decode cX1_verdict 10 = .ok (.aload_n 0, 1) := by decide +kernel
theorem dX1_verdict_11 : decode cX1_verdict 11 = .ok (.getfield 48, 3) := by decide +kernel
theorem dX1_verdict_14 : decode cX1_verdict 14 = .ok (.iload_n 1, 1) := by decide +kernel
theorem dX1_verdict_15 : decode cX1_verdict 15 = .ok (.if_icmp .le 7, 3) := by decide +kernel
theorem dX1_verdict_18 : decode cX1_verdict 18 = .ok (.iconst 1, 1) := by decide +kernel
theorem dX1_verdict_19 : decode cX1_verdict 19 = .ok (.goto 4, 3) := by decide +kernel
theorem dX1_verdict_22 : decode cX1_verdict 22 = .ok (.iconst 0, 1) := by decide +kernel
theorem dX1_verdict_23 : decode cX1_verdict 23 = .ok (.ireturn, 1) := by decide +kernel
theorem dX2_init_0 : decode cX2_init 0 = .ok (.aload_n 0, 1) := by decide +kernel
theorem dX2_init_1 : decode cX2_init 1 = .ok (.invokespecial 3, 3) := by decide +kernel
theorem dX2_init_4 : decode cX2_init 4 = .ok (.aload_n 0, 1) := by decide +kernel
theorem dX2_init_5 : decode cX2_init 5 = .ok (.bipush 6, 2) := by decide +kernel
theorem dX2_init_7 : decode cX2_init 7 = .ok (.newarray .int, 2) := by decide +kernel
theorem dX2_init_9 : decode cX2_init 9 = .ok (.putfield 9, 3) := by decide +kernel
theorem dX2_init_12 : decode cX2_init 12 = .ok (.aload_n 0, 1) := by decide +kernel
theorem dX2_init_13 : decode cX2_init 13 = .ok (.bipush 6, 2) := by decide +kernel
theorem dX2_init_15 : decode cX2_init 15 = .ok (.newarray .int, 2) := by decide +kernel
theorem dX2_init_17 : decode cX2_init 17 = .ok (.putfield 15, 3) := by decide +kernel
theorem dX2_init_20 : decode cX2_init 20 = .ok (.aload_n 0, 1) := by decide +kernel
theorem dX2_init_21 : decode cX2_init 21 = .ok (.bipush 6, 2) := by decide +kernel
theorem dX2_init_23 : decode cX2_init 23 = .ok (.newarray .int, 2) := by decide +kernel
theorem dX2_init_25 : decode cX2_init 25 = .ok (.putfield 18, 3) := by decide +kernel
theorem dX2_init_28 : decode cX2_init 28 = .ok (.aload_n 0, 1) := by decide +kernel
theorem dX2_init_29 : decode cX2_init 29 = .ok (.bipush 6, 2) := by decide +kernel
theorem dX2_init_31 : decode cX2_init 31 = .ok (.newarray .int, 2) := by decide +kernel
theorem dX2_init_33 : decode cX2_init 33 = .ok (.putfield 21, 3) := by decide +kernel
theorem dX2_init_36 : decode cX2_init 36 = .ok (.aload_n 0, 1) := by decide +kernel
theorem dX2_init_37 : decode cX2_init 37 = .ok (.bipush 6, 2) := by decide +kernel
theorem dX2_init_39 : decode cX2_init 39 = .ok (.newarray .int, 2) := by decide +kernel
theorem dX2_init_41 : decode cX2_init 41 = .ok (.putfield 24, 3) := by decide +kernel
theorem dX2_init_44 : decode cX2_init 44 = .ok (.aload_n 0, 1) := by decide +kernel
theorem dX2_init_45 : decode cX2_init 45 = .ok (.iconst 3, 1) := by decide +kernel
theorem dX2_init_46 : decode cX2_init 46 = .ok (.newarray .int, 2) := by decide +kernel
theorem dX2_init_48 : decode cX2_init 48 = .ok (.putfield 27, 3) := by decide +kernel
theorem dX2_init_51 : decode cX2_init 51 = .ok (.iconst 0, 1) := by decide +kernel
theorem dX2_init_52 : decode cX2_init 52 = .ok (.istore_n 1, 1) := by decide +kernel
theorem dX2_init_53 : decode cX2_init 53 = .ok (.iload_n 1, 1) := by decide +kernel
theorem dX2_init_54 : decode cX2_init 54 = .ok (.bipush 6, 2) := by decide +kernel
theorem dX2_init_56 : decode cX2_init 56 = .ok (.if_icmp .ge 33, 3) := by decide +kernel
theorem dX2_init_59 : decode cX2_init 59 = .ok (.aload_n 0, 1) := by decide +kernel
theorem dX2_init_60 : decode cX2_init 60 = .ok (.getfield 15, 3) := by decide +kernel
theorem dX2_init_63 : decode cX2_init 63 = .ok (.iload_n 1, 1) := by decide +kernel
theorem dX2_init_64 : decode cX2_init 64 = .ok (.bipush (-6), 2) := by decide +kernel
theorem dX2_init_66 : decode cX2_init 66 = .ok (.iastore, 1) := by decide +kernel
theorem dX2_init_67 : decode cX2_init 67 = .ok (.aload_n 0, 1) := by decide +kernel
theorem dX2_init_68 : decode cX2_init 68 = .ok (.getfield 18, 3) := by decide +kernel
theorem dX2_init_71 : decode cX2_init 71 = .ok (.iload_n 1, 1) := by decide +kernel
theorem dX2_init_72 : decode cX2_init 72 = .ok (.bipush (-6), 2) := by decide +kernel
theorem dX2_init_74 : decode cX2_init 74 = .ok (.iastore, 1) := by decide +kernel
theorem dX2_init_75 : decode cX2_init 75 = .ok (.aload_n 0, 1) := by decide +kernel
theorem dX2_init_76 : decode cX2_init 76 = .ok (.getfield 24, 3) := by decide +kernel
theorem dX2_init_79 : decode cX2_init 79 = .ok (.iload_n 1, 1) := by decide +kernel
theorem dX2_init_80 : decode cX2_init 80 = .ok (.bipush (-6), 2) := by decide +kernel
theorem dX2_init_82 : decode cX2_init 82 = .ok (.iastore, 1) := by decide +kernel
theorem dX2_init_83 : decode cX2_init 83 = .ok (.iinc 1 1, 3) := by decide +kernel
theorem dX2_init_86 : decode cX2_init 86 = .ok (.goto (-33), 3) := by decide +kernel
theorem dX2_init_89 : decode cX2_init 89 = .ok (.iconst 0, 1) := by decide +kernel
theorem dX2_init_90 : decode cX2_init 90 = .ok (.istore_n 1, 1) := by decide +kernel
theorem dX2_init_91 : decode cX2_init 91 = .ok (.iload_n 1, 1) := by decide +kernel
theorem dX2_init_92 : decode cX2_init 92 = .ok (.iconst 3, 1) := by decide +kernel
theorem dX2_init_93 : decode cX2_init 93 = .ok (.if_icmp .ge 16, 3) := by decide +kernel
theorem dX2_init_96 : decode cX2_init 96 = .ok (.aload_n 0, 1) := by decide +kernel
theorem dX2_init_97 : decode cX2_init 97 = .ok (.getfield 27, 3) := by decide +kernel
theorem dX2_init_100 : decode cX2_init 100 = .ok (.iload_n 1, 1) := by decide +kernel
theorem dX2_init_101 : decode cX2_init 101 = .ok (.iconst 4, 1) := by decide +kernel
theorem dX2_init_102 : decode cX2_init 102 = .ok (.iastore, 1) := by decide +kernel
theorem dX2_init_103 : decode cX2_init 103 = .ok (.iinc 1 1, 3) := by decide +kernel
theorem dX2_init_106 : decode cX2_init 106 = .ok (.goto (-15), 3) := by decide +kernel
theorem dX2_init_109 : decode cX2_init 109 = .ok (.aload_n 0, 1) := by decide +kernel
theorem dX2_init_110 : decode cX2_init 110 = .ok (.bipush 10, 2) := by decide +kernel
theorem dX2_init_112 : decode cX2_init 112 = .ok (.putfield 30, 3) := by decide +kernel
theorem dX2_init_115 : decode cX2_init 115 = .ok (.aload_n 0, 1) := by decide +kernel
theorem dX2_init_116 : decode cX2_init 116 = .ok (.bipush 24, 2) := by decide +kernel
theorem dX2_init_118 : decode cX2_init 118 = .ok (.putfield 34, 3) := by decide +kernel
theorem dX2_init_121 : decode cX2_init 121 = .ok (.return_, 1) := by decide +kernel
theorem dX2_countBelow_0 : decode cX2_countBelow 0 = .ok (.iconst 0, 1) := by decide +kernel
theorem dX2_countBelow_1 : decode cX2_countBelow 1 = .ok (.istore_n 1, 1) := by decide +kernel
theorem dX2_countBelow_2 : decode cX2_countBelow 2 = .ok (.iconst 0, 1) := by decide +kernel
theorem dX2_countBelow_3 : decode cX2_countBelow 3 = .ok (.istore_n 2, 1) := by decide +kernel
theorem dX2_countBelow_4 : decode cX2_countBelow 4 = .ok (.iload_n 2, 1) := by decide +kernel
theorem dX2_countBelow_5 : decode cX2_countBelow 5 = .ok (.bipush 6, 2) := by decide +kernel
theorem dX2_countBelow_7 : decode cX2_countBelow 7 = .ok (.if_icmp .ge 21, 3) := by decide +kernel
theorem dX2_countBelow_10 : decode cX2_countBelow 10 = .ok (.aload_n 0, 1) := by decide +kernel
theorem dX2_countBelow_11 : decode cX2_countBelow 11 = .ok (.getfield 9, 3) := by decide +kernel
theorem dX2_countBelow_14 : decode cX2_countBelow 14 = .ok (.iload_n 2, 1) := by decide +kernel
theorem dX2_countBelow_15 : decode cX2_countBelow 15 = .ok (.iaload, 1) := by decide +kernel
theorem dX2_countBelow_16 : decode cX2_countBelow 16 = .ok (.ifCond .eq 6, 3) := by decide +kernel
theorem dX2_countBelow_19 : decode cX2_countBelow 19 = .ok (.iinc 1 1, 3) := by decide +kernel
theorem dX2_countBelow_22 : decode cX2_countBelow 22 = .ok (.iinc 2 1, 3) := by decide +kernel
theorem dX2_countBelow_25 : decode cX2_countBelow 25 = .ok (.goto (-21), 3) := by decide +kernel
theorem dX2_countBelow_28 : decode cX2_countBelow 28 = .ok (.iload_n 1, 1) := by decide +kernel
theorem dX2_countBelow_29 : decode cX2_countBelow 29 = .ok (.ireturn, 1) := by decide +kernel
theorem dX2_anyOut_0 : decode cX2_anyOut 0 = .ok (.iconst 0, 1) := by decide +kernel
theorem dX2_anyOut_1 : decode cX2_anyOut 1 = .ok (.istore_n 1, 1) := by decide +kernel
theorem dX2_anyOut_2 : decode cX2_anyOut 2 = .ok (.iload_n 1, 1) := by decide +kernel
theorem dX2_anyOut_3 : decode cX2_anyOut 3 = .ok (.bipush 6, 2) := by decide +kernel
theorem dX2_anyOut_5 : decode cX2_anyOut 5 = .ok (.if_icmp .ge 21, 3) := by decide +kernel
theorem dX2_anyOut_8 : decode cX2_anyOut 8 = .ok (.aload_n 0, 1) := by decide +kernel
theorem dX2_anyOut_9 : decode cX2_anyOut 9 = .ok (.getfield 9, 3) := by decide +kernel
theorem dX2_anyOut_12 : decode cX2_anyOut 12 = .ok (.iload_n 1, 1) := by decide +kernel
theorem dX2_anyOut_13 : decode cX2_anyOut 13 = .ok (.iaload, 1) := by decide +kernel
theorem dX2_anyOut_14 : decode cX2_anyOut 14 = .ok (.iconst 2, 1) := by decide +kernel
theorem dX2_anyOut_15 : decode cX2_anyOut 15 = .ok (.if_icmp .ne 5, 3) := by decide +kernel
theorem dX2_anyOut_18 : decode cX2_anyOut 18 = .ok (.iconst 1, 1) := by decide +kernel
theorem dX2_anyOut_19 : decode cX2_anyOut 19 = .ok (.ireturn, 1) := by decide +kernel
theorem dX2_anyOut_20 : decode cX2_anyOut 20 = .ok (.iinc 1 1, 3) := by decide +kernel
theorem dX2_anyOut_23 : decode cX2_anyOut 23 = .ok (.goto (-21), 3) := by decide +kernel
theorem dX2_anyOut_26 : decode cX2_anyOut 26 = .ok (.iconst 0, 1) := by decide +kernel
theorem dX2_anyOut_27 : decode cX2_anyOut 27 = .ok (.ireturn, 1) := by decide +kernel
set_option maxRecDepth 20000 in
theorem ggX2_countOn_X2_othersOn : GoodIn wsX2_countOn wsX2_othersOn := goodIn_r _ [5, 6, 7, 8, 9, 10, 11, 12, 13, 14] (by decide +kernel) (by decide +kernel)
set_option maxRecDepth 20000 in
theorem gX2_countOn_X2_othersOn : GoodIn wsX2_countOn (wsV RX2 37 RX2 yX2_othersOn wsX2_othersOn) := goodIn_app (goodIn_of _ (by decide +kernel)) ggX2_countOn_X2_othersOn
theorem dX2_countOn_0 : decode cX2_countOn 0 = .ok (.aload_n 0, 1) := by decide +kernel
theorem dX2_countOn_1 : decode cX2_countOn 1 = .ok (.iload_n 1, 1) := by decide +kernel
theorem dX2_countOn_2 : decode cX2_countOn 2 = .ok (.bipush (-6), 2) := by decide +kernel
theorem dX2_countOn_4 : decode cX2_countOn 4 = .ok (.invokevirtual 37, 3) := by decide +kernel
theorem dX2_countOn_7 : decode cX2_countOn 7 = .ok (.ireturn, 1) := by decide +kernel
theorem dX2_othersOn_0 : decode cX2_othersOn 0 = .ok (.iconst 0, 1) := by decide +kernel
theorem dX2_othersOn_1 : decode cX2_othersOn 1 = .ok (.istore_n 3, 1) := by decide +kernel
theorem dX2_othersOn_2 : decode cX2_othersOn 2 = .ok (.iconst 0, 1) := by decide +kernel
theorem dX2_othersOn_3 : decode cX2_othersOn 3 = .ok (.istore 4, 2) := by decide +kernel
theorem dX2_othersOn_5 : decode cX2_othersOn 5 = .ok (.iload 4, 2) := by decide +kernel
theorem dX2_othersOn_7 : decode cX2_othersOn 7 = .ok (.bipush 6, 2) := by decide +kernel
theorem dX2_othersOn_9 : decode cX2_othersOn 9 = .ok (.if_icmp .ge 29, 3) := by decide +kernel
theorem dX2_othersOn_12 : decode cX2_othersOn 12 = .ok (.iload 4, 2) := by decide +kernel
theorem dX2_othersOn_14 : decode cX2_othersOn 14 = .ok (.iload_n 2, 1) := by decide +kernel
theorem dX2_othersOn_15 : decode cX2_othersOn 15 = .ok (.if_icmp .eq 17, 3) := by decide +kernel
theorem dX2_othersOn_18 : decode cX2_othersOn 18 = .ok (.aload_n 0, 1) := by decide +kernel
theorem dX2_othersOn_19 : decode cX2_othersOn 19 = .ok (.getfield 18, 3) := by decide +kernel
theorem dX2_othersOn_22 : decode cX2_othersOn 22 = .ok (.iload 4, 2) := by decide +kernel
theorem dX2_othersOn_24 : decode cX2_othersOn 24 = .ok (.iaload, 1) := by decide +kernel
theorem dX2_othersOn_25 : decode cX2_othersOn 25 = .ok (.iload_n 1, 1) := by decide +kernel
theorem dX2_othersOn_26 : decode cX2_othersOn 26 = .ok (.if_icmp .ne 6, 3) := by decide +kernel
theorem dX2_othersOn_29 : decode cX2_othersOn 29 = .ok (.iinc 3 1, 3) := by decide +kernel
theorem dX2_othersOn_32 : decode cX2_othersOn 32 = .ok (.iinc 4 1, 3) := by decide +kernel
theorem dX2_othersOn_35 : decode cX2_othersOn 35 = .ok (.goto (-30), 3) := by decide +kernel
theorem dX2_othersOn_38 : decode cX2_othersOn 38 = .ok (.iload_n 3, 1) := by decide +kernel
theorem dX2_othersOn_39 : decode cX2_othersOn 39 = .ok (.ireturn, 1) := by decide +kernel
theorem dX2_bring_0 : decode cX2_bring 0 = .ok (.aload_n 0, 1) := by decide +kernel
theorem dX2_bring_1 : decode cX2_bring 1 = .ok (.getfield 9, 3) := by decide +kernel
theorem dX2_bring_4 : decode cX2_bring 4 = .ok (.iload_n 1, 1) := by decide +kernel
theorem dX2_bring_5 : decode cX2_bring 5 = .ok (.iload_n 2, 1) := by decide +kernel
theorem dX2_bring_6 : decode cX2_bring 6 = .ok (.iastore, 1) := by decide +kernel
theorem dX2_bring_7 : decode cX2_bring 7 = .ok (.aload_n 0, 1) := by decide +kernel
theorem dX2_bring_8 : decode cX2_bring 8 = .ok (.getfield 15, 3) := by decide +kernel
theorem dX2_bring_11 : decode cX2_bring 11 = .ok (.iload_n 1, 1) := by decide +kernel
theorem dX2_bring_12 : decode cX2_bring 12 = .ok (.bipush (-6), 2) := by decide +kernel
theorem dX2_bring_14 : decode cX2_bring 14 = .ok (.iastore, 1) := by decide +kernel
theorem dX2_bring_15 : decode cX2_bring 15 = .ok (.aload_n 0, 1) := by decide +kernel
theorem dX2_bring_16 : decode cX2_bring 16 = .ok (.getfield 18, 3) := by decide +kernel
theorem dX2_bring_19 : decode cX2_bring 19 = .ok (.iload_n 1, 1) := by decide +kernel
theorem dX2_bring_20 : decode cX2_bring 20 = .ok (.bipush (-6), 2) := by decide +kernel
theorem dX2_bring_22 : decode cX2_bring 22 = .ok (.iastore, 1) := by decide +kernel
theorem dX2_bring_23 : decode cX2_bring 23 = .ok (.aload_n 0, 1) := by decide +kernel
theorem dX2_bring_24 : decode cX2_bring 24 = .ok (.getfield 21, 3) := by decide +kernel
theorem dX2_bring_27 : decode cX2_bring 27 = .ok (.iload_n 1, 1) := by decide +kernel
theorem dX2_bring_28 : decode cX2_bring 28 = .ok (.iconst 0, 1) := by decide +kernel
theorem dX2_bring_29 : decode cX2_bring 29 = .ok (.iastore, 1) := by decide +kernel
theorem dX2_bring_30 : decode cX2_bring 30 = .ok (.return_, 1) := by decide +kernel
theorem dX2_send_0 : decode cX2_send 0 = .ok (.aload_n 0, 1) := by decide +kernel
theorem dX2_send_1 : decode cX2_send 1 = .ok (.getfield 9, 3) := by decide +kernel
theorem dX2_send_4 : decode cX2_send 4 = .ok (.iload_n 1, 1) := by decide +kernel
theorem dX2_send_5 : decode cX2_send 5 = .ok (.iconst 2, 1) := by decide +kernel
theorem dX2_send_6 : decode cX2_send 6 = .ok (.iastore, 1) := by decide +kernel
theorem dX2_send_7 : decode cX2_send 7 = .ok (.aload_n 0, 1) := by decide +kernel
theorem dX2_send_8 : decode cX2_send 8 = .ok (.getfield 18, 3) := by decide +kernel
theorem dX2_send_11 : decode cX2_send 11 = .ok (.iload_n 1, 1) := by decide +kernel
theorem dX2_send_12 : decode cX2_send 12 = .ok (.iload_n 2, 1) := by decide +kernel
theorem dX2_send_13 : decode cX2_send 13 = .ok (.iastore, 1) := by decide +kernel
theorem dX2_send_14 : decode cX2_send 14 = .ok (.aload_n 0, 1) := by decide +kernel
theorem dX2_send_15 : decode cX2_send 15 = .ok (.getfield 15, 3) := by decide +kernel
theorem dX2_send_18 : decode cX2_send 18 = .ok (.iload_n 1, 1) := by decide +kernel
theorem dX2_send_19 : decode cX2_send 19 = .ok (.iload_n 3, 1) := by decide +kernel
theorem dX2_send_20 : decode cX2_send 20 = .ok (.iastore, 1) := by decide +kernel
theorem dX2_send_21 : decode cX2_send 21 = .ok (.return_, 1) := by decide +kernel
set_option maxRecDepth 20000 in
theorem ggX2_countMinuteOut_X2_countOn : GoodIn wsX2_countMinuteOut wsX2_countOn := goodIn_r _ [8, 9, 10, 11, 7, 12, 2, 13, 14, 15, 16, 17, 18, 19, 20] (by decide +kernel) (by decide +kernel)
set_option maxRecDepth 20000 in
theorem gX2_countMinuteOut_X2_countOn : GoodIn wsX2_countMinuteOut (wsV RX2 41 RX2 yX2_countOn wsX2_countOn) := goodIn_app (goodIn_of _ (by decide +kernel)) ggX2_countMinuteOut_X2_countOn
theorem dX2_countMinuteOut_0 : decode cX2_countMinuteOut 0 = .ok (.aload_n 0, 1) := by decide +kernel
theorem dX2_countMinuteOut_1 : decode cX2_countMinuteOut 1 = .ok (.getfield 21, 3) := by decide +kernel
theorem dX2_countMinuteOut_4 : decode cX2_countMinuteOut 4 = .ok (.iload_n 1, 1) := by decide +kernel
theorem dX2_countMinuteOut_5 : decode cX2_countMinuteOut 5 = .ok (.dup2, 1) := by decide +kernel
theorem dX2_countMinuteOut_6 : decode cX2_countMinuteOut 6 = .ok (.iaload, 1) := by decide +kernel
theorem dX2_countMinuteOut_7 : decode cX2_countMinuteOut 7 = .ok (.aload_n 0, 1) := by decide +kernel
theorem dX2_countMinuteOut_8 : decode cX2_countMinuteOut 8 = .ok (.aload_n 0, 1) := by decide +kernel
theorem dX2_countMinuteOut_9 : decode cX2_countMinuteOut 9 = .ok (.getfield 18, 3) := by decide +kernel
theorem dX2_countMinuteOut_12 : decode cX2_countMinuteOut 12 = .ok (.iload_n 1, 1) := by decide +kernel
theorem dX2_countMinuteOut_13 : decode cX2_countMinuteOut 13 = .ok (.iaload, 1) := by decide +kernel
theorem dX2_countMinuteOut_14 : decode cX2_countMinuteOut 14 = .ok (.invokevirtual 41, 3) := by decide +kernel
theorem dX2_countMinuteOut_17 : decode cX2_countMinuteOut 17 = .ok (.iconst 2, 1) := by decide +kernel
theorem dX2_countMinuteOut_18 : decode cX2_countMinuteOut 18 = .ok (.if_icmp .ne 7, 3) := by decide +kernel
theorem dX2_countMinuteOut_21 : decode cX2_countMinuteOut 21 = .ok (.iconst 2, 1) := by decide +kernel
theorem dX2_countMinuteOut_22 : decode cX2_countMinuteOut 22 = .ok (.goto 4, 3) := by decide +kernel
theorem dX2_countMinuteOut_25 : decode cX2_countMinuteOut 25 = .ok (.iconst 1, 1) := by decide +kernel
theorem dX2_countMinuteOut_26 : decode cX2_countMinuteOut 26 = .ok (.iadd, 1) := by decide +kernel
theorem dX2_countMinuteOut_27 : decode cX2_countMinuteOut 27 = .ok (.iastore, 1) := by decide +kernel
theorem dX2_countMinuteOut_28 : decode cX2_countMinuteOut 28 = .ok (.aload_n 0, 1) := by decide +kernel
theorem dX2_countMinuteOut_29 : decode cX2_countMinuteOut 29 = .ok (.getfield 21, 3) := by decide +kernel
theorem dX2_countMinuteOut_32 : decode cX2_countMinuteOut 32 = .ok (.iload_n 1, 1) := by decide +kernel
theorem dX2_countMinuteOut_33 : decode cX2_countMinuteOut 33 = .ok (.iaload, 1) := by decide +kernel
theorem dX2_countMinuteOut_34 : decode cX2_countMinuteOut 34 = .ok (.aload_n 0, 1) := by decide +kernel
theorem dX2_countMinuteOut_35 : decode cX2_countMinuteOut 35 = .ok (.getfield 30, 3) := by decide +kernel
theorem dX2_countMinuteOut_38 : decode cX2_countMinuteOut 38 = .ok (.if_icmp .le 7, 3) := by decide +kernel
theorem dX2_countMinuteOut_41 : decode cX2_countMinuteOut 41 = .ok (.iconst 1, 1) := by decide +kernel
theorem dX2_countMinuteOut_42 : decode cX2_countMinuteOut 42 = .ok (.goto 4, 3) := by decide +kernel
theorem dX2_countMinuteOut_45 : decode cX2_countMinuteOut 45 = .ok (.iconst 0, 1) := by decide +kernel
theorem dX2_countMinuteOut_46 : decode cX2_countMinuteOut 46 = .ok (.ireturn, 1) := by decide +kernel
