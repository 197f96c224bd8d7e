def wsX11_until_r2 : List Cond := [Cond.instanceMethod yX11_moves, Cond.selects RX11 yX11_moves yX11_moves, Cond.code yX11_moves cX11_moves 4 (some .int), Cond.methodLink RX11 191 yX11_goes, Cond.instanceMethod yX11_goes, Cond.selects RX11 yX11_goes yX11_goes, Cond.code yX11_goes cX11_goes 3 none, Cond.methodLink RX11 245 yX11_laysLoud, Cond.instanceMethod yX11_laysLoud, Cond.selects RX11 yX11_laysLoud yX11_laysLoud, Cond.code yX11_laysLoud cX11_laysLoud 3 none, Cond.fieldLink RX11 27 "StaggerRadarModel" "loud" "[I", Cond.methodLink RX11 227 yX11_rangeOf, Cond.instanceMethod yX11_rangeOf, Cond.selects RX11 yX11_rangeOf yX11_rangeOf, Cond.code yX11_rangeOf cX11_rangeOf 2 (some .int), Cond.methodLink RX11 185 yX11_gapAt, Cond.instanceMethod yX11_gapAt, Cond.selects RX11 yX11_gapAt yX11_gapAt, Cond.code yX11_gapAt cX11_gapAt 2 (some .int), Cond.methodLink RX11 230 yX11_isSeen, Cond.instanceMethod yX11_isSeen, Cond.selects RX11 yX11_isSeen yX11_isSeen, Cond.code yX11_isSeen cX11_isSeen 3 (some .boolean)]
def wsX11_until_r3 : List Cond := [Cond.methodLink RX11 215 yX11_isBlind, Cond.instanceMethod yX11_isBlind, Cond.selects RX11 yX11_isBlind yX11_isBlind, Cond.code yX11_isBlind cX11_isBlind 4 (some .boolean), Cond.methodLink RX11 212 yX11_rest, Cond.static yX11_rest, Cond.code yX11_rest cX11_rest 3 (some .int), Cond.methodLink RX11 239 yX11_isFound, Cond.instanceMethod yX11_isFound, Cond.selects RX11 yX11_isFound yX11_isFound, Cond.code yX11_isFound cX11_isFound 2 (some .boolean), Cond.methodLink RX11 236 yX11_hitBits, Cond.instanceMethod yX11_hitBits, Cond.selects RX11 yX11_hitBits yX11_hitBits, Cond.code yX11_hitBits cX11_hitBits 4 (some .int), Cond.methodLink RX11 233 yX11_isEcho, Cond.instanceMethod yX11_isEcho, Cond.selects RX11 yX11_isEcho yX11_isEcho, Cond.code yX11_isEcho cX11_isEcho 3 (some .boolean), Cond.methodLink RX11 221 yX11_ones, Cond.static yX11_ones, Cond.code yX11_ones cX11_ones 3 (some .int)]
def wsX11_until : List Cond := .code yX11_until cX11_until 6 (some .int) :: ((wsX11_until_r1 ++ (wsX11_until_r2 ++ wsX11_until_r3)) ++ wsX110)
def wsX11_copiesText : List Cond := .code yX11_copiesText cX11_copiesText 4 none :: ([.fieldLink RX11 13 "StaggerRadarModel" "text" "[B", .methodLink RX11 327 yX11_copies, .instanceMethod yX11_copies, .selects RX11 yX11_copies yX11_copies, .initialized RX11, .code yX11_copies cX11_copies 4 none, .fieldLink RX11 7 "StaggerRadarModel" "all" "[I"] ++ wsX110)
def wsX11_image : List Cond := .code yX11_image cX11_image 2 (some .boolean) :: ([.fieldLink RX11 66 "StaggerRadarModel" "raised" "I", .fieldLink RX11 17 "StaggerRadarModel" "saved" "[Z", .methodLink RX11 70 yX11_in, .static yX11_in, .initialized RX11, .code yX11_in cX11_in 3 (some .boolean), .methodLink RX11 333 yX11_copiesText, .instanceMethod yX11_copiesText, .selects RX11 yX11_copiesText yX11_copiesText, .code yX11_copiesText cX11_copiesText 4 none, .fieldLink RX11 13 "StaggerRadarModel" "text" "[B", .methodLink RX11 327 yX11_copies, .instanceMethod yX11_copies, .selects RX11 yX11_copies yX11_copies, .code yX11_copies cX11_copies 4 none, .fieldLink RX11 7 "StaggerRadarModel" "all" "[I"] ++ wsX110)
def wsX11_again : List Cond := .code yX11_again cX11_again 2 (some .boolean) :: ([.fieldLink RX11 66 "StaggerRadarModel" "raised" "I", .fieldLink RX11 17 "StaggerRadarModel" "saved" "[Z", .fieldLink RX11 176 "StaggerRadarModel" "undos" "I", .methodLink RX11 70 yX11_in, .static yX11_in, .initialized RX11, .code yX11_in cX11_in 3 (some .boolean), .methodLink RX11 333 yX11_copiesText, .instanceMethod yX11_copiesText, .selects RX11 yX11_copiesText yX11_copiesText, .code yX11_copiesText cX11_copiesText 4 none, .fieldLink RX11 13 "StaggerRadarModel" "text" "[B", .methodLink RX11 327 yX11_copies, .instanceMethod yX11_copies, .selects RX11 yX11_copies yX11_copies, .code yX11_copies cX11_copies 4 none, .fieldLink RX11 7 "StaggerRadarModel" "all" "[I"] ++ wsX110)
def wsJ9_max_7cf53 : List Cond := .code yJ9_max_7cf53 cJ9_max_7cf53 2 (some .int) :: ([])
def wsJ9_min_7cf53 : List Cond := .code yJ9_min_7cf53 cJ9_min_7cf53 2 (some .int) :: ([])
def wsL_gapOf_r1 : List Cond := [Cond.classLink RL 13 "java/util/NoSuchElementException", Cond.methodLink RL 7 yX10_gapOf, Cond.instanceMethod yX10_gapOf, Cond.selects RX10 yX10_gapOf yX10_gapOf, Cond.initialized RX10, Cond.code yX10_gapOf cX10_gapOf 4 (some .int), Cond.classLink RX10 235 "java/util/NoSuchElementException", Cond.initialized "java/util/NoSuchElementException", Cond.fieldLink RX10 10 "StaggerRadar" "radar" "LStaggerRadar$Radar;", Cond.fieldLink RX10 238 "StaggerRadar$Radar" "gaps" "[I", Cond.fieldLink RX10 55 "StaggerRadar" "echoes" "LStaggerRadar$Echoes;", Cond.methodLink RX10 232 yX5_hasGap, Cond.instanceMethod yX5_hasGap, Cond.selects RX5 yX5_hasGap yX5_hasGap, Cond.initialized RX5, Cond.code yX5_hasGap cX5_hasGap 2 (some .boolean), Cond.fieldLink RX5 45 "StaggerRadar$Radar" "gapCount" "I", Cond.methodLink RX10 142 yX10_isWithin, Cond.static yX10_isWithin, Cond.code yX10_isWithin cX10_isWithin 3 (some .boolean), Cond.methodLink RX10 184 yX3_listen, Cond.instanceMethod yX3_listen, Cond.selects RX3 yX3_listen yX3_listen, Cond.initialized RX3]
def wsL_gapOf_r2 : List Cond := [Cond.code yX3_listen cX3_listen 3 none, Cond.fieldLink RX3 27 "StaggerRadar$Radar" "gapCount" "I", Cond.fieldLink RX3 33 "StaggerRadar$Radar" "gaps" "[I", Cond.methodLink RX3 36 yX3_listenBy, Cond.instanceMethod yX3_listenBy, Cond.selects RX3 yX3_listenBy yX3_listenBy, Cond.code yX3_listenBy cX3_listenBy 7 none, Cond.fieldLink RX3 11 "StaggerRadar$Echoes" "targets" "[I", Cond.fieldLink RX3 15 "StaggerRadar$Echoes" "loud" "[I", Cond.fieldLink RX3 48 "StaggerRadar$Radar" "targetCount" "I", Cond.fieldLink RX3 63 "StaggerRadar$Radar" "strengths" "[I", Cond.static yX10_isGap, Cond.code yX10_isGap cX10_isGap 1 (some .boolean), Cond.methodLink RX3 51 yX5_sees, Cond.instanceMethod yX5_sees, Cond.selects RX5 yX5_sees yX5_sees, Cond.code yX5_sees cX5_sees 3 (some .boolean), Cond.fieldLink RX5 15 "StaggerRadar$Radar" "settings" "[I", Cond.fieldLink RX5 21 "StaggerRadar$Radar" "speeds" "[I", Cond.methodLink RX5 84 yX5_rangeOf, Cond.instanceMethod yX5_rangeOf, Cond.selects RX5 yX5_rangeOf yX5_rangeOf, Cond.code yX5_rangeOf cX5_rangeOf 2 (some .int), Cond.fieldLink RX5 18 "StaggerRadar$Radar" "spots" "[I"]
def wsL_gapOf_r3 : List Cond := [Cond.static yX10_rest, Cond.code yX10_rest cX10_rest 3 (some .int), Cond.methodLink RX5 91 yX5_hides, Cond.instanceMethod yX5_hides, Cond.selects RX5 yX5_hides yX5_hides, Cond.code yX5_hides cX5_hides 4 (some .boolean), Cond.methodLink RX3 55 yX5_rangeOf, Cond.methodLink RX10 241 yX3_countOfGap, Cond.instanceMethod yX3_countOfGap, Cond.selects RX3 yX3_countOfGap yX3_countOfGap, Cond.code yX3_countOfGap cX3_countOfGap 5 (some .int), Cond.methodLink RX3 69 yX3_isEcho, Cond.instanceMethod yX3_isEcho, Cond.selects RX3 yX3_isEcho yX3_isEcho, Cond.code yX3_isEcho cX3_isEcho 4 (some .boolean), Cond.fieldLink RX3 66 "StaggerRadar$Radar" "settings" "[I", Cond.methodLink RX10 245 yX5_targetsSeenBy, Cond.instanceMethod yX5_targetsSeenBy, Cond.selects RX5 yX5_targetsSeenBy yX5_targetsSeenBy, Cond.code yX5_targetsSeenBy cX5_targetsSeenBy 4 (some .int), Cond.fieldLink RX5 49 "StaggerRadar$Radar" "targetCount" "I", Cond.methodLink RX5 95 yX5_sees, Cond.methodLink RX10 248 yX7_countBlind, Cond.static yX7_countBlind]
def wsL_gapOf_r4 : List Cond := [Cond.initialized RX7, Cond.code yX7_countBlind cX7_countBlind 4 (some .int), Cond.fieldLink RX7 23 "StaggerRadar$Radar" "settings" "[I", Cond.methodLink RX7 19 yX5_hides]
def wsL_gapOf : List Cond := .codeWith yL_gapOf cL_gapOf 5 (some .int) [(0, 10, 13, 13)] :: ((wsL_gapOf_r1 ++ (wsL_gapOf_r2 ++ (wsL_gapOf_r3 ++ wsL_gapOf_r4))) ++ wsX100 ++ wsX50 ++ wsX30 ++ (vx_at0 RX10 237 "java/util/NoSuchElementException" ["java/lang/RuntimeException", "java/lang/Exception"]).filter goodWord)
def wsL_targetOf_r1 : List Cond := [Cond.classLink RL 13 "java/util/NoSuchElementException", Cond.methodLink RL 15 yX10_targetOf, Cond.instanceMethod yX10_targetOf, Cond.selects RX10 yX10_targetOf yX10_targetOf, Cond.initialized RX10, Cond.code yX10_targetOf cX10_targetOf 3 (some .int), Cond.classLink RX10 235 "java/util/NoSuchElementException", Cond.initialized "java/util/NoSuchElementException", Cond.fieldLink RX10 10 "StaggerRadar" "radar" "LStaggerRadar$Radar;", Cond.fieldLink RX10 254 "StaggerRadar$Radar" "spots" "[I", Cond.fieldLink RX10 257 "StaggerRadar$Radar" "speeds" "[I", Cond.fieldLink RX10 260 "StaggerRadar$Radar" "strengths" "[I", Cond.fieldLink RX10 55 "StaggerRadar" "echoes" "LStaggerRadar$Echoes;", Cond.methodLink RX10 165 yX5_hasTarget, Cond.instanceMethod yX5_hasTarget, Cond.selects RX5 yX5_hasTarget yX5_hasTarget, Cond.initialized RX5, Cond.code yX5_hasTarget cX5_hasTarget 2 (some .boolean), Cond.fieldLink RX5 49 "StaggerRadar$Radar" "targetCount" "I", Cond.methodLink RX10 142 yX10_isWithin, Cond.static yX10_isWithin, Cond.code yX10_isWithin cX10_isWithin 3 (some .boolean), Cond.methodLink RX10 251 yX5_rangeOf, Cond.instanceMethod yX5_rangeOf]
def wsL_targetOf_r2 : List Cond := [Cond.selects RX5 yX5_rangeOf yX5_rangeOf, Cond.code yX5_rangeOf cX5_rangeOf 2 (some .int), Cond.fieldLink RX5 18 "StaggerRadar$Radar" "spots" "[I", Cond.methodLink RX10 263 yX5_gapsThatSee, Cond.instanceMethod yX5_gapsThatSee, Cond.selects RX5 yX5_gapsThatSee yX5_gapsThatSee, Cond.code yX5_gapsThatSee cX5_gapsThatSee 4 (some .int), Cond.fieldLink RX5 45 "StaggerRadar$Radar" "gapCount" "I", Cond.fieldLink RX5 9 "StaggerRadar$Radar" "gaps" "[I", Cond.methodLink RX5 95 yX5_sees, Cond.instanceMethod yX5_sees, Cond.selects RX5 yX5_sees yX5_sees, Cond.code yX5_sees cX5_sees 3 (some .boolean), Cond.fieldLink RX5 15 "StaggerRadar$Radar" "settings" "[I", Cond.fieldLink RX5 21 "StaggerRadar$Radar" "speeds" "[I", Cond.methodLink RX5 84 yX5_rangeOf, Cond.static yX10_rest, Cond.code yX10_rest cX10_rest 3 (some .int), Cond.methodLink RX5 91 yX5_hides, Cond.instanceMethod yX5_hides, Cond.selects RX5 yX5_hides yX5_hides, Cond.code yX5_hides cX5_hides 4 (some .boolean), Cond.methodLink RX10 266 yX7_blindGaps, Cond.static yX7_blindGaps]
def wsL_targetOf_r3 : List Cond := [Cond.initialized RX7, Cond.code yX7_blindGaps cX7_blindGaps 4 (some .int), Cond.fieldLink RX7 9 "StaggerRadar$Radar" "gapCount" "I", Cond.fieldLink RX7 15 "StaggerRadar$Radar" "gaps" "[I", Cond.methodLink RX7 19 yX5_hides, Cond.methodLink RX10 184 yX3_listen, Cond.instanceMethod yX3_listen, Cond.selects RX3 yX3_listen yX3_listen, Cond.initialized RX3, Cond.code yX3_listen cX3_listen 3 none, Cond.fieldLink RX3 27 "StaggerRadar$Radar" "gapCount" "I", Cond.fieldLink RX3 33 "StaggerRadar$Radar" "gaps" "[I", Cond.methodLink RX3 36 yX3_listenBy, Cond.instanceMethod yX3_listenBy, Cond.selects RX3 yX3_listenBy yX3_listenBy, Cond.code yX3_listenBy cX3_listenBy 7 none, Cond.fieldLink RX3 11 "StaggerRadar$Echoes" "targets" "[I", Cond.fieldLink RX3 15 "StaggerRadar$Echoes" "loud" "[I", Cond.fieldLink RX3 48 "StaggerRadar$Radar" "targetCount" "I", Cond.fieldLink RX3 63 "StaggerRadar$Radar" "strengths" "[I", Cond.static yX10_isGap, Cond.code yX10_isGap cX10_isGap 1 (some .boolean), Cond.methodLink RX3 51 yX5_sees, Cond.methodLink RX3 55 yX5_rangeOf]
def wsL_targetOf_r4 : List Cond := [Cond.methodLink RX10 269 yX3_standingOf, Cond.instanceMethod yX3_standingOf, Cond.selects RX3 yX3_standingOf yX3_standingOf, Cond.code yX3_standingOf cX3_standingOf 4 (some .int), Cond.fieldLink RX3 66 "StaggerRadar$Radar" "settings" "[I", Cond.methodLink RX3 88 yX3_isFound, Cond.instanceMethod yX3_isFound, Cond.selects RX3 yX3_isFound yX3_isFound, Cond.code yX3_isFound cX3_isFound 3 (some .boolean), Cond.methodLink RX3 80 yX3_hitsOf, Cond.instanceMethod yX3_hitsOf, Cond.selects RX3 yX3_hitsOf yX3_hitsOf, Cond.code yX3_hitsOf cX3_hitsOf 5 (some .int), Cond.methodLink RX3 69 yX3_isEcho, Cond.instanceMethod yX3_isEcho, Cond.selects RX3 yX3_isEcho yX3_isEcho, Cond.code yX3_isEcho cX3_isEcho 4 (some .boolean), Cond.methodLink RX3 83 yJ6_bitCount_0f7a4, Cond.static yJ6_bitCount_0f7a4, Cond.initialized RJ6, Cond.code yJ6_bitCount_0f7a4 cJ6_bitCount_0f7a4 1 (some .int), Cond.constant RJ6 265 (1431655765), Cond.constant RJ6 266 (858993459), Cond.constant RJ6 267 (252645135)]
def wsL_targetOf : List Cond := .codeWith yL_targetOf cL_targetOf 5 (some .int) [(0, 10, 13, 13)] :: ((wsL_targetOf_r1 ++ (wsL_targetOf_r2 ++ (wsL_targetOf_r3 ++ wsL_targetOf_r4))) ++ wsX100 ++ wsX50 ++ wsX30 ++ (vx_at0 RX10 237 "java/util/NoSuchElementException" ["java/lang/RuntimeException", "java/lang/Exception"]).filter goodWord)
def wsL_law0_r1 : List Cond := [Cond.classLink RL 8 RX10, Cond.instantiable RX10 14, Cond.initialized RX10, Cond.classLink RL 19 RX11, Cond.instantiable RX11 30, Cond.initialized RX11, Cond.arrayClass .long, Cond.constantLong RL 22 (4294967295), Cond.methodLink RL 18 yX10_init, Cond.instanceMethod yX10_init, Cond.code yX10_init cX10_init 2 none, Cond.methodLink RX10 1 objectInit, Cond.instanceMethod objectInit, Cond.code objectInit ⟨#[0xb1]⟩ 1 none, Cond.classLink RX10 7 RX5, Cond.instantiable RX5 13, Cond.initialized RX5, Cond.fieldLink RX10 10 "StaggerRadar" "radar" "LStaggerRadar$Radar;", Cond.fieldLink RX10 16 "StaggerRadar" "draft" "LStaggerRadar$Radar;", Cond.classLink RX10 19 RX8, Cond.instantiable RX8 4, Cond.initialized RX8, Cond.fieldLink RX10 22 "StaggerRadar" "text" "LStaggerRadar$Text;", Cond.classLink RX10 26 RX6]
def wsL_law0_r2 : List Cond := [Cond.instantiable RX6 7, Cond.initialized RX6, Cond.fieldLink RX10 29 "StaggerRadar" "reader" "LStaggerRadar$Reader;", Cond.classLink RX10 33 RX4, Cond.instantiable RX4 3, Cond.initialized RX4, Cond.fieldLink RX10 36 "StaggerRadar" "history" "LStaggerRadar$History;", Cond.fieldLink RX10 40 "StaggerRadar" "keptRadars" "[LStaggerRadar$Radar;", Cond.fieldLink RX10 44 "StaggerRadar" "keptTexts" "[LStaggerRadar$Text;", Cond.arrayClass .boolean, Cond.fieldLink RX10 48 "StaggerRadar" "kept" "[Z", Cond.classLink RX10 52 RX3, Cond.instantiable RX3 6, Cond.initialized RX3, Cond.fieldLink RX10 55 "StaggerRadar" "echoes" "LStaggerRadar$Echoes;", Cond.classLink RX10 59 RX9, Cond.instantiable RX9 3, Cond.initialized RX9, Cond.fieldLink RX10 62 "StaggerRadar" "tracks" "LStaggerRadar$Tracks;", Cond.classLink RX10 66 RX2, Cond.instantiable RX2 6, Cond.initialized RX2, Cond.fieldLink RX10 69 "StaggerRadar" "dwelling" "LStaggerRadar$Dwell;", Cond.classLink RX10 73 RX1]
def wsL_law0_r3 : List Cond := [Cond.instantiable RX1 13, Cond.initialized RX1, Cond.fieldLink RX10 76 "StaggerRadar" "chooser" "LStaggerRadar$Chooser;", Cond.classLink RX10 80 RX0, Cond.instantiable RX0 1, Cond.initialized RX0, Cond.fieldLink RX10 83 "StaggerRadar" "adviser" "LStaggerRadar$Adviser;", Cond.arrayClass .int, Cond.fieldLink RX10 87 "StaggerRadar" "places" "[I", Cond.methodLink RX10 9 yX5_init, Cond.instanceMethod yX5_init, Cond.code yX5_init cX5_init 1 none, Cond.methodLink RX5 3 objectInit, Cond.fieldLink RX5 9 "StaggerRadar$Radar" "gaps" "[I", Cond.fieldLink RX5 15 "StaggerRadar$Radar" "settings" "[I", Cond.fieldLink RX5 18 "StaggerRadar$Radar" "spots" "[I", Cond.fieldLink RX5 21 "StaggerRadar$Radar" "speeds" "[I", Cond.fieldLink RX5 24 "StaggerRadar$Radar" "strengths" "[I", Cond.fieldLink RX5 27 "StaggerRadar$Radar" "lookTimes" "[I", Cond.fieldLink RX5 30 "StaggerRadar$Radar" "lookSizes" "[I", Cond.fieldLink RX5 33 "StaggerRadar$Radar" "lookNumbers" "[I", Cond.methodLink RX5 39 arraycopyName, Cond.native arraycopyName, Cond.static arraycopyName]
def wsL_law0_r4 : List Cond := [Cond.initialized "java/lang/System", Cond.instanceMethod yX8_init, Cond.code yX8_init cX8_init 1 none, Cond.methodLink RX8 3 objectInit, Cond.fieldLink RX8 9 "StaggerRadar$Text" "bytes" "[I", Cond.fieldLink RX8 15 "StaggerRadar$Text" "faultPlace" "I", Cond.instanceMethod yX6_init, Cond.code yX6_init cX6_init 1 none, Cond.methodLink RX6 3 objectInit, Cond.fieldLink RX6 9 "StaggerRadar$Reader" "numbers" "[I", Cond.methodLink RX10 35 yX4_init, Cond.instanceMethod yX4_init, Cond.code yX4_init cX4_init 2 none, Cond.methodLink RX4 3 objectInit, Cond.classLink RX4 9 RX5, Cond.fieldLink RX4 11 "StaggerRadar$History" "ring" "[LStaggerRadar$Radar;", Cond.methodLink RX4 17 yX5_init, Cond.instanceMethod yX3_init, Cond.code yX3_init cX3_init 1 none, Cond.methodLink RX3 3 objectInit, Cond.fieldLink RX3 11 "StaggerRadar$Echoes" "targets" "[I", Cond.fieldLink RX3 15 "StaggerRadar$Echoes" "loud" "[I", Cond.fieldLink RX3 18 "StaggerRadar$Echoes" "hitBits" "[I", Cond.fieldLink RX3 21 "StaggerRadar$Echoes" "shown" "[I"]
def wsL_law0_r5 : List Cond := [Cond.fieldLink RX3 24 "StaggerRadar$Echoes" "took" "[I", Cond.instanceMethod yX9_init, Cond.code yX9_init cX9_init 1 none, Cond.methodLink RX9 3 objectInit, Cond.fieldLink RX9 9 "StaggerRadar$Tracks" "lasts" "[I", Cond.fieldLink RX9 15 "StaggerRadar$Tracks" "path" "[I", Cond.instanceMethod yX2_init, Cond.code yX2_init cX2_init 1 none, Cond.methodLink RX2 3 objectInit, Cond.fieldLink RX2 9 "StaggerRadar$Dwell" "row" "[I", Cond.fieldLink RX2 15 "StaggerRadar$Dwell" "sent" "[I", Cond.fieldLink RX2 18 "StaggerRadar$Dwell" "best" "[I", Cond.instanceMethod yX1_init, Cond.code yX1_init cX1_init 1 none, Cond.methodLink RX1 3 objectInit, Cond.fieldLink RX1 11 "StaggerRadar$Chooser" "open" "[J", Cond.fieldLink RX1 15 "StaggerRadar$Chooser" "enough" "[J", Cond.fieldLink RX1 18 "StaggerRadar$Chooser" "all" "[J", Cond.fieldLink RX1 21 "StaggerRadar$Chooser" "chosen" "[I", Cond.fieldLink RX1 25 "StaggerRadar$Chooser" "best" "[I", Cond.instanceMethod yX0_init, Cond.code yX0_init cX0_init 1 none, Cond.methodLink RX0 3 objectInit, Cond.fieldLink RX0 9 "StaggerRadar$Adviser" "weight" "[I"]
def wsL_law0_r6 : List Cond := [Cond.methodLink RL 21 yX11_init, Cond.instanceMethod yX11_init, Cond.code yX11_init cX11_init 1 none, Cond.methodLink RX11 1 objectInit, Cond.fieldLink RX11 7 "StaggerRadarModel" "all" "[I", Cond.arrayClass .byte, Cond.fieldLink RX11 13 "StaggerRadarModel" "text" "[B", Cond.fieldLink RX11 17 "StaggerRadarModel" "saved" "[Z", Cond.fieldLink RX11 21 "StaggerRadarModel" "undone" "[I", Cond.fieldLink RX11 24 "StaggerRadarModel" "told" "[I", Cond.fieldLink RX11 27 "StaggerRadarModel" "loud" "[I", Cond.fieldLink RX11 30 "StaggerRadarModel" "picture" "[I", Cond.fieldLink RX11 33 "StaggerRadarModel" "took" "[I", Cond.fieldLink RX11 36 "StaggerRadarModel" "free" "[Z", Cond.fieldLink RX11 39 "StaggerRadarModel" "places" "[I", Cond.fieldLink RX11 42 "StaggerRadarModel" "which" "[I", Cond.fieldLink RX11 45 "StaggerRadarModel" "sent" "[I", Cond.fieldLink RX11 48 "StaggerRadarModel" "order" "[I", Cond.fieldLink RX11 51 "StaggerRadarModel" "bestOrder" "[I", Cond.fieldLink RX11 54 "StaggerRadarModel" "chosen" "[I", Cond.fieldLink RX11 57 "StaggerRadarModel" "best" "[I", Cond.methodLink RX11 60 yX11_atFirst, Cond.instanceMethod yX11_atFirst, Cond.selects RX11 yX11_atFirst yX11_atFirst]
def wsL_law0_r7 : List Cond := [Cond.code yX11_atFirst cX11_atFirst 2 none, Cond.fieldLink RX11 106 "StaggerRadarModel" "bad" "I", Cond.fieldLink RX11 109 "StaggerRadarModel" "badAt" "I", Cond.fieldLink RX11 80 "StaggerRadarModel" "reached" "I", Cond.methodLink RX11 63 yX11_taken, Cond.instanceMethod yX11_taken, Cond.selects RX11 yX11_taken yX11_taken, Cond.code yX11_taken cX11_taken 2 none, Cond.fieldLink RX11 176 "StaggerRadarModel" "undos" "I", Cond.methodLink RL 24 yX10_type, Cond.instanceMethod yX10_type, Cond.selects RX10 yX10_type yX10_type, Cond.code yX10_type cX10_type 5 (some .int), Cond.fieldLink RX10 95 "StaggerRadar$Text" "size" "I", Cond.methodLink RX10 91 yX10_byteOf, Cond.static yX10_byteOf, Cond.code yX10_byteOf cX10_byteOf 3 (some .int), Cond.methodLink RX10 99 yX8_append, Cond.instanceMethod yX8_append, Cond.selects RX8 yX8_append yX8_append, Cond.code yX8_append cX8_append 2 none, Cond.fieldLink RX8 19 "StaggerRadar$Text" "size" "I", Cond.methodLink RL 28 yX11_type, Cond.instanceMethod yX11_type]
def wsL_law0_r8 : List Cond := [Cond.selects RX11 yX11_type yX11_type, Cond.code yX11_type cX11_type 5 (some .int), Cond.fieldLink RX11 66 "StaggerRadarModel" "raised" "I", Cond.constantLong RX11 78 (255), Cond.methodLink RL 29 yX10_read, Cond.instanceMethod yX10_read, Cond.selects RX10 yX10_read yX10_read, Cond.code yX10_read cX10_read 1 (some .int), Cond.fieldLink RX10 107 "StaggerRadar$Reader" "faultKind" "I", Cond.fieldLink RX10 110 "StaggerRadar$Text" "faultKind" "I", Cond.fieldLink RX10 111 "StaggerRadar$Reader" "faultPlace" "I", Cond.fieldLink RX10 114 "StaggerRadar$Text" "faultPlace" "I", Cond.fieldLink RX10 122 "StaggerRadar$Radar" "gapCount" "I", Cond.methodLink RX10 103 yX6_readInto, Cond.instanceMethod yX6_readInto, Cond.selects RX6 yX6_readInto yX6_readInto, Cond.code yX6_readInto cX6_readInto 4 none, Cond.fieldLink RX6 15 "StaggerRadar$Reader" "faultKind" "I", Cond.fieldLink RX6 19 "StaggerRadar$Reader" "faultPlace" "I", Cond.fieldLink RX6 22 "StaggerRadar$Reader" "next" "I", Cond.fieldLink RX6 34 "StaggerRadar$Reader" "kind" "I", Cond.methodLink RX6 25 yX5_begin, Cond.instanceMethod yX5_begin, Cond.selects RX5 yX5_begin yX5_begin]
def wsL_law0_r9 : List Cond := [Cond.code yX5_begin cX5_begin 1 none, Cond.fieldLink RX5 45 "StaggerRadar$Radar" "gapCount" "I", Cond.fieldLink RX5 49 "StaggerRadar$Radar" "targetCount" "I", Cond.fieldLink RX5 52 "StaggerRadar$Radar" "lookCount" "I", Cond.fieldLink RX5 55 "StaggerRadar$Radar" "time" "I", Cond.fieldLink RX5 58 "StaggerRadar$Radar" "gone" "I", Cond.methodLink RX6 30 yX6_step, Cond.instanceMethod yX6_step, Cond.selects RX6 yX6_step yX6_step, Cond.code yX6_step cX6_step 2 none, Cond.fieldLink RX6 108 "StaggerRadar$Text" "size" "I", Cond.fieldLink RX6 113 "StaggerRadar$Text" "bytes" "[I", Cond.fieldLink RX6 67 "StaggerRadar$Reader" "start" "I", Cond.methodLink RX6 116 yX6_isBlank, Cond.static yX6_isBlank, Cond.code yX6_isBlank cX6_isBlank 1 (some .boolean), Cond.methodLink RX6 119 yX6_isLetter, Cond.static yX6_isLetter, Cond.code yX6_isLetter cX6_isLetter 1 (some .boolean), Cond.methodLink RX6 122 yX6_isDigit, Cond.static yX6_isDigit, Cond.code yX6_isDigit cX6_isDigit 1 (some .boolean), Cond.methodLink RX6 125 yX6_stepOverDigits, Cond.instanceMethod yX6_stepOverDigits]
def wsL_law0_r10 : List Cond := [Cond.selects RX6 yX6_stepOverDigits yX6_stepOverDigits, Cond.code yX6_stepOverDigits cX6_stepOverDigits 2 none, Cond.fieldLink RX6 60 "StaggerRadar$Reader" "value" "I", Cond.methodLink RX6 37 yX6_readSentence, Cond.instanceMethod yX6_readSentence, Cond.selects RX6 yX6_readSentence yX6_readSentence, Cond.code yX6_readSentence cX6_readSentence 6 none, Cond.methodLink RX6 41 yX6_wordOf, Cond.instanceMethod yX6_wordOf, Cond.selects RX6 yX6_wordOf yX6_wordOf, Cond.code yX6_wordOf cX6_wordOf 3 (some .int), Cond.methodLink RX6 128 yX6_lettersOf, Cond.static yX6_lettersOf, Cond.code yX6_lettersOf cX6_lettersOf 1 (some (.object "java/lang/String")), Cond.methodLink RX6 132 yX6_isSpelled, Cond.instanceMethod yX6_isSpelled, Cond.selects RX6 yX6_isSpelled yX6_isSpelled, Cond.code yX6_isSpelled cX6_isSpelled 5 (some .boolean), Cond.methodLink RX6 136 yJ0_length_8abf5, Cond.instanceMethod yJ0_length_8abf5, Cond.selects RJ0 yJ0_length_8abf5 yJ0_length_8abf5, Cond.initialized RJ0, Cond.code yJ0_length_8abf5 cJ0_length_8abf5 1 (some .int), Cond.fieldLink RJ0 9 "java/lang/String" "value" "[B"]
def wsL_law0_r11 : List Cond := [Cond.methodLink RJ0 335 yJ0_coder_7d493, Cond.instanceMethod yJ0_coder_7d493, Cond.selects RJ0 yJ0_coder_7d493 yJ0_coder_7d493, Cond.code yJ0_coder_7d493 cJ0_coder_7d493 1 (some .byte), Cond.fieldLink RJ0 38 "java/lang/String" "COMPACT_STRINGS" "Z", Cond.fieldLink RJ0 15 "java/lang/String" "coder" "B", Cond.methodLink RX6 142 yJ0_charAt_5068e, Cond.instanceMethod yJ0_charAt_5068e, Cond.selects RJ0 yJ0_charAt_5068e yJ0_charAt_5068e, Cond.code yJ0_charAt_5068e cJ0_charAt_5068e 2 (some .char), Cond.methodLink RJ0 492 yJ0_isLatin1_aae02, Cond.instanceMethod yJ0_isLatin1_aae02, Cond.selects RJ0 yJ0_isLatin1_aae02 yJ0_isLatin1_aae02, Cond.code yJ0_isLatin1_aae02 cJ0_isLatin1_aae02 1 (some .boolean), Cond.methodLink RJ0 495 yJ1_charAt_3b067, Cond.static yJ1_charAt_3b067, Cond.initialized RJ1, Cond.code yJ1_charAt_3b067 cJ1_charAt_3b067 2 (some .char), Cond.methodLink RJ1 9 yJ0_checkIndex_df160, Cond.static yJ0_checkIndex_df160, Cond.code yJ0_checkIndex_df160 cJ0_checkIndex_df160 2 none, Cond.fieldLink RJ0 1053 "jdk/internal/util/Preconditions" "SIOOBE_FORMATTER" "Ljava/util/function/BiFunction;", Cond.methodLink RJ0 1059 yJ3_checkIndex_8e157, Cond.static yJ3_checkIndex_8e157]
def wsL_law0_r12 : List Cond := [Cond.initialized RJ3, Cond.code yJ3_checkIndex_8e157 cJ3_checkIndex_8e157 3 (some .int), Cond.methodLink RJ0 498 yJ2_charAt_3b067, Cond.static yJ2_charAt_3b067, Cond.initialized RJ2, Cond.code yJ2_charAt_3b067 cJ2_charAt_3b067 2 (some .char), Cond.methodLink RJ2 67 yJ2_checkIndex_2214a, Cond.static yJ2_checkIndex_2214a, Cond.code yJ2_checkIndex_2214a cJ2_checkIndex_2214a 2 none, Cond.methodLink RJ2 48 yJ2_length_9d52b, Cond.static yJ2_length_9d52b, Cond.code yJ2_length_9d52b cJ2_length_9d52b 1 (some .int), Cond.methodLink RJ2 414 yJ0_checkIndex_df160, Cond.methodLink RJ2 71 yJ2_getChar_3b067, Cond.static yJ2_getChar_3b067, Cond.code yJ2_getChar_3b067 cJ2_getChar_3b067 2 (some .char), Cond.fieldLink RJ2 44 "java/lang/StringUTF16" "$assertionsDisabled" "Z", Cond.fieldLink RJ2 59 "java/lang/StringUTF16" "HI_BYTE_SHIFT" "I", Cond.fieldLink RJ2 63 "java/lang/StringUTF16" "LO_BYTE_SHIFT" "I", Cond.methodLink RX6 45 yX6_refuseToken, Cond.instanceMethod yX6_refuseToken, Cond.selects RX6 yX6_refuseToken yX6_refuseToken, Cond.code yX6_refuseToken cX6_refuseToken 1 none, Cond.methodLink RX6 48 yX6_isFull]
def wsL_law0_r13 : List Cond := [Cond.static yX6_isFull, Cond.code yX6_isFull cX6_isFull 2 (some .boolean), Cond.fieldLink RX6 70 "StaggerRadar$Radar" "gapCount" "I", Cond.fieldLink RX6 73 "StaggerRadar$Radar" "targetCount" "I", Cond.methodLink RX6 52 yX6_noteFault, Cond.instanceMethod yX6_noteFault, Cond.selects RX6 yX6_noteFault yX6_noteFault, Cond.code yX6_noteFault cX6_noteFault 2 none, Cond.methodLink RX6 56 yX6_checkNumber, Cond.instanceMethod yX6_checkNumber, Cond.selects RX6 yX6_checkNumber yX6_checkNumber, Cond.code yX6_checkNumber cX6_checkNumber 4 none, Cond.methodLink RX6 76 yX6_canBe, Cond.instanceMethod yX6_canBe, Cond.selects RX6 yX6_canBe yX6_canBe, Cond.code yX6_canBe cX6_canBe 3 (some .boolean), Cond.static yX10_isGap, Cond.code yX10_isGap cX10_isGap 1 (some .boolean), Cond.methodLink RX10 142 yX10_isWithin, Cond.static yX10_isWithin, Cond.code yX10_isWithin cX10_isWithin 3 (some .boolean), Cond.methodLink RX6 80 yX5_indexOfGap, Cond.instanceMethod yX5_indexOfGap, Cond.selects RX5 yX5_indexOfGap yX5_indexOfGap]
def wsL_law0_r14 : List Cond := [Cond.code yX5_indexOfGap cX5_indexOfGap 3 (some .int), Cond.methodLink RX6 63 yX6_apply, Cond.instanceMethod yX6_apply, Cond.selects RX6 yX6_apply yX6_apply, Cond.code yX6_apply cX6_apply 4 none, Cond.fieldLink RX6 101 "StaggerRadar$Radar" "settings" "[I", Cond.methodLink RX6 98 yX5_addGap, Cond.instanceMethod yX5_addGap, Cond.selects RX5 yX5_addGap yX5_addGap, Cond.code yX5_addGap cX5_addGap 3 none, Cond.methodLink RX6 104 yX5_addTarget, Cond.instanceMethod yX5_addTarget, Cond.selects RX5 yX5_addTarget yX5_addTarget, Cond.code yX5_addTarget cX5_addTarget 4 none, Cond.methodLink RX10 115 yX5_copyFrom, Cond.instanceMethod yX5_copyFrom, Cond.selects RX5 yX5_copyFrom yX5_copyFrom, Cond.code yX5_copyFrom cX5_copyFrom 2 none, Cond.methodLink RX10 119 yX4_forget, Cond.instanceMethod yX4_forget, Cond.selects RX4 yX4_forget yX4_forget, Cond.code yX4_forget cX4_forget 1 none, Cond.fieldLink RX4 18 "StaggerRadar$History" "size" "I", Cond.methodLink RL 33 yX11_read]
def wsL_law0_r15 : List Cond := [Cond.instanceMethod yX11_read, Cond.selects RX11 yX11_read yX11_read, Cond.code yX11_read cX11_read 2 (some .int), Cond.fieldLink RX11 83 "StaggerRadarModel" "length" "I", Cond.fieldLink RX11 97 "StaggerRadarModel" "sort" "I", Cond.fieldLink RX11 103 "StaggerRadarModel" "wrongAt" "I", Cond.methodLink RX11 123 yX11_token, Cond.instanceMethod yX11_token, Cond.selects RX11 yX11_token yX11_token, Cond.code yX11_token cX11_token 3 none, Cond.fieldLink RX11 90 "StaggerRadarModel" "begin" "I", Cond.fieldLink RX11 93 "StaggerRadarModel" "word" "J", Cond.fieldLink RX11 100 "StaggerRadarModel" "value" "I", Cond.methodLink RX11 86 yX11_see, Cond.instanceMethod yX11_see, Cond.selects RX11 yX11_see yX11_see, Cond.code yX11_see cX11_see 1 (some .int), Cond.methodLink RX11 70 yX11_in, Cond.static yX11_in, Cond.code yX11_in cX11_in 3 (some .boolean), Cond.methodLink RX11 179 yX11_line, Cond.instanceMethod yX11_line, Cond.selects RX11 yX11_line yX11_line, Cond.code yX11_line cX11_line 5 (some .boolean)]
def wsL_law0_r16 : List Cond := [Cond.constantLong RX11 152 (6775152), Cond.constantLong RX11 157 (1668246885), Cond.constantLong RX11 159 (26479), Cond.fieldLink RX11 116 "StaggerRadarModel" "read" "I", Cond.methodLink RX11 154 yX11_gapLine, Cond.instanceMethod yX11_gapLine, Cond.selects RX11 yX11_gapLine yX11_gapLine, Cond.code yX11_gapLine cX11_gapLine 2 (some .boolean), Cond.methodLink RX11 119 yX11_isBad, Cond.instanceMethod yX11_isBad, Cond.selects RX11 yX11_isBad yX11_isBad, Cond.code yX11_isBad cX11_isBad 3 none, Cond.methodLink RX11 140 yX11_takes, Cond.instanceMethod yX11_takes, Cond.selects RX11 yX11_takes yX11_takes, Cond.code yX11_takes cX11_takes 3 (some .boolean), Cond.methodLink RX11 112 yX11_fails, Cond.instanceMethod yX11_fails, Cond.selects RX11 yX11_fails yX11_fails, Cond.code yX11_fails cX11_fails 1 (some .boolean), Cond.methodLink RX11 144 yX11_hasGap, Cond.static yX11_hasGap, Cond.code yX11_hasGap cX11_hasGap 3 (some .boolean), Cond.methodLink RX11 148 yX11_putsGap]
def wsL_law0_r17 : List Cond := [Cond.static yX11_putsGap, Cond.code yX11_putsGap cX11_putsGap 3 none, Cond.methodLink RX11 161 yX11_targetLine, Cond.instanceMethod yX11_targetLine, Cond.selects RX11 yX11_targetLine yX11_targetLine, Cond.code yX11_targetLine cX11_targetLine 5 (some .boolean), Cond.methodLink RX11 165 yX11_settingOf, Cond.static yX11_settingOf, Cond.code yX11_settingOf cX11_settingOf 2 (some .int), Cond.constantLong RX11 126 (2002876005), Cond.constantLong RX11 128 (474316301160), Cond.constantLong RX11 130 (483006378853), Cond.constantLong RX11 132 (465625246068), Cond.constantLong RX11 134 (1852138852), Cond.constantLong RX11 136 (1936744814), Cond.constantLong RX11 138 (439905906546), Cond.methodLink RX11 169 yX11_leastOf, Cond.static yX11_leastOf, Cond.code yX11_leastOf cX11_leastOf 1 (some .int), Cond.methodLink RX11 173 yX11_mostOf, Cond.static yX11_mostOf, Cond.code yX11_mostOf cX11_mostOf 1 (some .int), Cond.methodLink RL 34 yX10_fault, Cond.instanceMethod yX10_fault]
def wsL_law0_r18 : List Cond := [Cond.selects RX10 yX10_fault yX10_fault, Cond.code yX10_fault cX10_fault 2 (some .int), Cond.methodLink RL 38 yX11_fault, Cond.instanceMethod yX11_fault, Cond.selects RX11 yX11_fault yX11_fault, Cond.code yX11_fault cX11_fault 2 (some .int), Cond.methodLink RL 39 yX10_gap, Cond.instanceMethod yX10_gap, Cond.selects RX10 yX10_gap yX10_gap, Cond.code yX10_gap cX10_gap 4 (some .int), Cond.methodLink RX10 125 yX5_indexOfGap, Cond.methodLink RX10 129 yX4_save, Cond.instanceMethod yX4_save, Cond.selects RX4 yX4_save yX4_save, Cond.code yX4_save cX4_save 2 none, Cond.fieldLink RX4 22 "StaggerRadar$History" "oldest" "I", Cond.methodLink RX4 25 yX5_copyFrom, Cond.methodLink RX10 132 yX5_dropGap, Cond.instanceMethod yX5_dropGap, Cond.selects RX5 yX5_dropGap yX5_dropGap, Cond.code yX5_dropGap cX5_dropGap 3 none, Cond.methodLink RX5 61 yX5_hasGap, Cond.instanceMethod yX5_hasGap, Cond.selects RX5 yX5_hasGap yX5_hasGap]
def wsL_law0_r19 : List Cond := [Cond.code yX5_hasGap cX5_hasGap 2 (some .boolean), Cond.methodLink RX10 135 yX10_isGap, Cond.methodLink RX10 139 yX5_addGap, Cond.methodLink RL 43 yX11_gap, Cond.instanceMethod yX11_gap, Cond.selects RX11 yX11_gap yX11_gap, Cond.code yX11_gap cX11_gap 5 (some .int), Cond.methodLink RX11 182 yX11_keeps, Cond.instanceMethod yX11_keeps, Cond.selects RX11 yX11_keeps yX11_keeps, Cond.code yX11_keeps cX11_keeps 2 none, Cond.methodLink RX11 185 yX11_gapAt, Cond.instanceMethod yX11_gapAt, Cond.selects RX11 yX11_gapAt yX11_gapAt, Cond.code yX11_gapAt cX11_gapAt 2 (some .int), Cond.methodLink RL 44 yX10_set, Cond.instanceMethod yX10_set, Cond.selects RX10 yX10_set yX10_set, Cond.code yX10_set cX10_set 3 (some .boolean), Cond.fieldLink RX10 146 "StaggerRadar" "LEAST" "[I", Cond.fieldLink RX10 149 "StaggerRadar" "MOST" "[I", Cond.fieldLink RX10 152 "StaggerRadar$Radar" "settings" "[I", Cond.methodLink RL 48 yX11_set, Cond.instanceMethod yX11_set]
def wsL_law0_r20 : List Cond := [Cond.selects RX11 yX11_set yX11_set, Cond.code yX11_set cX11_set 3 (some .boolean), Cond.methodLink RL 49 yX10_target, Cond.instanceMethod yX10_target, Cond.selects RX10 yX10_target yX10_target, Cond.code yX10_target cX10_target 4 (some .int), Cond.fieldLink RX10 158 "StaggerRadar$Radar" "targetCount" "I", Cond.methodLink RX10 155 yX10_isSpeed, Cond.static yX10_isSpeed, Cond.code yX10_isSpeed cX10_isSpeed 1 (some .boolean), Cond.methodLink RX10 161 yX5_addTarget, Cond.methodLink RL 53 yX11_target, Cond.instanceMethod yX11_target, Cond.selects RX11 yX11_target yX11_target, Cond.code yX11_target cX11_target 5 (some .int), Cond.methodLink RL 54 yX10_leave, Cond.instanceMethod yX10_leave, Cond.selects RX10 yX10_leave yX10_leave, Cond.code yX10_leave cX10_leave 2 (some .int), Cond.methodLink RX10 165 yX5_hasTarget, Cond.instanceMethod yX5_hasTarget, Cond.selects RX5 yX5_hasTarget yX5_hasTarget, Cond.code yX5_hasTarget cX5_hasTarget 2 (some .boolean), Cond.methodLink RX10 168 yX5_dropTarget]
def wsL_law0_r21 : List Cond := [Cond.instanceMethod yX5_dropTarget, Cond.selects RX5 yX5_dropTarget yX5_dropTarget, Cond.code yX5_dropTarget cX5_dropTarget 3 none, Cond.methodLink RX5 65 yX5_hasTarget, Cond.methodLink RL 58 yX11_leave, Cond.instanceMethod yX11_leave, Cond.selects RX11 yX11_leave yX11_leave, Cond.code yX11_leave cX11_leave 2 (some .int), Cond.methodLink RX11 188 yX11_isTarget, Cond.instanceMethod yX11_isTarget, Cond.selects RX11 yX11_isTarget yX11_isTarget, Cond.code yX11_isTarget cX11_isTarget 2 (some .boolean), Cond.methodLink RX11 191 yX11_goes, Cond.instanceMethod yX11_goes, Cond.selects RX11 yX11_goes yX11_goes, Cond.code yX11_goes cX11_goes 3 none, Cond.methodLink RL 59 yX10_move, Cond.instanceMethod yX10_move, Cond.selects RX10 yX10_move yX10_move, Cond.code yX10_move cX10_move 2 (some .int), Cond.fieldLink RX10 171 "StaggerRadar$Radar" "time" "I", Cond.constant RX10 174 (999999), Cond.methodLink RX10 175 yX5_pass, Cond.instanceMethod yX5_pass]
def wsL_law0_r22 : List Cond := [Cond.selects RX5 yX5_pass yX5_pass, Cond.code yX5_pass cX5_pass 5 (some .int), Cond.constant RX5 72 (47999), Cond.methodLink RX5 68 yX5_spotAfter, Cond.instanceMethod yX5_spotAfter, Cond.selects RX5 yX5_spotAfter yX5_spotAfter, Cond.code yX5_spotAfter cX5_spotAfter 3 (some .int), Cond.methodLink RX5 77 yX5_dropTarget, Cond.methodLink RL 62 yX11_move, Cond.instanceMethod yX11_move, Cond.selects RX11 yX11_move yX11_move, Cond.code yX11_move cX11_move 3 (some .int), Cond.constant RX11 196 (999999), Cond.methodLink RX11 197 yX11_moves, Cond.instanceMethod yX11_moves, Cond.selects RX11 yX11_moves yX11_moves, Cond.code yX11_moves cX11_moves 4 (some .int), Cond.constant RX11 195 (47999), Cond.methodLink RX11 74 yX11_of, Cond.instanceMethod yX11_of, Cond.selects RX11 yX11_of yX11_of, Cond.code yX11_of cX11_of 3 (some .int), Cond.methodLink RL 63 yX10_look, Cond.instanceMethod yX10_look]
def wsL_law0_r23 : List Cond := [Cond.selects RX10 yX10_look yX10_look, Cond.code yX10_look cX10_look 2 (some .int), Cond.fieldLink RX10 178 "StaggerRadar$Radar" "lookCount" "I", Cond.fieldLink RX10 181 "StaggerRadar$Radar" "lookTimes" "[I", Cond.fieldLink RX10 190 "StaggerRadar$Echoes" "shownCount" "I", Cond.methodLink RX10 193 Lib.Math.min.name, Cond.static Lib.Math.min.name, Cond.initialized "java/lang/Math", Cond.code Lib.Math.min.name Lib.Math.min.code 2 (some .int), Cond.fieldLink RX10 199 "StaggerRadar$Echoes" "shown" "[I", Cond.methodLink RX10 184 yX3_listen, Cond.instanceMethod yX3_listen, Cond.selects RX3 yX3_listen yX3_listen, Cond.code yX3_listen cX3_listen 3 none, Cond.fieldLink RX3 27 "StaggerRadar$Radar" "gapCount" "I", Cond.fieldLink RX3 33 "StaggerRadar$Radar" "gaps" "[I", Cond.methodLink RX3 36 yX3_listenBy, Cond.instanceMethod yX3_listenBy, Cond.selects RX3 yX3_listenBy yX3_listenBy, Cond.code yX3_listenBy cX3_listenBy 7 none, Cond.fieldLink RX3 48 "StaggerRadar$Radar" "targetCount" "I", Cond.fieldLink RX3 63 "StaggerRadar$Radar" "strengths" "[I", Cond.methodLink RX3 51 yX5_sees, Cond.instanceMethod yX5_sees]
def wsL_law0_r24 : List Cond := [Cond.selects RX5 yX5_sees yX5_sees, Cond.code yX5_sees cX5_sees 3 (some .boolean), Cond.methodLink RX5 84 yX5_rangeOf, Cond.instanceMethod yX5_rangeOf, Cond.selects RX5 yX5_rangeOf yX5_rangeOf, Cond.code yX5_rangeOf cX5_rangeOf 2 (some .int), Cond.static yX10_rest, Cond.code yX10_rest cX10_rest 3 (some .int), Cond.methodLink RX5 91 yX5_hides, Cond.instanceMethod yX5_hides, Cond.selects RX5 yX5_hides yX5_hides, Cond.code yX5_hides cX5_hides 4 (some .boolean), Cond.methodLink RX3 55 yX5_rangeOf, Cond.methodLink RX10 187 yX3_paint, Cond.instanceMethod yX3_paint, Cond.selects RX3 yX3_paint yX3_paint, Cond.code yX3_paint cX3_paint 4 none, Cond.fieldLink RX3 120 "StaggerRadar$Echoes" "shownCount" "I", Cond.fieldLink RX3 66 "StaggerRadar$Radar" "settings" "[I", Cond.methodLink RX3 109 yX3_markHits, Cond.instanceMethod yX3_markHits, Cond.selects RX3 yX3_markHits yX3_markHits, Cond.code yX3_markHits cX3_markHits 4 none, Cond.methodLink RX3 95 yJ7_fill_53178]
def wsL_law0_r25 : List Cond := [Cond.static yJ7_fill_53178, Cond.initialized RJ7, Cond.code yJ7_fill_53178 cJ7_fill_53178 4 none, Cond.methodLink RX3 69 yX3_isEcho, Cond.instanceMethod yX3_isEcho, Cond.selects RX3 yX3_isEcho yX3_isEcho, Cond.code yX3_isEcho cX3_isEcho 4 (some .boolean), Cond.methodLink RX3 101 yX3_markEcho, Cond.instanceMethod yX3_markEcho, Cond.selects RX3 yX3_markEcho yX3_markEcho, Cond.code yX3_markEcho cX3_markEcho 6 none, Cond.methodLink RX3 104 Lib.Math.max.name, Cond.static Lib.Math.max.name, Cond.code Lib.Math.max.name Lib.Math.max.code 2 (some .int), Cond.methodLink RX3 83 yJ6_bitCount_0f7a4, Cond.static yJ6_bitCount_0f7a4, Cond.initialized RJ6, Cond.code yJ6_bitCount_0f7a4 cJ6_bitCount_0f7a4 1 (some .int), Cond.constant RJ6 265 (1431655765), Cond.constant RJ6 266 (858993459), Cond.constant RJ6 267 (252645135), Cond.methodLink RX3 123 yX3_show, Cond.instanceMethod yX3_show, Cond.selects RX3 yX3_show yX3_show]
def wsL_law0_r26 : List Cond := [Cond.code yX3_show cX3_show 6 none, Cond.methodLink RX3 126 yX3_takeEcho, Cond.instanceMethod yX3_takeEcho, Cond.selects RX3 yX3_takeEcho yX3_takeEcho, Cond.code yX3_takeEcho cX3_takeEcho 6 none, Cond.methodLink RX10 202 yX5_addLook, Cond.instanceMethod yX5_addLook, Cond.selects RX5 yX5_addLook yX5_addLook, Cond.code yX5_addLook cX5_addLook 4 none, Cond.methodLink RX5 81 yX5_dropOldestLook, Cond.instanceMethod yX5_dropOldestLook, Cond.selects RX5 yX5_dropOldestLook yX5_dropOldestLook, Cond.code yX5_dropOldestLook cX5_dropOldestLook 1 none, Cond.methodLink RL 66 yX11_look, Cond.instanceMethod yX11_look, Cond.selects RX11 yX11_look yX11_look, Cond.code yX11_look cX11_look 4 (some .int), Cond.fieldLink RX11 206 "StaggerRadarModel" "pictured" "I", Cond.methodLink RX11 200 yX11_lookAt, Cond.instanceMethod yX11_lookAt, Cond.selects RX11 yX11_lookAt yX11_lookAt, Cond.code yX11_lookAt cX11_lookAt 3 (some .int), Cond.methodLink RX11 203 yX11_laysPicture, Cond.instanceMethod yX11_laysPicture]
def wsL_law0_r27 : List Cond := [Cond.selects RX11 yX11_laysPicture yX11_laysPicture, Cond.code yX11_laysPicture cX11_laysPicture 3 none, Cond.methodLink RX11 245 yX11_laysLoud, Cond.instanceMethod yX11_laysLoud, Cond.selects RX11 yX11_laysLoud yX11_laysLoud, Cond.code yX11_laysLoud cX11_laysLoud 3 none, Cond.methodLink RX11 227 yX11_rangeOf, Cond.instanceMethod yX11_rangeOf, Cond.selects RX11 yX11_rangeOf yX11_rangeOf, Cond.code yX11_rangeOf cX11_rangeOf 2 (some .int), Cond.methodLink RX11 230 yX11_isSeen, Cond.instanceMethod yX11_isSeen, Cond.selects RX11 yX11_isSeen yX11_isSeen, Cond.code yX11_isSeen cX11_isSeen 3 (some .boolean), Cond.methodLink RX11 215 yX11_isBlind, Cond.instanceMethod yX11_isBlind, Cond.selects RX11 yX11_isBlind yX11_isBlind, Cond.code yX11_isBlind cX11_isBlind 4 (some .boolean), Cond.methodLink RX11 212 yX11_rest, Cond.static yX11_rest, Cond.code yX11_rest cX11_rest 3 (some .int), Cond.methodLink RX11 248 yX11_freeHits, Cond.instanceMethod yX11_freeHits, Cond.selects RX11 yX11_freeHits yX11_freeHits]
def wsL_law0_r28 : List Cond := [Cond.code yX11_freeHits cX11_freeHits 4 (some .int), Cond.methodLink RX11 209 yX11_lesser, Cond.static yX11_lesser, Cond.code yX11_lesser cX11_lesser 2 (some .int), Cond.methodLink RL 67 yX10_undo, Cond.instanceMethod yX10_undo, Cond.selects RX10 yX10_undo yX10_undo, Cond.code yX10_undo cX10_undo 1 (some .int), Cond.fieldLink RX10 206 "StaggerRadar$History" "size" "I", Cond.methodLink RX10 207 yX4_restore, Cond.instanceMethod yX4_restore, Cond.selects RX4 yX4_restore yX4_restore, Cond.code yX4_restore cX4_restore 2 none, Cond.methodLink RL 70 yX11_undo, Cond.instanceMethod yX11_undo, Cond.selects RX11 yX11_undo yX11_undo, Cond.code yX11_undo cX11_undo 2 (some .int), Cond.methodLink RL 71 yX10_count, Cond.instanceMethod yX10_count, Cond.selects RX10 yX10_count yX10_count, Cond.code yX10_count cX10_count 2 (some .int), Cond.fieldLink RX10 210 "StaggerRadar$Radar" "gone" "I", Cond.methodLink RX10 213 yX7_countDark, Cond.static yX7_countDark]
def wsL_law0_r29 : List Cond := [Cond.initialized RX7, Cond.code yX7_countDark cX7_countDark 3 (some .int), Cond.fieldLink RX7 23 "StaggerRadar$Radar" "settings" "[I", Cond.methodLink RX7 38 yX7_countOpen, Cond.static yX7_countOpen, Cond.code yX7_countOpen cX7_countOpen 2 (some .int), Cond.fieldLink RX7 9 "StaggerRadar$Radar" "gapCount" "I", Cond.methodLink RX7 26 yX7_blindGaps, Cond.static yX7_blindGaps, Cond.code yX7_blindGaps cX7_blindGaps 4 (some .int), Cond.fieldLink RX7 15 "StaggerRadar$Radar" "gaps" "[I", Cond.methodLink RX7 19 yX5_hides, Cond.methodLink RX7 32 yJ6_bitCount_0f7a4, Cond.methodLink RX10 219 yX10_countHeard, Cond.instanceMethod yX10_countHeard, Cond.selects RX10 yX10_countHeard yX10_countHeard, Cond.code yX10_countHeard cX10_countHeard 2 (some .int), Cond.methodLink RX10 222 yX3_countAll, Cond.instanceMethod yX3_countAll, Cond.selects RX3 yX3_countAll yX3_countAll, Cond.code yX3_countAll cX3_countAll 4 (some .int), Cond.methodLink RX3 73 yX3_countOfGap, Cond.instanceMethod yX3_countOfGap, Cond.selects RX3 yX3_countOfGap yX3_countOfGap]
def wsL_law0_r30 : List Cond := [Cond.code yX3_countOfGap cX3_countOfGap 5 (some .int), Cond.methodLink RX10 225 yX3_countFound, Cond.instanceMethod yX3_countFound, Cond.selects RX3 yX3_countFound yX3_countFound, Cond.code yX3_countFound cX3_countFound 5 (some .int), Cond.methodLink RX3 113 yX3_isListed, Cond.instanceMethod yX3_isListed, Cond.selects RX3 yX3_isListed yX3_isListed, Cond.code yX3_isListed cX3_isListed 4 (some .boolean), Cond.methodLink RX3 117 yX5_isRange, Cond.instanceMethod yX5_isRange, Cond.selects RX5 yX5_isRange yX5_isRange, Cond.code yX5_isRange cX5_isRange 3 (some .boolean), Cond.methodLink RX10 229 yX3_missedTargets, Cond.instanceMethod yX3_missedTargets, Cond.selects RX3 yX3_missedTargets yX3_missedTargets, Cond.code yX3_missedTargets cX3_missedTargets 4 (some .int), Cond.methodLink RX3 92 yX3_standingOf, Cond.instanceMethod yX3_standingOf, Cond.selects RX3 yX3_standingOf yX3_standingOf, Cond.code yX3_standingOf cX3_standingOf 4 (some .int), Cond.methodLink RX3 88 yX3_isFound, Cond.instanceMethod yX3_isFound, Cond.selects RX3 yX3_isFound yX3_isFound]
def wsL_law0_r31 : List Cond := [Cond.code yX3_isFound cX3_isFound 3 (some .boolean), Cond.methodLink RX3 80 yX3_hitsOf, Cond.instanceMethod yX3_hitsOf, Cond.selects RX3 yX3_hitsOf yX3_hitsOf, Cond.code yX3_hitsOf cX3_hitsOf 5 (some .int), Cond.methodLink RL 74 yX11_count, Cond.instanceMethod yX11_count, Cond.selects RX11 yX11_count yX11_count, Cond.code yX11_count cX11_count 2 (some .int), Cond.methodLink RX11 254 yX11_darkMany, Cond.instanceMethod yX11_darkMany, Cond.selects RX11 yX11_darkMany yX11_darkMany, Cond.code yX11_darkMany cX11_darkMany 3 (some .int), Cond.methodLink RX11 224 yX11_isDark, Cond.instanceMethod yX11_isDark, Cond.selects RX11 yX11_isDark yX11_isDark, Cond.code yX11_isDark cX11_isDark 2 (some .boolean), Cond.methodLink RX11 218 yX11_blindBits, Cond.instanceMethod yX11_blindBits, Cond.selects RX11 yX11_blindBits yX11_blindBits, Cond.code yX11_blindBits cX11_blindBits 4 (some .int), Cond.methodLink RX11 221 yX11_ones, Cond.static yX11_ones, Cond.code yX11_ones cX11_ones 3 (some .int)]
def wsL_law0_r32 : List Cond := [Cond.methodLink RX11 257 yX11_echoes, Cond.instanceMethod yX11_echoes, Cond.selects RX11 yX11_echoes yX11_echoes, Cond.code yX11_echoes cX11_echoes 3 (some .int), Cond.methodLink RX11 251 yX11_echoesOf, Cond.instanceMethod yX11_echoesOf, Cond.selects RX11 yX11_echoesOf yX11_echoesOf, Cond.code yX11_echoesOf cX11_echoesOf 4 (some .int), Cond.methodLink RX11 233 yX11_isEcho, Cond.instanceMethod yX11_isEcho, Cond.selects RX11 yX11_isEcho yX11_isEcho, Cond.code yX11_isEcho cX11_isEcho 3 (some .boolean), Cond.methodLink RX11 260 yX11_foundMany, Cond.instanceMethod yX11_foundMany, Cond.selects RX11 yX11_foundMany yX11_foundMany, Cond.code yX11_foundMany cX11_foundMany 4 (some .int), Cond.methodLink RX11 239 yX11_isFound, Cond.instanceMethod yX11_isFound, Cond.selects RX11 yX11_isFound yX11_isFound, Cond.code yX11_isFound cX11_isFound 2 (some .boolean), Cond.methodLink RX11 236 yX11_hitBits, Cond.instanceMethod yX11_hitBits, Cond.selects RX11 yX11_hitBits yX11_hitBits, Cond.code yX11_hitBits cX11_hitBits 4 (some .int)]
def wsL_law0_r33 : List Cond := [Cond.methodLink RX11 242 yX11_isRange, Cond.instanceMethod yX11_isRange, Cond.selects RX11 yX11_isRange yX11_isRange, Cond.code yX11_isRange cX11_isRange 3 (some .boolean), Cond.methodLink RX11 264 yX11_missedBits, Cond.instanceMethod yX11_missedBits, Cond.selects RX11 yX11_missedBits yX11_missedBits, Cond.code yX11_missedBits cX11_missedBits 3 (some .int), Cond.methodLink RL 75 yL_gapOf, Cond.static yL_gapOf, Cond.initialized RL, Cond.codeWith yL_gapOf cL_gapOf 5 (some .int) [(0, 10, 13, 13)], Cond.classLink RL 13 "java/util/NoSuchElementException", Cond.methodLink RL 7 yX10_gapOf, Cond.instanceMethod yX10_gapOf, Cond.selects RX10 yX10_gapOf yX10_gapOf, Cond.code yX10_gapOf cX10_gapOf 4 (some .int), Cond.classLink RX10 235 "java/util/NoSuchElementException", Cond.initialized "java/util/NoSuchElementException", Cond.fieldLink RX10 238 "StaggerRadar$Radar" "gaps" "[I", Cond.methodLink RX10 232 yX5_hasGap, Cond.methodLink RX10 241 yX3_countOfGap, Cond.methodLink RX10 245 yX5_targetsSeenBy, Cond.instanceMethod yX5_targetsSeenBy]
def wsL_law0_r34 : List Cond := [Cond.selects RX5 yX5_targetsSeenBy yX5_targetsSeenBy, Cond.code yX5_targetsSeenBy cX5_targetsSeenBy 4 (some .int), Cond.methodLink RX5 95 yX5_sees, Cond.methodLink RX10 248 yX7_countBlind, Cond.static yX7_countBlind, Cond.code yX7_countBlind cX7_countBlind 4 (some .int), Cond.methodLink RL 80 yX11_gapOf, Cond.instanceMethod yX11_gapOf, Cond.selects RX11 yX11_gapOf yX11_gapOf, Cond.code yX11_gapOf cX11_gapOf 3 (some .int), Cond.methodLink RX11 267 yX11_isGap, Cond.instanceMethod yX11_isGap, Cond.selects RX11 yX11_isGap yX11_isGap, Cond.code yX11_isGap cX11_isGap 2 (some .boolean), Cond.methodLink RX11 270 yX11_seenBits, Cond.instanceMethod yX11_seenBits, Cond.selects RX11 yX11_seenBits yX11_seenBits, Cond.code yX11_seenBits cX11_seenBits 4 (some .int), Cond.methodLink RX11 273 yX11_blindMany, Cond.instanceMethod yX11_blindMany, Cond.selects RX11 yX11_blindMany yX11_blindMany, Cond.code yX11_blindMany cX11_blindMany 4 (some .int), Cond.methodLink RL 81 yX11_thrown, Cond.instanceMethod yX11_thrown]
def wsL_law0_r35 : List Cond := [Cond.selects RX11 yX11_thrown yX11_thrown, Cond.code yX11_thrown cX11_thrown 1 (some .int), Cond.methodLink RL 84 yL_targetOf, Cond.static yL_targetOf, Cond.codeWith yL_targetOf cL_targetOf 5 (some .int) [(0, 10, 13, 13)], Cond.methodLink RL 15 yX10_targetOf, Cond.instanceMethod yX10_targetOf, Cond.selects RX10 yX10_targetOf yX10_targetOf, Cond.code yX10_targetOf cX10_targetOf 3 (some .int), Cond.fieldLink RX10 254 "StaggerRadar$Radar" "spots" "[I", Cond.fieldLink RX10 257 "StaggerRadar$Radar" "speeds" "[I", Cond.fieldLink RX10 260 "StaggerRadar$Radar" "strengths" "[I", Cond.methodLink RX10 251 yX5_rangeOf, Cond.methodLink RX10 263 yX5_gapsThatSee, Cond.instanceMethod yX5_gapsThatSee, Cond.selects RX5 yX5_gapsThatSee yX5_gapsThatSee, Cond.code yX5_gapsThatSee cX5_gapsThatSee 4 (some .int), Cond.methodLink RX10 266 yX7_blindGaps, Cond.methodLink RX10 269 yX3_standingOf, Cond.methodLink RL 86 yX11_targetOf, Cond.instanceMethod yX11_targetOf, Cond.selects RX11 yX11_targetOf yX11_targetOf, Cond.code yX11_targetOf cX11_targetOf 3 (some .int), Cond.methodLink RX11 276 yX11_seenBy]
def wsL_law0_r36 : List Cond := [Cond.instanceMethod yX11_seenBy, Cond.selects RX11 yX11_seenBy yX11_seenBy, Cond.code yX11_seenBy cX11_seenBy 4 (some .int), Cond.methodLink RL 87 yX10_blind, Cond.instanceMethod yX10_blind, Cond.selects RX10 yX10_blind yX10_blind, Cond.code yX10_blind cX10_blind 2 (some .int), Cond.methodLink RL 90 yX11_blind, Cond.instanceMethod yX11_blind, Cond.selects RX11 yX11_blind yX11_blind, Cond.code yX11_blind cX11_blind 2 (some .int), Cond.methodLink RL 91 yX10_doppler, Cond.instanceMethod yX10_doppler, Cond.selects RX10 yX10_doppler yX10_doppler, Cond.code yX10_doppler cX10_doppler 3 (some .int), Cond.methodLink RX10 272 yX10_rest, Cond.methodLink RL 94 yX11_doppler, Cond.instanceMethod yX11_doppler, Cond.selects RX11 yX11_doppler yX11_doppler, Cond.code yX11_doppler cX11_doppler 3 (some .int), Cond.methodLink RL 95 yX10_dark, Cond.instanceMethod yX10_dark, Cond.selects RX10 yX10_dark yX10_dark, Cond.code yX10_dark cX10_dark 2 (some .int)]
def wsL_law0_r37 : List Cond := [Cond.methodLink RX10 275 yX7_darkAt, Cond.static yX7_darkAt, Cond.code yX7_darkAt cX7_darkAt 4 (some .int), Cond.methodLink RL 98 yX11_dark, Cond.instanceMethod yX11_dark, Cond.selects RX11 yX11_dark yX11_dark, Cond.code yX11_dark cX11_dark 4 (some .int), Cond.methodLink RL 99 yX10_period, Cond.instanceMethod yX10_period, Cond.selects RX10 yX10_period yX10_period, Cond.code yX10_period cX10_period 1 (some .int), Cond.methodLink RX10 278 yX7_leastUnshifted, Cond.static yX7_leastUnshifted, Cond.code yX7_leastUnshifted cX7_leastUnshifted 3 (some .int), Cond.static yX10_commonDivisor, Cond.code yX10_commonDivisor cX10_commonDivisor 6 (some .int), Cond.methodLink RL 102 yX11_period, Cond.instanceMethod yX11_period, Cond.selects RX11 yX11_period yX11_period, Cond.code yX11_period cX11_period 4 (some .int), Cond.methodLink RL 103 yX10_reach, Cond.instanceMethod yX10_reach, Cond.selects RX10 yX10_reach yX10_reach, Cond.code yX10_reach cX10_reach 6 (some .int)]
def wsL_law0_r38 : List Cond := [Cond.constant RX10 283 (-2147483648), Cond.methodLink RX10 284 yX10_leastCommon, Cond.static yX10_leastCommon, Cond.code yX10_leastCommon cX10_leastCommon 3 (some .int), Cond.methodLink RX10 389 yX10_commonDivisor, Cond.methodLink RL 106 yX11_reach, Cond.instanceMethod yX11_reach, Cond.selects RX11 yX11_reach yX11_reach, Cond.code yX11_reach cX11_reach 5 (some .int), Cond.constant RX11 283 (-2147483648), Cond.methodLink RX11 284 yX11_reachOf, Cond.instanceMethod yX11_reachOf, Cond.selects RX11 yX11_reachOf yX11_reachOf, Cond.code yX11_reachOf cX11_reachOf 5 (some .long), Cond.methodLink RX11 279 yX11_measure, Cond.static yX11_measure, Cond.code yX11_measure cX11_measure 10 (some .long), Cond.methodLink RL 107 yX10_joined, Cond.instanceMethod yX10_joined, Cond.selects RX10 yX10_joined yX10_joined, Cond.code yX10_joined cX10_joined 9 (some .int), Cond.methodLink RX10 287 yX10_nextAtPlace, Cond.static yX10_nextAtPlace, Cond.code yX10_nextAtPlace cX10_nextAtPlace 7 (some .int)]
def wsL_law0_r39 : List Cond := [Cond.methodLink RL 111 yX11_joined, Cond.instanceMethod yX11_joined, Cond.selects RX11 yX11_joined yX11_joined, Cond.code yX11_joined cX11_joined 12 (some .int), Cond.methodLink RL 112 yX10_at, Cond.instanceMethod yX10_at, Cond.selects RX10 yX10_at yX10_at, Cond.code yX10_at cX10_at 4 (some .int), Cond.methodLink RX10 291 yX3_loudAt, Cond.instanceMethod yX3_loudAt, Cond.selects RX3 yX3_loudAt yX3_loudAt, Cond.code yX3_loudAt cX3_loudAt 3 (some .int), Cond.methodLink RX10 294 yX3_targetsAt, Cond.instanceMethod yX3_targetsAt, Cond.selects RX3 yX3_targetsAt yX3_targetsAt, Cond.code yX3_targetsAt cX3_targetsAt 3 (some .int), Cond.methodLink RL 116 yX11_at, Cond.instanceMethod yX11_at, Cond.selects RX11 yX11_at yX11_at, Cond.code yX11_at cX11_at 8 (some .int), Cond.methodLink RL 117 yX10_hits, Cond.instanceMethod yX10_hits, Cond.selects RX10 yX10_hits yX10_hits, Cond.code yX10_hits cX10_hits 2 (some .int)]
def wsL_law0_r40 : List Cond := [Cond.methodLink RX10 297 yX3_hitsOf, Cond.methodLink RL 120 yX11_hits, Cond.instanceMethod yX11_hits, Cond.selects RX11 yX11_hits yX11_hits, Cond.code yX11_hits cX11_hits 2 (some .int), Cond.methodLink RL 121 yX10_found, Cond.instanceMethod yX10_found, Cond.selects RX10 yX10_found yX10_found, Cond.code yX10_found cX10_found 3 (some .int), Cond.methodLink RX10 300 yX3_foundAt, Cond.instanceMethod yX3_foundAt, Cond.selects RX3 yX3_foundAt yX3_foundAt, Cond.code yX3_foundAt cX3_foundAt 6 (some .int), Cond.methodLink RL 124 yX11_found, Cond.instanceMethod yX11_found, Cond.selects RX11 yX11_found yX11_found, Cond.code yX11_found cX11_found 5 (some .int), Cond.methodLink RL 125 yX10_makers, Cond.instanceMethod yX10_makers, Cond.selects RX10 yX10_makers yX10_makers, Cond.code yX10_makers cX10_makers 2 (some .int), Cond.methodLink RX10 304 yX3_makersOf, Cond.instanceMethod yX3_makersOf, Cond.selects RX3 yX3_makersOf yX3_makersOf]
def wsL_law0_r41 : List Cond := [Cond.code yX3_makersOf cX3_makersOf 6 (some .int), Cond.methodLink RX3 77 yX3_targetsAt, Cond.methodLink RL 128 yX11_makers, Cond.instanceMethod yX11_makers, Cond.selects RX11 yX11_makers yX11_makers, Cond.code yX11_makers cX11_makers 6 (some .int), Cond.methodLink RL 129 yX10_picture, Cond.instanceMethod yX10_picture, Cond.selects RX10 yX10_picture yX10_picture, Cond.code yX10_picture cX10_picture 3 (some .int), Cond.fieldLink RX10 307 "StaggerRadar$Echoes" "took" "[I", Cond.methodLink RL 132 yX11_picture, Cond.instanceMethod yX11_picture, Cond.selects RX11 yX11_picture yX11_picture, Cond.code yX11_picture cX11_picture 3 (some .int), Cond.methodLink RL 133 yX10_pairs, Cond.instanceMethod yX10_pairs, Cond.selects RX10 yX10_pairs yX10_pairs, Cond.code yX10_pairs cX10_pairs 2 (some .int), Cond.methodLink RX10 310 yX3_countPairings, Cond.instanceMethod yX3_countPairings, Cond.selects RX3 yX3_countPairings yX3_countPairings, Cond.code yX3_countPairings cX3_countPairings 4 (some .int), Cond.methodLink RX10 313 yX3_countJoined]
def wsL_law0_r42 : List Cond := [Cond.instanceMethod yX3_countJoined, Cond.selects RX3 yX3_countJoined yX3_countJoined, Cond.code yX3_countJoined cX3_countJoined 7 (some .int), Cond.methodLink RL 136 yX11_pairs, Cond.instanceMethod yX11_pairs, Cond.selects RX11 yX11_pairs yX11_pairs, Cond.code yX11_pairs cX11_pairs 8 (some .int), Cond.methodLink RL 137 yX10_track, Cond.instanceMethod yX10_track, Cond.selects RX10 yX10_track yX10_track, Cond.code yX10_track cX10_track 3 (some .int), Cond.constant RX10 317 (-100000), Cond.methodLink RX10 316 yX9_countAll, Cond.instanceMethod yX9_countAll, Cond.selects RX9 yX9_countAll yX9_countAll, Cond.code yX9_countAll cX9_countAll 2 (some .int), Cond.constant RX9 20 (2147483647), Cond.fieldLink RX9 25 "StaggerRadar$Tracks" "passed" "I", Cond.methodLink RX9 21 yX9_seek, Cond.instanceMethod yX9_seek, Cond.selects RX9 yX9_seek yX9_seek, Cond.code yX9_seek cX9_seek 4 (some .boolean), Cond.fieldLink RX9 29 "StaggerRadar$Radar" "lookCount" "I", Cond.fieldLink RX9 34 "StaggerRadar$Radar" "lookSizes" "[I"]
def wsL_law0_r43 : List Cond := [Cond.methodLink RX9 37 yX9_alignAll, Cond.instanceMethod yX9_alignAll, Cond.selects RX9 yX9_alignAll yX9_alignAll, Cond.code yX9_alignAll cX9_alignAll 4 none, Cond.methodLink RX9 52 yX9_alignedLasts, Cond.instanceMethod yX9_alignedLasts, Cond.selects RX9 yX9_alignedLasts yX9_alignedLasts, Cond.code yX9_alignedLasts cX9_alignedLasts 16 (some .int), Cond.fieldLink RX9 59 "StaggerRadar$Radar" "lookTimes" "[I", Cond.methodLink RX9 56 yX9_numberAt, Cond.static yX9_numberAt, Cond.code yX9_numberAt cX9_numberAt 3 (some .int), Cond.fieldLink RX9 62 "StaggerRadar$Radar" "lookNumbers" "[I", Cond.methodLink RX9 41 yX9_seekMiddle, Cond.instanceMethod yX9_seekMiddle, Cond.selects RX9 yX9_seekMiddle yX9_seekMiddle, Cond.code yX9_seekMiddle cX9_seekMiddle 11 (some .boolean), Cond.methodLink RX9 44 yJ6_bitCount_0f7a4, Cond.methodLink RX9 48 yX9_placeOfBit, Cond.static yX9_placeOfBit, Cond.code yX9_placeOfBit cX9_placeOfBit 4 (some .int), Cond.methodLink RX10 318 yX9_seek, Cond.methodLink RX10 322 yX9_paceOf, Cond.instanceMethod yX9_paceOf]
def wsL_law0_r44 : List Cond := [Cond.selects RX9 yX9_paceOf yX9_paceOf, Cond.code yX9_paceOf cX9_paceOf 5 (some .int), Cond.methodLink RX9 65 yX9_numberIn, Cond.instanceMethod yX9_numberIn, Cond.selects RX9 yX9_numberIn yX9_numberIn, Cond.code yX9_numberIn cX9_numberIn 3 (some .int), Cond.methodLink RX10 325 yX9_numberIn, Cond.methodLink RL 140 yX11_track, Cond.instanceMethod yX11_track, Cond.selects RX11 yX11_track yX11_track, Cond.code yX11_track cX11_track 8 (some .int), Cond.constant RX11 297 (-100000), Cond.methodLink RX11 291 yX11_isTrack, Cond.instanceMethod yX11_isTrack, Cond.selects RX11 yX11_isTrack yX11_isTrack, Cond.code yX11_isTrack cX11_isTrack 9 (some .boolean), Cond.methodLink RX11 288 yX11_numberAt, Cond.instanceMethod yX11_numberAt, Cond.selects RX11 yX11_numberAt yX11_numberAt, Cond.code yX11_numberAt cX11_numberAt 2 (some .int), Cond.methodLink RX11 294 yX11_goesOn, Cond.instanceMethod yX11_goesOn, Cond.selects RX11 yX11_goesOn yX11_goesOn, Cond.code yX11_goesOn cX11_goesOn 2 (some .boolean)]
def wsL_law0_r45 : List Cond := [Cond.methodLink RL 141 yX10_order, Cond.instanceMethod yX10_order, Cond.selects RX10 yX10_order yX10_order, Cond.code yX10_order cX10_order 3 (some .int), Cond.fieldLink RX10 332 "StaggerRadar$Dwell" "fewest" "I", Cond.fieldLink RX10 335 "StaggerRadar$Dwell" "best" "[I", Cond.methodLink RX10 328 yX2_arrange, Cond.instanceMethod yX2_arrange, Cond.selects RX2 yX2_arrange yX2_arrange, Cond.code yX2_arrange cX2_arrange 6 none, Cond.constant RX2 71 (2147483647), Cond.fieldLink RX2 72 "StaggerRadar$Dwell" "fewest" "I", Cond.methodLink RX2 33 arraycopyName, Cond.methodLink RX2 65 yX2_takeGaps, Cond.instanceMethod yX2_takeGaps, Cond.selects RX2 yX2_takeGaps yX2_takeGaps, Cond.code yX2_takeGaps cX2_takeGaps 2 none, Cond.fieldLink RX2 21 "StaggerRadar$Radar" "gapCount" "I", Cond.fieldLink RX2 27 "StaggerRadar$Dwell" "rowSize" "I", Cond.fieldLink RX2 30 "StaggerRadar$Radar" "gaps" "[I", Cond.methodLink RX2 75 yX2_send, Cond.instanceMethod yX2_send, Cond.selects RX2 yX2_send yX2_send, Cond.code yX2_send cX2_send 7 none]
def wsL_law0_r46 : List Cond := [Cond.fieldLink RX2 39 "StaggerRadar$Dwell" "pulses" "I", Cond.constant RX2 42 (1103515245), Cond.methodLink RX2 79 yX2_countHidden, Cond.instanceMethod yX2_countHidden, Cond.selects RX2 yX2_countHidden yX2_countHidden, Cond.code yX2_countHidden cX2_countHidden 5 (some .int), Cond.fieldLink RX2 52 "StaggerRadar$Radar" "targetCount" "I", Cond.fieldLink RX2 59 "StaggerRadar$Radar" "settings" "[I", Cond.methodLink RX2 55 yX5_rangeOf, Cond.methodLink RX2 62 yX2_countHiddenOf, Cond.instanceMethod yX2_countHiddenOf, Cond.selects RX2 yX2_countHiddenOf yX2_countHiddenOf, Cond.code yX2_countHiddenOf cX2_countHiddenOf 8 (some .int), Cond.methodLink RX2 47 Lib.Math.max.name, Cond.methodLink RX2 83 yX2_nextRow, Cond.instanceMethod yX2_nextRow, Cond.selects RX2 yX2_nextRow yX2_nextRow, Cond.code yX2_nextRow cX2_nextRow 5 (some .boolean), Cond.methodLink RX2 87 yX2_swap, Cond.instanceMethod yX2_swap, Cond.selects RX2 yX2_swap yX2_swap, Cond.code yX2_swap cX2_swap 4 none, Cond.methodLink RL 144 yX11_order, Cond.instanceMethod yX11_order]
def wsL_law0_r47 : List Cond := [Cond.selects RX11 yX11_order yX11_order, Cond.code yX11_order cX11_order 7 (some .int), Cond.methodLink RX11 305 yX11_inOrder, Cond.instanceMethod yX11_inOrder, Cond.selects RX11 yX11_inOrder yX11_inOrder, Cond.code yX11_inOrder cX11_inOrder 2 none, Cond.methodLink RX11 308 yX11_sends, Cond.instanceMethod yX11_sends, Cond.selects RX11 yX11_sends yX11_sends, Cond.code yX11_sends cX11_sends 6 none, Cond.fieldLink RX11 298 "StaggerRadarModel" "x" "I", Cond.constant RX11 301 (1103515245), Cond.methodLink RX11 315 yX11_heard, Cond.instanceMethod yX11_heard, Cond.selects RX11 yX11_heard yX11_heard, Cond.code yX11_heard cX11_heard 8 (some .int), Cond.methodLink RX11 302 yX11_isHidden, Cond.instanceMethod yX11_isHidden, Cond.selects RX11 yX11_isHidden yX11_isHidden, Cond.code yX11_isHidden cX11_isHidden 4 (some .boolean), Cond.methodLink RX11 318 yX11_nextOrder, Cond.instanceMethod yX11_nextOrder, Cond.selects RX11 yX11_nextOrder yX11_nextOrder, Cond.code yX11_nextOrder cX11_nextOrder 6 (some .boolean)]
def wsL_law0_r48 : List Cond := [Cond.methodLink RL 145 yX10_choose, Cond.instanceMethod yX10_choose, Cond.selects RX10 yX10_choose yX10_choose, Cond.code yX10_choose cX10_choose 5 (some .int), Cond.fieldLink RX10 342 "StaggerRadar$Chooser" "fitCount" "I", Cond.fieldLink RX10 345 "StaggerRadar$Chooser" "leastSum" "I", Cond.fieldLink RX10 348 "StaggerRadar$Chooser" "best" "[I", Cond.methodLink RX10 338 yX1_searchAll, Cond.instanceMethod yX1_searchAll, Cond.selects RX1 yX1_searchAll yX1_searchAll, Cond.code yX1_searchAll cX1_searchAll 6 none, Cond.fieldLink RX1 28 "StaggerRadar$Chooser" "size" "I", Cond.fieldLink RX1 32 "StaggerRadar$Chooser" "low" "I", Cond.methodLink RX1 35 Lib.Math.min.name, Cond.fieldLink RX1 41 "StaggerRadar$Chooser" "width" "I", Cond.fieldLink RX1 44 "StaggerRadar$Radar" "settings" "[I", Cond.fieldLink RX1 49 "StaggerRadar$Chooser" "limit" "I", Cond.fieldLink RX1 52 "StaggerRadar$Chooser" "needed" "I", Cond.fieldLink RX1 55 "StaggerRadar$Chooser" "parts" "I", Cond.fieldLink RX1 58 "StaggerRadar$Chooser" "fitCount" "I", Cond.constant RX1 63 (2147483647), Cond.fieldLink RX1 64 "StaggerRadar$Chooser" "leastSum" "I", Cond.methodLink RX1 80 arraycopyName, Cond.methodLink RX1 67 yX1_openAll]
def wsL_law0_r49 : List Cond := [Cond.instanceMethod yX1_openAll, Cond.selects RX1 yX1_openAll yX1_openAll, Cond.code yX1_openAll cX1_openAll 4 none, Cond.methodLink RX1 71 yJ7_fill_d0a16, Cond.static yJ7_fill_d0a16, Cond.code yJ7_fill_d0a16 cJ7_fill_d0a16 5 none, Cond.methodLink RX1 90 yX5_hides, Cond.methodLink RX1 77 yX1_cellOf, Cond.static yX1_cellOf, Cond.code yX1_cellOf cX1_cellOf 2 (some .int), Cond.methodLink RX1 86 yX1_descend, Cond.instanceMethod yX1_descend, Cond.selects RX1 yX1_descend yX1_descend, Cond.code yX1_descend cX1_descend 8 none, Cond.methodLink RX1 97 yX1_addChoice, Cond.instanceMethod yX1_addChoice, Cond.selects RX1 yX1_addChoice yX1_addChoice, Cond.code yX1_addChoice cX1_addChoice 8 none, Cond.methodLink RX1 101 yX1_opensAll, Cond.instanceMethod yX1_opensAll, Cond.selects RX1 yX1_opensAll yX1_opensAll, Cond.code yX1_opensAll cX1_opensAll 8 (some .boolean), Cond.methodLink RX1 104 yX1_keepFit, Cond.instanceMethod yX1_keepFit]
def wsL_law0_r50 : List Cond := [Cond.selects RX1 yX1_keepFit yX1_keepFit, Cond.code yX1_keepFit cX1_keepFit 2 none, Cond.methodLink RL 149 yX11_choose, Cond.instanceMethod yX11_choose, Cond.selects RX11 yX11_choose yX11_choose, Cond.code yX11_choose cX11_choose 10 (some .int), Cond.methodLink RX11 321 yX11_isFit, Cond.instanceMethod yX11_isFit, Cond.selects RX11 yX11_isFit yX11_isFit, Cond.code yX11_isFit cX11_isFit 9 (some .boolean), Cond.methodLink RX11 324 yX11_nextChosen, Cond.instanceMethod yX11_nextChosen, Cond.selects RX11 yX11_nextChosen yX11_nextChosen, Cond.code yX11_nextChosen cX11_nextChosen 5 (some .boolean), Cond.methodLink RL 150 yX10_more, Cond.instanceMethod yX10_more, Cond.selects RX10 yX10_more yX10_more, Cond.code yX10_more cX10_more 2 (some .int), Cond.methodLink RX10 349 yX0_weighGhosts, Cond.instanceMethod yX0_weighGhosts, Cond.selects RX0 yX0_weighGhosts yX0_weighGhosts, Cond.code yX0_weighGhosts cX0_weighGhosts 4 none, Cond.fieldLink RX0 42 "StaggerRadar$Radar" "gapCount" "I", Cond.methodLink RX0 36 yX3_markHits]
def wsL_law0_r51 : List Cond := [Cond.methodLink RX0 46 yX3_listenBy, Cond.methodLink RX0 50 yX3_countFurtherGhosts, Cond.instanceMethod yX3_countFurtherGhosts, Cond.selects RX3 yX3_countFurtherGhosts yX3_countFurtherGhosts, Cond.code yX3_countFurtherGhosts cX3_countFurtherGhosts 8 (some .int), Cond.methodLink RX3 132 yX3_isNearGhost, Cond.instanceMethod yX3_isNearGhost, Cond.selects RX3 yX3_isNearGhost yX3_isNearGhost, Cond.code yX3_isNearGhost cX3_isNearGhost 3 (some .boolean), Cond.methodLink RX10 353 yX0_weighDark, Cond.instanceMethod yX0_weighDark, Cond.selects RX0 yX0_weighDark yX0_weighDark, Cond.code yX0_weighDark cX0_weighDark 4 none, Cond.fieldLink RX0 21 "StaggerRadar$Radar" "settings" "[I", Cond.methodLink RX0 15 yJ7_fill_53178, Cond.methodLink RX0 26 yX7_countOpen, Cond.methodLink RX0 32 yX5_hides, Cond.methodLink RX10 356 yX0_bestGap, Cond.instanceMethod yX0_bestGap, Cond.selects RX0 yX0_bestGap yX0_bestGap, Cond.code yX0_bestGap cX0_bestGap 4 (some .int), Cond.methodLink RX0 53 yX5_indexOfGap, Cond.methodLink RL 153 yX11_more, Cond.instanceMethod yX11_more]
def wsL_law0_r52 : List Cond := [Cond.selects RX11 yX11_more yX11_more, Cond.code yX11_more cX11_more 6 (some .int), Cond.methodLink RX11 327 yX11_copies, Cond.instanceMethod yX11_copies, Cond.selects RX11 yX11_copies yX11_copies, Cond.code yX11_copies cX11_copies 4 none, Cond.methodLink RL 154 yX10_shaken, Cond.instanceMethod yX10_shaken, Cond.selects RX10 yX10_shaken yX10_shaken, Cond.code yX10_shaken cX10_shaken 3 (some .int), Cond.methodLink RX10 359 yX7_countShaken, Cond.static yX7_countShaken, Cond.code yX7_countShaken cX7_countShaken 8 (some .int), Cond.methodLink RX7 45 yX7_countOpenShaken, Cond.static yX7_countOpenShaken, Cond.code yX7_countOpenShaken cX7_countOpenShaken 6 (some .int), Cond.methodLink RL 157 yX11_shaken, Cond.instanceMethod yX11_shaken, Cond.selects RX11 yX11_shaken yX11_shaken, Cond.code yX11_shaken cX11_shaken 9 (some .int), Cond.methodLink RL 158 yX10_dwell, Cond.instanceMethod yX10_dwell, Cond.selects RX10 yX10_dwell yX10_dwell, Cond.code yX10_dwell cX10_dwell 5 (some .int)]
def wsL_law0_r53 : List Cond := [Cond.constant RX10 375 (2147483647), Cond.methodLink RX10 362 yX2_takeGaps, Cond.methodLink RX10 365 yX2_send, Cond.methodLink RX10 368 yX2_lastSent, Cond.instanceMethod yX2_lastSent, Cond.selects RX2 yX2_lastSent yX2_lastSent, Cond.code yX2_lastSent cX2_lastSent 1 (some .int), Cond.methodLink RX10 372 yX2_countClear, Cond.instanceMethod yX2_countClear, Cond.selects RX2 yX2_countClear yX2_countClear, Cond.code yX2_countClear cX2_countClear 5 (some .int), Cond.methodLink RX10 376 yX2_countHidden, Cond.methodLink RX10 379 yX2_longestGap, Cond.instanceMethod yX2_longestGap, Cond.selects RX2 yX2_longestGap yX2_longestGap, Cond.code yX2_longestGap cX2_longestGap 3 (some .int), Cond.methodLink RL 161 yX11_dwell, Cond.instanceMethod yX11_dwell, Cond.selects RX11 yX11_dwell yX11_dwell, Cond.code yX11_dwell cX11_dwell 7 (some .int), Cond.methodLink RX11 312 yX11_greater, Cond.static yX11_greater, Cond.code yX11_greater cX11_greater 2 (some .int), Cond.methodLink RL 162 yX10_until]
def wsL_law0_r54 : List Cond := [Cond.instanceMethod yX10_until, Cond.selects RX10 yX10_until yX10_until, Cond.code yX10_until cX10_until 4 (some .int), Cond.methodLink RX10 382 yX5_findsAfter, Cond.instanceMethod yX5_findsAfter, Cond.selects RX5 yX5_findsAfter yX5_findsAfter, Cond.code yX5_findsAfter cX5_findsAfter 7 (some .boolean), Cond.methodLink RX5 98 yX5_loudAfter, Cond.instanceMethod yX5_loudAfter, Cond.selects RX5 yX5_loudAfter yX5_loudAfter, Cond.code yX5_loudAfter cX5_loudAfter 8 (some .int), Cond.methodLink RL 165 yX11_until, Cond.instanceMethod yX11_until, Cond.selects RX11 yX11_until yX11_until, Cond.code yX11_until cX11_until 6 (some .int), Cond.methodLink RX11 330 yX11_goesOnBy, Cond.instanceMethod yX11_goesOnBy, Cond.selects RX11 yX11_goesOnBy yX11_goesOnBy, Cond.code yX11_goesOnBy cX11_goesOnBy 6 (some .int), Cond.methodLink RL 166 yX10_image, Cond.instanceMethod yX10_image, Cond.selects RX10 yX10_image yX10_image, Cond.code yX10_image cX10_image 2 (some .boolean), Cond.methodLink RX10 386 yX8_copyFrom]
def wsL_law0_r55 : List Cond := [Cond.instanceMethod yX8_copyFrom, Cond.selects RX8 yX8_copyFrom yX8_copyFrom, Cond.code yX8_copyFrom cX8_copyFrom 2 none, Cond.methodLink RX8 22 arraycopyName, Cond.fieldLink RX8 28 "StaggerRadar$Text" "faultKind" "I", Cond.methodLink RL 170 yX11_image, Cond.instanceMethod yX11_image, Cond.selects RX11 yX11_image yX11_image, Cond.code yX11_image cX11_image 2 (some .boolean), Cond.methodLink RX11 333 yX11_copiesText, Cond.instanceMethod yX11_copiesText, Cond.selects RX11 yX11_copiesText yX11_copiesText, Cond.code yX11_copiesText cX11_copiesText 4 none, Cond.methodLink RL 171 yX10_again, Cond.instanceMethod yX10_again, Cond.selects RX10 yX10_again yX10_again, Cond.code yX10_again cX10_again 2 (some .boolean), Cond.methodLink RL 174 yX11_again, Cond.instanceMethod yX11_again, Cond.selects RX11 yX11_again yX11_again, Cond.code yX11_again cX11_again 2 (some .boolean)]
def wsL_law0 : List Cond := (wsL_law0_r1 ++ (wsL_law0_r2 ++ (wsL_law0_r3 ++ (wsL_law0_r4 ++ (wsL_law0_r5 ++ (wsL_law0_r6 ++ (wsL_law0_r7 ++ (wsL_law0_r8 ++ (wsL_law0_r9 ++ (wsL_law0_r10 ++ (wsL_law0_r11 ++ (wsL_law0_r12 ++ (wsL_law0_r13 ++ (wsL_law0_r14 ++ (wsL_law0_r15 ++ (wsL_law0_r16 ++ (wsL_law0_r17 ++ (wsL_law0_r18 ++ (wsL_law0_r19 ++ (wsL_law0_r20 ++ (wsL_law0_r21 ++ (wsL_law0_r22 ++ (wsL_law0_r23 ++ (wsL_law0_r24 ++ (wsL_law0_r25 ++ (wsL_law0_r26 ++ (wsL_law0_r27 ++ (wsL_law0_r28 ++ (wsL_law0_r29 ++ (wsL_law0_r30 ++ (wsL_law0_r31 ++ (wsL_law0_r32 ++ (wsL_law0_r33 ++ (wsL_law0_r34 ++ (wsL_law0_r35 ++ (wsL_law0_r36 ++ (wsL_law0_r37 ++ (wsL_law0_r38 ++ (wsL_law0_r39 ++ (wsL_law0_r40 ++ (wsL_law0_r41 ++ (wsL_law0_r42 ++ (wsL_law0_r43 ++ (wsL_law0_r44 ++ (wsL_law0_r45 ++ (wsL_law0_r46 ++ (wsL_law0_r47 ++ (wsL_law0_r48 ++ (wsL_law0_r49 ++ (wsL_law0_r50 ++ (wsL_law0_r51 ++ (wsL_law0_r52 ++ (wsL_law0_r53 ++ (wsL_law0_r54 ++ wsL_law0_r55)))))))))))))))))))))))))))))))))))))))))))))))))))))) ++ wsX100 ++ wsX110 ++ wsX50 ++ wsX80 ++ wsX60 ++ wsX40 ++ wsX30 ++ wsX90 ++ wsX20 ++ wsX10 ++ wsX00 ++ ([] : List Cond)
def wsL_law : List Cond := wsL_law0 ++ (vx_at0 RX10 237 "java/util/NoSuchElementException" ["java/lang/RuntimeException", "java/lang/Exception"]).filter goodWord
theorem wsL_law_x0 : ∀ w ∈ (vx_at0 RX10 237 "java/util/NoSuchElementException" ["java/lang/RuntimeException", "java/lang/Exception"]).filter goodWord, w ∈ lw_tbl := by decide +kernel
theorem inlX0 : ∀ w ∈ wsX00, w ∈ wsL_law := fun _ h => List.mem_append_left _ (List.mem_append_left _ (List.mem_append_right _ h))
theorem inlX1 : ∀ w ∈ wsX10, w ∈ wsL_law := fun _ h => List.mem_append_left _ (List.mem_append_left _ (List.mem_append_left _ (List.mem_append_right _ h)))
theorem inlX2 : ∀ w ∈ wsX20, w ∈ wsL_law := fun _ h => List.mem_append_left _ (List.mem_append_left _ (List.mem_append_left _ (List.mem_append_left _ (List.mem_append_right _ h))))
theorem inlX3 : ∀ w ∈ wsX30, w ∈ wsL_law := fun _ h => List.mem_append_left _ (List.mem_append_left _ (List.mem_append_left _ (List.mem_append_left _ (List.mem_append_left _ (List.mem_append_left _ (List.mem_append_right _ h))))))
theorem inlX4 : ∀ w ∈ wsX40, w ∈ wsL_law := fun _ h => List.mem_append_left _ (List.mem_append_left _ (List.mem_append_left _ (List.mem_append_left _ (List.mem_append_left _ (List.mem_append_left _ (List.mem_append_left _ (List.mem_append_right _ h)))))))
theorem inlX5 : ∀ w ∈ wsX50, w ∈ wsL_law := fun _ h => List.mem_append_left _ (List.mem_append_left _ (List.mem_append_left _ (List.mem_append_left _ (List.mem_append_left _ (List.mem_append_left _ (List.mem_append_left _ (List.mem_append_left _ (List.mem_append_left _ (List.mem_append_left _ (List.mem_append_right _ h))))))))))
theorem inlX6 : ∀ w ∈ wsX60, w ∈ wsL_law := fun _ h => List.mem_append_left _ (List.mem_append_left _ (List.mem_append_left _ (List.mem_append_left _ (List.mem_append_left _ (List.mem_append_left _ (List.mem_append_left _ (List.mem_append_left _ (List.mem_append_right _ h))))))))
theorem inlX8 : ∀ w ∈ wsX80, w ∈ wsL_law := fun _ h => List.mem_append_left _ (List.mem_append_left _ (List.mem_append_left _ (List.mem_append_left _ (List.mem_append_left _ (List.mem_append_left _ (List.mem_append_left _ (List.mem_append_left _ (List.mem_append_left _ (List.mem_append_right _ h)))))))))
theorem inlX9 : ∀ w ∈ wsX90, w ∈ wsL_law := fun _ h => List.mem_append_left _ (List.mem_append_left _ (List.mem_append_left _ (List.mem_append_left _ (List.mem_append_left _ (List.mem_append_right _ h)))))
theorem inlX10 : ∀ w ∈ wsX100, w ∈ wsL_law := fun _ h => List.mem_append_left _ (List.mem_append_left _ (List.mem_append_left _ (List.mem_append_left _ (List.mem_append_left _ (List.mem_append_left _ (List.mem_append_left _ (List.mem_append_left _ (List.mem_append_left _ (List.mem_append_left _ (List.mem_append_left _ (List.mem_append_left _ (List.mem_append_right _ h))))))))))))
theorem inlX11 : ∀ w ∈ wsX110, w ∈ wsL_law := fun _ h => List.mem_append_left _ (List.mem_append_left _ (List.mem_append_left _ (List.mem_append_left _ (List.mem_append_left _ (List.mem_append_left _ (List.mem_append_left _ (List.mem_append_left _ (List.mem_append_left _ (List.mem_append_left _ (List.mem_append_left _ (List.mem_append_right _ h)))))))))))
theorem dX0_init_0 : decode cX0_init 0 = .ok (.aload_n 0, 1) := by decide +kernel
theorem dX0_init_1 : decode cX0_init 1 = .ok (.invokespecial 3, 3) := by decide +kernel
theorem dX0_init_4 : decode cX0_init 4 = .ok (.aload_n 0, 1) := by decide +kernel
theorem dX0_init_5 : decode cX0_init 5 = .ok (.bipush 61, 2) := by decide +kernel
theorem dX0_init_7 : decode cX0_init 7 = .ok (.newarray .int, 2) := by decide +kernel
theorem dX0_init_9 : decode cX0_init 9 = .ok (.putfield 9, 3) := by decide +kernel
theorem dX0_init_12 : decode cX0_init 12 = .ok (.return_, 1) := by decide +kernel
set_option maxRecDepth 20000 in
theorem ggX0_weighDark_J7_fill_53178 : GoodIn wsX0_weighDark wsJ7_fill_53178 := goodIn_r _ [6] (by decide +kernel) (by decide +kernel)
set_option maxRecDepth 20000 in
theorem gX0_weighDark_J7_fill_53178 : GoodIn wsX0_weighDark (va_wsS RX0 15 yJ7_fill_53178 wsJ7_fill_53178) := goodIn_app (goodIn_of _ (by decide +kernel)) ggX0_weighDark_J7_fill_53178
set_option maxRecDepth 20000 in
theorem ggX0_weighDark_X7_countOpen : GoodIn wsX0_weighDark wsX7_countOpen := goodIn_r _ [10, 11, 12, 13, 9, 14, 15, 16, 17, 18, 19, 20, 21, 22, 23, 24, 25, 26, 27, 28, 29, 30, 31, 34, 35, 36, 37, 38, 39, 40, 41, 42, 43, 44, 45, 46] (by decide +kernel) (by decide +kernel)
set_option maxRecDepth 20000 in
theorem gX0_weighDark_X7_countOpen : GoodIn wsX0_weighDark (va_wsS RX0 26 yX7_countOpen wsX7_countOpen) := goodIn_app (goodIn_of _ (by decide +kernel)) ggX0_weighDark_X7_countOpen
set_option maxRecDepth 20000 in
theorem ggX0_weighDark_X5_hides : GoodIn wsX0_weighDark wsX5_hides := goodIn_r _ [20, 21, 22, 23, 24, 34, 35, 36, 37, 38, 39, 40, 41, 42, 43, 44, 45, 46] (by decide +kernel) (by decide +kernel)
set_option maxRecDepth 20000 in
theorem gX0_weighDark_X5_hides : GoodIn wsX0_weighDark (wsV RX0 32 RX5 yX5_hides wsX5_hides) := goodIn_app (goodIn_of _ (by decide +kernel)) ggX0_weighDark_X5_hides
theorem dX0_weighDark_0 : decode cX0_weighDark 0 = .ok (.aload_n 0, 1) := by decide +kernel
theorem dX0_weighDark_1 : decode cX0_weighDark 1 = .ok (.getfield 9, 3) := by decide +kernel
theorem dX0_weighDark_4 : decode cX0_weighDark 4 = .ok (.iconst 0, 1) := by decide +kernel
theorem dX0_weighDark_5 : decode cX0_weighDark 5 = .ok (.invokestatic 15, 3) := by decide +kernel
theorem dX0_weighDark_8 : decode cX0_weighDark 8 = .ok (.iconst 1, 1) := by decide +kernel
theorem dX0_weighDark_9 : decode cX0_weighDark 9 = .ok (.istore_n 2, 1) := by decide +kernel
theorem dX0_weighDark_10 : decode cX0_weighDark 10 = .ok (.iload_n 2, 1) := by decide +kernel
theorem dX0_weighDark_11 : decode cX0_weighDark 11 = .ok (.aload_n 1, 1) := by decide +kernel
theorem dX0_weighDark_12 : decode cX0_weighDark 12 = .ok (.getfield 21, 3) := by decide +kernel
theorem dX0_weighDark_15 : decode cX0_weighDark 15 = .ok (.iconst 5, 1) := by decide +kernel
theorem dX0_weighDark_16 : decode cX0_weighDark 16 = .ok (.iaload, 1) := by decide +kernel
theorem dX0_weighDark_17 : decode cX0_weighDark 17 = .ok (.if_icmp .gt 58, 3) := by decide +kernel
theorem dX0_weighDark_20 : decode cX0_weighDark 20 = .ok (.aload_n 1, 1) := by decide +kernel
theorem dX0_weighDark_21 : decode cX0_weighDark 21 = .ok (.iload_n 2, 1) := by decide +kernel
theorem dX0_weighDark_22 : decode cX0_weighDark 22 = .ok (.invokestatic 26, 3) := by decide +kernel
theorem dX0_weighDark_25 : decode cX0_weighDark 25 = .ok (.iconst 1, 1) := by decide +kernel
theorem dX0_weighDark_26 : decode cX0_weighDark 26 = .ok (.iadd, 1) := by decide +kernel
theorem dX0_weighDark_27 : decode cX0_weighDark 27 = .ok (.aload_n 1, 1) := by decide +kernel
theorem dX0_weighDark_28 : decode cX0_weighDark 28 = .ok (.getfield 21, 3) := by decide +kernel
theorem dX0_weighDark_31 : decode cX0_weighDark 31 = .ok (.iconst 4, 1) := by decide +kernel
theorem dX0_weighDark_32 : decode cX0_weighDark 32 = .ok (.iaload, 1) := by decide +kernel
theorem dX0_weighDark_33 : decode cX0_weighDark 33 = .ok (.if_icmp .ne 36, 3) := by decide +kernel
theorem dX0_weighDark_36 : decode cX0_weighDark 36 = .ok (.iconst 4, 1) := by decide +kernel
theorem dX0_weighDark_37 : decode cX0_weighDark 37 = .ok (.istore_n 3, 1) := by decide +kernel
theorem dX0_weighDark_38 : decode cX0_weighDark 38 = .ok (.iload_n 3, 1) := by decide +kernel
theorem dX0_weighDark_39 : decode cX0_weighDark 39 = .ok (.bipush 60, 2) := by decide +kernel
theorem dX0_weighDark_41 : decode cX0_weighDark 41 = .ok (.if_icmp .gt 28, 3) := by decide +kernel
theorem dX0_weighDark_44 : decode cX0_weighDark 44 = .ok (.aload_n 1, 1) := by decide +kernel
theorem dX0_weighDark_45 : decode cX0_weighDark 45 = .ok (.iload_n 2, 1) := by decide +kernel
theorem dX0_weighDark_46 : decode cX0_weighDark 46 = .ok (.iload_n 3, 1) := by decide +kernel
theorem dX0_weighDark_47 : decode cX0_weighDark 47 = .ok (.invokevirtual 32, 3) := by decide +kernel
theorem dX0_weighDark_50 : decode cX0_weighDark 50 = .ok (.ifCond .ne 13, 3) := by decide +kernel
theorem dX0_weighDark_53 : decode cX0_weighDark 53 = .ok (.aload_n 0, 1) := by decide +kernel
theorem dX0_weighDark_54 : decode cX0_weighDark 54 = .ok (.getfield 9, 3) := by decide +kernel
theorem dX0_weighDark_57 : decode cX0_weighDark 57 = .ok (.iload_n 3, 1) := by decide +kernel
theorem dX0_weighDark_58 : decode cX0_weighDark 58 = .ok (.dup2, 1) := by decide +kernel
theorem dX0_weighDark_59 : decode cX0_weighDark 59 = .ok (.iaload, 1) := by decide +kernel
theorem dX0_weighDark_60 : decode cX0_weighDark 60 = .ok (.iconst 1, 1) := by decide +kernel
theorem dX0_weighDark_61 : decode cX0_weighDark 61 = .ok (.isub, 1) := by decide +kernel
theorem dX0_weighDark_62 : decode cX0_weighDark 62 = .ok (.iastore, 1) := by decide +kernel
theorem dX0_weighDark_63 : decode cX0_weighDark 63 = .ok (.iinc 3 1, 3) := by decide +kernel
theorem dX0_weighDark_66 : decode cX0_weighDark 66 = .ok (.goto (-28), 3) := by decide +kernel
theorem dX0_weighDark_69 : decode cX0_weighDark 69 = .ok (.iinc 2 1, 3) := by decide +kernel
theorem dX0_weighDark_72 : decode cX0_weighDark 72 = .ok (.goto (-62), 3) := by decide +kernel
theorem dX0_weighDark_75 : decode cX0_weighDark 75 = .ok (.return_, 1) := by decide +kernel
set_option maxRecDepth 20000 in
theorem ggX0_weighGhosts_X3_markHits : GoodIn wsX0_weighGhosts wsX3_markHits := goodIn_r _ [7, 8, 9, 10, 11, 12, 13, 14, 15, 16, 17, 6, 18, 19, 20, 21, 22, 23, 24, 25, 26, 27, 28, 95, 96, 97, 98, 99, 100, 81, 82, 83, 84, 85, 86, 87, 88, 89, 90, 91, 92, 93] (by decide +kernel) (by decide +kernel)
set_option maxRecDepth 20000 in
theorem gX0_weighGhosts_X3_markHits : GoodIn wsX0_weighGhosts (wsV RX0 36 RX3 yX3_markHits wsX3_markHits) := goodIn_app (goodIn_of _ (by decide +kernel)) ggX0_weighGhosts_X3_markHits
set_option maxRecDepth 20000 in
theorem ggX0_weighGhosts_X3_listenBy : GoodIn wsX0_weighGhosts wsX3_listenBy := goodIn_r _ [32, 33, 19, 34, 35, 36, 37, 38, 39, 40, 41, 42, 43, 44, 45, 46, 47, 48, 49, 50, 51, 52, 53, 54, 55, 56, 57, 58, 59, 60, 95, 96, 97, 98, 99, 100, 81, 82, 83, 84, 85, 86, 87, 88, 89, 90, 91, 92, 93] (by decide +kernel) (by decide +kernel)
set_option maxRecDepth 20000 in
theorem gX0_weighGhosts_X3_listenBy : GoodIn wsX0_weighGhosts (wsV RX0 46 RX3 yX3_listenBy wsX3_listenBy) := goodIn_app (goodIn_of _ (by decide +kernel)) ggX0_weighGhosts_X3_listenBy
set_option maxRecDepth 20000 in
theorem ggX0_weighGhosts_X3_countFurtherGhosts : GoodIn wsX0_weighGhosts wsX3_countFurtherGhosts := goodIn_r _ [64, 9, 25, 26, 27, 28, 20, 15, 16, 17, 6, 18, 19, 65, 66, 67, 68, 8, 69, 70, 71, 72, 73, 74, 75, 76, 77, 78, 45, 79, 80, 49, 50, 51, 52, 53, 81, 82, 83, 84, 85, 86, 87, 88, 89, 90, 91, 92, 93, 95, 96, 97, 98, 99, 100] (by decide +kernel) (by decide +kernel)
set_option maxRecDepth 20000 in
theorem gX0_weighGhosts_X3_countFurtherGhosts : GoodIn wsX0_weighGhosts (wsV RX0 50 RX3 yX3_countFurtherGhosts wsX3_countFurtherGhosts) := goodIn_app (goodIn_of _ (by decide +kernel)) ggX0_weighGhosts_X3_countFurtherGhosts
theorem dX0_weighGhosts_0 : decode cX0_weighGhosts 0 = .ok (.aload_n 2, 1) := by decide +kernel
theorem dX0_weighGhosts_1 : decode cX0_weighGhosts 1 = .ok (.aload_n 1, 1) := by decide +kernel
theorem dX0_weighGhosts_2 : decode cX0_weighGhosts 2 = .ok (.invokevirtual 36, 3) := by decide +kernel
theorem dX0_weighGhosts_5 : decode cX0_weighGhosts 5 = .ok (.iconst 4, 1) := by decide +kernel
theorem dX0_weighGhosts_6 : decode cX0_weighGhosts 6 = .ok (.istore_n 3, 1) := by decide +kernel
theorem dX0_weighGhosts_7 : decode cX0_weighGhosts 7 = .ok (.iload_n 3, 1) := by decide +kernel
theorem dX0_weighGhosts_8 : decode cX0_weighGhosts 8 = .ok (.bipush 60, 2) := by decide +kernel
theorem dX0_weighGhosts_10 : decode cX0_weighGhosts 10 = .ok (.if_icmp .gt 31, 3) := by decide +kernel
theorem dX0_weighGhosts_13 : decode cX0_weighGhosts 13 = .ok (.aload_n 2, 1) := by decide +kernel
theorem dX0_weighGhosts_14 : decode cX0_weighGhosts 14 = .ok (.aload_n 1, 1) := by decide +kernel
theorem dX0_weighGhosts_15 : decode cX0_weighGhosts 15 = .ok (.aload_n 1, 1) := by decide +kernel
theorem dX0_weighGhosts_16 : decode cX0_weighGhosts 16 = .ok (.getfield 42, 3) := by decide +kernel
theorem dX0_weighGhosts_19 : decode cX0_weighGhosts 19 = .ok (.iload_n 3, 1) := by decide +kernel
theorem dX0_weighGhosts_20 : decode cX0_weighGhosts 20 = .ok (.invokevirtual 46, 3) := by decide +kernel
theorem dX0_weighGhosts_23 : decode cX0_weighGhosts 23 = .ok (.aload_n 0, 1) := by decide +kernel
theorem dX0_weighGhosts_24 : decode cX0_weighGhosts 24 = .ok (.getfield 9, 3) := by decide +kernel
theorem dX0_weighGhosts_27 : decode cX0_weighGhosts 27 = .ok (.iload_n 3, 1) := by decide +kernel
theorem dX0_weighGhosts_28 : decode cX0_weighGhosts 28 = .ok (.aload_n 2, 1) := by decide +kernel
theorem dX0_weighGhosts_29 : decode cX0_weighGhosts 29 = .ok (.aload_n 1, 1) := by decide +kernel
theorem dX0_weighGhosts_30 : decode cX0_weighGhosts 30 = .ok (.iload_n 3, 1) := by decide +kernel
theorem dX0_weighGhosts_31 : decode cX0_weighGhosts 31 = .ok (.invokevirtual 50, 3) := by decide +kernel
theorem dX0_weighGhosts_34 : decode cX0_weighGhosts 34 = .ok (.iastore, 1) := by decide +kernel
theorem dX0_weighGhosts_35 : decode cX0_weighGhosts 35 = .ok (.iinc 3 1, 3) := by decide +kernel
theorem dX0_weighGhosts_38 : decode cX0_weighGhosts 38 = .ok (.goto (-31), 3) := by decide +kernel
theorem dX0_weighGhosts_41 : decode cX0_weighGhosts 41 = .ok (.return_, 1) := by decide +kernel
set_option maxRecDepth 20000 in
theorem ggX0_bestGap_X5_indexOfGap : GoodIn wsX0_bestGap wsX5_indexOfGap := goodIn_r _ [6, 7, 8, 10, 11, 12, 13, 14, 15, 16, 17, 18, 19, 20, 21, 22] (by decide +kernel) (by decide +kernel)
set_option maxRecDepth 20000 in
theorem gX0_bestGap_X5_indexOfGap : GoodIn wsX0_bestGap (wsV RX0 53 RX5 yX5_indexOfGap wsX5_indexOfGap) := goodIn_app (goodIn_of _ (by decide +kernel)) ggX0_bestGap_X5_indexOfGap
theorem dX0_bestGap_0 : decode cX0_bestGap 0 = .ok (.iconst (-1), 1) := by decide +kernel
theorem dX0_bestGap_1 : decode cX0_bestGap 1 = .ok (.istore_n 2, 1) := by decide +kernel
theorem dX0_bestGap_2 : decode cX0_bestGap 2 = .ok (.iconst 4, 1) := by decide +kernel
theorem dX0_bestGap_3 : decode cX0_bestGap 3 = .ok (.istore_n 3, 1) := by decide +kernel
theorem dX0_bestGap_4 : decode cX0_bestGap 4 = .ok (.iload_n 3, 1) := by decide +kernel
theorem dX0_bestGap_5 : decode cX0_bestGap 5 = .ok (.bipush 60, 2) := by decide +kernel
theorem dX0_bestGap_7 : decode cX0_bestGap 7 = .ok (.if_icmp .gt 40, 3) := by decide +kernel
theorem dX0_bestGap_10 : decode cX0_bestGap 10 = .ok (.aload_n 1, 1) := by decide +kernel
theorem dX0_bestGap_11 : decode cX0_bestGap 11 = .ok (.iload_n 3, 1) := by decide +kernel
theorem dX0_bestGap_12 : decode cX0_bestGap 12 = .ok (.invokevirtual 53, 3) := by decide +kernel
theorem dX0_bestGap_15 : decode cX0_bestGap 15 = .ok (.iconst (-1), 1) := by decide +kernel
theorem dX0_bestGap_16 : decode cX0_bestGap 16 = .ok (.if_icmp .ne 25, 3) := by decide +kernel
theorem dX0_bestGap_19 : decode cX0_bestGap 19 = .ok (.iload_n 2, 1) := by decide +kernel
theorem dX0_bestGap_20 : decode cX0_bestGap 20 = .ok (.iconst (-1), 1) := by decide +kernel
theorem dX0_bestGap_21 : decode cX0_bestGap 21 = .ok (.if_icmp .eq 18, 3) := by decide +kernel
theorem dX0_bestGap_24 : decode cX0_bestGap 24 = .ok (.aload_n 0, 1) := by decide +kernel
theorem dX0_bestGap_25 : decode cX0_bestGap 25 = .ok (.getfield 9, 3) := by decide +kernel
theorem dX0_bestGap_28 : decode cX0_bestGap 28 = .ok (.iload_n 3, 1) := by decide +kernel
theorem dX0_bestGap_29 : decode cX0_bestGap 29 = .ok (.iaload, 1) := by decide +kernel
theorem dX0_bestGap_30 : decode cX0_bestGap 30 = .ok (.aload_n 0, 1) := by decide +kernel
theorem dX0_bestGap_31 : decode cX0_bestGap 31 = .ok (.getfield 9, 3) := by decide +kernel
theorem dX0_bestGap_34 : decode cX0_bestGap 34 = .ok (.iload_n 2, 1) := by decide +kernel
theorem dX0_bestGap_35 : decode cX0_bestGap 35 = .ok (.iaload, 1) := by decide +kernel
theorem dX0_bestGap_36 : decode cX0_bestGap 36 = .ok (.if_icmp .ge 5, 3) := by decide +kernel
theorem dX0_bestGap_39 : decode cX0_bestGap 39 = .ok (.iload_n 3, 1) := by decide +kernel
theorem dX0_bestGap_40 : decode cX0_bestGap 40 = .ok (.istore_n 2, 1) := by decide +kernel
theorem dX0_bestGap_41 : decode cX0_bestGap 41 = .ok (.iinc 3 1, 3) := by decide +kernel
theorem dX0_bestGap_44 : decode cX0_bestGap 44 = .ok (.goto (-40), 3) := by decide +kernel
theorem dX0_bestGap_47 : decode cX0_bestGap 47 = .ok (.iload_n 2, 1) := by decide +kernel
theorem dX0_bestGap_48 : decode cX0_bestGap 48 = .ok (.ireturn, 1) := by decide +kernel
theorem dX1_init_0 : decode cX1_init 0 = .ok (.aload_n 0, 1) := by decide +kernel
theorem dX1_init_1 : decode cX1_init 1 = .ok (.invokespecial 3, 3) := by decide +kernel
theorem dX1_init_4 : decode cX1_init 4 = .ok (.aload_n 0, 1) := by decide +kernel
theorem dX1_init_5 : decode cX1_init 5 = .ok (.bipush 84, 2) := by decide +kernel
theorem dX1_init_7 : decode cX1_init 7 = .ok (.newarray .long, 2) := by decide +kernel
theorem dX1_init_9 : decode cX1_init 9 = .ok (.putfield 11, 3) := by decide +kernel
theorem dX1_init_12 : decode cX1_init 12 = .ok (.aload_n 0, 1) := by decide +kernel
theorem dX1_init_13 : decode cX1_init 13 = .ok (.bipush 80, 2) := by decide +kernel
theorem dX1_init_15 : decode cX1_init 15 = .ok (.newarray .long, 2) := by decide +kernel
theorem dX1_init_17 : decode cX1_init 17 = .ok (.putfield 15, 3) := by decide +kernel
theorem dX1_init_20 : decode cX1_init 20 = .ok (.aload_n 0, 1) := by decide +kernel
theorem dX1_init_21 : decode cX1_init 21 = .ok (.iconst 4, 1) := by decide +kernel
theorem dX1_init_22 : decode cX1_init 22 = .ok (.newarray .long, 2) := by decide +kernel
theorem dX1_init_24 : decode cX1_init 24 = .ok (.putfield 18, 3) := by decide +kernel
theorem dX1_init_27 : decode cX1_init 27 = .ok (.aload_n 0, 1) := by decide +kernel
theorem dX1_init_28 : decode cX1_init 28 = .ok (.iconst 4, 1) := by decide +kernel
theorem dX1_init_29 : decode cX1_init 29 = .ok (.newarray .int, 2) := by decide +kernel
theorem dX1_init_31 : decode cX1_init 31 = .ok (.putfield 21, 3) := by decide +kernel
theorem dX1_init_34 : decode cX1_init 34 = .ok (.aload_n 0, 1) := by decide +kernel
theorem dX1_init_35 : decode cX1_init 35 = .ok (.iconst 4, 1) := by decide +kernel
theorem dX1_init_36 : decode cX1_init 36 = .ok (.newarray .int, 2) := by decide +kernel
theorem dX1_init_38 : decode cX1_init 38 = .ok (.putfield 25, 3) := by decide +kernel
theorem dX1_init_41 : decode cX1_init 41 = .ok (.return_, 1) := by decide +kernel
set_option maxRecDepth 20000 in
theorem ggX1_searchAll_X1_openAll : GoodIn wsX1_searchAll wsX1_openAll := goodIn_r _ [25, 16, 26, 8, 7, 2, 27, 28, 29, 30, 31, 32, 33, 34, 35, 36, 37, 38, 39, 66, 67, 68, 69, 70, 71, 72, 73, 74, 75, 76, 77, 78, 79, 80, 81, 82, 83, 84, 85, 86, 87, 88, 89, 90, 91] (by decide +kernel) (by decide +kernel)
set_option maxRecDepth 20000 in
theorem gX1_searchAll_X1_openAll : GoodIn wsX1_searchAll (wsV RX1 67 RX1 yX1_openAll wsX1_openAll) := goodIn_app (goodIn_of _ (by decide +kernel)) ggX1_searchAll_X1_openAll
set_option maxRecDepth 20000 in
theorem ggX1_searchAll_J7_fill_d0a16 : GoodIn wsX1_searchAll wsJ7_fill_d0a16 := goodIn_r _ [30] (by decide +kernel) (by decide +kernel)
set_option maxRecDepth 20000 in
theorem gX1_searchAll_J7_fill_d0a16 : GoodIn wsX1_searchAll (va_wsS RX1 71 yJ7_fill_d0a16 wsJ7_fill_d0a16) := goodIn_app (goodIn_of _ (by decide +kernel)) ggX1_searchAll_J7_fill_d0a16
set_option maxRecDepth 20000 in
theorem ggX1_searchAll_X1_cellOf : GoodIn wsX1_searchAll wsX1_cellOf := goodIn_r _ [42] (by decide +kernel) (by decide +kernel)
set_option maxRecDepth 20000 in
theorem gX1_searchAll_X1_cellOf : GoodIn wsX1_searchAll (va_wsS RX1 77 yX1_cellOf wsX1_cellOf) := goodIn_app (goodIn_of _ (by decide +kernel)) ggX1_searchAll_X1_cellOf
set_option maxRecDepth 20000 in
theorem ggX1_searchAll_X1_descend : GoodIn wsX1_searchAll wsX1_descend := goodIn_r _ [46, 1, 7, 2, 9, 47, 48, 38, 49, 50, 51, 52, 53, 54, 55, 24, 56, 10, 11, 15, 26, 40, 41, 42, 43, 44, 45, 57, 58, 59, 60, 16, 61, 62, 63, 64, 12, 14, 65, 17, 18, 19, 20, 66, 67, 68, 69, 70, 71, 72, 73, 74, 75, 76, 77, 78] (by decide +kernel) (by decide +kernel)
set_option maxRecDepth 20000 in
theorem gX1_searchAll_X1_descend : GoodIn wsX1_searchAll (wsV RX1 86 RX1 yX1_descend wsX1_descend) := goodIn_app (goodIn_of _ (by decide +kernel)) ggX1_searchAll_X1_descend
theorem dX1_searchAll_0 : decode cX1_searchAll 0 = .ok (.aload_n 0, 1) := by decide +kernel
theorem dX1_searchAll_1 : decode cX1_searchAll 1 = .ok (.iload_n 2, 1) := by decide +kernel
theorem dX1_searchAll_2 : decode cX1_searchAll 2 = .ok (.putfield 28, 3) := by decide +kernel
theorem dX1_searchAll_5 : decode cX1_searchAll 5 = .ok (.aload_n 0, 1) := by decide +kernel
theorem dX1_searchAll_6 : decode cX1_searchAll 6 = .ok (.iload_n 3, 1) := by decide +kernel
theorem dX1_searchAll_7 : decode cX1_searchAll 7 = .ok (.putfield 32, 3) := by decide +kernel
theorem dX1_searchAll_10 : decode cX1_searchAll 10 = .ok (.aload_n 0, 1) := by decide +kernel
theorem dX1_searchAll_11 : decode cX1_searchAll 11 = .ok (.iload 4, 2) := by decide +kernel
theorem dX1_searchAll_13 : decode cX1_searchAll 13 = .ok (.iload_n 3, 1) := by decide +kernel
theorem dX1_searchAll_14 : decode cX1_searchAll 14 = .ok (.isub, 1) := by decide +kernel
theorem dX1_searchAll_15 : decode cX1_searchAll 15 = .ok (.iconst 1, 1) := by decide +kernel
theorem dX1_searchAll_16 : decode cX1_searchAll 16 = .ok (.iadd, 1) := by decide +kernel
theorem dX1_searchAll_17 : decode cX1_searchAll 17 = .ok (.bipush 21, 2) := by decide +kernel
theorem dX1_searchAll_19 : decode cX1_searchAll 19 = .ok (.invokestatic 35, 3) := by decide +kernel
theorem dX1_searchAll_22 : decode cX1_searchAll 22 = .ok (.putfield 41, 3) := by decide +kernel
theorem dX1_searchAll_25 : decode cX1_searchAll 25 = .ok (.aload_n 0, 1) := by decide +kernel
theorem dX1_searchAll_26 : decode cX1_searchAll 26 = .ok (.aload_n 1, 1) := by decide +kernel
theorem dX1_searchAll_27 : decode cX1_searchAll 27 = .ok (.getfield 44, 3) := by decide +kernel
theorem dX1_searchAll_30 : decode cX1_searchAll 30 = .ok (.iconst 3, 1) := by decide +kernel
theorem dX1_searchAll_31 : decode cX1_searchAll 31 = .ok (.iaload, 1) := by decide +kernel
theorem dX1_searchAll_32 : decode cX1_searchAll 32 = .ok (.putfield 49, 3) := by decide +kernel
theorem dX1_searchAll_35 : decode cX1_searchAll 35 = .ok (.aload_n 0, 1) := by decide +kernel
theorem dX1_searchAll_36 : decode cX1_searchAll 36 = .ok (.aload_n 1, 1) := by decide +kernel
theorem dX1_searchAll_37 : decode cX1_searchAll 37 = .ok (.getfield 44, 3) := by decide +kernel
theorem dX1_searchAll_40 : decode cX1_searchAll 40 = .ok (.iconst 4, 1) := by decide +kernel
theorem dX1_searchAll_41 : decode cX1_searchAll 41 = .ok (.iaload, 1) := by decide +kernel
theorem dX1_searchAll_42 : decode cX1_searchAll 42 = .ok (.iload_n 2, 1) := by decide +kernel
theorem dX1_searchAll_43 : decode cX1_searchAll 43 = .ok (.invokestatic 35, 3) := by decide +kernel
theorem dX1_searchAll_46 : decode cX1_searchAll 46 = .ok (.putfield 52, 3) := by decide +kernel
theorem dX1_searchAll_49 : decode cX1_searchAll 49 = .ok (.aload_n 0, 1) := by decide +kernel
theorem dX1_searchAll_50 : decode cX1_searchAll 50 = .ok (.aload_n 1, 1) := by decide +kernel
theorem dX1_searchAll_51 : decode cX1_searchAll 51 = .ok (.getfield 44, 3) := by decide +kernel
theorem dX1_searchAll_54 : decode cX1_searchAll 54 = .ok (.iconst 5, 1) := by decide +kernel
theorem dX1_searchAll_55 : decode cX1_searchAll 55 = .ok (.iaload, 1) := by decide +kernel
theorem dX1_searchAll_56 : decode cX1_searchAll 56 = .ok (.bipush 63, 2) := by decide +kernel
theorem dX1_searchAll_58 : decode cX1_searchAll 58 = .ok (.iadd, 1) := by decide +kernel
theorem dX1_searchAll_59 : decode cX1_searchAll 59 = .ok (.bipush 64, 2) := by decide +kernel
theorem dX1_searchAll_61 : decode cX1_searchAll 61 = .ok (.idiv, 1) := by decide +kernel
theorem dX1_searchAll_62 : decode cX1_searchAll 62 = .ok (.iconst 4, 1) := by decide +kernel
theorem dX1_searchAll_63 : decode cX1_searchAll 63 = .ok (.invokestatic 35, 3) := by decide +kernel
theorem dX1_searchAll_66 : decode cX1_searchAll 66 = .ok (.putfield 55, 3) := by decide +kernel
theorem dX1_searchAll_69 : decode cX1_searchAll 69 = .ok (.aload_n 0, 1) := by decide +kernel
theorem dX1_searchAll_70 : decode cX1_searchAll 70 = .ok (.iconst 0, 1) := by decide +kernel
theorem dX1_searchAll_71 : decode cX1_searchAll 71 = .ok (.putfield 58, 3) := by decide +kernel
theorem dX1_searchAll_74 : decode cX1_searchAll 74 = .ok (.aload_n 0, 1) := by decide +kernel
theorem dX1_searchAll_75 : decode cX1_searchAll 75 = .ok (.ldc 63, 2) := by decide +kernel
theorem dX1_searchAll_77 : decode cX1_searchAll 77 = .ok (.putfield 64, 3) := by decide +kernel
theorem dX1_searchAll_80 : decode cX1_searchAll 80 = .ok (.aload_n 0, 1) := by decide +kernel
theorem dX1_searchAll_81 : decode cX1_searchAll 81 = .ok (.aload_n 1, 1) := by decide +kernel
theorem dX1_searchAll_82 : decode cX1_searchAll 82 = .ok (.invokevirtual 67, 3) := by decide +kernel
theorem dX1_searchAll_85 : decode cX1_searchAll 85 = .ok (.aload_n 0, 1) := by decide +kernel
theorem dX1_searchAll_86 : decode cX1_searchAll 86 = .ok (.getfield 15, 3) := by decide +kernel
theorem dX1_searchAll_89 : decode cX1_searchAll 89 = .ok (.lconst 0, 1) := by decide +kernel
theorem dX1_searchAll_90 : decode cX1_searchAll 90 = .ok (.invokestatic 71, 3) := by decide +kernel
theorem dX1_searchAll_93 : decode cX1_searchAll 93 = .ok (.iconst 0, 1) := by decide +kernel
theorem dX1_searchAll_94 : decode cX1_searchAll 94 = .ok (.istore 5, 2) := by decide +kernel
theorem dX1_searchAll_96 : decode cX1_searchAll 96 = .ok (.iload 5, 2) := by decide +kernel
theorem dX1_searchAll_98 : decode cX1_searchAll 98 = .ok (.iconst 4, 1) := by decide +kernel
theorem dX1_searchAll_99 : decode cX1_searchAll 99 = .ok (.if_icmp .ge 28, 3) := by decide +kernel
theorem dX1_searchAll_102 : decode cX1_searchAll 102 = .ok (.aload_n 0, 1) := by decide +kernel
theorem dX1_searchAll_103 : decode cX1_searchAll 103 = .ok (.getfield 18, 3) := by decide +kernel
theorem dX1_searchAll_106 : decode cX1_searchAll 106 = .ok (.iconst 0, 1) := by decide +kernel
theorem dX1_searchAll_107 : decode cX1_searchAll 107 = .ok (.aload_n 0, 1) := by decide +kernel
theorem dX1_searchAll_108 : decode cX1_searchAll 108 = .ok (.getfield 15, 3) := by decide +kernel
theorem dX1_searchAll_111 : decode cX1_searchAll 111 = .ok (.iload 5, 2) := by decide +kernel
theorem dX1_searchAll_113 : decode cX1_searchAll 113 = .ok (.iconst 0, 1) := by decide +kernel
theorem dX1_searchAll_114 : decode cX1_searchAll 114 = .ok (.invokestatic 77, 3) := by decide +kernel
theorem dX1_searchAll_117 : decode cX1_searchAll 117 = .ok (.iconst 4, 1) := by decide +kernel
theorem dX1_searchAll_118 : decode cX1_searchAll 118 = .ok (.invokestatic 80, 3) := by decide +kernel
theorem dX1_searchAll_121 : decode cX1_searchAll 121 = .ok (.iinc 5 1, 3) := by decide +kernel
theorem dX1_searchAll_124 : decode cX1_searchAll 124 = .ok (.goto (-28), 3) := by decide +kernel
theorem dX1_searchAll_127 : decode cX1_searchAll 127 = .ok (.aload_n 0, 1) := by decide +kernel
theorem dX1_searchAll_128 : decode cX1_searchAll 128 = .ok (.iconst 0, 1) := by decide +kernel
theorem dX1_searchAll_129 : decode cX1_searchAll 129 = .ok (.iconst 0, 1) := by decide +kernel
theorem dX1_searchAll_130 : decode cX1_searchAll 130 = .ok (.iconst 1, 1) := by decide +kernel
theorem dX1_searchAll_131 : decode cX1_searchAll 131 = .ok (.iconst 0, 1) := by decide +kernel
theorem dX1_searchAll_132 : decode cX1_searchAll 132 = .ok (.invokevirtual 86, 3) := by decide +kernel
theorem dX1_searchAll_135 : decode cX1_searchAll 135 = .ok (.return_, 1) := by decide +kernel
set_option maxRecDepth 20000 in
theorem ggX1_openAll_J7_fill_d0a16 : GoodIn wsX1_openAll wsJ7_fill_d0a16 := goodIn_r _ [9] (by decide +kernel) (by decide +kernel)
set_option maxRecDepth 20000 in
theorem gX1_openAll_J7_fill_d0a16 : GoodIn wsX1_openAll (va_wsS RX1 71 yJ7_fill_d0a16 wsJ7_fill_d0a16) := goodIn_app (goodIn_of _ (by decide +kernel)) ggX1_openAll_J7_fill_d0a16
set_option maxRecDepth 20000 in
theorem ggX1_openAll_X5_hides : GoodIn wsX1_openAll wsX5_hides := goodIn_r _ [14, 15, 16, 17, 18, 32, 33, 34, 35, 36, 37, 38, 39, 40, 41, 42, 43, 44] (by decide +kernel) (by decide +kernel)
set_option maxRecDepth 20000 in
theorem gX1_openAll_X5_hides : GoodIn wsX1_openAll (wsV RX1 90 RX5 yX5_hides wsX5_hides) := goodIn_app (goodIn_of _ (by decide +kernel)) ggX1_openAll_X5_hides
theorem dX1_openAll_0 : decode cX1_openAll 0 = .ok (.aload_n 0, 1) := by decide +kernel
theorem dX1_openAll_1 : decode cX1_openAll 1 = .ok (.getfield 18, 3) := by decide +kernel
theorem dX1_openAll_4 : decode cX1_openAll 4 = .ok (.lconst 0, 1) := by decide +kernel
theorem dX1_openAll_5 : decode cX1_openAll 5 = .ok (.invokestatic 71, 3) := by decide +kernel
theorem dX1_openAll_8 : decode cX1_openAll 8 = .ok (.aload_n 0, 1) := by decide +kernel
theorem dX1_openAll_9 : decode cX1_openAll 9 = .ok (.getfield 11, 3) := by decide +kernel
theorem dX1_openAll_12 : decode cX1_openAll 12 = .ok (.lconst 0, 1) := by decide +kernel
theorem dX1_openAll_13 : decode cX1_openAll 13 = .ok (.invokestatic 71, 3) := by decide +kernel
theorem dX1_openAll_16 : decode cX1_openAll 16 = .ok (.iconst 0, 1) := by decide +kernel
theorem dX1_openAll_17 : decode cX1_openAll 17 = .ok (.istore_n 2, 1) := by decide +kernel
theorem dX1_openAll_18 : decode cX1_openAll 18 = .ok (.iload_n 2, 1) := by decide +kernel
theorem dX1_openAll_19 : decode cX1_openAll 19 = .ok (.aload_n 1, 1) := by decide +kernel
theorem dX1_openAll_20 : decode cX1_openAll 20 = .ok (.getfield 44, 3) := by decide +kernel
theorem dX1_openAll_23 : decode cX1_openAll 23 = .ok (.iconst 5, 1) := by decide +kernel
theorem dX1_openAll_24 : decode cX1_openAll 24 = .ok (.iaload, 1) := by decide +kernel
theorem dX1_openAll_25 : decode cX1_openAll 25 = .ok (.if_icmp .ge 81, 3) := by decide +kernel
theorem dX1_openAll_28 : decode cX1_openAll 28 = .ok (.aload_n 0, 1) := by decide +kernel
theorem dX1_openAll_29 : decode cX1_openAll 29 = .ok (.getfield 18, 3) := by decide +kernel
theorem dX1_openAll_32 : decode cX1_openAll 32 = .ok (.iload_n 2, 1) := by decide +kernel
theorem dX1_openAll_33 : decode cX1_openAll 33 = .ok (.bipush 6, 2) := by decide +kernel
theorem dX1_openAll_35 : decode cX1_openAll 35 = .ok (.ishr, 1) := by decide +kernel
theorem dX1_openAll_36 : decode cX1_openAll 36 = .ok (.dup2, 1) := by decide +kernel
theorem dX1_openAll_37 : decode cX1_openAll 37 = .ok (.laload, 1) := by decide +kernel
theorem dX1_openAll_38 : decode cX1_openAll 38 = .ok (.lconst 1, 1) := by decide +kernel
theorem dX1_openAll_39 : decode cX1_openAll 39 = .ok (.iload_n 2, 1) := by decide +kernel
theorem dX1_openAll_40 : decode cX1_openAll 40 = .ok (.bipush 63, 2) := by decide +kernel
theorem dX1_openAll_42 : decode cX1_openAll 42 = .ok (.iand, 1) := by decide +kernel
theorem dX1_openAll_43 : decode cX1_openAll 43 = .ok (.lshl, 1) := by decide +kernel
theorem dX1_openAll_44 : decode cX1_openAll 44 = .ok (.lor, 1) := by decide +kernel
theorem dX1_openAll_45 : decode cX1_openAll 45 = .ok (.lastore, 1) := by decide +kernel
theorem dX1_openAll_46 : decode cX1_openAll 46 = .ok (.iconst 0, 1) := by decide +kernel
theorem dX1_openAll_47 : decode cX1_openAll 47 = .ok (.istore_n 3, 1) := by decide +kernel
theorem dX1_openAll_48 : decode cX1_openAll 48 = .ok (.iload_n 3, 1) := by decide +kernel
theorem dX1_openAll_49 : decode cX1_openAll 49 = .ok (.aload_n 0, 1) := by decide +kernel
theorem dX1_openAll_50 : decode cX1_openAll 50 = .ok (.getfield 41, 3) := by decide +kernel
theorem dX1_openAll_53 : decode cX1_openAll 53 = .ok (.if_icmp .ge 47, 3) := by decide +kernel
theorem dX1_openAll_56 : decode cX1_openAll 56 = .ok (.aload_n 1, 1) := by decide +kernel
theorem dX1_openAll_57 : decode cX1_openAll 57 = .ok (.iload_n 2, 1) := by decide +kernel
theorem dX1_openAll_58 : decode cX1_openAll 58 = .ok (.iconst 1, 1) := by decide +kernel
theorem dX1_openAll_59 : decode cX1_openAll 59 = .ok (.iadd, 1) := by decide +kernel
theorem dX1_openAll_60 : decode cX1_openAll 60 = .ok (.aload_n 0, 1) := by decide +kernel
theorem dX1_openAll_61 : decode cX1_openAll 61 = .ok (.getfield 32, 3) := by decide +kernel
theorem dX1_openAll_64 : decode cX1_openAll 64 = .ok (.iload_n 3, 1) := by decide +kernel
theorem dX1_openAll_65 : decode cX1_openAll 65 = .ok (.iadd, 1) := by decide +kernel
theorem dX1_openAll_66 : decode cX1_openAll 66 = .ok (.invokevirtual 90, 3) := by decide +kernel
theorem dX1_openAll_69 : decode cX1_openAll 69 = .ok (.ifCond .ne 25, 3) := by decide +kernel
theorem dX1_openAll_72 : decode cX1_openAll 72 = .ok (.aload_n 0, 1) := by decide +kernel
theorem dX1_openAll_73 : decode cX1_openAll 73 = .ok (.getfield 11, 3) := by decide +kernel
theorem dX1_openAll_76 : decode cX1_openAll 76 = .ok (.iload_n 3, 1) := by decide +kernel
theorem dX1_openAll_77 : decode cX1_openAll 77 = .ok (.iconst 4, 1) := by decide +kernel
theorem dX1_openAll_78 : decode cX1_openAll 78 = .ok (.imul, 1) := by decide +kernel
theorem dX1_openAll_79 : decode cX1_openAll 79 = .ok (.iload_n 2, 1) := by decide +kernel
theorem dX1_openAll_80 : decode cX1_openAll 80 = .ok (.bipush 6, 2) := by decide +kernel
theorem dX1_openAll_82 : decode cX1_openAll 82 = .ok (.ishr, 1) := by decide +kernel
theorem dX1_openAll_83 : decode cX1_openAll 83 = .ok (.iadd, 1) := by decide +kernel
theorem dX1_openAll_84 : decode cX1_openAll 84 = .ok (.dup2, 1) := by decide +kernel
theorem dX1_openAll_85 : decode cX1_openAll 85 = .ok (.laload, 1) := by decide +kernel
theorem dX1_openAll_86 : decode cX1_openAll 86 = .ok (.lconst 1, 1) := by decide +kernel
theorem dX1_openAll_87 : decode cX1_openAll 87 = .ok (.iload_n 2, 1) := by decide +kernel
theorem dX1_openAll_88 : decode cX1_openAll 88 = .ok (.bipush 63, 2) := by decide +kernel
theorem dX1_openAll_90 : decode cX1_openAll 90 = .ok (.iand, 1) := by decide +kernel
theorem dX1_openAll_91 : decode cX1_openAll 91 = .ok (.lshl, 1) := by decide +kernel
theorem dX1_openAll_92 : decode cX1_openAll 92 = .ok (.lor, 1) := by decide +kernel
theorem dX1_openAll_93 : decode cX1_openAll 93 = .ok (.lastore, 1) := by decide +kernel
theorem dX1_openAll_94 : decode cX1_openAll 94 = .ok (.iinc 3 1, 3) := by decide +kernel
theorem dX1_openAll_97 : decode cX1_openAll 97 = .ok (.goto (-49), 3) := by decide +kernel
theorem dX1_openAll_100 : decode cX1_openAll 100 = .ok (.iinc 2 1, 3) := by decide +kernel
theorem dX1_openAll_103 : decode cX1_openAll 103 = .ok (.goto (-85), 3) := by decide +kernel
theorem dX1_openAll_106 : decode cX1_openAll 106 = .ok (.return_, 1) := by decide +kernel
theorem dX1_cellOf_0 : decode cX1_cellOf 0 = .ok (.iload_n 0, 1) := by decide +kernel
theorem dX1_cellOf_1 : decode cX1_cellOf 1 = .ok (.iconst 5, 1) := by decide +kernel
theorem dX1_cellOf_2 : decode cX1_cellOf 2 = .ok (.imul, 1) := by decide +kernel
theorem dX1_cellOf_3 : decode cX1_cellOf 3 = .ok (.iload_n 1, 1) := by decide +kernel
theorem dX1_cellOf_4 : decode cX1_cellOf 4 = .ok (.iadd, 1) := by decide +kernel
theorem dX1_cellOf_5 : decode cX1_cellOf 5 = .ok (.iconst 4, 1) := by decide +kernel
theorem dX1_cellOf_6 : decode cX1_cellOf 6 = .ok (.imul, 1) := by decide +kernel
theorem dX1_cellOf_7 : decode cX1_cellOf 7 = .ok (.ireturn, 1) := by decide +kernel
set_option maxRecDepth 20000 in
theorem ggX1_descend_X10_leastCommon : GoodIn wsX1_descend wsX10_leastCommon := goodIn_r _ [8, 9, 10, 7, 11] (by decide +kernel) (by decide +kernel)
set_option maxRecDepth 20000 in
theorem gX1_descend_X10_leastCommon_n94 : GoodIn wsX1_descend (wsX10_leastCommon) := ggX1_descend_X10_leastCommon
set_option maxRecDepth 20000 in
theorem ggX1_descend_X1_addChoice : GoodIn wsX1_descend wsX1_addChoice := goodIn_r _ [16, 17, 18, 19, 20, 21, 22, 15, 23, 43, 44, 45, 46, 47, 48, 49, 50, 51, 52, 53, 54, 55] (by decide +kernel) (by decide +kernel)
set_option maxRecDepth 20000 in
theorem gX1_descend_X1_addChoice : GoodIn wsX1_descend (wsV RX1 97 RX1 yX1_addChoice wsX1_addChoice) := goodIn_app (goodIn_of _ (by decide +kernel)) ggX1_descend_X1_addChoice
set_option maxRecDepth 20000 in
theorem ggX1_descend_X1_descend : GoodIn wsX1_descend wsX1_descend := goodIn_r _ [0, 1, 2, 3, 4, 5, 6, 7, 8, 9, 10, 11, 12, 13, 14, 15, 16, 17, 18, 19, 20, 21, 22, 23, 24, 25, 26, 27, 28, 29, 30, 31, 32, 33, 34, 35, 36, 37, 38, 39, 40, 41, 42, 43, 44, 45, 46, 47, 48, 49, 50, 51, 52, 53, 54, 55] (by decide +kernel) (by decide +kernel)
set_option maxRecDepth 20000 in
theorem gX1_descend_X1_descend : GoodIn wsX1_descend (wsV RX1 86 RX1 yX1_descend wsX1_descend) := goodIn_app (goodIn_of _ (by decide +kernel)) ggX1_descend_X1_descend
set_option maxRecDepth 20000 in
theorem ggX1_descend_X1_opensAll : GoodIn wsX1_descend wsX1_opensAll := goodIn_r _ [30, 17, 18, 19, 20, 31, 21, 22, 15, 23, 43, 44, 45, 46, 47, 48, 49, 50, 51, 52, 53, 54, 55] (by decide +kernel) (by decide +kernel)
set_option maxRecDepth 20000 in
theorem gX1_descend_X1_opensAll : GoodIn wsX1_descend (wsV RX1 101 RX1 yX1_opensAll wsX1_opensAll) := goodIn_app (goodIn_of _ (by decide +kernel)) ggX1_descend_X1_opensAll
set_option maxRecDepth 20000 in
theorem ggX1_descend_X1_keepFit : GoodIn wsX1_descend wsX1_keepFit := goodIn_r _ [35, 36, 37, 5, 38, 39, 40, 41, 42, 43, 44, 45, 46, 47, 48, 49, 50, 51, 52, 53, 54, 55] (by decide +kernel) (by decide +kernel)
set_option maxRecDepth 20000 in
theorem gX1_descend_X1_keepFit : GoodIn wsX1_descend (wsV RX1 104 RX1 yX1_keepFit wsX1_keepFit) := goodIn_app (goodIn_of _ (by decide +kernel)) ggX1_descend_X1_keepFit
theorem dX1_descend_0 : decode cX1_descend 0 = .ok (.iload_n 1, 1) := by decide +kernel
theorem dX1_descend_1 : decode cX1_descend 1 = .ok (.aload_n 0, 1) := by decide +kernel
theorem dX1_descend_2 : decode cX1_descend 2 = .ok (.getfield 28, 3) := by decide +kernel
theorem dX1_descend_5 : decode cX1_descend 5 = .ok (.if_icmp .ge 8, 3) := by decide +kernel
theorem dX1_descend_8 : decode cX1_descend 8 = .ok (.iload_n 1, 1) := by decide +kernel
theorem dX1_descend_9 : decode cX1_descend 9 = .ok (.iconst 4, 1) := by decide +kernel
theorem dX1_descend_10 : decode cX1_descend 10 = .ok (.if_icmp .lt 4, 3) := by decide +kernel
theorem dX1_descend_13 : decode cX1_descend 13 = .ok (.return_, 1) := by decide +kernel
theorem dX1_descend_14 : decode cX1_descend 14 = .ok (.iload_n 2, 1) := by decide +kernel
theorem dX1_descend_15 : decode cX1_descend 15 = .ok (.istore 5, 2) := by decide +kernel
theorem dX1_descend_17 : decode cX1_descend 17 = .ok (.iload 5, 2) := by decide +kernel
theorem dX1_descend_19 : decode cX1_descend 19 = .ok (.aload_n 0, 1) := by decide +kernel
theorem dX1_descend_20 : decode cX1_descend 20 = .ok (.getfield 41, 3) := by decide +kernel
theorem dX1_descend_23 : decode cX1_descend 23 = .ok (.if_icmp .ge 112, 3) := by decide +kernel
theorem dX1_descend_26 : decode cX1_descend 26 = .ok (.aload_n 0, 1) := by decide +kernel
theorem dX1_descend_27 : decode cX1_descend 27 = .ok (.getfield 32, 3) := by decide +kernel
theorem dX1_descend_30 : decode cX1_descend 30 = .ok (.iload 5, 2) := by decide +kernel
theorem dX1_descend_32 : decode cX1_descend 32 = .ok (.iadd, 1) := by decide +kernel
theorem dX1_descend_33 : decode cX1_descend 33 = .ok (.istore 6, 2) := by decide +kernel
theorem dX1_descend_35 : decode cX1_descend 35 = .ok (.iload_n 3, 1) := by decide +kernel
theorem dX1_descend_36 : decode cX1_descend 36 = .ok (.aload_n 0, 1) := by decide +kernel
theorem dX1_descend_37 : decode cX1_descend 37 = .ok (.getfield 49, 3) := by decide +kernel
theorem dX1_descend_40 : decode cX1_descend 40 = .ok (.if_icmp .lt 7, 3) := by decide +kernel
theorem dX1_descend_43 : decode cX1_descend 43 = .ok (.iload_n 3, 1) := by decide +kernel
theorem dX1_descend_44 : decode cX1_descend 44 = .ok (.goto 9, 3) := by decide +kernel
theorem dX1_descend_47 : decode cX1_descend 47 = .ok (.iload_n 3, 1) := by decide +kernel
theorem dX1_descend_48 : decode cX1_descend 48 = .ok (.iload 6, 2) := by decide +kernel
theorem dX1_descend_50 : decode cX1_descend 50 = .ok (.invokestatic 94, 3) := by decide +kernel
theorem dX1_descend_53 : decode cX1_descend 53 = .ok (.istore 7, 2) := by decide +kernel
theorem dX1_descend_55 : decode cX1_descend 55 = .ok (.aload_n 0, 1) := by decide +kernel
theorem dX1_descend_56 : decode cX1_descend 56 = .ok (.getfield 21, 3) := by decide +kernel
theorem dX1_descend_59 : decode cX1_descend 59 = .ok (.iload_n 1, 1) := by decide +kernel
theorem dX1_descend_60 : decode cX1_descend 60 = .ok (.iload 6, 2) := by decide +kernel
theorem dX1_descend_62 : decode cX1_descend 62 = .ok (.iastore, 1) := by decide +kernel
theorem dX1_descend_63 : decode cX1_descend 63 = .ok (.iload_n 1, 1) := by decide +kernel
theorem dX1_descend_64 : decode cX1_descend 64 = .ok (.iconst 1, 1) := by decide +kernel
theorem dX1_descend_65 : decode cX1_descend 65 = .ok (.iadd, 1) := by decide +kernel
theorem dX1_descend_66 : decode cX1_descend 66 = .ok (.aload_n 0, 1) := by decide +kernel
theorem dX1_descend_67 : decode cX1_descend 67 = .ok (.getfield 28, 3) := by decide +kernel
theorem dX1_descend_70 : decode cX1_descend 70 = .ok (.if_icmp .ge 31, 3) := by decide +kernel
theorem dX1_descend_73 : decode cX1_descend 73 = .ok (.aload_n 0, 1) := by decide +kernel
theorem dX1_descend_74 : decode cX1_descend 74 = .ok (.iload_n 1, 1) := by decide +kernel
theorem dX1_descend_75 : decode cX1_descend 75 = .ok (.iload 5, 2) := by decide +kernel
theorem dX1_descend_77 : decode cX1_descend 77 = .ok (.invokevirtual 97, 3) := by decide +kernel
theorem dX1_descend_80 : decode cX1_descend 80 = .ok (.aload_n 0, 1) := by decide +kernel
theorem dX1_descend_81 : decode cX1_descend 81 = .ok (.iload_n 1, 1) := by decide +kernel
theorem dX1_descend_82 : decode cX1_descend 82 = .ok (.iconst 1, 1) := by decide +kernel
theorem dX1_descend_83 : decode cX1_descend 83 = .ok (.iadd, 1) := by decide +kernel
theorem dX1_descend_84 : decode cX1_descend 84 = .ok (.iload 5, 2) := by decide +kernel
theorem dX1_descend_86 : decode cX1_descend 86 = .ok (.iconst 1, 1) := by decide +kernel
theorem dX1_descend_87 : decode cX1_descend 87 = .ok (.iadd, 1) := by decide +kernel
theorem dX1_descend_88 : decode cX1_descend 88 = .ok (.iload 7, 2) := by decide +kernel
theorem dX1_descend_90 : decode cX1_descend 90 = .ok (.iload 4, 2) := by decide +kernel
theorem dX1_descend_92 : decode cX1_descend 92 = .ok (.iload 6, 2) := by decide +kernel
theorem dX1_descend_94 : decode cX1_descend 94 = .ok (.iadd, 1) := by decide +kernel
theorem dX1_descend_95 : decode cX1_descend 95 = .ok (.invokevirtual 86, 3) := by decide +kernel
theorem dX1_descend_98 : decode cX1_descend 98 = .ok (.goto 31, 3) := by decide +kernel
theorem dX1_descend_101 : decode cX1_descend 101 = .ok (.iload 7, 2) := by decide +kernel
theorem dX1_descend_103 : decode cX1_descend 103 = .ok (.aload_n 0, 1) := by decide +kernel
theorem dX1_descend_104 : decode cX1_descend 104 = .ok (.getfield 49, 3) := by decide +kernel
theorem dX1_descend_107 : decode cX1_descend 107 = .ok (.if_icmp .lt 22, 3) := by decide +kernel
theorem dX1_descend_110 : decode cX1_descend 110 = .ok (.aload_n 0, 1) := by decide +kernel
theorem dX1_descend_111 : decode cX1_descend 111 = .ok (.iload_n 1, 1) := by decide +kernel
theorem dX1_descend_112 : decode cX1_descend 112 = .ok (.iload 5, 2) := by decide +kernel
theorem dX1_descend_114 : decode cX1_descend 114 = .ok (.invokevirtual 101, 3) := by decide +kernel
theorem dX1_descend_117 : decode cX1_descend 117 = .ok (.ifCond .eq 12, 3) := by decide +kernel
theorem dX1_descend_120 : decode cX1_descend 120 = .ok (.aload_n 0, 1) := by decide +kernel
theorem dX1_descend_121 : decode cX1_descend 121 = .ok (.iload 4, 2) := by decide +kernel
theorem dX1_descend_123 : decode cX1_descend 123 = .ok (.iload 6, 2) := by decide +kernel
theorem dX1_descend_125 : decode cX1_descend 125 = .ok (.iadd, 1) := by decide +kernel
theorem dX1_descend_126 : decode cX1_descend 126 = .ok (.invokevirtual 104, 3) := by decide +kernel
theorem dX1_descend_129 : decode cX1_descend 129 = .ok (.iinc 5 1, 3) := by decide +kernel
theorem dX1_descend_132 : decode cX1_descend 132 = .ok (.goto (-115), 3) := by decide +kernel
theorem dX1_descend_135 : decode cX1_descend 135 = .ok (.return_, 1) := by decide +kernel
set_option maxRecDepth 20000 in
theorem ggX1_addChoice_X1_cellOf : GoodIn wsX1_addChoice wsX1_cellOf := goodIn_r _ [8] (by decide +kernel) (by decide +kernel)
set_option maxRecDepth 20000 in
theorem gX1_addChoice_X1_cellOf : GoodIn wsX1_addChoice (va_wsS RX1 77 yX1_cellOf wsX1_cellOf) := goodIn_app (goodIn_of _ (by decide +kernel)) ggX1_addChoice_X1_cellOf
theorem dX1_addChoice_0 : decode cX1_addChoice 0 = .ok (.iload_n 1, 1) := by decide +kernel
theorem dX1_addChoice_1 : decode cX1_addChoice 1 = .ok (.iconst 1, 1) := by decide +kernel
theorem dX1_addChoice_2 : decode cX1_addChoice 2 = .ok (.iadd, 1) := by decide +kernel
theorem dX1_addChoice_3 : decode cX1_addChoice 3 = .ok (.iconst 4, 1) := by decide +kernel
theorem dX1_addChoice_4 : decode cX1_addChoice 4 = .ok (.if_icmp .lt 4, 3) := by decide +kernel
theorem dX1_addChoice_7 : decode cX1_addChoice 7 = .ok (.return_, 1) := by decide +kernel
theorem dX1_addChoice_8 : decode cX1_addChoice 8 = .ok (.iconst 1, 1) := by decide +kernel
theorem dX1_addChoice_9 : decode cX1_addChoice 9 = .ok (.istore_n 3, 1) := by decide +kernel
theorem dX1_addChoice_10 : decode cX1_addChoice 10 = .ok (.iload_n 3, 1) := by decide +kernel
theorem dX1_addChoice_11 : decode cX1_addChoice 11 = .ok (.aload_n 0, 1) := by decide +kernel
theorem dX1_addChoice_12 : decode cX1_addChoice 12 = .ok (.getfield 52, 3) := by decide +kernel
theorem dX1_addChoice_15 : decode cX1_addChoice 15 = .ok (.if_icmp .gt 95, 3) := by decide +kernel
theorem dX1_addChoice_18 : decode cX1_addChoice 18 = .ok (.iload_n 1, 1) := by decide +kernel
theorem dX1_addChoice_19 : decode cX1_addChoice 19 = .ok (.iconst 1, 1) := by decide +kernel
theorem dX1_addChoice_20 : decode cX1_addChoice 20 = .ok (.iadd, 1) := by decide +kernel
theorem dX1_addChoice_21 : decode cX1_addChoice 21 = .ok (.iload_n 3, 1) := by decide +kernel
theorem dX1_addChoice_22 : decode cX1_addChoice 22 = .ok (.invokestatic 77, 3) := by decide +kernel
theorem dX1_addChoice_25 : decode cX1_addChoice 25 = .ok (.istore 4, 2) := by decide +kernel
theorem dX1_addChoice_27 : decode cX1_addChoice 27 = .ok (.iload_n 1, 1) := by decide +kernel
theorem dX1_addChoice_28 : decode cX1_addChoice 28 = .ok (.iload_n 3, 1) := by decide +kernel
theorem dX1_addChoice_29 : decode cX1_addChoice 29 = .ok (.invokestatic 77, 3) := by decide +kernel
theorem dX1_addChoice_32 : decode cX1_addChoice 32 = .ok (.istore 5, 2) := by decide +kernel
theorem dX1_addChoice_34 : decode cX1_addChoice 34 = .ok (.iload_n 1, 1) := by decide +kernel
theorem dX1_addChoice_35 : decode cX1_addChoice 35 = .ok (.iload_n 3, 1) := by decide +kernel
theorem dX1_addChoice_36 : decode cX1_addChoice 36 = .ok (.iconst 1, 1) := by decide +kernel
theorem dX1_addChoice_37 : decode cX1_addChoice 37 = .ok (.isub, 1) := by decide +kernel
theorem dX1_addChoice_38 : decode cX1_addChoice 38 = .ok (.invokestatic 77, 3) := by decide +kernel
theorem dX1_addChoice_41 : decode cX1_addChoice 41 = .ok (.istore 6, 2) := by decide +kernel
theorem dX1_addChoice_43 : decode cX1_addChoice 43 = .ok (.iconst 0, 1) := by decide +kernel
theorem dX1_addChoice_44 : decode cX1_addChoice 44 = .ok (.istore 7, 2) := by decide +kernel
theorem dX1_addChoice_46 : decode cX1_addChoice 46 = .ok (.iload 7, 2) := by decide +kernel
theorem dX1_addChoice_48 : decode cX1_addChoice 48 = .ok (.aload_n 0, 1) := by decide +kernel
theorem dX1_addChoice_49 : decode cX1_addChoice 49 = .ok (.getfield 55, 3) := by decide +kernel
theorem dX1_addChoice_52 : decode cX1_addChoice 52 = .ok (.if_icmp .ge 52, 3) := by decide +kernel
theorem dX1_addChoice_55 : decode cX1_addChoice 55 = .ok (.aload_n 0, 1) := by decide +kernel
theorem dX1_addChoice_56 : decode cX1_addChoice 56 = .ok (.getfield 15, 3) := by decide +kernel
theorem dX1_addChoice_59 : decode cX1_addChoice 59 = .ok (.iload 4, 2) := by decide +kernel
theorem dX1_addChoice_61 : decode cX1_addChoice 61 = .ok (.iload 7, 2) := by decide +kernel
theorem dX1_addChoice_63 : decode cX1_addChoice 63 = .ok (.iadd, 1) := by decide +kernel
theorem dX1_addChoice_64 : decode cX1_addChoice 64 = .ok (.aload_n 0, 1) := by decide +kernel
theorem dX1_addChoice_65 : decode cX1_addChoice 65 = .ok (.getfield 15, 3) := by decide +kernel
theorem dX1_addChoice_68 : decode cX1_addChoice 68 = .ok (.iload 5, 2) := by decide +kernel
theorem dX1_addChoice_70 : decode cX1_addChoice 70 = .ok (.iload 7, 2) := by decide +kernel
theorem dX1_addChoice_72 : decode cX1_addChoice 72 = .ok (.iadd, 1) := by decide +kernel
theorem dX1_addChoice_73 : decode cX1_addChoice 73 = .ok (.laload, 1) := by decide +kernel
theorem dX1_addChoice_74 : decode cX1_addChoice 74 = .ok (.aload_n 0, 1) := by decide +kernel
theorem dX1_addChoice_75 : decode cX1_addChoice 75 = .ok (.getfield 15, 3) := by decide +kernel
theorem dX1_addChoice_78 : decode cX1_addChoice 78 = .ok (.iload 6, 2) := by decide +kernel
theorem dX1_addChoice_80 : decode cX1_addChoice 80 = .ok (.iload 7, 2) := by decide +kernel
theorem dX1_addChoice_82 : decode cX1_addChoice 82 = .ok (.iadd, 1) := by decide +kernel
theorem dX1_addChoice_83 : decode cX1_addChoice 83 = .ok (.laload, 1) := by decide +kernel
theorem dX1_addChoice_84 : decode cX1_addChoice 84 = .ok (.aload_n 0, 1) := by decide +kernel
theorem dX1_addChoice_85 : decode cX1_addChoice 85 = .ok (.getfield 11, 3) := by decide +kernel
theorem dX1_addChoice_88 : decode cX1_addChoice 88 = .ok (.iload_n 2, 1) := by decide +kernel
theorem dX1_addChoice_89 : decode cX1_addChoice 89 = .ok (.iconst 4, 1) := by decide +kernel
theorem dX1_addChoice_90 : decode cX1_addChoice 90 = .ok (.imul, 1) := by decide +kernel
theorem dX1_addChoice_91 : decode cX1_addChoice 91 = .ok (.iload 7, 2) := by decide +kernel
theorem dX1_addChoice_93 : decode cX1_addChoice 93 = .ok (.iadd, 1) := by decide +kernel
theorem dX1_addChoice_94 : decode cX1_addChoice 94 = .ok (.laload, 1) := by decide +kernel
theorem dX1_addChoice_95 : decode cX1_addChoice 95 = .ok (.land, 1) := by decide +kernel
theorem dX1_addChoice_96 : decode cX1_addChoice 96 = .ok (.lor, 1) := by decide +kernel
theorem dX1_addChoice_97 : decode cX1_addChoice 97 = .ok (.lastore, 1) := by decide +kernel
theorem dX1_addChoice_98 : decode cX1_addChoice 98 = .ok (.iinc 7 1, 3) := by decide +kernel
theorem dX1_addChoice_101 : decode cX1_addChoice 101 = .ok (.goto (-55), 3) := by decide +kernel
theorem dX1_addChoice_104 : decode cX1_addChoice 104 = .ok (.iinc 3 1, 3) := by decide +kernel
theorem dX1_addChoice_107 : decode cX1_addChoice 107 = .ok (.goto (-97), 3) := by decide +kernel
theorem dX1_addChoice_110 : decode cX1_addChoice 110 = .ok (.return_, 1) := by decide +kernel
set_option maxRecDepth 20000 in
theorem ggX1_opensAll_X1_cellOf : GoodIn wsX1_opensAll wsX1_cellOf := goodIn_r _ [9] (by decide +kernel) (by decide +kernel)
set_option maxRecDepth 20000 in
theorem gX1_opensAll_X1_cellOf : GoodIn wsX1_opensAll (va_wsS RX1 77 yX1_cellOf wsX1_cellOf) := goodIn_app (goodIn_of _ (by decide +kernel)) ggX1_opensAll_X1_cellOf
theorem dX1_opensAll_0 : decode cX1_opensAll 0 = .ok (.iload_n 1, 1) := by decide +kernel
theorem dX1_opensAll_1 : decode cX1_opensAll 1 = .ok (.aload_n 0, 1) := by decide +kernel
theorem dX1_opensAll_2 : decode cX1_opensAll 2 = .ok (.getfield 52, 3) := by decide +kernel
theorem dX1_opensAll_5 : decode cX1_opensAll 5 = .ok (.invokestatic 77, 3) := by decide +kernel
theorem dX1_opensAll_8 : decode cX1_opensAll 8 = .ok (.istore_n 3, 1) := by decide +kernel
theorem dX1_opensAll_9 : decode cX1_opensAll 9 = .ok (.iload_n 1, 1) := by decide +kernel
theorem dX1_opensAll_10 : decode cX1_opensAll 10 = .ok (.aload_n 0, 1) := by decide +kernel
theorem dX1_opensAll_11 : decode cX1_opensAll 11 = .ok (.getfield 52, 3) := by decide +kernel
theorem dX1_opensAll_14 : decode cX1_opensAll 14 = .ok (.iconst 1, 1) := by decide +kernel
theorem dX1_opensAll_15 : decode cX1_opensAll 15 = .ok (.isub, 1) := by decide +kernel
theorem dX1_opensAll_16 : decode cX1_opensAll 16 = .ok (.invokestatic 77, 3) := by decide +kernel
theorem dX1_opensAll_19 : decode cX1_opensAll 19 = .ok (.istore 4, 2) := by decide +kernel
theorem dX1_opensAll_21 : decode cX1_opensAll 21 = .ok (.iconst 0, 1) := by decide +kernel
theorem dX1_opensAll_22 : decode cX1_opensAll 22 = .ok (.istore 5, 2) := by decide +kernel
theorem dX1_opensAll_24 : decode cX1_opensAll 24 = .ok (.iload 5, 2) := by decide +kernel
theorem dX1_opensAll_26 : decode cX1_opensAll 26 = .ok (.aload_n 0, 1) := by decide +kernel
theorem dX1_opensAll_27 : decode cX1_opensAll 27 = .ok (.getfield 55, 3) := by decide +kernel
theorem dX1_opensAll_30 : decode cX1_opensAll 30 = .ok (.if_icmp .ge 58, 3) := by decide +kernel
theorem dX1_opensAll_33 : decode cX1_opensAll 33 = .ok (.aload_n 0, 1) := by decide +kernel
theorem dX1_opensAll_34 : decode cX1_opensAll 34 = .ok (.getfield 15, 3) := by decide +kernel
theorem dX1_opensAll_37 : decode cX1_opensAll 37 = .ok (.iload_n 3, 1) := by decide +kernel
theorem dX1_opensAll_38 : decode cX1_opensAll 38 = .ok (.iload 5, 2) := by decide +kernel
theorem dX1_opensAll_40 : decode cX1_opensAll 40 = .ok (.iadd, 1) := by decide +kernel
theorem dX1_opensAll_41 : decode cX1_opensAll 41 = .ok (.laload, 1) := by decide +kernel
theorem dX1_opensAll_42 : decode cX1_opensAll 42 = .ok (.aload_n 0, 1) := by decide +kernel
theorem dX1_opensAll_43 : decode cX1_opensAll 43 = .ok (.getfield 15, 3) := by decide +kernel
theorem dX1_opensAll_46 : decode cX1_opensAll 46 = .ok (.iload 4, 2) := by decide +kernel
theorem dX1_opensAll_48 : decode cX1_opensAll 48 = .ok (.iload 5, 2) := by decide +kernel
theorem dX1_opensAll_50 : decode cX1_opensAll 50 = .ok (.iadd, 1) := by decide +kernel
theorem dX1_opensAll_51 : decode cX1_opensAll 51 = .ok (.laload, 1) := by decide +kernel
theorem dX1_opensAll_52 : decode cX1_opensAll 52 = .ok (.aload_n 0, 1) := by decide +kernel
theorem dX1_opensAll_53 : decode cX1_opensAll 53 = .ok (.getfield 11, 3) := by decide +kernel
theorem dX1_opensAll_56 : decode cX1_opensAll 56 = .ok (.iload_n 2, 1) := by decide +kernel
theorem dX1_opensAll_57 : decode cX1_opensAll 57 = .ok (.iconst 4, 1) := by decide +kernel
theorem dX1_opensAll_58 : decode cX1_opensAll 58 = .ok (.imul, 1) := by decide +kernel
theorem dX1_opensAll_59 : decode cX1_opensAll 59 = .ok (.iload 5, 2) := by decide +kernel
theorem dX1_opensAll_61 : decode cX1_opensAll 61 = .ok (.iadd, 1) := by decide +kernel
theorem dX1_opensAll_62 : decode cX1_opensAll 62 = .ok (.laload, 1) := by decide +kernel
theorem dX1_opensAll_63 : decode cX1_opensAll 63 = .ok (.land, 1) := by decide +kernel
theorem dX1_opensAll_64 : decode cX1_opensAll 64 = .ok (.lor, 1) := by decide +kernel
theorem dX1_opensAll_65 : decode cX1_opensAll 65 = .ok (.lstore 6, 2) := by decide +kernel
theorem dX1_opensAll_67 : decode cX1_opensAll 67 = .ok (.lload 6, 2) := by decide +kernel
theorem dX1_opensAll_69 : decode cX1_opensAll 69 = .ok (.aload_n 0, 1) := by decide +kernel
theorem dX1_opensAll_70 : decode cX1_opensAll 70 = .ok (.getfield 18, 3) := by decide +kernel
theorem dX1_opensAll_73 : decode cX1_opensAll 73 = .ok (.iload 5, 2) := by decide +kernel
theorem dX1_opensAll_75 : decode cX1_opensAll 75 = .ok (.laload, 1) := by decide +kernel
theorem dX1_opensAll_76 : decode cX1_opensAll 76 = .ok (.lcmp, 1) := by decide +kernel
theorem dX1_opensAll_77 : decode cX1_opensAll 77 = .ok (.ifCond .eq 5, 3) := by decide +kernel
theorem dX1_opensAll_80 : decode cX1_opensAll 80 = .ok (.iconst 0, 1) := by decide +kernel
theorem dX1_opensAll_81 : decode cX1_opensAll 81 = .ok (.ireturn, 1) := by decide +kernel
theorem dX1_opensAll_82 : decode cX1_opensAll 82 = .ok (.iinc 5 1, 3) := by decide +kernel
theorem dX1_opensAll_85 : decode cX1_opensAll 85 = .ok (.goto (-61), 3) := by decide +kernel
theorem dX1_opensAll_88 : decode cX1_opensAll 88 = .ok (.iconst 1, 1) := by decide +kernel
theorem dX1_opensAll_89 : decode cX1_opensAll 89 = .ok (.ireturn, 1) := by decide +kernel
theorem dX1_keepFit_0 : decode cX1_keepFit 0 = .ok (.aload_n 0, 1) := by decide +kernel
theorem dX1_keepFit_1 : decode cX1_keepFit 1 = .ok (.dup, 1) := by decide +kernel
theorem dX1_keepFit_2 : decode cX1_keepFit 2 = .ok (.getfield 58, 3) := by decide +kernel
theorem dX1_keepFit_5 : decode cX1_keepFit 5 = .ok (.iconst 1, 1) := by decide +kernel
theorem dX1_keepFit_6 : decode cX1_keepFit 6 = .ok (.iadd, 1) := by decide +kernel
theorem dX1_keepFit_7 : decode cX1_keepFit 7 = .ok (.putfield 58, 3) := by decide +kernel
theorem dX1_keepFit_10 : decode cX1_keepFit 10 = .ok (.iload_n 1, 1) := by decide +kernel
theorem dX1_keepFit_11 : decode cX1_keepFit 11 = .ok (.aload_n 0, 1) := by decide +kernel
theorem dX1_keepFit_12 : decode cX1_keepFit 12 = .ok (.getfield 64, 3) := by decide +kernel
theorem dX1_keepFit_15 : decode cX1_keepFit 15 = .ok (.if_icmp .ge 22, 3) := by decide +kernel
theorem dX1_keepFit_18 : decode cX1_keepFit 18 = .ok (.aload_n 0, 1) := by decide +kernel
theorem dX1_keepFit_19 : decode cX1_keepFit 19 = .ok (.iload_n 1, 1) := by decide +kernel
theorem dX1_keepFit_20 : decode cX1_keepFit 20 = .ok (.putfield 64, 3) := by decide +kernel
theorem dX1_keepFit_23 : decode cX1_keepFit 23 = .ok (.aload_n 0, 1) := by decide +kernel
theorem dX1_keepFit_24 : decode cX1_keepFit 24 = .ok (.getfield 21, 3) := by decide +kernel
theorem dX1_keepFit_27 : decode cX1_keepFit 27 = .ok (.iconst 0, 1) := by decide +kernel
theorem dX1_keepFit_28 : decode cX1_keepFit 28 = .ok (.aload_n 0, 1) := by decide +kernel
theorem dX1_keepFit_29 : decode cX1_keepFit 29 = .ok (.getfield 25, 3) := by decide +kernel
theorem dX1_keepFit_32 : decode cX1_keepFit 32 = .ok (.iconst 0, 1) := by decide +kernel
theorem dX1_keepFit_33 : decode cX1_keepFit 33 = .ok (.iconst 4, 1) := by decide +kernel
theorem dX1_keepFit_34 : decode cX1_keepFit 34 = .ok (.invokestatic 80, 3) := by decide +kernel
theorem dX1_keepFit_37 : decode cX1_keepFit 37 = .ok (.return_, 1) := by decide +kernel
theorem dX2_init_0 : decode cX2_init 0 = .ok (.aload_n 0, 1) := by decide +kernel
theorem dX2_init_1 : decode cX2_init 1 = .ok (.invokespecial 3, 3) := by decide +kernel
theorem dX2_init_4 : decode cX2_init 4 = .ok (.aload_n 0, 1) := by decide +kernel
theorem dX2_init_5 : decode cX2_init 5 = .ok (.iconst 5, 1) := by decide +kernel
theorem dX2_init_6 : decode cX2_init 6 = .ok (.newarray .int, 2) := by decide +kernel
theorem dX2_init_8 : decode cX2_init 8 = .ok (.putfield 9, 3) := by decide +kernel
theorem dX2_init_11 : decode cX2_init 11 = .ok (.aload_n 0, 1) := by decide +kernel
theorem dX2_init_12 : decode cX2_init 12 = .ok (.bipush 65, 2) := by decide +kernel
theorem dX2_init_14 : decode cX2_init 14 = .ok (.newarray .int, 2) := by decide +kernel
theorem dX2_init_16 : decode cX2_init 16 = .ok (.putfield 15, 3) := by decide +kernel
theorem dX2_init_19 : decode cX2_init 19 = .ok (.aload_n 0, 1) := by decide +kernel
theorem dX2_init_20 : decode cX2_init 20 = .ok (.iconst 5, 1) := by decide +kernel
theorem dX2_init_21 : decode cX2_init 21 = .ok (.newarray .int, 2) := by decide +kernel
theorem dX2_init_23 : decode cX2_init 23 = .ok (.putfield 18, 3) := by decide +kernel
theorem dX2_init_26 : decode cX2_init 26 = .ok (.return_, 1) := by decide +kernel
theorem dX2_takeGaps_0 : decode cX2_takeGaps 0 = .ok (.aload_n 0, 1) := by decide +kernel
theorem dX2_takeGaps_1 : decode cX2_takeGaps 1 = .ok (.aload_n 1, 1) := by decide +kernel
theorem dX2_takeGaps_2 : decode cX2_takeGaps 2 = .ok (.getfield 21, 3) := by decide +kernel
theorem dX2_takeGaps_5 : decode cX2_takeGaps 5 = .ok (.putfield 27, 3) := by decide +kernel
theorem dX2_takeGaps_8 : decode cX2_takeGaps 8 = .ok (.aload_n 1, 1) := by decide +kernel
theorem dX2_takeGaps_9 : decode cX2_takeGaps 9 = .ok (.getfield 30, 3) := by decide +kernel
theorem dX2_takeGaps_12 : decode cX2_takeGaps 12 = .ok (.iconst 0, 1) := by decide +kernel
theorem dX2_takeGaps_13 : decode cX2_takeGaps 13 = .ok (.aload_n 0, 1) := by decide +kernel
theorem dX2_takeGaps_14 : decode cX2_takeGaps 14 = .ok (.getfield 9, 3) := by decide +kernel
theorem dX2_takeGaps_17 : decode cX2_takeGaps 17 = .ok (.iconst 0, 1) := by decide +kernel
theorem dX2_takeGaps_18 : decode cX2_takeGaps 18 = .ok (.iconst 5, 1) := by decide +kernel
theorem dX2_takeGaps_19 : decode cX2_takeGaps 19 = .ok (.invokestatic 33, 3) := by decide +kernel
theorem dX2_takeGaps_22 : decode cX2_takeGaps 22 = .ok (.return_, 1) := by decide +kernel
set_option maxRecDepth 20000 in
theorem ggX2_send_X10_rest : GoodIn wsX2_send wsX10_rest := goodIn_r _ [8] (by decide +kernel) (by decide +kernel)
set_option maxRecDepth 20000 in
theorem gX2_send_X10_rest_n43 : GoodIn wsX2_send (wsX10_rest) := ggX2_send_X10_rest
theorem dX2_send_0 : decode cX2_send 0 = .ok (.aload_n 0, 1) := by decide +kernel
theorem dX2_send_1 : decode cX2_send 1 = .ok (.iload_n 1, 1) := by decide +kernel
theorem dX2_send_2 : decode cX2_send 2 = .ok (.putfield 39, 3) := by decide +kernel
theorem dX2_send_5 : decode cX2_send 5 = .ok (.iload_n 2, 1) := by decide +kernel
theorem dX2_send_6 : decode cX2_send 6 = .ok (.istore 4, 2) := by decide +kernel
theorem dX2_send_8 : decode cX2_send 8 = .ok (.iconst 0, 1) := by decide +kernel
theorem dX2_send_9 : decode cX2_send 9 = .ok (.istore 5, 2) := by decide +kernel
theorem dX2_send_11 : decode cX2_send 11 = .ok (.iconst 0, 1) := by decide +kernel
theorem dX2_send_12 : decode cX2_send 12 = .ok (.istore 6, 2) := by decide +kernel
theorem dX2_send_14 : decode cX2_send 14 = .ok (.iload 6, 2) := by decide +kernel
theorem dX2_send_16 : decode cX2_send 16 = .ok (.iload_n 1, 1) := by decide +kernel
theorem dX2_send_17 : decode cX2_send 17 = .ok (.if_icmp .ge 82, 3) := by decide +kernel
theorem dX2_send_20 : decode cX2_send 20 = .ok (.iload 6, 2) := by decide +kernel
theorem dX2_send_22 : decode cX2_send 22 = .ok (.bipush 64, 2) := by decide +kernel
theorem dX2_send_24 : decode cX2_send 24 = .ok (.if_icmp .ge 75, 3) := by decide +kernel
theorem dX2_send_27 : decode cX2_send 27 = .ok (.aload_n 0, 1) := by decide +kernel
theorem dX2_send_28 : decode cX2_send 28 = .ok (.getfield 15, 3) := by decide +kernel
theorem dX2_send_31 : decode cX2_send 31 = .ok (.iload 6, 2) := by decide +kernel
theorem dX2_send_33 : decode cX2_send 33 = .ok (.iload 5, 2) := by decide +kernel
theorem dX2_send_35 : decode cX2_send 35 = .ok (.iastore, 1) := by decide +kernel
theorem dX2_send_36 : decode cX2_send 36 = .ok (.iload 4, 2) := by decide +kernel
theorem dX2_send_38 : decode cX2_send 38 = .ok (.ldc 42, 2) := by decide +kernel
theorem dX2_send_40 : decode cX2_send 40 = .ok (.imul, 1) := by decide +kernel
theorem dX2_send_41 : decode cX2_send 41 = .ok (.sipush 12345, 3) := by decide +kernel
theorem dX2_send_44 : decode cX2_send 44 = .ok (.iadd, 1) := by decide +kernel
theorem dX2_send_45 : decode cX2_send 45 = .ok (.istore 4, 2) := by decide +kernel
theorem dX2_send_47 : decode cX2_send 47 = .ok (.iload 5, 2) := by decide +kernel
theorem dX2_send_49 : decode cX2_send 49 = .ok (.aload_n 0, 1) := by decide +kernel
theorem dX2_send_50 : decode cX2_send 50 = .ok (.getfield 9, 3) := by decide +kernel
theorem dX2_send_53 : decode cX2_send 53 = .ok (.iload 6, 2) := by decide +kernel
theorem dX2_send_55 : decode cX2_send 55 = .ok (.aload_n 0, 1) := by decide +kernel
theorem dX2_send_56 : decode cX2_send 56 = .ok (.getfield 27, 3) := by decide +kernel
theorem dX2_send_59 : decode cX2_send 59 = .ok (.invokestatic 43, 3) := by decide +kernel
theorem dX2_send_62 : decode cX2_send 62 = .ok (.iaload, 1) := by decide +kernel
theorem dX2_send_63 : decode cX2_send 63 = .ok (.iload 4, 2) := by decide +kernel
theorem dX2_send_65 : decode cX2_send 65 = .ok (.bipush 16, 2) := by decide +kernel
theorem dX2_send_67 : decode cX2_send 67 = .ok (.iushr, 1) := by decide +kernel
theorem dX2_send_68 : decode cX2_send 68 = .ok (.iconst 2, 1) := by decide +kernel
theorem dX2_send_69 : decode cX2_send 69 = .ok (.iload_n 3, 1) := by decide +kernel
theorem dX2_send_70 : decode cX2_send 70 = .ok (.imul, 1) := by decide +kernel
theorem dX2_send_71 : decode cX2_send 71 = .ok (.iconst 1, 1) := by decide +kernel
theorem dX2_send_72 : decode cX2_send 72 = .ok (.iadd, 1) := by decide +kernel
theorem dX2_send_73 : decode cX2_send 73 = .ok (.invokestatic 43, 3) := by decide +kernel
theorem dX2_send_76 : decode cX2_send 76 = .ok (.iadd, 1) := by decide +kernel
theorem dX2_send_77 : decode cX2_send 77 = .ok (.iload_n 3, 1) := by decide +kernel
theorem dX2_send_78 : decode cX2_send 78 = .ok (.isub, 1) := by decide +kernel
theorem dX2_send_79 : decode cX2_send 79 = .ok (.iadd, 1) := by decide +kernel
theorem dX2_send_80 : decode cX2_send 80 = .ok (.istore 5, 2) := by decide +kernel
theorem dX2_send_82 : decode cX2_send 82 = .ok (.aload_n 0, 1) := by decide +kernel
theorem dX2_send_83 : decode cX2_send 83 = .ok (.getfield 15, 3) := by decide +kernel
theorem dX2_send_86 : decode cX2_send 86 = .ok (.iload 6, 2) := by decide +kernel
theorem dX2_send_88 : decode cX2_send 88 = .ok (.iconst 1, 1) := by decide +kernel
theorem dX2_send_89 : decode cX2_send 89 = .ok (.iadd, 1) := by decide +kernel
theorem dX2_send_90 : decode cX2_send 90 = .ok (.iload 5, 2) := by decide +kernel
theorem dX2_send_92 : decode cX2_send 92 = .ok (.iastore, 1) := by decide +kernel
theorem dX2_send_93 : decode cX2_send 93 = .ok (.iinc 6 1, 3) := by decide +kernel
theorem dX2_send_96 : decode cX2_send 96 = .ok (.goto (-82), 3) := by decide +kernel
theorem dX2_send_99 : decode cX2_send 99 = .ok (.return_, 1) := by decide +kernel
theorem dX2_lastSent_0 : decode cX2_lastSent 0 = .ok (.aload_n 0, 1) := by decide +kernel
theorem dX2_lastSent_1 : decode cX2_lastSent 1 = .ok (.getfield 39, 3) := by decide +kernel
theorem dX2_lastSent_4 : decode cX2_lastSent 4 = .ok (.ifCond .le 17, 3) := by decide +kernel
theorem dX2_lastSent_7 : decode cX2_lastSent 7 = .ok (.aload_n 0, 1) := by decide +kernel
theorem dX2_lastSent_8 : decode cX2_lastSent 8 = .ok (.getfield 15, 3) := by decide +kernel
theorem dX2_lastSent_11 : decode cX2_lastSent 11 = .ok (.aload_n 0, 1) := by decide +kernel
theorem dX2_lastSent_12 : decode cX2_lastSent 12 = .ok (.getfield 39, 3) := by decide +kernel
theorem dX2_lastSent_15 : decode cX2_lastSent 15 = .ok (.iconst 1, 1) := by decide +kernel
theorem dX2_lastSent_16 : decode cX2_lastSent 16 = .ok (.isub, 1) := by decide +kernel
theorem dX2_lastSent_17 : decode cX2_lastSent 17 = .ok (.iaload, 1) := by decide +kernel
theorem dX2_lastSent_18 : decode cX2_lastSent 18 = .ok (.goto 4, 3) := by decide +kernel
theorem dX2_lastSent_21 : decode cX2_lastSent 21 = .ok (.iconst 0, 1) := by decide +kernel
theorem dX2_lastSent_22 : decode cX2_lastSent 22 = .ok (.ireturn, 1) := by decide +kernel
theorem dX2_longestGap_0 : decode cX2_longestGap 0 = .ok (.iconst 0, 1) := by decide +kernel
theorem dX2_longestGap_1 : decode cX2_longestGap 1 = .ok (.istore_n 1, 1) := by decide +kernel
theorem dX2_longestGap_2 : decode cX2_longestGap 2 = .ok (.iconst 1, 1) := by decide +kernel
theorem dX2_longestGap_3 : decode cX2_longestGap 3 = .ok (.istore_n 2, 1) := by decide +kernel
theorem dX2_longestGap_4 : decode cX2_longestGap 4 = .ok (.iload_n 2, 1) := by decide +kernel
theorem dX2_longestGap_5 : decode cX2_longestGap 5 = .ok (.aload_n 0, 1) := by decide +kernel
theorem dX2_longestGap_6 : decode cX2_longestGap 6 = .ok (.getfield 39, 3) := by decide +kernel
theorem dX2_longestGap_9 : decode cX2_longestGap 9 = .ok (.if_icmp .ge 29, 3) := by decide +kernel
theorem dX2_longestGap_12 : decode cX2_longestGap 12 = .ok (.iload_n 1, 1) := by decide +kernel
theorem dX2_longestGap_13 : decode cX2_longestGap 13 = .ok (.aload_n 0, 1) := by decide +kernel
theorem dX2_longestGap_14 : decode cX2_longestGap 14 = .ok (.getfield 15, 3) := by decide +kernel
theorem dX2_longestGap_17 : decode cX2_longestGap 17 = .ok (.iload_n 2, 1) := by decide +kernel
theorem dX2_longestGap_18 : decode cX2_longestGap 18 = .ok (.iaload, 1) := by decide +kernel
theorem dX2_longestGap_19 : decode cX2_longestGap 19 = .ok (.aload_n 0, 1) := by decide +kernel
theorem dX2_longestGap_20 : decode cX2_longestGap 20 = .ok (.getfield 15, 3) := by decide +kernel
theorem dX2_longestGap_23 : decode cX2_longestGap 23 = .ok (.iload_n 2, 1) := by decide +kernel
theorem dX2_longestGap_24 : decode cX2_longestGap 24 = .ok (.iconst 1, 1) := by decide +kernel
theorem dX2_longestGap_25 : decode cX2_longestGap 25 = .ok (.isub, 1) := by decide +kernel
theorem dX2_longestGap_26 : decode cX2_longestGap 26 = .ok (.iaload, 1) := by decide +kernel
theorem dX2_longestGap_27 : decode cX2_longestGap 27 = .ok (.isub, 1) := by decide +kernel
theorem dX2_longestGap_28 : decode cX2_longestGap 28 = .ok (.invokestatic 47, 3) := by decide +kernel
theorem dX2_longestGap_31 : decode cX2_longestGap 31 = .ok (.istore_n 1, 1) := by decide +kernel
theorem dX2_longestGap_32 : decode cX2_longestGap 32 = .ok (.iinc 2 1, 3) := by decide +kernel
theorem dX2_longestGap_35 : decode cX2_longestGap 35 = .ok (.goto (-31), 3) := by decide +kernel
theorem dX2_longestGap_38 : decode cX2_longestGap 38 = .ok (.iload_n 1, 1) := by decide +kernel
theorem dX2_longestGap_39 : decode cX2_longestGap 39 = .ok (.ireturn, 1) := by decide +kernel
set_option maxRecDepth 20000 in
theorem ggX2_countClear_X5_rangeOf : GoodIn wsX2_countClear wsX5_rangeOf := goodIn_r _ [8, 9, 10, 11, 12, 13, 14, 15, 16, 17, 18, 19, 20, 21, 22] (by decide +kernel) (by decide +kernel)
set_option maxRecDepth 20000 in
theorem gX2_countClear_X5_rangeOf : GoodIn wsX2_countClear (wsV RX2 55 RX5 yX5_rangeOf wsX5_rangeOf) := goodIn_app (goodIn_of _ (by decide +kernel)) ggX2_countClear_X5_rangeOf
theorem dX2_countClear_0 : decode cX2_countClear 0 = .ok (.iconst 0, 1) := by decide +kernel
theorem dX2_countClear_1 : decode cX2_countClear 1 = .ok (.istore_n 2, 1) := by decide +kernel
theorem dX2_countClear_2 : decode cX2_countClear 2 = .ok (.iconst 0, 1) := by decide +kernel
theorem dX2_countClear_3 : decode cX2_countClear 3 = .ok (.istore_n 3, 1) := by decide +kernel
theorem dX2_countClear_4 : decode cX2_countClear 4 = .ok (.iload_n 3, 1) := by decide +kernel
theorem dX2_countClear_5 : decode cX2_countClear 5 = .ok (.aload_n 1, 1) := by decide +kernel
theorem dX2_countClear_6 : decode cX2_countClear 6 = .ok (.getfield 52, 3) := by decide +kernel
theorem dX2_countClear_9 : decode cX2_countClear 9 = .ok (.if_icmp .ge 55, 3) := by decide +kernel
theorem dX2_countClear_12 : decode cX2_countClear 12 = .ok (.iconst 0, 1) := by decide +kernel
theorem dX2_countClear_13 : decode cX2_countClear 13 = .ok (.istore 4, 2) := by decide +kernel
theorem dX2_countClear_15 : decode cX2_countClear 15 = .ok (.iload 4, 2) := by decide +kernel
theorem dX2_countClear_17 : decode cX2_countClear 17 = .ok (.aload_n 0, 1) := by decide +kernel
theorem dX2_countClear_18 : decode cX2_countClear 18 = .ok (.getfield 39, 3) := by decide +kernel
theorem dX2_countClear_21 : decode cX2_countClear 21 = .ok (.if_icmp .ge 37, 3) := by decide +kernel
theorem dX2_countClear_24 : decode cX2_countClear 24 = .ok (.aload_n 0, 1) := by decide +kernel
theorem dX2_countClear_25 : decode cX2_countClear 25 = .ok (.getfield 15, 3) := by decide +kernel
theorem dX2_countClear_28 : decode cX2_countClear 28 = .ok (.iload 4, 2) := by decide +kernel
theorem dX2_countClear_30 : decode cX2_countClear 30 = .ok (.iaload, 1) := by decide +kernel
theorem dX2_countClear_31 : decode cX2_countClear 31 = .ok (.aload_n 1, 1) := by decide +kernel
theorem dX2_countClear_32 : decode cX2_countClear 32 = .ok (.iload_n 3, 1) := by decide +kernel
theorem dX2_countClear_33 : decode cX2_countClear 33 = .ok (.invokevirtual 55, 3) := by decide +kernel
theorem dX2_countClear_36 : decode cX2_countClear 36 = .ok (.iadd, 1) := by decide +kernel
theorem dX2_countClear_37 : decode cX2_countClear 37 = .ok (.aload_n 0, 1) := by decide +kernel
theorem dX2_countClear_38 : decode cX2_countClear 38 = .ok (.getfield 15, 3) := by decide +kernel
theorem dX2_countClear_41 : decode cX2_countClear 41 = .ok (.iload 4, 2) := by decide +kernel
theorem dX2_countClear_43 : decode cX2_countClear 43 = .ok (.iconst 1, 1) := by decide +kernel
theorem dX2_countClear_44 : decode cX2_countClear 44 = .ok (.iadd, 1) := by decide +kernel
theorem dX2_countClear_45 : decode cX2_countClear 45 = .ok (.iaload, 1) := by decide +kernel
theorem dX2_countClear_46 : decode cX2_countClear 46 = .ok (.if_icmp .ge 6, 3) := by decide +kernel
theorem dX2_countClear_49 : decode cX2_countClear 49 = .ok (.iinc 2 1, 3) := by decide +kernel
theorem dX2_countClear_52 : decode cX2_countClear 52 = .ok (.iinc 4 1, 3) := by decide +kernel
theorem dX2_countClear_55 : decode cX2_countClear 55 = .ok (.goto (-40), 3) := by decide +kernel
theorem dX2_countClear_58 : decode cX2_countClear 58 = .ok (.iinc 3 1, 3) := by decide +kernel
theorem dX2_countClear_61 : decode cX2_countClear 61 = .ok (.goto (-57), 3) := by decide +kernel
theorem dX2_countClear_64 : decode cX2_countClear 64 = .ok (.iload_n 2, 1) := by decide +kernel
theorem dX2_countClear_65 : decode cX2_countClear 65 = .ok (.ireturn, 1) := by decide +kernel
set_option maxRecDepth 20000 in
theorem ggX2_countHidden_X5_rangeOf : GoodIn wsX2_countHidden wsX5_rangeOf := goodIn_r _ [7, 8, 20, 21, 22, 23, 24, 25, 26, 27, 28, 29, 30, 31, 32] (by decide +kernel) (by decide +kernel)
set_option maxRecDepth 20000 in
theorem gX2_countHidden_X5_rangeOf : GoodIn wsX2_countHidden (wsV RX2 55 RX5 yX5_rangeOf wsX5_rangeOf) := goodIn_app (goodIn_of _ (by decide +kernel)) ggX2_countHidden_X5_rangeOf
set_option maxRecDepth 20000 in
theorem ggX2_countHidden_X2_countHiddenOf : GoodIn wsX2_countHidden wsX2_countHiddenOf := goodIn_r _ [13, 14, 15, 16, 17, 18, 19, 33, 34, 35, 36, 37, 38] (by decide +kernel) (by decide +kernel)
set_option maxRecDepth 20000 in
theorem gX2_countHidden_X2_countHiddenOf : GoodIn wsX2_countHidden (wsV RX2 62 RX2 yX2_countHiddenOf wsX2_countHiddenOf) := goodIn_app (goodIn_of _ (by decide +kernel)) ggX2_countHidden_X2_countHiddenOf
theorem dX2_countHidden_0 : decode cX2_countHidden 0 = .ok (.iconst 0, 1) := by decide +kernel
theorem dX2_countHidden_1 : decode cX2_countHidden 1 = .ok (.istore_n 3, 1) := by decide +kernel
theorem dX2_countHidden_2 : decode cX2_countHidden 2 = .ok (.iconst 0, 1) := by decide +kernel
theorem dX2_countHidden_3 : decode cX2_countHidden 3 = .ok (.istore 4, 2) := by decide +kernel
theorem dX2_countHidden_5 : decode cX2_countHidden 5 = .ok (.iload 4, 2) := by decide +kernel
theorem dX2_countHidden_7 : decode cX2_countHidden 7 = .ok (.aload_n 1, 1) := by decide +kernel
theorem dX2_countHidden_8 : decode cX2_countHidden 8 = .ok (.getfield 52, 3) := by decide +kernel
theorem dX2_countHidden_11 : decode cX2_countHidden 11 = .ok (.if_icmp .ge 33, 3) := by decide +kernel
theorem dX2_countHidden_14 : decode cX2_countHidden 14 = .ok (.iload_n 3, 1) := by decide +kernel
theorem dX2_countHidden_15 : decode cX2_countHidden 15 = .ok (.iload_n 2, 1) := by decide +kernel
theorem dX2_countHidden_16 : decode cX2_countHidden 16 = .ok (.if_icmp .ge 28, 3) := by decide +kernel
theorem dX2_countHidden_19 : decode cX2_countHidden 19 = .ok (.iload_n 3, 1) := by decide +kernel
theorem dX2_countHidden_20 : decode cX2_countHidden 20 = .ok (.aload_n 0, 1) := by decide +kernel
theorem dX2_countHidden_21 : decode cX2_countHidden 21 = .ok (.aload_n 1, 1) := by decide +kernel
theorem dX2_countHidden_22 : decode cX2_countHidden 22 = .ok (.iload 4, 2) := by decide +kernel
theorem dX2_countHidden_24 : decode cX2_countHidden 24 = .ok (.invokevirtual 55, 3) := by decide +kernel
theorem dX2_countHidden_27 : decode cX2_countHidden 27 = .ok (.aload_n 1, 1) := by decide +kernel
theorem dX2_countHidden_28 : decode cX2_countHidden 28 = .ok (.getfield 59, 3) := by decide +kernel
theorem dX2_countHidden_31 : decode cX2_countHidden 31 = .ok (.iconst 2, 1) := by decide +kernel
theorem dX2_countHidden_32 : decode cX2_countHidden 32 = .ok (.iaload, 1) := by decide +kernel
theorem dX2_countHidden_33 : decode cX2_countHidden 33 = .ok (.invokevirtual 62, 3) := by decide +kernel
theorem dX2_countHidden_36 : decode cX2_countHidden 36 = .ok (.iadd, 1) := by decide +kernel
theorem dX2_countHidden_37 : decode cX2_countHidden 37 = .ok (.istore_n 3, 1) := by decide +kernel
theorem dX2_countHidden_38 : decode cX2_countHidden 38 = .ok (.iinc 4 1, 3) := by decide +kernel
theorem dX2_countHidden_41 : decode cX2_countHidden 41 = .ok (.goto (-36), 3) := by decide +kernel
theorem dX2_countHidden_44 : decode cX2_countHidden 44 = .ok (.iload_n 3, 1) := by decide +kernel
theorem dX2_countHidden_45 : decode cX2_countHidden 45 = .ok (.ireturn, 1) := by decide +kernel
theorem dX2_countHiddenOf_0 : decode cX2_countHiddenOf 0 = .ok (.iload_n 2, 1) := by decide +kernel
theorem dX2_countHiddenOf_1 : decode cX2_countHiddenOf 1 = .ok (.iconst 1, 1) := by decide +kernel
theorem dX2_countHiddenOf_2 : decode cX2_countHiddenOf 2 = .ok (.invokestatic 47, 3) := by decide +kernel
theorem dX2_countHiddenOf_5 : decode cX2_countHiddenOf 5 = .ok (.istore_n 3, 1) := by decide +kernel
theorem dX2_countHiddenOf_6 : decode cX2_countHiddenOf 6 = .ok (.iconst 0, 1) := by decide +kernel
theorem dX2_countHiddenOf_7 : decode cX2_countHiddenOf 7 = .ok (.istore 4, 2) := by decide +kernel
theorem dX2_countHiddenOf_9 : decode cX2_countHiddenOf 9 = .ok (.iconst 0, 1) := by decide +kernel
theorem dX2_countHiddenOf_10 : decode cX2_countHiddenOf 10 = .ok (.istore 5, 2) := by decide +kernel
theorem dX2_countHiddenOf_12 : decode cX2_countHiddenOf 12 = .ok (.iconst 0, 1) := by decide +kernel
theorem dX2_countHiddenOf_13 : decode cX2_countHiddenOf 13 = .ok (.istore 6, 2) := by decide +kernel
theorem dX2_countHiddenOf_15 : decode cX2_countHiddenOf 15 = .ok (.iload 6, 2) := by decide +kernel
theorem dX2_countHiddenOf_17 : decode cX2_countHiddenOf 17 = .ok (.aload_n 0, 1) := by decide +kernel
theorem dX2_countHiddenOf_18 : decode cX2_countHiddenOf 18 = .ok (.getfield 39, 3) := by decide +kernel
theorem dX2_countHiddenOf_21 : decode cX2_countHiddenOf 21 = .ok (.if_icmp .ge 68, 3) := by decide +kernel
theorem dX2_countHiddenOf_24 : decode cX2_countHiddenOf 24 = .ok (.aload_n 0, 1) := by decide +kernel
theorem dX2_countHiddenOf_25 : decode cX2_countHiddenOf 25 = .ok (.getfield 15, 3) := by decide +kernel
theorem dX2_countHiddenOf_28 : decode cX2_countHiddenOf 28 = .ok (.iload 6, 2) := by decide +kernel
theorem dX2_countHiddenOf_30 : decode cX2_countHiddenOf 30 = .ok (.iaload, 1) := by decide +kernel
theorem dX2_countHiddenOf_31 : decode cX2_countHiddenOf 31 = .ok (.iload_n 1, 1) := by decide +kernel
theorem dX2_countHiddenOf_32 : decode cX2_countHiddenOf 32 = .ok (.iadd, 1) := by decide +kernel
theorem dX2_countHiddenOf_33 : decode cX2_countHiddenOf 33 = .ok (.istore 7, 2) := by decide +kernel
theorem dX2_countHiddenOf_35 : decode cX2_countHiddenOf 35 = .ok (.iload 5, 2) := by decide +kernel
theorem dX2_countHiddenOf_37 : decode cX2_countHiddenOf 37 = .ok (.iconst 1, 1) := by decide +kernel
theorem dX2_countHiddenOf_38 : decode cX2_countHiddenOf 38 = .ok (.iadd, 1) := by decide +kernel
theorem dX2_countHiddenOf_39 : decode cX2_countHiddenOf 39 = .ok (.aload_n 0, 1) := by decide +kernel
theorem dX2_countHiddenOf_40 : decode cX2_countHiddenOf 40 = .ok (.getfield 39, 3) := by decide +kernel
theorem dX2_countHiddenOf_43 : decode cX2_countHiddenOf 43 = .ok (.if_icmp .ge 23, 3) := by decide +kernel
theorem dX2_countHiddenOf_46 : decode cX2_countHiddenOf 46 = .ok (.aload_n 0, 1) := by decide +kernel
theorem dX2_countHiddenOf_47 : decode cX2_countHiddenOf 47 = .ok (.getfield 15, 3) := by decide +kernel
theorem dX2_countHiddenOf_50 : decode cX2_countHiddenOf 50 = .ok (.iload 5, 2) := by decide +kernel
theorem dX2_countHiddenOf_52 : decode cX2_countHiddenOf 52 = .ok (.iconst 1, 1) := by decide +kernel
theorem dX2_countHiddenOf_53 : decode cX2_countHiddenOf 53 = .ok (.iadd, 1) := by decide +kernel
theorem dX2_countHiddenOf_54 : decode cX2_countHiddenOf 54 = .ok (.iaload, 1) := by decide +kernel
theorem dX2_countHiddenOf_55 : decode cX2_countHiddenOf 55 = .ok (.iload 7, 2) := by decide +kernel
theorem dX2_countHiddenOf_57 : decode cX2_countHiddenOf 57 = .ok (.if_icmp .gt 9, 3) := by decide +kernel
theorem dX2_countHiddenOf_60 : decode cX2_countHiddenOf 60 = .ok (.iinc 5 1, 3) := by decide +kernel
theorem dX2_countHiddenOf_63 : decode cX2_countHiddenOf 63 = .ok (.goto (-28), 3) := by decide +kernel
theorem dX2_countHiddenOf_66 : decode cX2_countHiddenOf 66 = .ok (.iload 7, 2) := by decide +kernel
theorem dX2_countHiddenOf_68 : decode cX2_countHiddenOf 68 = .ok (.aload_n 0, 1) := by decide +kernel
theorem dX2_countHiddenOf_69 : decode cX2_countHiddenOf 69 = .ok (.getfield 15, 3) := by decide +kernel
theorem dX2_countHiddenOf_72 : decode cX2_countHiddenOf 72 = .ok (.iload 5, 2) := by decide +kernel
theorem dX2_countHiddenOf_74 : decode cX2_countHiddenOf 74 = .ok (.iaload, 1) := by decide +kernel
theorem dX2_countHiddenOf_75 : decode cX2_countHiddenOf 75 = .ok (.isub, 1) := by decide +kernel
theorem dX2_countHiddenOf_76 : decode cX2_countHiddenOf 76 = .ok (.iload_n 3, 1) := by decide +kernel
theorem dX2_countHiddenOf_77 : decode cX2_countHiddenOf 77 = .ok (.if_icmp .ge 6, 3) := by decide +kernel
theorem dX2_countHiddenOf_80 : decode cX2_countHiddenOf 80 = .ok (.iinc 4 1, 3) := by decide +kernel
theorem dX2_countHiddenOf_83 : decode cX2_countHiddenOf 83 = .ok (.iinc 6 1, 3) := by decide +kernel
theorem dX2_countHiddenOf_86 : decode cX2_countHiddenOf 86 = .ok (.goto (-71), 3) := by decide +kernel
theorem dX2_countHiddenOf_89 : decode cX2_countHiddenOf 89 = .ok (.iload 4, 2) := by decide +kernel
theorem dX2_countHiddenOf_91 : decode cX2_countHiddenOf 91 = .ok (.ireturn, 1) := by decide +kernel
set_option maxRecDepth 20000 in
theorem ggX2_arrange_X2_takeGaps : GoodIn wsX2_arrange wsX2_takeGaps := goodIn_r _ [13, 14, 15, 16, 3, 5, 6, 7, 8, 61, 62, 63, 64, 65, 66, 67, 68, 69, 70, 71, 72, 73, 55, 56, 57, 58, 59, 60] (by decide +kernel) (by decide +kernel)
set_option maxRecDepth 20000 in
theorem gX2_arrange_X2_takeGaps : GoodIn wsX2_arrange (wsV RX2 65 RX2 yX2_takeGaps wsX2_takeGaps) := goodIn_app (goodIn_of _ (by decide +kernel)) ggX2_arrange_X2_takeGaps
set_option maxRecDepth 20000 in
theorem ggX2_arrange_X2_send : GoodIn wsX2_arrange wsX2_send := goodIn_r _ [20, 21, 22, 23, 3, 15, 24, 25, 26, 55, 56, 57, 58, 59, 60] (by decide +kernel) (by decide +kernel)
set_option maxRecDepth 20000 in
theorem gX2_arrange_X2_send : GoodIn wsX2_arrange (wsV RX2 75 RX2 yX2_send wsX2_send) := goodIn_app (goodIn_of _ (by decide +kernel)) ggX2_arrange_X2_send
set_option maxRecDepth 20000 in
theorem ggX2_arrange_X2_countHidden : GoodIn wsX2_arrange wsX2_countHidden := goodIn_r _ [30, 31, 32, 33, 34, 35, 36, 37, 38, 39, 40, 41, 12, 42, 43, 44, 45, 46, 21, 22, 61, 62, 63, 64, 65, 66, 67, 68, 69, 70, 71, 72, 73, 55, 56, 57, 58, 59, 60] (by decide +kernel) (by decide +kernel)
set_option maxRecDepth 20000 in
theorem gX2_arrange_X2_countHidden : GoodIn wsX2_arrange (wsV RX2 79 RX2 yX2_countHidden wsX2_countHidden) := goodIn_app (goodIn_of _ (by decide +kernel)) ggX2_arrange_X2_countHidden
set_option maxRecDepth 20000 in
theorem ggX2_arrange_X2_nextRow : GoodIn wsX2_arrange wsX2_nextRow := goodIn_r _ [50, 15, 3, 51, 52, 53, 12, 54, 55, 56, 57, 58, 59, 60] (by decide +kernel) (by decide +kernel)
set_option maxRecDepth 20000 in
theorem gX2_arrange_X2_nextRow : GoodIn wsX2_arrange (wsV RX2 83 RX2 yX2_nextRow wsX2_nextRow) := goodIn_app (goodIn_of _ (by decide +kernel)) ggX2_arrange_X2_nextRow
theorem dX2_arrange_0 : decode cX2_arrange 0 = .ok (.aload_n 0, 1) := by decide +kernel
theorem dX2_arrange_1 : decode cX2_arrange 1 = .ok (.aload_n 1, 1) := by decide +kernel
theorem dX2_arrange_2 : decode cX2_arrange 2 = .ok (.invokevirtual 65, 3) := by decide +kernel
theorem dX2_arrange_5 : decode cX2_arrange 5 = .ok (.aload_n 0, 1) := by decide +kernel
theorem dX2_arrange_6 : decode cX2_arrange 6 = .ok (.ldc 71, 2) := by decide +kernel
theorem dX2_arrange_8 : decode cX2_arrange 8 = .ok (.putfield 72, 3) := by decide +kernel
theorem dX2_arrange_11 : decode cX2_arrange 11 = .ok (.iconst 1, 1) := by decide +kernel
theorem dX2_arrange_12 : decode cX2_arrange 12 = .ok (.istore_n 3, 1) := by decide +kernel
theorem dX2_arrange_13 : decode cX2_arrange 13 = .ok (.iconst 0, 1) := by decide +kernel
theorem dX2_arrange_14 : decode cX2_arrange 14 = .ok (.istore 4, 2) := by decide +kernel
theorem dX2_arrange_16 : decode cX2_arrange 16 = .ok (.iload 4, 2) := by decide +kernel
theorem dX2_arrange_18 : decode cX2_arrange 18 = .ok (.bipush 120, 2) := by decide +kernel
theorem dX2_arrange_20 : decode cX2_arrange 20 = .ok (.if_icmp .ge 72, 3) := by decide +kernel
theorem dX2_arrange_23 : decode cX2_arrange 23 = .ok (.iload_n 3, 1) := by decide +kernel
theorem dX2_arrange_24 : decode cX2_arrange 24 = .ok (.ifCond .eq 68, 3) := by decide +kernel
theorem dX2_arrange_27 : decode cX2_arrange 27 = .ok (.aload_n 0, 1) := by decide +kernel
theorem dX2_arrange_28 : decode cX2_arrange 28 = .ok (.getfield 72, 3) := by decide +kernel
theorem dX2_arrange_31 : decode cX2_arrange 31 = .ok (.ifCond .le 61, 3) := by decide +kernel
theorem dX2_arrange_34 : decode cX2_arrange 34 = .ok (.aload_n 0, 1) := by decide +kernel
theorem dX2_arrange_35 : decode cX2_arrange 35 = .ok (.iload_n 2, 1) := by decide +kernel
theorem dX2_arrange_36 : decode cX2_arrange 36 = .ok (.iconst 0, 1) := by decide +kernel
theorem dX2_arrange_37 : decode cX2_arrange 37 = .ok (.iconst 0, 1) := by decide +kernel
theorem dX2_arrange_38 : decode cX2_arrange 38 = .ok (.invokevirtual 75, 3) := by decide +kernel
theorem dX2_arrange_41 : decode cX2_arrange 41 = .ok (.aload_n 0, 1) := by decide +kernel
theorem dX2_arrange_42 : decode cX2_arrange 42 = .ok (.aload_n 1, 1) := by decide +kernel
theorem dX2_arrange_43 : decode cX2_arrange 43 = .ok (.aload_n 0, 1) := by decide +kernel
theorem dX2_arrange_44 : decode cX2_arrange 44 = .ok (.getfield 72, 3) := by decide +kernel
theorem dX2_arrange_47 : decode cX2_arrange 47 = .ok (.invokevirtual 79, 3) := by decide +kernel
theorem dX2_arrange_50 : decode cX2_arrange 50 = .ok (.istore 5, 2) := by decide +kernel
theorem dX2_arrange_52 : decode cX2_arrange 52 = .ok (.iload 5, 2) := by decide +kernel
theorem dX2_arrange_54 : decode cX2_arrange 54 = .ok (.aload_n 0, 1) := by decide +kernel
theorem dX2_arrange_55 : decode cX2_arrange 55 = .ok (.getfield 72, 3) := by decide +kernel
theorem dX2_arrange_58 : decode cX2_arrange 58 = .ok (.if_icmp .ge 23, 3) := by decide +kernel
theorem dX2_arrange_61 : decode cX2_arrange 61 = .ok (.aload_n 0, 1) := by decide +kernel
theorem dX2_arrange_62 : decode cX2_arrange 62 = .ok (.iload 5, 2) := by decide +kernel
theorem dX2_arrange_64 : decode cX2_arrange 64 = .ok (.putfield 72, 3) := by decide +kernel
theorem dX2_arrange_67 : decode cX2_arrange 67 = .ok (.aload_n 0, 1) := by decide +kernel
theorem dX2_arrange_68 : decode cX2_arrange 68 = .ok (.getfield 9, 3) := by decide +kernel
theorem dX2_arrange_71 : decode cX2_arrange 71 = .ok (.iconst 0, 1) := by decide +kernel
theorem dX2_arrange_72 : decode cX2_arrange 72 = .ok (.aload_n 0, 1) := by decide +kernel
theorem dX2_arrange_73 : decode cX2_arrange 73 = .ok (.getfield 18, 3) := by decide +kernel
theorem dX2_arrange_76 : decode cX2_arrange 76 = .ok (.iconst 0, 1) := by decide +kernel
theorem dX2_arrange_77 : decode cX2_arrange 77 = .ok (.iconst 5, 1) := by decide +kernel
theorem dX2_arrange_78 : decode cX2_arrange 78 = .ok (.invokestatic 33, 3) := by decide +kernel
theorem dX2_arrange_81 : decode cX2_arrange 81 = .ok (.aload_n 0, 1) := by decide +kernel
theorem dX2_arrange_82 : decode cX2_arrange 82 = .ok (.invokevirtual 83, 3) := by decide +kernel
theorem dX2_arrange_85 : decode cX2_arrange 85 = .ok (.istore_n 3, 1) := by decide +kernel
theorem dX2_arrange_86 : decode cX2_arrange 86 = .ok (.iinc 4 1, 3) := by decide +kernel
theorem dX2_arrange_89 : decode cX2_arrange 89 = .ok (.goto (-73), 3) := by decide +kernel
theorem dX2_arrange_92 : decode cX2_arrange 92 = .ok (.return_, 1) := by decide +kernel
set_option maxRecDepth 20000 in
theorem ggX2_nextRow_X2_swap : GoodIn wsX2_nextRow wsX2_swap := goodIn_r _ [7, 2, 8, 9, 10, 11, 12, 13] (by decide +kernel) (by decide +kernel)
set_option maxRecDepth 20000 in
theorem gX2_nextRow_X2_swap : GoodIn wsX2_nextRow (wsV RX2 87 RX2 yX2_swap wsX2_swap) := goodIn_app (goodIn_of _ (by decide +kernel)) ggX2_nextRow_X2_swap
theorem dX2_nextRow_0 : decode cX2_nextRow 0 = .ok (.aload_n 0, 1) := by decide +kernel
theorem dX2_nextRow_1 : decode cX2_nextRow 1 = .ok (.getfield 27, 3) := by decide +kernel
theorem dX2_nextRow_4 : decode cX2_nextRow 4 = .ok (.iconst 2, 1) := by decide +kernel
theorem dX2_nextRow_5 : decode cX2_nextRow 5 = .ok (.isub, 1) := by decide +kernel
theorem dX2_nextRow_6 : decode cX2_nextRow 6 = .ok (.istore_n 1, 1) := by decide +kernel
theorem dX2_nextRow_7 : decode cX2_nextRow 7 = .ok (.iload_n 1, 1) := by decide +kernel
theorem dX2_nextRow_8 : decode cX2_nextRow 8 = .ok (.ifCond .lt 26, 3) := by decide +kernel
theorem dX2_nextRow_11 : decode cX2_nextRow 11 = .ok (.aload_n 0, 1) := by decide +kernel
theorem dX2_nextRow_12 : decode cX2_nextRow 12 = .ok (.getfield 9, 3) := by decide +kernel
theorem dX2_nextRow_15 : decode cX2_nextRow 15 = .ok (.iload_n 1, 1) := by decide +kernel
theorem dX2_nextRow_16 : decode cX2_nextRow 16 = .ok (.iaload, 1) := by decide +kernel
theorem dX2_nextRow_17 : decode cX2_nextRow 17 = .ok (.aload_n 0, 1) := by decide +kernel
theorem dX2_nextRow_18 : decode cX2_nextRow 18 = .ok (.getfield 9, 3) := by decide +kernel
theorem dX2_nextRow_21 : decode cX2_nextRow 21 = .ok (.iload_n 1, 1) := by decide +kernel
theorem dX2_nextRow_22 : decode cX2_nextRow 22 = .ok (.iconst 1, 1) := by decide +kernel
theorem dX2_nextRow_23 : decode cX2_nextRow 23 = .ok (.iadd, 1) := by decide +kernel
theorem dX2_nextRow_24 : decode cX2_nextRow 24 = .ok (.iaload, 1) := by decide +kernel
theorem dX2_nextRow_25 : decode cX2_nextRow 25 = .ok (.if_icmp .le 9, 3) := by decide +kernel
theorem dX2_nextRow_28 : decode cX2_nextRow 28 = .ok (.iinc 1 (-1), 3) := by decide +kernel
theorem dX2_nextRow_31 : decode cX2_nextRow 31 = .ok (.goto (-24), 3) := by decide +kernel
theorem dX2_nextRow_34 : decode cX2_nextRow 34 = .ok (.iload_n 1, 1) := by decide +kernel
theorem dX2_nextRow_35 : decode cX2_nextRow 35 = .ok (.ifCond .ge 5, 3) := by decide +kernel
theorem dX2_nextRow_38 : decode cX2_nextRow 38 = .ok (.iconst 0, 1) := by decide +kernel
theorem dX2_nextRow_39 : decode cX2_nextRow 39 = .ok (.ireturn, 1) := by decide +kernel
theorem dX2_nextRow_40 : decode cX2_nextRow 40 = .ok (.aload_n 0, 1) := by decide +kernel
theorem dX2_nextRow_41 : decode cX2_nextRow 41 = .ok (.getfield 27, 3) := by decide +kernel
theorem dX2_nextRow_44 : decode cX2_nextRow 44 = .ok (.iconst 1, 1) := by decide +kernel
theorem dX2_nextRow_45 : decode cX2_nextRow 45 = .ok (.isub, 1) := by decide +kernel
theorem dX2_nextRow_46 : decode cX2_nextRow 46 = .ok (.istore_n 2, 1) := by decide +kernel
theorem dX2_nextRow_47 : decode cX2_nextRow 47 = .ok (.iload_n 2, 1) := by decide +kernel
theorem dX2_nextRow_48 : decode cX2_nextRow 48 = .ok (.iload_n 1, 1) := by decide +kernel
theorem dX2_nextRow_49 : decode cX2_nextRow 49 = .ok (.iconst 1, 1) := by decide +kernel
theorem dX2_nextRow_50 : decode cX2_nextRow 50 = .ok (.iadd, 1) := by decide +kernel
theorem dX2_nextRow_51 : decode cX2_nextRow 51 = .ok (.if_icmp .le 24, 3) := by decide +kernel
theorem dX2_nextRow_54 : decode cX2_nextRow 54 = .ok (.aload_n 0, 1) := by decide +kernel
theorem dX2_nextRow_55 : decode cX2_nextRow 55 = .ok (.getfield 9, 3) := by decide +kernel
theorem dX2_nextRow_58 : decode cX2_nextRow 58 = .ok (.iload_n 2, 1) := by decide +kernel
theorem dX2_nextRow_59 : decode cX2_nextRow 59 = .ok (.iaload, 1) := by decide +kernel
theorem dX2_nextRow_60 : decode cX2_nextRow 60 = .ok (.aload_n 0, 1) := by decide +kernel
theorem dX2_nextRow_61 : decode cX2_nextRow 61 = .ok (.getfield 9, 3) := by decide +kernel
theorem dX2_nextRow_64 : decode cX2_nextRow 64 = .ok (.iload_n 1, 1) := by decide +kernel
theorem dX2_nextRow_65 : decode cX2_nextRow 65 = .ok (.iaload, 1) := by decide +kernel
theorem dX2_nextRow_66 : decode cX2_nextRow 66 = .ok (.if_icmp .ge 9, 3) := by decide +kernel
theorem dX2_nextRow_69 : decode cX2_nextRow 69 = .ok (.iinc 2 (-1), 3) := by decide +kernel
theorem dX2_nextRow_72 : decode cX2_nextRow 72 = .ok (.goto (-25), 3) := by decide +kernel
theorem dX2_nextRow_75 : decode cX2_nextRow 75 = .ok (.aload_n 0, 1) := by decide +kernel
theorem dX2_nextRow_76 : decode cX2_nextRow 76 = .ok (.iload_n 1, 1) := by decide +kernel
theorem dX2_nextRow_77 : decode cX2_nextRow 77 = .ok (.iload_n 2, 1) := by decide +kernel
theorem dX2_nextRow_78 : decode cX2_nextRow 78 = .ok (.invokevirtual 87, 3) := by decide +kernel
theorem dX2_nextRow_81 : decode cX2_nextRow 81 = .ok (.iload_n 1, 1) := by decide +kernel
theorem dX2_nextRow_82 : decode cX2_nextRow 82 = .ok (.iconst 1, 1) := by decide +kernel
theorem dX2_nextRow_83 : decode cX2_nextRow 83 = .ok (.iadd, 1) := by decide +kernel
theorem dX2_nextRow_84 : decode cX2_nextRow 84 = .ok (.istore_n 3, 1) := by decide +kernel
theorem dX2_nextRow_85 : decode cX2_nextRow 85 = .ok (.aload_n 0, 1) := by decide +kernel
theorem dX2_nextRow_86 : decode cX2_nextRow 86 = .ok (.getfield 27, 3) := by decide +kernel
theorem dX2_nextRow_89 : decode cX2_nextRow 89 = .ok (.iconst 1, 1) := by decide +kernel
theorem dX2_nextRow_90 : decode cX2_nextRow 90 = .ok (.isub, 1) := by decide +kernel
theorem dX2_nextRow_91 : decode cX2_nextRow 91 = .ok (.istore 4, 2) := by decide +kernel
theorem dX2_nextRow_93 : decode cX2_nextRow 93 = .ok (.iload_n 3, 1) := by decide +kernel
theorem dX2_nextRow_94 : decode cX2_nextRow 94 = .ok (.iload 4, 2) := by decide +kernel
theorem dX2_nextRow_96 : decode cX2_nextRow 96 = .ok (.if_icmp .ge 19, 3) := by decide +kernel
theorem dX2_nextRow_99 : decode cX2_nextRow 99 = .ok (.aload_n 0, 1) := by decide +kernel
theorem dX2_nextRow_100 : decode cX2_nextRow 100 = .ok (.iload_n 3, 1) := by decide +kernel
theorem dX2_nextRow_101 : decode cX2_nextRow 101 = .ok (.iload 4, 2) := by decide +kernel
theorem dX2_nextRow_103 : decode cX2_nextRow 103 = .ok (.invokevirtual 87, 3) := by decide +kernel
theorem dX2_nextRow_106 : decode cX2_nextRow 106 = .ok (.iinc 3 1, 3) := by decide +kernel
theorem dX2_nextRow_109 : decode cX2_nextRow 109 = .ok (.iinc 4 (-1), 3) := by decide +kernel
theorem dX2_nextRow_112 : decode cX2_nextRow 112 = .ok (.goto (-19), 3) := by decide +kernel
theorem dX2_nextRow_115 : decode cX2_nextRow 115 = .ok (.iconst 1, 1) := by decide +kernel
theorem dX2_nextRow_116 : decode cX2_nextRow 116 = .ok (.ireturn, 1) := by decide +kernel
theorem dX2_swap_0 : decode cX2_swap 0 = .ok (.aload_n 0, 1) := by decide +kernel
theorem dX2_swap_1 : decode cX2_swap 1 = .ok (.getfield 9, 3) := by decide +kernel
theorem dX2_swap_4 : decode cX2_swap 4 = .ok (.iload_n 1, 1) := by decide +kernel
theorem dX2_swap_5 : decode cX2_swap 5 = .ok (.iaload, 1) := by decide +kernel
theorem dX2_swap_6 : decode cX2_swap 6 = .ok (.istore_n 3, 1) := by decide +kernel
theorem dX2_swap_7 : decode cX2_swap 7 = .ok (.aload_n 0, 1) := by decide +kernel
theorem dX2_swap_8 : decode cX2_swap 8 = .ok (.getfield 9, 3) := by decide +kernel
theorem dX2_swap_11 : decode cX2_swap 11 = .ok (.iload_n 1, 1) := by decide +kernel
theorem dX2_swap_12 : decode cX2_swap 12 = .ok (.aload_n 0, 1) := by decide +kernel
theorem dX2_swap_13 : decode cX2_swap 13 = .ok (.getfield 9, 3) := by decide +kernel
theorem dX2_swap_16 : decode cX2_swap 16 = .ok (.iload_n 2, 1) := by decide +kernel
theorem dX2_swap_17 : decode cX2_swap 17 = .ok (.iaload, 1) := by decide +kernel
theorem dX2_swap_18 : decode cX2_swap 18 = .ok (.iastore, 1) := by decide +kernel
theorem dX2_swap_19 : decode cX2_swap 19 = .ok (.aload_n 0, 1) := by decide +kernel
theorem dX2_swap_20 : decode cX2_swap 20 = .ok (.getfield 9, 3) := by decide +kernel
theorem dX2_swap_23 : decode cX2_swap 23 = .ok (.iload_n 2, 1) := by decide +kernel
theorem dX2_swap_24 : decode cX2_swap 24 = .ok (.iload_n 3, 1) := by decide +kernel
theorem dX2_swap_25 : decode cX2_swap 25 = .ok (.iastore, 1) := by decide +kernel
theorem dX2_swap_26 : decode cX2_swap 26 = .ok (.return_, 1) := by decide +kernel
theorem dX3_init_0 : decode cX3_init 0 = .ok (.aload_n 0, 1) := by decide +kernel
theorem dX3_init_1 : decode cX3_init 1 = .ok (.invokespecial 3, 3) := by decide +kernel
theorem dX3_init_4 : decode cX3_init 4 = .ok (.aload_n 0, 1) := by decide +kernel
theorem dX3_init_5 : decode cX3_init 5 = .ok (.sipush 300, 3) := by decide +kernel
theorem dX3_init_8 : decode cX3_init 8 = .ok (.newarray .int, 2) := by decide +kernel
theorem dX3_init_10 : decode cX3_init 10 = .ok (.putfield 11, 3) := by decide +kernel
theorem dX3_init_13 : decode cX3_init 13 = .ok (.aload_n 0, 1) := by decide +kernel
theorem dX3_init_14 : decode cX3_init 14 = .ok (.sipush 300, 3) := by decide +kernel
theorem dX3_init_17 : decode cX3_init 17 = .ok (.newarray .int, 2) := by decide +kernel
theorem dX3_init_19 : decode cX3_init 19 = .ok (.putfield 15, 3) := by decide +kernel
theorem dX3_init_22 : decode cX3_init 22 = .ok (.aload_n 0, 1) := by decide +kernel
theorem dX3_init_23 : decode cX3_init 23 = .ok (.sipush 1000, 3) := by decide +kernel
theorem dX3_init_26 : decode cX3_init 26 = .ok (.newarray .int, 2) := by decide +kernel
theorem dX3_init_28 : decode cX3_init 28 = .ok (.putfield 18, 3) := by decide +kernel
theorem dX3_init_31 : decode cX3_init 31 = .ok (.aload_n 0, 1) := by decide +kernel
theorem dX3_init_32 : decode cX3_init 32 = .ok (.bipush 40, 2) := by decide +kernel
theorem dX3_init_34 : decode cX3_init 34 = .ok (.newarray .int, 2) := by decide +kernel
theorem dX3_init_36 : decode cX3_init 36 = .ok (.putfield 21, 3) := by decide +kernel
theorem dX3_init_39 : decode cX3_init 39 = .ok (.aload_n 0, 1) := by decide +kernel
theorem dX3_init_40 : decode cX3_init 40 = .ok (.bipush 40, 2) := by decide +kernel
theorem dX3_init_42 : decode cX3_init 42 = .ok (.newarray .int, 2) := by decide +kernel
theorem dX3_init_44 : decode cX3_init 44 = .ok (.putfield 24, 3) := by decide +kernel
theorem dX3_init_47 : decode cX3_init 47 = .ok (.return_, 1) := by decide +kernel
set_option maxRecDepth 20000 in
theorem ggX3_listen_X3_listenBy : GoodIn wsX3_listen wsX3_listenBy := goodIn_r _ [7, 8, 9, 10, 11, 12, 13, 14, 15, 16, 17, 18, 19, 20, 21, 22, 23, 24, 25, 26, 27, 28, 29, 30, 31, 32, 33, 34, 35, 36, 50, 51, 52, 53, 54, 55, 37, 38, 39, 40, 41, 42, 43, 44, 45, 46, 47, 48, 49] (by decide +kernel) (by decide +kernel)
set_option maxRecDepth 20000 in
theorem gX3_listen_X3_listenBy : GoodIn wsX3_listen (wsV RX3 36 RX3 yX3_listenBy wsX3_listenBy) := goodIn_app (goodIn_of _ (by decide +kernel)) ggX3_listen_X3_listenBy
theorem dX3_listen_0 : decode cX3_listen 0 = .ok (.iconst 0, 1) := by decide +kernel
theorem dX3_listen_1 : decode cX3_listen 1 = .ok (.istore_n 2, 1) := by decide +kernel
theorem dX3_listen_2 : decode cX3_listen 2 = .ok (.iload_n 2, 1) := by decide +kernel
theorem dX3_listen_3 : decode cX3_listen 3 = .ok (.aload_n 1, 1) := by decide +kernel
theorem dX3_listen_4 : decode cX3_listen 4 = .ok (.getfield 27, 3) := by decide +kernel
theorem dX3_listen_7 : decode cX3_listen 7 = .ok (.if_icmp .ge 21, 3) := by decide +kernel
theorem dX3_listen_10 : decode cX3_listen 10 = .ok (.aload_n 0, 1) := by decide +kernel
theorem dX3_listen_11 : decode cX3_listen 11 = .ok (.aload_n 1, 1) := by decide +kernel
theorem dX3_listen_12 : decode cX3_listen 12 = .ok (.iload_n 2, 1) := by decide +kernel
theorem dX3_listen_13 : decode cX3_listen 13 = .ok (.aload_n 1, 1) := by decide +kernel
theorem dX3_listen_14 : decode cX3_listen 14 = .ok (.getfield 33, 3) := by decide +kernel
theorem dX3_listen_17 : decode cX3_listen 17 = .ok (.iload_n 2, 1) := by decide +kernel
theorem dX3_listen_18 : decode cX3_listen 18 = .ok (.iaload, 1) := by decide +kernel
theorem dX3_listen_19 : decode cX3_listen 19 = .ok (.invokevirtual 36, 3) := by decide +kernel
theorem dX3_listen_22 : decode cX3_listen 22 = .ok (.iinc 2 1, 3) := by decide +kernel
theorem dX3_listen_25 : decode cX3_listen 25 = .ok (.goto (-23), 3) := by decide +kernel
theorem dX3_listen_28 : decode cX3_listen 28 = .ok (.return_, 1) := by decide +kernel
set_option maxRecDepth 20000 in
theorem ggX3_listenBy_X10_isWithin : GoodIn wsX3_listenBy wsX10_isWithin := goodIn_r _ [7] (by decide +kernel) (by decide +kernel)
set_option maxRecDepth 20000 in
theorem gX3_listenBy_X10_isWithin_n40 : GoodIn wsX3_listenBy (wsX10_isWithin) := ggX3_listenBy_X10_isWithin
set_option maxRecDepth 20000 in
theorem ggX3_listenBy_X10_isGap : GoodIn wsX3_listenBy wsX10_isGap := goodIn_r _ [9, 10, 5, 6, 7] (by decide +kernel) (by decide +kernel)
set_option maxRecDepth 20000 in
theorem gX3_listenBy_X10_isGap_n44 : GoodIn wsX3_listenBy (wsX10_isGap) := ggX3_listenBy_X10_isGap
set_option maxRecDepth 20000 in
theorem ggX3_listenBy_X5_sees : GoodIn wsX3_listenBy wsX5_sees := goodIn_r _ [15, 16, 17, 18, 19, 20, 14, 21, 22, 23, 6, 24, 25, 26, 27, 28, 36, 37, 38, 39, 40, 41, 42, 43, 44, 45, 46, 47, 48] (by decide +kernel) (by decide +kernel)
set_option maxRecDepth 20000 in
theorem gX3_listenBy_X5_sees : GoodIn wsX3_listenBy (wsV RX3 51 RX5 yX5_sees wsX5_sees) := goodIn_app (goodIn_of _ (by decide +kernel)) ggX3_listenBy_X5_sees
set_option maxRecDepth 20000 in
theorem ggX3_listenBy_X5_rangeOf : GoodIn wsX3_listenBy wsX5_rangeOf := goodIn_r _ [21, 22, 36, 37, 38, 39, 40, 41, 42, 43, 44, 45, 46, 47, 48] (by decide +kernel) (by decide +kernel)
set_option maxRecDepth 20000 in
theorem gX3_listenBy_X5_rangeOf : GoodIn wsX3_listenBy (wsV RX3 55 RX5 yX5_rangeOf wsX5_rangeOf) := goodIn_app (goodIn_of _ (by decide +kernel)) ggX3_listenBy_X5_rangeOf
set_option maxRecDepth 20000 in
theorem ggX3_listenBy_X10_rest : GoodIn wsX3_listenBy wsX10_rest := goodIn_r _ [24] (by decide +kernel) (by decide +kernel)
set_option maxRecDepth 20000 in
theorem gX3_listenBy_X10_rest_n59 : GoodIn wsX3_listenBy (wsX10_rest) := ggX3_listenBy_X10_rest
theorem dX3_listenBy_0 : decode cX3_listenBy 0 = .ok (.iload_n 2, 1) := by decide +kernel
theorem dX3_listenBy_1 : decode cX3_listenBy 1 = .ok (.iconst 0, 1) := by decide +kernel
theorem dX3_listenBy_2 : decode cX3_listenBy 2 = .ok (.iconst 4, 1) := by decide +kernel
theorem dX3_listenBy_3 : decode cX3_listenBy 3 = .ok (.invokestatic 40, 3) := by decide +kernel
theorem dX3_listenBy_6 : decode cX3_listenBy 6 = .ok (.ifCond .eq 10, 3) := by decide +kernel
theorem dX3_listenBy_9 : decode cX3_listenBy 9 = .ok (.iload_n 3, 1) := by decide +kernel
theorem dX3_listenBy_10 : decode cX3_listenBy 10 = .ok (.invokestatic 44, 3) := by decide +kernel
theorem dX3_listenBy_13 : decode cX3_listenBy 13 = .ok (.ifCond .ne 4, 3) := by decide +kernel
theorem dX3_listenBy_16 : decode cX3_listenBy 16 = .ok (.return_, 1) := by decide +kernel
theorem dX3_listenBy_17 : decode cX3_listenBy 17 = .ok (.iload_n 2, 1) := by decide +kernel
theorem dX3_listenBy_18 : decode cX3_listenBy 18 = .ok (.bipush 60, 2) := by decide +kernel
theorem dX3_listenBy_20 : decode cX3_listenBy 20 = .ok (.imul, 1) := by decide +kernel
theorem dX3_listenBy_21 : decode cX3_listenBy 21 = .ok (.istore 4, 2) := by decide +kernel
theorem dX3_listenBy_23 : decode cX3_listenBy 23 = .ok (.iconst 0, 1) := by decide +kernel
theorem dX3_listenBy_24 : decode cX3_listenBy 24 = .ok (.istore 5, 2) := by decide +kernel
theorem dX3_listenBy_26 : decode cX3_listenBy 26 = .ok (.iload 5, 2) := by decide +kernel
theorem dX3_listenBy_28 : decode cX3_listenBy 28 = .ok (.bipush 60, 2) := by decide +kernel
theorem dX3_listenBy_30 : decode cX3_listenBy 30 = .ok (.if_icmp .ge 31, 3) := by decide +kernel
theorem dX3_listenBy_33 : decode cX3_listenBy 33 = .ok (.aload_n 0, 1) := by decide +kernel
theorem dX3_listenBy_34 : decode cX3_listenBy 34 = .ok (.getfield 11, 3) := by decide +kernel
theorem dX3_listenBy_37 : decode cX3_listenBy 37 = .ok (.iload 4, 2) := by decide +kernel
theorem dX3_listenBy_39 : decode cX3_listenBy 39 = .ok (.iload 5, 2) := by decide +kernel
theorem dX3_listenBy_41 : decode cX3_listenBy 41 = .ok (.iadd, 1) := by decide +kernel
theorem dX3_listenBy_42 : decode cX3_listenBy 42 = .ok (.iconst 0, 1) := by decide +kernel
theorem dX3_listenBy_43 : decode cX3_listenBy 43 = .ok (.iastore, 1) := by decide +kernel
theorem dX3_listenBy_44 : decode cX3_listenBy 44 = .ok (.aload_n 0, 1) := by decide +kernel
theorem dX3_listenBy_45 : decode cX3_listenBy 45 = .ok (.getfield 15, 3) := by decide +kernel
theorem dX3_listenBy_48 : decode cX3_listenBy 48 = .ok (.iload 4, 2) := by decide +kernel
theorem dX3_listenBy_50 : decode cX3_listenBy 50 = .ok (.iload 5, 2) := by decide +kernel
theorem dX3_listenBy_52 : decode cX3_listenBy 52 = .ok (.iadd, 1) := by decide +kernel
theorem dX3_listenBy_53 : decode cX3_listenBy 53 = .ok (.iconst 0, 1) := by decide +kernel
theorem dX3_listenBy_54 : decode cX3_listenBy 54 = .ok (.iastore, 1) := by decide +kernel
theorem dX3_listenBy_55 : decode cX3_listenBy 55 = .ok (.iinc 5 1, 3) := by decide +kernel
theorem dX3_listenBy_58 : decode cX3_listenBy 58 = .ok (.goto (-32), 3) := by decide +kernel
theorem dX3_listenBy_61 : decode cX3_listenBy 61 = .ok (.iconst 0, 1) := by decide +kernel
theorem dX3_listenBy_62 : decode cX3_listenBy 62 = .ok (.istore 5, 2) := by decide +kernel
theorem dX3_listenBy_64 : decode cX3_listenBy 64 = .ok (.iload 5, 2) := by decide +kernel
theorem dX3_listenBy_66 : decode cX3_listenBy 66 = .ok (.aload_n 1, 1) := by decide +kernel
theorem dX3_listenBy_67 : decode cX3_listenBy 67 = .ok (.getfield 48, 3) := by decide +kernel
theorem dX3_listenBy_70 : decode cX3_listenBy 70 = .ok (.if_icmp .ge 65, 3) := by decide +kernel
theorem dX3_listenBy_73 : decode cX3_listenBy 73 = .ok (.aload_n 1, 1) := by decide +kernel
theorem dX3_listenBy_74 : decode cX3_listenBy 74 = .ok (.iload 5, 2) := by decide +kernel
theorem dX3_listenBy_76 : decode cX3_listenBy 76 = .ok (.iload_n 3, 1) := by decide +kernel
theorem dX3_listenBy_77 : decode cX3_listenBy 77 = .ok (.invokevirtual 51, 3) := by decide +kernel
theorem dX3_listenBy_80 : decode cX3_listenBy 80 = .ok (.ifCond .eq 49, 3) := by decide +kernel
theorem dX3_listenBy_83 : decode cX3_listenBy 83 = .ok (.iload 4, 2) := by decide +kernel
theorem dX3_listenBy_85 : decode cX3_listenBy 85 = .ok (.aload_n 1, 1) := by decide +kernel
theorem dX3_listenBy_86 : decode cX3_listenBy 86 = .ok (.iload 5, 2) := by decide +kernel
theorem dX3_listenBy_88 : decode cX3_listenBy 88 = .ok (.invokevirtual 55, 3) := by decide +kernel
theorem dX3_listenBy_91 : decode cX3_listenBy 91 = .ok (.iload_n 3, 1) := by decide +kernel
theorem dX3_listenBy_92 : decode cX3_listenBy 92 = .ok (.invokestatic 59, 3) := by decide +kernel
theorem dX3_listenBy_95 : decode cX3_listenBy 95 = .ok (.iadd, 1) := by decide +kernel
theorem dX3_listenBy_96 : decode cX3_listenBy 96 = .ok (.istore 6, 2) := by decide +kernel
theorem dX3_listenBy_98 : decode cX3_listenBy 98 = .ok (.aload_n 0, 1) := by decide +kernel
theorem dX3_listenBy_99 : decode cX3_listenBy 99 = .ok (.getfield 11, 3) := by decide +kernel
theorem dX3_listenBy_102 : decode cX3_listenBy 102 = .ok (.iload 6, 2) := by decide +kernel
theorem dX3_listenBy_104 : decode cX3_listenBy 104 = .ok (.dup2, 1) := by decide +kernel
theorem dX3_listenBy_105 : decode cX3_listenBy 105 = .ok (.iaload, 1) := by decide +kernel
theorem dX3_listenBy_106 : decode cX3_listenBy 106 = .ok (.iconst 1, 1) := by decide +kernel
theorem dX3_listenBy_107 : decode cX3_listenBy 107 = .ok (.iload 5, 2) := by decide +kernel
theorem dX3_listenBy_109 : decode cX3_listenBy 109 = .ok (.ishl, 1) := by decide +kernel
theorem dX3_listenBy_110 : decode cX3_listenBy 110 = .ok (.ior, 1) := by decide +kernel
theorem dX3_listenBy_111 : decode cX3_listenBy 111 = .ok (.iastore, 1) := by decide +kernel
theorem dX3_listenBy_112 : decode cX3_listenBy 112 = .ok (.aload_n 0, 1) := by decide +kernel
theorem dX3_listenBy_113 : decode cX3_listenBy 113 = .ok (.getfield 15, 3) := by decide +kernel
theorem dX3_listenBy_116 : decode cX3_listenBy 116 = .ok (.iload 6, 2) := by decide +kernel
theorem dX3_listenBy_118 : decode cX3_listenBy 118 = .ok (.dup2, 1) := by decide +kernel
theorem dX3_listenBy_119 : decode cX3_listenBy 119 = .ok (.iaload, 1) := by decide +kernel
theorem dX3_listenBy_120 : decode cX3_listenBy 120 = .ok (.aload_n 1, 1) := by decide +kernel
theorem dX3_listenBy_121 : decode cX3_listenBy 121 = .ok (.getfield 63, 3) := by decide +kernel
theorem dX3_listenBy_124 : decode cX3_listenBy 124 = .ok (.iload 5, 2) := by decide +kernel
theorem dX3_listenBy_126 : decode cX3_listenBy 126 = .ok (.iaload, 1) := by decide +kernel
theorem dX3_listenBy_127 : decode cX3_listenBy 127 = .ok (.iadd, 1) := by decide +kernel
theorem dX3_listenBy_128 : decode cX3_listenBy 128 = .ok (.iastore, 1) := by decide +kernel
theorem dX3_listenBy_129 : decode cX3_listenBy 129 = .ok (.iinc 5 1, 3) := by decide +kernel
theorem dX3_listenBy_132 : decode cX3_listenBy 132 = .ok (.goto (-68), 3) := by decide +kernel
theorem dX3_listenBy_135 : decode cX3_listenBy 135 = .ok (.return_, 1) := by decide +kernel
theorem dX3_targetsAt_0 : decode cX3_targetsAt 0 = .ok (.aload_n 0, 1) := by decide +kernel
theorem dX3_targetsAt_1 : decode cX3_targetsAt 1 = .ok (.getfield 11, 3) := by decide +kernel
theorem dX3_targetsAt_4 : decode cX3_targetsAt 4 = .ok (.iload_n 1, 1) := by decide +kernel
theorem dX3_targetsAt_5 : decode cX3_targetsAt 5 = .ok (.bipush 60, 2) := by decide +kernel
theorem dX3_targetsAt_7 : decode cX3_targetsAt 7 = .ok (.imul, 1) := by decide +kernel
theorem dX3_targetsAt_8 : decode cX3_targetsAt 8 = .ok (.iload_n 2, 1) := by decide +kernel
theorem dX3_targetsAt_9 : decode cX3_targetsAt 9 = .ok (.iadd, 1) := by decide +kernel
theorem dX3_targetsAt_10 : decode cX3_targetsAt 10 = .ok (.iaload, 1) := by decide +kernel
theorem dX3_targetsAt_11 : decode cX3_targetsAt 11 = .ok (.ireturn, 1) := by decide +kernel
theorem dX3_loudAt_0 : decode cX3_loudAt 0 = .ok (.aload_n 0, 1) := by decide +kernel
theorem dX3_loudAt_1 : decode cX3_loudAt 1 = .ok (.getfield 15, 3) := by decide +kernel
theorem dX3_loudAt_4 : decode cX3_loudAt 4 = .ok (.iload_n 1, 1) := by decide +kernel
theorem dX3_loudAt_5 : decode cX3_loudAt 5 = .ok (.bipush 60, 2) := by decide +kernel
theorem dX3_loudAt_7 : decode cX3_loudAt 7 = .ok (.imul, 1) := by decide +kernel
theorem dX3_loudAt_8 : decode cX3_loudAt 8 = .ok (.iload_n 2, 1) := by decide +kernel
theorem dX3_loudAt_9 : decode cX3_loudAt 9 = .ok (.iadd, 1) := by decide +kernel
theorem dX3_loudAt_10 : decode cX3_loudAt 10 = .ok (.iaload, 1) := by decide +kernel
theorem dX3_loudAt_11 : decode cX3_loudAt 11 = .ok (.ireturn, 1) := by decide +kernel
theorem dX3_isEcho_0 : decode cX3_isEcho 0 = .ok (.aload_n 0, 1) := by decide +kernel
theorem dX3_isEcho_1 : decode cX3_isEcho 1 = .ok (.getfield 15, 3) := by decide +kernel
theorem dX3_isEcho_4 : decode cX3_isEcho 4 = .ok (.iload_n 2, 1) := by decide +kernel
theorem dX3_isEcho_5 : decode cX3_isEcho 5 = .ok (.bipush 60, 2) := by decide +kernel
theorem dX3_isEcho_7 : decode cX3_isEcho 7 = .ok (.imul, 1) := by decide +kernel
theorem dX3_isEcho_8 : decode cX3_isEcho 8 = .ok (.iload_n 3, 1) := by decide +kernel
theorem dX3_isEcho_9 : decode cX3_isEcho 9 = .ok (.iadd, 1) := by decide +kernel
theorem dX3_isEcho_10 : decode cX3_isEcho 10 = .ok (.iaload, 1) := by decide +kernel
theorem dX3_isEcho_11 : decode cX3_isEcho 11 = .ok (.aload_n 1, 1) := by decide +kernel
theorem dX3_isEcho_12 : decode cX3_isEcho 12 = .ok (.getfield 66, 3) := by decide +kernel
theorem dX3_isEcho_15 : decode cX3_isEcho 15 = .ok (.bipush 6, 2) := by decide +kernel
theorem dX3_isEcho_17 : decode cX3_isEcho 17 = .ok (.iaload, 1) := by decide +kernel
theorem dX3_isEcho_18 : decode cX3_isEcho 18 = .ok (.if_icmp .lt 7, 3) := by decide +kernel
theorem dX3_isEcho_21 : decode cX3_isEcho 21 = .ok (.iconst 1, 1) := by decide +kernel
theorem dX3_isEcho_22 : decode cX3_isEcho 22 = .ok (.goto 4, 3) := by decide +kernel
theorem dX3_isEcho_25 : decode cX3_isEcho 25 = .ok (.iconst 0, 1) := by decide +kernel
theorem dX3_isEcho_26 : decode cX3_isEcho 26 = .ok (.ireturn, 1) := by decide +kernel
set_option maxRecDepth 20000 in
theorem ggX3_countOfGap_X3_isEcho : GoodIn wsX3_countOfGap wsX3_isEcho := goodIn_r _ [6, 7, 8, 22, 23, 24, 25, 26, 27, 9, 10, 11, 12, 13, 14, 15, 16, 17, 18, 19, 20, 21] (by decide +kernel) (by decide +kernel)
set_option maxRecDepth 20000 in
theorem gX3_countOfGap_X3_isEcho : GoodIn wsX3_countOfGap (wsV RX3 69 RX3 yX3_isEcho wsX3_isEcho) := goodIn_app (goodIn_of _ (by decide +kernel)) ggX3_countOfGap_X3_isEcho
theorem dX3_countOfGap_0 : decode cX3_countOfGap 0 = .ok (.iconst 0, 1) := by decide +kernel
theorem dX3_countOfGap_1 : decode cX3_countOfGap 1 = .ok (.istore_n 3, 1) := by decide +kernel
theorem dX3_countOfGap_2 : decode cX3_countOfGap 2 = .ok (.iconst 0, 1) := by decide +kernel
theorem dX3_countOfGap_3 : decode cX3_countOfGap 3 = .ok (.istore 4, 2) := by decide +kernel
theorem dX3_countOfGap_5 : decode cX3_countOfGap 5 = .ok (.iload 4, 2) := by decide +kernel
theorem dX3_countOfGap_7 : decode cX3_countOfGap 7 = .ok (.aload_n 1, 1) := by decide +kernel
theorem dX3_countOfGap_8 : decode cX3_countOfGap 8 = .ok (.getfield 33, 3) := by decide +kernel
theorem dX3_countOfGap_11 : decode cX3_countOfGap 11 = .ok (.iload_n 2, 1) := by decide +kernel
theorem dX3_countOfGap_12 : decode cX3_countOfGap 12 = .ok (.iaload, 1) := by decide +kernel
theorem dX3_countOfGap_13 : decode cX3_countOfGap 13 = .ok (.if_icmp .ge 23, 3) := by decide +kernel
theorem dX3_countOfGap_16 : decode cX3_countOfGap 16 = .ok (.aload_n 0, 1) := by decide +kernel
theorem dX3_countOfGap_17 : decode cX3_countOfGap 17 = .ok (.aload_n 1, 1) := by decide +kernel
theorem dX3_countOfGap_18 : decode cX3_countOfGap 18 = .ok (.iload_n 2, 1) := by decide +kernel
theorem dX3_countOfGap_19 : decode cX3_countOfGap 19 = .ok (.iload 4, 2) := by decide +kernel
theorem dX3_countOfGap_21 : decode cX3_countOfGap 21 = .ok (.invokevirtual 69, 3) := by decide +kernel
theorem dX3_countOfGap_24 : decode cX3_countOfGap 24 = .ok (.ifCond .eq 6, 3) := by decide +kernel
theorem dX3_countOfGap_27 : decode cX3_countOfGap 27 = .ok (.iinc 3 1, 3) := by decide +kernel
theorem dX3_countOfGap_30 : decode cX3_countOfGap 30 = .ok (.iinc 4 1, 3) := by decide +kernel
theorem dX3_countOfGap_33 : decode cX3_countOfGap 33 = .ok (.goto (-28), 3) := by decide +kernel
theorem dX3_countOfGap_36 : decode cX3_countOfGap 36 = .ok (.iload_n 3, 1) := by decide +kernel
theorem dX3_countOfGap_37 : decode cX3_countOfGap 37 = .ok (.ireturn, 1) := by decide +kernel
set_option maxRecDepth 20000 in
theorem ggX3_countAll_X3_countOfGap : GoodIn wsX3_countAll wsX3_countOfGap := goodIn_r _ [6, 7, 8, 9, 10, 5, 11, 12, 13, 14, 15, 16, 17, 18, 19, 20, 21, 22, 23, 24, 25, 26, 27, 28, 29, 30, 31, 32] (by decide +kernel) (by decide +kernel)
set_option maxRecDepth 20000 in
theorem gX3_countAll_X3_countOfGap : GoodIn wsX3_countAll (wsV RX3 73 RX3 yX3_countOfGap wsX3_countOfGap) := goodIn_app (goodIn_of _ (by decide +kernel)) ggX3_countAll_X3_countOfGap
theorem dX3_countAll_0 : decode cX3_countAll 0 = .ok (.iconst 0, 1) := by decide +kernel
theorem dX3_countAll_1 : decode cX3_countAll 1 = .ok (.istore_n 2, 1) := by decide +kernel
theorem dX3_countAll_2 : decode cX3_countAll 2 = .ok (.iconst 0, 1) := by decide +kernel
theorem dX3_countAll_3 : decode cX3_countAll 3 = .ok (.istore_n 3, 1) := by decide +kernel
theorem dX3_countAll_4 : decode cX3_countAll 4 = .ok (.iload_n 3, 1) := by decide +kernel
theorem dX3_countAll_5 : decode cX3_countAll 5 = .ok (.aload_n 1, 1) := by decide +kernel
theorem dX3_countAll_6 : decode cX3_countAll 6 = .ok (.getfield 27, 3) := by decide +kernel
theorem dX3_countAll_9 : decode cX3_countAll 9 = .ok (.if_icmp .ge 18, 3) := by decide +kernel
theorem dX3_countAll_12 : decode cX3_countAll 12 = .ok (.iload_n 2, 1) := by decide +kernel
theorem dX3_countAll_13 : decode cX3_countAll 13 = .ok (.aload_n 0, 1) := by decide +kernel
theorem dX3_countAll_14 : decode cX3_countAll 14 = .ok (.aload_n 1, 1) := by decide +kernel
theorem dX3_countAll_15 : decode cX3_countAll 15 = .ok (.iload_n 3, 1) := by decide +kernel
theorem dX3_countAll_16 : decode cX3_countAll 16 = .ok (.invokevirtual 73, 3) := by decide +kernel
theorem dX3_countAll_19 : decode cX3_countAll 19 = .ok (.iadd, 1) := by decide +kernel
theorem dX3_countAll_20 : decode cX3_countAll 20 = .ok (.istore_n 2, 1) := by decide +kernel
theorem dX3_countAll_21 : decode cX3_countAll 21 = .ok (.iinc 3 1, 3) := by decide +kernel
theorem dX3_countAll_24 : decode cX3_countAll 24 = .ok (.goto (-20), 3) := by decide +kernel
theorem dX3_countAll_27 : decode cX3_countAll 27 = .ok (.iload_n 2, 1) := by decide +kernel
theorem dX3_countAll_28 : decode cX3_countAll 28 = .ok (.ireturn, 1) := by decide +kernel
set_option maxRecDepth 20000 in
theorem ggX3_hitsOf_X10_rest : GoodIn wsX3_hitsOf wsX10_rest := goodIn_r _ [5] (by decide +kernel) (by decide +kernel)
set_option maxRecDepth 20000 in
theorem gX3_hitsOf_X10_rest_n59 : GoodIn wsX3_hitsOf (wsX10_rest) := ggX3_hitsOf_X10_rest
set_option maxRecDepth 20000 in
theorem ggX3_hitsOf_X3_isEcho : GoodIn wsX3_hitsOf wsX3_isEcho := goodIn_r _ [10, 11, 12, 26, 27, 28, 29, 30, 31, 13, 14, 15, 16, 17, 18, 19, 20, 21, 22, 23, 24, 25] (by decide +kernel) (by decide +kernel)
set_option maxRecDepth 20000 in
theorem gX3_hitsOf_X3_isEcho : GoodIn wsX3_hitsOf (wsV RX3 69 RX3 yX3_isEcho wsX3_isEcho) := goodIn_app (goodIn_of _ (by decide +kernel)) ggX3_hitsOf_X3_isEcho
theorem dX3_hitsOf_0 : decode cX3_hitsOf 0 = .ok (.iconst 0, 1) := by decide +kernel
theorem dX3_hitsOf_1 : decode cX3_hitsOf 1 = .ok (.istore_n 3, 1) := by decide +kernel
theorem dX3_hitsOf_2 : decode cX3_hitsOf 2 = .ok (.iconst 0, 1) := by decide +kernel
theorem dX3_hitsOf_3 : decode cX3_hitsOf 3 = .ok (.istore 4, 2) := by decide +kernel
theorem dX3_hitsOf_5 : decode cX3_hitsOf 5 = .ok (.iload 4, 2) := by decide +kernel
theorem dX3_hitsOf_7 : decode cX3_hitsOf 7 = .ok (.aload_n 1, 1) := by decide +kernel
theorem dX3_hitsOf_8 : decode cX3_hitsOf 8 = .ok (.getfield 27, 3) := by decide +kernel
theorem dX3_hitsOf_11 : decode cX3_hitsOf 11 = .ok (.if_icmp .ge 37, 3) := by decide +kernel
theorem dX3_hitsOf_14 : decode cX3_hitsOf 14 = .ok (.aload_n 0, 1) := by decide +kernel
theorem dX3_hitsOf_15 : decode cX3_hitsOf 15 = .ok (.aload_n 1, 1) := by decide +kernel
theorem dX3_hitsOf_16 : decode cX3_hitsOf 16 = .ok (.iload 4, 2) := by decide +kernel
theorem dX3_hitsOf_18 : decode cX3_hitsOf 18 = .ok (.iload_n 2, 1) := by decide +kernel
theorem dX3_hitsOf_19 : decode cX3_hitsOf 19 = .ok (.aload_n 1, 1) := by decide +kernel
theorem dX3_hitsOf_20 : decode cX3_hitsOf 20 = .ok (.getfield 33, 3) := by decide +kernel
theorem dX3_hitsOf_23 : decode cX3_hitsOf 23 = .ok (.iload 4, 2) := by decide +kernel
theorem dX3_hitsOf_25 : decode cX3_hitsOf 25 = .ok (.iaload, 1) := by decide +kernel
theorem dX3_hitsOf_26 : decode cX3_hitsOf 26 = .ok (.invokestatic 59, 3) := by decide +kernel
theorem dX3_hitsOf_29 : decode cX3_hitsOf 29 = .ok (.invokevirtual 69, 3) := by decide +kernel
theorem dX3_hitsOf_32 : decode cX3_hitsOf 32 = .ok (.ifCond .eq 10, 3) := by decide +kernel
theorem dX3_hitsOf_35 : decode cX3_hitsOf 35 = .ok (.iload_n 3, 1) := by decide +kernel
theorem dX3_hitsOf_36 : decode cX3_hitsOf 36 = .ok (.iconst 1, 1) := by decide +kernel
theorem dX3_hitsOf_37 : decode cX3_hitsOf 37 = .ok (.iload 4, 2) := by decide +kernel
theorem dX3_hitsOf_39 : decode cX3_hitsOf 39 = .ok (.ishl, 1) := by decide +kernel
theorem dX3_hitsOf_40 : decode cX3_hitsOf 40 = .ok (.ior, 1) := by decide +kernel
theorem dX3_hitsOf_41 : decode cX3_hitsOf 41 = .ok (.istore_n 3, 1) := by decide +kernel
theorem dX3_hitsOf_42 : decode cX3_hitsOf 42 = .ok (.iinc 4 1, 3) := by decide +kernel
theorem dX3_hitsOf_45 : decode cX3_hitsOf 45 = .ok (.goto (-40), 3) := by decide +kernel
theorem dX3_hitsOf_48 : decode cX3_hitsOf 48 = .ok (.iload_n 3, 1) := by decide +kernel
theorem dX3_hitsOf_49 : decode cX3_hitsOf 49 = .ok (.ireturn, 1) := by decide +kernel
set_option maxRecDepth 20000 in
theorem ggX3_makersOf_X10_rest : GoodIn wsX3_makersOf wsX10_rest := goodIn_r _ [5] (by decide +kernel) (by decide +kernel)
set_option maxRecDepth 20000 in
theorem gX3_makersOf_X10_rest_n59 : GoodIn wsX3_makersOf (wsX10_rest) := ggX3_makersOf_X10_rest
set_option maxRecDepth 20000 in
theorem ggX3_makersOf_X3_isEcho : GoodIn wsX3_makersOf wsX3_isEcho := goodIn_r _ [10, 11, 12, 31, 32, 33, 34, 35, 36, 18, 19, 20, 21, 22, 23, 24, 25, 26, 27, 28, 29, 30] (by decide +kernel) (by decide +kernel)
set_option maxRecDepth 20000 in
theorem gX3_makersOf_X3_isEcho : GoodIn wsX3_makersOf (wsV RX3 69 RX3 yX3_isEcho wsX3_isEcho) := goodIn_app (goodIn_of _ (by decide +kernel)) ggX3_makersOf_X3_isEcho
set_option maxRecDepth 20000 in
theorem ggX3_makersOf_X3_targetsAt : GoodIn wsX3_makersOf wsX3_targetsAt := goodIn_r _ [16, 17, 31, 32, 33, 34, 35, 36] (by decide +kernel) (by decide +kernel)
set_option maxRecDepth 20000 in
theorem gX3_makersOf_X3_targetsAt : GoodIn wsX3_makersOf (wsV RX3 77 RX3 yX3_targetsAt wsX3_targetsAt) := goodIn_app (goodIn_of _ (by decide +kernel)) ggX3_makersOf_X3_targetsAt
theorem dX3_makersOf_0 : decode cX3_makersOf 0 = .ok (.iconst 0, 1) := by decide +kernel
theorem dX3_makersOf_1 : decode cX3_makersOf 1 = .ok (.istore_n 3, 1) := by decide +kernel
theorem dX3_makersOf_2 : decode cX3_makersOf 2 = .ok (.iconst 0, 1) := by decide +kernel
theorem dX3_makersOf_3 : decode cX3_makersOf 3 = .ok (.istore 4, 2) := by decide +kernel
theorem dX3_makersOf_5 : decode cX3_makersOf 5 = .ok (.iload 4, 2) := by decide +kernel
theorem dX3_makersOf_7 : decode cX3_makersOf 7 = .ok (.aload_n 1, 1) := by decide +kernel
theorem dX3_makersOf_8 : decode cX3_makersOf 8 = .ok (.getfield 27, 3) := by decide +kernel
theorem dX3_makersOf_11 : decode cX3_makersOf 11 = .ok (.if_icmp .ge 45, 3) := by decide +kernel
theorem dX3_makersOf_14 : decode cX3_makersOf 14 = .ok (.iload_n 2, 1) := by decide +kernel
theorem dX3_makersOf_15 : decode cX3_makersOf 15 = .ok (.aload_n 1, 1) := by decide +kernel
theorem dX3_makersOf_16 : decode cX3_makersOf 16 = .ok (.getfield 33, 3) := by decide +kernel
theorem dX3_makersOf_19 : decode cX3_makersOf 19 = .ok (.iload 4, 2) := by decide +kernel
theorem dX3_makersOf_21 : decode cX3_makersOf 21 = .ok (.iaload, 1) := by decide +kernel
theorem dX3_makersOf_22 : decode cX3_makersOf 22 = .ok (.invokestatic 59, 3) := by decide +kernel
theorem dX3_makersOf_25 : decode cX3_makersOf 25 = .ok (.istore 5, 2) := by decide +kernel
theorem dX3_makersOf_27 : decode cX3_makersOf 27 = .ok (.aload_n 0, 1) := by decide +kernel
theorem dX3_makersOf_28 : decode cX3_makersOf 28 = .ok (.aload_n 1, 1) := by decide +kernel
theorem dX3_makersOf_29 : decode cX3_makersOf 29 = .ok (.iload 4, 2) := by decide +kernel
theorem dX3_makersOf_31 : decode cX3_makersOf 31 = .ok (.iload 5, 2) := by decide +kernel
theorem dX3_makersOf_33 : decode cX3_makersOf 33 = .ok (.invokevirtual 69, 3) := by decide +kernel
theorem dX3_makersOf_36 : decode cX3_makersOf 36 = .ok (.ifCond .eq 14, 3) := by decide +kernel
theorem dX3_makersOf_39 : decode cX3_makersOf 39 = .ok (.iload_n 3, 1) := by decide +kernel
theorem dX3_makersOf_40 : decode cX3_makersOf 40 = .ok (.aload_n 0, 1) := by decide +kernel
theorem dX3_makersOf_41 : decode cX3_makersOf 41 = .ok (.iload 4, 2) := by decide +kernel
theorem dX3_makersOf_43 : decode cX3_makersOf 43 = .ok (.iload 5, 2) := by decide +kernel
theorem dX3_makersOf_45 : decode cX3_makersOf 45 = .ok (.invokevirtual 77, 3) := by decide +kernel
theorem dX3_makersOf_48 : decode cX3_makersOf 48 = .ok (.ior, 1) := by decide +kernel
theorem dX3_makersOf_49 : decode cX3_makersOf 49 = .ok (.istore_n 3, 1) := by decide +kernel
theorem dX3_makersOf_50 : decode cX3_makersOf 50 = .ok (.iinc 4 1, 3) := by decide +kernel
theorem dX3_makersOf_53 : decode cX3_makersOf 53 = .ok (.goto (-48), 3) := by decide +kernel
theorem dX3_makersOf_56 : decode cX3_makersOf 56 = .ok (.iload_n 3, 1) := by decide +kernel
theorem dX3_makersOf_57 : decode cX3_makersOf 57 = .ok (.ireturn, 1) := by decide +kernel
set_option maxRecDepth 20000 in
theorem ggX3_isFound_X3_hitsOf : GoodIn wsX3_isFound wsX3_hitsOf := goodIn_r _ [6, 7, 8, 9, 10, 11, 12, 13, 14, 5, 15, 16, 1, 24, 25, 26, 27, 28, 29, 30, 31, 32, 33, 34, 35, 36, 37, 38, 39, 40, 41, 42] (by decide +kernel) (by decide +kernel)
set_option maxRecDepth 20000 in
theorem gX3_isFound_X3_hitsOf : GoodIn wsX3_isFound (wsV RX3 80 RX3 yX3_hitsOf wsX3_hitsOf) := goodIn_app (goodIn_of _ (by decide +kernel)) ggX3_isFound_X3_hitsOf
set_option maxRecDepth 20000 in
theorem ggX3_isFound_J6_bitCount_0f7a4 : GoodIn wsX3_isFound wsJ6_bitCount_0f7a4 := goodIn_r _ [20, 21, 22, 23] (by decide +kernel) (by decide +kernel)
set_option maxRecDepth 20000 in
theorem gX3_isFound_J6_bitCount_0f7a4 : GoodIn wsX3_isFound (va_wsS RX3 83 yJ6_bitCount_0f7a4 wsJ6_bitCount_0f7a4) := goodIn_app (goodIn_of _ (by decide +kernel)) ggX3_isFound_J6_bitCount_0f7a4
theorem dX3_isFound_0 : decode cX3_isFound 0 = .ok (.iload_n 2, 1) := by decide +kernel
theorem dX3_isFound_1 : decode cX3_isFound 1 = .ok (.aload_n 1, 1) := by decide +kernel
theorem dX3_isFound_2 : decode cX3_isFound 2 = .ok (.getfield 66, 3) := by decide +kernel
theorem dX3_isFound_5 : decode cX3_isFound 5 = .ok (.iconst 3, 1) := by decide +kernel
theorem dX3_isFound_6 : decode cX3_isFound 6 = .ok (.iaload, 1) := by decide +kernel
theorem dX3_isFound_7 : decode cX3_isFound 7 = .ok (.if_icmp .ge 25, 3) := by decide +kernel
theorem dX3_isFound_10 : decode cX3_isFound 10 = .ok (.aload_n 0, 1) := by decide +kernel
theorem dX3_isFound_11 : decode cX3_isFound 11 = .ok (.aload_n 1, 1) := by decide +kernel
theorem dX3_isFound_12 : decode cX3_isFound 12 = .ok (.iload_n 2, 1) := by decide +kernel
theorem dX3_isFound_13 : decode cX3_isFound 13 = .ok (.invokevirtual 80, 3) := by decide +kernel
theorem dX3_isFound_16 : decode cX3_isFound 16 = .ok (.invokestatic 83, 3) := by decide +kernel
theorem dX3_isFound_19 : decode cX3_isFound 19 = .ok (.aload_n 1, 1) := by decide +kernel
theorem dX3_isFound_20 : decode cX3_isFound 20 = .ok (.getfield 66, 3) := by decide +kernel
theorem dX3_isFound_23 : decode cX3_isFound 23 = .ok (.iconst 4, 1) := by decide +kernel
theorem dX3_isFound_24 : decode cX3_isFound 24 = .ok (.iaload, 1) := by decide +kernel
theorem dX3_isFound_25 : decode cX3_isFound 25 = .ok (.if_icmp .lt 7, 3) := by decide +kernel
theorem dX3_isFound_28 : decode cX3_isFound 28 = .ok (.iconst 1, 1) := by decide +kernel
theorem dX3_isFound_29 : decode cX3_isFound 29 = .ok (.goto 4, 3) := by decide +kernel
theorem dX3_isFound_32 : decode cX3_isFound 32 = .ok (.iconst 0, 1) := by decide +kernel
theorem dX3_isFound_33 : decode cX3_isFound 33 = .ok (.ireturn, 1) := by decide +kernel
set_option maxRecDepth 20000 in
theorem ggX3_standingOf_X5_rangeOf : GoodIn wsX3_standingOf wsX5_rangeOf := goodIn_r _ [6, 7, 34, 35, 36, 37, 38, 39, 40, 41, 42, 43, 44, 45, 46] (by decide +kernel) (by decide +kernel)
set_option maxRecDepth 20000 in
theorem gX3_standingOf_X5_rangeOf : GoodIn wsX3_standingOf (wsV RX3 55 RX5 yX5_rangeOf wsX5_rangeOf) := goodIn_app (goodIn_of _ (by decide +kernel)) ggX3_standingOf_X5_rangeOf
set_option maxRecDepth 20000 in
theorem ggX3_standingOf_X3_isFound : GoodIn wsX3_standingOf wsX3_isFound := goodIn_r _ [12, 1, 13, 14, 15, 11, 16, 17, 18, 19, 20, 21, 22, 23, 24, 25, 26, 27, 28, 29, 30, 31, 32, 33, 34, 35, 36, 37, 38, 39, 40, 41, 42, 43, 44, 45, 46, 47, 48, 49, 50, 51, 52] (by decide +kernel) (by decide +kernel)
set_option maxRecDepth 20000 in
theorem gX3_standingOf_X3_isFound : GoodIn wsX3_standingOf (wsV RX3 88 RX3 yX3_isFound wsX3_isFound) := goodIn_app (goodIn_of _ (by decide +kernel)) ggX3_standingOf_X3_isFound
theorem dX3_standingOf_0 : decode cX3_standingOf 0 = .ok (.aload_n 1, 1) := by decide +kernel
theorem dX3_standingOf_1 : decode cX3_standingOf 1 = .ok (.iload_n 2, 1) := by decide +kernel
theorem dX3_standingOf_2 : decode cX3_standingOf 2 = .ok (.invokevirtual 55, 3) := by decide +kernel
theorem dX3_standingOf_5 : decode cX3_standingOf 5 = .ok (.istore_n 3, 1) := by decide +kernel
theorem dX3_standingOf_6 : decode cX3_standingOf 6 = .ok (.iload_n 3, 1) := by decide +kernel
theorem dX3_standingOf_7 : decode cX3_standingOf 7 = .ok (.aload_n 1, 1) := by decide +kernel
theorem dX3_standingOf_8 : decode cX3_standingOf 8 = .ok (.getfield 66, 3) := by decide +kernel
theorem dX3_standingOf_11 : decode cX3_standingOf 11 = .ok (.iconst 3, 1) := by decide +kernel
theorem dX3_standingOf_12 : decode cX3_standingOf 12 = .ok (.iaload, 1) := by decide +kernel
theorem dX3_standingOf_13 : decode cX3_standingOf 13 = .ok (.if_icmp .lt 5, 3) := by decide +kernel
theorem dX3_standingOf_16 : decode cX3_standingOf 16 = .ok (.iconst 2, 1) := by decide +kernel
theorem dX3_standingOf_17 : decode cX3_standingOf 17 = .ok (.ireturn, 1) := by decide +kernel
theorem dX3_standingOf_18 : decode cX3_standingOf 18 = .ok (.aload_n 0, 1) := by decide +kernel
theorem dX3_standingOf_19 : decode cX3_standingOf 19 = .ok (.aload_n 1, 1) := by decide +kernel
theorem dX3_standingOf_20 : decode cX3_standingOf 20 = .ok (.iload_n 3, 1) := by decide +kernel
theorem dX3_standingOf_21 : decode cX3_standingOf 21 = .ok (.invokevirtual 88, 3) := by decide +kernel
theorem dX3_standingOf_24 : decode cX3_standingOf 24 = .ok (.ifCond .eq 7, 3) := by decide +kernel
theorem dX3_standingOf_27 : decode cX3_standingOf 27 = .ok (.iconst 1, 1) := by decide +kernel
theorem dX3_standingOf_28 : decode cX3_standingOf 28 = .ok (.goto 4, 3) := by decide +kernel
theorem dX3_standingOf_31 : decode cX3_standingOf 31 = .ok (.iconst 0, 1) := by decide +kernel
theorem dX3_standingOf_32 : decode cX3_standingOf 32 = .ok (.ireturn, 1) := by decide +kernel
set_option maxRecDepth 20000 in
theorem ggX3_missedTargets_X3_standingOf : GoodIn wsX3_missedTargets wsX3_standingOf := goodIn_r _ [6, 7, 8, 9, 10, 11, 12, 13, 14, 15, 16, 5, 17, 18, 19, 20, 21, 22, 23, 24, 25, 26, 27, 28, 29, 30, 31, 32, 33, 34, 35, 36, 37, 38, 39, 40, 41, 42, 43, 44, 45, 46, 47, 48, 49, 50, 51, 52, 53, 54, 55, 56, 57] (by decide +kernel) (by decide +kernel)
set_option maxRecDepth 20000 in
theorem gX3_missedTargets_X3_standingOf : GoodIn wsX3_missedTargets (wsV RX3 92 RX3 yX3_standingOf wsX3_standingOf) := goodIn_app (goodIn_of _ (by decide +kernel)) ggX3_missedTargets_X3_standingOf
theorem dX3_missedTargets_0 : decode cX3_missedTargets 0 = .ok (.iconst 0, 1) := by decide +kernel
theorem dX3_missedTargets_1 : decode cX3_missedTargets 1 = .ok (.istore_n 2, 1) := by decide +kernel
theorem dX3_missedTargets_2 : decode cX3_missedTargets 2 = .ok (.iconst 0, 1) := by decide +kernel
theorem dX3_missedTargets_3 : decode cX3_missedTargets 3 = .ok (.istore_n 3, 1) := by decide +kernel
theorem dX3_missedTargets_4 : decode cX3_missedTargets 4 = .ok (.iload_n 3, 1) := by decide +kernel
theorem dX3_missedTargets_5 : decode cX3_missedTargets 5 = .ok (.aload_n 1, 1) := by decide +kernel
theorem dX3_missedTargets_6 : decode cX3_missedTargets 6 = .ok (.getfield 48, 3) := by decide +kernel
theorem dX3_missedTargets_9 : decode cX3_missedTargets 9 = .ok (.if_icmp .ge 24, 3) := by decide +kernel
theorem dX3_missedTargets_12 : decode cX3_missedTargets 12 = .ok (.aload_n 0, 1) := by decide +kernel
theorem dX3_missedTargets_13 : decode cX3_missedTargets 13 = .ok (.aload_n 1, 1) := by decide +kernel
theorem dX3_missedTargets_14 : decode cX3_missedTargets 14 = .ok (.iload_n 3, 1) := by decide +kernel
theorem dX3_missedTargets_15 : decode cX3_missedTargets 15 = .ok (.invokevirtual 92, 3) := by decide +kernel
theorem dX3_missedTargets_18 : decode cX3_missedTargets 18 = .ok (.ifCond .ne 9, 3) := by decide +kernel
theorem dX3_missedTargets_21 : decode cX3_missedTargets 21 = .ok (.iload_n 2, 1) := by decide +kernel
theorem dX3_missedTargets_22 : decode cX3_missedTargets 22 = .ok (.iconst 1, 1) := by decide +kernel
theorem dX3_missedTargets_23 : decode cX3_missedTargets 23 = .ok (.iload_n 3, 1) := by decide +kernel
theorem dX3_missedTargets_24 : decode cX3_missedTargets 24 = .ok (.ishl, 1) := by decide +kernel
theorem dX3_missedTargets_25 : decode cX3_missedTargets 25 = .ok (.ior, 1) := by decide +kernel
theorem dX3_missedTargets_26 : decode cX3_missedTargets 26 = .ok (.istore_n 2, 1) := by decide +kernel
theorem dX3_missedTargets_27 : decode cX3_missedTargets 27 = .ok (.iinc 3 1, 3) := by decide +kernel
theorem dX3_missedTargets_30 : decode cX3_missedTargets 30 = .ok (.goto (-26), 3) := by decide +kernel
theorem dX3_missedTargets_33 : decode cX3_missedTargets 33 = .ok (.iload_n 2, 1) := by decide +kernel
theorem dX3_missedTargets_34 : decode cX3_missedTargets 34 = .ok (.ireturn, 1) := by decide +kernel
set_option maxRecDepth 20000 in
theorem ggX3_markHits_J7_fill_53178 : GoodIn wsX3_markHits wsJ7_fill_53178 := goodIn_r _ [7] (by decide +kernel) (by decide +kernel)
set_option maxRecDepth 20000 in
theorem gX3_markHits_J7_fill_53178 : GoodIn wsX3_markHits (va_wsS RX3 95 yJ7_fill_53178 wsJ7_fill_53178) := goodIn_app (goodIn_of _ (by decide +kernel)) ggX3_markHits_J7_fill_53178
set_option maxRecDepth 20000 in
theorem ggX3_markHits_X3_isEcho : GoodIn wsX3_markHits wsX3_isEcho := goodIn_r _ [12, 13, 14, 23, 24, 25, 26, 27, 28, 29, 30, 31, 32, 33, 34, 35, 36, 37, 38, 39, 40, 41] (by decide +kernel) (by decide +kernel)
set_option maxRecDepth 20000 in
theorem gX3_markHits_X3_isEcho : GoodIn wsX3_markHits (wsV RX3 69 RX3 yX3_isEcho wsX3_isEcho) := goodIn_app (goodIn_of _ (by decide +kernel)) ggX3_markHits_X3_isEcho
set_option maxRecDepth 20000 in
theorem ggX3_markHits_X3_markEcho : GoodIn wsX3_markHits wsX3_markEcho := goodIn_r _ [18, 3, 19, 20, 21, 22, 14, 1, 29, 30, 31, 32, 33, 34, 35, 36, 37, 38, 39, 40, 41, 23, 24, 25, 26, 27, 28] (by decide +kernel) (by decide +kernel)
set_option maxRecDepth 20000 in
theorem gX3_markHits_X3_markEcho : GoodIn wsX3_markHits (wsV RX3 101 RX3 yX3_markEcho wsX3_markEcho) := goodIn_app (goodIn_of _ (by decide +kernel)) ggX3_markHits_X3_markEcho
theorem dX3_markHits_0 : decode cX3_markHits 0 = .ok (.aload_n 0, 1) := by decide +kernel
theorem dX3_markHits_1 : decode cX3_markHits 1 = .ok (.getfield 18, 3) := by decide +kernel
theorem dX3_markHits_4 : decode cX3_markHits 4 = .ok (.iconst 0, 1) := by decide +kernel
theorem dX3_markHits_5 : decode cX3_markHits 5 = .ok (.invokestatic 95, 3) := by decide +kernel
theorem dX3_markHits_8 : decode cX3_markHits 8 = .ok (.iconst 0, 1) := by decide +kernel
theorem dX3_markHits_9 : decode cX3_markHits 9 = .ok (.istore_n 2, 1) := by decide +kernel
theorem dX3_markHits_10 : decode cX3_markHits 10 = .ok (.iload_n 2, 1) := by decide +kernel
theorem dX3_markHits_11 : decode cX3_markHits 11 = .ok (.aload_n 1, 1) := by decide +kernel
theorem dX3_markHits_12 : decode cX3_markHits 12 = .ok (.getfield 27, 3) := by decide +kernel
theorem dX3_markHits_15 : decode cX3_markHits 15 = .ok (.if_icmp .ge 44, 3) := by decide +kernel
theorem dX3_markHits_18 : decode cX3_markHits 18 = .ok (.iconst 0, 1) := by decide +kernel
theorem dX3_markHits_19 : decode cX3_markHits 19 = .ok (.istore_n 3, 1) := by decide +kernel
theorem dX3_markHits_20 : decode cX3_markHits 20 = .ok (.iload_n 3, 1) := by decide +kernel
theorem dX3_markHits_21 : decode cX3_markHits 21 = .ok (.aload_n 1, 1) := by decide +kernel
theorem dX3_markHits_22 : decode cX3_markHits 22 = .ok (.getfield 33, 3) := by decide +kernel
theorem dX3_markHits_25 : decode cX3_markHits 25 = .ok (.iload_n 2, 1) := by decide +kernel
theorem dX3_markHits_26 : decode cX3_markHits 26 = .ok (.iaload, 1) := by decide +kernel
theorem dX3_markHits_27 : decode cX3_markHits 27 = .ok (.if_icmp .ge 26, 3) := by decide +kernel
theorem dX3_markHits_30 : decode cX3_markHits 30 = .ok (.aload_n 0, 1) := by decide +kernel
theorem dX3_markHits_31 : decode cX3_markHits 31 = .ok (.aload_n 1, 1) := by decide +kernel
theorem dX3_markHits_32 : decode cX3_markHits 32 = .ok (.iload_n 2, 1) := by decide +kernel
theorem dX3_markHits_33 : decode cX3_markHits 33 = .ok (.iload_n 3, 1) := by decide +kernel
theorem dX3_markHits_34 : decode cX3_markHits 34 = .ok (.invokevirtual 69, 3) := by decide +kernel
theorem dX3_markHits_37 : decode cX3_markHits 37 = .ok (.ifCond .eq 10, 3) := by decide +kernel
theorem dX3_markHits_40 : decode cX3_markHits 40 = .ok (.aload_n 0, 1) := by decide +kernel
theorem dX3_markHits_41 : decode cX3_markHits 41 = .ok (.aload_n 1, 1) := by decide +kernel
theorem dX3_markHits_42 : decode cX3_markHits 42 = .ok (.iload_n 2, 1) := by decide +kernel
theorem dX3_markHits_43 : decode cX3_markHits 43 = .ok (.iload_n 3, 1) := by decide +kernel
theorem dX3_markHits_44 : decode cX3_markHits 44 = .ok (.invokevirtual 101, 3) := by decide +kernel
theorem dX3_markHits_47 : decode cX3_markHits 47 = .ok (.iinc 3 1, 3) := by decide +kernel
theorem dX3_markHits_50 : decode cX3_markHits 50 = .ok (.goto (-30), 3) := by decide +kernel
theorem dX3_markHits_53 : decode cX3_markHits 53 = .ok (.iinc 2 1, 3) := by decide +kernel
theorem dX3_markHits_56 : decode cX3_markHits 56 = .ok (.goto (-46), 3) := by decide +kernel
theorem dX3_markHits_59 : decode cX3_markHits 59 = .ok (.return_, 1) := by decide +kernel
theorem dX3_markEcho_0 : decode cX3_markEcho 0 = .ok (.aload_n 1, 1) := by decide +kernel
theorem dX3_markEcho_1 : decode cX3_markEcho 1 = .ok (.getfield 33, 3) := by decide +kernel
theorem dX3_markEcho_4 : decode cX3_markEcho 4 = .ok (.iload_n 2, 1) := by decide +kernel
theorem dX3_markEcho_5 : decode cX3_markEcho 5 = .ok (.iaload, 1) := by decide +kernel
theorem dX3_markEcho_6 : decode cX3_markEcho 6 = .ok (.iconst 4, 1) := by decide +kernel
theorem dX3_markEcho_7 : decode cX3_markEcho 7 = .ok (.invokestatic 104, 3) := by decide +kernel
theorem dX3_markEcho_10 : decode cX3_markEcho 10 = .ok (.istore 4, 2) := by decide +kernel
theorem dX3_markEcho_12 : decode cX3_markEcho 12 = .ok (.iload_n 3, 1) := by decide +kernel
theorem dX3_markEcho_13 : decode cX3_markEcho 13 = .ok (.istore 5, 2) := by decide +kernel
theorem dX3_markEcho_15 : decode cX3_markEcho 15 = .ok (.iload 5, 2) := by decide +kernel
theorem dX3_markEcho_17 : decode cX3_markEcho 17 = .ok (.aload_n 1, 1) := by decide +kernel
theorem dX3_markEcho_18 : decode cX3_markEcho 18 = .ok (.getfield 66, 3) := by decide +kernel
theorem dX3_markEcho_21 : decode cX3_markEcho 21 = .ok (.iconst 3, 1) := by decide +kernel
theorem dX3_markEcho_22 : decode cX3_markEcho 22 = .ok (.iaload, 1) := by decide +kernel
theorem dX3_markEcho_23 : decode cX3_markEcho 23 = .ok (.if_icmp .ge 26, 3) := by decide +kernel
theorem dX3_markEcho_26 : decode cX3_markEcho 26 = .ok (.aload_n 0, 1) := by decide +kernel
theorem dX3_markEcho_27 : decode cX3_markEcho 27 = .ok (.getfield 18, 3) := by decide +kernel
theorem dX3_markEcho_30 : decode cX3_markEcho 30 = .ok (.iload 5, 2) := by decide +kernel
theorem dX3_markEcho_32 : decode cX3_markEcho 32 = .ok (.dup2, 1) := by decide +kernel
theorem dX3_markEcho_33 : decode cX3_markEcho 33 = .ok (.iaload, 1) := by decide +kernel
theorem dX3_markEcho_34 : decode cX3_markEcho 34 = .ok (.iconst 1, 1) := by decide +kernel
theorem dX3_markEcho_35 : decode cX3_markEcho 35 = .ok (.iload_n 2, 1) := by decide +kernel
theorem dX3_markEcho_36 : decode cX3_markEcho 36 = .ok (.ishl, 1) := by decide +kernel
theorem dX3_markEcho_37 : decode cX3_markEcho 37 = .ok (.ior, 1) := by decide +kernel
theorem dX3_markEcho_38 : decode cX3_markEcho 38 = .ok (.iastore, 1) := by decide +kernel
theorem dX3_markEcho_39 : decode cX3_markEcho 39 = .ok (.iload 5, 2) := by decide +kernel
theorem dX3_markEcho_41 : decode cX3_markEcho 41 = .ok (.iload 4, 2) := by decide +kernel
theorem dX3_markEcho_43 : decode cX3_markEcho 43 = .ok (.iadd, 1) := by decide +kernel
theorem dX3_markEcho_44 : decode cX3_markEcho 44 = .ok (.istore 5, 2) := by decide +kernel
theorem dX3_markEcho_46 : decode cX3_markEcho 46 = .ok (.goto (-31), 3) := by decide +kernel
theorem dX3_markEcho_49 : decode cX3_markEcho 49 = .ok (.return_, 1) := by decide +kernel
theorem dX3_takeEcho_0 : decode cX3_takeEcho 0 = .ok (.aload_n 1, 1) := by decide +kernel
theorem dX3_takeEcho_1 : decode cX3_takeEcho 1 = .ok (.getfield 33, 3) := by decide +kernel
theorem dX3_takeEcho_4 : decode cX3_takeEcho 4 = .ok (.iload_n 2, 1) := by decide +kernel
theorem dX3_takeEcho_5 : decode cX3_takeEcho 5 = .ok (.iaload, 1) := by decide +kernel
theorem dX3_takeEcho_6 : decode cX3_takeEcho 6 = .ok (.iconst 4, 1) := by decide +kernel
theorem dX3_takeEcho_7 : decode cX3_takeEcho 7 = .ok (.invokestatic 104, 3) := by decide +kernel
theorem dX3_takeEcho_10 : decode cX3_takeEcho 10 = .ok (.istore 4, 2) := by decide +kernel
theorem dX3_takeEcho_12 : decode cX3_takeEcho 12 = .ok (.iload_n 3, 1) := by decide +kernel
theorem dX3_takeEcho_13 : decode cX3_takeEcho 13 = .ok (.istore 5, 2) := by decide +kernel
theorem dX3_takeEcho_15 : decode cX3_takeEcho 15 = .ok (.iload 5, 2) := by decide +kernel
theorem dX3_takeEcho_17 : decode cX3_takeEcho 17 = .ok (.aload_n 1, 1) := by decide +kernel
theorem dX3_takeEcho_18 : decode cX3_takeEcho 18 = .ok (.getfield 66, 3) := by decide +kernel
theorem dX3_takeEcho_21 : decode cX3_takeEcho 21 = .ok (.iconst 3, 1) := by decide +kernel
theorem dX3_takeEcho_22 : decode cX3_takeEcho 22 = .ok (.iaload, 1) := by decide +kernel
theorem dX3_takeEcho_23 : decode cX3_takeEcho 23 = .ok (.if_icmp .ge 28, 3) := by decide +kernel
theorem dX3_takeEcho_26 : decode cX3_takeEcho 26 = .ok (.aload_n 0, 1) := by decide +kernel
theorem dX3_takeEcho_27 : decode cX3_takeEcho 27 = .ok (.getfield 18, 3) := by decide +kernel
theorem dX3_takeEcho_30 : decode cX3_takeEcho 30 = .ok (.iload 5, 2) := by decide +kernel
theorem dX3_takeEcho_32 : decode cX3_takeEcho 32 = .ok (.dup2, 1) := by decide +kernel
theorem dX3_takeEcho_33 : decode cX3_takeEcho 33 = .ok (.iaload, 1) := by decide +kernel
theorem dX3_takeEcho_34 : decode cX3_takeEcho 34 = .ok (.iconst 1, 1) := by decide +kernel
theorem dX3_takeEcho_35 : decode cX3_takeEcho 35 = .ok (.iload_n 2, 1) := by decide +kernel
theorem dX3_takeEcho_36 : decode cX3_takeEcho 36 = .ok (.ishl, 1) := by decide +kernel
theorem dX3_takeEcho_37 : decode cX3_takeEcho 37 = .ok (.iconst (-1), 1) := by decide +kernel
theorem dX3_takeEcho_38 : decode cX3_takeEcho 38 = .ok (.ixor, 1) := by decide +kernel
theorem dX3_takeEcho_39 : decode cX3_takeEcho 39 = .ok (.iand, 1) := by decide +kernel
theorem dX3_takeEcho_40 : decode cX3_takeEcho 40 = .ok (.iastore, 1) := by decide +kernel
theorem dX3_takeEcho_41 : decode cX3_takeEcho 41 = .ok (.iload 5, 2) := by decide +kernel
theorem dX3_takeEcho_43 : decode cX3_takeEcho 43 = .ok (.iload 4, 2) := by decide +kernel
theorem dX3_takeEcho_45 : decode cX3_takeEcho 45 = .ok (.iadd, 1) := by decide +kernel
theorem dX3_takeEcho_46 : decode cX3_takeEcho 46 = .ok (.istore 5, 2) := by decide +kernel
theorem dX3_takeEcho_48 : decode cX3_takeEcho 48 = .ok (.goto (-33), 3) := by decide +kernel
theorem dX3_takeEcho_51 : decode cX3_takeEcho 51 = .ok (.return_, 1) := by decide +kernel
set_option maxRecDepth 20000 in
theorem ggX3_countFound_X3_markHits : GoodIn wsX3_countFound wsX3_markHits := goodIn_r _ [6, 7, 8, 9, 10, 11, 12, 13, 14, 15, 16, 5, 17, 18, 1, 19, 20, 21, 22, 23, 24, 25, 26, 62, 63, 64, 65, 66, 67, 49, 50, 51, 52, 53, 54, 55, 56, 57, 58, 59, 60, 61] (by decide +kernel) (by decide +kernel)
set_option maxRecDepth 20000 in
theorem gX3_countFound_X3_markHits : GoodIn wsX3_countFound (wsV RX3 109 RX3 yX3_markHits wsX3_markHits) := goodIn_app (goodIn_of _ (by decide +kernel)) ggX3_countFound_X3_markHits
set_option maxRecDepth 20000 in
theorem ggX3_countFound_X3_isListed : GoodIn wsX3_countFound wsX3_isListed := goodIn_r _ [30, 7, 1, 31, 32, 33, 34, 35, 36, 37, 38, 39, 40, 41, 42, 43, 44, 45, 46, 47, 48, 62, 63, 64, 65, 66, 67, 49, 50, 51, 52, 53, 54, 55, 56, 57, 58, 59, 60, 61] (by decide +kernel) (by decide +kernel)
set_option maxRecDepth 20000 in
theorem gX3_countFound_X3_isListed : GoodIn wsX3_countFound (wsV RX3 113 RX3 yX3_isListed wsX3_isListed) := goodIn_app (goodIn_of _ (by decide +kernel)) ggX3_countFound_X3_isListed
theorem dX3_countFound_0 : decode cX3_countFound 0 = .ok (.aload_n 0, 1) := by decide +kernel
theorem dX3_countFound_1 : decode cX3_countFound 1 = .ok (.aload_n 1, 1) := by decide +kernel
theorem dX3_countFound_2 : decode cX3_countFound 2 = .ok (.invokevirtual 109, 3) := by decide +kernel
theorem dX3_countFound_5 : decode cX3_countFound 5 = .ok (.iconst 0, 1) := by decide +kernel
theorem dX3_countFound_6 : decode cX3_countFound 6 = .ok (.istore_n 3, 1) := by decide +kernel
theorem dX3_countFound_7 : decode cX3_countFound 7 = .ok (.iconst 0, 1) := by decide +kernel
theorem dX3_countFound_8 : decode cX3_countFound 8 = .ok (.istore 4, 2) := by decide +kernel
theorem dX3_countFound_10 : decode cX3_countFound 10 = .ok (.iload 4, 2) := by decide +kernel
theorem dX3_countFound_12 : decode cX3_countFound 12 = .ok (.aload_n 1, 1) := by decide +kernel
theorem dX3_countFound_13 : decode cX3_countFound 13 = .ok (.getfield 66, 3) := by decide +kernel
theorem dX3_countFound_16 : decode cX3_countFound 16 = .ok (.iconst 3, 1) := by decide +kernel
theorem dX3_countFound_17 : decode cX3_countFound 17 = .ok (.iaload, 1) := by decide +kernel
theorem dX3_countFound_18 : decode cX3_countFound 18 = .ok (.if_icmp .ge 23, 3) := by decide +kernel
theorem dX3_countFound_21 : decode cX3_countFound 21 = .ok (.aload_n 0, 1) := by decide +kernel
theorem dX3_countFound_22 : decode cX3_countFound 22 = .ok (.aload_n 1, 1) := by decide +kernel
theorem dX3_countFound_23 : decode cX3_countFound 23 = .ok (.iload 4, 2) := by decide +kernel
theorem dX3_countFound_25 : decode cX3_countFound 25 = .ok (.iload_n 2, 1) := by decide +kernel
theorem dX3_countFound_26 : decode cX3_countFound 26 = .ok (.invokevirtual 113, 3) := by decide +kernel
theorem dX3_countFound_29 : decode cX3_countFound 29 = .ok (.ifCond .eq 6, 3) := by decide +kernel
theorem dX3_countFound_32 : decode cX3_countFound 32 = .ok (.iinc 3 1, 3) := by decide +kernel
theorem dX3_countFound_35 : decode cX3_countFound 35 = .ok (.iinc 4 1, 3) := by decide +kernel
theorem dX3_countFound_38 : decode cX3_countFound 38 = .ok (.goto (-28), 3) := by decide +kernel
theorem dX3_countFound_41 : decode cX3_countFound 41 = .ok (.iload_n 3, 1) := by decide +kernel
theorem dX3_countFound_42 : decode cX3_countFound 42 = .ok (.ireturn, 1) := by decide +kernel
set_option maxRecDepth 20000 in
theorem ggX3_foundAt_X3_markHits : GoodIn wsX3_foundAt wsX3_markHits := goodIn_r _ [6, 7, 8, 9, 10, 11, 12, 13, 14, 15, 16, 5, 17, 18, 1, 19, 20, 21, 22, 23, 24, 25, 26, 62, 63, 64, 65, 66, 67, 49, 50, 51, 52, 53, 54, 55, 56, 57, 58, 59, 60, 61] (by decide +kernel) (by decide +kernel)
set_option maxRecDepth 20000 in
theorem gX3_foundAt_X3_markHits : GoodIn wsX3_foundAt (wsV RX3 109 RX3 yX3_markHits wsX3_markHits) := goodIn_app (goodIn_of _ (by decide +kernel)) ggX3_foundAt_X3_markHits
set_option maxRecDepth 20000 in
theorem ggX3_foundAt_X3_isListed : GoodIn wsX3_foundAt wsX3_isListed := goodIn_r _ [30, 7, 1, 31, 32, 33, 34, 35, 36, 37, 38, 39, 40, 41, 42, 43, 44, 45, 46, 47, 48, 62, 63, 64, 65, 66, 67, 49, 50, 51, 52, 53, 54, 55, 56, 57, 58, 59, 60, 61] (by decide +kernel) (by decide +kernel)
set_option maxRecDepth 20000 in
theorem gX3_foundAt_X3_isListed : GoodIn wsX3_foundAt (wsV RX3 113 RX3 yX3_isListed wsX3_isListed) := goodIn_app (goodIn_of _ (by decide +kernel)) ggX3_foundAt_X3_isListed
theorem dX3_foundAt_0 : decode cX3_foundAt 0 = .ok (.aload_n 0, 1) := by decide +kernel
theorem dX3_foundAt_1 : decode cX3_foundAt 1 = .ok (.aload_n 1, 1) := by decide +kernel
theorem dX3_foundAt_2 : decode cX3_foundAt 2 = .ok (.invokevirtual 109, 3) := by decide +kernel
theorem dX3_foundAt_5 : decode cX3_foundAt 5 = .ok (.iload_n 2, 1) := by decide +kernel
theorem dX3_foundAt_6 : decode cX3_foundAt 6 = .ok (.istore 4, 2) := by decide +kernel
theorem dX3_foundAt_8 : decode cX3_foundAt 8 = .ok (.iconst 0, 1) := by decide +kernel
theorem dX3_foundAt_9 : decode cX3_foundAt 9 = .ok (.istore 5, 2) := by decide +kernel
theorem dX3_foundAt_11 : decode cX3_foundAt 11 = .ok (.iload 5, 2) := by decide +kernel
theorem dX3_foundAt_13 : decode cX3_foundAt 13 = .ok (.aload_n 1, 1) := by decide +kernel
theorem dX3_foundAt_14 : decode cX3_foundAt 14 = .ok (.getfield 66, 3) := by decide +kernel
theorem dX3_foundAt_17 : decode cX3_foundAt 17 = .ok (.iconst 3, 1) := by decide +kernel
theorem dX3_foundAt_18 : decode cX3_foundAt 18 = .ok (.iaload, 1) := by decide +kernel
theorem dX3_foundAt_19 : decode cX3_foundAt 19 = .ok (.if_icmp .ge 31, 3) := by decide +kernel
theorem dX3_foundAt_22 : decode cX3_foundAt 22 = .ok (.aload_n 0, 1) := by decide +kernel
theorem dX3_foundAt_23 : decode cX3_foundAt 23 = .ok (.aload_n 1, 1) := by decide +kernel
theorem dX3_foundAt_24 : decode cX3_foundAt 24 = .ok (.iload 5, 2) := by decide +kernel
theorem dX3_foundAt_26 : decode cX3_foundAt 26 = .ok (.iload_n 3, 1) := by decide +kernel
theorem dX3_foundAt_27 : decode cX3_foundAt 27 = .ok (.invokevirtual 113, 3) := by decide +kernel
theorem dX3_foundAt_30 : decode cX3_foundAt 30 = .ok (.ifCond .eq 14, 3) := by decide +kernel
theorem dX3_foundAt_33 : decode cX3_foundAt 33 = .ok (.iload 4, 2) := by decide +kernel
theorem dX3_foundAt_35 : decode cX3_foundAt 35 = .ok (.ifCond .ne 6, 3) := by decide +kernel
theorem dX3_foundAt_38 : decode cX3_foundAt 38 = .ok (.iload 5, 2) := by decide +kernel
theorem dX3_foundAt_40 : decode cX3_foundAt 40 = .ok (.ireturn, 1) := by decide +kernel
theorem dX3_foundAt_41 : decode cX3_foundAt 41 = .ok (.iinc 4 (-1), 3) := by decide +kernel
theorem dX3_foundAt_44 : decode cX3_foundAt 44 = .ok (.iinc 5 1, 3) := by decide +kernel
theorem dX3_foundAt_47 : decode cX3_foundAt 47 = .ok (.goto (-36), 3) := by decide +kernel
theorem dX3_foundAt_50 : decode cX3_foundAt 50 = .ok (.iconst (-1), 1) := by decide +kernel
theorem dX3_foundAt_51 : decode cX3_foundAt 51 = .ok (.ireturn, 1) := by decide +kernel
set_option maxRecDepth 20000 in
theorem ggX3_isListed_J6_bitCount_0f7a4 : GoodIn wsX3_isListed wsJ6_bitCount_0f7a4 := goodIn_r _ [6, 7, 8, 9] (by decide +kernel) (by decide +kernel)
set_option maxRecDepth 20000 in
theorem gX3_isListed_J6_bitCount_0f7a4 : GoodIn wsX3_isListed (va_wsS RX3 83 yJ6_bitCount_0f7a4 wsJ6_bitCount_0f7a4) := goodIn_app (goodIn_of _ (by decide +kernel)) ggX3_isListed_J6_bitCount_0f7a4
set_option maxRecDepth 20000 in
theorem ggX3_isListed_X5_isRange : GoodIn wsX3_isListed wsX5_isRange := goodIn_r _ [14, 15, 16, 17, 18, 13, 19, 20, 27, 28, 29, 30, 31, 32, 33, 34, 35, 36, 37, 38, 39] (by decide +kernel) (by decide +kernel)
set_option maxRecDepth 20000 in
theorem gX3_isListed_X5_isRange : GoodIn wsX3_isListed (wsV RX3 117 RX5 yX5_isRange wsX5_isRange) := goodIn_app (goodIn_of _ (by decide +kernel)) ggX3_isListed_X5_isRange
theorem dX3_isListed_0 : decode cX3_isListed 0 = .ok (.aload_n 0, 1) := by decide +kernel
theorem dX3_isListed_1 : decode cX3_isListed 1 = .ok (.getfield 18, 3) := by decide +kernel
theorem dX3_isListed_4 : decode cX3_isListed 4 = .ok (.iload_n 2, 1) := by decide +kernel
theorem dX3_isListed_5 : decode cX3_isListed 5 = .ok (.iaload, 1) := by decide +kernel
theorem dX3_isListed_6 : decode cX3_isListed 6 = .ok (.invokestatic 83, 3) := by decide +kernel
theorem dX3_isListed_9 : decode cX3_isListed 9 = .ok (.aload_n 1, 1) := by decide +kernel
theorem dX3_isListed_10 : decode cX3_isListed 10 = .ok (.getfield 66, 3) := by decide +kernel
theorem dX3_isListed_13 : decode cX3_isListed 13 = .ok (.iconst 4, 1) := by decide +kernel
theorem dX3_isListed_14 : decode cX3_isListed 14 = .ok (.iaload, 1) := by decide +kernel
theorem dX3_isListed_15 : decode cX3_isListed 15 = .ok (.if_icmp .lt 19, 3) := by decide +kernel
theorem dX3_isListed_18 : decode cX3_isListed 18 = .ok (.iload_n 3, 1) := by decide +kernel
theorem dX3_isListed_19 : decode cX3_isListed 19 = .ok (.ifCond .eq 11, 3) := by decide +kernel
theorem dX3_isListed_22 : decode cX3_isListed 22 = .ok (.aload_n 1, 1) := by decide +kernel
theorem dX3_isListed_23 : decode cX3_isListed 23 = .ok (.iload_n 2, 1) := by decide +kernel
theorem dX3_isListed_24 : decode cX3_isListed 24 = .ok (.invokevirtual 117, 3) := by decide +kernel
theorem dX3_isListed_27 : decode cX3_isListed 27 = .ok (.ifCond .ne 7, 3) := by decide +kernel
theorem dX3_isListed_30 : decode cX3_isListed 30 = .ok (.iconst 1, 1) := by decide +kernel
theorem dX3_isListed_31 : decode cX3_isListed 31 = .ok (.goto 4, 3) := by decide +kernel
theorem dX3_isListed_34 : decode cX3_isListed 34 = .ok (.iconst 0, 1) := by decide +kernel
theorem dX3_isListed_35 : decode cX3_isListed 35 = .ok (.ireturn, 1) := by decide +kernel
set_option maxRecDepth 20000 in
theorem ggX3_paint_X3_markHits : GoodIn wsX3_paint wsX3_markHits := goodIn_r _ [9, 4, 2, 10, 11, 12, 13, 14, 15, 16, 17, 8, 18, 19, 3, 20, 21, 22, 23, 24, 25, 26, 27, 48, 49, 50, 51, 52, 53, 54, 55, 56, 57, 58, 59, 60, 61, 62, 63, 64, 65, 66] (by decide +kernel) (by decide +kernel)
set_option maxRecDepth 20000 in
theorem gX3_paint_X3_markHits : GoodIn wsX3_paint (wsV RX3 109 RX3 yX3_markHits wsX3_markHits) := goodIn_app (goodIn_of _ (by decide +kernel)) ggX3_paint_X3_markHits
set_option maxRecDepth 20000 in
theorem ggX3_paint_J6_bitCount_0f7a4 : GoodIn wsX3_paint wsJ6_bitCount_0f7a4 := goodIn_r _ [31, 32, 33, 34] (by decide +kernel) (by decide +kernel)
set_option maxRecDepth 20000 in
theorem gX3_paint_J6_bitCount_0f7a4 : GoodIn wsX3_paint (va_wsS RX3 83 yJ6_bitCount_0f7a4 wsJ6_bitCount_0f7a4) := goodIn_app (goodIn_of _ (by decide +kernel)) ggX3_paint_J6_bitCount_0f7a4
set_option maxRecDepth 20000 in
theorem ggX3_paint_X3_show : GoodIn wsX3_paint wsX3_show := goodIn_r _ [38, 39, 1, 40, 4, 2, 10, 41, 42, 43, 44, 45, 46, 8, 47, 24, 25, 26, 27, 3, 48, 49, 50, 51, 52, 53, 54, 55, 56, 57, 58, 59, 60, 61, 62, 63, 64, 65, 66] (by decide +kernel) (by decide +kernel)
set_option maxRecDepth 20000 in
theorem gX3_paint_X3_show : GoodIn wsX3_paint (wsV RX3 123 RX3 yX3_show wsX3_show) := goodIn_app (goodIn_of _ (by decide +kernel)) ggX3_paint_X3_show
theorem dX3_paint_0 : decode cX3_paint 0 = .ok (.aload_n 0, 1) := by decide +kernel
theorem dX3_paint_1 : decode cX3_paint 1 = .ok (.aload_n 1, 1) := by decide +kernel
theorem dX3_paint_2 : decode cX3_paint 2 = .ok (.invokevirtual 109, 3) := by decide +kernel
theorem dX3_paint_5 : decode cX3_paint 5 = .ok (.aload_n 0, 1) := by decide +kernel
theorem dX3_paint_6 : decode cX3_paint 6 = .ok (.iconst 0, 1) := by decide +kernel
theorem dX3_paint_7 : decode cX3_paint 7 = .ok (.putfield 120, 3) := by decide +kernel
theorem dX3_paint_10 : decode cX3_paint 10 = .ok (.aload_n 1, 1) := by decide +kernel
theorem dX3_paint_11 : decode cX3_paint 11 = .ok (.getfield 27, 3) := by decide +kernel
theorem dX3_paint_14 : decode cX3_paint 14 = .ok (.istore_n 2, 1) := by decide +kernel
theorem dX3_paint_15 : decode cX3_paint 15 = .ok (.iload_n 2, 1) := by decide +kernel
theorem dX3_paint_16 : decode cX3_paint 16 = .ok (.aload_n 1, 1) := by decide +kernel
theorem dX3_paint_17 : decode cX3_paint 17 = .ok (.getfield 66, 3) := by decide +kernel
theorem dX3_paint_20 : decode cX3_paint 20 = .ok (.iconst 4, 1) := by decide +kernel
theorem dX3_paint_21 : decode cX3_paint 21 = .ok (.iaload, 1) := by decide +kernel
theorem dX3_paint_22 : decode cX3_paint 22 = .ok (.if_icmp .lt 56, 3) := by decide +kernel
theorem dX3_paint_25 : decode cX3_paint 25 = .ok (.iconst 0, 1) := by decide +kernel
theorem dX3_paint_26 : decode cX3_paint 26 = .ok (.istore_n 3, 1) := by decide +kernel
theorem dX3_paint_27 : decode cX3_paint 27 = .ok (.iload_n 3, 1) := by decide +kernel
theorem dX3_paint_28 : decode cX3_paint 28 = .ok (.aload_n 1, 1) := by decide +kernel
theorem dX3_paint_29 : decode cX3_paint 29 = .ok (.getfield 66, 3) := by decide +kernel
theorem dX3_paint_32 : decode cX3_paint 32 = .ok (.iconst 3, 1) := by decide +kernel
theorem dX3_paint_33 : decode cX3_paint 33 = .ok (.iaload, 1) := by decide +kernel
theorem dX3_paint_34 : decode cX3_paint 34 = .ok (.if_icmp .ge 38, 3) := by decide +kernel
theorem dX3_paint_37 : decode cX3_paint 37 = .ok (.aload_n 0, 1) := by decide +kernel
theorem dX3_paint_38 : decode cX3_paint 38 = .ok (.getfield 18, 3) := by decide +kernel
theorem dX3_paint_41 : decode cX3_paint 41 = .ok (.iload_n 3, 1) := by decide +kernel
theorem dX3_paint_42 : decode cX3_paint 42 = .ok (.iaload, 1) := by decide +kernel
theorem dX3_paint_43 : decode cX3_paint 43 = .ok (.invokestatic 83, 3) := by decide +kernel
theorem dX3_paint_46 : decode cX3_paint 46 = .ok (.iload_n 2, 1) := by decide +kernel
theorem dX3_paint_47 : decode cX3_paint 47 = .ok (.if_icmp .ne 19, 3) := by decide +kernel
theorem dX3_paint_50 : decode cX3_paint 50 = .ok (.aload_n 0, 1) := by decide +kernel
theorem dX3_paint_51 : decode cX3_paint 51 = .ok (.getfield 120, 3) := by decide +kernel
theorem dX3_paint_54 : decode cX3_paint 54 = .ok (.bipush 40, 2) := by decide +kernel
theorem dX3_paint_56 : decode cX3_paint 56 = .ok (.if_icmp .ge 10, 3) := by decide +kernel
theorem dX3_paint_59 : decode cX3_paint 59 = .ok (.aload_n 0, 1) := by decide +kernel
theorem dX3_paint_60 : decode cX3_paint 60 = .ok (.aload_n 1, 1) := by decide +kernel
theorem dX3_paint_61 : decode cX3_paint 61 = .ok (.iload_n 3, 1) := by decide +kernel
theorem dX3_paint_62 : decode cX3_paint 62 = .ok (.iload_n 2, 1) := by decide +kernel
theorem dX3_paint_63 : decode cX3_paint 63 = .ok (.invokevirtual 123, 3) := by decide +kernel
theorem dX3_paint_66 : decode cX3_paint 66 = .ok (.iinc 3 1, 3) := by decide +kernel
theorem dX3_paint_69 : decode cX3_paint 69 = .ok (.goto (-42), 3) := by decide +kernel
theorem dX3_paint_72 : decode cX3_paint 72 = .ok (.iinc 2 (-1), 3) := by decide +kernel
theorem dX3_paint_75 : decode cX3_paint 75 = .ok (.goto (-60), 3) := by decide +kernel
theorem dX3_paint_78 : decode cX3_paint 78 = .ok (.return_, 1) := by decide +kernel
set_option maxRecDepth 20000 in
theorem ggX3_show_X10_rest : GoodIn wsX3_show wsX10_rest := goodIn_r _ [9] (by decide +kernel) (by decide +kernel)
set_option maxRecDepth 20000 in
theorem gX3_show_X10_rest_n59 : GoodIn wsX3_show (wsX10_rest) := ggX3_show_X10_rest
set_option maxRecDepth 20000 in
theorem ggX3_show_X3_takeEcho : GoodIn wsX3_show wsX3_takeEcho := goodIn_r _ [14, 6, 15, 16, 17, 18, 19, 4, 26, 27, 28, 29, 30, 31, 32, 33, 34, 35, 36, 37, 38, 20, 21, 22, 23, 24, 25] (by decide +kernel) (by decide +kernel)
set_option maxRecDepth 20000 in
theorem gX3_show_X3_takeEcho : GoodIn wsX3_show (wsV RX3 126 RX3 yX3_takeEcho wsX3_takeEcho) := goodIn_app (goodIn_of _ (by decide +kernel)) ggX3_show_X3_takeEcho
theorem dX3_show_0 : decode cX3_show 0 = .ok (.aload_n 0, 1) := by decide +kernel
theorem dX3_show_1 : decode cX3_show 1 = .ok (.getfield 21, 3) := by decide +kernel
theorem dX3_show_4 : decode cX3_show 4 = .ok (.aload_n 0, 1) := by decide +kernel
theorem dX3_show_5 : decode cX3_show 5 = .ok (.getfield 120, 3) := by decide +kernel
theorem dX3_show_8 : decode cX3_show 8 = .ok (.iload_n 2, 1) := by decide +kernel
theorem dX3_show_9 : decode cX3_show 9 = .ok (.iastore, 1) := by decide +kernel
theorem dX3_show_10 : decode cX3_show 10 = .ok (.aload_n 0, 1) := by decide +kernel
theorem dX3_show_11 : decode cX3_show 11 = .ok (.getfield 24, 3) := by decide +kernel
theorem dX3_show_14 : decode cX3_show 14 = .ok (.aload_n 0, 1) := by decide +kernel
theorem dX3_show_15 : decode cX3_show 15 = .ok (.getfield 120, 3) := by decide +kernel
theorem dX3_show_18 : decode cX3_show 18 = .ok (.iload_n 3, 1) := by decide +kernel
theorem dX3_show_19 : decode cX3_show 19 = .ok (.iastore, 1) := by decide +kernel
theorem dX3_show_20 : decode cX3_show 20 = .ok (.aload_n 0, 1) := by decide +kernel
theorem dX3_show_21 : decode cX3_show 21 = .ok (.dup, 1) := by decide +kernel
theorem dX3_show_22 : decode cX3_show 22 = .ok (.getfield 120, 3) := by decide +kernel
theorem dX3_show_25 : decode cX3_show 25 = .ok (.iconst 1, 1) := by decide +kernel
theorem dX3_show_26 : decode cX3_show 26 = .ok (.iadd, 1) := by decide +kernel
theorem dX3_show_27 : decode cX3_show 27 = .ok (.putfield 120, 3) := by decide +kernel
theorem dX3_show_30 : decode cX3_show 30 = .ok (.aload_n 0, 1) := by decide +kernel
theorem dX3_show_31 : decode cX3_show 31 = .ok (.getfield 18, 3) := by decide +kernel
theorem dX3_show_34 : decode cX3_show 34 = .ok (.iload_n 2, 1) := by decide +kernel
theorem dX3_show_35 : decode cX3_show 35 = .ok (.iaload, 1) := by decide +kernel
theorem dX3_show_36 : decode cX3_show 36 = .ok (.istore 4, 2) := by decide +kernel
theorem dX3_show_38 : decode cX3_show 38 = .ok (.iconst 0, 1) := by decide +kernel
theorem dX3_show_39 : decode cX3_show 39 = .ok (.istore 5, 2) := by decide +kernel
theorem dX3_show_41 : decode cX3_show 41 = .ok (.iload 5, 2) := by decide +kernel
theorem dX3_show_43 : decode cX3_show 43 = .ok (.aload_n 1, 1) := by decide +kernel
theorem dX3_show_44 : decode cX3_show 44 = .ok (.getfield 27, 3) := by decide +kernel
theorem dX3_show_47 : decode cX3_show 47 = .ok (.if_icmp .ge 37, 3) := by decide +kernel
theorem dX3_show_50 : decode cX3_show 50 = .ok (.iload 4, 2) := by decide +kernel
theorem dX3_show_52 : decode cX3_show 52 = .ok (.iload 5, 2) := by decide +kernel
theorem dX3_show_54 : decode cX3_show 54 = .ok (.ishr, 1) := by decide +kernel
theorem dX3_show_55 : decode cX3_show 55 = .ok (.iconst 1, 1) := by decide +kernel
theorem dX3_show_56 : decode cX3_show 56 = .ok (.iand, 1) := by decide +kernel
theorem dX3_show_57 : decode cX3_show 57 = .ok (.ifCond .eq 21, 3) := by decide +kernel
theorem dX3_show_60 : decode cX3_show 60 = .ok (.aload_n 0, 1) := by decide +kernel
theorem dX3_show_61 : decode cX3_show 61 = .ok (.aload_n 1, 1) := by decide +kernel
theorem dX3_show_62 : decode cX3_show 62 = .ok (.iload 5, 2) := by decide +kernel
theorem dX3_show_64 : decode cX3_show 64 = .ok (.iload_n 2, 1) := by decide +kernel
theorem dX3_show_65 : decode cX3_show 65 = .ok (.aload_n 1, 1) := by decide +kernel
theorem dX3_show_66 : decode cX3_show 66 = .ok (.getfield 33, 3) := by decide +kernel
theorem dX3_show_69 : decode cX3_show 69 = .ok (.iload 5, 2) := by decide +kernel
theorem dX3_show_71 : decode cX3_show 71 = .ok (.iaload, 1) := by decide +kernel
theorem dX3_show_72 : decode cX3_show 72 = .ok (.invokestatic 59, 3) := by decide +kernel
theorem dX3_show_75 : decode cX3_show 75 = .ok (.invokevirtual 126, 3) := by decide +kernel
theorem dX3_show_78 : decode cX3_show 78 = .ok (.iinc 5 1, 3) := by decide +kernel
theorem dX3_show_81 : decode cX3_show 81 = .ok (.goto (-40), 3) := by decide +kernel
theorem dX3_show_84 : decode cX3_show 84 = .ok (.return_, 1) := by decide +kernel
set_option maxRecDepth 20000 in
theorem ggX3_countPairings_X3_countOfGap : GoodIn wsX3_countPairings wsX3_countOfGap := goodIn_r _ [6, 7, 8, 9, 10, 5, 11, 12, 13, 14, 15, 16, 17, 18, 19, 20, 21, 22, 23, 24, 25, 26, 27, 28, 29, 30, 31, 32] (by decide +kernel) (by decide +kernel)
set_option maxRecDepth 20000 in
theorem gX3_countPairings_X3_countOfGap : GoodIn wsX3_countPairings (wsV RX3 73 RX3 yX3_countOfGap wsX3_countOfGap) := goodIn_app (goodIn_of _ (by decide +kernel)) ggX3_countPairings_X3_countOfGap
theorem dX3_countPairings_0 : decode cX3_countPairings 0 = .ok (.aload_n 1, 1) := by decide +kernel
theorem dX3_countPairings_1 : decode cX3_countPairings 1 = .ok (.getfield 27, 3) := by decide +kernel
theorem dX3_countPairings_4 : decode cX3_countPairings 4 = .ok (.ifCond .ne 5, 3) := by decide +kernel
theorem dX3_countPairings_7 : decode cX3_countPairings 7 = .ok (.iconst 0, 1) := by decide +kernel
theorem dX3_countPairings_8 : decode cX3_countPairings 8 = .ok (.ireturn, 1) := by decide +kernel
theorem dX3_countPairings_9 : decode cX3_countPairings 9 = .ok (.iconst 1, 1) := by decide +kernel
theorem dX3_countPairings_10 : decode cX3_countPairings 10 = .ok (.istore_n 2, 1) := by decide +kernel
theorem dX3_countPairings_11 : decode cX3_countPairings 11 = .ok (.iconst 0, 1) := by decide +kernel
theorem dX3_countPairings_12 : decode cX3_countPairings 12 = .ok (.istore_n 3, 1) := by decide +kernel
theorem dX3_countPairings_13 : decode cX3_countPairings 13 = .ok (.iload_n 3, 1) := by decide +kernel
theorem dX3_countPairings_14 : decode cX3_countPairings 14 = .ok (.aload_n 1, 1) := by decide +kernel
theorem dX3_countPairings_15 : decode cX3_countPairings 15 = .ok (.getfield 27, 3) := by decide +kernel
theorem dX3_countPairings_18 : decode cX3_countPairings 18 = .ok (.if_icmp .ge 18, 3) := by decide +kernel
theorem dX3_countPairings_21 : decode cX3_countPairings 21 = .ok (.iload_n 2, 1) := by decide +kernel
theorem dX3_countPairings_22 : decode cX3_countPairings 22 = .ok (.aload_n 0, 1) := by decide +kernel
theorem dX3_countPairings_23 : decode cX3_countPairings 23 = .ok (.aload_n 1, 1) := by decide +kernel
theorem dX3_countPairings_24 : decode cX3_countPairings 24 = .ok (.iload_n 3, 1) := by decide +kernel
theorem dX3_countPairings_25 : decode cX3_countPairings 25 = .ok (.invokevirtual 73, 3) := by decide +kernel
theorem dX3_countPairings_28 : decode cX3_countPairings 28 = .ok (.imul, 1) := by decide +kernel
theorem dX3_countPairings_29 : decode cX3_countPairings 29 = .ok (.istore_n 2, 1) := by decide +kernel
theorem dX3_countPairings_30 : decode cX3_countPairings 30 = .ok (.iinc 3 1, 3) := by decide +kernel
theorem dX3_countPairings_33 : decode cX3_countPairings 33 = .ok (.goto (-20), 3) := by decide +kernel
theorem dX3_countPairings_36 : decode cX3_countPairings 36 = .ok (.iload_n 2, 1) := by decide +kernel
theorem dX3_countPairings_37 : decode cX3_countPairings 37 = .ok (.ireturn, 1) := by decide +kernel
set_option maxRecDepth 20000 in
theorem ggX3_countJoined_X3_markHits : GoodIn wsX3_countJoined wsX3_markHits := goodIn_r _ [9, 4, 1, 2, 10, 11, 12, 13, 14, 15, 16, 8, 17, 18, 3, 19, 20, 21, 22, 23, 24, 25, 26, 57, 58, 59, 60, 61, 62, 44, 45, 46, 47, 48, 49, 50, 51, 52, 53, 54, 55, 56] (by decide +kernel) (by decide +kernel)
set_option maxRecDepth 20000 in
theorem gX3_countJoined_X3_markHits : GoodIn wsX3_countJoined (wsV RX3 109 RX3 yX3_markHits wsX3_markHits) := goodIn_app (goodIn_of _ (by decide +kernel)) ggX3_countJoined_X3_markHits
set_option maxRecDepth 20000 in
theorem ggX3_countJoined_X10_leastCommon : GoodIn wsX3_countJoined wsX10_leastCommon := goodIn_r _ [29, 30, 31, 28, 32] (by decide +kernel) (by decide +kernel)
set_option maxRecDepth 20000 in
theorem gX3_countJoined_X10_leastCommon_n129 : GoodIn wsX3_countJoined (wsX10_leastCommon) := ggX3_countJoined_X10_leastCommon
set_option maxRecDepth 20000 in
theorem ggX3_countJoined_X5_isRange : GoodIn wsX3_countJoined wsX5_isRange := goodIn_r _ [37, 38, 39, 40, 41, 36, 42, 43, 44, 45, 46, 47, 48, 49, 50, 51, 52, 53, 54, 55, 56] (by decide +kernel) (by decide +kernel)
set_option maxRecDepth 20000 in
theorem gX3_countJoined_X5_isRange : GoodIn wsX3_countJoined (wsV RX3 117 RX5 yX5_isRange wsX5_isRange) := goodIn_app (goodIn_of _ (by decide +kernel)) ggX3_countJoined_X5_isRange
theorem dX3_countJoined_0 : decode cX3_countJoined 0 = .ok (.aload_n 1, 1) := by decide +kernel
theorem dX3_countJoined_1 : decode cX3_countJoined 1 = .ok (.getfield 27, 3) := by decide +kernel
theorem dX3_countJoined_4 : decode cX3_countJoined 4 = .ok (.ifCond .ne 5, 3) := by decide +kernel
theorem dX3_countJoined_7 : decode cX3_countJoined 7 = .ok (.iconst 0, 1) := by decide +kernel
theorem dX3_countJoined_8 : decode cX3_countJoined 8 = .ok (.ireturn, 1) := by decide +kernel
theorem dX3_countJoined_9 : decode cX3_countJoined 9 = .ok (.aload_n 0, 1) := by decide +kernel
theorem dX3_countJoined_10 : decode cX3_countJoined 10 = .ok (.aload_n 1, 1) := by decide +kernel
theorem dX3_countJoined_11 : decode cX3_countJoined 11 = .ok (.invokevirtual 109, 3) := by decide +kernel
theorem dX3_countJoined_14 : decode cX3_countJoined 14 = .ok (.iconst 1, 1) := by decide +kernel
theorem dX3_countJoined_15 : decode cX3_countJoined 15 = .ok (.istore_n 3, 1) := by decide +kernel
theorem dX3_countJoined_16 : decode cX3_countJoined 16 = .ok (.iconst 0, 1) := by decide +kernel
theorem dX3_countJoined_17 : decode cX3_countJoined 17 = .ok (.istore 4, 2) := by decide +kernel
theorem dX3_countJoined_19 : decode cX3_countJoined 19 = .ok (.iload 4, 2) := by decide +kernel
theorem dX3_countJoined_21 : decode cX3_countJoined 21 = .ok (.aload_n 1, 1) := by decide +kernel
theorem dX3_countJoined_22 : decode cX3_countJoined 22 = .ok (.getfield 27, 3) := by decide +kernel
theorem dX3_countJoined_25 : decode cX3_countJoined 25 = .ok (.if_icmp .ge 21, 3) := by decide +kernel
theorem dX3_countJoined_28 : decode cX3_countJoined 28 = .ok (.iload_n 3, 1) := by decide +kernel
theorem dX3_countJoined_29 : decode cX3_countJoined 29 = .ok (.aload_n 1, 1) := by decide +kernel
theorem dX3_countJoined_30 : decode cX3_countJoined 30 = .ok (.getfield 33, 3) := by decide +kernel
theorem dX3_countJoined_33 : decode cX3_countJoined 33 = .ok (.iload 4, 2) := by decide +kernel
theorem dX3_countJoined_35 : decode cX3_countJoined 35 = .ok (.iaload, 1) := by decide +kernel
theorem dX3_countJoined_36 : decode cX3_countJoined 36 = .ok (.invokestatic 129, 3) := by decide +kernel
theorem dX3_countJoined_39 : decode cX3_countJoined 39 = .ok (.istore_n 3, 1) := by decide +kernel
theorem dX3_countJoined_40 : decode cX3_countJoined 40 = .ok (.iinc 4 1, 3) := by decide +kernel
theorem dX3_countJoined_43 : decode cX3_countJoined 43 = .ok (.goto (-24), 3) := by decide +kernel
theorem dX3_countJoined_46 : decode cX3_countJoined 46 = .ok (.iconst 1, 1) := by decide +kernel
theorem dX3_countJoined_47 : decode cX3_countJoined 47 = .ok (.aload_n 1, 1) := by decide +kernel
theorem dX3_countJoined_48 : decode cX3_countJoined 48 = .ok (.getfield 27, 3) := by decide +kernel
theorem dX3_countJoined_51 : decode cX3_countJoined 51 = .ok (.ishl, 1) := by decide +kernel
theorem dX3_countJoined_52 : decode cX3_countJoined 52 = .ok (.iconst 1, 1) := by decide +kernel
theorem dX3_countJoined_53 : decode cX3_countJoined 53 = .ok (.isub, 1) := by decide +kernel
theorem dX3_countJoined_54 : decode cX3_countJoined 54 = .ok (.istore 4, 2) := by decide +kernel
theorem dX3_countJoined_56 : decode cX3_countJoined 56 = .ok (.iconst 0, 1) := by decide +kernel
theorem dX3_countJoined_57 : decode cX3_countJoined 57 = .ok (.istore 5, 2) := by decide +kernel
theorem dX3_countJoined_59 : decode cX3_countJoined 59 = .ok (.iconst 0, 1) := by decide +kernel
theorem dX3_countJoined_60 : decode cX3_countJoined 60 = .ok (.istore 6, 2) := by decide +kernel
theorem dX3_countJoined_62 : decode cX3_countJoined 62 = .ok (.iload 6, 2) := by decide +kernel
theorem dX3_countJoined_64 : decode cX3_countJoined 64 = .ok (.aload_n 1, 1) := by decide +kernel
theorem dX3_countJoined_65 : decode cX3_countJoined 65 = .ok (.getfield 66, 3) := by decide +kernel
theorem dX3_countJoined_68 : decode cX3_countJoined 68 = .ok (.iconst 3, 1) := by decide +kernel
theorem dX3_countJoined_69 : decode cX3_countJoined 69 = .ok (.iaload, 1) := by decide +kernel
theorem dX3_countJoined_70 : decode cX3_countJoined 70 = .ok (.if_icmp .ge 43, 3) := by decide +kernel
theorem dX3_countJoined_73 : decode cX3_countJoined 73 = .ok (.iload 6, 2) := by decide +kernel
theorem dX3_countJoined_75 : decode cX3_countJoined 75 = .ok (.iload_n 3, 1) := by decide +kernel
theorem dX3_countJoined_76 : decode cX3_countJoined 76 = .ok (.if_icmp .ge 37, 3) := by decide +kernel
theorem dX3_countJoined_79 : decode cX3_countJoined 79 = .ok (.aload_n 0, 1) := by decide +kernel
theorem dX3_countJoined_80 : decode cX3_countJoined 80 = .ok (.getfield 18, 3) := by decide +kernel
theorem dX3_countJoined_83 : decode cX3_countJoined 83 = .ok (.iload 6, 2) := by decide +kernel
theorem dX3_countJoined_85 : decode cX3_countJoined 85 = .ok (.iaload, 1) := by decide +kernel
theorem dX3_countJoined_86 : decode cX3_countJoined 86 = .ok (.iload 4, 2) := by decide +kernel
theorem dX3_countJoined_88 : decode cX3_countJoined 88 = .ok (.if_icmp .ne 19, 3) := by decide +kernel
theorem dX3_countJoined_91 : decode cX3_countJoined 91 = .ok (.iload_n 2, 1) := by decide +kernel
theorem dX3_countJoined_92 : decode cX3_countJoined 92 = .ok (.ifCond .eq 12, 3) := by decide +kernel
theorem dX3_countJoined_95 : decode cX3_countJoined 95 = .ok (.aload_n 1, 1) := by decide +kernel
theorem dX3_countJoined_96 : decode cX3_countJoined 96 = .ok (.iload 6, 2) := by decide +kernel
theorem dX3_countJoined_98 : decode cX3_countJoined 98 = .ok (.invokevirtual 117, 3) := by decide +kernel
theorem dX3_countJoined_101 : decode cX3_countJoined 101 = .ok (.ifCond .ne 6, 3) := by decide +kernel
theorem dX3_countJoined_104 : decode cX3_countJoined 104 = .ok (.iinc 5 1, 3) := by decide +kernel
theorem dX3_countJoined_107 : decode cX3_countJoined 107 = .ok (.iinc 6 1, 3) := by decide +kernel
theorem dX3_countJoined_110 : decode cX3_countJoined 110 = .ok (.goto (-48), 3) := by decide +kernel
theorem dX3_countJoined_113 : decode cX3_countJoined 113 = .ok (.iload 5, 2) := by decide +kernel
theorem dX3_countJoined_115 : decode cX3_countJoined 115 = .ok (.ireturn, 1) := by decide +kernel
set_option maxRecDepth 20000 in
theorem ggX3_countFurtherGhosts_X3_isEcho : GoodIn wsX3_countFurtherGhosts wsX3_isEcho := goodIn_r _ [11, 12, 6, 49, 50, 51, 52, 53, 54, 36, 37, 38, 39, 40, 41, 42, 43, 44, 45, 46, 47, 48] (by decide +kernel) (by decide +kernel)
set_option maxRecDepth 20000 in
theorem gX3_countFurtherGhosts_X3_isEcho : GoodIn wsX3_countFurtherGhosts (wsV RX3 69 RX3 yX3_isEcho wsX3_isEcho) := goodIn_app (goodIn_of _ (by decide +kernel)) ggX3_countFurtherGhosts_X3_isEcho
set_option maxRecDepth 20000 in
theorem ggX3_countFurtherGhosts_X3_isNearGhost : GoodIn wsX3_countFurtherGhosts wsX3_isNearGhost := goodIn_r _ [16, 17, 6, 18, 19, 20, 21, 22, 23, 24, 25, 26, 27, 28, 29, 30, 31, 32, 33, 34, 35, 49, 50, 51, 52, 53, 54, 36, 37, 38, 39, 40, 41, 42, 43, 44, 45, 46, 47, 48] (by decide +kernel) (by decide +kernel)
set_option maxRecDepth 20000 in
theorem gX3_countFurtherGhosts_X3_isNearGhost : GoodIn wsX3_countFurtherGhosts (wsV RX3 132 RX3 yX3_isNearGhost wsX3_isNearGhost) := goodIn_app (goodIn_of _ (by decide +kernel)) ggX3_countFurtherGhosts_X3_isNearGhost
theorem dX3_countFurtherGhosts_0 : decode cX3_countFurtherGhosts 0 = .ok (.aload_n 1, 1) := by decide +kernel
theorem dX3_countFurtherGhosts_1 : decode cX3_countFurtherGhosts 1 = .ok (.getfield 27, 3) := by decide +kernel
theorem dX3_countFurtherGhosts_4 : decode cX3_countFurtherGhosts 4 = .ok (.istore_n 3, 1) := by decide +kernel
theorem dX3_countFurtherGhosts_5 : decode cX3_countFurtherGhosts 5 = .ok (.iload_n 2, 1) := by decide +kernel
theorem dX3_countFurtherGhosts_6 : decode cX3_countFurtherGhosts 6 = .ok (.iconst 4, 1) := by decide +kernel
theorem dX3_countFurtherGhosts_7 : decode cX3_countFurtherGhosts 7 = .ok (.invokestatic 104, 3) := by decide +kernel
theorem dX3_countFurtherGhosts_10 : decode cX3_countFurtherGhosts 10 = .ok (.istore 4, 2) := by decide +kernel
theorem dX3_countFurtherGhosts_12 : decode cX3_countFurtherGhosts 12 = .ok (.iconst 0, 1) := by decide +kernel
theorem dX3_countFurtherGhosts_13 : decode cX3_countFurtherGhosts 13 = .ok (.istore 5, 2) := by decide +kernel
theorem dX3_countFurtherGhosts_15 : decode cX3_countFurtherGhosts 15 = .ok (.iconst 0, 1) := by decide +kernel
theorem dX3_countFurtherGhosts_16 : decode cX3_countFurtherGhosts 16 = .ok (.istore 6, 2) := by decide +kernel
theorem dX3_countFurtherGhosts_18 : decode cX3_countFurtherGhosts 18 = .ok (.iload 6, 2) := by decide +kernel
theorem dX3_countFurtherGhosts_20 : decode cX3_countFurtherGhosts 20 = .ok (.iload_n 2, 1) := by decide +kernel
theorem dX3_countFurtherGhosts_21 : decode cX3_countFurtherGhosts 21 = .ok (.if_icmp .ge 58, 3) := by decide +kernel
theorem dX3_countFurtherGhosts_24 : decode cX3_countFurtherGhosts 24 = .ok (.aload_n 0, 1) := by decide +kernel
theorem dX3_countFurtherGhosts_25 : decode cX3_countFurtherGhosts 25 = .ok (.aload_n 1, 1) := by decide +kernel
theorem dX3_countFurtherGhosts_26 : decode cX3_countFurtherGhosts 26 = .ok (.iload_n 3, 1) := by decide +kernel
theorem dX3_countFurtherGhosts_27 : decode cX3_countFurtherGhosts 27 = .ok (.iload 6, 2) := by decide +kernel
theorem dX3_countFurtherGhosts_29 : decode cX3_countFurtherGhosts 29 = .ok (.invokevirtual 69, 3) := by decide +kernel
theorem dX3_countFurtherGhosts_32 : decode cX3_countFurtherGhosts 32 = .ok (.ifCond .eq 41, 3) := by decide +kernel
theorem dX3_countFurtherGhosts_35 : decode cX3_countFurtherGhosts 35 = .ok (.iload 6, 2) := by decide +kernel
theorem dX3_countFurtherGhosts_37 : decode cX3_countFurtherGhosts 37 = .ok (.istore 7, 2) := by decide +kernel
theorem dX3_countFurtherGhosts_39 : decode cX3_countFurtherGhosts 39 = .ok (.iload 7, 2) := by decide +kernel
theorem dX3_countFurtherGhosts_41 : decode cX3_countFurtherGhosts 41 = .ok (.aload_n 1, 1) := by decide +kernel
theorem dX3_countFurtherGhosts_42 : decode cX3_countFurtherGhosts 42 = .ok (.getfield 66, 3) := by decide +kernel
theorem dX3_countFurtherGhosts_45 : decode cX3_countFurtherGhosts 45 = .ok (.iconst 3, 1) := by decide +kernel
theorem dX3_countFurtherGhosts_46 : decode cX3_countFurtherGhosts 46 = .ok (.iaload, 1) := by decide +kernel
theorem dX3_countFurtherGhosts_47 : decode cX3_countFurtherGhosts 47 = .ok (.if_icmp .ge 26, 3) := by decide +kernel
theorem dX3_countFurtherGhosts_50 : decode cX3_countFurtherGhosts 50 = .ok (.aload_n 0, 1) := by decide +kernel
theorem dX3_countFurtherGhosts_51 : decode cX3_countFurtherGhosts 51 = .ok (.aload_n 1, 1) := by decide +kernel
theorem dX3_countFurtherGhosts_52 : decode cX3_countFurtherGhosts 52 = .ok (.iload 7, 2) := by decide +kernel
theorem dX3_countFurtherGhosts_54 : decode cX3_countFurtherGhosts 54 = .ok (.invokevirtual 132, 3) := by decide +kernel
theorem dX3_countFurtherGhosts_57 : decode cX3_countFurtherGhosts 57 = .ok (.ifCond .eq 6, 3) := by decide +kernel
theorem dX3_countFurtherGhosts_60 : decode cX3_countFurtherGhosts 60 = .ok (.iinc 5 1, 3) := by decide +kernel
theorem dX3_countFurtherGhosts_63 : decode cX3_countFurtherGhosts 63 = .ok (.iload 7, 2) := by decide +kernel
theorem dX3_countFurtherGhosts_65 : decode cX3_countFurtherGhosts 65 = .ok (.iload 4, 2) := by decide +kernel
theorem dX3_countFurtherGhosts_67 : decode cX3_countFurtherGhosts 67 = .ok (.iadd, 1) := by decide +kernel
theorem dX3_countFurtherGhosts_68 : decode cX3_countFurtherGhosts 68 = .ok (.istore 7, 2) := by decide +kernel
theorem dX3_countFurtherGhosts_70 : decode cX3_countFurtherGhosts 70 = .ok (.goto (-31), 3) := by decide +kernel
theorem dX3_countFurtherGhosts_73 : decode cX3_countFurtherGhosts 73 = .ok (.iinc 6 1, 3) := by decide +kernel
theorem dX3_countFurtherGhosts_76 : decode cX3_countFurtherGhosts 76 = .ok (.goto (-58), 3) := by decide +kernel
theorem dX3_countFurtherGhosts_79 : decode cX3_countFurtherGhosts 79 = .ok (.iload 5, 2) := by decide +kernel
theorem dX3_countFurtherGhosts_81 : decode cX3_countFurtherGhosts 81 = .ok (.ireturn, 1) := by decide +kernel
set_option maxRecDepth 20000 in
theorem ggX3_isNearGhost_J6_bitCount_0f7a4 : GoodIn wsX3_isNearGhost wsJ6_bitCount_0f7a4 := goodIn_r _ [6, 7, 8, 9] (by decide +kernel) (by decide +kernel)
set_option maxRecDepth 20000 in
theorem gX3_isNearGhost_J6_bitCount_0f7a4 : GoodIn wsX3_isNearGhost (va_wsS RX3 83 yJ6_bitCount_0f7a4 wsJ6_bitCount_0f7a4) := goodIn_app (goodIn_of _ (by decide +kernel)) ggX3_isNearGhost_J6_bitCount_0f7a4
set_option maxRecDepth 20000 in
theorem ggX3_isNearGhost_X5_isRange : GoodIn wsX3_isNearGhost wsX5_isRange := goodIn_r _ [14, 15, 16, 17, 18, 13, 19, 20, 27, 28, 29, 30, 31, 32, 33, 34, 35, 36, 37, 38, 39] (by decide +kernel) (by decide +kernel)
set_option maxRecDepth 20000 in
theorem gX3_isNearGhost_X5_isRange : GoodIn wsX3_isNearGhost (wsV RX3 117 RX5 yX5_isRange wsX5_isRange) := goodIn_app (goodIn_of _ (by decide +kernel)) ggX3_isNearGhost_X5_isRange
theorem dX3_isNearGhost_0 : decode cX3_isNearGhost 0 = .ok (.aload_n 0, 1) := by decide +kernel
theorem dX3_isNearGhost_1 : decode cX3_isNearGhost 1 = .ok (.getfield 18, 3) := by decide +kernel
theorem dX3_isNearGhost_4 : decode cX3_isNearGhost 4 = .ok (.iload_n 2, 1) := by decide +kernel
theorem dX3_isNearGhost_5 : decode cX3_isNearGhost 5 = .ok (.iaload, 1) := by decide +kernel
theorem dX3_isNearGhost_6 : decode cX3_isNearGhost 6 = .ok (.invokestatic 83, 3) := by decide +kernel
theorem dX3_isNearGhost_9 : decode cX3_isNearGhost 9 = .ok (.iconst 1, 1) := by decide +kernel
theorem dX3_isNearGhost_10 : decode cX3_isNearGhost 10 = .ok (.iadd, 1) := by decide +kernel
theorem dX3_isNearGhost_11 : decode cX3_isNearGhost 11 = .ok (.aload_n 1, 1) := by decide +kernel
theorem dX3_isNearGhost_12 : decode cX3_isNearGhost 12 = .ok (.getfield 66, 3) := by decide +kernel
theorem dX3_isNearGhost_15 : decode cX3_isNearGhost 15 = .ok (.iconst 4, 1) := by decide +kernel
theorem dX3_isNearGhost_16 : decode cX3_isNearGhost 16 = .ok (.iaload, 1) := by decide +kernel
theorem dX3_isNearGhost_17 : decode cX3_isNearGhost 17 = .ok (.if_icmp .ne 15, 3) := by decide +kernel
theorem dX3_isNearGhost_20 : decode cX3_isNearGhost 20 = .ok (.aload_n 1, 1) := by decide +kernel
theorem dX3_isNearGhost_21 : decode cX3_isNearGhost 21 = .ok (.iload_n 2, 1) := by decide +kernel
theorem dX3_isNearGhost_22 : decode cX3_isNearGhost 22 = .ok (.invokevirtual 117, 3) := by decide +kernel
theorem dX3_isNearGhost_25 : decode cX3_isNearGhost 25 = .ok (.ifCond .ne 7, 3) := by decide +kernel
theorem dX3_isNearGhost_28 : decode cX3_isNearGhost 28 = .ok (.iconst 1, 1) := by decide +kernel
theorem dX3_isNearGhost_29 : decode cX3_isNearGhost 29 = .ok (.goto 4, 3) := by decide +kernel
theorem dX3_isNearGhost_32 : decode cX3_isNearGhost 32 = .ok (.iconst 0, 1) := by decide +kernel
theorem dX3_isNearGhost_33 : decode cX3_isNearGhost 33 = .ok (.ireturn, 1) := by decide +kernel
set_option maxRecDepth 20000 in
theorem ggX4_init_X5_init : GoodIn wsX4_init wsX5_init := goodIn_r _ [10, 11, 2, 3, 12, 13, 14, 15, 16, 17, 18, 19, 20, 21, 22, 23, 24, 28, 29, 30, 31, 32, 33, 34, 35, 36, 37, 38, 39, 40] (by decide +kernel) (by decide +kernel)
set_option maxRecDepth 20000 in
theorem gX4_init_X5_init : GoodIn wsX4_init (wsX5_init) := ggX4_init_X5_init
theorem dX4_init_0 : decode cX4_init 0 = .ok (.aload_n 0, 1) := by decide +kernel
theorem dX4_init_1 : decode cX4_init 1 = .ok (.invokespecial 3, 3) := by decide +kernel
theorem dX4_init_4 : decode cX4_init 4 = .ok (.aload_n 0, 1) := by decide +kernel
theorem dX4_init_5 : decode cX4_init 5 = .ok (.bipush 8, 2) := by decide +kernel
theorem dX4_init_7 : decode cX4_init 7 = .ok (.anewarray 9, 3) := by decide +kernel
theorem dX4_init_10 : decode cX4_init 10 = .ok (.putfield 11, 3) := by decide +kernel
theorem dX4_init_13 : decode cX4_init 13 = .ok (.iconst 0, 1) := by decide +kernel
theorem dX4_init_14 : decode cX4_init 14 = .ok (.istore_n 1, 1) := by decide +kernel
theorem dX4_init_15 : decode cX4_init 15 = .ok (.iload_n 1, 1) := by decide +kernel
theorem dX4_init_16 : decode cX4_init 16 = .ok (.bipush 8, 2) := by decide +kernel
theorem dX4_init_18 : decode cX4_init 18 = .ok (.if_icmp .ge 22, 3) := by decide +kernel
theorem dX4_init_21 : decode cX4_init 21 = .ok (.aload_n 0, 1) := by decide +kernel
theorem dX4_init_22 : decode cX4_init 22 = .ok (.getfield 11, 3) := by decide +kernel
theorem dX4_init_25 : decode cX4_init 25 = .ok (.iload_n 1, 1) := by decide +kernel
theorem dX4_init_26 : decode cX4_init 26 = .ok (.new 9, 3) := by decide +kernel
theorem dX4_init_29 : decode cX4_init 29 = .ok (.dup, 1) := by decide +kernel
theorem dX4_init_30 : decode cX4_init 30 = .ok (.invokespecial 17, 3) := by decide +kernel
theorem dX4_init_33 : decode cX4_init 33 = .ok (.aastore, 1) := by decide +kernel
theorem dX4_init_34 : decode cX4_init 34 = .ok (.iinc 1 1, 3) := by decide +kernel
theorem dX4_init_37 : decode cX4_init 37 = .ok (.goto (-22), 3) := by decide +kernel
theorem dX4_init_40 : decode cX4_init 40 = .ok (.return_, 1) := by decide +kernel
set_option maxRecDepth 20000 in
theorem ggX4_save_X5_copyFrom : GoodIn wsX4_save wsX5_copyFrom := goodIn_r _ [8, 9, 10, 11, 12, 13, 14, 15, 16, 17, 18, 19, 20, 21, 22, 23, 24, 25, 29, 30, 31, 32, 33, 34, 35, 36, 37, 38, 39, 40, 41] (by decide +kernel) (by decide +kernel)
set_option maxRecDepth 20000 in
theorem gX4_save_X5_copyFrom : GoodIn wsX4_save (wsV RX4 25 RX5 yX5_copyFrom wsX5_copyFrom) := goodIn_app (goodIn_of _ (by decide +kernel)) ggX4_save_X5_copyFrom
theorem dX4_save_0 : decode cX4_save 0 = .ok (.aload_n 0, 1) := by decide +kernel
theorem dX4_save_1 : decode cX4_save 1 = .ok (.getfield 18, 3) := by decide +kernel
theorem dX4_save_4 : decode cX4_save 4 = .ok (.bipush 8, 2) := by decide +kernel
theorem dX4_save_6 : decode cX4_save 6 = .ok (.if_icmp .ne 26, 3) := by decide +kernel
theorem dX4_save_9 : decode cX4_save 9 = .ok (.aload_n 0, 1) := by decide +kernel
theorem dX4_save_10 : decode cX4_save 10 = .ok (.aload_n 0, 1) := by decide +kernel
theorem dX4_save_11 : decode cX4_save 11 = .ok (.getfield 22, 3) := by decide +kernel
theorem dX4_save_14 : decode cX4_save 14 = .ok (.iconst 1, 1) := by decide +kernel
theorem dX4_save_15 : decode cX4_save 15 = .ok (.iadd, 1) := by decide +kernel
theorem dX4_save_16 : decode cX4_save 16 = .ok (.bipush 8, 2) := by decide +kernel
theorem dX4_save_18 : decode cX4_save 18 = .ok (.irem, 1) := by decide +kernel
theorem dX4_save_19 : decode cX4_save 19 = .ok (.putfield 22, 3) := by decide +kernel
theorem dX4_save_22 : decode cX4_save 22 = .ok (.aload_n 0, 1) := by decide +kernel
theorem dX4_save_23 : decode cX4_save 23 = .ok (.dup, 1) := by decide +kernel
theorem dX4_save_24 : decode cX4_save 24 = .ok (.getfield 18, 3) := by decide +kernel
theorem dX4_save_27 : decode cX4_save 27 = .ok (.iconst 1, 1) := by decide +kernel
theorem dX4_save_28 : decode cX4_save 28 = .ok (.isub, 1) := by decide +kernel
theorem dX4_save_29 : decode cX4_save 29 = .ok (.putfield 18, 3) := by decide +kernel
theorem dX4_save_32 : decode cX4_save 32 = .ok (.aload_n 0, 1) := by decide +kernel
theorem dX4_save_33 : decode cX4_save 33 = .ok (.getfield 11, 3) := by decide +kernel
theorem dX4_save_36 : decode cX4_save 36 = .ok (.aload_n 0, 1) := by decide +kernel
theorem dX4_save_37 : decode cX4_save 37 = .ok (.getfield 22, 3) := by decide +kernel
theorem dX4_save_40 : decode cX4_save 40 = .ok (.aload_n 0, 1) := by decide +kernel
theorem dX4_save_41 : decode cX4_save 41 = .ok (.getfield 18, 3) := by decide +kernel
theorem dX4_save_44 : decode cX4_save 44 = .ok (.iadd, 1) := by decide +kernel
theorem dX4_save_45 : decode cX4_save 45 = .ok (.bipush 8, 2) := by decide +kernel
theorem dX4_save_47 : decode cX4_save 47 = .ok (.irem, 1) := by decide +kernel
theorem dX4_save_48 : decode cX4_save 48 = .ok (.aaload, 1) := by decide +kernel
theorem dX4_save_49 : decode cX4_save 49 = .ok (.aload_n 1, 1) := by decide +kernel
theorem dX4_save_50 : decode cX4_save 50 = .ok (.invokevirtual 25, 3) := by decide +kernel
theorem dX4_save_53 : decode cX4_save 53 = .ok (.aload_n 0, 1) := by decide +kernel
theorem dX4_save_54 : decode cX4_save 54 = .ok (.dup, 1) := by decide +kernel
theorem dX4_save_55 : decode cX4_save 55 = .ok (.getfield 18, 3) := by decide +kernel
theorem dX4_save_58 : decode cX4_save 58 = .ok (.iconst 1, 1) := by decide +kernel
theorem dX4_save_59 : decode cX4_save 59 = .ok (.iadd, 1) := by decide +kernel
theorem dX4_save_60 : decode cX4_save 60 = .ok (.putfield 18, 3) := by decide +kernel
theorem dX4_save_63 : decode cX4_save 63 = .ok (.return_, 1) := by decide +kernel
set_option maxRecDepth 20000 in
theorem ggX4_restore_X5_copyFrom : GoodIn wsX4_restore wsX5_copyFrom := goodIn_r _ [8, 9, 10, 11, 12, 13, 14, 15, 16, 17, 18, 19, 20, 21, 22, 23, 24, 25, 29, 30, 31, 32, 33, 34, 35, 36, 37, 38, 39, 40, 41] (by decide +kernel) (by decide +kernel)
set_option maxRecDepth 20000 in
theorem gX4_restore_X5_copyFrom : GoodIn wsX4_restore (wsV RX4 25 RX5 yX5_copyFrom wsX5_copyFrom) := goodIn_app (goodIn_of _ (by decide +kernel)) ggX4_restore_X5_copyFrom
theorem dX4_restore_0 : decode cX4_restore 0 = .ok (.aload_n 0, 1) := by decide +kernel
theorem dX4_restore_1 : decode cX4_restore 1 = .ok (.getfield 18, 3) := by decide +kernel
theorem dX4_restore_4 : decode cX4_restore 4 = .ok (.ifCond .le 34, 3) := by decide +kernel
theorem dX4_restore_7 : decode cX4_restore 7 = .ok (.aload_n 0, 1) := by decide +kernel
theorem dX4_restore_8 : decode cX4_restore 8 = .ok (.dup, 1) := by decide +kernel
theorem dX4_restore_9 : decode cX4_restore 9 = .ok (.getfield 18, 3) := by decide +kernel
theorem dX4_restore_12 : decode cX4_restore 12 = .ok (.iconst 1, 1) := by decide +kernel
theorem dX4_restore_13 : decode cX4_restore 13 = .ok (.isub, 1) := by decide +kernel
theorem dX4_restore_14 : decode cX4_restore 14 = .ok (.putfield 18, 3) := by decide +kernel
theorem dX4_restore_17 : decode cX4_restore 17 = .ok (.aload_n 1, 1) := by decide +kernel
theorem dX4_restore_18 : decode cX4_restore 18 = .ok (.aload_n 0, 1) := by decide +kernel
theorem dX4_restore_19 : decode cX4_restore 19 = .ok (.getfield 11, 3) := by decide +kernel
theorem dX4_restore_22 : decode cX4_restore 22 = .ok (.aload_n 0, 1) := by decide +kernel
theorem dX4_restore_23 : decode cX4_restore 23 = .ok (.getfield 22, 3) := by decide +kernel
theorem dX4_restore_26 : decode cX4_restore 26 = .ok (.aload_n 0, 1) := by decide +kernel
theorem dX4_restore_27 : decode cX4_restore 27 = .ok (.getfield 18, 3) := by decide +kernel
theorem dX4_restore_30 : decode cX4_restore 30 = .ok (.iadd, 1) := by decide +kernel
theorem dX4_restore_31 : decode cX4_restore 31 = .ok (.bipush 8, 2) := by decide +kernel
theorem dX4_restore_33 : decode cX4_restore 33 = .ok (.irem, 1) := by decide +kernel
theorem dX4_restore_34 : decode cX4_restore 34 = .ok (.aaload, 1) := by decide +kernel
theorem dX4_restore_35 : decode cX4_restore 35 = .ok (.invokevirtual 25, 3) := by decide +kernel
theorem dX4_restore_38 : decode cX4_restore 38 = .ok (.return_, 1) := by decide +kernel
theorem dX4_forget_0 : decode cX4_forget 0 = .ok (.aload_n 0, 1) := by decide +kernel
theorem dX4_forget_1 : decode cX4_forget 1 = .ok (.iconst 0, 1) := by decide +kernel
theorem dX4_forget_2 : decode cX4_forget 2 = .ok (.putfield 18, 3) := by decide +kernel
theorem dX4_forget_5 : decode cX4_forget 5 = .ok (.return_, 1) := by decide +kernel
theorem dX5_init_0 : decode cX5_init 0 = .ok (.aload_n 0, 1) := by decide +kernel
theorem dX5_init_1 : decode cX5_init 1 = .ok (.invokespecial 3, 3) := by decide +kernel
theorem dX5_init_4 : decode cX5_init 4 = .ok (.aload_n 0, 1) := by decide +kernel
theorem dX5_init_5 : decode cX5_init 5 = .ok (.iconst 5, 1) := by decide +kernel
theorem dX5_init_6 : decode cX5_init 6 = .ok (.newarray .int, 2) := by decide +kernel
theorem dX5_init_8 : decode cX5_init 8 = .ok (.putfield 9, 3) := by decide +kernel
theorem dX5_init_11 : decode cX5_init 11 = .ok (.aload_n 0, 1) := by decide +kernel
theorem dX5_init_12 : decode cX5_init 12 = .ok (.bipush 7, 2) := by decide +kernel
theorem dX5_init_14 : decode cX5_init 14 = .ok (.newarray .int, 2) := by decide +kernel
theorem dX5_init_16 : decode cX5_init 16 = .ok (.putfield 15, 3) := by decide +kernel
theorem dX5_init_19 : decode cX5_init 19 = .ok (.aload_n 0, 1) := by decide +kernel
theorem dX5_init_20 : decode cX5_init 20 = .ok (.bipush 8, 2) := by decide +kernel
theorem dX5_init_22 : decode cX5_init 22 = .ok (.newarray .int, 2) := by decide +kernel
theorem dX5_init_24 : decode cX5_init 24 = .ok (.putfield 18, 3) := by decide +kernel
theorem dX5_init_27 : decode cX5_init 27 = .ok (.aload_n 0, 1) := by decide +kernel
theorem dX5_init_28 : decode cX5_init 28 = .ok (.bipush 8, 2) := by decide +kernel
theorem dX5_init_30 : decode cX5_init 30 = .ok (.newarray .int, 2) := by decide +kernel
theorem dX5_init_32 : decode cX5_init 32 = .ok (.putfield 21, 3) := by decide +kernel
theorem dX5_init_35 : decode cX5_init 35 = .ok (.aload_n 0, 1) := by decide +kernel
theorem dX5_init_36 : decode cX5_init 36 = .ok (.bipush 8, 2) := by decide +kernel
theorem dX5_init_38 : decode cX5_init 38 = .ok (.newarray .int, 2) := by decide +kernel
theorem dX5_init_40 : decode cX5_init 40 = .ok (.putfield 24, 3) := by decide +kernel
theorem dX5_init_43 : decode cX5_init 43 = .ok (.aload_n 0, 1) := by decide +kernel
theorem dX5_init_44 : decode cX5_init 44 = .ok (.iconst 4, 1) := by decide +kernel
theorem dX5_init_45 : decode cX5_init 45 = .ok (.newarray .int, 2) := by decide +kernel
theorem dX5_init_47 : decode cX5_init 47 = .ok (.putfield 27, 3) := by decide +kernel
theorem dX5_init_50 : decode cX5_init 50 = .ok (.aload_n 0, 1) := by decide +kernel
theorem dX5_init_51 : decode cX5_init 51 = .ok (.iconst 4, 1) := by decide +kernel
theorem dX5_init_52 : decode cX5_init 52 = .ok (.newarray .int, 2) := by decide +kernel
theorem dX5_init_54 : decode cX5_init 54 = .ok (.putfield 30, 3) := by decide +kernel
theorem dX5_init_57 : decode cX5_init 57 = .ok (.aload_n 0, 1) := by decide +kernel
theorem dX5_init_58 : decode cX5_init 58 = .ok (.bipush 48, 2) := by decide +kernel
theorem dX5_init_60 : decode cX5_init 60 = .ok (.newarray .int, 2) := by decide +kernel
theorem dX5_init_62 : decode cX5_init 62 = .ok (.putfield 33, 3) := by decide +kernel
theorem dX5_init_65 : decode cX5_init 65 = .ok (.getstatic 36, 3) := by decide +kernel
theorem dX5_init_68 : decode cX5_init 68 = .ok (.iconst 0, 1) := by decide +kernel
theorem dX5_init_69 : decode cX5_init 69 = .ok (.aload_n 0, 1) := by decide +kernel
theorem dX5_init_70 : decode cX5_init 70 = .ok (.getfield 15, 3) := by decide +kernel
theorem dX5_init_73 : decode cX5_init 73 = .ok (.iconst 0, 1) := by decide +kernel
theorem dX5_init_74 : decode cX5_init 74 = .ok (.bipush 7, 2) := by decide +kernel
theorem dX5_init_76 : decode cX5_init 76 = .ok (.invokestatic 39, 3) := by decide +kernel
theorem dX5_init_79 : decode cX5_init 79 = .ok (.return_, 1) := by decide +kernel
theorem dX5_begin_0 : decode cX5_begin 0 = .ok (.getstatic 36, 3) := by decide +kernel
theorem dX5_begin_3 : decode cX5_begin 3 = .ok (.iconst 0, 1) := by decide +kernel
theorem dX5_begin_4 : decode cX5_begin 4 = .ok (.aload_n 0, 1) := by decide +kernel
theorem dX5_begin_5 : decode cX5_begin 5 = .ok (.getfield 15, 3) := by decide +kernel
theorem dX5_begin_8 : decode cX5_begin 8 = .ok (.iconst 0, 1) := by decide +kernel
theorem dX5_begin_9 : decode cX5_begin 9 = .ok (.bipush 7, 2) := by decide +kernel
theorem dX5_begin_11 : decode cX5_begin 11 = .ok (.invokestatic 39, 3) := by decide +kernel
theorem dX5_begin_14 : decode cX5_begin 14 = .ok (.aload_n 0, 1) := by decide +kernel
theorem dX5_begin_15 : decode cX5_begin 15 = .ok (.iconst 0, 1) := by decide +kernel
theorem dX5_begin_16 : decode cX5_begin 16 = .ok (.putfield 45, 3) := by decide +kernel
theorem dX5_begin_19 : decode cX5_begin 19 = .ok (.aload_n 0, 1) := by decide +kernel
theorem dX5_begin_20 : decode cX5_begin 20 = .ok (.iconst 0, 1) := by decide +kernel
theorem dX5_begin_21 : decode cX5_begin 21 = .ok (.putfield 49, 3) := by decide +kernel
theorem dX5_begin_24 : decode cX5_begin 24 = .ok (.aload_n 0, 1) := by decide +kernel
theorem dX5_begin_25 : decode cX5_begin 25 = .ok (.iconst 0, 1) := by decide +kernel
theorem dX5_begin_26 : decode cX5_begin 26 = .ok (.putfield 52, 3) := by decide +kernel
theorem dX5_begin_29 : decode cX5_begin 29 = .ok (.aload_n 0, 1) := by decide +kernel
theorem dX5_begin_30 : decode cX5_begin 30 = .ok (.iconst 0, 1) := by decide +kernel
theorem dX5_begin_31 : decode cX5_begin 31 = .ok (.putfield 55, 3) := by decide +kernel
theorem dX5_begin_34 : decode cX5_begin 34 = .ok (.aload_n 0, 1) := by decide +kernel
theorem dX5_begin_35 : decode cX5_begin 35 = .ok (.iconst 0, 1) := by decide +kernel
theorem dX5_begin_36 : decode cX5_begin 36 = .ok (.putfield 58, 3) := by decide +kernel
theorem dX5_begin_39 : decode cX5_begin 39 = .ok (.return_, 1) := by decide +kernel
theorem dX5_copyFrom_0 : decode cX5_copyFrom 0 = .ok (.aload_n 1, 1) := by decide +kernel
theorem dX5_copyFrom_1 : decode cX5_copyFrom 1 = .ok (.getfield 9, 3) := by decide +kernel
theorem dX5_copyFrom_4 : decode cX5_copyFrom 4 = .ok (.iconst 0, 1) := by decide +kernel
theorem dX5_copyFrom_5 : decode cX5_copyFrom 5 = .ok (.aload_n 0, 1) := by decide +kernel
theorem dX5_copyFrom_6 : decode cX5_copyFrom 6 = .ok (.getfield 9, 3) := by decide +kernel
theorem dX5_copyFrom_9 : decode cX5_copyFrom 9 = .ok (.iconst 0, 1) := by decide +kernel
theorem dX5_copyFrom_10 : decode cX5_copyFrom 10 = .ok (.iconst 5, 1) := by decide +kernel
theorem dX5_copyFrom_11 : decode cX5_copyFrom 11 = .ok (.invokestatic 39, 3) := by decide +kernel
theorem dX5_copyFrom_14 : decode cX5_copyFrom 14 = .ok (.aload_n 1, 1) := by decide +kernel
theorem dX5_copyFrom_15 : decode cX5_copyFrom 15 = .ok (.getfield 15, 3) := by decide +kernel
theorem dX5_copyFrom_18 : decode cX5_copyFrom 18 = .ok (.iconst 0, 1) := by decide +kernel
theorem dX5_copyFrom_19 : decode cX5_copyFrom 19 = .ok (.aload_n 0, 1) := by decide +kernel
theorem dX5_copyFrom_20 : decode cX5_copyFrom 20 = .ok (.getfield 15, 3) := by decide +kernel
theorem dX5_copyFrom_23 : decode cX5_copyFrom 23 = .ok (.iconst 0, 1) := by decide +kernel
theorem dX5_copyFrom_24 : decode cX5_copyFrom 24 = .ok (.bipush 7, 2) := by decide +kernel
theorem dX5_copyFrom_26 : decode cX5_copyFrom 26 = .ok (.invokestatic 39, 3) := by decide +kernel
theorem dX5_copyFrom_29 : decode cX5_copyFrom 29 = .ok (.aload_n 1, 1) := by decide +kernel
theorem dX5_copyFrom_30 : decode cX5_copyFrom 30 = .ok (.getfield 18, 3) := by decide +kernel
theorem dX5_copyFrom_33 : decode cX5_copyFrom 33 = .ok (.iconst 0, 1) := by decide +kernel
theorem dX5_copyFrom_34 : decode cX5_copyFrom 34 = .ok (.aload_n 0, 1) := by decide +kernel
theorem dX5_copyFrom_35 : decode cX5_copyFrom 35 = .ok (.getfield 18, 3) := by decide +kernel
theorem dX5_copyFrom_38 : decode cX5_copyFrom 38 = .ok (.iconst 0, 1) := by decide +kernel
theorem dX5_copyFrom_39 : decode cX5_copyFrom 39 = .ok (.bipush 8, 2) := by decide +kernel
theorem dX5_copyFrom_41 : decode cX5_copyFrom 41 = .ok (.invokestatic 39, 3) := by decide +kernel
theorem dX5_copyFrom_44 : decode cX5_copyFrom 44 = .ok (.aload_n 1, 1) := by decide +kernel
theorem dX5_copyFrom_45 : decode cX5_copyFrom 45 = .ok (.getfield 21, 3) := by decide +kernel
theorem dX5_copyFrom_48 : decode cX5_copyFrom 48 = .ok (.iconst 0, 1) := by decide +kernel
theorem dX5_copyFrom_49 : decode cX5_copyFrom 49 = .ok (.aload_n 0, 1) := by decide +kernel
theorem dX5_copyFrom_50 : decode cX5_copyFrom 50 = .ok (.getfield 21, 3) := by decide +kernel
theorem dX5_copyFrom_53 : decode cX5_copyFrom 53 = .ok (.iconst 0, 1) := by decide +kernel
theorem dX5_copyFrom_54 : decode cX5_copyFrom 54 = .ok (.bipush 8, 2) := by decide +kernel
theorem dX5_copyFrom_56 : decode cX5_copyFrom 56 = .ok (.invokestatic 39, 3) := by decide +kernel
theorem dX5_copyFrom_59 : decode cX5_copyFrom 59 = .ok (.aload_n 1, 1) := by decide +kernel
theorem dX5_copyFrom_60 : decode cX5_copyFrom 60 = .ok (.getfield 24, 3) := by decide +kernel
theorem dX5_copyFrom_63 : decode cX5_copyFrom 63 = .ok (.iconst 0, 1) := by decide +kernel
theorem dX5_copyFrom_64 : decode cX5_copyFrom 64 = .ok (.aload_n 0, 1) := by decide +kernel
theorem dX5_copyFrom_65 : decode cX5_copyFrom 65 = .ok (.getfield 24, 3) := by decide +kernel
theorem dX5_copyFrom_68 : decode cX5_copyFrom 68 = .ok (.iconst 0, 1) := by decide +kernel
theorem dX5_copyFrom_69 : decode cX5_copyFrom 69 = .ok (.bipush 8, 2) := by decide +kernel
theorem dX5_copyFrom_71 : decode cX5_copyFrom 71 = .ok (.invokestatic 39, 3) := by decide +kernel
theorem dX5_copyFrom_74 : decode cX5_copyFrom 74 = .ok (.aload_n 1, 1) := by decide +kernel
theorem dX5_copyFrom_75 : decode cX5_copyFrom 75 = .ok (.getfield 27, 3) := by decide +kernel
theorem dX5_copyFrom_78 : decode cX5_copyFrom 78 = .ok (.iconst 0, 1) := by decide +kernel
theorem dX5_copyFrom_79 : decode cX5_copyFrom 79 = .ok (.aload_n 0, 1) := by decide +kernel
theorem dX5_copyFrom_80 : decode cX5_copyFrom 80 = .ok (.getfield 27, 3) := by decide +kernel
theorem dX5_copyFrom_83 : decode cX5_copyFrom 83 = .ok (.iconst 0, 1) := by decide +kernel
theorem dX5_copyFrom_84 : decode cX5_copyFrom 84 = .ok (.iconst 4, 1) := by decide +kernel
theorem dX5_copyFrom_85 : decode cX5_copyFrom 85 = .ok (.invokestatic 39, 3) := by decide +kernel
theorem dX5_copyFrom_88 : decode cX5_copyFrom 88 = .ok (.aload_n 1, 1) := by decide +kernel
theorem dX5_copyFrom_89 : decode cX5_copyFrom 89 = .ok (.getfield 30, 3) := by decide +kernel
theorem dX5_copyFrom_92 : decode cX5_copyFrom 92 = .ok (.iconst 0, 1) := by decide +kernel
theorem dX5_copyFrom_93 : decode cX5_copyFrom 93 = .ok (.aload_n 0, 1) := by decide +kernel
theorem dX5_copyFrom_94 : decode cX5_copyFrom 94 = .ok (.getfield 30, 3) := by decide +kernel
theorem dX5_copyFrom_97 : decode cX5_copyFrom 97 = .ok (.iconst 0, 1) := by decide +kernel
theorem dX5_copyFrom_98 : decode cX5_copyFrom 98 = .ok (.iconst 4, 1) := by decide +kernel
theorem dX5_copyFrom_99 : decode cX5_copyFrom 99 = .ok (.invokestatic 39, 3) := by decide +kernel
theorem dX5_copyFrom_102 : decode cX5_copyFrom 102 = .ok (.aload_n 1, 1) := by decide +kernel
theorem dX5_copyFrom_103 : decode cX5_copyFrom 103 = .ok (.getfield 33, 3) := by decide +kernel
theorem dX5_copyFrom_106 : decode cX5_copyFrom 106 = .ok (.iconst 0, 1) := by decide +kernel
theorem dX5_copyFrom_107 : decode cX5_copyFrom 107 = .ok (.aload_n 0, 1) := by decide +kernel
theorem dX5_copyFrom_108 : decode cX5_copyFrom 108 = .ok (.getfield 33, 3) := by decide +kernel
theorem dX5_copyFrom_111 : decode cX5_copyFrom 111 = .ok (.iconst 0, 1) := by decide +kernel
theorem dX5_copyFrom_112 : decode cX5_copyFrom 112 = .ok (.bipush 48, 2) := by decide +kernel
theorem dX5_copyFrom_114 : decode cX5_copyFrom 114 = .ok (.invokestatic 39, 3) := by decide +kernel
theorem dX5_copyFrom_117 : decode cX5_copyFrom 117 = .ok (.aload_n 0, 1) := by decide +kernel
theorem dX5_copyFrom_118 : decode cX5_copyFrom 118 = .ok (.aload_n 1, 1) := by decide +kernel
theorem dX5_copyFrom_119 : decode cX5_copyFrom 119 = .ok (.getfield 45, 3) := by decide +kernel
theorem dX5_copyFrom_122 : decode cX5_copyFrom 122 = .ok (.putfield 45, 3) := by decide +kernel
theorem dX5_copyFrom_125 : decode cX5_copyFrom 125 = .ok (.aload_n 0, 1) := by decide +kernel
theorem dX5_copyFrom_126 : decode cX5_copyFrom 126 = .ok (.aload_n 1, 1) := by decide +kernel
theorem dX5_copyFrom_127 : decode cX5_copyFrom 127 = .ok (.getfield 49, 3) := by decide +kernel
theorem dX5_copyFrom_130 : decode cX5_copyFrom 130 = .ok (.putfield 49, 3) := by decide +kernel
theorem dX5_copyFrom_133 : decode cX5_copyFrom 133 = .ok (.aload_n 0, 1) := by decide +kernel
theorem dX5_copyFrom_134 : decode cX5_copyFrom 134 = .ok (.aload_n 1, 1) := by decide +kernel
theorem dX5_copyFrom_135 : decode cX5_copyFrom 135 = .ok (.getfield 52, 3) := by decide +kernel
theorem dX5_copyFrom_138 : decode cX5_copyFrom 138 = .ok (.putfield 52, 3) := by decide +kernel
theorem dX5_copyFrom_141 : decode cX5_copyFrom 141 = .ok (.aload_n 0, 1) := by decide +kernel
theorem dX5_copyFrom_142 : decode cX5_copyFrom 142 = .ok (.aload_n 1, 1) := by decide +kernel
theorem dX5_copyFrom_143 : decode cX5_copyFrom 143 = .ok (.getfield 55, 3) := by decide +kernel
theorem dX5_copyFrom_146 : decode cX5_copyFrom 146 = .ok (.putfield 55, 3) := by decide +kernel
theorem dX5_copyFrom_149 : decode cX5_copyFrom 149 = .ok (.aload_n 0, 1) := by decide +kernel
theorem dX5_copyFrom_150 : decode cX5_copyFrom 150 = .ok (.aload_n 1, 1) := by decide +kernel
theorem dX5_copyFrom_151 : decode cX5_copyFrom 151 = .ok (.getfield 58, 3) := by decide +kernel
theorem dX5_copyFrom_154 : decode cX5_copyFrom 154 = .ok (.putfield 58, 3) := by decide +kernel
theorem dX5_copyFrom_157 : decode cX5_copyFrom 157 = .ok (.return_, 1) := by decide +kernel
theorem dX5_hasGap_0 : decode cX5_hasGap 0 = .ok (.iload_n 1, 1) := by decide +kernel
theorem dX5_hasGap_1 : decode cX5_hasGap 1 = .ok (.ifCond .lt 15, 3) := by decide +kernel
theorem dX5_hasGap_4 : decode cX5_hasGap 4 = .ok (.iload_n 1, 1) := by decide +kernel
theorem dX5_hasGap_5 : decode cX5_hasGap 5 = .ok (.aload_n 0, 1) := by decide +kernel
theorem dX5_hasGap_6 : decode cX5_hasGap 6 = .ok (.getfield 45, 3) := by decide +kernel
theorem dX5_hasGap_9 : decode cX5_hasGap 9 = .ok (.if_icmp .ge 7, 3) := by decide +kernel
theorem dX5_hasGap_12 : decode cX5_hasGap 12 = .ok (.iconst 1, 1) := by decide +kernel
theorem dX5_hasGap_13 : decode cX5_hasGap 13 = .ok (.goto 4, 3) := by decide +kernel
theorem dX5_hasGap_16 : decode cX5_hasGap 16 = .ok (.iconst 0, 1) := by decide +kernel
theorem dX5_hasGap_17 : decode cX5_hasGap 17 = .ok (.ireturn, 1) := by decide +kernel
theorem dX5_hasTarget_0 : decode cX5_hasTarget 0 = .ok (.iload_n 1, 1) := by decide +kernel
theorem dX5_hasTarget_1 : decode cX5_hasTarget 1 = .ok (.ifCond .lt 15, 3) := by decide +kernel
theorem dX5_hasTarget_4 : decode cX5_hasTarget 4 = .ok (.iload_n 1, 1) := by decide +kernel
theorem dX5_hasTarget_5 : decode cX5_hasTarget 5 = .ok (.aload_n 0, 1) := by decide +kernel
theorem dX5_hasTarget_6 : decode cX5_hasTarget 6 = .ok (.getfield 49, 3) := by decide +kernel
theorem dX5_hasTarget_9 : decode cX5_hasTarget 9 = .ok (.if_icmp .ge 7, 3) := by decide +kernel
theorem dX5_hasTarget_12 : decode cX5_hasTarget 12 = .ok (.iconst 1, 1) := by decide +kernel
theorem dX5_hasTarget_13 : decode cX5_hasTarget 13 = .ok (.goto 4, 3) := by decide +kernel
theorem dX5_hasTarget_16 : decode cX5_hasTarget 16 = .ok (.iconst 0, 1) := by decide +kernel
theorem dX5_hasTarget_17 : decode cX5_hasTarget 17 = .ok (.ireturn, 1) := by decide +kernel
theorem dX5_indexOfGap_0 : decode cX5_indexOfGap 0 = .ok (.iconst 0, 1) := by decide +kernel
theorem dX5_indexOfGap_1 : decode cX5_indexOfGap 1 = .ok (.istore_n 2, 1) := by decide +kernel
theorem dX5_indexOfGap_2 : decode cX5_indexOfGap 2 = .ok (.iload_n 2, 1) := by decide +kernel
theorem dX5_indexOfGap_3 : decode cX5_indexOfGap 3 = .ok (.aload_n 0, 1) := by decide +kernel
theorem dX5_indexOfGap_4 : decode cX5_indexOfGap 4 = .ok (.getfield 45, 3) := by decide +kernel
theorem dX5_indexOfGap_7 : decode cX5_indexOfGap 7 = .ok (.if_icmp .ge 21, 3) := by decide +kernel
theorem dX5_indexOfGap_10 : decode cX5_indexOfGap 10 = .ok (.aload_n 0, 1) := by decide +kernel
theorem dX5_indexOfGap_11 : decode cX5_indexOfGap 11 = .ok (.getfield 9, 3) := by decide +kernel
theorem dX5_indexOfGap_14 : decode cX5_indexOfGap 14 = .ok (.iload_n 2, 1) := by decide +kernel
theorem dX5_indexOfGap_15 : decode cX5_indexOfGap 15 = .ok (.iaload, 1) := by decide +kernel
theorem dX5_indexOfGap_16 : decode cX5_indexOfGap 16 = .ok (.iload_n 1, 1) := by decide +kernel
theorem dX5_indexOfGap_17 : decode cX5_indexOfGap 17 = .ok (.if_icmp .ne 5, 3) := by decide +kernel
theorem dX5_indexOfGap_20 : decode cX5_indexOfGap 20 = .ok (.iload_n 2, 1) := by decide +kernel
theorem dX5_indexOfGap_21 : decode cX5_indexOfGap 21 = .ok (.ireturn, 1) := by decide +kernel
theorem dX5_indexOfGap_22 : decode cX5_indexOfGap 22 = .ok (.iinc 2 1, 3) := by decide +kernel
theorem dX5_indexOfGap_25 : decode cX5_indexOfGap 25 = .ok (.goto (-23), 3) := by decide +kernel
theorem dX5_indexOfGap_28 : decode cX5_indexOfGap 28 = .ok (.iconst (-1), 1) := by decide +kernel
theorem dX5_indexOfGap_29 : decode cX5_indexOfGap 29 = .ok (.ireturn, 1) := by decide +kernel
theorem dX5_addGap_0 : decode cX5_addGap 0 = .ok (.aload_n 0, 1) := by decide +kernel
theorem dX5_addGap_1 : decode cX5_addGap 1 = .ok (.getfield 45, 3) := by decide +kernel
theorem dX5_addGap_4 : decode cX5_addGap 4 = .ok (.iconst 5, 1) := by decide +kernel
theorem dX5_addGap_5 : decode cX5_addGap 5 = .ok (.if_icmp .lt 4, 3) := by decide +kernel
theorem dX5_addGap_8 : decode cX5_addGap 8 = .ok (.return_, 1) := by decide +kernel
theorem dX5_addGap_9 : decode cX5_addGap 9 = .ok (.aload_n 0, 1) := by decide +kernel
theorem dX5_addGap_10 : decode cX5_addGap 10 = .ok (.getfield 45, 3) := by decide +kernel
theorem dX5_addGap_13 : decode cX5_addGap 13 = .ok (.istore_n 2, 1) := by decide +kernel
theorem dX5_addGap_14 : decode cX5_addGap 14 = .ok (.iload_n 2, 1) := by decide +kernel
theorem dX5_addGap_15 : decode cX5_addGap 15 = .ok (.ifCond .le 35, 3) := by decide +kernel
theorem dX5_addGap_18 : decode cX5_addGap 18 = .ok (.aload_n 0, 1) := by decide +kernel
theorem dX5_addGap_19 : decode cX5_addGap 19 = .ok (.getfield 9, 3) := by decide +kernel
theorem dX5_addGap_22 : decode cX5_addGap 22 = .ok (.iload_n 2, 1) := by decide +kernel
theorem dX5_addGap_23 : decode cX5_addGap 23 = .ok (.iconst 1, 1) := by decide +kernel
theorem dX5_addGap_24 : decode cX5_addGap 24 = .ok (.isub, 1) := by decide +kernel
theorem dX5_addGap_25 : decode cX5_addGap 25 = .ok (.iaload, 1) := by decide +kernel
theorem dX5_addGap_26 : decode cX5_addGap 26 = .ok (.iload_n 1, 1) := by decide +kernel
theorem dX5_addGap_27 : decode cX5_addGap 27 = .ok (.if_icmp .le 23, 3) := by decide +kernel
theorem dX5_addGap_30 : decode cX5_addGap 30 = .ok (.aload_n 0, 1) := by decide +kernel
theorem dX5_addGap_31 : decode cX5_addGap 31 = .ok (.getfield 9, 3) := by decide +kernel
theorem dX5_addGap_34 : decode cX5_addGap 34 = .ok (.iload_n 2, 1) := by decide +kernel
theorem dX5_addGap_35 : decode cX5_addGap 35 = .ok (.aload_n 0, 1) := by decide +kernel
theorem dX5_addGap_36 : decode cX5_addGap 36 = .ok (.getfield 9, 3) := by decide +kernel
theorem dX5_addGap_39 : decode cX5_addGap 39 = .ok (.iload_n 2, 1) := by decide +kernel
theorem dX5_addGap_40 : decode cX5_addGap 40 = .ok (.iconst 1, 1) := by decide +kernel
theorem dX5_addGap_41 : decode cX5_addGap 41 = .ok (.isub, 1) := by decide +kernel
theorem dX5_addGap_42 : decode cX5_addGap 42 = .ok (.iaload, 1) := by decide +kernel
theorem dX5_addGap_43 : decode cX5_addGap 43 = .ok (.iastore, 1) := by decide +kernel
theorem dX5_addGap_44 : decode cX5_addGap 44 = .ok (.iinc 2 (-1), 3) := by decide +kernel
theorem dX5_addGap_47 : decode cX5_addGap 47 = .ok (.goto (-33), 3) := by decide +kernel
theorem dX5_addGap_50 : decode cX5_addGap 50 = .ok (.aload_n 0, 1) := by decide +kernel
theorem dX5_addGap_51 : decode cX5_addGap 51 = .ok (.getfield 9, 3) := by decide +kernel
theorem dX5_addGap_54 : decode cX5_addGap 54 = .ok (.iload_n 2, 1) := by decide +kernel
theorem dX5_addGap_55 : decode cX5_addGap 55 = .ok (.iload_n 1, 1) := by decide +kernel
theorem dX5_addGap_56 : decode cX5_addGap 56 = .ok (.iastore, 1) := by decide +kernel
theorem dX5_addGap_57 : decode cX5_addGap 57 = .ok (.aload_n 0, 1) := by decide +kernel
theorem dX5_addGap_58 : decode cX5_addGap 58 = .ok (.dup, 1) := by decide +kernel
theorem dX5_addGap_59 : decode cX5_addGap 59 = .ok (.getfield 45, 3) := by decide +kernel
theorem dX5_addGap_62 : decode cX5_addGap 62 = .ok (.iconst 1, 1) := by decide +kernel
theorem dX5_addGap_63 : decode cX5_addGap 63 = .ok (.iadd, 1) := by decide +kernel
theorem dX5_addGap_64 : decode cX5_addGap 64 = .ok (.putfield 45, 3) := by decide +kernel
theorem dX5_addGap_67 : decode cX5_addGap 67 = .ok (.return_, 1) := by decide +kernel
set_option maxRecDepth 20000 in
theorem ggX5_dropGap_X5_hasGap : GoodIn wsX5_dropGap wsX5_hasGap := goodIn_r _ [7, 1, 8, 9, 10, 11, 12, 13, 14, 15, 16, 17, 18, 19, 20] (by decide +kernel) (by decide +kernel)
set_option maxRecDepth 20000 in
theorem gX5_dropGap_X5_hasGap : GoodIn wsX5_dropGap (wsV RX5 61 RX5 yX5_hasGap wsX5_hasGap) := goodIn_app (goodIn_of _ (by decide +kernel)) ggX5_dropGap_X5_hasGap
theorem dX5_dropGap_0 : decode cX5_dropGap 0 = .ok (.aload_n 0, 1) := by decide +kernel
theorem dX5_dropGap_1 : decode cX5_dropGap 1 = .ok (.iload_n 1, 1) := by decide +kernel
theorem dX5_dropGap_2 : decode cX5_dropGap 2 = .ok (.invokevirtual 61, 3) := by decide +kernel
theorem dX5_dropGap_5 : decode cX5_dropGap 5 = .ok (.ifCond .ne 4, 3) := by decide +kernel
theorem dX5_dropGap_8 : decode cX5_dropGap 8 = .ok (.return_, 1) := by decide +kernel
theorem dX5_dropGap_9 : decode cX5_dropGap 9 = .ok (.aload_n 0, 1) := by decide +kernel
theorem dX5_dropGap_10 : decode cX5_dropGap 10 = .ok (.dup, 1) := by decide +kernel
theorem dX5_dropGap_11 : decode cX5_dropGap 11 = .ok (.getfield 45, 3) := by decide +kernel
theorem dX5_dropGap_14 : decode cX5_dropGap 14 = .ok (.iconst 1, 1) := by decide +kernel
theorem dX5_dropGap_15 : decode cX5_dropGap 15 = .ok (.isub, 1) := by decide +kernel
theorem dX5_dropGap_16 : decode cX5_dropGap 16 = .ok (.putfield 45, 3) := by decide +kernel
theorem dX5_dropGap_19 : decode cX5_dropGap 19 = .ok (.iload_n 1, 1) := by decide +kernel
theorem dX5_dropGap_20 : decode cX5_dropGap 20 = .ok (.istore_n 2, 1) := by decide +kernel
theorem dX5_dropGap_21 : decode cX5_dropGap 21 = .ok (.iload_n 2, 1) := by decide +kernel
theorem dX5_dropGap_22 : decode cX5_dropGap 22 = .ok (.aload_n 0, 1) := by decide +kernel
theorem dX5_dropGap_23 : decode cX5_dropGap 23 = .ok (.getfield 45, 3) := by decide +kernel
theorem dX5_dropGap_26 : decode cX5_dropGap 26 = .ok (.if_icmp .ge 23, 3) := by decide +kernel
theorem dX5_dropGap_29 : decode cX5_dropGap 29 = .ok (.aload_n 0, 1) := by decide +kernel
theorem dX5_dropGap_30 : decode cX5_dropGap 30 = .ok (.getfield 9, 3) := by decide +kernel
theorem dX5_dropGap_33 : decode cX5_dropGap 33 = .ok (.iload_n 2, 1) := by decide +kernel
theorem dX5_dropGap_34 : decode cX5_dropGap 34 = .ok (.aload_n 0, 1) := by decide +kernel
theorem dX5_dropGap_35 : decode cX5_dropGap 35 = .ok (.getfield 9, 3) := by decide +kernel
theorem dX5_dropGap_38 : decode cX5_dropGap 38 = .ok (.iload_n 2, 1) := by decide +kernel
theorem dX5_dropGap_39 : decode cX5_dropGap 39 = .ok (.iconst 1, 1) := by decide +kernel
theorem dX5_dropGap_40 : decode cX5_dropGap 40 = .ok (.iadd, 1) := by decide +kernel
theorem dX5_dropGap_41 : decode cX5_dropGap 41 = .ok (.iaload, 1) := by decide +kernel
theorem dX5_dropGap_42 : decode cX5_dropGap 42 = .ok (.iastore, 1) := by decide +kernel
theorem dX5_dropGap_43 : decode cX5_dropGap 43 = .ok (.iinc 2 1, 3) := by decide +kernel
theorem dX5_dropGap_46 : decode cX5_dropGap 46 = .ok (.goto (-25), 3) := by decide +kernel
theorem dX5_dropGap_49 : decode cX5_dropGap 49 = .ok (.return_, 1) := by decide +kernel
theorem dX5_addTarget_0 : decode cX5_addTarget 0 = .ok (.aload_n 0, 1) := by decide +kernel
theorem dX5_addTarget_1 : decode cX5_addTarget 1 = .ok (.getfield 49, 3) := by decide +kernel
theorem dX5_addTarget_4 : decode cX5_addTarget 4 = .ok (.bipush 8, 2) := by decide +kernel
theorem dX5_addTarget_6 : decode cX5_addTarget 6 = .ok (.if_icmp .lt 4, 3) := by decide +kernel
theorem dX5_addTarget_9 : decode cX5_addTarget 9 = .ok (.return_, 1) := by decide +kernel
theorem dX5_addTarget_10 : decode cX5_addTarget 10 = .ok (.aload_n 0, 1) := by decide +kernel
theorem dX5_addTarget_11 : decode cX5_addTarget 11 = .ok (.getfield 18, 3) := by decide +kernel
theorem dX5_addTarget_14 : decode cX5_addTarget 14 = .ok (.aload_n 0, 1) := by decide +kernel
theorem dX5_addTarget_15 : decode cX5_addTarget 15 = .ok (.getfield 49, 3) := by decide +kernel
theorem dX5_addTarget_18 : decode cX5_addTarget 18 = .ok (.iload_n 1, 1) := by decide +kernel
theorem dX5_addTarget_19 : decode cX5_addTarget 19 = .ok (.bipush 16, 2) := by decide +kernel
theorem dX5_addTarget_21 : decode cX5_addTarget 21 = .ok (.imul, 1) := by decide +kernel
theorem dX5_addTarget_22 : decode cX5_addTarget 22 = .ok (.iastore, 1) := by decide +kernel
theorem dX5_addTarget_23 : decode cX5_addTarget 23 = .ok (.aload_n 0, 1) := by decide +kernel
theorem dX5_addTarget_24 : decode cX5_addTarget 24 = .ok (.getfield 21, 3) := by decide +kernel
theorem dX5_addTarget_27 : decode cX5_addTarget 27 = .ok (.aload_n 0, 1) := by decide +kernel
theorem dX5_addTarget_28 : decode cX5_addTarget 28 = .ok (.getfield 49, 3) := by decide +kernel
theorem dX5_addTarget_31 : decode cX5_addTarget 31 = .ok (.iload_n 2, 1) := by decide +kernel
theorem dX5_addTarget_32 : decode cX5_addTarget 32 = .ok (.iastore, 1) := by decide +kernel
theorem dX5_addTarget_33 : decode cX5_addTarget 33 = .ok (.aload_n 0, 1) := by decide +kernel
theorem dX5_addTarget_34 : decode cX5_addTarget 34 = .ok (.getfield 24, 3) := by decide +kernel
theorem dX5_addTarget_37 : decode cX5_addTarget 37 = .ok (.aload_n 0, 1) := by decide +kernel
theorem dX5_addTarget_38 : decode cX5_addTarget 38 = .ok (.getfield 49, 3) := by decide +kernel
theorem dX5_addTarget_41 : decode cX5_addTarget 41 = .ok (.iload_n 3, 1) := by decide +kernel
theorem dX5_addTarget_42 : decode cX5_addTarget 42 = .ok (.iastore, 1) := by decide +kernel
theorem dX5_addTarget_43 : decode cX5_addTarget 43 = .ok (.aload_n 0, 1) := by decide +kernel
theorem dX5_addTarget_44 : decode cX5_addTarget 44 = .ok (.dup, 1) := by decide +kernel
theorem dX5_addTarget_45 : decode cX5_addTarget 45 = .ok (.getfield 49, 3) := by decide +kernel
theorem dX5_addTarget_48 : decode cX5_addTarget 48 = .ok (.iconst 1, 1) := by decide +kernel
theorem dX5_addTarget_49 : decode cX5_addTarget 49 = .ok (.iadd, 1) := by decide +kernel
theorem dX5_addTarget_50 : decode cX5_addTarget 50 = .ok (.putfield 49, 3) := by decide +kernel
theorem dX5_addTarget_53 : decode cX5_addTarget 53 = .ok (.return_, 1) := by decide +kernel
set_option maxRecDepth 20000 in
theorem ggX5_dropTarget_X5_hasTarget : GoodIn wsX5_dropTarget wsX5_hasTarget := goodIn_r _ [9, 1, 10, 11, 12, 13, 14, 15, 16, 17, 18, 19, 20, 21, 22] (by decide +kernel) (by decide +kernel)
set_option maxRecDepth 20000 in
theorem gX5_dropTarget_X5_hasTarget : GoodIn wsX5_dropTarget (wsV RX5 65 RX5 yX5_hasTarget wsX5_hasTarget) := goodIn_app (goodIn_of _ (by decide +kernel)) ggX5_dropTarget_X5_hasTarget
theorem dX5_dropTarget_0 : decode cX5_dropTarget 0 = .ok (.aload_n 0, 1) := by decide +kernel
theorem dX5_dropTarget_1 : decode cX5_dropTarget 1 = .ok (.iload_n 1, 1) := by decide +kernel
theorem dX5_dropTarget_2 : decode cX5_dropTarget 2 = .ok (.invokevirtual 65, 3) := by decide +kernel
theorem dX5_dropTarget_5 : decode cX5_dropTarget 5 = .ok (.ifCond .ne 4, 3) := by decide +kernel
theorem dX5_dropTarget_8 : decode cX5_dropTarget 8 = .ok (.return_, 1) := by decide +kernel
theorem dX5_dropTarget_9 : decode cX5_dropTarget 9 = .ok (.aload_n 0, 1) := by decide +kernel
theorem dX5_dropTarget_10 : decode cX5_dropTarget 10 = .ok (.dup, 1) := by decide +kernel
theorem dX5_dropTarget_11 : decode cX5_dropTarget 11 = .ok (.getfield 49, 3) := by decide +kernel
theorem dX5_dropTarget_14 : decode cX5_dropTarget 14 = .ok (.iconst 1, 1) := by decide +kernel
theorem dX5_dropTarget_15 : decode cX5_dropTarget 15 = .ok (.isub, 1) := by decide +kernel
theorem dX5_dropTarget_16 : decode cX5_dropTarget 16 = .ok (.putfield 49, 3) := by decide +kernel
theorem dX5_dropTarget_19 : decode cX5_dropTarget 19 = .ok (.iload_n 1, 1) := by decide +kernel
theorem dX5_dropTarget_20 : decode cX5_dropTarget 20 = .ok (.istore_n 2, 1) := by decide +kernel
theorem dX5_dropTarget_21 : decode cX5_dropTarget 21 = .ok (.iload_n 2, 1) := by decide +kernel
theorem dX5_dropTarget_22 : decode cX5_dropTarget 22 = .ok (.aload_n 0, 1) := by decide +kernel
theorem dX5_dropTarget_23 : decode cX5_dropTarget 23 = .ok (.getfield 49, 3) := by decide +kernel
theorem dX5_dropTarget_26 : decode cX5_dropTarget 26 = .ok (.if_icmp .ge 51, 3) := by decide +kernel
theorem dX5_dropTarget_29 : decode cX5_dropTarget 29 = .ok (.aload_n 0, 1) := by decide +kernel
theorem dX5_dropTarget_30 : decode cX5_dropTarget 30 = .ok (.getfield 18, 3) := by decide +kernel
theorem dX5_dropTarget_33 : decode cX5_dropTarget 33 = .ok (.iload_n 2, 1) := by decide +kernel
theorem dX5_dropTarget_34 : decode cX5_dropTarget 34 = .ok (.aload_n 0, 1) := by decide +kernel
theorem dX5_dropTarget_35 : decode cX5_dropTarget 35 = .ok (.getfield 18, 3) := by decide +kernel
theorem dX5_dropTarget_38 : decode cX5_dropTarget 38 = .ok (.iload_n 2, 1) := by decide +kernel
theorem dX5_dropTarget_39 : decode cX5_dropTarget 39 = .ok (.iconst 1, 1) := by decide +kernel
theorem dX5_dropTarget_40 : decode cX5_dropTarget 40 = .ok (.iadd, 1) := by decide +kernel
theorem dX5_dropTarget_41 : decode cX5_dropTarget 41 = .ok (.iaload, 1) := by decide +kernel
theorem dX5_dropTarget_42 : decode cX5_dropTarget 42 = .ok (.iastore, 1) := by decide +kernel
theorem dX5_dropTarget_43 : decode cX5_dropTarget 43 = .ok (.aload_n 0, 1) := by decide +kernel
theorem dX5_dropTarget_44 : decode cX5_dropTarget 44 = .ok (.getfield 21, 3) := by decide +kernel
theorem dX5_dropTarget_47 : decode cX5_dropTarget 47 = .ok (.iload_n 2, 1) := by decide +kernel
theorem dX5_dropTarget_48 : decode cX5_dropTarget 48 = .ok (.aload_n 0, 1) := by decide +kernel
theorem dX5_dropTarget_49 : decode cX5_dropTarget 49 = .ok (.getfield 21, 3) := by decide +kernel
theorem dX5_dropTarget_52 : decode cX5_dropTarget 52 = .ok (.iload_n 2, 1) := by decide +kernel
theorem dX5_dropTarget_53 : decode cX5_dropTarget 53 = .ok (.iconst 1, 1) := by decide +kernel
theorem dX5_dropTarget_54 : decode cX5_dropTarget 54 = .ok (.iadd, 1) := by decide +kernel
theorem dX5_dropTarget_55 : decode cX5_dropTarget 55 = .ok (.iaload, 1) := by decide +kernel
theorem dX5_dropTarget_56 : decode cX5_dropTarget 56 = .ok (.iastore, 1) := by decide +kernel
theorem dX5_dropTarget_57 : decode cX5_dropTarget 57 = .ok (.aload_n 0, 1) := by decide +kernel
theorem dX5_dropTarget_58 : decode cX5_dropTarget 58 = .ok (.getfield 24, 3) := by decide +kernel
theorem dX5_dropTarget_61 : decode cX5_dropTarget 61 = .ok (.iload_n 2, 1) := by decide +kernel
theorem dX5_dropTarget_62 : decode cX5_dropTarget 62 = .ok (.aload_n 0, 1) := by decide +kernel
theorem dX5_dropTarget_63 : decode cX5_dropTarget 63 = .ok (.getfield 24, 3) := by decide +kernel
theorem dX5_dropTarget_66 : decode cX5_dropTarget 66 = .ok (.iload_n 2, 1) := by decide +kernel
theorem dX5_dropTarget_67 : decode cX5_dropTarget 67 = .ok (.iconst 1, 1) := by decide +kernel
theorem dX5_dropTarget_68 : decode cX5_dropTarget 68 = .ok (.iadd, 1) := by decide +kernel
theorem dX5_dropTarget_69 : decode cX5_dropTarget 69 = .ok (.iaload, 1) := by decide +kernel
theorem dX5_dropTarget_70 : decode cX5_dropTarget 70 = .ok (.iastore, 1) := by decide +kernel
theorem dX5_dropTarget_71 : decode cX5_dropTarget 71 = .ok (.iinc 2 1, 3) := by decide +kernel
theorem dX5_dropTarget_74 : decode cX5_dropTarget 74 = .ok (.goto (-53), 3) := by decide +kernel
theorem dX5_dropTarget_77 : decode cX5_dropTarget 77 = .ok (.return_, 1) := by decide +kernel
theorem dX5_spotAfter_0 : decode cX5_spotAfter 0 = .ok (.aload_n 0, 1) := by decide +kernel
theorem dX5_spotAfter_1 : decode cX5_spotAfter 1 = .ok (.getfield 18, 3) := by decide +kernel
theorem dX5_spotAfter_4 : decode cX5_spotAfter 4 = .ok (.iload_n 1, 1) := by decide +kernel
theorem dX5_spotAfter_5 : decode cX5_spotAfter 5 = .ok (.iaload, 1) := by decide +kernel
theorem dX5_spotAfter_6 : decode cX5_spotAfter 6 = .ok (.aload_n 0, 1) := by decide +kernel
theorem dX5_spotAfter_7 : decode cX5_spotAfter 7 = .ok (.getfield 21, 3) := by decide +kernel
theorem dX5_spotAfter_10 : decode cX5_spotAfter 10 = .ok (.iload_n 1, 1) := by decide +kernel
theorem dX5_spotAfter_11 : decode cX5_spotAfter 11 = .ok (.iaload, 1) := by decide +kernel
theorem dX5_spotAfter_12 : decode cX5_spotAfter 12 = .ok (.iload_n 2, 1) := by decide +kernel
theorem dX5_spotAfter_13 : decode cX5_spotAfter 13 = .ok (.imul, 1) := by decide +kernel
theorem dX5_spotAfter_14 : decode cX5_spotAfter 14 = .ok (.iadd, 1) := by decide +kernel
theorem dX5_spotAfter_15 : decode cX5_spotAfter 15 = .ok (.ireturn, 1) := by decide +kernel
set_option maxRecDepth 20000 in
theorem ggX5_pass_X5_spotAfter : GoodIn wsX5_pass wsX5_spotAfter := goodIn_r _ [10, 3, 11, 24, 25, 26, 27, 28, 29, 30, 31, 32, 33, 34, 35, 36] (by decide +kernel) (by decide +kernel)
set_option maxRecDepth 20000 in
theorem gX5_pass_X5_spotAfter : GoodIn wsX5_pass (wsV RX5 68 RX5 yX5_spotAfter wsX5_spotAfter) := goodIn_app (goodIn_of _ (by decide +kernel)) ggX5_pass_X5_spotAfter
set_option maxRecDepth 20000 in
theorem ggX5_pass_X10_isWithin : GoodIn wsX5_pass wsX10_isWithin := goodIn_r _ [14] (by decide +kernel) (by decide +kernel)
set_option maxRecDepth 20000 in
theorem gX5_pass_X10_isWithin_n73 : GoodIn wsX5_pass (wsX10_isWithin) := ggX5_pass_X10_isWithin
set_option maxRecDepth 20000 in
theorem ggX5_pass_X5_dropTarget : GoodIn wsX5_pass wsX5_dropTarget := goodIn_r _ [18, 1, 3, 11, 19, 20, 21, 22, 9, 23, 24, 25, 26, 27, 28, 29, 30, 31, 32, 33, 34, 35, 36] (by decide +kernel) (by decide +kernel)
set_option maxRecDepth 20000 in
theorem gX5_pass_X5_dropTarget : GoodIn wsX5_pass (wsV RX5 77 RX5 yX5_dropTarget wsX5_dropTarget) := goodIn_app (goodIn_of _ (by decide +kernel)) ggX5_pass_X5_dropTarget
theorem dX5_pass_0 : decode cX5_pass 0 = .ok (.aload_n 0, 1) := by decide +kernel
theorem dX5_pass_1 : decode cX5_pass 1 = .ok (.getfield 49, 3) := by decide +kernel
theorem dX5_pass_4 : decode cX5_pass 4 = .ok (.istore_n 2, 1) := by decide +kernel
theorem dX5_pass_5 : decode cX5_pass 5 = .ok (.iload_n 2, 1) := by decide +kernel
theorem dX5_pass_6 : decode cX5_pass 6 = .ok (.iconst 1, 1) := by decide +kernel
theorem dX5_pass_7 : decode cX5_pass 7 = .ok (.isub, 1) := by decide +kernel
theorem dX5_pass_8 : decode cX5_pass 8 = .ok (.istore_n 3, 1) := by decide +kernel
theorem dX5_pass_9 : decode cX5_pass 9 = .ok (.iload_n 3, 1) := by decide +kernel
theorem dX5_pass_10 : decode cX5_pass 10 = .ok (.ifCond .lt 44, 3) := by decide +kernel
theorem dX5_pass_13 : decode cX5_pass 13 = .ok (.aload_n 0, 1) := by decide +kernel
theorem dX5_pass_14 : decode cX5_pass 14 = .ok (.iload_n 3, 1) := by decide +kernel
theorem dX5_pass_15 : decode cX5_pass 15 = .ok (.iload_n 1, 1) := by decide +kernel
theorem dX5_pass_16 : decode cX5_pass 16 = .ok (.invokevirtual 68, 3) := by decide +kernel
theorem dX5_pass_19 : decode cX5_pass 19 = .ok (.istore 4, 2) := by decide +kernel
theorem dX5_pass_21 : decode cX5_pass 21 = .ok (.iload 4, 2) := by decide +kernel
theorem dX5_pass_23 : decode cX5_pass 23 = .ok (.iconst 0, 1) := by decide +kernel
theorem dX5_pass_24 : decode cX5_pass 24 = .ok (.ldc 72, 2) := by decide +kernel
theorem dX5_pass_26 : decode cX5_pass 26 = .ok (.invokestatic 73, 3) := by decide +kernel
theorem dX5_pass_29 : decode cX5_pass 29 = .ok (.ifCond .eq 14, 3) := by decide +kernel
theorem dX5_pass_32 : decode cX5_pass 32 = .ok (.aload_n 0, 1) := by decide +kernel
theorem dX5_pass_33 : decode cX5_pass 33 = .ok (.getfield 18, 3) := by decide +kernel
theorem dX5_pass_36 : decode cX5_pass 36 = .ok (.iload_n 3, 1) := by decide +kernel
theorem dX5_pass_37 : decode cX5_pass 37 = .ok (.iload 4, 2) := by decide +kernel
theorem dX5_pass_39 : decode cX5_pass 39 = .ok (.iastore, 1) := by decide +kernel
theorem dX5_pass_40 : decode cX5_pass 40 = .ok (.goto 8, 3) := by decide +kernel
theorem dX5_pass_43 : decode cX5_pass 43 = .ok (.aload_n 0, 1) := by decide +kernel
theorem dX5_pass_44 : decode cX5_pass 44 = .ok (.iload_n 3, 1) := by decide +kernel
theorem dX5_pass_45 : decode cX5_pass 45 = .ok (.invokevirtual 77, 3) := by decide +kernel
theorem dX5_pass_48 : decode cX5_pass 48 = .ok (.iinc 3 (-1), 3) := by decide +kernel
theorem dX5_pass_51 : decode cX5_pass 51 = .ok (.goto (-42), 3) := by decide +kernel
theorem dX5_pass_54 : decode cX5_pass 54 = .ok (.aload_n 0, 1) := by decide +kernel
theorem dX5_pass_55 : decode cX5_pass 55 = .ok (.dup, 1) := by decide +kernel
theorem dX5_pass_56 : decode cX5_pass 56 = .ok (.getfield 55, 3) := by decide +kernel
theorem dX5_pass_59 : decode cX5_pass 59 = .ok (.iload_n 1, 1) := by decide +kernel
theorem dX5_pass_60 : decode cX5_pass 60 = .ok (.iadd, 1) := by decide +kernel
theorem dX5_pass_61 : decode cX5_pass 61 = .ok (.putfield 55, 3) := by decide +kernel
theorem dX5_pass_64 : decode cX5_pass 64 = .ok (.aload_n 0, 1) := by decide +kernel
theorem dX5_pass_65 : decode cX5_pass 65 = .ok (.dup, 1) := by decide +kernel
theorem dX5_pass_66 : decode cX5_pass 66 = .ok (.getfield 58, 3) := by decide +kernel
theorem dX5_pass_69 : decode cX5_pass 69 = .ok (.iload_n 2, 1) := by decide +kernel
theorem dX5_pass_70 : decode cX5_pass 70 = .ok (.aload_n 0, 1) := by decide +kernel
theorem dX5_pass_71 : decode cX5_pass 71 = .ok (.getfield 49, 3) := by decide +kernel
theorem dX5_pass_74 : decode cX5_pass 74 = .ok (.isub, 1) := by decide +kernel
theorem dX5_pass_75 : decode cX5_pass 75 = .ok (.iadd, 1) := by decide +kernel
theorem dX5_pass_76 : decode cX5_pass 76 = .ok (.putfield 58, 3) := by decide +kernel
theorem dX5_pass_79 : decode cX5_pass 79 = .ok (.iload_n 2, 1) := by decide +kernel
theorem dX5_pass_80 : decode cX5_pass 80 = .ok (.aload_n 0, 1) := by decide +kernel
theorem dX5_pass_81 : decode cX5_pass 81 = .ok (.getfield 49, 3) := by decide +kernel
theorem dX5_pass_84 : decode cX5_pass 84 = .ok (.isub, 1) := by decide +kernel
theorem dX5_pass_85 : decode cX5_pass 85 = .ok (.ireturn, 1) := by decide +kernel
set_option maxRecDepth 20000 in
theorem ggX5_addLook_X5_dropOldestLook : GoodIn wsX5_addLook wsX5_dropOldestLook := goodIn_r _ [10, 1, 2, 11, 12, 13, 14, 4, 5, 15, 16, 17, 18, 19, 20, 21, 22, 23, 24, 25, 26, 27] (by decide +kernel) (by decide +kernel)
set_option maxRecDepth 20000 in
theorem gX5_addLook_X5_dropOldestLook : GoodIn wsX5_addLook (wsV RX5 81 RX5 yX5_dropOldestLook wsX5_dropOldestLook) := goodIn_app (goodIn_of _ (by decide +kernel)) ggX5_addLook_X5_dropOldestLook
theorem dX5_addLook_0 : decode cX5_addLook 0 = .ok (.aload_n 0, 1) := by decide +kernel
theorem dX5_addLook_1 : decode cX5_addLook 1 = .ok (.getfield 52, 3) := by decide +kernel
theorem dX5_addLook_4 : decode cX5_addLook 4 = .ok (.iconst 4, 1) := by decide +kernel
theorem dX5_addLook_5 : decode cX5_addLook 5 = .ok (.if_icmp .ne 7, 3) := by decide +kernel
theorem dX5_addLook_8 : decode cX5_addLook 8 = .ok (.aload_n 0, 1) := by decide +kernel
theorem dX5_addLook_9 : decode cX5_addLook 9 = .ok (.invokevirtual 81, 3) := by decide +kernel
theorem dX5_addLook_12 : decode cX5_addLook 12 = .ok (.aload_n 0, 1) := by decide +kernel
theorem dX5_addLook_13 : decode cX5_addLook 13 = .ok (.getfield 27, 3) := by decide +kernel
theorem dX5_addLook_16 : decode cX5_addLook 16 = .ok (.aload_n 0, 1) := by decide +kernel
theorem dX5_addLook_17 : decode cX5_addLook 17 = .ok (.getfield 52, 3) := by decide +kernel
theorem dX5_addLook_20 : decode cX5_addLook 20 = .ok (.aload_n 0, 1) := by decide +kernel
theorem dX5_addLook_21 : decode cX5_addLook 21 = .ok (.getfield 55, 3) := by decide +kernel
theorem dX5_addLook_24 : decode cX5_addLook 24 = .ok (.iastore, 1) := by decide +kernel
theorem dX5_addLook_25 : decode cX5_addLook 25 = .ok (.aload_n 0, 1) := by decide +kernel
theorem dX5_addLook_26 : decode cX5_addLook 26 = .ok (.getfield 30, 3) := by decide +kernel
theorem dX5_addLook_29 : decode cX5_addLook 29 = .ok (.aload_n 0, 1) := by decide +kernel
theorem dX5_addLook_30 : decode cX5_addLook 30 = .ok (.getfield 52, 3) := by decide +kernel
theorem dX5_addLook_33 : decode cX5_addLook 33 = .ok (.iload_n 2, 1) := by decide +kernel
theorem dX5_addLook_34 : decode cX5_addLook 34 = .ok (.iastore, 1) := by decide +kernel
theorem dX5_addLook_35 : decode cX5_addLook 35 = .ok (.iconst 0, 1) := by decide +kernel
theorem dX5_addLook_36 : decode cX5_addLook 36 = .ok (.istore_n 3, 1) := by decide +kernel
theorem dX5_addLook_37 : decode cX5_addLook 37 = .ok (.iload_n 3, 1) := by decide +kernel
theorem dX5_addLook_38 : decode cX5_addLook 38 = .ok (.iload_n 2, 1) := by decide +kernel
theorem dX5_addLook_39 : decode cX5_addLook 39 = .ok (.if_icmp .ge 38, 3) := by decide +kernel
theorem dX5_addLook_42 : decode cX5_addLook 42 = .ok (.iload_n 3, 1) := by decide +kernel
theorem dX5_addLook_43 : decode cX5_addLook 43 = .ok (.bipush 12, 2) := by decide +kernel
theorem dX5_addLook_45 : decode cX5_addLook 45 = .ok (.if_icmp .ge 32, 3) := by decide +kernel
theorem dX5_addLook_48 : decode cX5_addLook 48 = .ok (.iload_n 3, 1) := by decide +kernel
theorem dX5_addLook_49 : decode cX5_addLook 49 = .ok (.aload_n 1, 1) := by decide +kernel
theorem dX5_addLook_50 : decode cX5_addLook 50 = .ok (.arraylength, 1) := by decide +kernel
theorem dX5_addLook_51 : decode cX5_addLook 51 = .ok (.if_icmp .ge 26, 3) := by decide +kernel
theorem dX5_addLook_54 : decode cX5_addLook 54 = .ok (.aload_n 0, 1) := by decide +kernel
theorem dX5_addLook_55 : decode cX5_addLook 55 = .ok (.getfield 33, 3) := by decide +kernel
theorem dX5_addLook_58 : decode cX5_addLook 58 = .ok (.aload_n 0, 1) := by decide +kernel
theorem dX5_addLook_59 : decode cX5_addLook 59 = .ok (.getfield 52, 3) := by decide +kernel
theorem dX5_addLook_62 : decode cX5_addLook 62 = .ok (.bipush 12, 2) := by decide +kernel
theorem dX5_addLook_64 : decode cX5_addLook 64 = .ok (.imul, 1) := by decide +kernel
theorem dX5_addLook_65 : decode cX5_addLook 65 = .ok (.iload_n 3, 1) := by decide +kernel
theorem dX5_addLook_66 : decode cX5_addLook 66 = .ok (.iadd, 1) := by decide +kernel
theorem dX5_addLook_67 : decode cX5_addLook 67 = .ok (.aload_n 1, 1) := by decide +kernel
theorem dX5_addLook_68 : decode cX5_addLook 68 = .ok (.iload_n 3, 1) := by decide +kernel
theorem dX5_addLook_69 : decode cX5_addLook 69 = .ok (.iaload, 1) := by decide +kernel
theorem dX5_addLook_70 : decode cX5_addLook 70 = .ok (.iastore, 1) := by decide +kernel
theorem dX5_addLook_71 : decode cX5_addLook 71 = .ok (.iinc 3 1, 3) := by decide +kernel
theorem dX5_addLook_74 : decode cX5_addLook 74 = .ok (.goto (-37), 3) := by decide +kernel
theorem dX5_addLook_77 : decode cX5_addLook 77 = .ok (.aload_n 0, 1) := by decide +kernel
theorem dX5_addLook_78 : decode cX5_addLook 78 = .ok (.dup, 1) := by decide +kernel
theorem dX5_addLook_79 : decode cX5_addLook 79 = .ok (.getfield 52, 3) := by decide +kernel
theorem dX5_addLook_82 : decode cX5_addLook 82 = .ok (.iconst 1, 1) := by decide +kernel
theorem dX5_addLook_83 : decode cX5_addLook 83 = .ok (.iadd, 1) := by decide +kernel
theorem dX5_addLook_84 : decode cX5_addLook 84 = .ok (.putfield 52, 3) := by decide +kernel
theorem dX5_addLook_87 : decode cX5_addLook 87 = .ok (.return_, 1) := by decide +kernel
theorem dX5_dropOldestLook_0 : decode cX5_dropOldestLook 0 = .ok (.aload_n 0, 1) := by decide +kernel
theorem dX5_dropOldestLook_1 : decode cX5_dropOldestLook 1 = .ok (.iconst 3, 1) := by decide +kernel
theorem dX5_dropOldestLook_2 : decode cX5_dropOldestLook 2 = .ok (.putfield 52, 3) := by decide +kernel
theorem dX5_dropOldestLook_5 : decode cX5_dropOldestLook 5 = .ok (.aload_n 0, 1) := by decide +kernel
theorem dX5_dropOldestLook_6 : decode cX5_dropOldestLook 6 = .ok (.getfield 27, 3) := by decide +kernel
theorem dX5_dropOldestLook_9 : decode cX5_dropOldestLook 9 = .ok (.iconst 1, 1) := by decide +kernel
theorem dX5_dropOldestLook_10 : decode cX5_dropOldestLook 10 = .ok (.aload_n 0, 1) := by decide +kernel
theorem dX5_dropOldestLook_11 : decode cX5_dropOldestLook 11 = .ok (.getfield 27, 3) := by decide +kernel
theorem dX5_dropOldestLook_14 : decode cX5_dropOldestLook 14 = .ok (.iconst 0, 1) := by decide +kernel
theorem dX5_dropOldestLook_15 : decode cX5_dropOldestLook 15 = .ok (.aload_n 0, 1) := by decide +kernel
theorem dX5_dropOldestLook_16 : decode cX5_dropOldestLook 16 = .ok (.getfield 52, 3) := by decide +kernel
theorem dX5_dropOldestLook_19 : decode cX5_dropOldestLook 19 = .ok (.invokestatic 39, 3) := by decide +kernel
theorem dX5_dropOldestLook_22 : decode cX5_dropOldestLook 22 = .ok (.aload_n 0, 1) := by decide +kernel
theorem dX5_dropOldestLook_23 : decode cX5_dropOldestLook 23 = .ok (.getfield 30, 3) := by decide +kernel
theorem dX5_dropOldestLook_26 : decode cX5_dropOldestLook 26 = .ok (.iconst 1, 1) := by decide +kernel
theorem dX5_dropOldestLook_27 : decode cX5_dropOldestLook 27 = .ok (.aload_n 0, 1) := by decide +kernel
theorem dX5_dropOldestLook_28 : decode cX5_dropOldestLook 28 = .ok (.getfield 30, 3) := by decide +kernel
theorem dX5_dropOldestLook_31 : decode cX5_dropOldestLook 31 = .ok (.iconst 0, 1) := by decide +kernel
theorem dX5_dropOldestLook_32 : decode cX5_dropOldestLook 32 = .ok (.aload_n 0, 1) := by decide +kernel
theorem dX5_dropOldestLook_33 : decode cX5_dropOldestLook 33 = .ok (.getfield 52, 3) := by decide +kernel
theorem dX5_dropOldestLook_36 : decode cX5_dropOldestLook 36 = .ok (.invokestatic 39, 3) := by decide +kernel
theorem dX5_dropOldestLook_39 : decode cX5_dropOldestLook 39 = .ok (.aload_n 0, 1) := by decide +kernel
theorem dX5_dropOldestLook_40 : decode cX5_dropOldestLook 40 = .ok (.getfield 33, 3) := by decide +kernel
theorem dX5_dropOldestLook_43 : decode cX5_dropOldestLook 43 = .ok (.bipush 12, 2) := by decide +kernel
theorem dX5_dropOldestLook_45 : decode cX5_dropOldestLook 45 = .ok (.aload_n 0, 1) := by decide +kernel
theorem dX5_dropOldestLook_46 : decode cX5_dropOldestLook 46 = .ok (.getfield 33, 3) := by decide +kernel
theorem dX5_dropOldestLook_49 : decode cX5_dropOldestLook 49 = .ok (.iconst 0, 1) := by decide +kernel
theorem dX5_dropOldestLook_50 : decode cX5_dropOldestLook 50 = .ok (.aload_n 0, 1) := by decide +kernel
theorem dX5_dropOldestLook_51 : decode cX5_dropOldestLook 51 = .ok (.getfield 52, 3) := by decide +kernel
theorem dX5_dropOldestLook_54 : decode cX5_dropOldestLook 54 = .ok (.bipush 12, 2) := by decide +kernel
theorem dX5_dropOldestLook_56 : decode cX5_dropOldestLook 56 = .ok (.imul, 1) := by decide +kernel
theorem dX5_dropOldestLook_57 : decode cX5_dropOldestLook 57 = .ok (.invokestatic 39, 3) := by decide +kernel
theorem dX5_dropOldestLook_60 : decode cX5_dropOldestLook 60 = .ok (.return_, 1) := by decide +kernel
theorem dX5_rangeOf_0 : decode cX5_rangeOf 0 = .ok (.aload_n 0, 1) := by decide +kernel
theorem dX5_rangeOf_1 : decode cX5_rangeOf 1 = .ok (.getfield 18, 3) := by decide +kernel
theorem dX5_rangeOf_4 : decode cX5_rangeOf 4 = .ok (.iload_n 1, 1) := by decide +kernel
theorem dX5_rangeOf_5 : decode cX5_rangeOf 5 = .ok (.iaload, 1) := by decide +kernel
theorem dX5_rangeOf_6 : decode cX5_rangeOf 6 = .ok (.bipush 16, 2) := by decide +kernel
theorem dX5_rangeOf_8 : decode cX5_rangeOf 8 = .ok (.idiv, 1) := by decide +kernel
theorem dX5_rangeOf_9 : decode cX5_rangeOf 9 = .ok (.ireturn, 1) := by decide +kernel
set_option maxRecDepth 20000 in
theorem ggX5_isRange_X5_rangeOf : GoodIn wsX5_isRange wsX5_rangeOf := goodIn_r _ [6, 7, 8, 9, 10, 11, 12, 13, 14, 15, 16, 17, 18, 19, 20] (by decide +kernel) (by decide +kernel)
set_option maxRecDepth 20000 in
theorem gX5_isRange_X5_rangeOf : GoodIn wsX5_isRange (wsV RX5 84 RX5 yX5_rangeOf wsX5_rangeOf) := goodIn_app (goodIn_of _ (by decide +kernel)) ggX5_isRange_X5_rangeOf
theorem dX5_isRange_0 : decode cX5_isRange 0 = .ok (.iconst 0, 1) := by decide +kernel
theorem dX5_isRange_1 : decode cX5_isRange 1 = .ok (.istore_n 2, 1) := by decide +kernel
theorem dX5_isRange_2 : decode cX5_isRange 2 = .ok (.iload_n 2, 1) := by decide +kernel
theorem dX5_isRange_3 : decode cX5_isRange 3 = .ok (.aload_n 0, 1) := by decide +kernel
theorem dX5_isRange_4 : decode cX5_isRange 4 = .ok (.getfield 49, 3) := by decide +kernel
theorem dX5_isRange_7 : decode cX5_isRange 7 = .ok (.if_icmp .ge 20, 3) := by decide +kernel
theorem dX5_isRange_10 : decode cX5_isRange 10 = .ok (.aload_n 0, 1) := by decide +kernel
theorem dX5_isRange_11 : decode cX5_isRange 11 = .ok (.iload_n 2, 1) := by decide +kernel
theorem dX5_isRange_12 : decode cX5_isRange 12 = .ok (.invokevirtual 84, 3) := by decide +kernel
theorem dX5_isRange_15 : decode cX5_isRange 15 = .ok (.iload_n 1, 1) := by decide +kernel
theorem dX5_isRange_16 : decode cX5_isRange 16 = .ok (.if_icmp .ne 5, 3) := by decide +kernel
theorem dX5_isRange_19 : decode cX5_isRange 19 = .ok (.iconst 1, 1) := by decide +kernel
theorem dX5_isRange_20 : decode cX5_isRange 20 = .ok (.ireturn, 1) := by decide +kernel
theorem dX5_isRange_21 : decode cX5_isRange 21 = .ok (.iinc 2 1, 3) := by decide +kernel
theorem dX5_isRange_24 : decode cX5_isRange 24 = .ok (.goto (-22), 3) := by decide +kernel
theorem dX5_isRange_27 : decode cX5_isRange 27 = .ok (.iconst 0, 1) := by decide +kernel
theorem dX5_isRange_28 : decode cX5_isRange 28 = .ok (.ireturn, 1) := by decide +kernel
set_option maxRecDepth 20000 in
theorem ggX5_hides_X10_rest : GoodIn wsX5_hides wsX10_rest := goodIn_r _ [4] (by decide +kernel) (by decide +kernel)
set_option maxRecDepth 20000 in
theorem gX5_hides_X10_rest_n88 : GoodIn wsX5_hides (wsX10_rest) := ggX5_hides_X10_rest
theorem dX5_hides_0 : decode cX5_hides 0 = .ok (.iload_n 1, 1) := by decide +kernel
theorem dX5_hides_1 : decode cX5_hides 1 = .ok (.iload_n 2, 1) := by decide +kernel
theorem dX5_hides_2 : decode cX5_hides 2 = .ok (.imul, 1) := by decide +kernel
theorem dX5_hides_3 : decode cX5_hides 3 = .ok (.aload_n 0, 1) := by decide +kernel
theorem dX5_hides_4 : decode cX5_hides 4 = .ok (.getfield 15, 3) := by decide +kernel
theorem dX5_hides_7 : decode cX5_hides 7 = .ok (.iconst 0, 1) := by decide +kernel
theorem dX5_hides_8 : decode cX5_hides 8 = .ok (.iaload, 1) := by decide +kernel
theorem dX5_hides_9 : decode cX5_hides 9 = .ok (.invokestatic 88, 3) := by decide +kernel
theorem dX5_hides_12 : decode cX5_hides 12 = .ok (.istore_n 3, 1) := by decide +kernel
theorem dX5_hides_13 : decode cX5_hides 13 = .ok (.iload_n 3, 1) := by decide +kernel
theorem dX5_hides_14 : decode cX5_hides 14 = .ok (.aload_n 0, 1) := by decide +kernel
theorem dX5_hides_15 : decode cX5_hides 15 = .ok (.getfield 15, 3) := by decide +kernel
theorem dX5_hides_18 : decode cX5_hides 18 = .ok (.iconst 1, 1) := by decide +kernel
theorem dX5_hides_19 : decode cX5_hides 19 = .ok (.iaload, 1) := by decide +kernel
theorem dX5_hides_20 : decode cX5_hides 20 = .ok (.if_icmp .le 20, 3) := by decide +kernel
theorem dX5_hides_23 : decode cX5_hides 23 = .ok (.aload_n 0, 1) := by decide +kernel
theorem dX5_hides_24 : decode cX5_hides 24 = .ok (.getfield 15, 3) := by decide +kernel
theorem dX5_hides_27 : decode cX5_hides 27 = .ok (.iconst 0, 1) := by decide +kernel
theorem dX5_hides_28 : decode cX5_hides 28 = .ok (.iaload, 1) := by decide +kernel
theorem dX5_hides_29 : decode cX5_hides 29 = .ok (.iload_n 3, 1) := by decide +kernel
theorem dX5_hides_30 : decode cX5_hides 30 = .ok (.isub, 1) := by decide +kernel
theorem dX5_hides_31 : decode cX5_hides 31 = .ok (.aload_n 0, 1) := by decide +kernel
theorem dX5_hides_32 : decode cX5_hides 32 = .ok (.getfield 15, 3) := by decide +kernel
theorem dX5_hides_35 : decode cX5_hides 35 = .ok (.iconst 1, 1) := by decide +kernel
theorem dX5_hides_36 : decode cX5_hides 36 = .ok (.iaload, 1) := by decide +kernel
theorem dX5_hides_37 : decode cX5_hides 37 = .ok (.if_icmp .gt 7, 3) := by decide +kernel
theorem dX5_hides_40 : decode cX5_hides 40 = .ok (.iconst 1, 1) := by decide +kernel
theorem dX5_hides_41 : decode cX5_hides 41 = .ok (.goto 4, 3) := by decide +kernel
theorem dX5_hides_44 : decode cX5_hides 44 = .ok (.iconst 0, 1) := by decide +kernel
theorem dX5_hides_45 : decode cX5_hides 45 = .ok (.ireturn, 1) := by decide +kernel
set_option maxRecDepth 20000 in
theorem ggX5_sees_X5_rangeOf : GoodIn wsX5_sees wsX5_rangeOf := goodIn_r _ [7, 8, 16, 17, 18, 19, 20, 21, 22, 23, 24, 25, 26, 27, 28] (by decide +kernel) (by decide +kernel)
set_option maxRecDepth 20000 in
theorem gX5_sees_X5_rangeOf : GoodIn wsX5_sees (wsV RX5 84 RX5 yX5_rangeOf wsX5_rangeOf) := goodIn_app (goodIn_of _ (by decide +kernel)) ggX5_sees_X5_rangeOf
set_option maxRecDepth 20000 in
theorem ggX5_sees_X10_rest : GoodIn wsX5_sees wsX10_rest := goodIn_r _ [11] (by decide +kernel) (by decide +kernel)
set_option maxRecDepth 20000 in
theorem gX5_sees_X10_rest_n88 : GoodIn wsX5_sees (wsX10_rest) := ggX5_sees_X10_rest
set_option maxRecDepth 20000 in
theorem ggX5_sees_X5_hides : GoodIn wsX5_sees wsX5_hides := goodIn_r _ [15, 1, 9, 10, 11, 16, 17, 18, 19, 20, 21, 22, 23, 24, 25, 26, 27, 28] (by decide +kernel) (by decide +kernel)
set_option maxRecDepth 20000 in
theorem gX5_sees_X5_hides : GoodIn wsX5_sees (wsV RX5 91 RX5 yX5_hides wsX5_hides) := goodIn_app (goodIn_of _ (by decide +kernel)) ggX5_sees_X5_hides
theorem dX5_sees_0 : decode cX5_sees 0 = .ok (.aload_n 0, 1) := by decide +kernel
theorem dX5_sees_1 : decode cX5_sees 1 = .ok (.iload_n 1, 1) := by decide +kernel
theorem dX5_sees_2 : decode cX5_sees 2 = .ok (.invokevirtual 84, 3) := by decide +kernel
theorem dX5_sees_5 : decode cX5_sees 5 = .ok (.iload_n 2, 1) := by decide +kernel
theorem dX5_sees_6 : decode cX5_sees 6 = .ok (.invokestatic 88, 3) := by decide +kernel
theorem dX5_sees_9 : decode cX5_sees 9 = .ok (.aload_n 0, 1) := by decide +kernel
theorem dX5_sees_10 : decode cX5_sees 10 = .ok (.getfield 15, 3) := by decide +kernel
theorem dX5_sees_13 : decode cX5_sees 13 = .ok (.iconst 2, 1) := by decide +kernel
theorem dX5_sees_14 : decode cX5_sees 14 = .ok (.iaload, 1) := by decide +kernel
theorem dX5_sees_15 : decode cX5_sees 15 = .ok (.if_icmp .lt 21, 3) := by decide +kernel
theorem dX5_sees_18 : decode cX5_sees 18 = .ok (.aload_n 0, 1) := by decide +kernel
theorem dX5_sees_19 : decode cX5_sees 19 = .ok (.aload_n 0, 1) := by decide +kernel
theorem dX5_sees_20 : decode cX5_sees 20 = .ok (.getfield 21, 3) := by decide +kernel
theorem dX5_sees_23 : decode cX5_sees 23 = .ok (.iload_n 1, 1) := by decide +kernel
theorem dX5_sees_24 : decode cX5_sees 24 = .ok (.iaload, 1) := by decide +kernel
theorem dX5_sees_25 : decode cX5_sees 25 = .ok (.iload_n 2, 1) := by decide +kernel
theorem dX5_sees_26 : decode cX5_sees 26 = .ok (.invokevirtual 91, 3) := by decide +kernel
theorem dX5_sees_29 : decode cX5_sees 29 = .ok (.ifCond .ne 7, 3) := by decide +kernel
theorem dX5_sees_32 : decode cX5_sees 32 = .ok (.iconst 1, 1) := by decide +kernel
theorem dX5_sees_33 : decode cX5_sees 33 = .ok (.goto 4, 3) := by decide +kernel
theorem dX5_sees_36 : decode cX5_sees 36 = .ok (.iconst 0, 1) := by decide +kernel
theorem dX5_sees_37 : decode cX5_sees 37 = .ok (.ireturn, 1) := by decide +kernel
set_option maxRecDepth 20000 in
theorem ggX5_targetsSeenBy_X5_sees : GoodIn wsX5_targetsSeenBy wsX5_sees := goodIn_r _ [6, 7, 8, 9, 10, 11, 5, 12, 13, 14, 15, 16, 17, 18, 19, 20, 21, 22, 23, 24, 25, 26, 27, 28, 29, 30, 31, 32, 33] (by decide +kernel) (by decide +kernel)
set_option maxRecDepth 20000 in
theorem gX5_targetsSeenBy_X5_sees : GoodIn wsX5_targetsSeenBy (wsV RX5 95 RX5 yX5_sees wsX5_sees) := goodIn_app (goodIn_of _ (by decide +kernel)) ggX5_targetsSeenBy_X5_sees
theorem dX5_targetsSeenBy_0 : decode cX5_targetsSeenBy 0 = .ok (.iconst 0, 1) := by decide +kernel
theorem dX5_targetsSeenBy_1 : decode cX5_targetsSeenBy 1 = .ok (.istore_n 2, 1) := by decide +kernel
theorem dX5_targetsSeenBy_2 : decode cX5_targetsSeenBy 2 = .ok (.iconst 0, 1) := by decide +kernel
theorem dX5_targetsSeenBy_3 : decode cX5_targetsSeenBy 3 = .ok (.istore_n 3, 1) := by decide +kernel
theorem dX5_targetsSeenBy_4 : decode cX5_targetsSeenBy 4 = .ok (.iload_n 3, 1) := by decide +kernel
theorem dX5_targetsSeenBy_5 : decode cX5_targetsSeenBy 5 = .ok (.aload_n 0, 1) := by decide +kernel
theorem dX5_targetsSeenBy_6 : decode cX5_targetsSeenBy 6 = .ok (.getfield 49, 3) := by decide +kernel
theorem dX5_targetsSeenBy_9 : decode cX5_targetsSeenBy 9 = .ok (.if_icmp .ge 24, 3) := by decide +kernel
theorem dX5_targetsSeenBy_12 : decode cX5_targetsSeenBy 12 = .ok (.aload_n 0, 1) := by decide +kernel
theorem dX5_targetsSeenBy_13 : decode cX5_targetsSeenBy 13 = .ok (.iload_n 3, 1) := by decide +kernel
theorem dX5_targetsSeenBy_14 : decode cX5_targetsSeenBy 14 = .ok (.iload_n 1, 1) := by decide +kernel
theorem dX5_targetsSeenBy_15 : decode cX5_targetsSeenBy 15 = .ok (.invokevirtual 95, 3) := by decide +kernel
theorem dX5_targetsSeenBy_18 : decode cX5_targetsSeenBy 18 = .ok (.ifCond .eq 9, 3) := by decide +kernel
theorem dX5_targetsSeenBy_21 : decode cX5_targetsSeenBy 21 = .ok (.iload_n 2, 1) := by decide +kernel
theorem dX5_targetsSeenBy_22 : decode cX5_targetsSeenBy 22 = .ok (.iconst 1, 1) := by decide +kernel
theorem dX5_targetsSeenBy_23 : decode cX5_targetsSeenBy 23 = .ok (.iload_n 3, 1) := by decide +kernel
theorem dX5_targetsSeenBy_24 : decode cX5_targetsSeenBy 24 = .ok (.ishl, 1) := by decide +kernel
theorem dX5_targetsSeenBy_25 : decode cX5_targetsSeenBy 25 = .ok (.ior, 1) := by decide +kernel
theorem dX5_targetsSeenBy_26 : decode cX5_targetsSeenBy 26 = .ok (.istore_n 2, 1) := by decide +kernel
theorem dX5_targetsSeenBy_27 : decode cX5_targetsSeenBy 27 = .ok (.iinc 3 1, 3) := by decide +kernel
theorem dX5_targetsSeenBy_30 : decode cX5_targetsSeenBy 30 = .ok (.goto (-26), 3) := by decide +kernel
theorem dX5_targetsSeenBy_33 : decode cX5_targetsSeenBy 33 = .ok (.iload_n 2, 1) := by decide +kernel
theorem dX5_targetsSeenBy_34 : decode cX5_targetsSeenBy 34 = .ok (.ireturn, 1) := by decide +kernel
set_option maxRecDepth 20000 in
theorem ggX5_gapsThatSee_X5_sees : GoodIn wsX5_gapsThatSee wsX5_sees := goodIn_r _ [7, 8, 9, 10, 11, 12, 6, 13, 14, 15, 16, 17, 18, 19, 20, 21, 22, 23, 24, 25, 26, 27, 28, 29, 30, 31, 32, 33, 34] (by decide +kernel) (by decide +kernel)
set_option maxRecDepth 20000 in
theorem gX5_gapsThatSee_X5_sees : GoodIn wsX5_gapsThatSee (wsV RX5 95 RX5 yX5_sees wsX5_sees) := goodIn_app (goodIn_of _ (by decide +kernel)) ggX5_gapsThatSee_X5_sees
theorem dX5_gapsThatSee_0 : decode cX5_gapsThatSee 0 = .ok (.iconst 0, 1) := by decide +kernel
theorem dX5_gapsThatSee_1 : decode cX5_gapsThatSee 1 = .ok (.istore_n 2, 1) := by decide +kernel
theorem dX5_gapsThatSee_2 : decode cX5_gapsThatSee 2 = .ok (.iconst 0, 1) := by decide +kernel
theorem dX5_gapsThatSee_3 : decode cX5_gapsThatSee 3 = .ok (.istore_n 3, 1) := by decide +kernel
theorem dX5_gapsThatSee_4 : decode cX5_gapsThatSee 4 = .ok (.iload_n 3, 1) := by decide +kernel
theorem dX5_gapsThatSee_5 : decode cX5_gapsThatSee 5 = .ok (.aload_n 0, 1) := by decide +kernel
theorem dX5_gapsThatSee_6 : decode cX5_gapsThatSee 6 = .ok (.getfield 45, 3) := by decide +kernel
theorem dX5_gapsThatSee_9 : decode cX5_gapsThatSee 9 = .ok (.if_icmp .ge 29, 3) := by decide +kernel
theorem dX5_gapsThatSee_12 : decode cX5_gapsThatSee 12 = .ok (.aload_n 0, 1) := by decide +kernel
theorem dX5_gapsThatSee_13 : decode cX5_gapsThatSee 13 = .ok (.iload_n 1, 1) := by decide +kernel
theorem dX5_gapsThatSee_14 : decode cX5_gapsThatSee 14 = .ok (.aload_n 0, 1) := by decide +kernel
theorem dX5_gapsThatSee_15 : decode cX5_gapsThatSee 15 = .ok (.getfield 9, 3) := by decide +kernel
theorem dX5_gapsThatSee_18 : decode cX5_gapsThatSee 18 = .ok (.iload_n 3, 1) := by decide +kernel
theorem dX5_gapsThatSee_19 : decode cX5_gapsThatSee 19 = .ok (.iaload, 1) := by decide +kernel
theorem dX5_gapsThatSee_20 : decode cX5_gapsThatSee 20 = .ok (.invokevirtual 95, 3) := by decide +kernel
theorem dX5_gapsThatSee_23 : decode cX5_gapsThatSee 23 = .ok (.ifCond .eq 9, 3) := by decide +kernel
theorem dX5_gapsThatSee_26 : decode cX5_gapsThatSee 26 = .ok (.iload_n 2, 1) := by decide +kernel
theorem dX5_gapsThatSee_27 : decode cX5_gapsThatSee 27 = .ok (.iconst 1, 1) := by decide +kernel
theorem dX5_gapsThatSee_28 : decode cX5_gapsThatSee 28 = .ok (.iload_n 3, 1) := by decide +kernel
theorem dX5_gapsThatSee_29 : decode cX5_gapsThatSee 29 = .ok (.ishl, 1) := by decide +kernel
theorem dX5_gapsThatSee_30 : decode cX5_gapsThatSee 30 = .ok (.ior, 1) := by decide +kernel
theorem dX5_gapsThatSee_31 : decode cX5_gapsThatSee 31 = .ok (.istore_n 2, 1) := by decide +kernel
theorem dX5_gapsThatSee_32 : decode cX5_gapsThatSee 32 = .ok (.iinc 3 1, 3) := by decide +kernel
theorem dX5_gapsThatSee_35 : decode cX5_gapsThatSee 35 = .ok (.goto (-31), 3) := by decide +kernel
theorem dX5_gapsThatSee_38 : decode cX5_gapsThatSee 38 = .ok (.iload_n 2, 1) := by decide +kernel
theorem dX5_gapsThatSee_39 : decode cX5_gapsThatSee 39 = .ok (.ireturn, 1) := by decide +kernel
set_option maxRecDepth 20000 in
theorem ggX5_findsAfter_X5_spotAfter : GoodIn wsX5_findsAfter wsX5_spotAfter := goodIn_r _ [9, 10, 11, 27, 28, 29, 30, 31, 32, 33, 34, 35, 36, 37, 38, 39] (by decide +kernel) (by decide +kernel)
set_option maxRecDepth 20000 in
theorem gX5_findsAfter_X5_spotAfter : GoodIn wsX5_findsAfter (wsV RX5 68 RX5 yX5_spotAfter wsX5_spotAfter) := goodIn_app (goodIn_of _ (by decide +kernel)) ggX5_findsAfter_X5_spotAfter
set_option maxRecDepth 20000 in
theorem ggX5_findsAfter_X10_isWithin : GoodIn wsX5_findsAfter wsX10_isWithin := goodIn_r _ [14] (by decide +kernel) (by decide +kernel)
set_option maxRecDepth 20000 in
theorem gX5_findsAfter_X10_isWithin_n73 : GoodIn wsX5_findsAfter (wsX10_isWithin) := ggX5_findsAfter_X10_isWithin
set_option maxRecDepth 20000 in
theorem ggX5_findsAfter_X10_rest : GoodIn wsX5_findsAfter wsX10_rest := goodIn_r _ [16] (by decide +kernel) (by decide +kernel)
set_option maxRecDepth 20000 in
theorem gX5_findsAfter_X10_rest_n88 : GoodIn wsX5_findsAfter (wsX10_rest) := ggX5_findsAfter_X10_rest
set_option maxRecDepth 20000 in
theorem ggX5_findsAfter_X5_loudAfter : GoodIn wsX5_findsAfter wsX5_loudAfter := goodIn_r _ [20, 2, 21, 1, 11, 22, 5, 6, 7, 8, 9, 10, 12, 13, 14, 15, 16, 23, 24, 25, 26, 27, 28, 29, 30, 31, 32, 33, 34, 35, 36, 37, 38, 39] (by decide +kernel) (by decide +kernel)
set_option maxRecDepth 20000 in
theorem gX5_findsAfter_X5_loudAfter : GoodIn wsX5_findsAfter (wsV RX5 98 RX5 yX5_loudAfter wsX5_loudAfter) := goodIn_app (goodIn_of _ (by decide +kernel)) ggX5_findsAfter_X5_loudAfter
theorem dX5_findsAfter_0 : decode cX5_findsAfter 0 = .ok (.aload_n 0, 1) := by decide +kernel
theorem dX5_findsAfter_1 : decode cX5_findsAfter 1 = .ok (.iload_n 1, 1) := by decide +kernel
theorem dX5_findsAfter_2 : decode cX5_findsAfter 2 = .ok (.iload_n 2, 1) := by decide +kernel
theorem dX5_findsAfter_3 : decode cX5_findsAfter 3 = .ok (.invokevirtual 68, 3) := by decide +kernel
theorem dX5_findsAfter_6 : decode cX5_findsAfter 6 = .ok (.istore_n 3, 1) := by decide +kernel
theorem dX5_findsAfter_7 : decode cX5_findsAfter 7 = .ok (.iload_n 3, 1) := by decide +kernel
theorem dX5_findsAfter_8 : decode cX5_findsAfter 8 = .ok (.iconst 0, 1) := by decide +kernel
theorem dX5_findsAfter_9 : decode cX5_findsAfter 9 = .ok (.ldc 72, 2) := by decide +kernel
theorem dX5_findsAfter_11 : decode cX5_findsAfter 11 = .ok (.invokestatic 73, 3) := by decide +kernel
theorem dX5_findsAfter_14 : decode cX5_findsAfter 14 = .ok (.ifCond .eq 16, 3) := by decide +kernel
theorem dX5_findsAfter_17 : decode cX5_findsAfter 17 = .ok (.iload_n 3, 1) := by decide +kernel
theorem dX5_findsAfter_18 : decode cX5_findsAfter 18 = .ok (.bipush 16, 2) := by decide +kernel
theorem dX5_findsAfter_20 : decode cX5_findsAfter 20 = .ok (.idiv, 1) := by decide +kernel
theorem dX5_findsAfter_21 : decode cX5_findsAfter 21 = .ok (.aload_n 0, 1) := by decide +kernel
theorem dX5_findsAfter_22 : decode cX5_findsAfter 22 = .ok (.getfield 15, 3) := by decide +kernel
theorem dX5_findsAfter_25 : decode cX5_findsAfter 25 = .ok (.iconst 3, 1) := by decide +kernel
theorem dX5_findsAfter_26 : decode cX5_findsAfter 26 = .ok (.iaload, 1) := by decide +kernel
theorem dX5_findsAfter_27 : decode cX5_findsAfter 27 = .ok (.if_icmp .lt 5, 3) := by decide +kernel
theorem dX5_findsAfter_30 : decode cX5_findsAfter 30 = .ok (.iconst 0, 1) := by decide +kernel
theorem dX5_findsAfter_31 : decode cX5_findsAfter 31 = .ok (.ireturn, 1) := by decide +kernel
theorem dX5_findsAfter_32 : decode cX5_findsAfter 32 = .ok (.iconst 0, 1) := by decide +kernel
theorem dX5_findsAfter_33 : decode cX5_findsAfter 33 = .ok (.istore 4, 2) := by decide +kernel
theorem dX5_findsAfter_35 : decode cX5_findsAfter 35 = .ok (.iconst 0, 1) := by decide +kernel
theorem dX5_findsAfter_36 : decode cX5_findsAfter 36 = .ok (.istore 5, 2) := by decide +kernel
theorem dX5_findsAfter_38 : decode cX5_findsAfter 38 = .ok (.iload 5, 2) := by decide +kernel
theorem dX5_findsAfter_40 : decode cX5_findsAfter 40 = .ok (.aload_n 0, 1) := by decide +kernel
theorem dX5_findsAfter_41 : decode cX5_findsAfter 41 = .ok (.getfield 45, 3) := by decide +kernel
theorem dX5_findsAfter_44 : decode cX5_findsAfter 44 = .ok (.if_icmp .ge 52, 3) := by decide +kernel
theorem dX5_findsAfter_47 : decode cX5_findsAfter 47 = .ok (.iload_n 3, 1) := by decide +kernel
theorem dX5_findsAfter_48 : decode cX5_findsAfter 48 = .ok (.bipush 16, 2) := by decide +kernel
theorem dX5_findsAfter_50 : decode cX5_findsAfter 50 = .ok (.idiv, 1) := by decide +kernel
theorem dX5_findsAfter_51 : decode cX5_findsAfter 51 = .ok (.aload_n 0, 1) := by decide +kernel
theorem dX5_findsAfter_52 : decode cX5_findsAfter 52 = .ok (.getfield 9, 3) := by decide +kernel
theorem dX5_findsAfter_55 : decode cX5_findsAfter 55 = .ok (.iload 5, 2) := by decide +kernel
theorem dX5_findsAfter_57 : decode cX5_findsAfter 57 = .ok (.iaload, 1) := by decide +kernel
theorem dX5_findsAfter_58 : decode cX5_findsAfter 58 = .ok (.invokestatic 88, 3) := by decide +kernel
theorem dX5_findsAfter_61 : decode cX5_findsAfter 61 = .ok (.istore 6, 2) := by decide +kernel
theorem dX5_findsAfter_63 : decode cX5_findsAfter 63 = .ok (.aload_n 0, 1) := by decide +kernel
theorem dX5_findsAfter_64 : decode cX5_findsAfter 64 = .ok (.aload_n 0, 1) := by decide +kernel
theorem dX5_findsAfter_65 : decode cX5_findsAfter 65 = .ok (.getfield 9, 3) := by decide +kernel
theorem dX5_findsAfter_68 : decode cX5_findsAfter 68 = .ok (.iload 5, 2) := by decide +kernel
theorem dX5_findsAfter_70 : decode cX5_findsAfter 70 = .ok (.iaload, 1) := by decide +kernel
theorem dX5_findsAfter_71 : decode cX5_findsAfter 71 = .ok (.iload 6, 2) := by decide +kernel
theorem dX5_findsAfter_73 : decode cX5_findsAfter 73 = .ok (.iload_n 2, 1) := by decide +kernel
theorem dX5_findsAfter_74 : decode cX5_findsAfter 74 = .ok (.invokevirtual 98, 3) := by decide +kernel
theorem dX5_findsAfter_77 : decode cX5_findsAfter 77 = .ok (.aload_n 0, 1) := by decide +kernel
theorem dX5_findsAfter_78 : decode cX5_findsAfter 78 = .ok (.getfield 15, 3) := by decide +kernel
theorem dX5_findsAfter_81 : decode cX5_findsAfter 81 = .ok (.bipush 6, 2) := by decide +kernel
theorem dX5_findsAfter_83 : decode cX5_findsAfter 83 = .ok (.iaload, 1) := by decide +kernel
theorem dX5_findsAfter_84 : decode cX5_findsAfter 84 = .ok (.if_icmp .lt 6, 3) := by decide +kernel
theorem dX5_findsAfter_87 : decode cX5_findsAfter 87 = .ok (.iinc 4 1, 3) := by decide +kernel
theorem dX5_findsAfter_90 : decode cX5_findsAfter 90 = .ok (.iinc 5 1, 3) := by decide +kernel
theorem dX5_findsAfter_93 : decode cX5_findsAfter 93 = .ok (.goto (-55), 3) := by decide +kernel
theorem dX5_findsAfter_96 : decode cX5_findsAfter 96 = .ok (.iload 4, 2) := by decide +kernel
theorem dX5_findsAfter_98 : decode cX5_findsAfter 98 = .ok (.aload_n 0, 1) := by decide +kernel
theorem dX5_findsAfter_99 : decode cX5_findsAfter 99 = .ok (.getfield 15, 3) := by decide +kernel
theorem dX5_findsAfter_102 : decode cX5_findsAfter 102 = .ok (.iconst 4, 1) := by decide +kernel
theorem dX5_findsAfter_103 : decode cX5_findsAfter 103 = .ok (.iaload, 1) := by decide +kernel
theorem dX5_findsAfter_104 : decode cX5_findsAfter 104 = .ok (.if_icmp .lt 7, 3) := by decide +kernel
theorem dX5_findsAfter_107 : decode cX5_findsAfter 107 = .ok (.iconst 1, 1) := by decide +kernel
theorem dX5_findsAfter_108 : decode cX5_findsAfter 108 = .ok (.goto 4, 3) := by decide +kernel
theorem dX5_findsAfter_111 : decode cX5_findsAfter 111 = .ok (.iconst 0, 1) := by decide +kernel
theorem dX5_findsAfter_112 : decode cX5_findsAfter 112 = .ok (.ireturn, 1) := by decide +kernel
set_option maxRecDepth 20000 in
theorem ggX5_loudAfter_X5_spotAfter : GoodIn wsX5_loudAfter wsX5_spotAfter := goodIn_r _ [10, 11, 4, 21, 22, 23, 24, 25, 26, 27, 28, 29, 30, 31, 32, 33] (by decide +kernel) (by decide +kernel)
set_option maxRecDepth 20000 in
theorem gX5_loudAfter_X5_spotAfter : GoodIn wsX5_loudAfter (wsV RX5 68 RX5 yX5_spotAfter wsX5_spotAfter) := goodIn_app (goodIn_of _ (by decide +kernel)) ggX5_loudAfter_X5_spotAfter
set_option maxRecDepth 20000 in
theorem ggX5_loudAfter_X10_isWithin : GoodIn wsX5_loudAfter wsX10_isWithin := goodIn_r _ [14] (by decide +kernel) (by decide +kernel)
set_option maxRecDepth 20000 in
theorem gX5_loudAfter_X10_isWithin_n73 : GoodIn wsX5_loudAfter (wsX10_isWithin) := ggX5_loudAfter_X10_isWithin
set_option maxRecDepth 20000 in
theorem ggX5_loudAfter_X10_rest : GoodIn wsX5_loudAfter wsX10_rest := goodIn_r _ [16] (by decide +kernel) (by decide +kernel)
set_option maxRecDepth 20000 in
theorem gX5_loudAfter_X10_rest_n88 : GoodIn wsX5_loudAfter (wsX10_rest) := ggX5_loudAfter_X10_rest
set_option maxRecDepth 20000 in
theorem ggX5_loudAfter_X5_hides : GoodIn wsX5_loudAfter wsX5_hides := goodIn_r _ [20, 1, 15, 13, 16, 21, 22, 23, 24, 25, 26, 27, 28, 29, 30, 31, 32, 33] (by decide +kernel) (by decide +kernel)
set_option maxRecDepth 20000 in
theorem gX5_loudAfter_X5_hides : GoodIn wsX5_loudAfter (wsV RX5 91 RX5 yX5_hides wsX5_hides) := goodIn_app (goodIn_of _ (by decide +kernel)) ggX5_loudAfter_X5_hides
theorem dX5_loudAfter_0 : decode cX5_loudAfter 0 = .ok (.iload_n 2, 1) := by decide +kernel
theorem dX5_loudAfter_1 : decode cX5_loudAfter 1 = .ok (.aload_n 0, 1) := by decide +kernel
theorem dX5_loudAfter_2 : decode cX5_loudAfter 2 = .ok (.getfield 15, 3) := by decide +kernel
theorem dX5_loudAfter_5 : decode cX5_loudAfter 5 = .ok (.iconst 2, 1) := by decide +kernel
theorem dX5_loudAfter_6 : decode cX5_loudAfter 6 = .ok (.iaload, 1) := by decide +kernel
theorem dX5_loudAfter_7 : decode cX5_loudAfter 7 = .ok (.if_icmp .ge 5, 3) := by decide +kernel
theorem dX5_loudAfter_10 : decode cX5_loudAfter 10 = .ok (.iconst 0, 1) := by decide +kernel
theorem dX5_loudAfter_11 : decode cX5_loudAfter 11 = .ok (.ireturn, 1) := by decide +kernel
theorem dX5_loudAfter_12 : decode cX5_loudAfter 12 = .ok (.iconst 0, 1) := by decide +kernel
theorem dX5_loudAfter_13 : decode cX5_loudAfter 13 = .ok (.istore 4, 2) := by decide +kernel
theorem dX5_loudAfter_15 : decode cX5_loudAfter 15 = .ok (.iconst 0, 1) := by decide +kernel
theorem dX5_loudAfter_16 : decode cX5_loudAfter 16 = .ok (.istore 5, 2) := by decide +kernel
theorem dX5_loudAfter_18 : decode cX5_loudAfter 18 = .ok (.iload 5, 2) := by decide +kernel
theorem dX5_loudAfter_20 : decode cX5_loudAfter 20 = .ok (.aload_n 0, 1) := by decide +kernel
theorem dX5_loudAfter_21 : decode cX5_loudAfter 21 = .ok (.getfield 49, 3) := by decide +kernel
theorem dX5_loudAfter_24 : decode cX5_loudAfter 24 = .ok (.if_icmp .ge 73, 3) := by decide +kernel
theorem dX5_loudAfter_27 : decode cX5_loudAfter 27 = .ok (.aload_n 0, 1) := by decide +kernel
theorem dX5_loudAfter_28 : decode cX5_loudAfter 28 = .ok (.iload 5, 2) := by decide +kernel
theorem dX5_loudAfter_30 : decode cX5_loudAfter 30 = .ok (.iload_n 3, 1) := by decide +kernel
theorem dX5_loudAfter_31 : decode cX5_loudAfter 31 = .ok (.invokevirtual 68, 3) := by decide +kernel
theorem dX5_loudAfter_34 : decode cX5_loudAfter 34 = .ok (.istore 6, 2) := by decide +kernel
theorem dX5_loudAfter_36 : decode cX5_loudAfter 36 = .ok (.iload 6, 2) := by decide +kernel
theorem dX5_loudAfter_38 : decode cX5_loudAfter 38 = .ok (.iconst 0, 1) := by decide +kernel
theorem dX5_loudAfter_39 : decode cX5_loudAfter 39 = .ok (.ldc 72, 2) := by decide +kernel
theorem dX5_loudAfter_41 : decode cX5_loudAfter 41 = .ok (.invokestatic 73, 3) := by decide +kernel
theorem dX5_loudAfter_44 : decode cX5_loudAfter 44 = .ok (.istore 7, 2) := by decide +kernel
theorem dX5_loudAfter_46 : decode cX5_loudAfter 46 = .ok (.iload 7, 2) := by decide +kernel
theorem dX5_loudAfter_48 : decode cX5_loudAfter 48 = .ok (.ifCond .eq 43, 3) := by decide +kernel
theorem dX5_loudAfter_51 : decode cX5_loudAfter 51 = .ok (.iload 6, 2) := by decide +kernel
theorem dX5_loudAfter_53 : decode cX5_loudAfter 53 = .ok (.bipush 16, 2) := by decide +kernel
theorem dX5_loudAfter_55 : decode cX5_loudAfter 55 = .ok (.idiv, 1) := by decide +kernel
theorem dX5_loudAfter_56 : decode cX5_loudAfter 56 = .ok (.iload_n 1, 1) := by decide +kernel
theorem dX5_loudAfter_57 : decode cX5_loudAfter 57 = .ok (.invokestatic 88, 3) := by decide +kernel
theorem dX5_loudAfter_60 : decode cX5_loudAfter 60 = .ok (.iload_n 2, 1) := by decide +kernel
theorem dX5_loudAfter_61 : decode cX5_loudAfter 61 = .ok (.if_icmp .ne 30, 3) := by decide +kernel
theorem dX5_loudAfter_64 : decode cX5_loudAfter 64 = .ok (.aload_n 0, 1) := by decide +kernel
theorem dX5_loudAfter_65 : decode cX5_loudAfter 65 = .ok (.aload_n 0, 1) := by decide +kernel
theorem dX5_loudAfter_66 : decode cX5_loudAfter 66 = .ok (.getfield 21, 3) := by decide +kernel
theorem dX5_loudAfter_69 : decode cX5_loudAfter 69 = .ok (.iload 5, 2) := by decide +kernel
theorem dX5_loudAfter_71 : decode cX5_loudAfter 71 = .ok (.iaload, 1) := by decide +kernel
theorem dX5_loudAfter_72 : decode cX5_loudAfter 72 = .ok (.iload_n 1, 1) := by decide +kernel
theorem dX5_loudAfter_73 : decode cX5_loudAfter 73 = .ok (.invokevirtual 91, 3) := by decide +kernel
theorem dX5_loudAfter_76 : decode cX5_loudAfter 76 = .ok (.ifCond .ne 15, 3) := by decide +kernel
theorem dX5_loudAfter_79 : decode cX5_loudAfter 79 = .ok (.iload 4, 2) := by decide +kernel
theorem dX5_loudAfter_81 : decode cX5_loudAfter 81 = .ok (.aload_n 0, 1) := by decide +kernel
theorem dX5_loudAfter_82 : decode cX5_loudAfter 82 = .ok (.getfield 24, 3) := by decide +kernel
theorem dX5_loudAfter_85 : decode cX5_loudAfter 85 = .ok (.iload 5, 2) := by decide +kernel
theorem dX5_loudAfter_87 : decode cX5_loudAfter 87 = .ok (.iaload, 1) := by decide +kernel
theorem dX5_loudAfter_88 : decode cX5_loudAfter 88 = .ok (.iadd, 1) := by decide +kernel
theorem dX5_loudAfter_89 : decode cX5_loudAfter 89 = .ok (.istore 4, 2) := by decide +kernel
theorem dX5_loudAfter_91 : decode cX5_loudAfter 91 = .ok (.iinc 5 1, 3) := by decide +kernel
theorem dX5_loudAfter_94 : decode cX5_loudAfter 94 = .ok (.goto (-76), 3) := by decide +kernel
theorem dX5_loudAfter_97 : decode cX5_loudAfter 97 = .ok (.iload 4, 2) := by decide +kernel
theorem dX5_loudAfter_99 : decode cX5_loudAfter 99 = .ok (.ireturn, 1) := by decide +kernel
theorem dX6_init_0 : decode cX6_init 0 = .ok (.aload_n 0, 1) := by decide +kernel
theorem dX6_init_1 : decode cX6_init 1 = .ok (.invokespecial 3, 3) := by decide +kernel
theorem dX6_init_4 : decode cX6_init 4 = .ok (.aload_n 0, 1) := by decide +kernel
theorem dX6_init_5 : decode cX6_init 5 = .ok (.iconst 3, 1) := by decide +kernel
theorem dX6_init_6 : decode cX6_init 6 = .ok (.newarray .int, 2) := by decide +kernel
theorem dX6_init_8 : decode cX6_init 8 = .ok (.putfield 9, 3) := by decide +kernel
theorem dX6_init_11 : decode cX6_init 11 = .ok (.return_, 1) := by decide +kernel
set_option maxRecDepth 20000 in
theorem ggX6_readInto_X5_begin : GoodIn wsX6_readInto wsX5_begin := goodIn_r _ [9, 10, 11, 12, 13, 14, 15, 16, 17, 18, 19, 162, 163, 164, 165, 166, 167, 168, 169, 170, 171, 172, 173, 174] (by decide +kernel) (by decide +kernel)
set_option maxRecDepth 20000 in
theorem gX6_readInto_X5_begin : GoodIn wsX6_readInto (wsV RX6 25 RX5 yX5_begin wsX5_begin) := goodIn_app (goodIn_of _ (by decide +kernel)) ggX6_readInto_X5_begin
set_option maxRecDepth 20000 in
theorem ggX6_readInto_X6_step : GoodIn wsX6_readInto wsX6_step := goodIn_r _ [24, 3, 25, 26, 27, 4, 28, 29, 23, 30, 31, 32, 33, 34, 35, 36, 37, 38, 39, 40, 41, 155, 156, 157, 158, 159, 160, 161, 175, 176, 177, 178] (by decide +kernel) (by decide +kernel)
set_option maxRecDepth 20000 in
theorem gX6_readInto_X6_step : GoodIn wsX6_readInto (wsV RX6 30 RX6 yX6_step wsX6_step) := goodIn_app (goodIn_of _ (by decide +kernel)) ggX6_readInto_X6_step
set_option maxRecDepth 20000 in
theorem ggX6_readInto_X6_readSentence : GoodIn wsX6_readInto wsX6_readSentence := goodIn_r _ [45, 4, 46, 41, 1, 47, 48, 49, 23, 50, 51, 52, 53, 54, 55, 56, 57, 3, 27, 26, 58, 59, 60, 61, 62, 63, 64, 65, 66, 67, 68, 69, 70, 71, 72, 73, 74, 75, 76, 77, 78, 79, 80, 81, 82, 83, 84, 85, 86, 87, 88, 89, 90, 91, 92, 93, 94, 95, 96, 97, 98, 99, 100, 101, 102, 103, 104, 105, 106, 107, 108, 109, 110, 2, 111, 112, 113, 114, 115, 116, 117, 118, 119, 20, 21, 22, 24, 25, 28, 29, 30, 31, 32, 33, 34, 35, 36, 37, 38, 39, 40, 120, 121, 122, 123, 124, 125, 126, 127, 128, 129, 130, 131, 132, 133, 134, 135, 136, 8, 137, 15, 138, 139, 140, 141, 142, 143, 144, 145, 146, 147, 148, 149, 150, 151, 16, 152, 153, 154, 155, 156, 157, 158, 159, 160, 161, 175, 176, 177, 178, 162, 163, 164, 165, 166, 167, 168, 169, 170, 171, 172, 173, 174] (by decide +kernel) (by decide +kernel)
set_option maxRecDepth 20000 in
theorem gX6_readInto_X6_readSentence : GoodIn wsX6_readInto (wsV RX6 37 RX6 yX6_readSentence wsX6_readSentence) := goodIn_app (goodIn_of _ (by decide +kernel)) ggX6_readInto_X6_readSentence
theorem dX6_readInto_0 : decode cX6_readInto 0 = .ok (.aload_n 0, 1) := by decide +kernel
theorem dX6_readInto_1 : decode cX6_readInto 1 = .ok (.iconst 0, 1) := by decide +kernel
theorem dX6_readInto_2 : decode cX6_readInto 2 = .ok (.putfield 15, 3) := by decide +kernel
theorem dX6_readInto_5 : decode cX6_readInto 5 = .ok (.aload_n 0, 1) := by decide +kernel
theorem dX6_readInto_6 : decode cX6_readInto 6 = .ok (.iconst (-1), 1) := by decide +kernel
theorem dX6_readInto_7 : decode cX6_readInto 7 = .ok (.putfield 19, 3) := by decide +kernel
theorem dX6_readInto_10 : decode cX6_readInto 10 = .ok (.aload_n 0, 1) := by decide +kernel
theorem dX6_readInto_11 : decode cX6_readInto 11 = .ok (.iconst 0, 1) := by decide +kernel
theorem dX6_readInto_12 : decode cX6_readInto 12 = .ok (.putfield 22, 3) := by decide +kernel
theorem dX6_readInto_15 : decode cX6_readInto 15 = .ok (.aload_n 2, 1) := by decide +kernel
theorem dX6_readInto_16 : decode cX6_readInto 16 = .ok (.invokevirtual 25, 3) := by decide +kernel
theorem dX6_readInto_19 : decode cX6_readInto 19 = .ok (.aload_n 0, 1) := by decide +kernel
theorem dX6_readInto_20 : decode cX6_readInto 20 = .ok (.aload_n 1, 1) := by decide +kernel
theorem dX6_readInto_21 : decode cX6_readInto 21 = .ok (.invokevirtual 30, 3) := by decide +kernel
theorem dX6_readInto_24 : decode cX6_readInto 24 = .ok (.iconst 0, 1) := by decide +kernel
theorem dX6_readInto_25 : decode cX6_readInto 25 = .ok (.istore_n 3, 1) := by decide +kernel
theorem dX6_readInto_26 : decode cX6_readInto 26 = .ok (.iload_n 3, 1) := by decide +kernel
theorem dX6_readInto_27 : decode cX6_readInto 27 = .ok (.sipush 400, 3) := by decide +kernel
theorem dX6_readInto_30 : decode cX6_readInto 30 = .ok (.if_icmp .ge 30, 3) := by decide +kernel
theorem dX6_readInto_33 : decode cX6_readInto 33 = .ok (.aload_n 0, 1) := by decide +kernel
theorem dX6_readInto_34 : decode cX6_readInto 34 = .ok (.getfield 34, 3) := by decide +kernel
theorem dX6_readInto_37 : decode cX6_readInto 37 = .ok (.ifCond .eq 23, 3) := by decide +kernel
theorem dX6_readInto_40 : decode cX6_readInto 40 = .ok (.aload_n 0, 1) := by decide +kernel
theorem dX6_readInto_41 : decode cX6_readInto 41 = .ok (.getfield 15, 3) := by decide +kernel
theorem dX6_readInto_44 : decode cX6_readInto 44 = .ok (.iconst 1, 1) := by decide +kernel
theorem dX6_readInto_45 : decode cX6_readInto 45 = .ok (.if_icmp .eq 15, 3) := by decide +kernel
theorem dX6_readInto_48 : decode cX6_readInto 48 = .ok (.aload_n 0, 1) := by decide +kernel
theorem dX6_readInto_49 : decode cX6_readInto 49 = .ok (.aload_n 1, 1) := by decide +kernel
theorem dX6_readInto_50 : decode cX6_readInto 50 = .ok (.aload_n 2, 1) := by decide +kernel
theorem dX6_readInto_51 : decode cX6_readInto 51 = .ok (.invokevirtual 37, 3) := by decide +kernel
theorem dX6_readInto_54 : decode cX6_readInto 54 = .ok (.iinc 3 1, 3) := by decide +kernel
theorem dX6_readInto_57 : decode cX6_readInto 57 = .ok (.goto (-31), 3) := by decide +kernel
theorem dX6_readInto_60 : decode cX6_readInto 60 = .ok (.return_, 1) := by decide +kernel
set_option maxRecDepth 20000 in
theorem ggX6_readSentence_X6_wordOf : GoodIn wsX6_readSentence wsX6_wordOf := goodIn_r _ [9, 10, 11, 8, 12, 13, 14, 15, 16, 17, 18, 19, 20, 21, 22, 23, 24, 25, 26, 27, 28, 29, 30, 31, 32, 33, 34, 35, 36, 37, 38, 39, 40, 41, 42, 43, 44, 45, 46, 47, 48, 49, 50, 51, 52, 53, 54, 55, 56, 57, 58, 59, 60, 61, 62, 63, 64, 65, 66, 67, 68, 139, 140, 141, 142, 143, 144, 145, 146, 147, 148, 149] (by decide +kernel) (by decide +kernel)
set_option maxRecDepth 20000 in
theorem gX6_readSentence_X6_wordOf : GoodIn wsX6_readSentence (wsV RX6 41 RX6 yX6_wordOf wsX6_wordOf) := goodIn_app (goodIn_of _ (by decide +kernel)) ggX6_readSentence_X6_wordOf
set_option maxRecDepth 20000 in
theorem ggX6_readSentence_X6_refuseToken : GoodIn wsX6_readSentence wsX6_refuseToken := goodIn_r _ [72, 4, 18, 73, 139, 140, 141, 142, 143, 144, 145] (by decide +kernel) (by decide +kernel)
set_option maxRecDepth 20000 in
theorem gX6_readSentence_X6_refuseToken : GoodIn wsX6_readSentence (wsV RX6 45 RX6 yX6_refuseToken wsX6_refuseToken) := goodIn_app (goodIn_of _ (by decide +kernel)) ggX6_readSentence_X6_refuseToken
set_option maxRecDepth 20000 in
theorem ggX6_readSentence_X6_isFull : GoodIn wsX6_readSentence wsX6_isFull := goodIn_r _ [76, 77, 78, 150, 151, 152, 153, 154, 155, 156, 157, 158, 159, 160, 161, 162] (by decide +kernel) (by decide +kernel)
set_option maxRecDepth 20000 in
theorem gX6_readSentence_X6_isFull : GoodIn wsX6_readSentence (va_wsS RX6 48 yX6_isFull wsX6_isFull) := goodIn_app (goodIn_of _ (by decide +kernel)) ggX6_readSentence_X6_isFull
set_option maxRecDepth 20000 in
theorem ggX6_readSentence_X6_noteFault : GoodIn wsX6_readSentence wsX6_noteFault := goodIn_r _ [82, 4, 18, 73, 139, 140, 141, 142, 143, 144, 145] (by decide +kernel) (by decide +kernel)
set_option maxRecDepth 20000 in
theorem gX6_readSentence_X6_noteFault : GoodIn wsX6_readSentence (wsV RX6 52 RX6 yX6_noteFault wsX6_noteFault) := goodIn_app (goodIn_of _ (by decide +kernel)) ggX6_readSentence_X6_noteFault
set_option maxRecDepth 20000 in
theorem ggX6_readSentence_X6_step : GoodIn wsX6_readSentence wsX6_step := goodIn_r _ [86, 17, 87, 19, 18, 1, 88, 89, 8, 90, 91, 92, 93, 94, 95, 96, 97, 98, 99, 100, 3, 139, 140, 141, 142, 143, 144, 145, 146, 147, 148, 149] (by decide +kernel) (by decide +kernel)
set_option maxRecDepth 20000 in
theorem gX6_readSentence_X6_step : GoodIn wsX6_readSentence (wsV RX6 30 RX6 yX6_step wsX6_step) := goodIn_app (goodIn_of _ (by decide +kernel)) ggX6_readSentence_X6_step
set_option maxRecDepth 20000 in
theorem ggX6_readSentence_X6_checkNumber : GoodIn wsX6_readSentence wsX6_checkNumber := goodIn_r _ [104, 3, 105, 106, 107, 8, 108, 109, 110, 111, 112, 113, 114, 79, 80, 81, 82, 4, 18, 73, 115, 116, 117, 118, 119, 120, 121, 139, 140, 141, 142, 143, 144, 145, 150, 151, 152, 153, 154, 155, 156, 157, 158, 159, 160, 161, 162] (by decide +kernel) (by decide +kernel)
set_option maxRecDepth 20000 in
theorem gX6_readSentence_X6_checkNumber : GoodIn wsX6_readSentence (wsV RX6 56 RX6 yX6_checkNumber wsX6_checkNumber) := goodIn_app (goodIn_of _ (by decide +kernel)) ggX6_readSentence_X6_checkNumber
set_option maxRecDepth 20000 in
theorem ggX6_readSentence_X6_apply : GoodIn wsX6_readSentence wsX6_apply := goodIn_r _ [125, 2, 126, 127, 128, 129, 118, 130, 120, 121, 131, 132, 133, 134, 135, 136, 137, 138, 139, 140, 141, 142, 143, 144, 145, 150, 151, 152, 153, 154, 155, 156, 157, 158, 159, 160, 161, 162] (by decide +kernel) (by decide +kernel)
set_option maxRecDepth 20000 in
theorem gX6_readSentence_X6_apply : GoodIn wsX6_readSentence (wsV RX6 63 RX6 yX6_apply wsX6_apply) := goodIn_app (goodIn_of _ (by decide +kernel)) ggX6_readSentence_X6_apply
theorem dX6_readSentence_0 : decode cX6_readSentence 0 = .ok (.aload_n 0, 1) := by decide +kernel
theorem dX6_readSentence_1 : decode cX6_readSentence 1 = .ok (.getfield 34, 3) := by decide +kernel
theorem dX6_readSentence_4 : decode cX6_readSentence 4 = .ok (.iconst 1, 1) := by decide +kernel
theorem dX6_readSentence_5 : decode cX6_readSentence 5 = .ok (.if_icmp .ne 11, 3) := by decide +kernel
theorem dX6_readSentence_8 : decode cX6_readSentence 8 = .ok (.aload_n 0, 1) := by decide +kernel
theorem dX6_readSentence_9 : decode cX6_readSentence 9 = .ok (.aload_n 1, 1) := by decide +kernel
theorem dX6_readSentence_10 : decode cX6_readSentence 10 = .ok (.invokevirtual 41, 3) := by decide +kernel
theorem dX6_readSentence_13 : decode cX6_readSentence 13 = .ok (.goto 4, 3) := by decide +kernel
theorem dX6_readSentence_16 : decode cX6_readSentence 16 = .ok (.iconst (-1), 1) := by decide +kernel
theorem dX6_readSentence_17 : decode cX6_readSentence 17 = .ok (.istore_n 3, 1) := by decide +kernel
theorem dX6_readSentence_18 : decode cX6_readSentence 18 = .ok (.iload_n 3, 1) := by decide +kernel
theorem dX6_readSentence_19 : decode cX6_readSentence 19 = .ok (.iconst (-1), 1) := by decide +kernel
theorem dX6_readSentence_20 : decode cX6_readSentence 20 = .ok (.if_icmp .ne 8, 3) := by decide +kernel
theorem dX6_readSentence_23 : decode cX6_readSentence 23 = .ok (.aload_n 0, 1) := by decide +kernel
theorem dX6_readSentence_24 : decode cX6_readSentence 24 = .ok (.invokevirtual 45, 3) := by decide +kernel
theorem dX6_readSentence_27 : decode cX6_readSentence 27 = .ok (.return_, 1) := by decide +kernel
theorem dX6_readSentence_28 : decode cX6_readSentence 28 = .ok (.aload_n 2, 1) := by decide +kernel
theorem dX6_readSentence_29 : decode cX6_readSentence 29 = .ok (.iload_n 3, 1) := by decide +kernel
theorem dX6_readSentence_30 : decode cX6_readSentence 30 = .ok (.invokestatic 48, 3) := by decide +kernel
theorem dX6_readSentence_33 : decode cX6_readSentence 33 = .ok (.ifCond .eq 8, 3) := by decide +kernel
theorem dX6_readSentence_36 : decode cX6_readSentence 36 = .ok (.aload_n 0, 1) := by decide +kernel
theorem dX6_readSentence_37 : decode cX6_readSentence 37 = .ok (.iconst 4, 1) := by decide +kernel
theorem dX6_readSentence_38 : decode cX6_readSentence 38 = .ok (.invokevirtual 52, 3) := by decide +kernel
theorem dX6_readSentence_41 : decode cX6_readSentence 41 = .ok (.aload_n 0, 1) := by decide +kernel
theorem dX6_readSentence_42 : decode cX6_readSentence 42 = .ok (.aload_n 1, 1) := by decide +kernel
theorem dX6_readSentence_43 : decode cX6_readSentence 43 = .ok (.invokevirtual 30, 3) := by decide +kernel
theorem dX6_readSentence_46 : decode cX6_readSentence 46 = .ok (.iload_n 3, 1) := by decide +kernel
theorem dX6_readSentence_47 : decode cX6_readSentence 47 = .ok (.bipush 8, 2) := by decide +kernel
theorem dX6_readSentence_49 : decode cX6_readSentence 49 = .ok (.if_icmp .eq 9, 3) := by decide +kernel
theorem dX6_readSentence_52 : decode cX6_readSentence 52 = .ok (.iload_n 3, 1) := by decide +kernel
theorem dX6_readSentence_53 : decode cX6_readSentence 53 = .ok (.bipush 9, 2) := by decide +kernel
theorem dX6_readSentence_55 : decode cX6_readSentence 55 = .ok (.if_icmp .ne 11, 3) := by decide +kernel
theorem dX6_readSentence_58 : decode cX6_readSentence 58 = .ok (.aload_n 0, 1) := by decide +kernel
theorem dX6_readSentence_59 : decode cX6_readSentence 59 = .ok (.getfield 9, 3) := by decide +kernel
theorem dX6_readSentence_62 : decode cX6_readSentence 62 = .ok (.arraylength, 1) := by decide +kernel
