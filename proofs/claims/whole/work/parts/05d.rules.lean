theorem fl_X5_15 : Cond.fieldLinkNest RX5 15 RX7 "words" "LTileWordBoard$Dictionary;" "TileWordBoard" ∈ nestL := by decide +kernel
theorem fl_X5_66 : Cond.fieldLinkNest RX5 66 RX7 "board" "LTileWordBoard$Board;" "TileWordBoard" ∈ nestL := by decide +kernel
theorem fl_X5_9 : Cond.fieldLink RX5 9 RX5 "table" "LTileWordBoard$Table;" ∈ tblG := tin 95 (by decide +kernel) (by decide +kernel)
theorem LB_X4_without : LB yX4_without cX4_without 2 (some .int) 2 := ⟨tin 334 (by decide +kernel) (by decide +kernel), tin 18 (by decide +kernel) (by decide +kernel), by decide, by decide, by decide, by decide +kernel⟩
theorem lk_X5_102 : Cond.methodLink RX5 102 yX4_without ∈ tblG ∧ Cond.static yX4_without ∈ tblG := ⟨tin 332 (by decide +kernel) (by decide +kernel), tin 333 (by decide +kernel) (by decide +kernel)⟩
theorem LB_X0_wordThrough : LB yX0_wordThrough cX0_wordThrough 7 (some .int) 3 := ⟨tin 345 (by decide +kernel) (by decide +kernel), tin 4 (by decide +kernel) (by decide +kernel), by decide, by decide, by decide, by decide +kernel⟩
theorem lk_X5_105 : Cond.methodLink RX5 105 yX0_wordThrough ∈ tblG ∧ Cond.instanceMethod yX0_wordThrough ∈ tblG ∧ Cond.selects yX0_wordThrough.cls yX0_wordThrough yX0_wordThrough ∈ tblG := ⟨tin 342 (by decide +kernel) (by decide +kernel), tin 343 (by decide +kernel) (by decide +kernel), tin 344 (by decide +kernel) (by decide +kernel)⟩
theorem LB_X5_mayStand : LB yX5_mayStand cX5_mayStand 2 (some .boolean) 1 := ⟨tin 353 (by decide +kernel) (by decide +kernel), tin 5 (by decide +kernel) (by decide +kernel), by decide, by decide, by decide, by decide +kernel⟩
theorem lk_X5_108 : Cond.methodLink RX5 108 yX5_mayStand ∈ tblG ∧ Cond.instanceMethod yX5_mayStand ∈ tblG ∧ Cond.selects yX5_mayStand.cls yX5_mayStand yX5_mayStand ∈ tblG := ⟨tin 350 (by decide +kernel) (by decide +kernel), tin 352 (by decide +kernel) (by decide +kernel), tsel (q := (yX5_mayStand, 1)) (List.mem_of_getElem? (i := 8) (by decide +kernel))⟩
theorem lk_X5_111 : Cond.methodLink RX5 111 yX1_numberOf ∈ tblG ∧ Cond.instanceMethod yX1_numberOf ∈ tblG ∧ Cond.selects yX1_numberOf.cls yX1_numberOf yX1_numberOf ∈ tblG := ⟨tin 354 (by decide +kernel) (by decide +kernel), tin 161 (by decide +kernel) (by decide +kernel), tin 162 (by decide +kernel) (by decide +kernel)⟩
theorem LB_X1_size : LB yX1_size cX1_size 1 (some .int) 0 := ⟨tin 215 (by decide +kernel) (by decide +kernel), tin 3 (by decide +kernel) (by decide +kernel), by decide, by decide, by decide, by decide +kernel⟩
theorem lk_X5_114 : Cond.methodLink RX5 114 yX1_size ∈ tblG ∧ Cond.instanceMethod yX1_size ∈ tblG ∧ Cond.selects yX1_size.cls yX1_size yX1_size ∈ tblG := ⟨tin 260 (by decide +kernel) (by decide +kernel), tin 213 (by decide +kernel) (by decide +kernel), tin 214 (by decide +kernel) (by decide +kernel)⟩
theorem LB_X6_wordOfPlay : LB yX6_wordOfPlay cX6_wordOfPlay 1 (some .int) 1 := ⟨tin 263 (by decide +kernel) (by decide +kernel), tin 17 (by decide +kernel) (by decide +kernel), by decide, by decide, by decide, by decide +kernel⟩
theorem lk_X5_118 : Cond.methodLink RX5 118 yX6_wordOfPlay ∈ tblG ∧ Cond.static yX6_wordOfPlay ∈ tblG := ⟨tin 261 (by decide +kernel) (by decide +kernel), tin 262 (by decide +kernel) (by decide +kernel)⟩
theorem LB_X6_ofPlay : LB yX6_ofPlay cX6_ofPlay 1 (some .int) 1 := ⟨tin 266 (by decide +kernel) (by decide +kernel), tin 17 (by decide +kernel) (by decide +kernel), by decide, by decide, by decide, by decide +kernel⟩
theorem lk_X5_121 : Cond.methodLink RX5 121 yX6_ofPlay ∈ tblG ∧ Cond.static yX6_ofPlay ∈ tblG := ⟨tin 264 (by decide +kernel) (by decide +kernel), tin 265 (by decide +kernel) (by decide +kernel)⟩
theorem LB_X5_lengthsThatMayFit : LB yX5_lengthsThatMayFit cX5_lengthsThatMayFit 5 (some .int) 1 := ⟨tin 270 (by decide +kernel) (by decide +kernel), tin 5 (by decide +kernel) (by decide +kernel), by decide, by decide, by decide, by decide +kernel⟩
theorem lk_X5_124 : Cond.methodLink RX5 124 yX5_lengthsThatMayFit ∈ tblG ∧ Cond.instanceMethod yX5_lengthsThatMayFit ∈ tblG ∧ Cond.selects yX5_lengthsThatMayFit.cls yX5_lengthsThatMayFit yX5_lengthsThatMayFit ∈ tblG := ⟨tin 267 (by decide +kernel) (by decide +kernel), tin 269 (by decide +kernel) (by decide +kernel), tsel (q := (yX5_lengthsThatMayFit, 1)) (List.mem_of_getElem? (i := 1) (by decide +kernel))⟩
theorem LB_X5_refusal : LB yX5_refusal cX5_refusal 6 (some .int) 3 := ⟨tin 314 (by decide +kernel) (by decide +kernel), tin 5 (by decide +kernel) (by decide +kernel), by decide, by decide, by decide, by decide +kernel⟩
theorem lk_X5_127 : Cond.methodLink RX5 127 yX5_refusal ∈ tblG ∧ Cond.instanceMethod yX5_refusal ∈ tblG ∧ Cond.selects yX5_refusal.cls yX5_refusal yX5_refusal ∈ tblG := ⟨tin 311 (by decide +kernel) (by decide +kernel), tin 312 (by decide +kernel) (by decide +kernel), tin 313 (by decide +kernel) (by decide +kernel)⟩
theorem LB_X6_withWord : LB yX6_withWord cX6_withWord 2 (some .int) 2 := ⟨tin 357 (by decide +kernel) (by decide +kernel), tin 17 (by decide +kernel) (by decide +kernel), by decide, by decide, by decide, by decide +kernel⟩
theorem lk_X5_130 : Cond.methodLink RX5 130 yX6_withWord ∈ tblG ∧ Cond.static yX6_withWord ∈ tblG := ⟨tin 355 (by decide +kernel) (by decide +kernel), tin 356 (by decide +kernel) (by decide +kernel)⟩
theorem LB_X6_isOnBoard : LB yX6_isOnBoard cX6_isOnBoard 1 (some .boolean) 1 := ⟨tin 273 (by decide +kernel) (by decide +kernel), tin 17 (by decide +kernel) (by decide +kernel), by decide, by decide, by decide, by decide +kernel⟩
theorem lk_X5_133 : Cond.methodLink RX5 133 yX6_isOnBoard ∈ tblG ∧ Cond.static yX6_isOnBoard ∈ tblG := ⟨tin 271 (by decide +kernel) (by decide +kernel), tin 272 (by decide +kernel) (by decide +kernel)⟩
theorem LB_X5_nextPlay : LB yX5_nextPlay cX5_nextPlay 8 (some .int) 2 := ⟨tin 259 (by decide +kernel) (by decide +kernel), tin 5 (by decide +kernel) (by decide +kernel), by decide, by decide, by decide, by decide +kernel⟩
theorem lk_X5_136 : Cond.methodLink RX5 136 yX5_nextPlay ∈ tblG ∧ Cond.instanceMethod yX5_nextPlay ∈ tblG ∧ Cond.selects yX5_nextPlay.cls yX5_nextPlay yX5_nextPlay ∈ tblG := ⟨tin 256 (by decide +kernel) (by decide +kernel), tin 257 (by decide +kernel) (by decide +kernel), tin 258 (by decide +kernel) (by decide +kernel)⟩
theorem LB_X5_equityOf : LB yX5_equityOf cX5_equityOf 5 (some .int) 2 := ⟨tin 720 (by decide +kernel) (by decide +kernel), tin 5 (by decide +kernel) (by decide +kernel), by decide, by decide, by decide, by decide +kernel⟩
theorem lk_X5_139 : Cond.methodLink RX5 139 yX5_equityOf ∈ tblG ∧ Cond.instanceMethod yX5_equityOf ∈ tblG ∧ Cond.selects yX5_equityOf.cls yX5_equityOf yX5_equityOf ∈ tblG := ⟨tin 738 (by decide +kernel) (by decide +kernel), tin 718 (by decide +kernel) (by decide +kernel), tin 719 (by decide +kernel) (by decide +kernel)⟩
theorem LB_X5_pointsOf : LB yX5_pointsOf cX5_pointsOf 13 (some .int) 1 := ⟨tin 659 (by decide +kernel) (by decide +kernel), tin 5 (by decide +kernel) (by decide +kernel), by decide, by decide, by decide, by decide +kernel⟩
theorem lk_X5_142 : Cond.methodLink RX5 142 yX5_pointsOf ∈ tblG ∧ Cond.instanceMethod yX5_pointsOf ∈ tblG ∧ Cond.selects yX5_pointsOf.cls yX5_pointsOf yX5_pointsOf ∈ tblG := ⟨tin 721 (by decide +kernel) (by decide +kernel), tin 657 (by decide +kernel) (by decide +kernel), tin 658 (by decide +kernel) (by decide +kernel)⟩
theorem LB_X7_leaveOf : LB yX7_leaveOf cX7_leaveOf 4 (some .int) 1 := ⟨tin 725 (by decide +kernel) (by decide +kernel), tin 2 (by decide +kernel) (by decide +kernel), by decide, by decide, by decide, by decide +kernel⟩
theorem lk_X5_145 : Cond.methodLink RX5 145 yX7_leaveOf ∈ tblG ∧ Cond.instanceMethod yX7_leaveOf ∈ tblG ∧ Cond.selects yX7_leaveOf.cls yX7_leaveOf yX7_leaveOf ∈ tblG := ⟨tin 722 (by decide +kernel) (by decide +kernel), tin 723 (by decide +kernel) (by decide +kernel), tin 724 (by decide +kernel) (by decide +kernel)⟩
theorem LB_X7_valueOfWord : LB yX7_valueOfWord cX7_valueOfWord 5 (some .int) 1 := ⟨tin 663 (by decide +kernel) (by decide +kernel), tin 2 (by decide +kernel) (by decide +kernel), by decide, by decide, by decide, by decide +kernel⟩
theorem lk_X5_148 : Cond.methodLink RX5 148 yX7_valueOfWord ∈ tblG ∧ Cond.instanceMethod yX7_valueOfWord ∈ tblG ∧ Cond.selects yX7_valueOfWord.cls yX7_valueOfWord yX7_valueOfWord ∈ tblG := ⟨tin 660 (by decide +kernel) (by decide +kernel), tin 661 (by decide +kernel) (by decide +kernel), tin 662 (by decide +kernel) (by decide +kernel)⟩
theorem LB_X0_premium : LB yX0_premium cX0_premium 2 (some .int) 1 := ⟨tin 234 (by decide +kernel) (by decide +kernel), tin 4 (by decide +kernel) (by decide +kernel), by decide, by decide, by decide, by decide +kernel⟩
theorem lk_X5_151 : Cond.methodLink RX5 151 yX0_premium ∈ tblG ∧ Cond.instanceMethod yX0_premium ∈ tblG ∧ Cond.selects yX0_premium.cls yX0_premium yX0_premium ∈ tblG := ⟨tin 667 (by decide +kernel) (by decide +kernel), tin 232 (by decide +kernel) (by decide +kernel), tin 233 (by decide +kernel) (by decide +kernel)⟩
theorem LB_X5_extraOf : LB yX5_extraOf cX5_extraOf 3 (some .int) 2 := ⟨tin 671 (by decide +kernel) (by decide +kernel), tin 5 (by decide +kernel) (by decide +kernel), by decide, by decide, by decide, by decide +kernel⟩
theorem lk_X5_154 : Cond.methodLink RX5 154 yX5_extraOf ∈ tblG ∧ Cond.instanceMethod yX5_extraOf ∈ tblG ∧ Cond.selects yX5_extraOf.cls yX5_extraOf yX5_extraOf ∈ tblG := ⟨tin 668 (by decide +kernel) (by decide +kernel), tin 670 (by decide +kernel) (by decide +kernel), tsel (q := (yX5_extraOf, 1)) (List.mem_of_getElem? (i := 12) (by decide +kernel))⟩
theorem LB_X5_wordFactor : LB yX5_wordFactor cX5_wordFactor 1 (some .int) 1 := ⟨tin 675 (by decide +kernel) (by decide +kernel), tin 5 (by decide +kernel) (by decide +kernel), by decide, by decide, by decide, by decide +kernel⟩
theorem lk_X5_157 : Cond.methodLink RX5 157 yX5_wordFactor ∈ tblG ∧ Cond.static yX5_wordFactor ∈ tblG := ⟨tin 673 (by decide +kernel) (by decide +kernel), tin 674 (by decide +kernel) (by decide +kernel)⟩
theorem LB_X5_crossPointsOf : LB yX5_crossPointsOf cX5_crossPointsOf 6 (some .int) 3 := ⟨tin 679 (by decide +kernel) (by decide +kernel), tin 5 (by decide +kernel) (by decide +kernel), by decide, by decide, by decide, by decide +kernel⟩
theorem lk_X5_160 : Cond.methodLink RX5 160 yX5_crossPointsOf ∈ tblG ∧ Cond.instanceMethod yX5_crossPointsOf ∈ tblG ∧ Cond.selects yX5_crossPointsOf.cls yX5_crossPointsOf yX5_crossPointsOf ∈ tblG := ⟨tin 676 (by decide +kernel) (by decide +kernel), tin 678 (by decide +kernel) (by decide +kernel), tsel (q := (yX5_crossPointsOf, 1)) (List.mem_of_getElem? (i := 13) (by decide +kernel))⟩
theorem lk_X5_163 : Cond.methodLink RX5 163 yX7_value ∈ tblG ∧ Cond.instanceMethod yX7_value ∈ tblG ∧ Cond.selects yX7_value.cls yX7_value yX7_value ∈ tblG := ⟨tin 672 (by decide +kernel) (by decide +kernel), tin 198 (by decide +kernel) (by decide +kernel), tin 199 (by decide +kernel) (by decide +kernel)⟩
theorem LB_X7_changeRack : LB yX7_changeRack cX7_changeRack 3 none 2 := ⟨tin 572 (by decide +kernel) (by decide +kernel), tin 2 (by decide +kernel) (by decide +kernel), by decide, by decide, by decide, by decide +kernel⟩
theorem lk_X5_166 : Cond.methodLink RX5 166 yX7_changeRack ∈ tblG ∧ Cond.instanceMethod yX7_changeRack ∈ tblG ∧ Cond.selects yX7_changeRack.cls yX7_changeRack yX7_changeRack ∈ tblG := ⟨tin 684 (by decide +kernel) (by decide +kernel), tin 570 (by decide +kernel) (by decide +kernel), tin 571 (by decide +kernel) (by decide +kernel)⟩
theorem LB_X0_put : LB yX0_put cX0_put 3 none 2 := ⟨tin 583 (by decide +kernel) (by decide +kernel), tin 4 (by decide +kernel) (by decide +kernel), by decide, by decide, by decide, by decide +kernel⟩
theorem lk_X5_170 : Cond.methodLink RX5 170 yX0_put ∈ tblG ∧ Cond.instanceMethod yX0_put ∈ tblG ∧ Cond.selects yX0_put.cls yX0_put yX0_put ∈ tblG := ⟨tin 685 (by decide +kernel) (by decide +kernel), tin 581 (by decide +kernel) (by decide +kernel), tin 582 (by decide +kernel) (by decide +kernel)⟩
theorem LB_X1_word : LB yX1_word cX1_word 2 (some .int) 1 := ⟨tin 219 (by decide +kernel) (by decide +kernel), tin 3 (by decide +kernel) (by decide +kernel), by decide, by decide, by decide, by decide +kernel⟩
theorem lk_X5_21 : Cond.methodLink RX5 21 yX1_word ∈ tblG ∧ Cond.instanceMethod yX1_word ∈ tblG ∧ Cond.selects yX1_word.cls yX1_word yX1_word ∈ tblG := ⟨tin 309 (by decide +kernel) (by decide +kernel), tin 217 (by decide +kernel) (by decide +kernel), tin 218 (by decide +kernel) (by decide +kernel)⟩
theorem lk_X5_27 : Cond.methodLink RX5 27 yX8_length ∈ tblG ∧ Cond.static yX8_length ∈ tblG := ⟨tin 310 (by decide +kernel) (by decide +kernel), tin 154 (by decide +kernel) (by decide +kernel)⟩
theorem LB_X6_room : LB yX6_room cX6_room 1 (some .int) 1 := ⟨tin 282 (by decide +kernel) (by decide +kernel), tin 17 (by decide +kernel) (by decide +kernel), by decide, by decide, by decide, by decide +kernel⟩
theorem lk_X5_32 : Cond.methodLink RX5 32 yX6_room ∈ tblG ∧ Cond.static yX6_room ∈ tblG := ⟨tin 280 (by decide +kernel) (by decide +kernel), tin 281 (by decide +kernel) (by decide +kernel)⟩
theorem LB_X5_touchesTileAtAnEnd : LB yX5_touchesTileAtAnEnd cX5_touchesTileAtAnEnd 5 (some .boolean) 2 := ⟨tin 301 (by decide +kernel) (by decide +kernel), tin 5 (by decide +kernel) (by decide +kernel), by decide, by decide, by decide, by decide +kernel⟩
theorem lk_X5_37 : Cond.methodLink RX5 37 yX5_touchesTileAtAnEnd ∈ tblG ∧ Cond.instanceMethod yX5_touchesTileAtAnEnd ∈ tblG ∧ Cond.selects yX5_touchesTileAtAnEnd.cls yX5_touchesTileAtAnEnd yX5_touchesTileAtAnEnd ∈ tblG := ⟨tin 298 (by decide +kernel) (by decide +kernel), tin 300 (by decide +kernel) (by decide +kernel), tsel (q := (yX5_touchesTileAtAnEnd, 1)) (List.mem_of_getElem? (i := 3) (by decide +kernel))⟩
theorem LB_X5_agreesWithTiles : LB yX5_agreesWithTiles cX5_agreesWithTiles 7 (some .boolean) 2 := ⟨tin 318 (by decide +kernel) (by decide +kernel), tin 5 (by decide +kernel) (by decide +kernel), by decide, by decide, by decide, by decide +kernel⟩
theorem lk_X5_41 : Cond.methodLink RX5 41 yX5_agreesWithTiles ∈ tblG ∧ Cond.instanceMethod yX5_agreesWithTiles ∈ tblG ∧ Cond.selects yX5_agreesWithTiles.cls yX5_agreesWithTiles yX5_agreesWithTiles ∈ tblG := ⟨tin 315 (by decide +kernel) (by decide +kernel), tin 317 (by decide +kernel) (by decide +kernel), tsel (q := (yX5_agreesWithTiles, 1)) (List.mem_of_getElem? (i := 4) (by decide +kernel))⟩
theorem LB_X5_hasEmptySquare : LB yX5_hasEmptySquare cX5_hasEmptySquare 3 (some .boolean) 2 := ⟨tin 324 (by decide +kernel) (by decide +kernel), tin 5 (by decide +kernel) (by decide +kernel), by decide, by decide, by decide, by decide +kernel⟩
theorem lk_X5_44 : Cond.methodLink RX5 44 yX5_hasEmptySquare ∈ tblG ∧ Cond.instanceMethod yX5_hasEmptySquare ∈ tblG ∧ Cond.selects yX5_hasEmptySquare.cls yX5_hasEmptySquare yX5_hasEmptySquare ∈ tblG := ⟨tin 321 (by decide +kernel) (by decide +kernel), tin 323 (by decide +kernel) (by decide +kernel), tsel (q := (yX5_hasEmptySquare, 1)) (List.mem_of_getElem? (i := 5) (by decide +kernel))⟩
theorem lk_X5_47 : Cond.methodLink RX5 47 yX7_rack ∈ tblG ∧ Cond.instanceMethod yX7_rack ∈ tblG ∧ Cond.selects yX7_rack.cls yX7_rack yX7_rack ∈ tblG := ⟨tin 326 (by decide +kernel) (by decide +kernel), tin 236 (by decide +kernel) (by decide +kernel), tin 237 (by decide +kernel) (by decide +kernel)⟩
theorem LB_X5_rackAfter : LB yX5_rackAfter cX5_rackAfter 9 (some .int) 3 := ⟨tin 330 (by decide +kernel) (by decide +kernel), tin 5 (by decide +kernel) (by decide +kernel), by decide, by decide, by decide, by decide +kernel⟩
theorem lk_X5_50 : Cond.methodLink RX5 50 yX5_rackAfter ∈ tblG ∧ Cond.instanceMethod yX5_rackAfter ∈ tblG ∧ Cond.selects yX5_rackAfter.cls yX5_rackAfter yX5_rackAfter ∈ tblG := ⟨tin 327 (by decide +kernel) (by decide +kernel), tin 329 (by decide +kernel) (by decide +kernel), tsel (q := (yX5_rackAfter, 1)) (List.mem_of_getElem? (i := 6) (by decide +kernel))⟩
theorem LB_X5_isConnected : LB yX5_isConnected cX5_isConnected 3 (some .boolean) 2 := ⟨tin 286 (by decide +kernel) (by decide +kernel), tin 5 (by decide +kernel) (by decide +kernel), by decide, by decide, by decide, by decide +kernel⟩
theorem lk_X5_54 : Cond.methodLink RX5 54 yX5_isConnected ∈ tblG ∧ Cond.instanceMethod yX5_isConnected ∈ tblG ∧ Cond.selects yX5_isConnected.cls yX5_isConnected yX5_isConnected ∈ tblG := ⟨tin 283 (by decide +kernel) (by decide +kernel), tin 285 (by decide +kernel) (by decide +kernel), tsel (q := (yX5_isConnected, 1)) (List.mem_of_getElem? (i := 2) (by decide +kernel))⟩
theorem LB_X5_crossWordsAreWords : LB yX5_crossWordsAreWords cX5_crossWordsAreWords 8 (some .boolean) 2 := ⟨tin 341 (by decide +kernel) (by decide +kernel), tin 5 (by decide +kernel) (by decide +kernel), by decide, by decide, by decide, by decide +kernel⟩
theorem lk_X5_57 : Cond.methodLink RX5 57 yX5_crossWordsAreWords ∈ tblG ∧ Cond.instanceMethod yX5_crossWordsAreWords ∈ tblG ∧ Cond.selects yX5_crossWordsAreWords.cls yX5_crossWordsAreWords yX5_crossWordsAreWords ∈ tblG := ⟨tin 338 (by decide +kernel) (by decide +kernel), tin 340 (by decide +kernel) (by decide +kernel), tsel (q := (yX5_crossWordsAreWords, 1)) (List.mem_of_getElem? (i := 7) (by decide +kernel))⟩
theorem LB_X6_square : LB yX6_square cX6_square 1 (some .int) 1 := ⟨tin 304 (by decide +kernel) (by decide +kernel), tin 17 (by decide +kernel) (by decide +kernel), by decide, by decide, by decide, by decide +kernel⟩
theorem lk_X5_60 : Cond.methodLink RX5 60 yX6_square ∈ tblG ∧ Cond.static yX6_square ∈ tblG := ⟨tin 302 (by decide +kernel) (by decide +kernel), tin 303 (by decide +kernel) (by decide +kernel)⟩
theorem LB_X6_step : LB yX6_step cX6_step 1 (some .int) 1 := ⟨tin 307 (by decide +kernel) (by decide +kernel), tin 17 (by decide +kernel) (by decide +kernel), by decide, by decide, by decide, by decide +kernel⟩
theorem lk_X5_63 : Cond.methodLink RX5 63 yX6_step ∈ tblG ∧ Cond.static yX6_step ∈ tblG := ⟨tin 305 (by decide +kernel) (by decide +kernel), tin 306 (by decide +kernel) (by decide +kernel)⟩
theorem lk_X5_70 : Cond.methodLink RX5 70 yX0_hasTile ∈ tblG ∧ Cond.instanceMethod yX0_hasTile ∈ tblG ∧ Cond.selects yX0_hasTile.cls yX0_hasTile yX0_hasTile ∈ tblG := ⟨tin 308 (by decide +kernel) (by decide +kernel), tin 228 (by decide +kernel) (by decide +kernel), tin 229 (by decide +kernel) (by decide +kernel)⟩
theorem lk_X5_76 : Cond.methodLink RX5 76 yX0_letter ∈ tblG ∧ Cond.instanceMethod yX0_letter ∈ tblG ∧ Cond.selects yX0_letter.cls yX0_letter yX0_letter ∈ tblG := ⟨tin 319 (by decide +kernel) (by decide +kernel), tin 224 (by decide +kernel) (by decide +kernel), tin 225 (by decide +kernel) (by decide +kernel)⟩
theorem lk_X5_79 : Cond.methodLink RX5 79 yX8_letter ∈ tblG ∧ Cond.static yX8_letter ∈ tblG := ⟨tin 320 (by decide +kernel) (by decide +kernel), tin 195 (by decide +kernel) (by decide +kernel)⟩
theorem LB_X6_squares : LB yX6_squares cX6_squares 4 (some .long) 2 := ⟨tin 289 (by decide +kernel) (by decide +kernel), tin 17 (by decide +kernel) (by decide +kernel), by decide, by decide, by decide, by decide +kernel⟩
theorem lk_X5_82 : Cond.methodLink RX5 82 yX6_squares ∈ tblG ∧ Cond.static yX6_squares ∈ tblG := ⟨tin 287 (by decide +kernel) (by decide +kernel), tin 288 (by decide +kernel) (by decide +kernel)⟩
theorem lk_X5_86 : Cond.methodLink RX5 86 yX0_emptyOf ∈ tblG ∧ Cond.instanceMethod yX0_emptyOf ∈ tblG ∧ Cond.selects yX0_emptyOf.cls yX0_emptyOf yX0_emptyOf ∈ tblG := ⟨tin 325 (by decide +kernel) (by decide +kernel), tin 175 (by decide +kernel) (by decide +kernel), tin 176 (by decide +kernel) (by decide +kernel)⟩
theorem LB_X6_crossStep : LB yX6_crossStep cX6_crossStep 1 (some .int) 1 := ⟨tin 293 (by decide +kernel) (by decide +kernel), tin 17 (by decide +kernel) (by decide +kernel), by decide, by decide, by decide, by decide +kernel⟩
theorem lk_X5_90 : Cond.methodLink RX5 90 yX6_crossStep ∈ tblG ∧ Cond.static yX6_crossStep ∈ tblG := ⟨tin 291 (by decide +kernel) (by decide +kernel), tin 292 (by decide +kernel) (by decide +kernel)⟩
theorem LB_X0_connects : LB yX0_connects cX0_connects 6 (some .boolean) 2 := ⟨tin 297 (by decide +kernel) (by decide +kernel), tin 4 (by decide +kernel) (by decide +kernel), by decide, by decide, by decide, by decide +kernel⟩
theorem lk_X5_93 : Cond.methodLink RX5 93 yX0_connects ∈ tblG ∧ Cond.instanceMethod yX0_connects ∈ tblG ∧ Cond.selects yX0_connects.cls yX0_connects yX0_connects ∈ tblG := ⟨tin 294 (by decide +kernel) (by decide +kernel), tin 295 (by decide +kernel) (by decide +kernel), tin 296 (by decide +kernel) (by decide +kernel)⟩
theorem lk_X5_97 : Cond.methodLink RX5 97 yX4_count ∈ tblG ∧ Cond.static yX4_count ∈ tblG := ⟨tin 331 (by decide +kernel) (by decide +kernel), tin 246 (by decide +kernel) (by decide +kernel)⟩
def f_X5_rackAfter_69 (bk18 : Int32 → Int32 → Int32 → Int32 → Int32 → Int32 → Option Int32) (σ : St) (x2 : Int32) (x3 : Int32) (x4 : Int32) (x5 : Int32) (x6 : Int32) (x7 : Int32) : Option Int32 := bno (f_X6_step x2) fun r1 => bk18 x2 x3 x4 (x5 + r1) x6 (x7 + 1)
set_option maxHeartbeats 4000000 in
set_option maxRecDepth 100000 in
theorem v_X5_rackAfter_69 {l : Launch} {G : Gv} {ad : Nat → Nat} {d : Nat} {av0 : List Value} {w1 : va_W} {q : Int32} {bk18 : Int32 → Int32 → Int32 → Int32 → Int32 → Int32 → Option Int32} {σ : St} {x2 : Int32} {x3 : Int32} {x4 : Int32} {x5 : Int32} {x6 : Int32} {x7 : Int32} (hd : 2 ≤ d) (hb18 : ∀ (x2 : Int32) (x3 : Int32) (x4 : Int32) (x5 : Int32) (x6 : Int32) (x7 : Int32), bk18 x2 x3 x4 x5 x6 x7 = some q → VV l G yX5_rackAfter cX5_rackAfter 9 (some .int) d 0 0 av0 w1 (pD (some (.int q)) (wC G ad σ)) 0 0 (wC G ad σ) 18 [(0, .ref (ad 11)), (2, .int x2), (3, .int x3), (4, .int x4), (5, .int x5), (6, .int x6), (7, .int x7)] []) (hf : f_X5_rackAfter_69 bk18 σ x2 x3 x4 x5 x6 x7 = some q) : VV l G yX5_rackAfter cX5_rackAfter 9 (some .int) d 0 0 av0 w1 (pD (some (.int q)) (wC G ad σ)) 0 0 (wC G ad σ) 69 [(0, .ref (ad 11)), (2, .int x2), (3, .int x3), (4, .int x4), (5, .int x5), (6, .int x6), (7, .int x7)] [] := by
  unfold f_X5_rackAfter_69 at hf
  refine V_iload 4 rfl dX5_rackAfter_69 ?_
  refine V_iload_n 1 rfl dX5_rackAfter_71 rfl ?_
  obtain ⟨r1, hr1, hf⟩ := bno_some hf
  refine V_cS (As := [.int x2]) (rest := [.int x5]) (k_X6_step (d := 0) (Nat.le_refl _) hr1) LB_X6_step lk_X5_63 (by omega) dX5_rackAfter_72 rfl rfl (Nat.le_of_ble_eq_true rfl) (Nat.le_refl _) (Nat.le_refl _) [.int r1, .int x5] rfl ?_
  refine V_iadd dX5_rackAfter_75 ?_
  refine V_istore [(0, .ref (ad 11)), (2, .int x2), (3, .int x3), (4, .int x4), (5, .int (x5 + r1)), (6, .int x6), (7, .int x7)] [1, 2, 3, 4, 0, 5, 6] dX5_rackAfter_76 (by decide) rfl ?_
  refine V_iinc (1) 6 [(0, .ref (ad 11)), (2, .int x2), (3, .int x3), (4, .int x4), (5, .int (x5 + r1)), (6, .int x6), (7, .int (x7 + 1))] [1, 2, 3, 4, 5, 6, 0] dX5_rackAfter_78 rfl (by decide) (by decide) rfl ?_
  refine V_goto 18 dX5_rackAfter_81 (by decide) ?_
  exact hb18 _ _ _ _ _ _ hf
def f_X5_rackAfter_18 (σ : St) : Nat → Int32 → Int32 → Int32 → Int32 → Int32 → Int32 → Option Int32
  | 0, _, _, _, _, _, _ => none
  | n + 1, x2, x3, x4, x5, x6, x7 => if x6 ≤ x7 then (some x4) else (bno (f_X0_hasTile σ x5) fun r1 => if (b2i r1) = 0 then (bno (f_X8_letter x3 x7) fun r2 => bno (f_X4_count x4 r2) fun r3 => if r3 = 0 then (some (-1)) else (bno (f_X4_without x4 r2) fun r4 => f_X5_rackAfter_69 (f_X5_rackAfter_18 σ n) σ x2 x3 r4 x5 x6 x7)) else (f_X5_rackAfter_69 (f_X5_rackAfter_18 σ n) σ x2 x3 x4 x5 x6 x7))
set_option maxHeartbeats 4000000 in
set_option maxRecDepth 100000 in
theorem v_X5_rackAfter_18 {l : Launch} {G : Gv} {ad : Nat → Nat} {d : Nat} {av0 : List Value} {w1 : va_W} {q : Int32} {σ : St} (hd : 2 ≤ d) : ∀ (n : Nat) (x2 : Int32) (x3 : Int32) (x4 : Int32) (x5 : Int32) (x6 : Int32) (x7 : Int32), f_X5_rackAfter_18 σ n x2 x3 x4 x5 x6 x7 = some q → VV l G yX5_rackAfter cX5_rackAfter 9 (some .int) d 0 0 av0 w1 (pD (some (.int q)) (wC G ad σ)) 0 0 (wC G ad σ) 18 [(0, .ref (ad 11)), (2, .int x2), (3, .int x3), (4, .int x4), (5, .int x5), (6, .int x6), (7, .int x7)] [] := by
  intro n
  induction n with
  | zero =>
    intro x2 x3 x4 x5 x6 x7 hf
    cases hf
  | succ n ih =>
    intro x2 x3 x4 x5 x6 x7 hf
    rw [f_X5_rackAfter_18] at hf
    refine V_iload 6 rfl dX5_rackAfter_18 ?_
    refine V_iload 5 rfl dX5_rackAfter_20 ?_
    refine V_icmp_ge 84 dX5_rackAfter_22 (by decide) (fun c1 => ?_) (fun c1 => ?_)
    · replace hf := (if_pos c1).symm.trans hf
      refine V_iload 3 rfl dX5_rackAfter_84 ?_
      cases hf
      exact V_iret rfl dX5_rackAfter_86 ⟨rfl, rfl⟩
    · replace hf := (if_neg c1).symm.trans hf
      refine V_aload_n 0 rfl dX5_rackAfter_25 rfl ?_
      refine V_get (k := 0) RC_X5 fl_X5_9 rfl (by decide) dX5_rackAfter_26 11 rfl rfl ?_
      refine V_getN (k := 1) RC_X7 fl_X5_66 rfl (by decide) dX5_rackAfter_29 1 rfl rfl ?_
      refine V_iload 4 rfl dX5_rackAfter_32 ?_
      obtain ⟨r1, hr1, hf⟩ := bno_some hf
      refine V_cV (As := [.int x5]) (rest := []) (k_X0_hasTile (d := 0) (Nat.le_refl _) hr1) LB_X0_hasTile lk_X5_70 (by omega) dX5_rackAfter_34 rfl rfl (Nat.le_of_ble_eq_true rfl) (Nat.le_refl _) (Nat.le_refl _) 4 rfl ⟨rfl, rfl⟩ [.int (b2i r1)] rfl ?_
      refine V_if_ne 69 dX5_rackAfter_37 (by decide) (fun c2 => ?_) (fun c2 => ?_)
      · replace hf := (if_neg c2).symm.trans hf
        exact v_X5_rackAfter_69 hd ih hf
      · replace hf := (if_pos c2).symm.trans hf
        refine V_iload_n 2 rfl dX5_rackAfter_40 rfl ?_
        refine V_iload 6 rfl dX5_rackAfter_41 ?_
        obtain ⟨r2, hr2, hf⟩ := bno_some hf
        refine V_cS (As := [.int x3, .int x7]) (rest := []) (k_X8_letter (d := 0) (Nat.le_refl _) hr2) LB_X8_letter lk_X5_79 (by omega) dX5_rackAfter_43 rfl rfl (Nat.le_of_ble_eq_true rfl) (Nat.le_refl _) (Nat.le_refl _) [.int r2] rfl ?_
        refine V_istore [(0, .ref (ad 11)), (2, .int x2), (3, .int x3), (4, .int x4), (5, .int x5), (6, .int x6), (7, .int x7), (8, .int r2)] [1, 2, 3, 4, 5, 6, 7, 0] dX5_rackAfter_46 (by decide) rfl ?_
        refine V_iload 3 rfl dX5_rackAfter_48 ?_
        refine V_iload 7 rfl dX5_rackAfter_50 ?_
        obtain ⟨r3, hr3, hf⟩ := bno_some hf
        refine V_cS (As := [.int x4, .int r2]) (rest := []) (k_X4_count (d := 0) (Nat.le_refl _) hr3) LB_X4_count lk_X5_97 (by omega) dX5_rackAfter_52 rfl rfl (Nat.le_of_ble_eq_true rfl) (Nat.le_refl _) (Nat.le_refl _) [.int r3] rfl ?_
        refine V_if_ne 60 dX5_rackAfter_55 (by decide) (fun c3 => ?_) (fun c3 => ?_)
        · replace hf := (if_neg c3).symm.trans hf
          refine V_iload 3 rfl dX5_rackAfter_60 ?_
          refine V_iload 7 rfl dX5_rackAfter_62 ?_
          obtain ⟨r4, hr4, hf⟩ := bno_some hf
          refine V_cS (As := [.int x4, .int r2]) (rest := []) (k_X4_without (d := 1) (Nat.le_refl _) hr4) LB_X4_without lk_X5_102 (by omega) dX5_rackAfter_64 rfl rfl (Nat.le_of_ble_eq_true rfl) (Nat.le_refl _) (Nat.le_refl _) [.int r4] rfl ?_
          refine V_istore [(0, .ref (ad 11)), (2, .int x2), (3, .int x3), (4, .int r4), (5, .int x5), (6, .int x6), (7, .int x7), (8, .int r2)] [1, 2, 3, 0, 4, 5, 6, 7] dX5_rackAfter_67 (by decide) rfl ?_
          refine V_lv [(0, .ref (ad 11)), (2, .int x2), (3, .int x3), (4, .int r4), (5, .int x5), (6, .int x6), (7, .int x7)] [0, 1, 2, 3, 4, 5, 6] rfl ?_
          exact v_X5_rackAfter_69 hd ih hf
        · replace hf := (if_pos c3).symm.trans hf
          refine V_iconst (-1) dX5_rackAfter_58 (by decide) ?_
          cases hf
          exact V_iret rfl dX5_rackAfter_59 ⟨rfl, rfl⟩
def f_X5_rackAfter (σ : St) (x1 : Int32) (x2 : Int32) (x3 : Int32) : Option Int32 := bno (f_X6_square x2) fun r1 => bno (f_X8_length x3) fun r2 => f_X5_rackAfter_18 σ FU x2 x3 x1 r1 r2 (0)
set_option maxHeartbeats 4000000 in
set_option maxRecDepth 100000 in
theorem v_X5_rackAfter {l : Launch} {G : Gv} {ad : Nat → Nat} {d : Nat} {av0 : List Value} {w1 : va_W} {q : Int32} {σ : St} {x1 : Int32} {x2 : Int32} {x3 : Int32} (hd : 2 ≤ d) (hf : f_X5_rackAfter σ x1 x2 x3 = some q) : VV l G yX5_rackAfter cX5_rackAfter 9 (some .int) d 0 0 av0 w1 (pD (some (.int q)) (wC G ad σ)) 0 0 (wC G ad σ) 0 [(0, .ref (ad 11)), (1, .int x1), (2, .int x2), (3, .int x3)] [] := by
  unfold f_X5_rackAfter at hf
  refine V_iload_n 1 rfl dX5_rackAfter_0 rfl ?_
  refine V_istore [(0, .ref (ad 11)), (1, .int x1), (2, .int x2), (3, .int x3), (4, .int x1)] [1, 2, 3, 4, 0] dX5_rackAfter_1 (by decide) rfl ?_
  refine V_iload_n 2 rfl dX5_rackAfter_3 rfl ?_
  obtain ⟨r1, hr1, hf⟩ := bno_some hf
  refine V_cS (As := [.int x2]) (rest := []) (k_X6_square (d := 0) (Nat.le_refl _) hr1) LB_X6_square lk_X5_60 (by omega) dX5_rackAfter_4 rfl rfl (Nat.le_of_ble_eq_true rfl) (Nat.le_refl _) (Nat.le_refl _) [.int r1] rfl ?_
  refine V_istore [(0, .ref (ad 11)), (1, .int x1), (2, .int x2), (3, .int x3), (4, .int x1), (5, .int r1)] [1, 2, 3, 4, 5, 0] dX5_rackAfter_7 (by decide) rfl ?_
  refine V_iload_n 3 rfl dX5_rackAfter_9 rfl ?_
  obtain ⟨r2, hr2, hf⟩ := bno_some hf
  refine V_cS (As := [.int x3]) (rest := []) (k_X8_length (d := 0) (Nat.le_refl _) hr2) LB_X8_length lk_X5_27 (by omega) dX5_rackAfter_10 rfl rfl (Nat.le_of_ble_eq_true rfl) (Nat.le_refl _) (Nat.le_refl _) [.int r2] rfl ?_
  refine V_istore [(0, .ref (ad 11)), (1, .int x1), (2, .int x2), (3, .int x3), (4, .int x1), (5, .int r1), (6, .int r2)] [1, 2, 3, 4, 5, 6, 0] dX5_rackAfter_13 (by decide) rfl ?_
  refine V_iconst 0 dX5_rackAfter_15 (by decide) ?_
  refine V_istore [(0, .ref (ad 11)), (1, .int x1), (2, .int x2), (3, .int x3), (4, .int x1), (5, .int r1), (6, .int r2), (7, .int (0))] [1, 2, 3, 4, 5, 6, 7, 0] dX5_rackAfter_16 (by decide) rfl ?_
  refine V_lv [(0, .ref (ad 11)), (2, .int x2), (3, .int x3), (4, .int x1), (5, .int r1), (6, .int r2), (7, .int (0))] [0, 2, 3, 4, 5, 6, 7] rfl ?_
  exact v_X5_rackAfter_18 hd _ _ _ _ _ _ _ hf
theorem k_X5_rackAfter {l : Launch} {G : Gv} {ad : Nat → Nat} {d : Nat} {σ : St} {q : Int32} {x1 : Int32} {x2 : Int32} {x3 : Int32} (hd : 2 ≤ d) (hf : f_X5_rackAfter σ x1 x2 x3 = some q) : K l G yX5_rackAfter cX5_rackAfter 9 (some .int) d 0 0 [.ref (ad 11), .int x1, .int x2, .int x3] (wC G ad σ) (pD (some (.int q)) (wC G ad σ)) := K_intro (by decide) (Nat.le_of_ble_eq_true rfl) (v_X5_rackAfter hd hf)
def f_X5_lay_78 : Nat → St → Int32 → Int32 → Int32 → Int64 → Int32 → Int32 → Option (Int64 × St)
  | 0, _, _, _, _, _, _, _ => none
  | n + 1, σ, x3, x4, x5, x6, x8, x9 => if x5 ≤ x9 then (some (x6, σ)) else (bno (f_X8_letter x4 x9) fun r1 => bno (f_X0_put σ x8 r1) fun r2 => bno (f_X6_step x3) fun r3 => f_X5_lay_78 n r2 x3 x4 x5 x6 (x8 + r3) (x9 + 1))
set_option maxHeartbeats 4000000 in
set_option maxRecDepth 100000 in
theorem v_X5_lay_78 {l : Launch} {G : Gv} {ad : Nat → Nat} {d : Nat} {av0 : List Value} {w1 : va_W} {q : (Int64 × St)} (hd : 3 ≤ d) : ∀ (n : Nat) (σ : St) (x3 : Int32) (x4 : Int32) (x5 : Int32) (x6 : Int64) (x8 : Int32) (x9 : Int32), f_X5_lay_78 n σ x3 x4 x5 x6 x8 x9 = some q → VV l G yX5_lay cX5_lay 10 (some .long) d 0 0 av0 w1 (pD (some (.long q.1)) (wC G ad q.2)) 0 0 (wC G ad σ) 78 [(0, .ref (ad 11)), (3, .int x3), (4, .int x4), (5, .int x5), (6, .long x6), (8, .int x8), (9, .int x9)] [] := by
  intro n
  induction n with
  | zero =>
    intro σ x3 x4 x5 x6 x8 x9 hf
    cases hf
  | succ n ih =>
    intro σ x3 x4 x5 x6 x8 x9 hf
    rw [f_X5_lay_78] at hf
    refine V_iload 6 rfl dX5_lay_78 ?_
    refine V_iload 3 rfl dX5_lay_80 ?_
    refine V_icmp_ge 119 dX5_lay_82 (by decide) (fun c1 => ?_) (fun c1 => ?_)
    · replace hf := (if_pos c1).symm.trans hf
      refine V_lload 4 rfl dX5_lay_119 ?_
      cases hf
      exact V_lret rfl dX5_lay_121 ⟨rfl, rfl⟩
    · replace hf := (if_neg c1).symm.trans hf
      refine V_aload_n 0 rfl dX5_lay_85 rfl ?_
      refine V_get (k := 0) RC_X5 fl_X5_9 rfl (by decide) dX5_lay_86 11 rfl rfl ?_
      refine V_getN (k := 1) RC_X7 fl_X5_66 rfl (by decide) dX5_lay_89 1 rfl rfl ?_
      refine V_iload 5 rfl dX5_lay_92 ?_
      refine V_iload 2 rfl dX5_lay_94 ?_
      refine V_iload 6 rfl dX5_lay_96 ?_
      obtain ⟨r1, hr1, hf⟩ := bno_some hf
      refine V_cS (As := [.int x4, .int x9]) (rest := [.int x8, .ref (ad 4)]) (k_X8_letter (d := 0) (Nat.le_refl _) hr1) LB_X8_letter lk_X5_79 (by omega) dX5_lay_98 rfl rfl (Nat.le_of_ble_eq_true rfl) (Nat.le_refl _) (Nat.le_refl _) [.int r1, .int x8, .ref (ad 4)] rfl ?_
      obtain ⟨r2, hr2, hf⟩ := bno_some hf
      refine V_cV (As := [.int x8, .int r1]) (rest := []) (k_X0_put (d := 1) (Nat.le_refl _) hr2) LB_X0_put lk_X5_170 (by omega) dX5_lay_101 rfl rfl (Nat.le_of_ble_eq_true rfl) (Nat.le_refl _) (Nat.le_refl _) 4 rfl ⟨rfl, rfl⟩ [] rfl ?_
      refine V_iload 5 rfl dX5_lay_104 ?_
      refine V_iload_n 1 rfl dX5_lay_106 rfl ?_
      obtain ⟨r3, hr3, hf⟩ := bno_some hf
      refine V_cS (As := [.int x3]) (rest := [.int x8]) (k_X6_step (d := 0) (Nat.le_refl _) hr3) LB_X6_step lk_X5_63 (by omega) dX5_lay_107 rfl rfl (Nat.le_of_ble_eq_true rfl) (Nat.le_refl _) (Nat.le_refl _) [.int r3, .int x8] rfl ?_
      refine V_iadd dX5_lay_110 ?_
      refine V_istore [(0, .ref (ad 11)), (3, .int x3), (4, .int x4), (5, .int x5), (6, .long x6), (8, .int (x8 + r3)), (9, .int x9)] [1, 2, 3, 4, 5, 0, 6] dX5_lay_111 (by decide) rfl ?_
      refine V_iinc (1) 6 [(0, .ref (ad 11)), (3, .int x3), (4, .int x4), (5, .int x5), (6, .long x6), (8, .int (x8 + r3)), (9, .int (x9 + 1))] [1, 2, 3, 4, 5, 6, 0] dX5_lay_113 rfl (by decide) (by decide) rfl ?_
      refine V_goto 78 dX5_lay_116 (by decide) ?_
      exact ih _ _ _ _ _ _ _ hf
def f_X5_lay (σ : St) (x1 : Int32) (x2 : Int32) : Option (Int64 × St) := bno (f_X6_ofPlay x2) fun r1 => bno (f_X6_wordOfPlay x2) fun r2 => bno (f_X1_word σ r2) fun r3 => bno (f_X8_length r3) fun r4 => bno (f_X7_rack σ x1) fun r5 => bno (f_X5_rackAfter σ r5 r1 r3) fun r6 => bno (f_X7_changeRack σ x1 r6) fun r7 => bno (f_X6_squares r1 r4) fun r8 => bno (f_X0_emptyOf r7 r8) fun r9 => bno (f_X6_square r1) fun r10 => f_X5_lay_78 FU r7 r1 r3 r4 r9 r10 (0)
set_option maxHeartbeats 4000000 in
set_option maxRecDepth 100000 in
theorem v_X5_lay {l : Launch} {G : Gv} {ad : Nat → Nat} {d : Nat} {av0 : List Value} {w1 : va_W} {q : (Int64 × St)} {σ : St} {x1 : Int32} {x2 : Int32} (hd : 3 ≤ d) (hf : f_X5_lay σ x1 x2 = some q) : VV l G yX5_lay cX5_lay 10 (some .long) d 0 0 av0 w1 (pD (some (.long q.1)) (wC G ad q.2)) 0 0 (wC G ad σ) 0 [(0, .ref (ad 11)), (1, .int x1), (2, .int x2)] [] := by
  unfold f_X5_lay at hf
  refine V_iload_n 2 rfl dX5_lay_0 rfl ?_
  obtain ⟨r1, hr1, hf⟩ := bno_some hf
  refine V_cS (As := [.int x2]) (rest := []) (k_X6_ofPlay (d := 0) (Nat.le_refl _) hr1) LB_X6_ofPlay lk_X5_121 (by omega) dX5_lay_1 rfl rfl (Nat.le_of_ble_eq_true rfl) (Nat.le_refl _) (Nat.le_refl _) [.int r1] rfl ?_
  refine V_istore_n [(0, .ref (ad 11)), (1, .int x1), (2, .int x2), (3, .int r1)] [1, 2, 3, 0] dX5_lay_4 rfl (by decide) rfl ?_
  refine V_aload_n 0 rfl dX5_lay_5 rfl ?_
  refine V_get (k := 0) RC_X5 fl_X5_9 rfl (by decide) dX5_lay_6 11 rfl rfl ?_
  refine V_getN (k := 0) RC_X7 fl_X5_15 rfl (by decide) dX5_lay_9 1 rfl rfl ?_
  refine V_iload_n 2 rfl dX5_lay_12 rfl ?_
  obtain ⟨r2, hr2, hf⟩ := bno_some hf
  refine V_cS (As := [.int x2]) (rest := [.ref (ad 2)]) (k_X6_wordOfPlay (d := 0) (Nat.le_refl _) hr2) LB_X6_wordOfPlay lk_X5_118 (by omega) dX5_lay_13 rfl rfl (Nat.le_of_ble_eq_true rfl) (Nat.le_refl _) (Nat.le_refl _) [.int r2, .ref (ad 2)] rfl ?_
  obtain ⟨r3, hr3, hf⟩ := bno_some hf
  refine V_cV (As := [.int r2]) (rest := []) (k_X1_word (d := 0) (Nat.le_refl _) hr3) LB_X1_word lk_X5_21 (by omega) dX5_lay_16 rfl rfl (Nat.le_of_ble_eq_true rfl) (Nat.le_refl _) (Nat.le_refl _) 2 rfl ⟨rfl, rfl⟩ [.int r3] rfl ?_
  refine V_istore [(0, .ref (ad 11)), (1, .int x1), (2, .int x2), (3, .int r1), (4, .int r3)] [1, 2, 3, 4, 0] dX5_lay_19 (by decide) rfl ?_
  refine V_iload 4 rfl dX5_lay_21 ?_
  obtain ⟨r4, hr4, hf⟩ := bno_some hf
  refine V_cS (As := [.int r3]) (rest := []) (k_X8_length (d := 0) (Nat.le_refl _) hr4) LB_X8_length lk_X5_27 (by omega) dX5_lay_23 rfl rfl (Nat.le_of_ble_eq_true rfl) (Nat.le_refl _) (Nat.le_refl _) [.int r4] rfl ?_
  refine V_istore [(0, .ref (ad 11)), (1, .int x1), (2, .int x2), (3, .int r1), (4, .int r3), (5, .int r4)] [1, 2, 3, 4, 5, 0] dX5_lay_26 (by decide) rfl ?_
  refine V_aload_n 0 rfl dX5_lay_28 rfl ?_
  refine V_get (k := 0) RC_X5 fl_X5_9 rfl (by decide) dX5_lay_29 11 rfl rfl ?_
  refine V_iload_n 1 rfl dX5_lay_32 rfl ?_
  refine V_aload_n 0 rfl dX5_lay_33 rfl ?_
  refine V_aload_n 0 rfl dX5_lay_34 rfl ?_
  refine V_get (k := 0) RC_X5 fl_X5_9 rfl (by decide) dX5_lay_35 11 rfl rfl ?_
  refine V_iload_n 1 rfl dX5_lay_38 rfl ?_
  obtain ⟨r5, hr5, hf⟩ := bno_some hf
  refine V_cV (As := [.int x1]) (rest := [.ref (ad 11), .int x1, .ref (ad 1)]) (k_X7_rack (d := 1) (Nat.le_refl _) hr5) LB_X7_rack lk_X5_47 (by omega) dX5_lay_39 rfl rfl (Nat.le_of_ble_eq_true rfl) (Nat.le_refl _) (Nat.le_refl _) 1 rfl ⟨rfl, rfl⟩ [.int r5, .ref (ad 11), .int x1, .ref (ad 1)] rfl ?_
  refine V_iload_n 3 rfl dX5_lay_42 rfl ?_
  refine V_iload 4 rfl dX5_lay_43 ?_
  obtain ⟨r6, hr6, hf⟩ := bno_some hf
  refine V_cV (As := [.int r5, .int r1, .int r3]) (rest := [.int x1, .ref (ad 1)]) (k_X5_rackAfter (d := 2) (Nat.le_refl _) hr6) LB_X5_rackAfter lk_X5_50 (by omega) dX5_lay_45 rfl rfl (Nat.le_of_ble_eq_true rfl) (Nat.le_refl _) (Nat.le_refl _) 11 rfl ⟨rfl, rfl⟩ [.int r6, .int x1, .ref (ad 1)] rfl ?_
  obtain ⟨r7, hr7, hf⟩ := bno_some hf
  refine V_cV (As := [.int x1, .int r6]) (rest := []) (k_X7_changeRack (d := 1) (Nat.le_refl _) hr7) LB_X7_changeRack lk_X5_166 (by omega) dX5_lay_48 rfl rfl (Nat.le_of_ble_eq_true rfl) (Nat.le_refl _) (Nat.le_refl _) 1 rfl ⟨rfl, rfl⟩ [] rfl ?_
  refine V_aload_n 0 rfl dX5_lay_51 rfl ?_
  refine V_get (k := 0) RC_X5 fl_X5_9 rfl (by decide) dX5_lay_52 11 rfl rfl ?_
  refine V_getN (k := 1) RC_X7 fl_X5_66 rfl (by decide) dX5_lay_55 1 rfl rfl ?_
  refine V_iload_n 3 rfl dX5_lay_58 rfl ?_
  refine V_iload 5 rfl dX5_lay_59 ?_
  obtain ⟨r8, hr8, hf⟩ := bno_some hf
  refine V_cS (As := [.int r1, .int r4]) (rest := [.ref (ad 4)]) (k_X6_squares (d := 0) (Nat.le_refl _) hr8) LB_X6_squares lk_X5_82 (by omega) dX5_lay_61 rfl rfl (Nat.le_of_ble_eq_true rfl) (Nat.le_refl _) (Nat.le_refl _) [.long r8, .ref (ad 4)] rfl ?_
  obtain ⟨r9, hr9, hf⟩ := bno_some hf
  refine V_cV (As := [.long r8]) (rest := []) (k_X0_emptyOf (d := 0) (Nat.le_refl _) hr9) LB_X0_emptyOf lk_X5_86 (by omega) dX5_lay_64 rfl rfl (Nat.le_of_ble_eq_true rfl) (Nat.le_refl _) (Nat.le_refl _) 4 rfl ⟨rfl, rfl⟩ [.long r9] rfl ?_
  refine V_lstore [(0, .ref (ad 11)), (1, .int x1), (2, .int x2), (3, .int r1), (4, .int r3), (5, .int r4), (6, .long r9)] [1, 2, 3, 4, 5, 6, 0] dX5_lay_67 (by decide) rfl ?_
  refine V_iload_n 3 rfl dX5_lay_69 rfl ?_
  obtain ⟨r10, hr10, hf⟩ := bno_some hf
  refine V_cS (As := [.int r1]) (rest := []) (k_X6_square (d := 0) (Nat.le_refl _) hr10) LB_X6_square lk_X5_60 (by omega) dX5_lay_70 rfl rfl (Nat.le_of_ble_eq_true rfl) (Nat.le_refl _) (Nat.le_refl _) [.int r10] rfl ?_
  refine V_istore [(0, .ref (ad 11)), (1, .int x1), (2, .int x2), (3, .int r1), (4, .int r3), (5, .int r4), (6, .long r9), (8, .int r10)] [1, 2, 3, 4, 5, 6, 7, 0] dX5_lay_73 (by decide) rfl ?_
  refine V_iconst 0 dX5_lay_75 (by decide) ?_
  refine V_istore [(0, .ref (ad 11)), (1, .int x1), (2, .int x2), (3, .int r1), (4, .int r3), (5, .int r4), (6, .long r9), (8, .int r10), (9, .int (0))] [1, 2, 3, 4, 5, 6, 7, 8, 0] dX5_lay_76 (by decide) rfl ?_
  refine V_lv [(0, .ref (ad 11)), (3, .int r1), (4, .int r3), (5, .int r4), (6, .long r9), (8, .int r10), (9, .int (0))] [0, 3, 4, 5, 6, 7, 8] rfl ?_
  exact v_X5_lay_78 hd _ _ _ _ _ _ _ _ hf
theorem k_X5_lay {l : Launch} {G : Gv} {ad : Nat → Nat} {d : Nat} {σ : St} {q : (Int64 × St)} {x1 : Int32} {x2 : Int32} (hd : 3 ≤ d) (hf : f_X5_lay σ x1 x2 = some q) : K l G yX5_lay cX5_lay 10 (some .long) d 0 0 [.ref (ad 11), .int x1, .int x2] (wC G ad σ) (pD (some (.long q.1)) (wC G ad q.2)) := K_intro (by decide) (Nat.le_of_ble_eq_true rfl) (v_X5_lay hd hf)
def f_X5_mayStand_23 (σ : St) : Option Bool := some true
set_option maxHeartbeats 4000000 in
set_option maxRecDepth 100000 in
theorem v_X5_mayStand_23 {l : Launch} {G : Gv} {ad : Nat → Nat} {d : Nat} {av0 : List Value} {w1 : va_W} {q : Bool} {σ : St} (hd : 1 ≤ d) (hf : f_X5_mayStand_23 σ = some q) : VV l G yX5_mayStand cX5_mayStand 2 (some .boolean) d 0 0 av0 w1 (pD (some (.int (b2i q))) (wC G ad σ)) 0 0 (wC G ad σ) 23 [] [] := by
  unfold f_X5_mayStand_23 at hf
  refine V_iconst 1 dX5_mayStand_23 (by decide) ?_
  refine V_goto 28 dX5_mayStand_24 (by decide) ?_
  cases hf
  exact V_zret (ty := .boolean) rfl rfl dX5_mayStand_28 ⟨rfl, rfl⟩
def f_X5_mayStand (σ : St) (x1 : Int32) : Option Bool := bno (f_X8_length x1) fun r1 => if r1 = (1) then (f_X5_mayStand_23 σ) else (bno (f_X1_numberOf σ x1) fun r2 => if r2 = (-1) then (some false) else (f_X5_mayStand_23 σ))
set_option maxHeartbeats 4000000 in
set_option maxRecDepth 100000 in
theorem v_X5_mayStand {l : Launch} {G : Gv} {ad : Nat → Nat} {d : Nat} {av0 : List Value} {w1 : va_W} {q : Bool} {σ : St} {x1 : Int32} (hd : 1 ≤ d) (hf : f_X5_mayStand σ x1 = some q) : VV l G yX5_mayStand cX5_mayStand 2 (some .boolean) d 0 0 av0 w1 (pD (some (.int (b2i q))) (wC G ad σ)) 0 0 (wC G ad σ) 0 [(0, .ref (ad 11)), (1, .int x1)] [] := by
  unfold f_X5_mayStand at hf
  refine V_iload_n 1 rfl dX5_mayStand_0 rfl ?_
  obtain ⟨r1, hr1, hf⟩ := bno_some hf
  refine V_cS (As := [.int x1]) (rest := []) (k_X8_length (d := 0) (Nat.le_refl _) hr1) LB_X8_length lk_X5_27 (by omega) dX5_mayStand_1 rfl rfl (Nat.le_of_ble_eq_true rfl) (Nat.le_refl _) (Nat.le_refl _) [.int r1] rfl ?_
  refine V_iconst 1 dX5_mayStand_4 (by decide) ?_
  refine V_icmp_eq 23 dX5_mayStand_5 (by decide) (fun c1 => ?_) (fun c1 => ?_)
  · replace hf := (if_pos c1).symm.trans hf
    refine V_lv [] [] rfl ?_
    exact v_X5_mayStand_23 hd hf
  · replace hf := (if_neg c1).symm.trans hf
    refine V_aload_n 0 rfl dX5_mayStand_8 rfl ?_
    refine V_get (k := 0) RC_X5 fl_X5_9 rfl (by decide) dX5_mayStand_9 11 rfl rfl ?_
    refine V_getN (k := 0) RC_X7 fl_X5_15 rfl (by decide) dX5_mayStand_12 1 rfl rfl ?_
    refine V_iload_n 1 rfl dX5_mayStand_15 rfl ?_
    obtain ⟨r2, hr2, hf⟩ := bno_some hf
    refine V_cV (As := [.int x1]) (rest := []) (k_X1_numberOf (d := 0) (Nat.le_refl _) hr2) LB_X1_numberOf lk_X5_111 (by omega) dX5_mayStand_16 rfl rfl (Nat.le_of_ble_eq_true rfl) (Nat.le_refl _) (Nat.le_refl _) 2 rfl ⟨rfl, rfl⟩ [.int r2] rfl ?_
    refine V_iconst (-1) dX5_mayStand_19 (by decide) ?_
    refine V_icmp_eq 27 dX5_mayStand_20 (by decide) (fun c2 => ?_) (fun c2 => ?_)
    · replace hf := (if_pos c2).symm.trans hf
      refine V_iconst 0 dX5_mayStand_27 (by decide) ?_
      cases hf
      exact V_zret (ty := .boolean) rfl rfl dX5_mayStand_28 ⟨rfl, rfl⟩
    · replace hf := (if_neg c2).symm.trans hf
      refine V_lv [] [] rfl ?_
      exact v_X5_mayStand_23 hd hf
theorem k_X5_mayStand {l : Launch} {G : Gv} {ad : Nat → Nat} {d : Nat} {σ : St} {q : Bool} {x1 : Int32} (hd : 1 ≤ d) (hf : f_X5_mayStand σ x1 = some q) : K l G yX5_mayStand cX5_mayStand 2 (some .boolean) d 0 0 [.ref (ad 11), .int x1] (wC G ad σ) (pD (some (.int (b2i q))) (wC G ad σ)) := K_intro (by decide) (Nat.le_of_ble_eq_true rfl) (v_X5_mayStand hd hf)
def f_X5_extraOf (σ : St) (x1 : Int32) (x2 : Int32) : Option Int32 := if x2 = 1 then (bno (f_X7_value σ x1) fun r1 => some r1) else (if x2 = 2 then (bno (f_X7_value σ x1) fun r2 => some ((2) * r2)) else (some (0)))
set_option maxHeartbeats 4000000 in
set_option maxRecDepth 100000 in
theorem v_X5_extraOf {l : Launch} {G : Gv} {ad : Nat → Nat} {d : Nat} {av0 : List Value} {w1 : va_W} {q : Int32} {σ : St} {x1 : Int32} {x2 : Int32} (hd : 2 ≤ d) (hf : f_X5_extraOf σ x1 x2 = some q) : VV l G yX5_extraOf cX5_extraOf 3 (some .int) d 0 0 av0 w1 (pD (some (.int q)) (wC G ad σ)) 0 0 (wC G ad σ) 0 [(0, .ref (ad 11)), (1, .int x1), (2, .int x2)] [] := by
  unfold f_X5_extraOf at hf
  refine V_iload_n 2 rfl dX5_extraOf_0 rfl ?_
  by_cases c1 : x2 = 1
  · replace hf := (if_pos c1).symm.trans hf
    refine V_look (off := 27) 28 dX5_extraOf_1 (by decide) (by rw [c1]; decide) (by decide) ?_
    refine V_aload_n 0 rfl dX5_extraOf_28 rfl ?_
    refine V_get (k := 0) RC_X5 fl_X5_9 rfl (by decide) dX5_extraOf_29 11 rfl rfl ?_
    refine V_iload_n 1 rfl dX5_extraOf_32 rfl ?_
    obtain ⟨r1, hr1, hf⟩ := bno_some hf
    refine V_cV (As := [.int x1]) (rest := []) (k_X7_value (d := 1) (Nat.le_refl _) hr1) LB_X7_value lk_X5_163 (by omega) dX5_extraOf_33 rfl rfl (Nat.le_of_ble_eq_true rfl) (Nat.le_refl _) (Nat.le_refl _) 1 rfl ⟨rfl, rfl⟩ [.int r1] rfl ?_
    cases hf
    exact V_iret rfl dX5_extraOf_36 ⟨rfl, rfl⟩
  · replace hf := (if_neg c1).symm.trans hf
    by_cases c2 : x2 = 2
    · replace hf := (if_pos c2).symm.trans hf
      refine V_look (off := 36) 37 dX5_extraOf_1 (by decide) (by rw [c2]; decide) (by decide) ?_
      refine V_iconst 2 dX5_extraOf_37 (by decide) ?_
      refine V_aload_n 0 rfl dX5_extraOf_38 rfl ?_
      refine V_get (k := 0) RC_X5 fl_X5_9 rfl (by decide) dX5_extraOf_39 11 rfl rfl ?_
      refine V_iload_n 1 rfl dX5_extraOf_42 rfl ?_
      obtain ⟨r2, hr2, hf⟩ := bno_some hf
      refine V_cV (As := [.int x1]) (rest := [.int (2)]) (k_X7_value (d := 1) (Nat.le_refl _) hr2) LB_X7_value lk_X5_163 (by omega) dX5_extraOf_43 rfl rfl (Nat.le_of_ble_eq_true rfl) (Nat.le_refl _) (Nat.le_refl _) 1 rfl ⟨rfl, rfl⟩ [.int r2, .int (2)] rfl ?_
      refine V_imul dX5_extraOf_46 ?_
      cases hf
      exact V_iret rfl dX5_extraOf_47 ⟨rfl, rfl⟩
    · replace hf := (if_neg c2).symm.trans hf
      refine V_look (off := 47) 48 dX5_extraOf_1 (by decide) (sw_look2 c1 c2) (by decide) ?_
      refine V_iconst 0 dX5_extraOf_48 (by decide) ?_
      cases hf
      exact V_iret rfl dX5_extraOf_49 ⟨rfl, rfl⟩
theorem k_X5_extraOf {l : Launch} {G : Gv} {ad : Nat → Nat} {d : Nat} {σ : St} {q : Int32} {x1 : Int32} {x2 : Int32} (hd : 2 ≤ d) (hf : f_X5_extraOf σ x1 x2 = some q) : K l G yX5_extraOf cX5_extraOf 3 (some .int) d 0 0 [.ref (ad 11), .int x1, .int x2] (wC G ad σ) (pD (some (.int q)) (wC G ad σ)) := K_intro (by decide) (Nat.le_of_ble_eq_true rfl) (v_X5_extraOf hd hf)
def f_X5_wordFactor (x0 : Int32) : Option Int32 := if x0 = 3 then (some (2)) else (if x0 = 4 then (some (3)) else (some (1)))
set_option maxHeartbeats 4000000 in
set_option maxRecDepth 100000 in
theorem v_X5_wordFactor {l : Launch} {G : Gv} {d : Nat} {av0 : List Value} {w1 : va_W} {w0 : va_W} {q : Int32} {x0 : Int32} (hd : 0 ≤ d) (hf : f_X5_wordFactor x0 = some q) : VV l G yX5_wordFactor cX5_wordFactor 1 (some .int) d 0 0 av0 w1 (pD (some (.int q)) w0) 0 0 w0 0 [(0, .int x0)] [] := by
  unfold f_X5_wordFactor at hf
  refine V_iload_n 0 rfl dX5_wordFactor_0 rfl ?_
  by_cases c1 : x0 = 3
  · replace hf := (if_pos c1).symm.trans hf
    refine V_look (off := 27) 28 dX5_wordFactor_1 (by decide) (by rw [c1]; decide) (by decide) ?_
    refine V_iconst 2 dX5_wordFactor_28 (by decide) ?_
    cases hf
    exact V_iret rfl dX5_wordFactor_29 ⟨rfl, rfl⟩
  · replace hf := (if_neg c1).symm.trans hf
    by_cases c2 : x0 = 4
    · replace hf := (if_pos c2).symm.trans hf
      refine V_look (off := 29) 30 dX5_wordFactor_1 (by decide) (by rw [c2]; decide) (by decide) ?_
      refine V_iconst 3 dX5_wordFactor_30 (by decide) ?_
      cases hf
      exact V_iret rfl dX5_wordFactor_31 ⟨rfl, rfl⟩
    · replace hf := (if_neg c2).symm.trans hf
      refine V_look (off := 31) 32 dX5_wordFactor_1 (by decide) (sw_look2 c1 c2) (by decide) ?_
      refine V_iconst 1 dX5_wordFactor_32 (by decide) ?_
      cases hf
      exact V_iret rfl dX5_wordFactor_33 ⟨rfl, rfl⟩
theorem k_X5_wordFactor {l : Launch} {G : Gv} {d : Nat} {w0 : va_W} {q : Int32} {x0 : Int32} (hd : 0 ≤ d) (hf : f_X5_wordFactor x0 = some q) : K l G yX5_wordFactor cX5_wordFactor 1 (some .int) d 0 0 [.int x0] w0 (pD (some (.int q)) w0) := K_intro (by decide) (Nat.le_of_ble_eq_true rfl) (v_X5_wordFactor hd hf)
def f_X5_crossPointsOf (σ : St) (x1 : Int32) (x2 : Int32) (x3 : Int32) : Option Int32 := bno (f_X6_crossStep x3) fun r1 => bno (f_X0_wordThrough σ x1 x2 r1) fun r2 => bno (f_X8_length r2) fun r3 => if r3 = (1) then (some (0)) else (bno (f_X0_premium σ x1) fun r4 => bno (f_X7_valueOfWord σ r2) fun r5 => bno (f_X5_extraOf σ x2 r4) fun r6 => bno (f_X5_wordFactor r4) fun r7 => some ((r5 + r6) * r7))
set_option maxHeartbeats 4000000 in
set_option maxRecDepth 100000 in
theorem v_X5_crossPointsOf {l : Launch} {G : Gv} {ad : Nat → Nat} {d : Nat} {av0 : List Value} {w1 : va_W} {q : Int32} {σ : St} {x1 : Int32} {x2 : Int32} {x3 : Int32} (hd : 3 ≤ d) (hf : f_X5_crossPointsOf σ x1 x2 x3 = some q) : VV l G yX5_crossPointsOf cX5_crossPointsOf 6 (some .int) d 0 0 av0 w1 (pD (some (.int q)) (wC G ad σ)) 0 0 (wC G ad σ) 0 [(0, .ref (ad 11)), (1, .int x1), (2, .int x2), (3, .int x3)] [] := by
  unfold f_X5_crossPointsOf at hf
  refine V_aload_n 0 rfl dX5_crossPointsOf_0 rfl ?_
  refine V_get (k := 0) RC_X5 fl_X5_9 rfl (by decide) dX5_crossPointsOf_1 11 rfl rfl ?_
  refine V_getN (k := 1) RC_X7 fl_X5_66 rfl (by decide) dX5_crossPointsOf_4 1 rfl rfl ?_
  refine V_iload_n 1 rfl dX5_crossPointsOf_7 rfl ?_
  refine V_iload_n 2 rfl dX5_crossPointsOf_8 rfl ?_
  refine V_iload_n 3 rfl dX5_crossPointsOf_9 rfl ?_
  obtain ⟨r1, hr1, hf⟩ := bno_some hf
  refine V_cS (As := [.int x3]) (rest := [.int x2, .int x1, .ref (ad 4)]) (k_X6_crossStep (d := 0) (Nat.le_refl _) hr1) LB_X6_crossStep lk_X5_90 (by omega) dX5_crossPointsOf_10 rfl rfl (Nat.le_of_ble_eq_true rfl) (Nat.le_refl _) (Nat.le_refl _) [.int r1, .int x2, .int x1, .ref (ad 4)] rfl ?_
  obtain ⟨r2, hr2, hf⟩ := bno_some hf
  refine V_cV (As := [.int x1, .int x2, .int r1]) (rest := []) (k_X0_wordThrough (d := 2) (Nat.le_refl _) hr2) LB_X0_wordThrough lk_X5_105 (by omega) dX5_crossPointsOf_13 rfl rfl (Nat.le_of_ble_eq_true rfl) (Nat.le_refl _) (Nat.le_refl _) 4 rfl ⟨rfl, rfl⟩ [.int r2] rfl ?_
  refine V_istore [(0, .ref (ad 11)), (1, .int x1), (2, .int x2), (3, .int x3), (4, .int r2)] [1, 2, 3, 4, 0] dX5_crossPointsOf_16 (by decide) rfl ?_
  refine V_iload 4 rfl dX5_crossPointsOf_18 ?_
  obtain ⟨r3, hr3, hf⟩ := bno_some hf
  refine V_cS (As := [.int r2]) (rest := []) (k_X8_length (d := 0) (Nat.le_refl _) hr3) LB_X8_length lk_X5_27 (by omega) dX5_crossPointsOf_20 rfl rfl (Nat.le_of_ble_eq_true rfl) (Nat.le_refl _) (Nat.le_refl _) [.int r3] rfl ?_
  refine V_iconst 1 dX5_crossPointsOf_23 (by decide) ?_
  refine V_icmp_ne 29 dX5_crossPointsOf_24 (by decide) (fun c1 => ?_) (fun c1 => ?_)
  · replace hf := (if_neg c1).symm.trans hf
    refine V_aload_n 0 rfl dX5_crossPointsOf_29 rfl ?_
    refine V_get (k := 0) RC_X5 fl_X5_9 rfl (by decide) dX5_crossPointsOf_30 11 rfl rfl ?_
    refine V_getN (k := 1) RC_X7 fl_X5_66 rfl (by decide) dX5_crossPointsOf_33 1 rfl rfl ?_
    refine V_iload_n 1 rfl dX5_crossPointsOf_36 rfl ?_
    obtain ⟨r4, hr4, hf⟩ := bno_some hf
    refine V_cV (As := [.int x1]) (rest := []) (k_X0_premium (d := 0) (Nat.le_refl _) hr4) LB_X0_premium lk_X5_151 (by omega) dX5_crossPointsOf_37 rfl rfl (Nat.le_of_ble_eq_true rfl) (Nat.le_refl _) (Nat.le_refl _) 4 rfl ⟨rfl, rfl⟩ [.int r4] rfl ?_
    refine V_istore [(0, .ref (ad 11)), (1, .int x1), (2, .int x2), (3, .int x3), (4, .int r2), (5, .int r4)] [1, 2, 3, 4, 5, 0] dX5_crossPointsOf_40 (by decide) rfl ?_
    refine V_aload_n 0 rfl dX5_crossPointsOf_42 rfl ?_
    refine V_get (k := 0) RC_X5 fl_X5_9 rfl (by decide) dX5_crossPointsOf_43 11 rfl rfl ?_
    refine V_iload 4 rfl dX5_crossPointsOf_46 ?_
    obtain ⟨r5, hr5, hf⟩ := bno_some hf
    refine V_cV (As := [.int r2]) (rest := []) (k_X7_valueOfWord (d := 2) (Nat.le_refl _) hr5) LB_X7_valueOfWord lk_X5_148 (by omega) dX5_crossPointsOf_48 rfl rfl (Nat.le_of_ble_eq_true rfl) (Nat.le_refl _) (Nat.le_refl _) 1 rfl ⟨rfl, rfl⟩ [.int r5] rfl ?_
    refine V_aload_n 0 rfl dX5_crossPointsOf_51 rfl ?_
    refine V_iload_n 2 rfl dX5_crossPointsOf_52 rfl ?_
    refine V_iload 5 rfl dX5_crossPointsOf_53 ?_
    obtain ⟨r6, hr6, hf⟩ := bno_some hf
    refine V_cV (As := [.int x2, .int r4]) (rest := [.int r5]) (k_X5_extraOf (d := 2) (Nat.le_refl _) hr6) LB_X5_extraOf lk_X5_154 (by omega) dX5_crossPointsOf_55 rfl rfl (Nat.le_of_ble_eq_true rfl) (Nat.le_refl _) (Nat.le_refl _) 11 rfl ⟨rfl, rfl⟩ [.int r6, .int r5] rfl ?_
    refine V_iadd dX5_crossPointsOf_58 ?_
    refine V_iload 5 rfl dX5_crossPointsOf_59 ?_
    obtain ⟨r7, hr7, hf⟩ := bno_some hf
    refine V_cS (As := [.int r4]) (rest := [.int (r5 + r6)]) (k_X5_wordFactor (d := 0) (Nat.le_refl _) hr7) LB_X5_wordFactor lk_X5_157 (by omega) dX5_crossPointsOf_61 rfl rfl (Nat.le_of_ble_eq_true rfl) (Nat.le_refl _) (Nat.le_refl _) [.int r7, .int (r5 + r6)] rfl ?_
    refine V_imul dX5_crossPointsOf_64 ?_
    cases hf
    exact V_iret rfl dX5_crossPointsOf_65 ⟨rfl, rfl⟩
  · replace hf := (if_pos c1).symm.trans hf
    refine V_iconst 0 dX5_crossPointsOf_27 (by decide) ?_
    cases hf
    exact V_iret rfl dX5_crossPointsOf_28 ⟨rfl, rfl⟩
theorem k_X5_crossPointsOf {l : Launch} {G : Gv} {ad : Nat → Nat} {d : Nat} {σ : St} {q : Int32} {x1 : Int32} {x2 : Int32} {x3 : Int32} (hd : 3 ≤ d) (hf : f_X5_crossPointsOf σ x1 x2 x3 = some q) : K l G yX5_crossPointsOf cX5_crossPointsOf 6 (some .int) d 0 0 [.ref (ad 11), .int x1, .int x2, .int x3] (wC G ad σ) (pD (some (.int q)) (wC G ad σ)) := K_intro (by decide) (Nat.le_of_ble_eq_true rfl) (v_X5_crossPointsOf hd hf)
def f_X5_pointsOf_138 (bk54 : Int32 → Int32 → Int32 → Int32 → Int32 → Int32 → Int32 → Int32 → Int32 → Option Int32) (σ : St) (x2 : Int32) (x3 : Int32) (x4 : Int32) (x5 : Int32) (x6 : Int32) (x7 : Int32) (x8 : Int32) (x9 : Int32) (x10 : Int32) : Option Int32 := bno (f_X6_step x2) fun r1 => bk54 x2 x3 x4 x5 x6 x7 (x8 + r1) x9 (x10 + 1)
set_option maxHeartbeats 4000000 in
set_option maxRecDepth 100000 in
theorem v_X5_pointsOf_138 {l : Launch} {G : Gv} {ad : Nat → Nat} {d : Nat} {av0 : List Value} {w1 : va_W} {q : Int32} {bk54 : Int32 → Int32 → Int32 → Int32 → Int32 → Int32 → Int32 → Int32 → Int32 → Option Int32} {σ : St} {x2 : Int32} {x3 : Int32} {x4 : Int32} {x5 : Int32} {x6 : Int32} {x7 : Int32} {x8 : Int32} {x9 : Int32} {x10 : Int32} (hd : 4 ≤ d) (hb54 : ∀ (x2 : Int32) (x3 : Int32) (x4 : Int32) (x5 : Int32) (x6 : Int32) (x7 : Int32) (x8 : Int32) (x9 : Int32) (x10 : Int32), bk54 x2 x3 x4 x5 x6 x7 x8 x9 x10 = some q → VV l G yX5_pointsOf cX5_pointsOf 13 (some .int) d 0 0 av0 w1 (pD (some (.int q)) (wC G ad σ)) 0 0 (wC G ad σ) 54 [(0, .ref (ad 11)), (2, .int x2), (3, .int x3), (4, .int x4), (5, .int x5), (6, .int x6), (7, .int x7), (8, .int x8), (9, .int x9), (10, .int x10)] []) (hf : f_X5_pointsOf_138 bk54 σ x2 x3 x4 x5 x6 x7 x8 x9 x10 = some q) : VV l G yX5_pointsOf cX5_pointsOf 13 (some .int) d 0 0 av0 w1 (pD (some (.int q)) (wC G ad σ)) 0 0 (wC G ad σ) 138 [(0, .ref (ad 11)), (2, .int x2), (3, .int x3), (4, .int x4), (5, .int x5), (6, .int x6), (7, .int x7), (8, .int x8), (9, .int x9), (10, .int x10)] [] := by
  unfold f_X5_pointsOf_138 at hf
  refine V_iload 7 rfl dX5_pointsOf_138 ?_
  refine V_iload_n 1 rfl dX5_pointsOf_140 rfl ?_
  obtain ⟨r1, hr1, hf⟩ := bno_some hf
  refine V_cS (As := [.int x2]) (rest := [.int x8]) (k_X6_step (d := 0) (Nat.le_refl _) hr1) LB_X6_step lk_X5_63 (by omega) dX5_pointsOf_141 rfl rfl (Nat.le_of_ble_eq_true rfl) (Nat.le_refl _) (Nat.le_refl _) [.int r1, .int x8] rfl ?_
  refine V_iadd dX5_pointsOf_144 ?_
  refine V_istore [(0, .ref (ad 11)), (2, .int x2), (3, .int x3), (4, .int x4), (5, .int x5), (6, .int x6), (7, .int x7), (8, .int (x8 + r1)), (9, .int x9), (10, .int x10)] [1, 2, 3, 4, 5, 6, 7, 0, 8, 9] dX5_pointsOf_145 (by decide) rfl ?_
  refine V_iinc (1) 9 [(0, .ref (ad 11)), (2, .int x2), (3, .int x3), (4, .int x4), (5, .int x5), (6, .int x6), (7, .int x7), (8, .int (x8 + r1)), (9, .int x9), (10, .int (x10 + 1))] [1, 2, 3, 4, 5, 6, 7, 8, 9, 0] dX5_pointsOf_147 rfl (by decide) (by decide) rfl ?_
  refine V_goto 54 dX5_pointsOf_150 (by decide) ?_
  exact hb54 _ _ _ _ _ _ _ _ _ hf
def f_X5_pointsOf_54 (σ : St) : Nat → Int32 → Int32 → Int32 → Int32 → Int32 → Int32 → Int32 → Int32 → Int32 → Option Int32
  | 0, _, _, _, _, _, _, _, _, _ => none
  | n + 1, x2, x3, x4, x5, x6, x7, x8, x9, x10 => if x9 ≤ x10 then (if x7 = (5) then (some (((x4 * x5) + x6) + (20))) else (some (((x4 * x5) + x6) + (0)))) else (bno (f_X0_hasTile σ x8) fun r1 => if (b2i r1) = 0 then (bno (f_X8_letter x3 x10) fun r2 => bno (f_X0_premium σ x8) fun r3 => bno (f_X5_extraOf σ r2 r3) fun r4 => bno (f_X5_wordFactor r3) fun r5 => bno (f_X5_crossPointsOf σ x8 r2 x2) fun r6 => f_X5_pointsOf_138 (f_X5_pointsOf_54 σ n) σ x2 x3 (x4 + r4) (x5 * r5) (x6 + r6) (x7 + 1) x8 x9 x10) else (f_X5_pointsOf_138 (f_X5_pointsOf_54 σ n) σ x2 x3 x4 x5 x6 x7 x8 x9 x10))
set_option maxHeartbeats 4000000 in
set_option maxRecDepth 100000 in
theorem v_X5_pointsOf_54 {l : Launch} {G : Gv} {ad : Nat → Nat} {d : Nat} {av0 : List Value} {w1 : va_W} {q : Int32} {σ : St} (hd : 4 ≤ d) : ∀ (n : Nat) (x2 : Int32) (x3 : Int32) (x4 : Int32) (x5 : Int32) (x6 : Int32) (x7 : Int32) (x8 : Int32) (x9 : Int32) (x10 : Int32), f_X5_pointsOf_54 σ n x2 x3 x4 x5 x6 x7 x8 x9 x10 = some q → VV l G yX5_pointsOf cX5_pointsOf 13 (some .int) d 0 0 av0 w1 (pD (some (.int q)) (wC G ad σ)) 0 0 (wC G ad σ) 54 [(0, .ref (ad 11)), (2, .int x2), (3, .int x3), (4, .int x4), (5, .int x5), (6, .int x6), (7, .int x7), (8, .int x8), (9, .int x9), (10, .int x10)] [] := by
  intro n
  induction n with
  | zero =>
    intro x2 x3 x4 x5 x6 x7 x8 x9 x10 hf
    cases hf
  | succ n ih =>
    intro x2 x3 x4 x5 x6 x7 x8 x9 x10 hf
    rw [f_X5_pointsOf_54] at hf
    refine V_iload 9 rfl dX5_pointsOf_54 ?_
    refine V_iload 8 rfl dX5_pointsOf_56 ?_
    refine V_icmp_ge 153 dX5_pointsOf_58 (by decide) (fun c1 => ?_) (fun c1 => ?_)
    · replace hf := (if_pos c1).symm.trans hf
      refine V_iload 3 rfl dX5_pointsOf_153 ?_
      refine V_iload 4 rfl dX5_pointsOf_155 ?_
      refine V_imul dX5_pointsOf_157 ?_
      refine V_iload 5 rfl dX5_pointsOf_158 ?_
      refine V_iadd dX5_pointsOf_160 ?_
      refine V_iload 6 rfl dX5_pointsOf_161 ?_
      refine V_iconst 5 dX5_pointsOf_163 (by decide) ?_
      refine V_icmp_ne 172 dX5_pointsOf_164 (by decide) (fun c2 => ?_) (fun c2 => ?_)
      · replace hf := (if_neg c2).symm.trans hf
        refine V_iconst 0 dX5_pointsOf_172 (by decide) ?_
        refine V_iadd dX5_pointsOf_173 ?_
        cases hf
        exact V_iret rfl dX5_pointsOf_174 ⟨rfl, rfl⟩
      · replace hf := (if_pos c2).symm.trans hf
        refine V_bipush 20 dX5_pointsOf_167 (by decide) ?_
        refine V_goto 173 dX5_pointsOf_169 (by decide) ?_
        refine V_iadd dX5_pointsOf_173 ?_
        cases hf
        exact V_iret rfl dX5_pointsOf_174 ⟨rfl, rfl⟩
    · replace hf := (if_neg c1).symm.trans hf
      refine V_aload_n 0 rfl dX5_pointsOf_61 rfl ?_
      refine V_get (k := 0) RC_X5 fl_X5_9 rfl (by decide) dX5_pointsOf_62 11 rfl rfl ?_
      refine V_getN (k := 1) RC_X7 fl_X5_66 rfl (by decide) dX5_pointsOf_65 1 rfl rfl ?_
      refine V_iload 7 rfl dX5_pointsOf_68 ?_
      obtain ⟨r1, hr1, hf⟩ := bno_some hf
      refine V_cV (As := [.int x8]) (rest := []) (k_X0_hasTile (d := 0) (Nat.le_refl _) hr1) LB_X0_hasTile lk_X5_70 (by omega) dX5_pointsOf_70 rfl rfl (Nat.le_of_ble_eq_true rfl) (Nat.le_refl _) (Nat.le_refl _) 4 rfl ⟨rfl, rfl⟩ [.int (b2i r1)] rfl ?_
      refine V_if_ne 138 dX5_pointsOf_73 (by decide) (fun c3 => ?_) (fun c3 => ?_)
      · replace hf := (if_neg c3).symm.trans hf
        exact v_X5_pointsOf_138 hd ih hf
      · replace hf := (if_pos c3).symm.trans hf
        refine V_iload_n 2 rfl dX5_pointsOf_76 rfl ?_
        refine V_iload 9 rfl dX5_pointsOf_77 ?_
        obtain ⟨r2, hr2, hf⟩ := bno_some hf
        refine V_cS (As := [.int x3, .int x10]) (rest := []) (k_X8_letter (d := 0) (Nat.le_refl _) hr2) LB_X8_letter lk_X5_79 (by omega) dX5_pointsOf_79 rfl rfl (Nat.le_of_ble_eq_true rfl) (Nat.le_refl _) (Nat.le_refl _) [.int r2] rfl ?_
        refine V_istore [(0, .ref (ad 11)), (2, .int x2), (3, .int x3), (4, .int x4), (5, .int x5), (6, .int x6), (7, .int x7), (8, .int x8), (9, .int x9), (10, .int x10), (11, .int r2)] [1, 2, 3, 4, 5, 6, 7, 8, 9, 10, 0] dX5_pointsOf_82 (by decide) rfl ?_
        refine V_aload_n 0 rfl dX5_pointsOf_84 rfl ?_
        refine V_get (k := 0) RC_X5 fl_X5_9 rfl (by decide) dX5_pointsOf_85 11 rfl rfl ?_
        refine V_getN (k := 1) RC_X7 fl_X5_66 rfl (by decide) dX5_pointsOf_88 1 rfl rfl ?_
        refine V_iload 7 rfl dX5_pointsOf_91 ?_
        obtain ⟨r3, hr3, hf⟩ := bno_some hf
        refine V_cV (As := [.int x8]) (rest := []) (k_X0_premium (d := 0) (Nat.le_refl _) hr3) LB_X0_premium lk_X5_151 (by omega) dX5_pointsOf_93 rfl rfl (Nat.le_of_ble_eq_true rfl) (Nat.le_refl _) (Nat.le_refl _) 4 rfl ⟨rfl, rfl⟩ [.int r3] rfl ?_
        refine V_istore [(0, .ref (ad 11)), (2, .int x2), (3, .int x3), (4, .int x4), (5, .int x5), (6, .int x6), (7, .int x7), (8, .int x8), (9, .int x9), (10, .int x10), (11, .int r2), (12, .int r3)] [1, 2, 3, 4, 5, 6, 7, 8, 9, 10, 11, 0] dX5_pointsOf_96 (by decide) rfl ?_
        refine V_iload 3 rfl dX5_pointsOf_98 ?_
        refine V_aload_n 0 rfl dX5_pointsOf_100 rfl ?_
        refine V_iload 10 rfl dX5_pointsOf_101 ?_
        refine V_iload 11 rfl dX5_pointsOf_103 ?_
        obtain ⟨r4, hr4, hf⟩ := bno_some hf
        refine V_cV (As := [.int r2, .int r3]) (rest := [.int x4]) (k_X5_extraOf (d := 2) (Nat.le_refl _) hr4) LB_X5_extraOf lk_X5_154 (by omega) dX5_pointsOf_105 rfl rfl (Nat.le_of_ble_eq_true rfl) (Nat.le_refl _) (Nat.le_refl _) 11 rfl ⟨rfl, rfl⟩ [.int r4, .int x4] rfl ?_
        refine V_iadd dX5_pointsOf_108 ?_
        refine V_istore [(0, .ref (ad 11)), (2, .int x2), (3, .int x3), (4, .int (x4 + r4)), (5, .int x5), (6, .int x6), (7, .int x7), (8, .int x8), (9, .int x9), (10, .int x10), (11, .int r2), (12, .int r3)] [1, 2, 3, 0, 4, 5, 6, 7, 8, 9, 10, 11] dX5_pointsOf_109 (by decide) rfl ?_
        refine V_iload 4 rfl dX5_pointsOf_111 ?_
        refine V_iload 11 rfl dX5_pointsOf_113 ?_
        obtain ⟨r5, hr5, hf⟩ := bno_some hf
        refine V_cS (As := [.int r3]) (rest := [.int x5]) (k_X5_wordFactor (d := 0) (Nat.le_refl _) hr5) LB_X5_wordFactor lk_X5_157 (by omega) dX5_pointsOf_115 rfl rfl (Nat.le_of_ble_eq_true rfl) (Nat.le_refl _) (Nat.le_refl _) [.int r5, .int x5] rfl ?_
        refine V_imul dX5_pointsOf_118 ?_
        refine V_istore [(0, .ref (ad 11)), (2, .int x2), (3, .int x3), (4, .int (x4 + r4)), (5, .int (x5 * r5)), (6, .int x6), (7, .int x7), (8, .int x8), (9, .int x9), (10, .int x10), (11, .int r2), (12, .int r3)] [1, 2, 3, 4, 0, 5, 6, 7, 8, 9, 10, 11] dX5_pointsOf_119 (by decide) rfl ?_
        refine V_iload 5 rfl dX5_pointsOf_121 ?_
        refine V_aload_n 0 rfl dX5_pointsOf_123 rfl ?_
        refine V_iload 7 rfl dX5_pointsOf_124 ?_
        refine V_iload 10 rfl dX5_pointsOf_126 ?_
        refine V_iload_n 1 rfl dX5_pointsOf_128 rfl ?_
        obtain ⟨r6, hr6, hf⟩ := bno_some hf
        refine V_cV (As := [.int x8, .int r2, .int x2]) (rest := [.int x6]) (k_X5_crossPointsOf (d := 3) (Nat.le_refl _) hr6) LB_X5_crossPointsOf lk_X5_160 (by omega) dX5_pointsOf_129 rfl rfl (Nat.le_of_ble_eq_true rfl) (Nat.le_refl _) (Nat.le_refl _) 11 rfl ⟨rfl, rfl⟩ [.int r6, .int x6] rfl ?_
        refine V_iadd dX5_pointsOf_132 ?_
        refine V_istore [(0, .ref (ad 11)), (2, .int x2), (3, .int x3), (4, .int (x4 + r4)), (5, .int (x5 * r5)), (6, .int (x6 + r6)), (7, .int x7), (8, .int x8), (9, .int x9), (10, .int x10), (11, .int r2), (12, .int r3)] [1, 2, 3, 4, 5, 0, 6, 7, 8, 9, 10, 11] dX5_pointsOf_133 (by decide) rfl ?_
        refine V_iinc (1) 6 [(0, .ref (ad 11)), (2, .int x2), (3, .int x3), (4, .int (x4 + r4)), (5, .int (x5 * r5)), (6, .int (x6 + r6)), (7, .int (x7 + 1)), (8, .int x8), (9, .int x9), (10, .int x10), (11, .int r2), (12, .int r3)] [1, 2, 3, 4, 5, 6, 0, 7, 8, 9, 10, 11] dX5_pointsOf_135 rfl (by decide) (by decide) rfl ?_
        refine V_lv [(0, .ref (ad 11)), (2, .int x2), (3, .int x3), (4, .int (x4 + r4)), (5, .int (x5 * r5)), (6, .int (x6 + r6)), (7, .int (x7 + 1)), (8, .int x8), (9, .int x9), (10, .int x10)] [0, 1, 2, 3, 4, 5, 6, 7, 8, 9] rfl ?_
        exact v_X5_pointsOf_138 hd ih hf
def f_X5_pointsOf (σ : St) (x1 : Int32) : Option Int32 := bno (f_X6_ofPlay x1) fun r1 => bno (f_X6_wordOfPlay x1) fun r2 => bno (f_X1_word σ r2) fun r3 => bno (f_X7_valueOfWord σ r3) fun r4 => bno (f_X6_square r1) fun r5 => bno (f_X8_length r3) fun r6 => f_X5_pointsOf_54 σ FU r1 r3 r4 (1) (0) (0) r5 r6 (0)
set_option maxHeartbeats 4000000 in
set_option maxRecDepth 100000 in
theorem v_X5_pointsOf {l : Launch} {G : Gv} {ad : Nat → Nat} {d : Nat} {av0 : List Value} {w1 : va_W} {q : Int32} {σ : St} {x1 : Int32} (hd : 4 ≤ d) (hf : f_X5_pointsOf σ x1 = some q) : VV l G yX5_pointsOf cX5_pointsOf 13 (some .int) d 0 0 av0 w1 (pD (some (.int q)) (wC G ad σ)) 0 0 (wC G ad σ) 0 [(0, .ref (ad 11)), (1, .int x1)] [] := by
  unfold f_X5_pointsOf at hf
  refine V_iload_n 1 rfl dX5_pointsOf_0 rfl ?_
  obtain ⟨r1, hr1, hf⟩ := bno_some hf
  refine V_cS (As := [.int x1]) (rest := []) (k_X6_ofPlay (d := 0) (Nat.le_refl _) hr1) LB_X6_ofPlay lk_X5_121 (by omega) dX5_pointsOf_1 rfl rfl (Nat.le_of_ble_eq_true rfl) (Nat.le_refl _) (Nat.le_refl _) [.int r1] rfl ?_
  refine V_istore_n [(0, .ref (ad 11)), (1, .int x1), (2, .int r1)] [1, 2, 0] dX5_pointsOf_4 rfl (by decide) rfl ?_
  refine V_aload_n 0 rfl dX5_pointsOf_5 rfl ?_
  refine V_get (k := 0) RC_X5 fl_X5_9 rfl (by decide) dX5_pointsOf_6 11 rfl rfl ?_
  refine V_getN (k := 0) RC_X7 fl_X5_15 rfl (by decide) dX5_pointsOf_9 1 rfl rfl ?_
  refine V_iload_n 1 rfl dX5_pointsOf_12 rfl ?_
  obtain ⟨r2, hr2, hf⟩ := bno_some hf
  refine V_cS (As := [.int x1]) (rest := [.ref (ad 2)]) (k_X6_wordOfPlay (d := 0) (Nat.le_refl _) hr2) LB_X6_wordOfPlay lk_X5_118 (by omega) dX5_pointsOf_13 rfl rfl (Nat.le_of_ble_eq_true rfl) (Nat.le_refl _) (Nat.le_refl _) [.int r2, .ref (ad 2)] rfl ?_
  obtain ⟨r3, hr3, hf⟩ := bno_some hf
  refine V_cV (As := [.int r2]) (rest := []) (k_X1_word (d := 0) (Nat.le_refl _) hr3) LB_X1_word lk_X5_21 (by omega) dX5_pointsOf_16 rfl rfl (Nat.le_of_ble_eq_true rfl) (Nat.le_refl _) (Nat.le_refl _) 2 rfl ⟨rfl, rfl⟩ [.int r3] rfl ?_
  refine V_istore_n [(0, .ref (ad 11)), (1, .int x1), (2, .int r1), (3, .int r3)] [1, 2, 3, 0] dX5_pointsOf_19 rfl (by decide) rfl ?_
  refine V_aload_n 0 rfl dX5_pointsOf_20 rfl ?_
  refine V_get (k := 0) RC_X5 fl_X5_9 rfl (by decide) dX5_pointsOf_21 11 rfl rfl ?_
  refine V_iload_n 3 rfl dX5_pointsOf_24 rfl ?_
  obtain ⟨r4, hr4, hf⟩ := bno_some hf
  refine V_cV (As := [.int r3]) (rest := []) (k_X7_valueOfWord (d := 2) (Nat.le_refl _) hr4) LB_X7_valueOfWord lk_X5_148 (by omega) dX5_pointsOf_25 rfl rfl (Nat.le_of_ble_eq_true rfl) (Nat.le_refl _) (Nat.le_refl _) 1 rfl ⟨rfl, rfl⟩ [.int r4] rfl ?_
  refine V_istore [(0, .ref (ad 11)), (1, .int x1), (2, .int r1), (3, .int r3), (4, .int r4)] [1, 2, 3, 4, 0] dX5_pointsOf_28 (by decide) rfl ?_
  refine V_iconst 1 dX5_pointsOf_30 (by decide) ?_
  refine V_istore [(0, .ref (ad 11)), (1, .int x1), (2, .int r1), (3, .int r3), (4, .int r4), (5, .int (1))] [1, 2, 3, 4, 5, 0] dX5_pointsOf_31 (by decide) rfl ?_
  refine V_iconst 0 dX5_pointsOf_33 (by decide) ?_
  refine V_istore [(0, .ref (ad 11)), (1, .int x1), (2, .int r1), (3, .int r3), (4, .int r4), (5, .int (1)), (6, .int (0))] [1, 2, 3, 4, 5, 6, 0] dX5_pointsOf_34 (by decide) rfl ?_
  refine V_iconst 0 dX5_pointsOf_36 (by decide) ?_
  refine V_istore [(0, .ref (ad 11)), (1, .int x1), (2, .int r1), (3, .int r3), (4, .int r4), (5, .int (1)), (6, .int (0)), (7, .int (0))] [1, 2, 3, 4, 5, 6, 7, 0] dX5_pointsOf_37 (by decide) rfl ?_
  refine V_iload_n 2 rfl dX5_pointsOf_39 rfl ?_
  obtain ⟨r5, hr5, hf⟩ := bno_some hf
  refine V_cS (As := [.int r1]) (rest := []) (k_X6_square (d := 0) (Nat.le_refl _) hr5) LB_X6_square lk_X5_60 (by omega) dX5_pointsOf_40 rfl rfl (Nat.le_of_ble_eq_true rfl) (Nat.le_refl _) (Nat.le_refl _) [.int r5] rfl ?_
  refine V_istore [(0, .ref (ad 11)), (1, .int x1), (2, .int r1), (3, .int r3), (4, .int r4), (5, .int (1)), (6, .int (0)), (7, .int (0)), (8, .int r5)] [1, 2, 3, 4, 5, 6, 7, 8, 0] dX5_pointsOf_43 (by decide) rfl ?_
  refine V_iload_n 3 rfl dX5_pointsOf_45 rfl ?_
  obtain ⟨r6, hr6, hf⟩ := bno_some hf
  refine V_cS (As := [.int r3]) (rest := []) (k_X8_length (d := 0) (Nat.le_refl _) hr6) LB_X8_length lk_X5_27 (by omega) dX5_pointsOf_46 rfl rfl (Nat.le_of_ble_eq_true rfl) (Nat.le_refl _) (Nat.le_refl _) [.int r6] rfl ?_
  refine V_istore [(0, .ref (ad 11)), (1, .int x1), (2, .int r1), (3, .int r3), (4, .int r4), (5, .int (1)), (6, .int (0)), (7, .int (0)), (8, .int r5), (9, .int r6)] [1, 2, 3, 4, 5, 6, 7, 8, 9, 0] dX5_pointsOf_49 (by decide) rfl ?_
  refine V_iconst 0 dX5_pointsOf_51 (by decide) ?_
  refine V_istore [(0, .ref (ad 11)), (1, .int x1), (2, .int r1), (3, .int r3), (4, .int r4), (5, .int (1)), (6, .int (0)), (7, .int (0)), (8, .int r5), (9, .int r6), (10, .int (0))] [1, 2, 3, 4, 5, 6, 7, 8, 9, 10, 0] dX5_pointsOf_52 (by decide) rfl ?_
  refine V_lv [(0, .ref (ad 11)), (2, .int r1), (3, .int r3), (4, .int r4), (5, .int (1)), (6, .int (0)), (7, .int (0)), (8, .int r5), (9, .int r6), (10, .int (0))] [0, 2, 3, 4, 5, 6, 7, 8, 9, 10] rfl ?_
  exact v_X5_pointsOf_54 hd _ _ _ _ _ _ _ _ _ _ hf
theorem k_X5_pointsOf {l : Launch} {G : Gv} {ad : Nat → Nat} {d : Nat} {σ : St} {q : Int32} {x1 : Int32} (hd : 4 ≤ d) (hf : f_X5_pointsOf σ x1 = some q) : K l G yX5_pointsOf cX5_pointsOf 13 (some .int) d 0 0 [.ref (ad 11), .int x1] (wC G ad σ) (pD (some (.int q)) (wC G ad σ)) := K_intro (by decide) (Nat.le_of_ble_eq_true rfl) (v_X5_pointsOf hd hf)
def f_X5_equityOf (σ : St) (x1 : Int32) (x2 : Int32) : Option Int32 := bno (f_X6_ofPlay x2) fun r1 => bno (f_X6_wordOfPlay x2) fun r2 => bno (f_X1_word σ r2) fun r3 => bno (f_X5_pointsOf σ x2) fun r4 => bno (f_X7_rack σ x1) fun r5 => bno (f_X5_rackAfter σ r5 r1 r3) fun r6 => bno (f_X7_leaveOf σ r6) fun r7 => some (r4 + r7)
set_option maxHeartbeats 4000000 in
set_option maxRecDepth 100000 in
theorem v_X5_equityOf {l : Launch} {G : Gv} {ad : Nat → Nat} {d : Nat} {av0 : List Value} {w1 : va_W} {q : Int32} {σ : St} {x1 : Int32} {x2 : Int32} (hd : 5 ≤ d) (hf : f_X5_equityOf σ x1 x2 = some q) : VV l G yX5_equityOf cX5_equityOf 5 (some .int) d 0 0 av0 w1 (pD (some (.int q)) (wC G ad σ)) 0 0 (wC G ad σ) 0 [(0, .ref (ad 11)), (1, .int x1), (2, .int x2)] [] := by
  unfold f_X5_equityOf at hf
  refine V_iload_n 2 rfl dX5_equityOf_0 rfl ?_
  obtain ⟨r1, hr1, hf⟩ := bno_some hf
  refine V_cS (As := [.int x2]) (rest := []) (k_X6_ofPlay (d := 0) (Nat.le_refl _) hr1) LB_X6_ofPlay lk_X5_121 (by omega) dX5_equityOf_1 rfl rfl (Nat.le_of_ble_eq_true rfl) (Nat.le_refl _) (Nat.le_refl _) [.int r1] rfl ?_
  refine V_istore_n [(0, .ref (ad 11)), (1, .int x1), (2, .int x2), (3, .int r1)] [1, 2, 3, 0] dX5_equityOf_4 rfl (by decide) rfl ?_
  refine V_aload_n 0 rfl dX5_equityOf_5 rfl ?_
  refine V_get (k := 0) RC_X5 fl_X5_9 rfl (by decide) dX5_equityOf_6 11 rfl rfl ?_
  refine V_getN (k := 0) RC_X7 fl_X5_15 rfl (by decide) dX5_equityOf_9 1 rfl rfl ?_
  refine V_iload_n 2 rfl dX5_equityOf_12 rfl ?_
  obtain ⟨r2, hr2, hf⟩ := bno_some hf
  refine V_cS (As := [.int x2]) (rest := [.ref (ad 2)]) (k_X6_wordOfPlay (d := 0) (Nat.le_refl _) hr2) LB_X6_wordOfPlay lk_X5_118 (by omega) dX5_equityOf_13 rfl rfl (Nat.le_of_ble_eq_true rfl) (Nat.le_refl _) (Nat.le_refl _) [.int r2, .ref (ad 2)] rfl ?_
  obtain ⟨r3, hr3, hf⟩ := bno_some hf
  refine V_cV (As := [.int r2]) (rest := []) (k_X1_word (d := 0) (Nat.le_refl _) hr3) LB_X1_word lk_X5_21 (by omega) dX5_equityOf_16 rfl rfl (Nat.le_of_ble_eq_true rfl) (Nat.le_refl _) (Nat.le_refl _) 2 rfl ⟨rfl, rfl⟩ [.int r3] rfl ?_
  refine V_istore [(0, .ref (ad 11)), (1, .int x1), (2, .int x2), (3, .int r1), (4, .int r3)] [1, 2, 3, 4, 0] dX5_equityOf_19 (by decide) rfl ?_
  refine V_aload_n 0 rfl dX5_equityOf_21 rfl ?_
  refine V_iload_n 2 rfl dX5_equityOf_22 rfl ?_
  obtain ⟨r4, hr4, hf⟩ := bno_some hf
  refine V_cV (As := [.int x2]) (rest := []) (k_X5_pointsOf (d := 4) (Nat.le_refl _) hr4) LB_X5_pointsOf lk_X5_142 (by omega) dX5_equityOf_23 rfl rfl (Nat.le_of_ble_eq_true rfl) (Nat.le_refl _) (Nat.le_refl _) 11 rfl ⟨rfl, rfl⟩ [.int r4] rfl ?_
  refine V_aload_n 0 rfl dX5_equityOf_26 rfl ?_
  refine V_get (k := 0) RC_X5 fl_X5_9 rfl (by decide) dX5_equityOf_27 11 rfl rfl ?_
  refine V_aload_n 0 rfl dX5_equityOf_30 rfl ?_
  refine V_aload_n 0 rfl dX5_equityOf_31 rfl ?_
  refine V_get (k := 0) RC_X5 fl_X5_9 rfl (by decide) dX5_equityOf_32 11 rfl rfl ?_
  refine V_iload_n 1 rfl dX5_equityOf_35 rfl ?_
  obtain ⟨r5, hr5, hf⟩ := bno_some hf
  refine V_cV (As := [.int x1]) (rest := [.ref (ad 11), .ref (ad 1), .int r4]) (k_X7_rack (d := 1) (Nat.le_refl _) hr5) LB_X7_rack lk_X5_47 (by omega) dX5_equityOf_36 rfl rfl (Nat.le_of_ble_eq_true rfl) (Nat.le_refl _) (Nat.le_refl _) 1 rfl ⟨rfl, rfl⟩ [.int r5, .ref (ad 11), .ref (ad 1), .int r4] rfl ?_
  refine V_iload_n 3 rfl dX5_equityOf_39 rfl ?_
  refine V_iload 4 rfl dX5_equityOf_40 ?_
  obtain ⟨r6, hr6, hf⟩ := bno_some hf
  refine V_cV (As := [.int r5, .int r1, .int r3]) (rest := [.ref (ad 1), .int r4]) (k_X5_rackAfter (d := 2) (Nat.le_refl _) hr6) LB_X5_rackAfter lk_X5_50 (by omega) dX5_equityOf_42 rfl rfl (Nat.le_of_ble_eq_true rfl) (Nat.le_refl _) (Nat.le_refl _) 11 rfl ⟨rfl, rfl⟩ [.int r6, .ref (ad 1), .int r4] rfl ?_
  obtain ⟨r7, hr7, hf⟩ := bno_some hf
  refine V_cV (As := [.int r6]) (rest := [.int r4]) (k_X7_leaveOf (d := 1) (Nat.le_refl _) hr7) LB_X7_leaveOf lk_X5_145 (by omega) dX5_equityOf_45 rfl rfl (Nat.le_of_ble_eq_true rfl) (Nat.le_refl _) (Nat.le_refl _) 1 rfl ⟨rfl, rfl⟩ [.int r7, .int r4] rfl ?_
  refine V_iadd dX5_equityOf_48 ?_
  cases hf
  exact V_iret rfl dX5_equityOf_49 ⟨rfl, rfl⟩
theorem k_X5_equityOf {l : Launch} {G : Gv} {ad : Nat → Nat} {d : Nat} {σ : St} {q : Int32} {x1 : Int32} {x2 : Int32} (hd : 5 ≤ d) (hf : f_X5_equityOf σ x1 x2 = some q) : K l G yX5_equityOf cX5_equityOf 5 (some .int) d 0 0 [.ref (ad 11), .int x1, .int x2] (wC G ad σ) (pD (some (.int q)) (wC G ad σ)) := K_intro (by decide) (Nat.le_of_ble_eq_true rfl) (v_X5_equityOf hd hf)
def f_X5_agreesWithTiles_53 (bk14 : Int32 → Int32 → Int32 → Int32 → Int32 → Option Bool) (σ : St) (x1 : Int32) (x2 : Int32) (x3 : Int32) (x4 : Int32) (x5 : Int32) : Option Bool := bno (f_X6_step x1) fun r1 => bk14 x1 x2 (x3 + r1) x4 (x5 + 1)
set_option maxHeartbeats 4000000 in
set_option maxRecDepth 100000 in
theorem v_X5_agreesWithTiles_53 {l : Launch} {G : Gv} {ad : Nat → Nat} {d : Nat} {av0 : List Value} {w1 : va_W} {q : Bool} {bk14 : Int32 → Int32 → Int32 → Int32 → Int32 → Option Bool} {σ : St} {x1 : Int32} {x2 : Int32} {x3 : Int32} {x4 : Int32} {x5 : Int32} (hd : 2 ≤ d) (hb14 : ∀ (x1 : Int32) (x2 : Int32) (x3 : Int32) (x4 : Int32) (x5 : Int32), bk14 x1 x2 x3 x4 x5 = some q → VV l G yX5_agreesWithTiles cX5_agreesWithTiles 7 (some .boolean) d 0 0 av0 w1 (pD (some (.int (b2i q))) (wC G ad σ)) 0 0 (wC G ad σ) 14 [(0, .ref (ad 11)), (1, .int x1), (2, .int x2), (3, .int x3), (4, .int x4), (5, .int x5)] []) (hf : f_X5_agreesWithTiles_53 bk14 σ x1 x2 x3 x4 x5 = some q) : VV l G yX5_agreesWithTiles cX5_agreesWithTiles 7 (some .boolean) d 0 0 av0 w1 (pD (some (.int (b2i q))) (wC G ad σ)) 0 0 (wC G ad σ) 53 [(0, .ref (ad 11)), (1, .int x1), (2, .int x2), (3, .int x3), (4, .int x4), (5, .int x5)] [] := by
  unfold f_X5_agreesWithTiles_53 at hf
  refine V_iload_n 3 rfl dX5_agreesWithTiles_53 rfl ?_
  refine V_iload_n 1 rfl dX5_agreesWithTiles_54 rfl ?_
  obtain ⟨r1, hr1, hf⟩ := bno_some hf
  refine V_cS (As := [.int x1]) (rest := [.int x3]) (k_X6_step (d := 0) (Nat.le_refl _) hr1) LB_X6_step lk_X5_63 (by omega) dX5_agreesWithTiles_55 rfl rfl (Nat.le_of_ble_eq_true rfl) (Nat.le_refl _) (Nat.le_refl _) [.int r1, .int x3] rfl ?_
  refine V_iadd dX5_agreesWithTiles_58 ?_
  refine V_istore_n [(0, .ref (ad 11)), (1, .int x1), (2, .int x2), (3, .int (x3 + r1)), (4, .int x4), (5, .int x5)] [1, 2, 3, 0, 4, 5] dX5_agreesWithTiles_59 rfl (by decide) rfl ?_
  refine V_iinc (1) 5 [(0, .ref (ad 11)), (1, .int x1), (2, .int x2), (3, .int (x3 + r1)), (4, .int x4), (5, .int (x5 + 1))] [1, 2, 3, 4, 5, 0] dX5_agreesWithTiles_60 rfl (by decide) (by decide) rfl ?_
  refine V_goto 14 dX5_agreesWithTiles_63 (by decide) ?_
  exact hb14 _ _ _ _ _ hf
def f_X5_agreesWithTiles_14 (σ : St) : Nat → Int32 → Int32 → Int32 → Int32 → Int32 → Option Bool
  | 0, _, _, _, _, _ => none
  | n + 1, x1, x2, x3, x4, x5 => if x4 ≤ x5 then (some true) else (bno (f_X0_letter σ x3) fun r1 => if r1 = (-1) then (f_X5_agreesWithTiles_53 (f_X5_agreesWithTiles_14 σ n) σ x1 x2 x3 x4 x5) else (bno (f_X8_letter x2 x5) fun r2 => if r1 = r2 then (f_X5_agreesWithTiles_53 (f_X5_agreesWithTiles_14 σ n) σ x1 x2 x3 x4 x5) else (some false)))
set_option maxHeartbeats 4000000 in
set_option maxRecDepth 100000 in
theorem v_X5_agreesWithTiles_14 {l : Launch} {G : Gv} {ad : Nat → Nat} {d : Nat} {av0 : List Value} {w1 : va_W} {q : Bool} {σ : St} (hd : 2 ≤ d) : ∀ (n : Nat) (x1 : Int32) (x2 : Int32) (x3 : Int32) (x4 : Int32) (x5 : Int32), f_X5_agreesWithTiles_14 σ n x1 x2 x3 x4 x5 = some q → VV l G yX5_agreesWithTiles cX5_agreesWithTiles 7 (some .boolean) d 0 0 av0 w1 (pD (some (.int (b2i q))) (wC G ad σ)) 0 0 (wC G ad σ) 14 [(0, .ref (ad 11)), (1, .int x1), (2, .int x2), (3, .int x3), (4, .int x4), (5, .int x5)] [] := by
  intro n
  induction n with
  | zero =>
    intro x1 x2 x3 x4 x5 hf
    cases hf
  | succ n ih =>
    intro x1 x2 x3 x4 x5 hf
    rw [f_X5_agreesWithTiles_14] at hf
    refine V_iload 5 rfl dX5_agreesWithTiles_14 ?_
    refine V_iload 4 rfl dX5_agreesWithTiles_16 ?_
    refine V_icmp_ge 66 dX5_agreesWithTiles_18 (by decide) (fun c1 => ?_) (fun c1 => ?_)
    · replace hf := (if_pos c1).symm.trans hf
      refine V_iconst 1 dX5_agreesWithTiles_66 (by decide) ?_
      cases hf
      exact V_zret (ty := .boolean) rfl rfl dX5_agreesWithTiles_67 ⟨rfl, rfl⟩
    · replace hf := (if_neg c1).symm.trans hf
      refine V_aload_n 0 rfl dX5_agreesWithTiles_21 rfl ?_
      refine V_get (k := 0) RC_X5 fl_X5_9 rfl (by decide) dX5_agreesWithTiles_22 11 rfl rfl ?_
      refine V_getN (k := 1) RC_X7 fl_X5_66 rfl (by decide) dX5_agreesWithTiles_25 1 rfl rfl ?_
      refine V_iload_n 3 rfl dX5_agreesWithTiles_28 rfl ?_
      obtain ⟨r1, hr1, hf⟩ := bno_some hf
      refine V_cV (As := [.int x3]) (rest := []) (k_X0_letter (d := 1) (Nat.le_refl _) hr1) LB_X0_letter lk_X5_76 (by omega) dX5_agreesWithTiles_29 rfl rfl (Nat.le_of_ble_eq_true rfl) (Nat.le_refl _) (Nat.le_refl _) 4 rfl ⟨rfl, rfl⟩ [.int r1] rfl ?_
      refine V_istore [(0, .ref (ad 11)), (1, .int x1), (2, .int x2), (3, .int x3), (4, .int x4), (5, .int x5), (6, .int r1)] [1, 2, 3, 4, 5, 6, 0] dX5_agreesWithTiles_32 (by decide) rfl ?_
      refine V_iload 6 rfl dX5_agreesWithTiles_34 ?_
      refine V_iconst (-1) dX5_agreesWithTiles_36 (by decide) ?_
      refine V_icmp_eq 53 dX5_agreesWithTiles_37 (by decide) (fun c2 => ?_) (fun c2 => ?_)
      · replace hf := (if_pos c2).symm.trans hf
        refine V_lv [(0, .ref (ad 11)), (1, .int x1), (2, .int x2), (3, .int x3), (4, .int x4), (5, .int x5)] [0, 1, 2, 3, 4, 5] rfl ?_
        exact v_X5_agreesWithTiles_53 hd ih hf
      · replace hf := (if_neg c2).symm.trans hf
        refine V_iload 6 rfl dX5_agreesWithTiles_40 ?_
        refine V_iload_n 2 rfl dX5_agreesWithTiles_42 rfl ?_
        refine V_iload 5 rfl dX5_agreesWithTiles_43 ?_
        obtain ⟨r2, hr2, hf⟩ := bno_some hf
        refine V_cS (As := [.int x2, .int x5]) (rest := [.int r1]) (k_X8_letter (d := 0) (Nat.le_refl _) hr2) LB_X8_letter lk_X5_79 (by omega) dX5_agreesWithTiles_45 rfl rfl (Nat.le_of_ble_eq_true rfl) (Nat.le_refl _) (Nat.le_refl _) [.int r2, .int r1] rfl ?_
        refine V_icmp_eq 53 dX5_agreesWithTiles_48 (by decide) (fun c3 => ?_) (fun c3 => ?_)
        · replace hf := (if_pos c3).symm.trans hf
          refine V_lv [(0, .ref (ad 11)), (1, .int x1), (2, .int x2), (3, .int x3), (4, .int x4), (5, .int x5)] [0, 1, 2, 3, 4, 5] rfl ?_
          exact v_X5_agreesWithTiles_53 hd ih hf
        · replace hf := (if_neg c3).symm.trans hf
          refine V_iconst 0 dX5_agreesWithTiles_51 (by decide) ?_
          cases hf
          exact V_zret (ty := .boolean) rfl rfl dX5_agreesWithTiles_52 ⟨rfl, rfl⟩
def f_X5_agreesWithTiles (σ : St) (x1 : Int32) (x2 : Int32) : Option Bool := bno (f_X6_square x1) fun r1 => bno (f_X8_length x2) fun r2 => f_X5_agreesWithTiles_14 σ FU x1 x2 r1 r2 (0)
set_option maxHeartbeats 4000000 in
set_option maxRecDepth 100000 in
theorem v_X5_agreesWithTiles {l : Launch} {G : Gv} {ad : Nat → Nat} {d : Nat} {av0 : List Value} {w1 : va_W} {q : Bool} {σ : St} {x1 : Int32} {x2 : Int32} (hd : 2 ≤ d) (hf : f_X5_agreesWithTiles σ x1 x2 = some q) : VV l G yX5_agreesWithTiles cX5_agreesWithTiles 7 (some .boolean) d 0 0 av0 w1 (pD (some (.int (b2i q))) (wC G ad σ)) 0 0 (wC G ad σ) 0 [(0, .ref (ad 11)), (1, .int x1), (2, .int x2)] [] := by
  unfold f_X5_agreesWithTiles at hf
  refine V_iload_n 1 rfl dX5_agreesWithTiles_0 rfl ?_
  obtain ⟨r1, hr1, hf⟩ := bno_some hf
  refine V_cS (As := [.int x1]) (rest := []) (k_X6_square (d := 0) (Nat.le_refl _) hr1) LB_X6_square lk_X5_60 (by omega) dX5_agreesWithTiles_1 rfl rfl (Nat.le_of_ble_eq_true rfl) (Nat.le_refl _) (Nat.le_refl _) [.int r1] rfl ?_
  refine V_istore_n [(0, .ref (ad 11)), (1, .int x1), (2, .int x2), (3, .int r1)] [1, 2, 3, 0] dX5_agreesWithTiles_4 rfl (by decide) rfl ?_
  refine V_iload_n 2 rfl dX5_agreesWithTiles_5 rfl ?_
  obtain ⟨r2, hr2, hf⟩ := bno_some hf
  refine V_cS (As := [.int x2]) (rest := []) (k_X8_length (d := 0) (Nat.le_refl _) hr2) LB_X8_length lk_X5_27 (by omega) dX5_agreesWithTiles_6 rfl rfl (Nat.le_of_ble_eq_true rfl) (Nat.le_refl _) (Nat.le_refl _) [.int r2] rfl ?_
  refine V_istore [(0, .ref (ad 11)), (1, .int x1), (2, .int x2), (3, .int r1), (4, .int r2)] [1, 2, 3, 4, 0] dX5_agreesWithTiles_9 (by decide) rfl ?_
  refine V_iconst 0 dX5_agreesWithTiles_11 (by decide) ?_
  refine V_istore [(0, .ref (ad 11)), (1, .int x1), (2, .int x2), (3, .int r1), (4, .int r2), (5, .int (0))] [1, 2, 3, 4, 5, 0] dX5_agreesWithTiles_12 (by decide) rfl ?_
  exact v_X5_agreesWithTiles_14 hd _ _ _ _ _ _ hf
theorem k_X5_agreesWithTiles {l : Launch} {G : Gv} {ad : Nat → Nat} {d : Nat} {σ : St} {q : Bool} {x1 : Int32} {x2 : Int32} (hd : 2 ≤ d) (hf : f_X5_agreesWithTiles σ x1 x2 = some q) : K l G yX5_agreesWithTiles cX5_agreesWithTiles 7 (some .boolean) d 0 0 [.ref (ad 11), .int x1, .int x2] (wC G ad σ) (pD (some (.int (b2i q))) (wC G ad σ)) := K_intro (by decide) (Nat.le_of_ble_eq_true rfl) (v_X5_agreesWithTiles hd hf)
def f_X5_isConnected (σ : St) (x1 : Int32) (x2 : Int32) : Option Bool := bno (f_X6_squares x1 x2) fun r1 => bno (f_X6_crossStep x1) fun r2 => bno (f_X0_connects σ r1 r2) fun r3 => some r3
set_option maxHeartbeats 4000000 in
set_option maxRecDepth 100000 in
theorem v_X5_isConnected {l : Launch} {G : Gv} {ad : Nat → Nat} {d : Nat} {av0 : List Value} {w1 : va_W} {q : Bool} {σ : St} {x1 : Int32} {x2 : Int32} (hd : 1 ≤ d) (hf : f_X5_isConnected σ x1 x2 = some q) : VV l G yX5_isConnected cX5_isConnected 3 (some .boolean) d 0 0 av0 w1 (pD (some (.int (b2i q))) (wC G ad σ)) 0 0 (wC G ad σ) 0 [(0, .ref (ad 11)), (1, .int x1), (2, .int x2)] [] := by
  unfold f_X5_isConnected at hf
  refine V_aload_n 0 rfl dX5_isConnected_0 rfl ?_
  refine V_get (k := 0) RC_X5 fl_X5_9 rfl (by decide) dX5_isConnected_1 11 rfl rfl ?_
  refine V_getN (k := 1) RC_X7 fl_X5_66 rfl (by decide) dX5_isConnected_4 1 rfl rfl ?_
  refine V_iload_n 1 rfl dX5_isConnected_7 rfl ?_
  refine V_iload_n 2 rfl dX5_isConnected_8 rfl ?_
  obtain ⟨r1, hr1, hf⟩ := bno_some hf
  refine V_cS (As := [.int x1, .int x2]) (rest := [.ref (ad 4)]) (k_X6_squares (d := 0) (Nat.le_refl _) hr1) LB_X6_squares lk_X5_82 (by omega) dX5_isConnected_9 rfl rfl (Nat.le_of_ble_eq_true rfl) (Nat.le_refl _) (Nat.le_refl _) [.long r1, .ref (ad 4)] rfl ?_
  refine V_iload_n 1 rfl dX5_isConnected_12 rfl ?_
  obtain ⟨r2, hr2, hf⟩ := bno_some hf
  refine V_cS (As := [.int x1]) (rest := [.long r1, .ref (ad 4)]) (k_X6_crossStep (d := 0) (Nat.le_refl _) hr2) LB_X6_crossStep lk_X5_90 (by omega) dX5_isConnected_13 rfl rfl (Nat.le_of_ble_eq_true rfl) (Nat.le_refl _) (Nat.le_refl _) [.int r2, .long r1, .ref (ad 4)] rfl ?_
  obtain ⟨r3, hr3, hf⟩ := bno_some hf
  refine V_cV (As := [.long r1, .int r2]) (rest := []) (k_X0_connects (d := 0) (Nat.le_refl _) hr3) LB_X0_connects lk_X5_93 (by omega) dX5_isConnected_16 rfl rfl (Nat.le_of_ble_eq_true rfl) (Nat.le_refl _) (Nat.le_refl _) 4 rfl ⟨rfl, rfl⟩ [.int (b2i r3)] rfl ?_
  cases hf
  exact V_zret (ty := .boolean) rfl (narrow_b2i _) dX5_isConnected_19 ⟨rfl, rfl⟩
theorem k_X5_isConnected {l : Launch} {G : Gv} {ad : Nat → Nat} {d : Nat} {σ : St} {q : Bool} {x1 : Int32} {x2 : Int32} (hd : 1 ≤ d) (hf : f_X5_isConnected σ x1 x2 = some q) : K l G yX5_isConnected cX5_isConnected 3 (some .boolean) d 0 0 [.ref (ad 11), .int x1, .int x2] (wC G ad σ) (pD (some (.int (b2i q))) (wC G ad σ)) := K_intro (by decide) (Nat.le_of_ble_eq_true rfl) (v_X5_isConnected hd hf)
def f_X5_crossWordsAreWords_73 (bk14 : Int32 → Int32 → Int32 → Int32 → Int32 → Option Bool) (σ : St) (x1 : Int32) (x2 : Int32) (x3 : Int32) (x4 : Int32) (x5 : Int32) : Option Bool := bno (f_X6_step x1) fun r1 => bk14 x1 x2 (x3 + r1) x4 (x5 + 1)
set_option maxHeartbeats 4000000 in
set_option maxRecDepth 100000 in
theorem v_X5_crossWordsAreWords_73 {l : Launch} {G : Gv} {ad : Nat → Nat} {d : Nat} {av0 : List Value} {w1 : va_W} {q : Bool} {bk14 : Int32 → Int32 → Int32 → Int32 → Int32 → Option Bool} {σ : St} {x1 : Int32} {x2 : Int32} {x3 : Int32} {x4 : Int32} {x5 : Int32} (hd : 3 ≤ d) (hb14 : ∀ (x1 : Int32) (x2 : Int32) (x3 : Int32) (x4 : Int32) (x5 : Int32), bk14 x1 x2 x3 x4 x5 = some q → VV l G yX5_crossWordsAreWords cX5_crossWordsAreWords 8 (some .boolean) d 0 0 av0 w1 (pD (some (.int (b2i q))) (wC G ad σ)) 0 0 (wC G ad σ) 14 [(0, .ref (ad 11)), (1, .int x1), (2, .int x2), (3, .int x3), (4, .int x4), (5, .int x5)] []) (hf : f_X5_crossWordsAreWords_73 bk14 σ x1 x2 x3 x4 x5 = some q) : VV l G yX5_crossWordsAreWords cX5_crossWordsAreWords 8 (some .boolean) d 0 0 av0 w1 (pD (some (.int (b2i q))) (wC G ad σ)) 0 0 (wC G ad σ) 73 [(0, .ref (ad 11)), (1, .int x1), (2, .int x2), (3, .int x3), (4, .int x4), (5, .int x5)] [] := by
  unfold f_X5_crossWordsAreWords_73 at hf
  refine V_iload_n 3 rfl dX5_crossWordsAreWords_73 rfl ?_
  refine V_iload_n 1 rfl dX5_crossWordsAreWords_74 rfl ?_
  obtain ⟨r1, hr1, hf⟩ := bno_some hf
  refine V_cS (As := [.int x1]) (rest := [.int x3]) (k_X6_step (d := 0) (Nat.le_refl _) hr1) LB_X6_step lk_X5_63 (by omega) dX5_crossWordsAreWords_75 rfl rfl (Nat.le_of_ble_eq_true rfl) (Nat.le_refl _) (Nat.le_refl _) [.int r1, .int x3] rfl ?_
  refine V_iadd dX5_crossWordsAreWords_78 ?_
  refine V_istore_n [(0, .ref (ad 11)), (1, .int x1), (2, .int x2), (3, .int (x3 + r1)), (4, .int x4), (5, .int x5)] [1, 2, 3, 0, 4, 5] dX5_crossWordsAreWords_79 rfl (by decide) rfl ?_
  refine V_iinc (1) 5 [(0, .ref (ad 11)), (1, .int x1), (2, .int x2), (3, .int (x3 + r1)), (4, .int x4), (5, .int (x5 + 1))] [1, 2, 3, 4, 5, 0] dX5_crossWordsAreWords_80 rfl (by decide) (by decide) rfl ?_
  refine V_goto 14 dX5_crossWordsAreWords_83 (by decide) ?_
  exact hb14 _ _ _ _ _ hf
def f_X5_crossWordsAreWords_14 (σ : St) : Nat → Int32 → Int32 → Int32 → Int32 → Int32 → Option Bool
  | 0, _, _, _, _, _ => none
  | n + 1, x1, x2, x3, x4, x5 => if x4 ≤ x5 then (some true) else (bno (f_X0_hasTile σ x3) fun r1 => if (b2i r1) = 0 then (bno (f_X8_letter x2 x5) fun r2 => bno (f_X6_crossStep x1) fun r3 => bno (f_X0_wordThrough σ x3 r2 r3) fun r4 => bno (f_X5_mayStand σ r4) fun r5 => if (b2i r5) = 0 then (some false) else (f_X5_crossWordsAreWords_73 (f_X5_crossWordsAreWords_14 σ n) σ x1 x2 x3 x4 x5)) else (f_X5_crossWordsAreWords_73 (f_X5_crossWordsAreWords_14 σ n) σ x1 x2 x3 x4 x5))
set_option maxHeartbeats 4000000 in
set_option maxRecDepth 100000 in
theorem v_X5_crossWordsAreWords_14 {l : Launch} {G : Gv} {ad : Nat → Nat} {d : Nat} {av0 : List Value} {w1 : va_W} {q : Bool} {σ : St} (hd : 3 ≤ d) : ∀ (n : Nat) (x1 : Int32) (x2 : Int32) (x3 : Int32) (x4 : Int32) (x5 : Int32), f_X5_crossWordsAreWords_14 σ n x1 x2 x3 x4 x5 = some q → VV l G yX5_crossWordsAreWords cX5_crossWordsAreWords 8 (some .boolean) d 0 0 av0 w1 (pD (some (.int (b2i q))) (wC G ad σ)) 0 0 (wC G ad σ) 14 [(0, .ref (ad 11)), (1, .int x1), (2, .int x2), (3, .int x3), (4, .int x4), (5, .int x5)] [] := by
  intro n
  induction n with
  | zero =>
    intro x1 x2 x3 x4 x5 hf
    cases hf
  | succ n ih =>
    intro x1 x2 x3 x4 x5 hf
    rw [f_X5_crossWordsAreWords_14] at hf
    refine V_iload 5 rfl dX5_crossWordsAreWords_14 ?_
    refine V_iload 4 rfl dX5_crossWordsAreWords_16 ?_
    refine V_icmp_ge 86 dX5_crossWordsAreWords_18 (by decide) (fun c1 => ?_) (fun c1 => ?_)
    · replace hf := (if_pos c1).symm.trans hf
      refine V_iconst 1 dX5_crossWordsAreWords_86 (by decide) ?_
      cases hf
      exact V_zret (ty := .boolean) rfl rfl dX5_crossWordsAreWords_87 ⟨rfl, rfl⟩
    · replace hf := (if_neg c1).symm.trans hf
      refine V_aload_n 0 rfl dX5_crossWordsAreWords_21 rfl ?_
      refine V_get (k := 0) RC_X5 fl_X5_9 rfl (by decide) dX5_crossWordsAreWords_22 11 rfl rfl ?_
      refine V_getN (k := 1) RC_X7 fl_X5_66 rfl (by decide) dX5_crossWordsAreWords_25 1 rfl rfl ?_
      refine V_iload_n 3 rfl dX5_crossWordsAreWords_28 rfl ?_
      obtain ⟨r1, hr1, hf⟩ := bno_some hf
      refine V_cV (As := [.int x3]) (rest := []) (k_X0_hasTile (d := 0) (Nat.le_refl _) hr1) LB_X0_hasTile lk_X5_70 (by omega) dX5_crossWordsAreWords_29 rfl rfl (Nat.le_of_ble_eq_true rfl) (Nat.le_refl _) (Nat.le_refl _) 4 rfl ⟨rfl, rfl⟩ [.int (b2i r1)] rfl ?_
      refine V_if_ne 73 dX5_crossWordsAreWords_32 (by decide) (fun c2 => ?_) (fun c2 => ?_)
      · replace hf := (if_neg c2).symm.trans hf
        exact v_X5_crossWordsAreWords_73 hd ih hf
      · replace hf := (if_pos c2).symm.trans hf
        refine V_iload_n 2 rfl dX5_crossWordsAreWords_35 rfl ?_
        refine V_iload 5 rfl dX5_crossWordsAreWords_36 ?_
        obtain ⟨r2, hr2, hf⟩ := bno_some hf
        refine V_cS (As := [.int x2, .int x5]) (rest := []) (k_X8_letter (d := 0) (Nat.le_refl _) hr2) LB_X8_letter lk_X5_79 (by omega) dX5_crossWordsAreWords_38 rfl rfl (Nat.le_of_ble_eq_true rfl) (Nat.le_refl _) (Nat.le_refl _) [.int r2] rfl ?_
        refine V_istore [(0, .ref (ad 11)), (1, .int x1), (2, .int x2), (3, .int x3), (4, .int x4), (5, .int x5), (6, .int r2)] [1, 2, 3, 4, 5, 6, 0] dX5_crossWordsAreWords_41 (by decide) rfl ?_
        refine V_aload_n 0 rfl dX5_crossWordsAreWords_43 rfl ?_
        refine V_get (k := 0) RC_X5 fl_X5_9 rfl (by decide) dX5_crossWordsAreWords_44 11 rfl rfl ?_
        refine V_getN (k := 1) RC_X7 fl_X5_66 rfl (by decide) dX5_crossWordsAreWords_47 1 rfl rfl ?_
        refine V_iload_n 3 rfl dX5_crossWordsAreWords_50 rfl ?_
        refine V_iload 6 rfl dX5_crossWordsAreWords_51 ?_
        refine V_iload_n 1 rfl dX5_crossWordsAreWords_53 rfl ?_
        obtain ⟨r3, hr3, hf⟩ := bno_some hf
        refine V_cS (As := [.int x1]) (rest := [.int r2, .int x3, .ref (ad 4)]) (k_X6_crossStep (d := 0) (Nat.le_refl _) hr3) LB_X6_crossStep lk_X5_90 (by omega) dX5_crossWordsAreWords_54 rfl rfl (Nat.le_of_ble_eq_true rfl) (Nat.le_refl _) (Nat.le_refl _) [.int r3, .int r2, .int x3, .ref (ad 4)] rfl ?_
        obtain ⟨r4, hr4, hf⟩ := bno_some hf
        refine V_cV (As := [.int x3, .int r2, .int r3]) (rest := []) (k_X0_wordThrough (d := 2) (Nat.le_refl _) hr4) LB_X0_wordThrough lk_X5_105 (by omega) dX5_crossWordsAreWords_57 rfl rfl (Nat.le_of_ble_eq_true rfl) (Nat.le_refl _) (Nat.le_refl _) 4 rfl ⟨rfl, rfl⟩ [.int r4] rfl ?_
        refine V_istore [(0, .ref (ad 11)), (1, .int x1), (2, .int x2), (3, .int x3), (4, .int x4), (5, .int x5), (6, .int r2), (7, .int r4)] [1, 2, 3, 4, 5, 6, 7, 0] dX5_crossWordsAreWords_60 (by decide) rfl ?_
        refine V_aload_n 0 rfl dX5_crossWordsAreWords_62 rfl ?_
        refine V_iload 7 rfl dX5_crossWordsAreWords_63 ?_
        obtain ⟨r5, hr5, hf⟩ := bno_some hf
        refine V_cV (As := [.int r4]) (rest := []) (k_X5_mayStand (d := 1) (Nat.le_refl _) hr5) LB_X5_mayStand lk_X5_108 (by omega) dX5_crossWordsAreWords_65 rfl rfl (Nat.le_of_ble_eq_true rfl) (Nat.le_refl _) (Nat.le_refl _) 11 rfl ⟨rfl, rfl⟩ [.int (b2i r5)] rfl ?_
        refine V_if_ne 73 dX5_crossWordsAreWords_68 (by decide) (fun c3 => ?_) (fun c3 => ?_)
        · replace hf := (if_neg c3).symm.trans hf
          refine V_lv [(0, .ref (ad 11)), (1, .int x1), (2, .int x2), (3, .int x3), (4, .int x4), (5, .int x5)] [0, 1, 2, 3, 4, 5] rfl ?_
          exact v_X5_crossWordsAreWords_73 hd ih hf
        · replace hf := (if_pos c3).symm.trans hf
          refine V_iconst 0 dX5_crossWordsAreWords_71 (by decide) ?_
          cases hf
          exact V_zret (ty := .boolean) rfl rfl dX5_crossWordsAreWords_72 ⟨rfl, rfl⟩
def f_X5_crossWordsAreWords (σ : St) (x1 : Int32) (x2 : Int32) : Option Bool := bno (f_X6_square x1) fun r1 => bno (f_X8_length x2) fun r2 => f_X5_crossWordsAreWords_14 σ FU x1 x2 r1 r2 (0)
set_option maxHeartbeats 4000000 in
set_option maxRecDepth 100000 in
theorem v_X5_crossWordsAreWords {l : Launch} {G : Gv} {ad : Nat → Nat} {d : Nat} {av0 : List Value} {w1 : va_W} {q : Bool} {σ : St} {x1 : Int32} {x2 : Int32} (hd : 3 ≤ d) (hf : f_X5_crossWordsAreWords σ x1 x2 = some q) : VV l G yX5_crossWordsAreWords cX5_crossWordsAreWords 8 (some .boolean) d 0 0 av0 w1 (pD (some (.int (b2i q))) (wC G ad σ)) 0 0 (wC G ad σ) 0 [(0, .ref (ad 11)), (1, .int x1), (2, .int x2)] [] := by
  unfold f_X5_crossWordsAreWords at hf
  refine V_iload_n 1 rfl dX5_crossWordsAreWords_0 rfl ?_
  obtain ⟨r1, hr1, hf⟩ := bno_some hf
  refine V_cS (As := [.int x1]) (rest := []) (k_X6_square (d := 0) (Nat.le_refl _) hr1) LB_X6_square lk_X5_60 (by omega) dX5_crossWordsAreWords_1 rfl rfl (Nat.le_of_ble_eq_true rfl) (Nat.le_refl _) (Nat.le_refl _) [.int r1] rfl ?_
  refine V_istore_n [(0, .ref (ad 11)), (1, .int x1), (2, .int x2), (3, .int r1)] [1, 2, 3, 0] dX5_crossWordsAreWords_4 rfl (by decide) rfl ?_
  refine V_iload_n 2 rfl dX5_crossWordsAreWords_5 rfl ?_
  obtain ⟨r2, hr2, hf⟩ := bno_some hf
  refine V_cS (As := [.int x2]) (rest := []) (k_X8_length (d := 0) (Nat.le_refl _) hr2) LB_X8_length lk_X5_27 (by omega) dX5_crossWordsAreWords_6 rfl rfl (Nat.le_of_ble_eq_true rfl) (Nat.le_refl _) (Nat.le_refl _) [.int r2] rfl ?_
  refine V_istore [(0, .ref (ad 11)), (1, .int x1), (2, .int x2), (3, .int r1), (4, .int r2)] [1, 2, 3, 4, 0] dX5_crossWordsAreWords_9 (by decide) rfl ?_
  refine V_iconst 0 dX5_crossWordsAreWords_11 (by decide) ?_
  refine V_istore [(0, .ref (ad 11)), (1, .int x1), (2, .int x2), (3, .int r1), (4, .int r2), (5, .int (0))] [1, 2, 3, 4, 5, 0] dX5_crossWordsAreWords_12 (by decide) rfl ?_
  exact v_X5_crossWordsAreWords_14 hd _ _ _ _ _ _ hf
theorem k_X5_crossWordsAreWords {l : Launch} {G : Gv} {ad : Nat → Nat} {d : Nat} {σ : St} {q : Bool} {x1 : Int32} {x2 : Int32} (hd : 3 ≤ d) (hf : f_X5_crossWordsAreWords σ x1 x2 = some q) : K l G yX5_crossWordsAreWords cX5_crossWordsAreWords 8 (some .boolean) d 0 0 [.ref (ad 11), .int x1, .int x2] (wC G ad σ) (pD (some (.int (b2i q))) (wC G ad σ)) := K_intro (by decide) (Nat.le_of_ble_eq_true rfl) (v_X5_crossWordsAreWords hd hf)
def f_X5_crossLetters_64 (bk26 : Int32 → Int32 → Int32 → Int32 → Option Int32) (σ : St) (x1 : Int32) (x2 : Int32) (x3 : Int32) (x4 : Int32) : Option Int32 := bk26 x1 x2 x3 (x4 + 1)
set_option maxHeartbeats 4000000 in
set_option maxRecDepth 100000 in
theorem v_X5_crossLetters_64 {l : Launch} {G : Gv} {ad : Nat → Nat} {d : Nat} {av0 : List Value} {w1 : va_W} {q : Int32} {bk26 : Int32 → Int32 → Int32 → Int32 → Option Int32} {σ : St} {x1 : Int32} {x2 : Int32} {x3 : Int32} {x4 : Int32} (hd : 3 ≤ d) (hb26 : ∀ (x1 : Int32) (x2 : Int32) (x3 : Int32) (x4 : Int32), bk26 x1 x2 x3 x4 = some q → VV l G yX5_crossLetters cX5_crossLetters 5 (some .int) d 0 0 av0 w1 (pD (some (.int q)) (wC G ad σ)) 0 0 (wC G ad σ) 26 [(0, .ref (ad 11)), (1, .int x1), (2, .int x2), (3, .int x3), (4, .int x4)] []) (hf : f_X5_crossLetters_64 bk26 σ x1 x2 x3 x4 = some q) : VV l G yX5_crossLetters cX5_crossLetters 5 (some .int) d 0 0 av0 w1 (pD (some (.int q)) (wC G ad σ)) 0 0 (wC G ad σ) 64 [(0, .ref (ad 11)), (1, .int x1), (2, .int x2), (3, .int x3), (4, .int x4)] [] := by
  unfold f_X5_crossLetters_64 at hf
  refine V_iinc (1) 4 [(0, .ref (ad 11)), (1, .int x1), (2, .int x2), (3, .int x3), (4, .int (x4 + 1))] [1, 2, 3, 4, 0] dX5_crossLetters_64 rfl (by decide) (by decide) rfl ?_
  refine V_goto 26 dX5_crossLetters_67 (by decide) ?_
  exact hb26 _ _ _ _ hf
def f_X5_crossLetters_26 (σ : St) : Nat → Int32 → Int32 → Int32 → Int32 → Option Int32
  | 0, _, _, _, _ => none
  | n + 1, x1, x2, x3, x4 => if (8) ≤ x4 then (some x3) else (bno (f_X6_crossStep x1) fun r1 => bno (f_X0_wordThrough σ x2 x4 r1) fun r2 => bno (f_X5_mayStand σ r2) fun r3 => if (b2i r3) = 0 then (f_X5_crossLetters_64 (f_X5_crossLetters_26 σ n) σ x1 x2 x3 x4) else (f_X5_crossLetters_64 (f_X5_crossLetters_26 σ n) σ x1 x2 (x3 ||| ((1) <<< (x4 &&& 31))) x4))
set_option maxHeartbeats 4000000 in
set_option maxRecDepth 100000 in
theorem v_X5_crossLetters_26 {l : Launch} {G : Gv} {ad : Nat → Nat} {d : Nat} {av0 : List Value} {w1 : va_W} {q : Int32} {σ : St} (hd : 3 ≤ d) : ∀ (n : Nat) (x1 : Int32) (x2 : Int32) (x3 : Int32) (x4 : Int32), f_X5_crossLetters_26 σ n x1 x2 x3 x4 = some q → VV l G yX5_crossLetters cX5_crossLetters 5 (some .int) d 0 0 av0 w1 (pD (some (.int q)) (wC G ad σ)) 0 0 (wC G ad σ) 26 [(0, .ref (ad 11)), (1, .int x1), (2, .int x2), (3, .int x3), (4, .int x4)] [] := by
  intro n
  induction n with
  | zero =>
    intro x1 x2 x3 x4 hf
    cases hf
  | succ n ih =>
    intro x1 x2 x3 x4 hf
    rw [f_X5_crossLetters_26] at hf
    refine V_iload 4 rfl dX5_crossLetters_26 ?_
    refine V_bipush 8 dX5_crossLetters_28 (by decide) ?_
    refine V_icmp_ge 70 dX5_crossLetters_30 (by decide) (fun c1 => ?_) (fun c1 => ?_)
    · replace hf := (if_pos c1).symm.trans hf
      refine V_iload_n 3 rfl dX5_crossLetters_70 rfl ?_
      cases hf
      exact V_iret rfl dX5_crossLetters_71 ⟨rfl, rfl⟩
    · replace hf := (if_neg c1).symm.trans hf
      refine V_aload_n 0 rfl dX5_crossLetters_33 rfl ?_
      refine V_aload_n 0 rfl dX5_crossLetters_34 rfl ?_
      refine V_get (k := 0) RC_X5 fl_X5_9 rfl (by decide) dX5_crossLetters_35 11 rfl rfl ?_
      refine V_getN (k := 1) RC_X7 fl_X5_66 rfl (by decide) dX5_crossLetters_38 1 rfl rfl ?_
      refine V_iload_n 2 rfl dX5_crossLetters_41 rfl ?_
      refine V_iload 4 rfl dX5_crossLetters_42 ?_
      refine V_iload_n 1 rfl dX5_crossLetters_44 rfl ?_
      obtain ⟨r1, hr1, hf⟩ := bno_some hf
      refine V_cS (As := [.int x1]) (rest := [.int x4, .int x2, .ref (ad 4), .ref (ad 11)]) (k_X6_crossStep (d := 0) (Nat.le_refl _) hr1) LB_X6_crossStep lk_X5_90 (by omega) dX5_crossLetters_45 rfl rfl (Nat.le_of_ble_eq_true rfl) (Nat.le_refl _) (Nat.le_refl _) [.int r1, .int x4, .int x2, .ref (ad 4), .ref (ad 11)] rfl ?_
      obtain ⟨r2, hr2, hf⟩ := bno_some hf
      refine V_cV (As := [.int x2, .int x4, .int r1]) (rest := [.ref (ad 11)]) (k_X0_wordThrough (d := 2) (Nat.le_refl _) hr2) LB_X0_wordThrough lk_X5_105 (by omega) dX5_crossLetters_48 rfl rfl (Nat.le_of_ble_eq_true rfl) (Nat.le_refl _) (Nat.le_refl _) 4 rfl ⟨rfl, rfl⟩ [.int r2, .ref (ad 11)] rfl ?_
      obtain ⟨r3, hr3, hf⟩ := bno_some hf
      refine V_cV (As := [.int r2]) (rest := []) (k_X5_mayStand (d := 1) (Nat.le_refl _) hr3) LB_X5_mayStand lk_X5_108 (by omega) dX5_crossLetters_51 rfl rfl (Nat.le_of_ble_eq_true rfl) (Nat.le_refl _) (Nat.le_refl _) 11 rfl ⟨rfl, rfl⟩ [.int (b2i r3)] rfl ?_
      refine V_if_eq 64 dX5_crossLetters_54 (by decide) (fun c2 => ?_) (fun c2 => ?_)
      · replace hf := (if_pos c2).symm.trans hf
        exact v_X5_crossLetters_64 hd ih hf
      · replace hf := (if_neg c2).symm.trans hf
        refine V_iload_n 3 rfl dX5_crossLetters_57 rfl ?_
        refine V_iconst 1 dX5_crossLetters_58 (by decide) ?_
        refine V_iload 4 rfl dX5_crossLetters_59 ?_
        refine V_ishl dX5_crossLetters_61 ?_
        refine V_ior dX5_crossLetters_62 ?_
        refine V_istore_n [(0, .ref (ad 11)), (1, .int x1), (2, .int x2), (3, .int (x3 ||| ((1) <<< (x4 &&& 31)))), (4, .int x4)] [1, 2, 3, 0, 4] dX5_crossLetters_63 rfl (by decide) rfl ?_
        exact v_X5_crossLetters_64 hd ih hf
def f_X5_crossLetters (σ : St) (x1 : Int32) : Option Int32 := bno (f_X6_square x1) fun r1 => bno (f_X0_hasTile σ r1) fun r2 => if (b2i r2) = 0 then (f_X5_crossLetters_26 σ FU x1 r1 (0) (0)) else (some (0))
set_option maxHeartbeats 4000000 in
set_option maxRecDepth 100000 in
theorem v_X5_crossLetters {l : Launch} {G : Gv} {ad : Nat → Nat} {d : Nat} {av0 : List Value} {w1 : va_W} {q : Int32} {σ : St} {x1 : Int32} (hd : 3 ≤ d) (hf : f_X5_crossLetters σ x1 = some q) : VV l G yX5_crossLetters cX5_crossLetters 5 (some .int) d 0 0 av0 w1 (pD (some (.int q)) (wC G ad σ)) 0 0 (wC G ad σ) 0 [(0, .ref (ad 11)), (1, .int x1)] [] := by
  unfold f_X5_crossLetters at hf
  refine V_iload_n 1 rfl dX5_crossLetters_0 rfl ?_
  obtain ⟨r1, hr1, hf⟩ := bno_some hf
  refine V_cS (As := [.int x1]) (rest := []) (k_X6_square (d := 0) (Nat.le_refl _) hr1) LB_X6_square lk_X5_60 (by omega) dX5_crossLetters_1 rfl rfl (Nat.le_of_ble_eq_true rfl) (Nat.le_refl _) (Nat.le_refl _) [.int r1] rfl ?_
  refine V_istore_n [(0, .ref (ad 11)), (1, .int x1), (2, .int r1)] [1, 2, 0] dX5_crossLetters_4 rfl (by decide) rfl ?_
  refine V_iconst 0 dX5_crossLetters_5 (by decide) ?_
  refine V_istore_n [(0, .ref (ad 11)), (1, .int x1), (2, .int r1), (3, .int (0))] [1, 2, 3, 0] dX5_crossLetters_6 rfl (by decide) rfl ?_
  refine V_aload_n 0 rfl dX5_crossLetters_7 rfl ?_
  refine V_get (k := 0) RC_X5 fl_X5_9 rfl (by decide) dX5_crossLetters_8 11 rfl rfl ?_
  refine V_getN (k := 1) RC_X7 fl_X5_66 rfl (by decide) dX5_crossLetters_11 1 rfl rfl ?_
  refine V_iload_n 2 rfl dX5_crossLetters_14 rfl ?_
  obtain ⟨r2, hr2, hf⟩ := bno_some hf
  refine V_cV (As := [.int r1]) (rest := []) (k_X0_hasTile (d := 0) (Nat.le_refl _) hr2) LB_X0_hasTile lk_X5_70 (by omega) dX5_crossLetters_15 rfl rfl (Nat.le_of_ble_eq_true rfl) (Nat.le_refl _) (Nat.le_refl _) 4 rfl ⟨rfl, rfl⟩ [.int (b2i r2)] rfl ?_
  refine V_if_eq 23 dX5_crossLetters_18 (by decide) (fun c1 => ?_) (fun c1 => ?_)
  · replace hf := (if_pos c1).symm.trans hf
    refine V_iconst 0 dX5_crossLetters_23 (by decide) ?_
    refine V_istore [(0, .ref (ad 11)), (1, .int x1), (2, .int r1), (3, .int (0)), (4, .int (0))] [1, 2, 3, 4, 0] dX5_crossLetters_24 (by decide) rfl ?_
    exact v_X5_crossLetters_26 hd _ _ _ _ _ hf
  · replace hf := (if_neg c1).symm.trans hf
    refine V_iload_n 3 rfl dX5_crossLetters_21 rfl ?_
    cases hf
    exact V_iret rfl dX5_crossLetters_22 ⟨rfl, rfl⟩
theorem k_X5_crossLetters {l : Launch} {G : Gv} {ad : Nat → Nat} {d : Nat} {σ : St} {q : Int32} {x1 : Int32} (hd : 3 ≤ d) (hf : f_X5_crossLetters σ x1 = some q) : K l G yX5_crossLetters cX5_crossLetters 5 (some .int) d 0 0 [.ref (ad 11), .int x1] (wC G ad σ) (pD (some (.int q)) (wC G ad σ)) := K_intro (by decide) (Nat.le_of_ble_eq_true rfl) (v_X5_crossLetters hd hf)
def f_X5_touchesTileAtAnEnd_47 (σ : St) : Option Bool := some true
set_option maxHeartbeats 4000000 in
set_option maxRecDepth 100000 in
theorem v_X5_touchesTileAtAnEnd_47 {l : Launch} {G : Gv} {ad : Nat → Nat} {d : Nat} {av0 : List Value} {w1 : va_W} {q : Bool} {σ : St} (hd : 1 ≤ d) (hf : f_X5_touchesTileAtAnEnd_47 σ = some q) : VV l G yX5_touchesTileAtAnEnd cX5_touchesTileAtAnEnd 5 (some .boolean) d 0 0 av0 w1 (pD (some (.int (b2i q))) (wC G ad σ)) 0 0 (wC G ad σ) 47 [] [] := by
  unfold f_X5_touchesTileAtAnEnd_47 at hf
  refine V_iconst 1 dX5_touchesTileAtAnEnd_47 (by decide) ?_
  refine V_goto 52 dX5_touchesTileAtAnEnd_48 (by decide) ?_
  cases hf
  exact V_zret (ty := .boolean) rfl rfl dX5_touchesTileAtAnEnd_52 ⟨rfl, rfl⟩
def f_X5_touchesTileAtAnEnd (σ : St) (x1 : Int32) (x2 : Int32) : Option Bool := bno (f_X6_square x1) fun r1 => bno (f_X6_step x1) fun r2 => bno (f_X0_hasTile σ (r1 - r2)) fun r3 => if (b2i r3) = 0 then (bno (f_X0_hasTile σ (r1 + (x2 * r2))) fun r4 => if (b2i r4) = 0 then (some false) else (f_X5_touchesTileAtAnEnd_47 σ)) else (f_X5_touchesTileAtAnEnd_47 σ)
set_option maxHeartbeats 4000000 in
set_option maxRecDepth 100000 in
theorem v_X5_touchesTileAtAnEnd {l : Launch} {G : Gv} {ad : Nat → Nat} {d : Nat} {av0 : List Value} {w1 : va_W} {q : Bool} {σ : St} {x1 : Int32} {x2 : Int32} (hd : 1 ≤ d) (hf : f_X5_touchesTileAtAnEnd σ x1 x2 = some q) : VV l G yX5_touchesTileAtAnEnd cX5_touchesTileAtAnEnd 5 (some .boolean) d 0 0 av0 w1 (pD (some (.int (b2i q))) (wC G ad σ)) 0 0 (wC G ad σ) 0 [(0, .ref (ad 11)), (1, .int x1), (2, .int x2)] [] := by
  unfold f_X5_touchesTileAtAnEnd at hf
  refine V_iload_n 1 rfl dX5_touchesTileAtAnEnd_0 rfl ?_
  obtain ⟨r1, hr1, hf⟩ := bno_some hf
  refine V_cS (As := [.int x1]) (rest := []) (k_X6_square (d := 0) (Nat.le_refl _) hr1) LB_X6_square lk_X5_60 (by omega) dX5_touchesTileAtAnEnd_1 rfl rfl (Nat.le_of_ble_eq_true rfl) (Nat.le_refl _) (Nat.le_refl _) [.int r1] rfl ?_
  refine V_istore_n [(0, .ref (ad 11)), (1, .int x1), (2, .int x2), (3, .int r1)] [1, 2, 3, 0] dX5_touchesTileAtAnEnd_4 rfl (by decide) rfl ?_
  refine V_iload_n 1 rfl dX5_touchesTileAtAnEnd_5 rfl ?_
  obtain ⟨r2, hr2, hf⟩ := bno_some hf
  refine V_cS (As := [.int x1]) (rest := []) (k_X6_step (d := 0) (Nat.le_refl _) hr2) LB_X6_step lk_X5_63 (by omega) dX5_touchesTileAtAnEnd_6 rfl rfl (Nat.le_of_ble_eq_true rfl) (Nat.le_refl _) (Nat.le_refl _) [.int r2] rfl ?_
  refine V_istore [(0, .ref (ad 11)), (1, .int x1), (2, .int x2), (3, .int r1), (4, .int r2)] [1, 2, 3, 4, 0] dX5_touchesTileAtAnEnd_9 (by decide) rfl ?_
  refine V_aload_n 0 rfl dX5_touchesTileAtAnEnd_11 rfl ?_
  refine V_get (k := 0) RC_X5 fl_X5_9 rfl (by decide) dX5_touchesTileAtAnEnd_12 11 rfl rfl ?_
  refine V_getN (k := 1) RC_X7 fl_X5_66 rfl (by decide) dX5_touchesTileAtAnEnd_15 1 rfl rfl ?_
  refine V_iload_n 3 rfl dX5_touchesTileAtAnEnd_18 rfl ?_
  refine V_iload 4 rfl dX5_touchesTileAtAnEnd_19 ?_
  refine V_isub dX5_touchesTileAtAnEnd_21 ?_
  obtain ⟨r3, hr3, hf⟩ := bno_some hf
  refine V_cV (As := [.int (r1 - r2)]) (rest := []) (k_X0_hasTile (d := 0) (Nat.le_refl _) hr3) LB_X0_hasTile lk_X5_70 (by omega) dX5_touchesTileAtAnEnd_22 rfl rfl (Nat.le_of_ble_eq_true rfl) (Nat.le_refl _) (Nat.le_refl _) 4 rfl ⟨rfl, rfl⟩ [.int (b2i r3)] rfl ?_
  refine V_if_ne 47 dX5_touchesTileAtAnEnd_25 (by decide) (fun c1 => ?_) (fun c1 => ?_)
  · replace hf := (if_neg c1).symm.trans hf
    refine V_lv [] [] rfl ?_
    exact v_X5_touchesTileAtAnEnd_47 hd hf
  · replace hf := (if_pos c1).symm.trans hf
    refine V_aload_n 0 rfl dX5_touchesTileAtAnEnd_28 rfl ?_
    refine V_get (k := 0) RC_X5 fl_X5_9 rfl (by decide) dX5_touchesTileAtAnEnd_29 11 rfl rfl ?_
    refine V_getN (k := 1) RC_X7 fl_X5_66 rfl (by decide) dX5_touchesTileAtAnEnd_32 1 rfl rfl ?_
    refine V_iload_n 3 rfl dX5_touchesTileAtAnEnd_35 rfl ?_
    refine V_iload_n 2 rfl dX5_touchesTileAtAnEnd_36 rfl ?_
    refine V_iload 4 rfl dX5_touchesTileAtAnEnd_37 ?_
    refine V_imul dX5_touchesTileAtAnEnd_39 ?_
    refine V_iadd dX5_touchesTileAtAnEnd_40 ?_
    obtain ⟨r4, hr4, hf⟩ := bno_some hf
    refine V_cV (As := [.int (r1 + (x2 * r2))]) (rest := []) (k_X0_hasTile (d := 0) (Nat.le_refl _) hr4) LB_X0_hasTile lk_X5_70 (by omega) dX5_touchesTileAtAnEnd_41 rfl rfl (Nat.le_of_ble_eq_true rfl) (Nat.le_refl _) (Nat.le_refl _) 4 rfl ⟨rfl, rfl⟩ [.int (b2i r4)] rfl ?_
    refine V_if_eq 51 dX5_touchesTileAtAnEnd_44 (by decide) (fun c2 => ?_) (fun c2 => ?_)
    · replace hf := (if_pos c2).symm.trans hf
      refine V_iconst 0 dX5_touchesTileAtAnEnd_51 (by decide) ?_
      cases hf
      exact V_zret (ty := .boolean) rfl rfl dX5_touchesTileAtAnEnd_52 ⟨rfl, rfl⟩
    · replace hf := (if_neg c2).symm.trans hf
      refine V_lv [] [] rfl ?_
      exact v_X5_touchesTileAtAnEnd_47 hd hf
theorem k_X5_touchesTileAtAnEnd {l : Launch} {G : Gv} {ad : Nat → Nat} {d : Nat} {σ : St} {q : Bool} {x1 : Int32} {x2 : Int32} (hd : 1 ≤ d) (hf : f_X5_touchesTileAtAnEnd σ x1 x2 = some q) : K l G yX5_touchesTileAtAnEnd cX5_touchesTileAtAnEnd 5 (some .boolean) d 0 0 [.ref (ad 11), .int x1, .int x2] (wC G ad σ) (pD (some (.int (b2i q))) (wC G ad σ)) := K_intro (by decide) (Nat.le_of_ble_eq_true rfl) (v_X5_touchesTileAtAnEnd hd hf)
def f_X5_lengthsThatMayFit_52 (bk19 : Int32 → Int32 → Int32 → Int32 → Option Int32) (σ : St) (x1 : Int32) (x2 : Int32) (x3 : Int32) (x4 : Int32) : Option Int32 := bk19 x1 x2 x3 (x4 + 1)
set_option maxHeartbeats 4000000 in
set_option maxRecDepth 100000 in
theorem v_X5_lengthsThatMayFit_52 {l : Launch} {G : Gv} {ad : Nat → Nat} {d : Nat} {av0 : List Value} {w1 : va_W} {q : Int32} {bk19 : Int32 → Int32 → Int32 → Int32 → Option Int32} {σ : St} {x1 : Int32} {x2 : Int32} {x3 : Int32} {x4 : Int32} (hd : 2 ≤ d) (hb19 : ∀ (x1 : Int32) (x2 : Int32) (x3 : Int32) (x4 : Int32), bk19 x1 x2 x3 x4 = some q → VV l G yX5_lengthsThatMayFit cX5_lengthsThatMayFit 5 (some .int) d 0 0 av0 w1 (pD (some (.int q)) (wC G ad σ)) 0 0 (wC G ad σ) 19 [(0, .ref (ad 11)), (1, .int x1), (2, .int x2), (3, .int x3), (4, .int x4)] []) (hf : f_X5_lengthsThatMayFit_52 bk19 σ x1 x2 x3 x4 = some q) : VV l G yX5_lengthsThatMayFit cX5_lengthsThatMayFit 5 (some .int) d 0 0 av0 w1 (pD (some (.int q)) (wC G ad σ)) 0 0 (wC G ad σ) 52 [(0, .ref (ad 11)), (1, .int x1), (2, .int x2), (3, .int x3), (4, .int x4)] [] := by
  unfold f_X5_lengthsThatMayFit_52 at hf
  refine V_iinc (1) 4 [(0, .ref (ad 11)), (1, .int x1), (2, .int x2), (3, .int x3), (4, .int (x4 + 1))] [1, 2, 3, 4, 0] dX5_lengthsThatMayFit_52 rfl (by decide) (by decide) rfl ?_
  refine V_goto 19 dX5_lengthsThatMayFit_55 (by decide) ?_
  exact hb19 _ _ _ _ hf
def f_X5_lengthsThatMayFit_19 (σ : St) : Nat → Int32 → Int32 → Int32 → Int32 → Option Int32
  | 0, _, _, _, _ => none
  | n + 1, x1, x2, x3, x4 => if x3 < x4 then (some x2) else (bno (f_X5_isConnected σ x1 x4) fun r1 => if (b2i r1) = 0 then (f_X5_lengthsThatMayFit_52 (f_X5_lengthsThatMayFit_19 σ n) σ x1 x2 x3 x4) else (bno (f_X5_touchesTileAtAnEnd σ x1 x4) fun r2 => if (b2i r2) = 0 then (f_X5_lengthsThatMayFit_52 (f_X5_lengthsThatMayFit_19 σ n) σ x1 (x2 ||| ((1) <<< (x4 &&& 31))) x3 x4) else (f_X5_lengthsThatMayFit_52 (f_X5_lengthsThatMayFit_19 σ n) σ x1 x2 x3 x4)))
set_option maxHeartbeats 4000000 in
set_option maxRecDepth 100000 in
theorem v_X5_lengthsThatMayFit_19 {l : Launch} {G : Gv} {ad : Nat → Nat} {d : Nat} {av0 : List Value} {w1 : va_W} {q : Int32} {σ : St} (hd : 2 ≤ d) : ∀ (n : Nat) (x1 : Int32) (x2 : Int32) (x3 : Int32) (x4 : Int32), f_X5_lengthsThatMayFit_19 σ n x1 x2 x3 x4 = some q → VV l G yX5_lengthsThatMayFit cX5_lengthsThatMayFit 5 (some .int) d 0 0 av0 w1 (pD (some (.int q)) (wC G ad σ)) 0 0 (wC G ad σ) 19 [(0, .ref (ad 11)), (1, .int x1), (2, .int x2), (3, .int x3), (4, .int x4)] [] := by
  intro n
  induction n with
  | zero =>
    intro x1 x2 x3 x4 hf
    cases hf
  | succ n ih =>
    intro x1 x2 x3 x4 hf
    rw [f_X5_lengthsThatMayFit_19] at hf
    refine V_iload 4 rfl dX5_lengthsThatMayFit_19 ?_
    refine V_iload_n 3 rfl dX5_lengthsThatMayFit_21 rfl ?_
    refine V_icmp_gt 58 dX5_lengthsThatMayFit_22 (by decide) (fun c1 => ?_) (fun c1 => ?_)
    · replace hf := (if_pos c1).symm.trans hf
      refine V_iload_n 2 rfl dX5_lengthsThatMayFit_58 rfl ?_
      cases hf
      exact V_iret rfl dX5_lengthsThatMayFit_59 ⟨rfl, rfl⟩
    · replace hf := (if_neg c1).symm.trans hf
      refine V_aload_n 0 rfl dX5_lengthsThatMayFit_25 rfl ?_
      refine V_iload_n 1 rfl dX5_lengthsThatMayFit_26 rfl ?_
      refine V_iload 4 rfl dX5_lengthsThatMayFit_27 ?_
      obtain ⟨r1, hr1, hf⟩ := bno_some hf
      refine V_cV (As := [.int x1, .int x4]) (rest := []) (k_X5_isConnected (d := 1) (Nat.le_refl _) hr1) LB_X5_isConnected lk_X5_54 (by omega) dX5_lengthsThatMayFit_29 rfl rfl (Nat.le_of_ble_eq_true rfl) (Nat.le_refl _) (Nat.le_refl _) 11 rfl ⟨rfl, rfl⟩ [.int (b2i r1)] rfl ?_
      refine V_if_eq 52 dX5_lengthsThatMayFit_32 (by decide) (fun c2 => ?_) (fun c2 => ?_)
      · replace hf := (if_pos c2).symm.trans hf
        exact v_X5_lengthsThatMayFit_52 hd ih hf
      · replace hf := (if_neg c2).symm.trans hf
        refine V_aload_n 0 rfl dX5_lengthsThatMayFit_35 rfl ?_
        refine V_iload_n 1 rfl dX5_lengthsThatMayFit_36 rfl ?_
        refine V_iload 4 rfl dX5_lengthsThatMayFit_37 ?_
        obtain ⟨r2, hr2, hf⟩ := bno_some hf
        refine V_cV (As := [.int x1, .int x4]) (rest := []) (k_X5_touchesTileAtAnEnd (d := 1) (Nat.le_refl _) hr2) LB_X5_touchesTileAtAnEnd lk_X5_37 (by omega) dX5_lengthsThatMayFit_39 rfl rfl (Nat.le_of_ble_eq_true rfl) (Nat.le_refl _) (Nat.le_refl _) 11 rfl ⟨rfl, rfl⟩ [.int (b2i r2)] rfl ?_
        refine V_if_ne 52 dX5_lengthsThatMayFit_42 (by decide) (fun c3 => ?_) (fun c3 => ?_)
        · replace hf := (if_neg c3).symm.trans hf
          exact v_X5_lengthsThatMayFit_52 hd ih hf
        · replace hf := (if_pos c3).symm.trans hf
          refine V_iload_n 2 rfl dX5_lengthsThatMayFit_45 rfl ?_
          refine V_iconst 1 dX5_lengthsThatMayFit_46 (by decide) ?_
          refine V_iload 4 rfl dX5_lengthsThatMayFit_47 ?_
          refine V_ishl dX5_lengthsThatMayFit_49 ?_
          refine V_ior dX5_lengthsThatMayFit_50 ?_
          refine V_istore_n [(0, .ref (ad 11)), (1, .int x1), (2, .int (x2 ||| ((1) <<< (x4 &&& 31)))), (3, .int x3), (4, .int x4)] [1, 2, 0, 3, 4] dX5_lengthsThatMayFit_51 rfl (by decide) rfl ?_
          exact v_X5_lengthsThatMayFit_52 hd ih hf
def f_X5_lengthsThatMayFit (σ : St) (x1 : Int32) : Option Int32 := bno (f_X6_isOnBoard x1) fun r1 => if (b2i r1) = 0 then (some (0)) else (bno (f_X6_room x1) fun r2 => f_X5_lengthsThatMayFit_19 σ FU x1 (0) r2 (2))
set_option maxHeartbeats 4000000 in
set_option maxRecDepth 100000 in
theorem v_X5_lengthsThatMayFit {l : Launch} {G : Gv} {ad : Nat → Nat} {d : Nat} {av0 : List Value} {w1 : va_W} {q : Int32} {σ : St} {x1 : Int32} (hd : 2 ≤ d) (hf : f_X5_lengthsThatMayFit σ x1 = some q) : VV l G yX5_lengthsThatMayFit cX5_lengthsThatMayFit 5 (some .int) d 0 0 av0 w1 (pD (some (.int q)) (wC G ad σ)) 0 0 (wC G ad σ) 0 [(0, .ref (ad 11)), (1, .int x1)] [] := by
  unfold f_X5_lengthsThatMayFit at hf
  refine V_iload_n 1 rfl dX5_lengthsThatMayFit_0 rfl ?_
  obtain ⟨r1, hr1, hf⟩ := bno_some hf
  refine V_cS (As := [.int x1]) (rest := []) (k_X6_isOnBoard (d := 1) (Nat.le_refl _) hr1) LB_X6_isOnBoard lk_X5_133 (by omega) dX5_lengthsThatMayFit_1 rfl rfl (Nat.le_of_ble_eq_true rfl) (Nat.le_refl _) (Nat.le_refl _) [.int (b2i r1)] rfl ?_
  refine V_if_ne 9 dX5_lengthsThatMayFit_4 (by decide) (fun c1 => ?_) (fun c1 => ?_)
  · replace hf := (if_neg c1).symm.trans hf
    refine V_iconst 0 dX5_lengthsThatMayFit_9 (by decide) ?_
    refine V_istore_n [(0, .ref (ad 11)), (1, .int x1), (2, .int (0))] [1, 2, 0] dX5_lengthsThatMayFit_10 rfl (by decide) rfl ?_
    refine V_iload_n 1 rfl dX5_lengthsThatMayFit_11 rfl ?_
    obtain ⟨r2, hr2, hf⟩ := bno_some hf
    refine V_cS (As := [.int x1]) (rest := []) (k_X6_room (d := 1) (Nat.le_refl _) hr2) LB_X6_room lk_X5_32 (by omega) dX5_lengthsThatMayFit_12 rfl rfl (Nat.le_of_ble_eq_true rfl) (Nat.le_refl _) (Nat.le_refl _) [.int r2] rfl ?_
    refine V_istore_n [(0, .ref (ad 11)), (1, .int x1), (2, .int (0)), (3, .int r2)] [1, 2, 3, 0] dX5_lengthsThatMayFit_15 rfl (by decide) rfl ?_
    refine V_iconst 2 dX5_lengthsThatMayFit_16 (by decide) ?_
    refine V_istore [(0, .ref (ad 11)), (1, .int x1), (2, .int (0)), (3, .int r2), (4, .int (2))] [1, 2, 3, 4, 0] dX5_lengthsThatMayFit_17 (by decide) rfl ?_
    exact v_X5_lengthsThatMayFit_19 hd _ _ _ _ _ hf
  · replace hf := (if_pos c1).symm.trans hf
    refine V_iconst 0 dX5_lengthsThatMayFit_7 (by decide) ?_
    cases hf
    exact V_iret rfl dX5_lengthsThatMayFit_8 ⟨rfl, rfl⟩
theorem k_X5_lengthsThatMayFit {l : Launch} {G : Gv} {ad : Nat → Nat} {d : Nat} {σ : St} {q : Int32} {x1 : Int32} (hd : 2 ≤ d) (hf : f_X5_lengthsThatMayFit σ x1 = some q) : K l G yX5_lengthsThatMayFit cX5_lengthsThatMayFit 5 (some .int) d 0 0 [.ref (ad 11), .int x1] (wC G ad σ) (pD (some (.int q)) (wC G ad σ)) := K_intro (by decide) (Nat.le_of_ble_eq_true rfl) (v_X5_lengthsThatMayFit hd hf)
def f_X5_hasEmptySquare (σ : St) (x1 : Int32) (x2 : Int32) : Option Bool := bno (f_X6_squares x1 x2) fun r1 => bno (f_X0_emptyOf σ r1) fun r2 => if (lg_cmp r2 (0)) = 0 then (some false) else (some true)
set_option maxHeartbeats 4000000 in
set_option maxRecDepth 100000 in
theorem v_X5_hasEmptySquare {l : Launch} {G : Gv} {ad : Nat → Nat} {d : Nat} {av0 : List Value} {w1 : va_W} {q : Bool} {σ : St} {x1 : Int32} {x2 : Int32} (hd : 1 ≤ d) (hf : f_X5_hasEmptySquare σ x1 x2 = some q) : VV l G yX5_hasEmptySquare cX5_hasEmptySquare 3 (some .boolean) d 0 0 av0 w1 (pD (some (.int (b2i q))) (wC G ad σ)) 0 0 (wC G ad σ) 0 [(0, .ref (ad 11)), (1, .int x1), (2, .int x2)] [] := by
  unfold f_X5_hasEmptySquare at hf
  refine V_aload_n 0 rfl dX5_hasEmptySquare_0 rfl ?_
  refine V_get (k := 0) RC_X5 fl_X5_9 rfl (by decide) dX5_hasEmptySquare_1 11 rfl rfl ?_
  refine V_getN (k := 1) RC_X7 fl_X5_66 rfl (by decide) dX5_hasEmptySquare_4 1 rfl rfl ?_
  refine V_iload_n 1 rfl dX5_hasEmptySquare_7 rfl ?_
  refine V_iload_n 2 rfl dX5_hasEmptySquare_8 rfl ?_
  obtain ⟨r1, hr1, hf⟩ := bno_some hf
  refine V_cS (As := [.int x1, .int x2]) (rest := [.ref (ad 4)]) (k_X6_squares (d := 0) (Nat.le_refl _) hr1) LB_X6_squares lk_X5_82 (by omega) dX5_hasEmptySquare_9 rfl rfl (Nat.le_of_ble_eq_true rfl) (Nat.le_refl _) (Nat.le_refl _) [.long r1, .ref (ad 4)] rfl ?_
  obtain ⟨r2, hr2, hf⟩ := bno_some hf
  refine V_cV (As := [.long r1]) (rest := []) (k_X0_emptyOf (d := 0) (Nat.le_refl _) hr2) LB_X0_emptyOf lk_X5_86 (by omega) dX5_hasEmptySquare_12 rfl rfl (Nat.le_of_ble_eq_true rfl) (Nat.le_refl _) (Nat.le_refl _) 4 rfl ⟨rfl, rfl⟩ [.long r2] rfl ?_
  refine V_lconst 0 dX5_hasEmptySquare_15 (by decide) ?_
  refine V_lcmp dX5_hasEmptySquare_16 ?_
  refine V_if_eq 24 dX5_hasEmptySquare_17 (by decide) (fun c1 => ?_) (fun c1 => ?_)
  · replace hf := (if_pos c1).symm.trans hf
    refine V_iconst 0 dX5_hasEmptySquare_24 (by decide) ?_
    cases hf
    exact V_zret (ty := .boolean) rfl rfl dX5_hasEmptySquare_25 ⟨rfl, rfl⟩
  · replace hf := (if_neg c1).symm.trans hf
    refine V_iconst 1 dX5_hasEmptySquare_20 (by decide) ?_
    refine V_goto 25 dX5_hasEmptySquare_21 (by decide) ?_
    cases hf
    exact V_zret (ty := .boolean) rfl rfl dX5_hasEmptySquare_25 ⟨rfl, rfl⟩
theorem k_X5_hasEmptySquare {l : Launch} {G : Gv} {ad : Nat → Nat} {d : Nat} {σ : St} {q : Bool} {x1 : Int32} {x2 : Int32} (hd : 1 ≤ d) (hf : f_X5_hasEmptySquare σ x1 x2 = some q) : K l G yX5_hasEmptySquare cX5_hasEmptySquare 3 (some .boolean) d 0 0 [.ref (ad 11), .int x1, .int x2] (wC G ad σ) (pD (some (.int (b2i q))) (wC G ad σ)) := K_intro (by decide) (Nat.le_of_ble_eq_true rfl) (v_X5_hasEmptySquare hd hf)
def f_X5_refusal (σ : St) (x1 : Int32) (x2 : Int32) (x3 : Int32) : Option Int32 := if x3 = (-1) then (some (1)) else (bno (f_X1_word σ x3) fun r1 => bno (f_X8_length r1) fun r2 => bno (f_X6_room x2) fun r3 => if r2 ≤ r3 then (bno (f_X5_touchesTileAtAnEnd σ x2 r2) fun r4 => if (b2i r4) = 0 then (bno (f_X5_agreesWithTiles σ x2 r1) fun r5 => if (b2i r5) = 0 then (some (4)) else (bno (f_X5_hasEmptySquare σ x2 r2) fun r6 => if (b2i r6) = 0 then (some (5)) else (bno (f_X7_rack σ x1) fun r7 => bno (f_X5_rackAfter σ r7 x2 r1) fun r8 => if r8 = (-1) then (some (6)) else (bno (f_X5_isConnected σ x2 r2) fun r9 => if (b2i r9) = 0 then (some (7)) else (bno (f_X5_crossWordsAreWords σ x2 r1) fun r10 => if (b2i r10) = 0 then (some (8)) else (some (0))))))) else (some (3))) else (some (2)))
set_option maxHeartbeats 4000000 in
set_option maxRecDepth 100000 in
theorem v_X5_refusal {l : Launch} {G : Gv} {ad : Nat → Nat} {d : Nat} {av0 : List Value} {w1 : va_W} {q : Int32} {σ : St} {x1 : Int32} {x2 : Int32} {x3 : Int32} (hd : 4 ≤ d) (hf : f_X5_refusal σ x1 x2 x3 = some q) : VV l G yX5_refusal cX5_refusal 6 (some .int) d 0 0 av0 w1 (pD (some (.int q)) (wC G ad σ)) 0 0 (wC G ad σ) 0 [(0, .ref (ad 11)), (1, .int x1), (2, .int x2), (3, .int x3)] [] := by
  unfold f_X5_refusal at hf
  refine V_iload_n 3 rfl dX5_refusal_0 rfl ?_
  refine V_iconst (-1) dX5_refusal_1 (by decide) ?_
  refine V_icmp_ne 7 dX5_refusal_2 (by decide) (fun c1 => ?_) (fun c1 => ?_)
  · replace hf := (if_neg c1).symm.trans hf
    refine V_aload_n 0 rfl dX5_refusal_7 rfl ?_
    refine V_get (k := 0) RC_X5 fl_X5_9 rfl (by decide) dX5_refusal_8 11 rfl rfl ?_
    refine V_getN (k := 0) RC_X7 fl_X5_15 rfl (by decide) dX5_refusal_11 1 rfl rfl ?_
    refine V_iload_n 3 rfl dX5_refusal_14 rfl ?_
    obtain ⟨r1, hr1, hf⟩ := bno_some hf
    refine V_cV (As := [.int x3]) (rest := []) (k_X1_word (d := 0) (Nat.le_refl _) hr1) LB_X1_word lk_X5_21 (by omega) dX5_refusal_15 rfl rfl (Nat.le_of_ble_eq_true rfl) (Nat.le_refl _) (Nat.le_refl _) 2 rfl ⟨rfl, rfl⟩ [.int r1] rfl ?_
    refine V_istore [(0, .ref (ad 11)), (1, .int x1), (2, .int x2), (3, .int x3), (4, .int r1)] [1, 2, 3, 4, 0] dX5_refusal_18 (by decide) rfl ?_
    refine V_iload 4 rfl dX5_refusal_20 ?_
    obtain ⟨r2, hr2, hf⟩ := bno_some hf
    refine V_cS (As := [.int r1]) (rest := []) (k_X8_length (d := 0) (Nat.le_refl _) hr2) LB_X8_length lk_X5_27 (by omega) dX5_refusal_22 rfl rfl (Nat.le_of_ble_eq_true rfl) (Nat.le_refl _) (Nat.le_refl _) [.int r2] rfl ?_
    refine V_istore [(0, .ref (ad 11)), (1, .int x1), (2, .int x2), (3, .int x3), (4, .int r1), (5, .int r2)] [1, 2, 3, 4, 5, 0] dX5_refusal_25 (by decide) rfl ?_
    refine V_iload 5 rfl dX5_refusal_27 ?_
    refine V_iload_n 2 rfl dX5_refusal_29 rfl ?_
    obtain ⟨r3, hr3, hf⟩ := bno_some hf
    refine V_cS (As := [.int x2]) (rest := [.int r2]) (k_X6_room (d := 1) (Nat.le_refl _) hr3) LB_X6_room lk_X5_32 (by omega) dX5_refusal_30 rfl rfl (Nat.le_of_ble_eq_true rfl) (Nat.le_refl _) (Nat.le_refl _) [.int r3, .int r2] rfl ?_
    refine V_icmp_le 38 dX5_refusal_33 (by decide) (fun c2 => ?_) (fun c2 => ?_)
    · replace hf := (if_pos c2).symm.trans hf
      refine V_aload_n 0 rfl dX5_refusal_38 rfl ?_
      refine V_iload_n 2 rfl dX5_refusal_39 rfl ?_
      refine V_iload 5 rfl dX5_refusal_40 ?_
      obtain ⟨r4, hr4, hf⟩ := bno_some hf
      refine V_cV (As := [.int x2, .int r2]) (rest := []) (k_X5_touchesTileAtAnEnd (d := 1) (Nat.le_refl _) hr4) LB_X5_touchesTileAtAnEnd lk_X5_37 (by omega) dX5_refusal_42 rfl rfl (Nat.le_of_ble_eq_true rfl) (Nat.le_refl _) (Nat.le_refl _) 11 rfl ⟨rfl, rfl⟩ [.int (b2i r4)] rfl ?_
      refine V_if_eq 50 dX5_refusal_45 (by decide) (fun c3 => ?_) (fun c3 => ?_)
      · replace hf := (if_pos c3).symm.trans hf
        refine V_aload_n 0 rfl dX5_refusal_50 rfl ?_
        refine V_iload_n 2 rfl dX5_refusal_51 rfl ?_
        refine V_iload 4 rfl dX5_refusal_52 ?_
        obtain ⟨r5, hr5, hf⟩ := bno_some hf
        refine V_cV (As := [.int x2, .int r1]) (rest := []) (k_X5_agreesWithTiles (d := 2) (Nat.le_refl _) hr5) LB_X5_agreesWithTiles lk_X5_41 (by omega) dX5_refusal_54 rfl rfl (Nat.le_of_ble_eq_true rfl) (Nat.le_refl _) (Nat.le_refl _) 11 rfl ⟨rfl, rfl⟩ [.int (b2i r5)] rfl ?_
        refine V_if_ne 62 dX5_refusal_57 (by decide) (fun c4 => ?_) (fun c4 => ?_)
        · replace hf := (if_neg c4).symm.trans hf
          refine V_aload_n 0 rfl dX5_refusal_62 rfl ?_
          refine V_iload_n 2 rfl dX5_refusal_63 rfl ?_
          refine V_iload 5 rfl dX5_refusal_64 ?_
          obtain ⟨r6, hr6, hf⟩ := bno_some hf
          refine V_cV (As := [.int x2, .int r2]) (rest := []) (k_X5_hasEmptySquare (d := 1) (Nat.le_refl _) hr6) LB_X5_hasEmptySquare lk_X5_44 (by omega) dX5_refusal_66 rfl rfl (Nat.le_of_ble_eq_true rfl) (Nat.le_refl _) (Nat.le_refl _) 11 rfl ⟨rfl, rfl⟩ [.int (b2i r6)] rfl ?_
          refine V_if_ne 74 dX5_refusal_69 (by decide) (fun c5 => ?_) (fun c5 => ?_)
          · replace hf := (if_neg c5).symm.trans hf
            refine V_aload_n 0 rfl dX5_refusal_74 rfl ?_
            refine V_aload_n 0 rfl dX5_refusal_75 rfl ?_
            refine V_get (k := 0) RC_X5 fl_X5_9 rfl (by decide) dX5_refusal_76 11 rfl rfl ?_
            refine V_iload_n 1 rfl dX5_refusal_79 rfl ?_
            obtain ⟨r7, hr7, hf⟩ := bno_some hf
            refine V_cV (As := [.int x1]) (rest := [.ref (ad 11)]) (k_X7_rack (d := 1) (Nat.le_refl _) hr7) LB_X7_rack lk_X5_47 (by omega) dX5_refusal_80 rfl rfl (Nat.le_of_ble_eq_true rfl) (Nat.le_refl _) (Nat.le_refl _) 1 rfl ⟨rfl, rfl⟩ [.int r7, .ref (ad 11)] rfl ?_
            refine V_iload_n 2 rfl dX5_refusal_83 rfl ?_
            refine V_iload 4 rfl dX5_refusal_84 ?_
            obtain ⟨r8, hr8, hf⟩ := bno_some hf
            refine V_cV (As := [.int r7, .int x2, .int r1]) (rest := []) (k_X5_rackAfter (d := 2) (Nat.le_refl _) hr8) LB_X5_rackAfter lk_X5_50 (by omega) dX5_refusal_86 rfl rfl (Nat.le_of_ble_eq_true rfl) (Nat.le_refl _) (Nat.le_refl _) 11 rfl ⟨rfl, rfl⟩ [.int r8] rfl ?_
            refine V_iconst (-1) dX5_refusal_89 (by decide) ?_
            refine V_icmp_ne 96 dX5_refusal_90 (by decide) (fun c6 => ?_) (fun c6 => ?_)
            · replace hf := (if_neg c6).symm.trans hf
              refine V_aload_n 0 rfl dX5_refusal_96 rfl ?_
              refine V_iload_n 2 rfl dX5_refusal_97 rfl ?_
              refine V_iload 5 rfl dX5_refusal_98 ?_
              obtain ⟨r9, hr9, hf⟩ := bno_some hf
              refine V_cV (As := [.int x2, .int r2]) (rest := []) (k_X5_isConnected (d := 1) (Nat.le_refl _) hr9) LB_X5_isConnected lk_X5_54 (by omega) dX5_refusal_100 rfl rfl (Nat.le_of_ble_eq_true rfl) (Nat.le_refl _) (Nat.le_refl _) 11 rfl ⟨rfl, rfl⟩ [.int (b2i r9)] rfl ?_
              refine V_if_ne 109 dX5_refusal_103 (by decide) (fun c7 => ?_) (fun c7 => ?_)
              · replace hf := (if_neg c7).symm.trans hf
                refine V_aload_n 0 rfl dX5_refusal_109 rfl ?_
                refine V_iload_n 2 rfl dX5_refusal_110 rfl ?_
                refine V_iload 4 rfl dX5_refusal_111 ?_
                obtain ⟨r10, hr10, hf⟩ := bno_some hf
                refine V_cV (As := [.int x2, .int r1]) (rest := []) (k_X5_crossWordsAreWords (d := 3) (Nat.le_refl _) hr10) LB_X5_crossWordsAreWords lk_X5_57 (by omega) dX5_refusal_113 rfl rfl (Nat.le_of_ble_eq_true rfl) (Nat.le_refl _) (Nat.le_refl _) 11 rfl ⟨rfl, rfl⟩ [.int (b2i r10)] rfl ?_
                refine V_if_eq 123 dX5_refusal_116 (by decide) (fun c8 => ?_) (fun c8 => ?_)
                · replace hf := (if_pos c8).symm.trans hf
                  refine V_bipush 8 dX5_refusal_123 (by decide) ?_
                  cases hf
                  exact V_iret rfl dX5_refusal_125 ⟨rfl, rfl⟩
                · replace hf := (if_neg c8).symm.trans hf
                  refine V_iconst 0 dX5_refusal_119 (by decide) ?_
                  refine V_goto 125 dX5_refusal_120 (by decide) ?_
                  cases hf
                  exact V_iret rfl dX5_refusal_125 ⟨rfl, rfl⟩
              · replace hf := (if_pos c7).symm.trans hf
                refine V_bipush 7 dX5_refusal_106 (by decide) ?_
                cases hf
                exact V_iret rfl dX5_refusal_108 ⟨rfl, rfl⟩
            · replace hf := (if_pos c6).symm.trans hf
              refine V_bipush 6 dX5_refusal_93 (by decide) ?_
              cases hf
              exact V_iret rfl dX5_refusal_95 ⟨rfl, rfl⟩
          · replace hf := (if_pos c5).symm.trans hf
            refine V_iconst 5 dX5_refusal_72 (by decide) ?_
            cases hf
            exact V_iret rfl dX5_refusal_73 ⟨rfl, rfl⟩
        · replace hf := (if_pos c4).symm.trans hf
          refine V_iconst 4 dX5_refusal_60 (by decide) ?_
          cases hf
          exact V_iret rfl dX5_refusal_61 ⟨rfl, rfl⟩
      · replace hf := (if_neg c3).symm.trans hf
        refine V_iconst 3 dX5_refusal_48 (by decide) ?_
        cases hf
        exact V_iret rfl dX5_refusal_49 ⟨rfl, rfl⟩
    · replace hf := (if_neg c2).symm.trans hf
      refine V_iconst 2 dX5_refusal_36 (by decide) ?_
      cases hf
      exact V_iret rfl dX5_refusal_37 ⟨rfl, rfl⟩
  · replace hf := (if_pos c1).symm.trans hf
    refine V_iconst 1 dX5_refusal_5 (by decide) ?_
    cases hf
    exact V_iret rfl dX5_refusal_6 ⟨rfl, rfl⟩
theorem k_X5_refusal {l : Launch} {G : Gv} {ad : Nat → Nat} {d : Nat} {σ : St} {q : Int32} {x1 : Int32} {x2 : Int32} {x3 : Int32} (hd : 4 ≤ d) (hf : f_X5_refusal σ x1 x2 x3 = some q) : K l G yX5_refusal cX5_refusal 6 (some .int) d 0 0 [.ref (ad 11), .int x1, .int x2, .int x3] (wC G ad σ) (pD (some (.int q)) (wC G ad σ)) := K_intro (by decide) (Nat.le_of_ble_eq_true rfl) (v_X5_refusal hd hf)
def f_X5_nextPlay_103 (bk23 : Int32 → Int32 → Int32 → Int32 → Option Int32) (σ : St) (x1 : Int32) (x3 : Int32) (x5 : Int32) : Option Int32 := bk23 x1 x3 (0) (x5 + 1)
set_option maxHeartbeats 4000000 in
set_option maxRecDepth 100000 in
theorem v_X5_nextPlay_103 {l : Launch} {G : Gv} {ad : Nat → Nat} {d : Nat} {av0 : List Value} {w1 : va_W} {q : Int32} {bk23 : Int32 → Int32 → Int32 → Int32 → Option Int32} {σ : St} {x1 : Int32} {x3 : Int32} {x5 : Int32} (hd : 5 ≤ d) (hb23 : ∀ (x1 : Int32) (x3 : Int32) (x4 : Int32) (x5 : Int32), bk23 x1 x3 x4 x5 = some q → VV l G yX5_nextPlay cX5_nextPlay 8 (some .int) d 0 0 av0 w1 (pD (some (.int q)) (wC G ad σ)) 0 0 (wC G ad σ) 23 [(0, .ref (ad 11)), (1, .int x1), (3, .int x3), (4, .int x4), (5, .int x5)] []) (hf : f_X5_nextPlay_103 bk23 σ x1 x3 x5 = some q) : VV l G yX5_nextPlay cX5_nextPlay 8 (some .int) d 0 0 av0 w1 (pD (some (.int q)) (wC G ad σ)) 0 0 (wC G ad σ) 103 [(0, .ref (ad 11)), (1, .int x1), (3, .int x3), (5, .int x5)] [] := by
  unfold f_X5_nextPlay_103 at hf
  refine V_iconst 0 dX5_nextPlay_103 (by decide) ?_
  refine V_istore [(0, .ref (ad 11)), (1, .int x1), (3, .int x3), (4, .int (0)), (5, .int x5)] [1, 2, 3, 0, 4] dX5_nextPlay_104 (by decide) rfl ?_
  refine V_iinc (1) 4 [(0, .ref (ad 11)), (1, .int x1), (3, .int x3), (4, .int (0)), (5, .int (x5 + 1))] [1, 2, 3, 4, 0] dX5_nextPlay_106 rfl (by decide) (by decide) rfl ?_
  refine V_goto 23 dX5_nextPlay_109 (by decide) ?_
  exact hb23 _ _ _ _ hf
def f_X5_nextPlay_97 (bk23 : Int32 → Int32 → Int32 → Int32 → Option Int32) (bk39 : Int32 → Int32 → Int32 → Int32 → Int32 → Option Int32) (σ : St) (x1 : Int32) (x3 : Int32) (x4 : Int32) (x5 : Int32) (x6 : Int32) : Option Int32 := bk39 x1 x3 (x4 + 1) x5 x6
set_option maxHeartbeats 4000000 in
set_option maxRecDepth 100000 in
theorem v_X5_nextPlay_97 {l : Launch} {G : Gv} {ad : Nat → Nat} {d : Nat} {av0 : List Value} {w1 : va_W} {q : Int32} {bk23 : Int32 → Int32 → Int32 → Int32 → Option Int32} {bk39 : Int32 → Int32 → Int32 → Int32 → Int32 → Option Int32} {σ : St} {x1 : Int32} {x3 : Int32} {x4 : Int32} {x5 : Int32} {x6 : Int32} (hd : 5 ≤ d) (hb23 : ∀ (x1 : Int32) (x3 : Int32) (x4 : Int32) (x5 : Int32), bk23 x1 x3 x4 x5 = some q → VV l G yX5_nextPlay cX5_nextPlay 8 (some .int) d 0 0 av0 w1 (pD (some (.int q)) (wC G ad σ)) 0 0 (wC G ad σ) 23 [(0, .ref (ad 11)), (1, .int x1), (3, .int x3), (4, .int x4), (5, .int x5)] []) (hb39 : ∀ (x1 : Int32) (x3 : Int32) (x4 : Int32) (x5 : Int32) (x6 : Int32), bk39 x1 x3 x4 x5 x6 = some q → VV l G yX5_nextPlay cX5_nextPlay 8 (some .int) d 0 0 av0 w1 (pD (some (.int q)) (wC G ad σ)) 0 0 (wC G ad σ) 39 [(0, .ref (ad 11)), (1, .int x1), (3, .int x3), (4, .int x4), (5, .int x5), (6, .int x6)] []) (hf : f_X5_nextPlay_97 bk23 bk39 σ x1 x3 x4 x5 x6 = some q) : VV l G yX5_nextPlay cX5_nextPlay 8 (some .int) d 0 0 av0 w1 (pD (some (.int q)) (wC G ad σ)) 0 0 (wC G ad σ) 97 [(0, .ref (ad 11)), (1, .int x1), (3, .int x3), (4, .int x4), (5, .int x5), (6, .int x6)] [] := by
  unfold f_X5_nextPlay_97 at hf
  refine V_iinc (1) 3 [(0, .ref (ad 11)), (1, .int x1), (3, .int x3), (4, .int (x4 + 1)), (5, .int x5), (6, .int x6)] [1, 2, 3, 0, 4, 5] dX5_nextPlay_97 rfl (by decide) (by decide) rfl ?_
  refine V_goto 39 dX5_nextPlay_100 (by decide) ?_
  exact hb39 _ _ _ _ _ hf
def f_X5_nextPlay_39 (bk23 : Int32 → Int32 → Int32 → Int32 → Option Int32) (σ : St) : Nat → Int32 → Int32 → Int32 → Int32 → Int32 → Option Int32
  | 0, _, _, _, _, _ => none
  | n + 1, x1, x3, x4, x5, x6 => if x6 = 0 then (f_X5_nextPlay_103 bk23 σ x1 x3 x5) else (if x3 ≤ x4 then (f_X5_nextPlay_103 bk23 σ x1 x3 x5) else (bno (f_X1_word σ x4) fun r1 => bno (f_X8_length r1) fun r2 => if ((x6 >>> (r2 &&& 31)) &&& (1)) = 0 then (f_X5_nextPlay_97 bk23 (f_X5_nextPlay_39 bk23 σ n) σ x1 x3 x4 x5 x6) else (bno (f_X5_refusal σ x1 x5 x4) fun r3 => if r3 = 0 then (bno (f_X6_withWord x5 x4) fun r4 => some r4) else (f_X5_nextPlay_97 bk23 (f_X5_nextPlay_39 bk23 σ n) σ x1 x3 x4 x5 x6))))
set_option maxHeartbeats 4000000 in
set_option maxRecDepth 100000 in
theorem v_X5_nextPlay_39 {l : Launch} {G : Gv} {ad : Nat → Nat} {d : Nat} {av0 : List Value} {w1 : va_W} {q : Int32} {bk23 : Int32 → Int32 → Int32 → Int32 → Option Int32} {σ : St} (hd : 5 ≤ d) (hb23 : ∀ (x1 : Int32) (x3 : Int32) (x4 : Int32) (x5 : Int32), bk23 x1 x3 x4 x5 = some q → VV l G yX5_nextPlay cX5_nextPlay 8 (some .int) d 0 0 av0 w1 (pD (some (.int q)) (wC G ad σ)) 0 0 (wC G ad σ) 23 [(0, .ref (ad 11)), (1, .int x1), (3, .int x3), (4, .int x4), (5, .int x5)] []) : ∀ (n : Nat) (x1 : Int32) (x3 : Int32) (x4 : Int32) (x5 : Int32) (x6 : Int32), f_X5_nextPlay_39 bk23 σ n x1 x3 x4 x5 x6 = some q → VV l G yX5_nextPlay cX5_nextPlay 8 (some .int) d 0 0 av0 w1 (pD (some (.int q)) (wC G ad σ)) 0 0 (wC G ad σ) 39 [(0, .ref (ad 11)), (1, .int x1), (3, .int x3), (4, .int x4), (5, .int x5), (6, .int x6)] [] := by
  intro n
  induction n with
  | zero =>
    intro x1 x3 x4 x5 x6 hf
    cases hf
  | succ n ih =>
    intro x1 x3 x4 x5 x6 hf
    rw [f_X5_nextPlay_39] at hf
    refine V_iload 5 rfl dX5_nextPlay_39 ?_
    refine V_if_eq 103 dX5_nextPlay_41 (by decide) (fun c1 => ?_) (fun c1 => ?_)
    · replace hf := (if_pos c1).symm.trans hf
      refine V_lv [(0, .ref (ad 11)), (1, .int x1), (3, .int x3), (5, .int x5)] [0, 1, 2, 4] rfl ?_
      exact v_X5_nextPlay_103 hd hb23 hf
    · replace hf := (if_neg c1).symm.trans hf
      refine V_iload 3 rfl dX5_nextPlay_44 ?_
      refine V_iload_n 2 rfl dX5_nextPlay_46 rfl ?_
      refine V_icmp_ge 103 dX5_nextPlay_47 (by decide) (fun c2 => ?_) (fun c2 => ?_)
      · replace hf := (if_pos c2).symm.trans hf
        refine V_lv [(0, .ref (ad 11)), (1, .int x1), (3, .int x3), (5, .int x5)] [0, 1, 2, 4] rfl ?_
        exact v_X5_nextPlay_103 hd hb23 hf
      · replace hf := (if_neg c2).symm.trans hf
        refine V_aload_n 0 rfl dX5_nextPlay_50 rfl ?_
        refine V_get (k := 0) RC_X5 fl_X5_9 rfl (by decide) dX5_nextPlay_51 11 rfl rfl ?_
        refine V_getN (k := 0) RC_X7 fl_X5_15 rfl (by decide) dX5_nextPlay_54 1 rfl rfl ?_
        refine V_iload 3 rfl dX5_nextPlay_57 ?_
        obtain ⟨r1, hr1, hf⟩ := bno_some hf
        refine V_cV (As := [.int x4]) (rest := []) (k_X1_word (d := 0) (Nat.le_refl _) hr1) LB_X1_word lk_X5_21 (by omega) dX5_nextPlay_59 rfl rfl (Nat.le_of_ble_eq_true rfl) (Nat.le_refl _) (Nat.le_refl _) 2 rfl ⟨rfl, rfl⟩ [.int r1] rfl ?_
        obtain ⟨r2, hr2, hf⟩ := bno_some hf
        refine V_cS (As := [.int r1]) (rest := []) (k_X8_length (d := 0) (Nat.le_refl _) hr2) LB_X8_length lk_X5_27 (by omega) dX5_nextPlay_62 rfl rfl (Nat.le_of_ble_eq_true rfl) (Nat.le_refl _) (Nat.le_refl _) [.int r2] rfl ?_
        refine V_istore [(0, .ref (ad 11)), (1, .int x1), (3, .int x3), (4, .int x4), (5, .int x5), (6, .int x6), (7, .int r2)] [1, 2, 3, 4, 5, 6, 0] dX5_nextPlay_65 (by decide) rfl ?_
        refine V_iload 5 rfl dX5_nextPlay_67 ?_
        refine V_iload 6 rfl dX5_nextPlay_69 ?_
        refine V_ishr dX5_nextPlay_71 ?_
        refine V_iconst 1 dX5_nextPlay_72 (by decide) ?_
        refine V_iand dX5_nextPlay_73 ?_
        refine V_if_eq 97 dX5_nextPlay_74 (by decide) (fun c3 => ?_) (fun c3 => ?_)
        · replace hf := (if_pos c3).symm.trans hf
          refine V_lv [(0, .ref (ad 11)), (1, .int x1), (3, .int x3), (4, .int x4), (5, .int x5), (6, .int x6)] [0, 1, 2, 3, 4, 5] rfl ?_
          exact v_X5_nextPlay_97 hd hb23 ih hf
        · replace hf := (if_neg c3).symm.trans hf
          refine V_aload_n 0 rfl dX5_nextPlay_77 rfl ?_
          refine V_iload_n 1 rfl dX5_nextPlay_78 rfl ?_
          refine V_iload 4 rfl dX5_nextPlay_79 ?_
          refine V_iload 3 rfl dX5_nextPlay_81 ?_
          obtain ⟨r3, hr3, hf⟩ := bno_some hf
          refine V_cV (As := [.int x1, .int x5, .int x4]) (rest := []) (k_X5_refusal (d := 4) (Nat.le_refl _) hr3) LB_X5_refusal lk_X5_127 (by omega) dX5_nextPlay_83 rfl rfl (Nat.le_of_ble_eq_true rfl) (Nat.le_refl _) (Nat.le_refl _) 11 rfl ⟨rfl, rfl⟩ [.int r3] rfl ?_
          refine V_if_ne 97 dX5_nextPlay_86 (by decide) (fun c4 => ?_) (fun c4 => ?_)
          · replace hf := (if_neg c4).symm.trans hf
            refine V_lv [(0, .ref (ad 11)), (1, .int x1), (3, .int x3), (4, .int x4), (5, .int x5), (6, .int x6)] [0, 1, 2, 3, 4, 5] rfl ?_
            exact v_X5_nextPlay_97 hd hb23 ih hf
          · replace hf := (if_pos c4).symm.trans hf
            refine V_iload 4 rfl dX5_nextPlay_89 ?_
            refine V_iload 3 rfl dX5_nextPlay_91 ?_
            obtain ⟨r4, hr4, hf⟩ := bno_some hf
            refine V_cS (As := [.int x5, .int x4]) (rest := []) (k_X6_withWord (d := 0) (Nat.le_refl _) hr4) LB_X6_withWord lk_X5_130 (by omega) dX5_nextPlay_93 rfl rfl (Nat.le_of_ble_eq_true rfl) (Nat.le_refl _) (Nat.le_refl _) [.int r4] rfl ?_
            cases hf
            exact V_iret rfl dX5_nextPlay_96 ⟨rfl, rfl⟩
def f_X5_nextPlay_23 (σ : St) : Nat → Int32 → Int32 → Int32 → Int32 → Option Int32
  | 0, _, _, _, _ => none
  | n + 1, x1, x3, x4, x5 => if (128) ≤ x5 then (some (-1)) else (bno (f_X5_lengthsThatMayFit σ x5) fun r1 => f_X5_nextPlay_39 (f_X5_nextPlay_23 σ n) σ FU x1 x3 x4 x5 r1)
set_option maxHeartbeats 4000000 in
set_option maxRecDepth 100000 in
theorem v_X5_nextPlay_23 {l : Launch} {G : Gv} {ad : Nat → Nat} {d : Nat} {av0 : List Value} {w1 : va_W} {q : Int32} {σ : St} (hd : 5 ≤ d) : ∀ (n : Nat) (x1 : Int32) (x3 : Int32) (x4 : Int32) (x5 : Int32), f_X5_nextPlay_23 σ n x1 x3 x4 x5 = some q → VV l G yX5_nextPlay cX5_nextPlay 8 (some .int) d 0 0 av0 w1 (pD (some (.int q)) (wC G ad σ)) 0 0 (wC G ad σ) 23 [(0, .ref (ad 11)), (1, .int x1), (3, .int x3), (4, .int x4), (5, .int x5)] [] := by
  intro n
  induction n with
  | zero =>
    intro x1 x3 x4 x5 hf
    cases hf
  | succ n ih =>
    intro x1 x3 x4 x5 hf
    rw [f_X5_nextPlay_23] at hf
    refine V_iload 4 rfl dX5_nextPlay_23 ?_
    refine V_sipush 128 dX5_nextPlay_25 (by decide) ?_
    refine V_icmp_ge 112 dX5_nextPlay_28 (by decide) (fun c1 => ?_) (fun c1 => ?_)
    · replace hf := (if_pos c1).symm.trans hf
      refine V_iconst (-1) dX5_nextPlay_112 (by decide) ?_
      cases hf
      exact V_iret rfl dX5_nextPlay_113 ⟨rfl, rfl⟩
    · replace hf := (if_neg c1).symm.trans hf
      refine V_aload_n 0 rfl dX5_nextPlay_31 rfl ?_
      refine V_iload 4 rfl dX5_nextPlay_32 ?_
      obtain ⟨r1, hr1, hf⟩ := bno_some hf
      refine V_cV (As := [.int x5]) (rest := []) (k_X5_lengthsThatMayFit (d := 2) (Nat.le_refl _) hr1) LB_X5_lengthsThatMayFit lk_X5_124 (by omega) dX5_nextPlay_34 rfl rfl (Nat.le_of_ble_eq_true rfl) (Nat.le_refl _) (Nat.le_refl _) 11 rfl ⟨rfl, rfl⟩ [.int r1] rfl ?_
      refine V_istore [(0, .ref (ad 11)), (1, .int x1), (3, .int x3), (4, .int x4), (5, .int x5), (6, .int r1)] [1, 2, 3, 4, 5, 0] dX5_nextPlay_37 (by decide) rfl ?_
      exact v_X5_nextPlay_39 hd ih _ _ _ _ _ _ hf
def f_X5_nextPlay (σ : St) (x1 : Int32) (x2 : Int32) : Option Int32 := bno (f_X1_size σ) fun r1 => bno (f_X6_wordOfPlay x2) fun r2 => bno (f_X6_ofPlay x2) fun r3 => f_X5_nextPlay_23 σ FU x1 r1 r2 r3
set_option maxHeartbeats 4000000 in
set_option maxRecDepth 100000 in
theorem v_X5_nextPlay {l : Launch} {G : Gv} {ad : Nat → Nat} {d : Nat} {av0 : List Value} {w1 : va_W} {q : Int32} {σ : St} {x1 : Int32} {x2 : Int32} (hd : 5 ≤ d) (hf : f_X5_nextPlay σ x1 x2 = some q) : VV l G yX5_nextPlay cX5_nextPlay 8 (some .int) d 0 0 av0 w1 (pD (some (.int q)) (wC G ad σ)) 0 0 (wC G ad σ) 0 [(0, .ref (ad 11)), (1, .int x1), (2, .int x2)] [] := by
  unfold f_X5_nextPlay at hf
  refine V_aload_n 0 rfl dX5_nextPlay_0 rfl ?_
  refine V_get (k := 0) RC_X5 fl_X5_9 rfl (by decide) dX5_nextPlay_1 11 rfl rfl ?_
  refine V_getN (k := 0) RC_X7 fl_X5_15 rfl (by decide) dX5_nextPlay_4 1 rfl rfl ?_
  obtain ⟨r1, hr1, hf⟩ := bno_some hf
  refine V_cV (As := []) (rest := []) (k_X1_size (d := 0) (Nat.le_refl _) hr1) LB_X1_size lk_X5_114 (by omega) dX5_nextPlay_7 rfl rfl (Nat.le_of_ble_eq_true rfl) (Nat.le_refl _) (Nat.le_refl _) 2 rfl ⟨rfl, rfl⟩ [.int r1] rfl ?_
  refine V_istore_n [(0, .ref (ad 11)), (1, .int x1), (2, .int x2), (3, .int r1)] [1, 2, 3, 0] dX5_nextPlay_10 rfl (by decide) rfl ?_
  refine V_iload_n 2 rfl dX5_nextPlay_11 rfl ?_
  obtain ⟨r2, hr2, hf⟩ := bno_some hf
  refine V_cS (As := [.int x2]) (rest := []) (k_X6_wordOfPlay (d := 0) (Nat.le_refl _) hr2) LB_X6_wordOfPlay lk_X5_118 (by omega) dX5_nextPlay_12 rfl rfl (Nat.le_of_ble_eq_true rfl) (Nat.le_refl _) (Nat.le_refl _) [.int r2] rfl ?_
  refine V_istore [(0, .ref (ad 11)), (1, .int x1), (2, .int x2), (3, .int r1), (4, .int r2)] [1, 2, 3, 4, 0] dX5_nextPlay_15 (by decide) rfl ?_
  refine V_iload_n 2 rfl dX5_nextPlay_17 rfl ?_
  obtain ⟨r3, hr3, hf⟩ := bno_some hf
  refine V_cS (As := [.int x2]) (rest := []) (k_X6_ofPlay (d := 0) (Nat.le_refl _) hr3) LB_X6_ofPlay lk_X5_121 (by omega) dX5_nextPlay_18 rfl rfl (Nat.le_of_ble_eq_true rfl) (Nat.le_refl _) (Nat.le_refl _) [.int r3] rfl ?_
  refine V_istore [(0, .ref (ad 11)), (1, .int x1), (2, .int x2), (3, .int r1), (4, .int r2), (5, .int r3)] [1, 2, 3, 4, 5, 0] dX5_nextPlay_21 (by decide) rfl ?_
  refine V_lv [(0, .ref (ad 11)), (1, .int x1), (3, .int r1), (4, .int r2), (5, .int r3)] [0, 1, 3, 4, 5] rfl ?_
  exact v_X5_nextPlay_23 hd _ _ _ _ _ hf
theorem k_X5_nextPlay {l : Launch} {G : Gv} {ad : Nat → Nat} {d : Nat} {σ : St} {q : Int32} {x1 : Int32} {x2 : Int32} (hd : 5 ≤ d) (hf : f_X5_nextPlay σ x1 x2 = some q) : K l G yX5_nextPlay cX5_nextPlay 8 (some .int) d 0 0 [.ref (ad 11), .int x1, .int x2] (wC G ad σ) (pD (some (.int q)) (wC G ad σ)) := K_intro (by decide) (Nat.le_of_ble_eq_true rfl) (v_X5_nextPlay hd hf)
def f_X5_countPlays_9 (σ : St) : Nat → Int32 → Int32 → Int32 → Option Int32
  | 0, _, _, _ => none
  | n + 1, x1, x2, x3 => if (4096) ≤ x2 then (some x2) else (if x3 = (-1) then (some x2) else (bno (f_X5_nextPlay σ x1 (x3 + (1))) fun r1 => f_X5_countPlays_9 σ n x1 (x2 + 1) r1))
set_option maxHeartbeats 4000000 in
set_option maxRecDepth 100000 in
theorem v_X5_countPlays_9 {l : Launch} {G : Gv} {ad : Nat → Nat} {d : Nat} {av0 : List Value} {w1 : va_W} {q : Int32} {σ : St} (hd : 6 ≤ d) : ∀ (n : Nat) (x1 : Int32) (x2 : Int32) (x3 : Int32), f_X5_countPlays_9 σ n x1 x2 x3 = some q → VV l G yX5_countPlays cX5_countPlays 4 (some .int) d 0 0 av0 w1 (pD (some (.int q)) (wC G ad σ)) 0 0 (wC G ad σ) 9 [(0, .ref (ad 11)), (1, .int x1), (2, .int x2), (3, .int x3)] [] := by
  intro n
  induction n with
  | zero =>
    intro x1 x2 x3 hf
    cases hf
  | succ n ih =>
    intro x1 x2 x3 hf
    rw [f_X5_countPlays_9] at hf
    refine V_iload_n 2 rfl dX5_countPlays_9 rfl ?_
    refine V_sipush 4096 dX5_countPlays_10 (by decide) ?_
    refine V_icmp_ge 36 dX5_countPlays_13 (by decide) (fun c1 => ?_) (fun c1 => ?_)
    · replace hf := (if_pos c1).symm.trans hf
      refine V_iload_n 2 rfl dX5_countPlays_36 rfl ?_
      cases hf
      exact V_iret rfl dX5_countPlays_37 ⟨rfl, rfl⟩
    · replace hf := (if_neg c1).symm.trans hf
      refine V_iload_n 3 rfl dX5_countPlays_16 rfl ?_
      refine V_iconst (-1) dX5_countPlays_17 (by decide) ?_
      refine V_icmp_eq 36 dX5_countPlays_18 (by decide) (fun c2 => ?_) (fun c2 => ?_)
      · replace hf := (if_pos c2).symm.trans hf
        refine V_iload_n 2 rfl dX5_countPlays_36 rfl ?_
        cases hf
        exact V_iret rfl dX5_countPlays_37 ⟨rfl, rfl⟩
      · replace hf := (if_neg c2).symm.trans hf
        refine V_iinc (1) 2 [(0, .ref (ad 11)), (1, .int x1), (2, .int (x2 + 1)), (3, .int x3)] [1, 2, 0, 3] dX5_countPlays_21 rfl (by decide) (by decide) rfl ?_
        refine V_aload_n 0 rfl dX5_countPlays_24 rfl ?_
        refine V_iload_n 1 rfl dX5_countPlays_25 rfl ?_
        refine V_iload_n 3 rfl dX5_countPlays_26 rfl ?_
        refine V_iconst 1 dX5_countPlays_27 (by decide) ?_
        refine V_iadd dX5_countPlays_28 ?_
        obtain ⟨r1, hr1, hf⟩ := bno_some hf
        refine V_cV (As := [.int x1, .int (x3 + (1))]) (rest := []) (k_X5_nextPlay (d := 5) (Nat.le_refl _) hr1) LB_X5_nextPlay lk_X5_136 (by omega) dX5_countPlays_29 rfl rfl (Nat.le_of_ble_eq_true rfl) (Nat.le_refl _) (Nat.le_refl _) 11 rfl ⟨rfl, rfl⟩ [.int r1] rfl ?_
        refine V_istore_n [(0, .ref (ad 11)), (1, .int x1), (2, .int (x2 + 1)), (3, .int r1)] [1, 2, 3, 0] dX5_countPlays_32 rfl (by decide) rfl ?_
        refine V_goto 9 dX5_countPlays_33 (by decide) ?_
        exact ih _ _ _ hf
def f_X5_countPlays (σ : St) (x1 : Int32) : Option Int32 := bno (f_X5_nextPlay σ x1 (0)) fun r1 => f_X5_countPlays_9 σ FU x1 (0) r1
set_option maxHeartbeats 4000000 in
set_option maxRecDepth 100000 in
theorem v_X5_countPlays {l : Launch} {G : Gv} {ad : Nat → Nat} {d : Nat} {av0 : List Value} {w1 : va_W} {q : Int32} {σ : St} {x1 : Int32} (hd : 6 ≤ d) (hf : f_X5_countPlays σ x1 = some q) : VV l G yX5_countPlays cX5_countPlays 4 (some .int) d 0 0 av0 w1 (pD (some (.int q)) (wC G ad σ)) 0 0 (wC G ad σ) 0 [(0, .ref (ad 11)), (1, .int x1)] [] := by
  unfold f_X5_countPlays at hf
  refine V_iconst 0 dX5_countPlays_0 (by decide) ?_
  refine V_istore_n [(0, .ref (ad 11)), (1, .int x1), (2, .int (0))] [1, 2, 0] dX5_countPlays_1 rfl (by decide) rfl ?_
  refine V_aload_n 0 rfl dX5_countPlays_2 rfl ?_
  refine V_iload_n 1 rfl dX5_countPlays_3 rfl ?_
  refine V_iconst 0 dX5_countPlays_4 (by decide) ?_
  obtain ⟨r1, hr1, hf⟩ := bno_some hf
  refine V_cV (As := [.int x1, .int (0)]) (rest := []) (k_X5_nextPlay (d := 5) (Nat.le_refl _) hr1) LB_X5_nextPlay lk_X5_136 (by omega) dX5_countPlays_5 rfl rfl (Nat.le_of_ble_eq_true rfl) (Nat.le_refl _) (Nat.le_refl _) 11 rfl ⟨rfl, rfl⟩ [.int r1] rfl ?_
  refine V_istore_n [(0, .ref (ad 11)), (1, .int x1), (2, .int (0)), (3, .int r1)] [1, 2, 3, 0] dX5_countPlays_8 rfl (by decide) rfl ?_
  exact v_X5_countPlays_9 hd _ _ _ _ hf
theorem k_X5_countPlays {l : Launch} {G : Gv} {ad : Nat → Nat} {d : Nat} {σ : St} {q : Int32} {x1 : Int32} (hd : 6 ≤ d) (hf : f_X5_countPlays σ x1 = some q) : K l G yX5_countPlays cX5_countPlays 4 (some .int) d 0 0 [.ref (ad 11), .int x1] (wC G ad σ) (pD (some (.int q)) (wC G ad σ)) := K_intro (by decide) (Nat.le_of_ble_eq_true rfl) (v_X5_countPlays hd hf)
def f_X5_indexOfBest_55 (bk15 : Int32 → Int32 → Int32 → Int32 → Int32 → Option Int32) (σ : St) (x1 : Int32) (x2 : Int32) (x3 : Int32) (x4 : Int32) (x5 : Int32) : Option Int32 := bno (f_X5_nextPlay σ x1 (x4 + (1))) fun r1 => bk15 x1 x2 x3 r1 (x5 + 1)
set_option maxHeartbeats 4000000 in
set_option maxRecDepth 100000 in
theorem v_X5_indexOfBest_55 {l : Launch} {G : Gv} {ad : Nat → Nat} {d : Nat} {av0 : List Value} {w1 : va_W} {q : Int32} {bk15 : Int32 → Int32 → Int32 → Int32 → Int32 → Option Int32} {σ : St} {x1 : Int32} {x2 : Int32} {x3 : Int32} {x4 : Int32} {x5 : Int32} (hd : 6 ≤ d) (hb15 : ∀ (x1 : Int32) (x2 : Int32) (x3 : Int32) (x4 : Int32) (x5 : Int32), bk15 x1 x2 x3 x4 x5 = some q → VV l G yX5_indexOfBest cX5_indexOfBest 7 (some .int) d 0 0 av0 w1 (pD (some (.int q)) (wC G ad σ)) 0 0 (wC G ad σ) 15 [(0, .ref (ad 11)), (1, .int x1), (2, .int x2), (3, .int x3), (4, .int x4), (5, .int x5)] []) (hf : f_X5_indexOfBest_55 bk15 σ x1 x2 x3 x4 x5 = some q) : VV l G yX5_indexOfBest cX5_indexOfBest 7 (some .int) d 0 0 av0 w1 (pD (some (.int q)) (wC G ad σ)) 0 0 (wC G ad σ) 55 [(0, .ref (ad 11)), (1, .int x1), (2, .int x2), (3, .int x3), (4, .int x4), (5, .int x5)] [] := by
  unfold f_X5_indexOfBest_55 at hf
  refine V_aload_n 0 rfl dX5_indexOfBest_55 rfl ?_
  refine V_iload_n 1 rfl dX5_indexOfBest_56 rfl ?_
  refine V_iload 4 rfl dX5_indexOfBest_57 ?_
  refine V_iconst 1 dX5_indexOfBest_59 (by decide) ?_
  refine V_iadd dX5_indexOfBest_60 ?_
  obtain ⟨r1, hr1, hf⟩ := bno_some hf
  refine V_cV (As := [.int x1, .int (x4 + (1))]) (rest := []) (k_X5_nextPlay (d := 5) (Nat.le_refl _) hr1) LB_X5_nextPlay lk_X5_136 (by omega) dX5_indexOfBest_61 rfl rfl (Nat.le_of_ble_eq_true rfl) (Nat.le_refl _) (Nat.le_refl _) 11 rfl ⟨rfl, rfl⟩ [.int r1] rfl ?_
  refine V_istore [(0, .ref (ad 11)), (1, .int x1), (2, .int x2), (3, .int x3), (4, .int r1), (5, .int x5)] [1, 2, 3, 4, 0, 5] dX5_indexOfBest_64 (by decide) rfl ?_
  refine V_iinc (1) 5 [(0, .ref (ad 11)), (1, .int x1), (2, .int x2), (3, .int x3), (4, .int r1), (5, .int (x5 + 1))] [1, 2, 3, 4, 5, 0] dX5_indexOfBest_66 rfl (by decide) (by decide) rfl ?_
  refine V_goto 15 dX5_indexOfBest_69 (by decide) ?_
  exact hb15 _ _ _ _ _ hf
def f_X5_indexOfBest_49 (bk15 : Int32 → Int32 → Int32 → Int32 → Int32 → Option Int32) (σ : St) (x1 : Int32) (x4 : Int32) (x5 : Int32) (x6 : Int32) : Option Int32 := f_X5_indexOfBest_55 bk15 σ x1 x5 x6 x4 x5
set_option maxHeartbeats 4000000 in
set_option maxRecDepth 100000 in
theorem v_X5_indexOfBest_49 {l : Launch} {G : Gv} {ad : Nat → Nat} {d : Nat} {av0 : List Value} {w1 : va_W} {q : Int32} {bk15 : Int32 → Int32 → Int32 → Int32 → Int32 → Option Int32} {σ : St} {x1 : Int32} {x4 : Int32} {x5 : Int32} {x6 : Int32} (hd : 6 ≤ d) (hb15 : ∀ (x1 : Int32) (x2 : Int32) (x3 : Int32) (x4 : Int32) (x5 : Int32), bk15 x1 x2 x3 x4 x5 = some q → VV l G yX5_indexOfBest cX5_indexOfBest 7 (some .int) d 0 0 av0 w1 (pD (some (.int q)) (wC G ad σ)) 0 0 (wC G ad σ) 15 [(0, .ref (ad 11)), (1, .int x1), (2, .int x2), (3, .int x3), (4, .int x4), (5, .int x5)] []) (hf : f_X5_indexOfBest_49 bk15 σ x1 x4 x5 x6 = some q) : VV l G yX5_indexOfBest cX5_indexOfBest 7 (some .int) d 0 0 av0 w1 (pD (some (.int q)) (wC G ad σ)) 0 0 (wC G ad σ) 49 [(0, .ref (ad 11)), (1, .int x1), (4, .int x4), (5, .int x5), (6, .int x6)] [] := by
  unfold f_X5_indexOfBest_49 at hf
  refine V_iload 3 rfl dX5_indexOfBest_49 ?_
  refine V_istore_n [(0, .ref (ad 11)), (1, .int x1), (2, .int x5), (4, .int x4), (5, .int x5), (6, .int x6)] [1, 2, 0, 3, 4, 5] dX5_indexOfBest_51 rfl (by decide) rfl ?_
  refine V_iload 5 rfl dX5_indexOfBest_52 ?_
  refine V_istore_n [(0, .ref (ad 11)), (1, .int x1), (2, .int x5), (3, .int x6), (4, .int x4), (5, .int x5), (6, .int x6)] [1, 2, 3, 0, 4, 5, 6] dX5_indexOfBest_54 rfl (by decide) rfl ?_
  refine V_lv [(0, .ref (ad 11)), (1, .int x1), (2, .int x5), (3, .int x6), (4, .int x4), (5, .int x5)] [0, 1, 2, 3, 4, 5] rfl ?_
  exact v_X5_indexOfBest_55 hd hb15 hf
def f_X5_indexOfBest_15 (σ : St) : Nat → Int32 → Int32 → Int32 → Int32 → Int32 → Option Int32
  | 0, _, _, _, _, _ => none
  | n + 1, x1, x2, x3, x4, x5 => if (4096) ≤ x5 then (some x2) else (if x4 = (-1) then (some x2) else (bno (f_X5_equityOf σ x1 x4) fun r1 => if x2 = (-1) then (f_X5_indexOfBest_49 (f_X5_indexOfBest_15 σ n) σ x1 x4 x5 r1) else (if r1 ≤ x3 then (f_X5_indexOfBest_55 (f_X5_indexOfBest_15 σ n) σ x1 x2 x3 x4 x5) else (f_X5_indexOfBest_49 (f_X5_indexOfBest_15 σ n) σ x1 x4 x5 r1))))
set_option maxHeartbeats 4000000 in
set_option maxRecDepth 100000 in
theorem v_X5_indexOfBest_15 {l : Launch} {G : Gv} {ad : Nat → Nat} {d : Nat} {av0 : List Value} {w1 : va_W} {q : Int32} {σ : St} (hd : 6 ≤ d) : ∀ (n : Nat) (x1 : Int32) (x2 : Int32) (x3 : Int32) (x4 : Int32) (x5 : Int32), f_X5_indexOfBest_15 σ n x1 x2 x3 x4 x5 = some q → VV l G yX5_indexOfBest cX5_indexOfBest 7 (some .int) d 0 0 av0 w1 (pD (some (.int q)) (wC G ad σ)) 0 0 (wC G ad σ) 15 [(0, .ref (ad 11)), (1, .int x1), (2, .int x2), (3, .int x3), (4, .int x4), (5, .int x5)] [] := by
  intro n
  induction n with
  | zero =>
    intro x1 x2 x3 x4 x5 hf
    cases hf
  | succ n ih =>
    intro x1 x2 x3 x4 x5 hf
    rw [f_X5_indexOfBest_15] at hf
    refine V_iload 5 rfl dX5_indexOfBest_15 ?_
    refine V_sipush 4096 dX5_indexOfBest_17 (by decide) ?_
    refine V_icmp_ge 72 dX5_indexOfBest_20 (by decide) (fun c1 => ?_) (fun c1 => ?_)
    · replace hf := (if_pos c1).symm.trans hf
      refine V_iload_n 2 rfl dX5_indexOfBest_72 rfl ?_
      cases hf
      exact V_iret rfl dX5_indexOfBest_73 ⟨rfl, rfl⟩
    · replace hf := (if_neg c1).symm.trans hf
      refine V_iload 4 rfl dX5_indexOfBest_23 ?_
      refine V_iconst (-1) dX5_indexOfBest_25 (by decide) ?_
      refine V_icmp_eq 72 dX5_indexOfBest_26 (by decide) (fun c2 => ?_) (fun c2 => ?_)
      · replace hf := (if_pos c2).symm.trans hf
        refine V_iload_n 2 rfl dX5_indexOfBest_72 rfl ?_
        cases hf
        exact V_iret rfl dX5_indexOfBest_73 ⟨rfl, rfl⟩
      · replace hf := (if_neg c2).symm.trans hf
        refine V_aload_n 0 rfl dX5_indexOfBest_29 rfl ?_
        refine V_iload_n 1 rfl dX5_indexOfBest_30 rfl ?_
        refine V_iload 4 rfl dX5_indexOfBest_31 ?_
        obtain ⟨r1, hr1, hf⟩ := bno_some hf
        refine V_cV (As := [.int x1, .int x4]) (rest := []) (k_X5_equityOf (d := 5) (Nat.le_refl _) hr1) LB_X5_equityOf lk_X5_139 (by omega) dX5_indexOfBest_33 rfl rfl (Nat.le_of_ble_eq_true rfl) (Nat.le_refl _) (Nat.le_refl _) 11 rfl ⟨rfl, rfl⟩ [.int r1] rfl ?_
        refine V_istore [(0, .ref (ad 11)), (1, .int x1), (2, .int x2), (3, .int x3), (4, .int x4), (5, .int x5), (6, .int r1)] [1, 2, 3, 4, 5, 6, 0] dX5_indexOfBest_36 (by decide) rfl ?_
        refine V_iload_n 2 rfl dX5_indexOfBest_38 rfl ?_
        refine V_iconst (-1) dX5_indexOfBest_39 (by decide) ?_
        refine V_icmp_eq 49 dX5_indexOfBest_40 (by decide) (fun c3 => ?_) (fun c3 => ?_)
        · replace hf := (if_pos c3).symm.trans hf
          refine V_lv [(0, .ref (ad 11)), (1, .int x1), (4, .int x4), (5, .int x5), (6, .int r1)] [0, 1, 4, 5, 6] rfl ?_
          exact v_X5_indexOfBest_49 hd ih hf
        · replace hf := (if_neg c3).symm.trans hf
          refine V_iload 6 rfl dX5_indexOfBest_43 ?_
          refine V_iload_n 3 rfl dX5_indexOfBest_45 rfl ?_
          refine V_icmp_le 55 dX5_indexOfBest_46 (by decide) (fun c4 => ?_) (fun c4 => ?_)
          · replace hf := (if_pos c4).symm.trans hf
            refine V_lv [(0, .ref (ad 11)), (1, .int x1), (2, .int x2), (3, .int x3), (4, .int x4), (5, .int x5)] [0, 1, 2, 3, 4, 5] rfl ?_
            exact v_X5_indexOfBest_55 hd ih hf
          · replace hf := (if_neg c4).symm.trans hf
            refine V_lv [(0, .ref (ad 11)), (1, .int x1), (4, .int x4), (5, .int x5), (6, .int r1)] [0, 1, 4, 5, 6] rfl ?_
            exact v_X5_indexOfBest_49 hd ih hf
def f_X5_indexOfBest (σ : St) (x1 : Int32) : Option Int32 := bno (f_X5_nextPlay σ x1 (0)) fun r1 => f_X5_indexOfBest_15 σ FU x1 (-1) (0) r1 (0)
set_option maxHeartbeats 4000000 in
set_option maxRecDepth 100000 in
theorem v_X5_indexOfBest {l : Launch} {G : Gv} {ad : Nat → Nat} {d : Nat} {av0 : List Value} {w1 : va_W} {q : Int32} {σ : St} {x1 : Int32} (hd : 6 ≤ d) (hf : f_X5_indexOfBest σ x1 = some q) : VV l G yX5_indexOfBest cX5_indexOfBest 7 (some .int) d 0 0 av0 w1 (pD (some (.int q)) (wC G ad σ)) 0 0 (wC G ad σ) 0 [(0, .ref (ad 11)), (1, .int x1)] [] := by
  unfold f_X5_indexOfBest at hf
  refine V_iconst (-1) dX5_indexOfBest_0 (by decide) ?_
  refine V_istore_n [(0, .ref (ad 11)), (1, .int x1), (2, .int (-1))] [1, 2, 0] dX5_indexOfBest_1 rfl (by decide) rfl ?_
  refine V_iconst 0 dX5_indexOfBest_2 (by decide) ?_
  refine V_istore_n [(0, .ref (ad 11)), (1, .int x1), (2, .int (-1)), (3, .int (0))] [1, 2, 3, 0] dX5_indexOfBest_3 rfl (by decide) rfl ?_
  refine V_aload_n 0 rfl dX5_indexOfBest_4 rfl ?_
  refine V_iload_n 1 rfl dX5_indexOfBest_5 rfl ?_
  refine V_iconst 0 dX5_indexOfBest_6 (by decide) ?_
  obtain ⟨r1, hr1, hf⟩ := bno_some hf
  refine V_cV (As := [.int x1, .int (0)]) (rest := []) (k_X5_nextPlay (d := 5) (Nat.le_refl _) hr1) LB_X5_nextPlay lk_X5_136 (by omega) dX5_indexOfBest_7 rfl rfl (Nat.le_of_ble_eq_true rfl) (Nat.le_refl _) (Nat.le_refl _) 11 rfl ⟨rfl, rfl⟩ [.int r1] rfl ?_
  refine V_istore [(0, .ref (ad 11)), (1, .int x1), (2, .int (-1)), (3, .int (0)), (4, .int r1)] [1, 2, 3, 4, 0] dX5_indexOfBest_10 (by decide) rfl ?_
  refine V_iconst 0 dX5_indexOfBest_12 (by decide) ?_
  refine V_istore [(0, .ref (ad 11)), (1, .int x1), (2, .int (-1)), (3, .int (0)), (4, .int r1), (5, .int (0))] [1, 2, 3, 4, 5, 0] dX5_indexOfBest_13 (by decide) rfl ?_
  exact v_X5_indexOfBest_15 hd _ _ _ _ _ _ hf
theorem k_X5_indexOfBest {l : Launch} {G : Gv} {ad : Nat → Nat} {d : Nat} {σ : St} {q : Int32} {x1 : Int32} (hd : 6 ≤ d) (hf : f_X5_indexOfBest σ x1 = some q) : K l G yX5_indexOfBest cX5_indexOfBest 7 (some .int) d 0 0 [.ref (ad 11), .int x1] (wC G ad σ) (pD (some (.int q)) (wC G ad σ)) := K_intro (by decide) (Nat.le_of_ble_eq_true rfl) (v_X5_indexOfBest hd hf)
def f_X5_playNumbered_23 (σ : St) : Nat → Int32 → Int32 → Int32 → Int32 → Option Int32
  | 0, _, _, _, _ => none
  | n + 1, x1, x2, x3, x4 => if x2 ≤ x4 then (some x3) else (if x3 = (-1) then (some x3) else (bno (f_X5_nextPlay σ x1 (x3 + (1))) fun r1 => f_X5_playNumbered_23 σ n x1 x2 r1 (x4 + 1)))
set_option maxHeartbeats 4000000 in
set_option maxRecDepth 100000 in
theorem v_X5_playNumbered_23 {l : Launch} {G : Gv} {ad : Nat → Nat} {d : Nat} {av0 : List Value} {w1 : va_W} {q : Int32} {σ : St} (hd : 6 ≤ d) : ∀ (n : Nat) (x1 : Int32) (x2 : Int32) (x3 : Int32) (x4 : Int32), f_X5_playNumbered_23 σ n x1 x2 x3 x4 = some q → VV l G yX5_playNumbered cX5_playNumbered 5 (some .int) d 0 0 av0 w1 (pD (some (.int q)) (wC G ad σ)) 0 0 (wC G ad σ) 23 [(0, .ref (ad 11)), (1, .int x1), (2, .int x2), (3, .int x3), (4, .int x4)] [] := by
  intro n
  induction n with
  | zero =>
    intro x1 x2 x3 x4 hf
    cases hf
  | succ n ih =>
    intro x1 x2 x3 x4 hf
    rw [f_X5_playNumbered_23] at hf
    refine V_iload 4 rfl dX5_playNumbered_23 ?_
    refine V_iload_n 2 rfl dX5_playNumbered_25 rfl ?_
    refine V_icmp_ge 49 dX5_playNumbered_26 (by decide) (fun c1 => ?_) (fun c1 => ?_)
    · replace hf := (if_pos c1).symm.trans hf
      refine V_iload_n 3 rfl dX5_playNumbered_49 rfl ?_
      cases hf
      exact V_iret rfl dX5_playNumbered_50 ⟨rfl, rfl⟩
    · replace hf := (if_neg c1).symm.trans hf
      refine V_iload_n 3 rfl dX5_playNumbered_29 rfl ?_
      refine V_iconst (-1) dX5_playNumbered_30 (by decide) ?_
      refine V_icmp_eq 49 dX5_playNumbered_31 (by decide) (fun c2 => ?_) (fun c2 => ?_)
      · replace hf := (if_pos c2).symm.trans hf
        refine V_iload_n 3 rfl dX5_playNumbered_49 rfl ?_
        cases hf
        exact V_iret rfl dX5_playNumbered_50 ⟨rfl, rfl⟩
      · replace hf := (if_neg c2).symm.trans hf
        refine V_aload_n 0 rfl dX5_playNumbered_34 rfl ?_
        refine V_iload_n 1 rfl dX5_playNumbered_35 rfl ?_
        refine V_iload_n 3 rfl dX5_playNumbered_36 rfl ?_
        refine V_iconst 1 dX5_playNumbered_37 (by decide) ?_
        refine V_iadd dX5_playNumbered_38 ?_
        obtain ⟨r1, hr1, hf⟩ := bno_some hf
        refine V_cV (As := [.int x1, .int (x3 + (1))]) (rest := []) (k_X5_nextPlay (d := 5) (Nat.le_refl _) hr1) LB_X5_nextPlay lk_X5_136 (by omega) dX5_playNumbered_39 rfl rfl (Nat.le_of_ble_eq_true rfl) (Nat.le_refl _) (Nat.le_refl _) 11 rfl ⟨rfl, rfl⟩ [.int r1] rfl ?_
        refine V_istore_n [(0, .ref (ad 11)), (1, .int x1), (2, .int x2), (3, .int r1), (4, .int x4)] [1, 2, 3, 0, 4] dX5_playNumbered_42 rfl (by decide) rfl ?_
        refine V_iinc (1) 4 [(0, .ref (ad 11)), (1, .int x1), (2, .int x2), (3, .int r1), (4, .int (x4 + 1))] [1, 2, 3, 4, 0] dX5_playNumbered_43 rfl (by decide) (by decide) rfl ?_
        refine V_goto 23 dX5_playNumbered_46 (by decide) ?_
        exact ih _ _ _ _ hf
def f_X5_playNumbered (σ : St) (x1 : Int32) (x2 : Int32) : Option Int32 := if x2 < 0 then (some (-1)) else (if x2 < (4096) then (bno (f_X5_nextPlay σ x1 (0)) fun r1 => f_X5_playNumbered_23 σ FU x1 x2 r1 (0)) else (some (-1)))
set_option maxHeartbeats 4000000 in
set_option maxRecDepth 100000 in
theorem v_X5_playNumbered {l : Launch} {G : Gv} {ad : Nat → Nat} {d : Nat} {av0 : List Value} {w1 : va_W} {q : Int32} {σ : St} {x1 : Int32} {x2 : Int32} (hd : 6 ≤ d) (hf : f_X5_playNumbered σ x1 x2 = some q) : VV l G yX5_playNumbered cX5_playNumbered 5 (some .int) d 0 0 av0 w1 (pD (some (.int q)) (wC G ad σ)) 0 0 (wC G ad σ) 0 [(0, .ref (ad 11)), (1, .int x1), (2, .int x2)] [] := by
  unfold f_X5_playNumbered at hf
  refine V_iload_n 2 rfl dX5_playNumbered_0 rfl ?_
  refine V_if_lt 11 dX5_playNumbered_1 (by decide) (fun c1 => ?_) (fun c1 => ?_)
  · replace hf := (if_pos c1).symm.trans hf
    refine V_iconst (-1) dX5_playNumbered_11 (by decide) ?_
    cases hf
    exact V_iret rfl dX5_playNumbered_12 ⟨rfl, rfl⟩
  · replace hf := (if_neg c1).symm.trans hf
    refine V_iload_n 2 rfl dX5_playNumbered_4 rfl ?_
    refine V_sipush 4096 dX5_playNumbered_5 (by decide) ?_
    refine V_icmp_lt 13 dX5_playNumbered_8 (by decide) (fun c2 => ?_) (fun c2 => ?_)
    · replace hf := (if_pos c2).symm.trans hf
      refine V_aload_n 0 rfl dX5_playNumbered_13 rfl ?_
      refine V_iload_n 1 rfl dX5_playNumbered_14 rfl ?_
      refine V_iconst 0 dX5_playNumbered_15 (by decide) ?_
      obtain ⟨r1, hr1, hf⟩ := bno_some hf
      refine V_cV (As := [.int x1, .int (0)]) (rest := []) (k_X5_nextPlay (d := 5) (Nat.le_refl _) hr1) LB_X5_nextPlay lk_X5_136 (by omega) dX5_playNumbered_16 rfl rfl (Nat.le_of_ble_eq_true rfl) (Nat.le_refl _) (Nat.le_refl _) 11 rfl ⟨rfl, rfl⟩ [.int r1] rfl ?_
      refine V_istore_n [(0, .ref (ad 11)), (1, .int x1), (2, .int x2), (3, .int r1)] [1, 2, 3, 0] dX5_playNumbered_19 rfl (by decide) rfl ?_
      refine V_iconst 0 dX5_playNumbered_20 (by decide) ?_
      refine V_istore [(0, .ref (ad 11)), (1, .int x1), (2, .int x2), (3, .int r1), (4, .int (0))] [1, 2, 3, 4, 0] dX5_playNumbered_21 (by decide) rfl ?_
      exact v_X5_playNumbered_23 hd _ _ _ _ _ hf
    · replace hf := (if_neg c2).symm.trans hf
      refine V_iconst (-1) dX5_playNumbered_11 (by decide) ?_
      cases hf
      exact V_iret rfl dX5_playNumbered_12 ⟨rfl, rfl⟩
theorem k_X5_playNumbered {l : Launch} {G : Gv} {ad : Nat → Nat} {d : Nat} {σ : St} {q : Int32} {x1 : Int32} {x2 : Int32} (hd : 6 ≤ d) (hf : f_X5_playNumbered σ x1 x2 = some q) : K l G yX5_playNumbered cX5_playNumbered 5 (some .int) d 0 0 [.ref (ad 11), .int x1, .int x2] (wC G ad σ) (pD (some (.int q)) (wC G ad σ)) := K_intro (by decide) (Nat.le_of_ble_eq_true rfl) (v_X5_playNumbered hd hf)
