-- ===== METHODS, AND WHAT RULES ASK OF FIELDS AND CALLS (written by wip/mkok.py) =====
theorem am_mem (i : Nat) {w : Cond} (h1 : lw_tbl[i]? = some w) (h2 : goodWord w = true) : w ∈ am_tb := List.mem_filter.mpr ⟨List.mem_of_getElem? h1, h2⟩
theorem am_memN (i : Nat) {w : Cond} (h1 : lw_tbl[i]? = some w) (h2 : am_isN w = true) : w ∈ am_nw := List.mem_filter.mpr ⟨List.mem_of_getElem? h1, h2⟩
abbrev kX7_init : am_K := (yX7_init, cX7_init, 2, none)
set_option maxRecDepth 20000 in
theorem ok_X7_init : am_ok kX7_init := ⟨by decide +kernel, am_mem 68 rfl rfl, am_mem 52 rfl rfl, by decide, by decide, by decide⟩
abbrev kX0_init : am_K := (yX0_init, cX0_init, 1, none)
set_option maxRecDepth 20000 in
theorem ok_X0_init : am_ok kX0_init := ⟨by decide +kernel, am_mem 80 rfl rfl, am_mem 53 rfl rfl, by decide, by decide, by decide⟩
abbrev kX1_init : am_K := (yX1_init, cX1_init, 1, none)
set_option maxRecDepth 20000 in
theorem ok_X1_init : am_ok kX1_init := ⟨by decide +kernel, am_mem 125 rfl rfl, am_mem 54 rfl rfl, by decide, by decide, by decide⟩
abbrev kX2_init : am_K := (yX2_init, cX2_init, 2, none)
set_option maxRecDepth 20000 in
theorem ok_X2_init : am_ok kX2_init := ⟨by decide +kernel, am_mem 141 rfl rfl, am_mem 55 rfl rfl, by decide, by decide, by decide⟩
abbrev kX5_init : am_K := (yX5_init, cX5_init, 1, none)
set_option maxRecDepth 20000 in
theorem ok_X5_init : am_ok kX5_init := ⟨by decide +kernel, am_mem 166 rfl rfl, am_mem 56 rfl rfl, by decide, by decide, by decide⟩
abbrev kX4_init : am_K := (yX4_init, cX4_init, 1, none)
set_option maxRecDepth 20000 in
theorem ok_X4_init : am_ok kX4_init := ⟨by decide +kernel, am_mem 181 rfl rfl, am_mem 57 rfl rfl, by decide, by decide, by decide⟩
abbrev kX6_init : am_K := (yX6_init, cX6_init, 1, none)
set_option maxRecDepth 20000 in
theorem ok_X6_init : am_ok kX6_init := ⟨by decide +kernel, am_mem 197 rfl rfl, am_mem 58 rfl rfl, by decide, by decide, by decide⟩
abbrev kX7_row : am_K := (yX7_row, cX7_row, 3, (some .int))
set_option maxRecDepth 20000 in
theorem ok_X7_row : am_ok kX7_row := ⟨by decide +kernel, am_mem 262 rfl rfl, am_mem 52 rfl rfl, by decide, by decide, by decide⟩
abbrev kX7_isRow : am_K := (yX7_isRow, cX7_isRow, 1, (some .boolean))
set_option maxRecDepth 20000 in
theorem ok_X7_isRow : am_ok kX7_isRow := ⟨by decide +kernel, am_mem 265 rfl rfl, am_mem 52 rfl rfl, by decide, by decide, by decide⟩
abbrev kX7_found : am_K := (yX7_found, cX7_found, 2, (some .int))
set_option maxRecDepth 20000 in
theorem ok_X7_found : am_ok kX7_found := ⟨by decide +kernel, am_mem 269 rfl rfl, am_mem 52 rfl rfl, by decide, by decide, by decide⟩
abbrev kX4_begin : am_K := (yX4_begin, cX4_begin, 3, none)
set_option maxRecDepth 20000 in
theorem ok_X4_begin : am_ok kX4_begin := ⟨by decide +kernel, am_mem 273 rfl rfl, am_mem 57 rfl rfl, by decide, by decide, by decide⟩
abbrev kX7_lay : am_K := (yX7_lay, cX7_lay, 5, (some .int))
set_option maxRecDepth 20000 in
theorem ok_X7_lay : am_ok kX7_lay := ⟨by decide +kernel, am_mem 277 rfl rfl, am_mem 52 rfl rfl, by decide, by decide, by decide⟩
abbrev kX7_placeRefused : am_K := (yX7_placeRefused, cX7_placeRefused, 4, (some .int))
set_option maxRecDepth 20000 in
theorem ok_X7_placeRefused : am_ok kX7_placeRefused := ⟨by decide +kernel, am_mem 281 rfl rfl, am_mem 52 rfl rfl, by decide, by decide, by decide⟩
abbrev kX7_rowRefused : am_K := (yX7_rowRefused, cX7_rowRefused, 2, (some .int))
set_option maxRecDepth 20000 in
theorem ok_X7_rowRefused : am_ok kX7_rowRefused := ⟨by decide +kernel, am_mem 285 rfl rfl, am_mem 52 rfl rfl, by decide, by decide, by decide⟩
abbrev kX4_isMissing : am_K := (yX4_isMissing, cX4_isMissing, 1, (some .boolean))
set_option maxRecDepth 20000 in
theorem ok_X4_isMissing : am_ok kX4_isMissing := ⟨by decide +kernel, am_mem 289 rfl rfl, am_mem 57 rfl rfl, by decide, by decide, by decide⟩
abbrev kX7_at : am_K := (yX7_at, cX7_at, 4, (some .int))
set_option maxRecDepth 20000 in
theorem ok_X7_at : am_ok kX7_at := ⟨by decide +kernel, am_mem 293 rfl rfl, am_mem 52 rfl rfl, by decide, by decide, by decide⟩
abbrev kX7_tear : am_K := (yX7_tear, cX7_tear, 3, (some .int))
set_option maxRecDepth 20000 in
theorem ok_X7_tear : am_ok kX7_tear := ⟨by decide +kernel, am_mem 297 rfl rfl, am_mem 52 rfl rfl, by decide, by decide, by decide⟩
abbrev kX7_copy : am_K := (yX7_copy, cX7_copy, 6, (some .int))
set_option maxRecDepth 20000 in
theorem ok_X7_copy : am_ok kX7_copy := ⟨by decide +kernel, am_mem 301 rfl rfl, am_mem 52 rfl rfl, by decide, by decide, by decide⟩
abbrev kX4_holds : am_K := (yX4_holds, cX4_holds, 3, (some .boolean))
set_option maxRecDepth 20000 in
theorem ok_X4_holds : am_ok kX4_holds := ⟨by decide +kernel, am_mem 305 rfl rfl, am_mem 57 rfl rfl, by decide, by decide, by decide⟩
abbrev kX7_mean : am_K := (yX7_mean, cX7_mean, 6, (some .int))
set_option maxRecDepth 20000 in
theorem ok_X7_mean : am_ok kX7_mean := ⟨by decide +kernel, am_mem 312 rfl rfl, am_mem 52 rfl rfl, by decide, by decide, by decide⟩
abbrev kX7_text : am_K := (yX7_text, cX7_text, 3, (some .int))
set_option maxRecDepth 20000 in
theorem ok_X7_text : am_ok kX7_text := ⟨by decide +kernel, am_mem 316 rfl rfl, am_mem 52 rfl rfl, by decide, by decide, by decide⟩
abbrev kX7_isText : am_K := (yX7_isText, cX7_isText, 1, (some .boolean))
set_option maxRecDepth 20000 in
theorem ok_X7_isText : am_ok kX7_isText := ⟨by decide +kernel, am_mem 319 rfl rfl, am_mem 52 rfl rfl, by decide, by decide, by decide⟩
abbrev kX6_begin : am_K := (yX6_begin, cX6_begin, 3, none)
set_option maxRecDepth 20000 in
theorem ok_X6_begin : am_ok kX6_begin := ⟨by decide +kernel, am_mem 323 rfl rfl, am_mem 58 rfl rfl, by decide, by decide, by decide⟩
abbrev kX7_put : am_K := (yX7_put, cX7_put, 6, (some .int))
set_option maxRecDepth 20000 in
theorem ok_X7_put : am_ok kX7_put := ⟨by decide +kernel, am_mem 327 rfl rfl, am_mem 52 rfl rfl, by decide, by decide, by decide⟩
abbrev kX7_textRefused : am_K := (yX7_textRefused, cX7_textRefused, 2, (some .int))
set_option maxRecDepth 20000 in
theorem ok_X7_textRefused : am_ok kX7_textRefused := ⟨by decide +kernel, am_mem 331 rfl rfl, am_mem 52 rfl rfl, by decide, by decide, by decide⟩
abbrev kX6_isMissing : am_K := (yX6_isMissing, cX6_isMissing, 1, (some .boolean))
set_option maxRecDepth 20000 in
theorem ok_X6_isMissing : am_ok kX6_isMissing := ⟨by decide +kernel, am_mem 335 rfl rfl, am_mem 58 rfl rfl, by decide, by decide, by decide⟩
abbrev kX7_fault : am_K := (yX7_fault, cX7_fault, 3, (some .int))
set_option maxRecDepth 20000 in
theorem ok_X7_fault : am_ok kX7_fault := ⟨by decide +kernel, am_mem 339 rfl rfl, am_mem 52 rfl rfl, by decide, by decide, by decide⟩
abbrev kX3_read : am_K := (yX3_read, cX3_read, 5, (some .int))
set_option maxRecDepth 20000 in
theorem ok_X3_read : am_ok kX3_read := ⟨by decide +kernel, am_mem 342 rfl rfl, am_mem 61 rfl rfl, by decide, by decide, by decide⟩
abbrev kX6_pastBlanks : am_K := (yX6_pastBlanks, cX6_pastBlanks, 3, (some .int))
set_option maxRecDepth 20000 in
theorem ok_X6_pastBlanks : am_ok kX6_pastBlanks := ⟨by decide +kernel, am_mem 346 rfl rfl, am_mem 58 rfl rfl, by decide, by decide, by decide⟩
abbrev kX6_isFigure : am_K := (yX6_isFigure, cX6_isFigure, 3, (some .boolean))
set_option maxRecDepth 20000 in
theorem ok_X6_isFigure : am_ok kX6_isFigure := ⟨by decide +kernel, am_mem 350 rfl rfl, am_mem 58 rfl rfl, by decide, by decide, by decide⟩
abbrev kX6_figure : am_K := (yX6_figure, cX6_figure, 2, (some .int))
set_option maxRecDepth 20000 in
theorem ok_X6_figure : am_ok kX6_figure := ⟨by decide +kernel, am_mem 354 rfl rfl, am_mem 58 rfl rfl, by decide, by decide, by decide⟩
abbrev kX0_begin : am_K := (yX0_begin, cX0_begin, 2, none)
set_option maxRecDepth 20000 in
theorem ok_X0_begin : am_ok kX0_begin := ⟨by decide +kernel, am_mem 358 rfl rfl, am_mem 53 rfl rfl, by decide, by decide, by decide⟩
abbrev kX3_faultOfDrum : am_K := (yX3_faultOfDrum, cX3_faultOfDrum, 2, (some .int))
set_option maxRecDepth 20000 in
theorem ok_X3_faultOfDrum : am_ok kX3_faultOfDrum := ⟨by decide +kernel, am_mem 361 rfl rfl, am_mem 61 rfl rfl, by decide, by decide, by decide⟩
abbrev kX6_kind : am_K := (yX6_kind, cX6_kind, 3, (some .int))
set_option maxRecDepth 20000 in
theorem ok_X6_kind : am_ok kX6_kind := ⟨by decide +kernel, am_mem 365 rfl rfl, am_mem 58 rfl rfl, by decide, by decide, by decide⟩
abbrev kX0_addDrum : am_K := (yX0_addDrum, cX0_addDrum, 4, none)
set_option maxRecDepth 20000 in
theorem ok_X0_addDrum : am_ok kX0_addDrum := ⟨by decide +kernel, am_mem 371 rfl rfl, am_mem 53 rfl rfl, by decide, by decide, by decide⟩
abbrev kX7_board : am_K := (yX7_board, cX7_board, 4, (some .int))
set_option maxRecDepth 20000 in
theorem ok_X7_board : am_ok kX7_board := ⟨by decide +kernel, am_mem 375 rfl rfl, am_mem 52 rfl rfl, by decide, by decide, by decide⟩
abbrev kX0_become : am_K := (yX0_become, cX0_become, 2, none)
set_option maxRecDepth 20000 in
theorem ok_X0_become : am_ok kX0_become := ⟨by decide +kernel, am_mem 379 rfl rfl, am_mem 53 rfl rfl, by decide, by decide, by decide⟩
abbrev kX7_doAgain : am_K := (yX7_doAgain, cX7_doAgain, 3, none)
set_option maxRecDepth 20000 in
theorem ok_X7_doAgain : am_ok kX7_doAgain := ⟨by decide +kernel, am_mem 384 rfl rfl, am_mem 52 rfl rfl, by decide, by decide, by decide⟩
abbrev kX0_carryOut : am_K := (yX0_carryOut, cX0_carryOut, 3, none)
set_option maxRecDepth 20000 in
theorem ok_X0_carryOut : am_ok kX0_carryOut := ⟨by decide +kernel, am_mem 388 rfl rfl, am_mem 53 rfl rfl, by decide, by decide, by decide⟩
abbrev kX1_drumOf : am_K := (yX1_drumOf, cX1_drumOf, 1, (some .int))
set_option maxRecDepth 20000 in
theorem ok_X1_drumOf : am_ok kX1_drumOf := ⟨by decide +kernel, am_mem 391 rfl rfl, am_mem 54 rfl rfl, by decide, by decide, by decide⟩
abbrev kX1_whatOf : am_K := (yX1_whatOf, cX1_whatOf, 1, (some .int))
set_option maxRecDepth 20000 in
theorem ok_X1_whatOf : am_ok kX1_whatOf := ⟨by decide +kernel, am_mem 394 rfl rfl, am_mem 54 rfl rfl, by decide, by decide, by decide⟩
abbrev kX0_step : am_K := (yX0_step, cX0_step, 3, none)
set_option maxRecDepth 20000 in
theorem ok_X0_step : am_ok kX0_step := ⟨by decide +kernel, am_mem 398 rfl rfl, am_mem 53 rfl rfl, by decide, by decide, by decide⟩
abbrev kX0_isReady : am_K := (yX0_isReady, cX0_isReady, 2, (some .boolean))
set_option maxRecDepth 20000 in
theorem ok_X0_isReady : am_ok kX0_isReady := ⟨by decide +kernel, am_mem 402 rfl rfl, am_mem 53 rfl rfl, by decide, by decide, by decide⟩
abbrev kX0_isDue : am_K := (yX0_isDue, cX0_isDue, 2, (some .boolean))
set_option maxRecDepth 20000 in
theorem ok_X0_isDue : am_ok kX0_isDue := ⟨by decide +kernel, am_mem 406 rfl rfl, am_mem 53 rfl rfl, by decide, by decide, by decide⟩
abbrev kX0_isJammed : am_K := (yX0_isJammed, cX0_isJammed, 2, (some .boolean))
set_option maxRecDepth 20000 in
theorem ok_X0_isJammed : am_ok kX0_isJammed := ⟨by decide +kernel, am_mem 410 rfl rfl, am_mem 53 rfl rfl, by decide, by decide, by decide⟩
abbrev kX0_afterTurn : am_K := (yX0_afterTurn, cX0_afterTurn, 3, (some .int))
set_option maxRecDepth 20000 in
theorem ok_X0_afterTurn : am_ok kX0_afterTurn := ⟨by decide +kernel, am_mem 414 rfl rfl, am_mem 53 rfl rfl, by decide, by decide, by decide⟩
abbrev kX0_skippedFrom : am_K := (yX0_skippedFrom, cX0_skippedFrom, 4, (some .int))
set_option maxRecDepth 20000 in
theorem ok_X0_skippedFrom : am_ok kX0_skippedFrom := ⟨by decide +kernel, am_mem 418 rfl rfl, am_mem 53 rfl rfl, by decide, by decide, by decide⟩
abbrev kX1_valueOf : am_K := (yX1_valueOf, cX1_valueOf, 1, (some .int))
set_option maxRecDepth 20000 in
theorem ok_X1_valueOf : am_ok kX1_valueOf := ⟨by decide +kernel, am_mem 421 rfl rfl, am_mem 54 rfl rfl, by decide, by decide, by decide⟩
abbrev kX7_drum : am_K := (yX7_drum, cX7_drum, 3, (some .int))
set_option maxRecDepth 20000 in
theorem ok_X7_drum : am_ok kX7_drum := ⟨by decide +kernel, am_mem 425 rfl rfl, am_mem 52 rfl rfl, by decide, by decide, by decide⟩
abbrev kX7_isDrum : am_K := (yX7_isDrum, cX7_isDrum, 2, (some .boolean))
set_option maxRecDepth 20000 in
theorem ok_X7_isDrum : am_ok kX7_isDrum := ⟨by decide +kernel, am_mem 429 rfl rfl, am_mem 52 rfl rfl, by decide, by decide, by decide⟩
abbrev kX7_drumFact : am_K := (yX7_drumFact, cX7_drumFact, 3, (some .int))
set_option maxRecDepth 20000 in
theorem ok_X7_drumFact : am_ok kX7_drumFact := ⟨by decide +kernel, am_mem 433 rfl rfl, am_mem 52 rfl rfl, by decide, by decide, by decide⟩
abbrev kX7_mark : am_K := (yX7_mark, cX7_mark, 3, (some .int))
set_option maxRecDepth 20000 in
theorem ok_X7_mark : am_ok kX7_mark := ⟨by decide +kernel, am_mem 440 rfl rfl, am_mem 52 rfl rfl, by decide, by decide, by decide⟩
abbrev kX7_isOf : am_K := (yX7_isOf, cX7_isOf, 2, (some .boolean))
set_option maxRecDepth 20000 in
theorem ok_X7_isOf : am_ok kX7_isOf := ⟨by decide +kernel, am_mem 443 rfl rfl, am_mem 52 rfl rfl, by decide, by decide, by decide⟩
abbrev kX7_dueTicks : am_K := (yX7_dueTicks, cX7_dueTicks, 5, (some .int))
set_option maxRecDepth 20000 in
theorem ok_X7_dueTicks : am_ok kX7_dueTicks := ⟨by decide +kernel, am_mem 447 rfl rfl, am_mem 52 rfl rfl, by decide, by decide, by decide⟩
abbrev kX7_figuresNeverShown : am_K := (yX7_figuresNeverShown, cX7_figuresNeverShown, 4, (some .int))
set_option maxRecDepth 20000 in
theorem ok_X7_figuresNeverShown : am_ok kX7_figuresNeverShown := ⟨by decide +kernel, am_mem 452 rfl rfl, am_mem 52 rfl rfl, by decide, by decide, by decide⟩
abbrev kJ6_bitCount_0f7a4 : am_K := (yJ6_bitCount_0f7a4, cJ6_bitCount_0f7a4, 1, (some .int))
set_option maxRecDepth 20000 in
theorem ok_J6_bitCount_0f7a4 : am_ok kJ6_bitCount_0f7a4 := ⟨by decide +kernel, am_mem 455 rfl rfl, am_mem 62 rfl rfl, by decide, by decide, by decide⟩
abbrev kJ9_floorMod_7cf53 : am_K := (yJ9_floorMod_7cf53, cJ9_floorMod_7cf53, 3, (some .int))
set_option maxRecDepth 20000 in
theorem ok_J9_floorMod_7cf53 : am_ok kJ9_floorMod_7cf53 := ⟨by decide +kernel, am_mem 461 rfl rfl, am_mem 63 rfl rfl, by decide, by decide, by decide⟩
abbrev kX7_tick : am_K := (yX7_tick, cX7_tick, 2, (some .int))
set_option maxRecDepth 20000 in
theorem ok_X7_tick : am_ok kX7_tick := ⟨by decide +kernel, am_mem 465 rfl rfl, am_mem 52 rfl rfl, by decide, by decide, by decide⟩
abbrev kX1_isFull : am_K := (yX1_isFull, cX1_isFull, 2, (some .boolean))
set_option maxRecDepth 20000 in
theorem ok_X1_isFull : am_ok kX1_isFull := ⟨by decide +kernel, am_mem 469 rfl rfl, am_mem 54 rfl rfl, by decide, by decide, by decide⟩
abbrev kX7_carryOut : am_K := (yX7_carryOut, cX7_carryOut, 5, none)
set_option maxRecDepth 20000 in
theorem ok_X7_carryOut : am_ok kX7_carryOut := ⟨by decide +kernel, am_mem 473 rfl rfl, am_mem 52 rfl rfl, by decide, by decide, by decide⟩
abbrev kX1_packed : am_K := (yX1_packed, cX1_packed, 3, (some .int))
set_option maxRecDepth 20000 in
theorem ok_X1_packed : am_ok kX1_packed := ⟨by decide +kernel, am_mem 476 rfl rfl, am_mem 54 rfl rfl, by decide, by decide, by decide⟩
abbrev kX1_add : am_K := (yX1_add, cX1_add, 2, none)
set_option maxRecDepth 20000 in
theorem ok_X1_add : am_ok kX1_add := ⟨by decide +kernel, am_mem 480 rfl rfl, am_mem 54 rfl rfl, by decide, by decide, by decide⟩
abbrev kX7_aim : am_K := (yX7_aim, cX7_aim, 4, (some .int))
set_option maxRecDepth 20000 in
theorem ok_X7_aim : am_ok kX7_aim := ⟨by decide +kernel, am_mem 484 rfl rfl, am_mem 52 rfl rfl, by decide, by decide, by decide⟩
abbrev kX7_power : am_K := (yX7_power, cX7_power, 3, (some .int))
set_option maxRecDepth 20000 in
theorem ok_X7_power : am_ok kX7_power := ⟨by decide +kernel, am_mem 488 rfl rfl, am_mem 52 rfl rfl, by decide, by decide, by decide⟩
abbrev kX7_jam : am_K := (yX7_jam, cX7_jam, 2, (some .int))
set_option maxRecDepth 20000 in
theorem ok_X7_jam : am_ok kX7_jam := ⟨by decide +kernel, am_mem 492 rfl rfl, am_mem 52 rfl rfl, by decide, by decide, by decide⟩
abbrev kX7_undo : am_K := (yX7_undo, cX7_undo, 3, (some .int))
set_option maxRecDepth 20000 in
theorem ok_X7_undo : am_ok kX7_undo := ⟨by decide +kernel, am_mem 496 rfl rfl, am_mem 52 rfl rfl, by decide, by decide, by decide⟩
abbrev kX7_keep : am_K := (yX7_keep, cX7_keep, 2, (some .int))
set_option maxRecDepth 20000 in
theorem ok_X7_keep : am_ok kX7_keep := ⟨by decide +kernel, am_mem 500 rfl rfl, am_mem 52 rfl rfl, by decide, by decide, by decide⟩
abbrev kX1_become : am_K := (yX1_become, cX1_become, 2, none)
set_option maxRecDepth 20000 in
theorem ok_X1_become : am_ok kX1_become := ⟨by decide +kernel, am_mem 504 rfl rfl, am_mem 54 rfl rfl, by decide, by decide, by decide⟩
abbrev kX7_on : am_K := (yX7_on, cX7_on, 2, (some .int))
set_option maxRecDepth 20000 in
theorem ok_X7_on : am_ok kX7_on := ⟨by decide +kernel, am_mem 509 rfl rfl, am_mem 52 rfl rfl, by decide, by decide, by decide⟩
abbrev kX7_later : am_K := (yX7_later, cX7_later, 2, (some .int))
set_option maxRecDepth 20000 in
theorem ok_X7_later : am_ok kX7_later := ⟨by decide +kernel, am_mem 513 rfl rfl, am_mem 52 rfl rfl, by decide, by decide, by decide⟩
abbrev kX0_stepOn : am_K := (yX0_stepOn, cX0_stepOn, 3, none)
set_option maxRecDepth 20000 in
theorem ok_X0_stepOn : am_ok kX0_stepOn := ⟨by decide +kernel, am_mem 517 rfl rfl, am_mem 53 rfl rfl, by decide, by decide, by decide⟩
abbrev kX0_number : am_K := (yX0_number, cX0_number, 3, (some .int))
set_option maxRecDepth 20000 in
theorem ok_X0_number : am_ok kX0_number := ⟨by decide +kernel, am_mem 521 rfl rfl, am_mem 53 rfl rfl, by decide, by decide, by decide⟩
abbrev kX7_ends : am_K := (yX7_ends, cX7_ends, 2, (some .int))
set_option maxRecDepth 20000 in
theorem ok_X7_ends : am_ok kX7_ends := ⟨by decide +kernel, am_mem 525 rfl rfl, am_mem 52 rfl rfl, by decide, by decide, by decide⟩
abbrev kX0_ticksTillTold : am_K := (yX0_ticksTillTold, cX0_ticksTillTold, 3, (some .int))
set_option maxRecDepth 20000 in
theorem ok_X0_ticksTillTold : am_ok kX0_ticksTillTold := ⟨by decide +kernel, am_mem 529 rfl rfl, am_mem 53 rfl rfl, by decide, by decide, by decide⟩
abbrev kX0_rightOnes : am_K := (yX0_rightOnes, cX0_rightOnes, 3, (some .int))
set_option maxRecDepth 20000 in
theorem ok_X0_rightOnes : am_ok kX0_rightOnes := ⟨by decide +kernel, am_mem 533 rfl rfl, am_mem 53 rfl rfl, by decide, by decide, by decide⟩
abbrev kX0_isTold : am_K := (yX0_isTold, cX0_isTold, 2, (some .boolean))
set_option maxRecDepth 20000 in
theorem ok_X0_isTold : am_ok kX0_isTold := ⟨by decide +kernel, am_mem 537 rfl rfl, am_mem 53 rfl rfl, by decide, by decide, by decide⟩
abbrev kX7_passes : am_K := (yX7_passes, cX7_passes, 5, (some .int))
set_option maxRecDepth 20000 in
theorem ok_X7_passes : am_ok kX7_passes := ⟨by decide +kernel, am_mem 541 rfl rfl, am_mem 52 rfl rfl, by decide, by decide, by decide⟩
abbrev kJ9_max_7cf53 : am_K := (yJ9_max_7cf53, cJ9_max_7cf53, 2, (some .int))
set_option maxRecDepth 20000 in
theorem ok_J9_max_7cf53 : am_ok kJ9_max_7cf53 := ⟨by decide +kernel, am_mem 546 rfl rfl, am_mem 63 rfl rfl, by decide, by decide, by decide⟩
abbrev kX7_isAmongNumbers : am_K := (yX7_isAmongNumbers, cX7_isAmongNumbers, 4, (some .boolean))
set_option maxRecDepth 20000 in
theorem ok_X7_isAmongNumbers : am_ok kX7_isAmongNumbers := ⟨by decide +kernel, am_mem 550 rfl rfl, am_mem 52 rfl rfl, by decide, by decide, by decide⟩
abbrev kX7_least : am_K := (yX7_least, cX7_least, 3, (some .int))
set_option maxRecDepth 20000 in
theorem ok_X7_least : am_ok kX7_least := ⟨by decide +kernel, am_mem 554 rfl rfl, am_mem 52 rfl rfl, by decide, by decide, by decide⟩
abbrev kX7_ticksByPower : am_K := (yX7_ticksByPower, cX7_ticksByPower, 2, (some .int))
set_option maxRecDepth 20000 in
theorem ok_X7_ticksByPower : am_ok kX7_ticksByPower := ⟨by decide +kernel, am_mem 558 rfl rfl, am_mem 52 rfl rfl, by decide, by decide, by decide⟩
abbrev kX7_soonest : am_K := (yX7_soonest, cX7_soonest, 7, (some .int))
set_option maxRecDepth 20000 in
theorem ok_X7_soonest : am_ok kX7_soonest := ⟨by decide +kernel, am_mem 562 rfl rfl, am_mem 52 rfl rfl, by decide, by decide, by decide⟩
abbrev kX7_messagesRefused : am_K := (yX7_messagesRefused, cX7_messagesRefused, 2, (some .int))
set_option maxRecDepth 20000 in
theorem ok_X7_messagesRefused : am_ok kX7_messagesRefused := ⟨by decide +kernel, am_mem 566 rfl rfl, am_mem 52 rfl rfl, by decide, by decide, by decide⟩
abbrev kX7_raised : am_K := (yX7_raised, cX7_raised, 4, (some .int))
set_option maxRecDepth 20000 in
theorem ok_X7_raised : am_ok kX7_raised := ⟨by decide +kernel, am_mem 569 rfl rfl, am_mem 52 rfl rfl, by decide, by decide, by decide⟩
abbrev kX4_isWithin : am_K := (yX4_isWithin, cX4_isWithin, 3, (some .boolean))
set_option maxRecDepth 20000 in
theorem ok_X4_isWithin : am_ok kX4_isWithin := ⟨by decide +kernel, am_mem 573 rfl rfl, am_mem 57 rfl rfl, by decide, by decide, by decide⟩
abbrev kX0_aimAt : am_K := (yX0_aimAt, cX0_aimAt, 4, none)
set_option maxRecDepth 20000 in
theorem ok_X0_aimAt : am_ok kX0_aimAt := ⟨by decide +kernel, am_mem 577 rfl rfl, am_mem 53 rfl rfl, by decide, by decide, by decide⟩
abbrev kX7_order : am_K := (yX7_order, cX7_order, 6, (some .int))
set_option maxRecDepth 20000 in
theorem ok_X7_order : am_ok kX7_order := ⟨by decide +kernel, am_mem 581 rfl rfl, am_mem 52 rfl rfl, by decide, by decide, by decide⟩
abbrev kX2_search : am_K := (yX2_search, cX2_search, 3, (some .int))
set_option maxRecDepth 20000 in
theorem ok_X2_search : am_ok kX2_search := ⟨by decide +kernel, am_mem 585 rfl rfl, am_mem 55 rfl rfl, by decide, by decide, by decide⟩
abbrev kX2_goOn : am_K := (yX2_goOn, cX2_goOn, 8, none)
set_option maxRecDepth 20000 in
theorem ok_X2_goOn : am_ok kX2_goOn := ⟨by decide +kernel, am_mem 590 rfl rfl, am_mem 55 rfl rfl, by decide, by decide, by decide⟩
abbrev kX7_kinds : am_K := (yX7_kinds, cX7_kinds, 4, (some .int))
set_option maxRecDepth 20000 in
theorem ok_X7_kinds : am_ok kX7_kinds := ⟨by decide +kernel, am_mem 597 rfl rfl, am_mem 52 rfl rfl, by decide, by decide, by decide⟩
abbrev kX7_showedRefused : am_K := (yX7_showedRefused, cX7_showedRefused, 3, (some .int))
set_option maxRecDepth 20000 in
theorem ok_X7_showedRefused : am_ok kX7_showedRefused := ⟨by decide +kernel, am_mem 601 rfl rfl, am_mem 52 rfl rfl, by decide, by decide, by decide⟩
abbrev kX7_kindsThatShowed : am_K := (yX7_kindsThatShowed, cX7_kindsThatShowed, 5, (some .int))
set_option maxRecDepth 20000 in
theorem ok_X7_kindsThatShowed : am_ok kX7_kindsThatShowed := ⟨by decide +kernel, am_mem 605 rfl rfl, am_mem 52 rfl rfl, by decide, by decide, by decide⟩
abbrev kX7_wouldHaveShown : am_K := (yX7_wouldHaveShown, cX7_wouldHaveShown, 6, (some .boolean))
set_option maxRecDepth 20000 in
theorem ok_X7_wouldHaveShown : am_ok kX7_wouldHaveShown := ⟨by decide +kernel, am_mem 609 rfl rfl, am_mem 52 rfl rfl, by decide, by decide, by decide⟩
abbrev kX7_marks : am_K := (yX7_marks, cX7_marks, 6, (some .int))
set_option maxRecDepth 20000 in
theorem ok_X7_marks : am_ok kX7_marks := ⟨by decide +kernel, am_mem 613 rfl rfl, am_mem 52 rfl rfl, by decide, by decide, by decide⟩
abbrev kX7_test : am_K := (yX7_test, cX7_test, 9, (some .int))
set_option maxRecDepth 20000 in
theorem ok_X7_test : am_ok kX7_test := ⟨by decide +kernel, am_mem 617 rfl rfl, am_mem 52 rfl rfl, by decide, by decide, by decide⟩
abbrev kX7_lookAhead : am_K := (yX7_lookAhead, cX7_lookAhead, 5, none)
set_option maxRecDepth 20000 in
theorem ok_X7_lookAhead : am_ok kX7_lookAhead := ⟨by decide +kernel, am_mem 621 rfl rfl, am_mem 52 rfl rfl, by decide, by decide, by decide⟩
abbrev kX7_greatestPart : am_K := (yX7_greatestPart, cX7_greatestPart, 7, (some .int))
set_option maxRecDepth 20000 in
theorem ok_X7_greatestPart : am_ok kX7_greatestPart := ⟨by decide +kernel, am_mem 625 rfl rfl, am_mem 52 rfl rfl, by decide, by decide, by decide⟩
abbrev kX7_duel : am_K := (yX7_duel, cX7_duel, 2, (some .int))
set_option maxRecDepth 20000 in
theorem ok_X7_duel : am_ok kX7_duel := ⟨by decide +kernel, am_mem 629 rfl rfl, am_mem 52 rfl rfl, by decide, by decide, by decide⟩
abbrev kX7_latestByAiming : am_K := (yX7_latestByAiming, cX7_latestByAiming, 6, (some .int))
set_option maxRecDepth 20000 in
theorem ok_X7_latestByAiming : am_ok kX7_latestByAiming := ⟨by decide +kernel, am_mem 633 rfl rfl, am_mem 52 rfl rfl, by decide, by decide, by decide⟩
abbrev kX7_soonestByAiming : am_K := (yX7_soonestByAiming, cX7_soonestByAiming, 5, (some .int))
set_option maxRecDepth 20000 in
theorem ok_X7_soonestByAiming : am_ok kX7_soonestByAiming := ⟨by decide +kernel, am_mem 637 rfl rfl, am_mem 52 rfl rfl, by decide, by decide, by decide⟩
abbrev kX7_odds : am_K := (yX7_odds, cX7_odds, 7, (some .int))
set_option maxRecDepth 20000 in
theorem ok_X7_odds : am_ok kX7_odds := ⟨by decide +kernel, am_mem 641 rfl rfl, am_mem 52 rfl rfl, by decide, by decide, by decide⟩
abbrev kX7_areChances : am_K := (yX7_areChances, cX7_areChances, 2, (some .boolean))
set_option maxRecDepth 20000 in
theorem ok_X7_areChances : am_ok kX7_areChances := ⟨by decide +kernel, am_mem 644 rfl rfl, am_mem 52 rfl rfl, by decide, by decide, by decide⟩
abbrev kX7_weighRightOnes : am_K := (yX7_weighRightOnes, cX7_weighRightOnes, 6, none)
set_option maxRecDepth 20000 in
theorem ok_X7_weighRightOnes : am_ok kX7_weighRightOnes := ⟨by decide +kernel, am_mem 648 rfl rfl, am_mem 52 rfl rfl, by decide, by decide, by decide⟩
abbrev kX7_freeOnes : am_K := (yX7_freeOnes, cX7_freeOnes, 1, (some .int))
set_option maxRecDepth 20000 in
theorem ok_X7_freeOnes : am_ok kX7_freeOnes := ⟨by decide +kernel, am_mem 652 rfl rfl, am_mem 52 rfl rfl, by decide, by decide, by decide⟩
abbrev kX7_weightOfAll : am_K := (yX7_weightOfAll, cX7_weightOfAll, 1, (some .long))
set_option maxRecDepth 20000 in
theorem ok_X7_weightOfAll : am_ok kX7_weightOfAll := ⟨by decide +kernel, am_mem 657 rfl rfl, am_mem 52 rfl rfl, by decide, by decide, by decide⟩
abbrev kX5_tell : am_K := (yX5_tell, cX5_tell, 7, none)
set_option maxRecDepth 20000 in
theorem ok_X5_tell : am_ok kX5_tell := ⟨by decide +kernel, am_mem 661 rfl rfl, am_mem 56 rfl rfl, by decide, by decide, by decide⟩
abbrev kX5_commonDivisor : am_K := (yX5_commonDivisor, cX5_commonDivisor, 11, (some .long))
set_option maxRecDepth 20000 in
theorem ok_X5_commonDivisor : am_ok kX5_commonDivisor := ⟨by decide +kernel, am_mem 664 rfl rfl, am_mem 56 rfl rfl, by decide, by decide, by decide⟩
abbrev kX7_mid : am_K := (yX7_mid, cX7_mid, 6, (some .int))
set_option maxRecDepth 20000 in
theorem ok_X7_mid : am_ok kX7_mid := ⟨by decide +kernel, am_mem 668 rfl rfl, am_mem 52 rfl rfl, by decide, by decide, by decide⟩
abbrev kX7_lots : am_K := (yX7_lots, cX7_lots, 6, (some .int))
set_option maxRecDepth 20000 in
theorem ok_X7_lots : am_ok kX7_lots := ⟨by decide +kernel, am_mem 672 rfl rfl, am_mem 52 rfl rfl, by decide, by decide, by decide⟩
abbrev kX7_carryOutLot : am_K := (yX7_carryOutLot, cX7_carryOutLot, 5, none)
set_option maxRecDepth 20000 in
theorem ok_X7_carryOutLot : am_ok kX7_carryOutLot := ⟨by decide +kernel, am_mem 678 rfl rfl, am_mem 52 rfl rfl, by decide, by decide, by decide⟩
abbrev kX7_asked : am_K := (yX7_asked, cX7_asked, 1, (some .int))
set_option maxRecDepth 20000 in
theorem ok_X7_asked : am_ok kX7_asked := ⟨by decide +kernel, am_mem 685 rfl rfl, am_mem 52 rfl rfl, by decide, by decide, by decide⟩
abbrev kX7_upper : am_K := (yX7_upper, cX7_upper, 1, (some .long))
set_option maxRecDepth 20000 in
theorem ok_X7_upper : am_ok kX7_upper := ⟨by decide +kernel, am_mem 689 rfl rfl, am_mem 52 rfl rfl, by decide, by decide, by decide⟩
abbrev kX7_lower : am_K := (yX7_lower, cX7_lower, 1, (some .long))
set_option maxRecDepth 20000 in
theorem ok_X7_lower : am_ok kX7_lower := ⟨by decide +kernel, am_mem 693 rfl rfl, am_mem 52 rfl rfl, by decide, by decide, by decide⟩
abbrev kX7_count : am_K := (yX7_count, cX7_count, 2, (some .int))
set_option maxRecDepth 20000 in
theorem ok_X7_count : am_ok kX7_count := ⟨by decide +kernel, am_mem 697 rfl rfl, am_mem 52 rfl rfl, by decide, by decide, by decide⟩
abbrev kX7_countOf : am_K := (yX7_countOf, cX7_countOf, 2, (some .int))
set_option maxRecDepth 20000 in
theorem ok_X7_countOf : am_ok kX7_countOf := ⟨by decide +kernel, am_mem 701 rfl rfl, am_mem 52 rfl rfl, by decide, by decide, by decide⟩
abbrev kX7_rowsThere : am_K := (yX7_rowsThere, cX7_rowsThere, 3, (some .int))
set_option maxRecDepth 20000 in
theorem ok_X7_rowsThere : am_ok kX7_rowsThere := ⟨by decide +kernel, am_mem 705 rfl rfl, am_mem 52 rfl rfl, by decide, by decide, by decide⟩
abbrev kX7_textsThere : am_K := (yX7_textsThere, cX7_textsThere, 3, (some .int))
set_option maxRecDepth 20000 in
theorem ok_X7_textsThere : am_ok kX7_textsThere := ⟨by decide +kernel, am_mem 709 rfl rfl, am_mem 52 rfl rfl, by decide, by decide, by decide⟩
abbrev kX7_keptThere : am_K := (yX7_keptThere, cX7_keptThere, 3, (some .int))
set_option maxRecDepth 20000 in
theorem ok_X7_keptThere : am_ok kX7_keptThere := ⟨by decide +kernel, am_mem 713 rfl rfl, am_mem 52 rfl rfl, by decide, by decide, by decide⟩
abbrev kX0_drumsOf : am_K := (yX0_drumsOf, cX0_drumsOf, 4, (some .int))
set_option maxRecDepth 20000 in
theorem ok_X0_drumsOf : am_ok kX0_drumsOf := ⟨by decide +kernel, am_mem 717 rfl rfl, am_mem 53 rfl rfl, by decide, by decide, by decide⟩
abbrev kX7_finding : am_K := (yX7_finding, cX7_finding, 1, (some .int))
set_option maxRecDepth 20000 in
theorem ok_X7_finding : am_ok kX7_finding := ⟨by decide +kernel, am_mem 722 rfl rfl, am_mem 52 rfl rfl, by decide, by decide, by decide⟩
abbrev kX7_findings : am_K := (yX7_findings, cX7_findings, 2, (some .int))
set_option maxRecDepth 20000 in
theorem ok_X7_findings : am_ok kX7_findings := ⟨by decide +kernel, am_mem 726 rfl rfl, am_mem 52 rfl rfl, by decide, by decide, by decide⟩
abbrev kX7_digest : am_K := (yX7_digest, cX7_digest, 5, (some .long))
set_option maxRecDepth 20000 in
theorem ok_X7_digest : am_ok kX7_digest := ⟨by decide +kernel, am_mem 730 rfl rfl, am_mem 52 rfl rfl, by decide, by decide, by decide⟩
abbrev kX4_digestFrom : am_K := (yX4_digestFrom, cX4_digestFrom, 6, (some .long))
set_option maxRecDepth 20000 in
theorem ok_X4_digestFrom : am_ok kX4_digestFrom := ⟨by decide +kernel, am_mem 736 rfl rfl, am_mem 57 rfl rfl, by decide, by decide, by decide⟩
abbrev kX6_digestFrom : am_K := (yX6_digestFrom, cX6_digestFrom, 6, (some .long))
set_option maxRecDepth 20000 in
theorem ok_X6_digestFrom : am_ok kX6_digestFrom := ⟨by decide +kernel, am_mem 741 rfl rfl, am_mem 58 rfl rfl, by decide, by decide, by decide⟩
abbrev kX8_init : am_K := (yX8_init, cX8_init, 2, none)
set_option maxRecDepth 20000 in
theorem ok_X8_init : am_ok kX8_init := ⟨by decide +kernel, am_mem 747 rfl rfl, am_mem 59 rfl rfl, by decide, by decide, by decide⟩
abbrev kX8_row : am_K := (yX8_row, cX8_row, 3, (some .int))
set_option maxRecDepth 20000 in
theorem ok_X8_row : am_ok kX8_row := ⟨by decide +kernel, am_mem 819 rfl rfl, am_mem 59 rfl rfl, by decide, by decide, by decide⟩
abbrev kX8_isRow : am_K := (yX8_isRow, cX8_isRow, 1, (some .boolean))
set_option maxRecDepth 20000 in
theorem ok_X8_isRow : am_ok kX8_isRow := ⟨by decide +kernel, am_mem 822 rfl rfl, am_mem 59 rfl rfl, by decide, by decide, by decide⟩
abbrev kX8_in : am_K := (yX8_in, cX8_in, 3, (some .boolean))
set_option maxRecDepth 20000 in
theorem ok_X8_in : am_ok kX8_in := ⟨by decide +kernel, am_mem 825 rfl rfl, am_mem 59 rfl rfl, by decide, by decide, by decide⟩
abbrev kX8_finds : am_K := (yX8_finds, cX8_finds, 2, (some .int))
set_option maxRecDepth 20000 in
theorem ok_X8_finds : am_ok kX8_finds := ⟨by decide +kernel, am_mem 829 rfl rfl, am_mem 59 rfl rfl, by decide, by decide, by decide⟩
abbrev kX8_anew : am_K := (yX8_anew, cX8_anew, 4, none)
set_option maxRecDepth 20000 in
theorem ok_X8_anew : am_ok kX8_anew := ⟨by decide +kernel, am_mem 833 rfl rfl, am_mem 59 rfl rfl, by decide, by decide, by decide⟩
abbrev kX8_lay : am_K := (yX8_lay, cX8_lay, 5, (some .int))
set_option maxRecDepth 20000 in
theorem ok_X8_lay : am_ok kX8_lay := ⟨by decide +kernel, am_mem 837 rfl rfl, am_mem 59 rfl rfl, by decide, by decide, by decide⟩
abbrev kX8_tells : am_K := (yX8_tells, cX8_tells, 2, (some .int))
set_option maxRecDepth 20000 in
theorem ok_X8_tells : am_ok kX8_tells := ⟨by decide +kernel, am_mem 841 rfl rfl, am_mem 59 rfl rfl, by decide, by decide, by decide⟩
abbrev kX8_at : am_K := (yX8_at, cX8_at, 3, (some .int))
set_option maxRecDepth 20000 in
theorem ok_X8_at : am_ok kX8_at := ⟨by decide +kernel, am_mem 845 rfl rfl, am_mem 59 rfl rfl, by decide, by decide, by decide⟩
abbrev kX8_tear : am_K := (yX8_tear, cX8_tear, 2, (some .int))
set_option maxRecDepth 20000 in
theorem ok_X8_tear : am_ok kX8_tear := ⟨by decide +kernel, am_mem 849 rfl rfl, am_mem 59 rfl rfl, by decide, by decide, by decide⟩
abbrev kX8_copy : am_K := (yX8_copy, cX8_copy, 7, (some .int))
set_option maxRecDepth 20000 in
theorem ok_X8_copy : am_ok kX8_copy := ⟨by decide +kernel, am_mem 853 rfl rfl, am_mem 59 rfl rfl, by decide, by decide, by decide⟩
abbrev kX8_lies : am_K := (yX8_lies, cX8_lies, 4, (some .boolean))
set_option maxRecDepth 20000 in
theorem ok_X8_lies : am_ok kX8_lies := ⟨by decide +kernel, am_mem 857 rfl rfl, am_mem 59 rfl rfl, by decide, by decide, by decide⟩
abbrev kX8_mean : am_K := (yX8_mean, cX8_mean, 5, (some .int))
set_option maxRecDepth 20000 in
theorem ok_X8_mean : am_ok kX8_mean := ⟨by decide +kernel, am_mem 861 rfl rfl, am_mem 59 rfl rfl, by decide, by decide, by decide⟩
abbrev kX8_text : am_K := (yX8_text, cX8_text, 4, (some .int))
set_option maxRecDepth 20000 in
theorem ok_X8_text : am_ok kX8_text := ⟨by decide +kernel, am_mem 865 rfl rfl, am_mem 59 rfl rfl, by decide, by decide, by decide⟩
abbrev kX8_isText : am_K := (yX8_isText, cX8_isText, 1, (some .boolean))
set_option maxRecDepth 20000 in
theorem ok_X8_isText : am_ok kX8_isText := ⟨by decide +kernel, am_mem 868 rfl rfl, am_mem 59 rfl rfl, by decide, by decide, by decide⟩
abbrev kX8_put : am_K := (yX8_put, cX8_put, 5, (some .int))
set_option maxRecDepth 20000 in
theorem ok_X8_put : am_ok kX8_put := ⟨by decide +kernel, am_mem 872 rfl rfl, am_mem 59 rfl rfl, by decide, by decide, by decide⟩
abbrev kX8_fault : am_K := (yX8_fault, cX8_fault, 2, (some .int))
set_option maxRecDepth 20000 in
theorem ok_X8_fault : am_ok kX8_fault := ⟨by decide +kernel, am_mem 876 rfl rfl, am_mem 59 rfl rfl, by decide, by decide, by decide⟩
abbrev kX8_reads : am_K := (yX8_reads, cX8_reads, 6, (some .int))
set_option maxRecDepth 20000 in
theorem ok_X8_reads : am_ok kX8_reads := ⟨by decide +kernel, am_mem 880 rfl rfl, am_mem 59 rfl rfl, by decide, by decide, by decide⟩
abbrev kX8_skips : am_K := (yX8_skips, cX8_skips, 4, (some .int))
set_option maxRecDepth 20000 in
theorem ok_X8_skips : am_ok kX8_skips := ⟨by decide +kernel, am_mem 884 rfl rfl, am_mem 59 rfl rfl, by decide, by decide, by decide⟩
abbrev kX8_byteAt : am_K := (yX8_byteAt, cX8_byteAt, 3, (some .int))
set_option maxRecDepth 20000 in
theorem ok_X8_byteAt : am_ok kX8_byteAt := ⟨by decide +kernel, am_mem 888 rfl rfl, am_mem 59 rfl rfl, by decide, by decide, by decide⟩
abbrev kX8_kindBy : am_K := (yX8_kindBy, cX8_kindBy, 1, (some .int))
set_option maxRecDepth 20000 in
theorem ok_X8_kindBy : am_ok kX8_kindBy := ⟨by decide +kernel, am_mem 891 rfl rfl, am_mem 59 rfl rfl, by decide, by decide, by decide⟩
abbrev kX8_board : am_K := (yX8_board, cX8_board, 3, (some .int))
set_option maxRecDepth 20000 in
theorem ok_X8_board : am_ok kX8_board := ⟨by decide +kernel, am_mem 895 rfl rfl, am_mem 59 rfl rfl, by decide, by decide, by decide⟩
abbrev kX8_drum : am_K := (yX8_drum, cX8_drum, 3, (some .int))
set_option maxRecDepth 20000 in
theorem ok_X8_drum : am_ok kX8_drum := ⟨by decide +kernel, am_mem 899 rfl rfl, am_mem 59 rfl rfl, by decide, by decide, by decide⟩
abbrev kX8_isDrum : am_K := (yX8_isDrum, cX8_isDrum, 2, (some .boolean))
set_option maxRecDepth 20000 in
theorem ok_X8_isDrum : am_ok kX8_isDrum := ⟨by decide +kernel, am_mem 903 rfl rfl, am_mem 59 rfl rfl, by decide, by decide, by decide⟩
abbrev kX8_isReady : am_K := (yX8_isReady, cX8_isReady, 2, (some .boolean))
set_option maxRecDepth 20000 in
theorem ok_X8_isReady : am_ok kX8_isReady := ⟨by decide +kernel, am_mem 906 rfl rfl, am_mem 59 rfl rfl, by decide, by decide, by decide⟩
abbrev kX8_lets : am_K := (yX8_lets, cX8_lets, 3, (some .boolean))
set_option maxRecDepth 20000 in
theorem ok_X8_lets : am_ok kX8_lets := ⟨by decide +kernel, am_mem 909 rfl rfl, am_mem 59 rfl rfl, by decide, by decide, by decide⟩
abbrev kX8_next : am_K := (yX8_next, cX8_next, 2, (some .int))
set_option maxRecDepth 20000 in
theorem ok_X8_next : am_ok kX8_next := ⟨by decide +kernel, am_mem 912 rfl rfl, am_mem 59 rfl rfl, by decide, by decide, by decide⟩
abbrev kX8_turned : am_K := (yX8_turned, cX8_turned, 5, (some .int))
set_option maxRecDepth 20000 in
theorem ok_X8_turned : am_ok kX8_turned := ⟨by decide +kernel, am_mem 915 rfl rfl, am_mem 59 rfl rfl, by decide, by decide, by decide⟩
abbrev kX8_skipsOn : am_K := (yX8_skipsOn, cX8_skipsOn, 4, (some .int))
set_option maxRecDepth 20000 in
theorem ok_X8_skipsOn : am_ok kX8_skipsOn := ⟨by decide +kernel, am_mem 918 rfl rfl, am_mem 59 rfl rfl, by decide, by decide, by decide⟩
abbrev kX8_mark : am_K := (yX8_mark, cX8_mark, 4, (some .int))
set_option maxRecDepth 20000 in
theorem ok_X8_mark : am_ok kX8_mark := ⟨by decide +kernel, am_mem 922 rfl rfl, am_mem 59 rfl rfl, by decide, by decide, by decide⟩
abbrev kX8_is : am_K := (yX8_is, cX8_is, 2, (some .boolean))
set_option maxRecDepth 20000 in
theorem ok_X8_is : am_ok kX8_is := ⟨by decide +kernel, am_mem 925 rfl rfl, am_mem 59 rfl rfl, by decide, by decide, by decide⟩
abbrev kX8_readyTicks : am_K := (yX8_readyTicks, cX8_readyTicks, 5, (some .int))
set_option maxRecDepth 20000 in
theorem ok_X8_readyTicks : am_ok kX8_readyTicks := ⟨by decide +kernel, am_mem 929 rfl rfl, am_mem 59 rfl rfl, by decide, by decide, by decide⟩
abbrev kX8_neverShown : am_K := (yX8_neverShown, cX8_neverShown, 6, (some .int))
set_option maxRecDepth 20000 in
theorem ok_X8_neverShown : am_ok kX8_neverShown := ⟨by decide +kernel, am_mem 933 rfl rfl, am_mem 59 rfl rfl, by decide, by decide, by decide⟩
abbrev kX8_has : am_K := (yX8_has, cX8_has, 2, (some .boolean))
set_option maxRecDepth 20000 in
theorem ok_X8_has : am_ok kX8_has := ⟨by decide +kernel, am_mem 936 rfl rfl, am_mem 59 rfl rfl, by decide, by decide, by decide⟩
abbrev kX8_tick : am_K := (yX8_tick, cX8_tick, 1, (some .int))
set_option maxRecDepth 20000 in
theorem ok_X8_tick : am_ok kX8_tick := ⟨by decide +kernel, am_mem 940 rfl rfl, am_mem 59 rfl rfl, by decide, by decide, by decide⟩
abbrev kX8_does : am_K := (yX8_does, cX8_does, 2, none)
set_option maxRecDepth 20000 in
theorem ok_X8_does : am_ok kX8_does := ⟨by decide +kernel, am_mem 944 rfl rfl, am_mem 59 rfl rfl, by decide, by decide, by decide⟩
abbrev kX8_goes : am_K := (yX8_goes, cX8_goes, 3, (some .int))
set_option maxRecDepth 20000 in
theorem ok_X8_goes : am_ok kX8_goes := ⟨by decide +kernel, am_mem 947 rfl rfl, am_mem 59 rfl rfl, by decide, by decide, by decide⟩
abbrev kX8_aim : am_K := (yX8_aim, cX8_aim, 4, (some .int))
set_option maxRecDepth 20000 in
theorem ok_X8_aim : am_ok kX8_aim := ⟨by decide +kernel, am_mem 951 rfl rfl, am_mem 59 rfl rfl, by decide, by decide, by decide⟩
abbrev kX8_power : am_K := (yX8_power, cX8_power, 3, (some .int))
set_option maxRecDepth 20000 in
theorem ok_X8_power : am_ok kX8_power := ⟨by decide +kernel, am_mem 955 rfl rfl, am_mem 59 rfl rfl, by decide, by decide, by decide⟩
abbrev kX8_jam : am_K := (yX8_jam, cX8_jam, 2, (some .int))
set_option maxRecDepth 20000 in
theorem ok_X8_jam : am_ok kX8_jam := ⟨by decide +kernel, am_mem 959 rfl rfl, am_mem 59 rfl rfl, by decide, by decide, by decide⟩
abbrev kX8_ones : am_K := (yX8_ones, cX8_ones, 3, (some .int))
set_option maxRecDepth 20000 in
theorem ok_X8_ones : am_ok kX8_ones := ⟨by decide +kernel, am_mem 962 rfl rfl, am_mem 59 rfl rfl, by decide, by decide, by decide⟩
abbrev kX8_undo : am_K := (yX8_undo, cX8_undo, 4, (some .int))
set_option maxRecDepth 20000 in
theorem ok_X8_undo : am_ok kX8_undo := ⟨by decide +kernel, am_mem 966 rfl rfl, am_mem 59 rfl rfl, by decide, by decide, by decide⟩
abbrev kX8_keep : am_K := (yX8_keep, cX8_keep, 3, (some .int))
set_option maxRecDepth 20000 in
theorem ok_X8_keep : am_ok kX8_keep := ⟨by decide +kernel, am_mem 970 rfl rfl, am_mem 59 rfl rfl, by decide, by decide, by decide⟩
abbrev kX8_on : am_K := (yX8_on, cX8_on, 3, (some .int))
set_option maxRecDepth 20000 in
theorem ok_X8_on : am_ok kX8_on := ⟨by decide +kernel, am_mem 974 rfl rfl, am_mem 59 rfl rfl, by decide, by decide, by decide⟩
abbrev kX8_later : am_K := (yX8_later, cX8_later, 4, (some .int))
set_option maxRecDepth 20000 in
theorem ok_X8_later : am_ok kX8_later := ⟨by decide +kernel, am_mem 978 rfl rfl, am_mem 59 rfl rfl, by decide, by decide, by decide⟩
abbrev kX8_copies : am_K := (yX8_copies, cX8_copies, 3, none)
set_option maxRecDepth 20000 in
theorem ok_X8_copies : am_ok kX8_copies := ⟨by decide +kernel, am_mem 981 rfl rfl, am_mem 59 rfl rfl, by decide, by decide, by decide⟩
abbrev kX8_shown : am_K := (yX8_shown, cX8_shown, 3, (some .int))
set_option maxRecDepth 20000 in
theorem ok_X8_shown : am_ok kX8_shown := ⟨by decide +kernel, am_mem 984 rfl rfl, am_mem 59 rfl rfl, by decide, by decide, by decide⟩
abbrev kX8_ends : am_K := (yX8_ends, cX8_ends, 2, (some .int))
set_option maxRecDepth 20000 in
theorem ok_X8_ends : am_ok kX8_ends := ⟨by decide +kernel, am_mem 988 rfl rfl, am_mem 59 rfl rfl, by decide, by decide, by decide⟩
abbrev kX8_told : am_K := (yX8_told, cX8_told, 2, (some .int))
set_option maxRecDepth 20000 in
theorem ok_X8_told : am_ok kX8_told := ⟨by decide +kernel, am_mem 991 rfl rfl, am_mem 59 rfl rfl, by decide, by decide, by decide⟩
abbrev kX8_isTold : am_K := (yX8_isTold, cX8_isTold, 1, (some .boolean))
set_option maxRecDepth 20000 in
theorem ok_X8_isTold : am_ok kX8_isTold := ⟨by decide +kernel, am_mem 994 rfl rfl, am_mem 59 rfl rfl, by decide, by decide, by decide⟩
abbrev kX8_right : am_K := (yX8_right, cX8_right, 3, (some .int))
set_option maxRecDepth 20000 in
theorem ok_X8_right : am_ok kX8_right := ⟨by decide +kernel, am_mem 997 rfl rfl, am_mem 59 rfl rfl, by decide, by decide, by decide⟩
abbrev kX8_passes : am_K := (yX8_passes, cX8_passes, 8, (some .int))
set_option maxRecDepth 20000 in
theorem ok_X8_passes : am_ok kX8_passes := ⟨by decide +kernel, am_mem 1001 rfl rfl, am_mem 59 rfl rfl, by decide, by decide, by decide⟩
abbrev kX8_least : am_K := (yX8_least, cX8_least, 3, (some .int))
set_option maxRecDepth 20000 in
theorem ok_X8_least : am_ok kX8_least := ⟨by decide +kernel, am_mem 1005 rfl rfl, am_mem 59 rfl rfl, by decide, by decide, by decide⟩
abbrev kX8_soonest : am_K := (yX8_soonest, cX8_soonest, 8, (some .int))
set_option maxRecDepth 20000 in
theorem ok_X8_soonest : am_ok kX8_soonest := ⟨by decide +kernel, am_mem 1009 rfl rfl, am_mem 59 rfl rfl, by decide, by decide, by decide⟩
abbrev kX8_amiss : am_K := (yX8_amiss, cX8_amiss, 5, (some .int))
set_option maxRecDepth 20000 in
theorem ok_X8_amiss : am_ok kX8_amiss := ⟨by decide +kernel, am_mem 1013 rfl rfl, am_mem 59 rfl rfl, by decide, by decide, by decide⟩
abbrev kX8_aims : am_K := (yX8_aims, cX8_aims, 5, none)
set_option maxRecDepth 20000 in
theorem ok_X8_aims : am_ok kX8_aims := ⟨by decide +kernel, am_mem 1017 rfl rfl, am_mem 59 rfl rfl, by decide, by decide, by decide⟩
abbrev kX8_order : am_K := (yX8_order, cX8_order, 16, (some .int))
set_option maxRecDepth 20000 in
theorem ok_X8_order : am_ok kX8_order := ⟨by decide +kernel, am_mem 1021 rfl rfl, am_mem 59 rfl rfl, by decide, by decide, by decide⟩
abbrev kX8_kinds : am_K := (yX8_kinds, cX8_kinds, 4, (some .int))
set_option maxRecDepth 20000 in
theorem ok_X8_kinds : am_ok kX8_kinds := ⟨by decide +kernel, am_mem 1025 rfl rfl, am_mem 59 rfl rfl, by decide, by decide, by decide⟩
abbrev kX8_unfit : am_K := (yX8_unfit, cX8_unfit, 4, (some .int))
set_option maxRecDepth 20000 in
theorem ok_X8_unfit : am_ok kX8_unfit := ⟨by decide +kernel, am_mem 1029 rfl rfl, am_mem 59 rfl rfl, by decide, by decide, by decide⟩
abbrev kX8_fitting : am_K := (yX8_fitting, cX8_fitting, 9, (some .int))
set_option maxRecDepth 20000 in
theorem ok_X8_fitting : am_ok kX8_fitting := ⟨by decide +kernel, am_mem 1033 rfl rfl, am_mem 59 rfl rfl, by decide, by decide, by decide⟩
abbrev kX8_marks : am_K := (yX8_marks, cX8_marks, 4, (some .int))
set_option maxRecDepth 20000 in
theorem ok_X8_marks : am_ok kX8_marks := ⟨by decide +kernel, am_mem 1037 rfl rfl, am_mem 59 rfl rfl, by decide, by decide, by decide⟩
abbrev kX8_test : am_K := (yX8_test, cX8_test, 11, (some .int))
set_option maxRecDepth 20000 in
theorem ok_X8_test : am_ok kX8_test := ⟨by decide +kernel, am_mem 1041 rfl rfl, am_mem 59 rfl rfl, by decide, by decide, by decide⟩
abbrev kX8_duel : am_K := (yX8_duel, cX8_duel, 6, (some .int))
set_option maxRecDepth 20000 in
theorem ok_X8_duel : am_ok kX8_duel := ⟨by decide +kernel, am_mem 1045 rfl rfl, am_mem 59 rfl rfl, by decide, by decide, by decide⟩
abbrev kX8_late : am_K := (yX8_late, cX8_late, 3, (some .int))
set_option maxRecDepth 20000 in
theorem ok_X8_late : am_ok kX8_late := ⟨by decide +kernel, am_mem 1049 rfl rfl, am_mem 59 rfl rfl, by decide, by decide, by decide⟩
abbrev kX8_answered : am_K := (yX8_answered, cX8_answered, 6, (some .int))
set_option maxRecDepth 20000 in
theorem ok_X8_answered : am_ok kX8_answered := ⟨by decide +kernel, am_mem 1053 rfl rfl, am_mem 59 rfl rfl, by decide, by decide, by decide⟩
abbrev kX8_odds : am_K := (yX8_odds, cX8_odds, 4, (some .int))
set_option maxRecDepth 20000 in
theorem ok_X8_odds : am_ok kX8_odds := ⟨by decide +kernel, am_mem 1057 rfl rfl, am_mem 59 rfl rfl, by decide, by decide, by decide⟩
abbrev kX8_chances : am_K := (yX8_chances, cX8_chances, 12, none)
set_option maxRecDepth 20000 in
theorem ok_X8_chances : am_ok kX8_chances := ⟨by decide +kernel, am_mem 1061 rfl rfl, am_mem 59 rfl rfl, by decide, by decide, by decide⟩
abbrev kX8_lowest : am_K := (yX8_lowest, cX8_lowest, 11, none)
set_option maxRecDepth 20000 in
theorem ok_X8_lowest : am_ok kX8_lowest := ⟨by decide +kernel, am_mem 1066 rfl rfl, am_mem 59 rfl rfl, by decide, by decide, by decide⟩
abbrev kX8_mid : am_K := (yX8_mid, cX8_mid, 3, (some .int))
set_option maxRecDepth 20000 in
theorem ok_X8_mid : am_ok kX8_mid := ⟨by decide +kernel, am_mem 1070 rfl rfl, am_mem 59 rfl rfl, by decide, by decide, by decide⟩
abbrev kX8_lots : am_K := (yX8_lots, cX8_lots, 8, (some .int))
set_option maxRecDepth 20000 in
theorem ok_X8_lots : am_ok kX8_lots := ⟨by decide +kernel, am_mem 1074 rfl rfl, am_mem 59 rfl rfl, by decide, by decide, by decide⟩
abbrev kX8_asked : am_K := (yX8_asked, cX8_asked, 1, (some .int))
set_option maxRecDepth 20000 in
theorem ok_X8_asked : am_ok kX8_asked := ⟨by decide +kernel, am_mem 1084 rfl rfl, am_mem 59 rfl rfl, by decide, by decide, by decide⟩
abbrev kX8_upper : am_K := (yX8_upper, cX8_upper, 1, (some .long))
set_option maxRecDepth 20000 in
theorem ok_X8_upper : am_ok kX8_upper := ⟨by decide +kernel, am_mem 1088 rfl rfl, am_mem 59 rfl rfl, by decide, by decide, by decide⟩
abbrev kX8_lower : am_K := (yX8_lower, cX8_lower, 1, (some .long))
set_option maxRecDepth 20000 in
theorem ok_X8_lower : am_ok kX8_lower := ⟨by decide +kernel, am_mem 1092 rfl rfl, am_mem 59 rfl rfl, by decide, by decide, by decide⟩
abbrev kX8_count : am_K := (yX8_count, cX8_count, 4, (some .int))
set_option maxRecDepth 20000 in
theorem ok_X8_count : am_ok kX8_count := ⟨by decide +kernel, am_mem 1096 rfl rfl, am_mem 59 rfl rfl, by decide, by decide, by decide⟩
abbrev kX8_ofKind : am_K := (yX8_ofKind, cX8_ofKind, 4, (some .int))
set_option maxRecDepth 20000 in
theorem ok_X8_ofKind : am_ok kX8_ofKind := ⟨by decide +kernel, am_mem 1100 rfl rfl, am_mem 59 rfl rfl, by decide, by decide, by decide⟩
abbrev kX8_finding : am_K := (yX8_finding, cX8_finding, 1, (some .int))
set_option maxRecDepth 20000 in
theorem ok_X8_finding : am_ok kX8_finding := ⟨by decide +kernel, am_mem 1104 rfl rfl, am_mem 59 rfl rfl, by decide, by decide, by decide⟩
abbrev kX8_findings : am_K := (yX8_findings, cX8_findings, 2, (some .int))
set_option maxRecDepth 20000 in
theorem ok_X8_findings : am_ok kX8_findings := ⟨by decide +kernel, am_mem 1108 rfl rfl, am_mem 59 rfl rfl, by decide, by decide, by decide⟩
abbrev kX8_digest : am_K := (yX8_digest, cX8_digest, 5, (some .long))
set_option maxRecDepth 20000 in
theorem ok_X8_digest : am_ok kX8_digest := ⟨by decide +kernel, am_mem 1112 rfl rfl, am_mem 59 rfl rfl, by decide, by decide, by decide⟩
abbrev kX8_of : am_K := (yX8_of, cX8_of, 3, (some .int))
set_option maxRecDepth 20000 in
theorem ok_X8_of : am_ok kX8_of := ⟨by decide +kernel, am_mem 1119 rfl rfl, am_mem 59 rfl rfl, by decide, by decide, by decide⟩
set_option maxRecDepth 20000 in
theorem fg_RX0_9 : am_okF RX0 9 0 0 := ⟨_, _, _, _, am_k0, by decide, am_mem 82 rfl rfl⟩
set_option maxRecDepth 20000 in
theorem fq_RX0_9 : am_okPF RX0 9 0 0 (.array .int) := ⟨_, _, _, _, am_k0, by decide, am_mem 82 rfl rfl, rfl, rfl, by decide +kernel⟩
set_option maxRecDepth 20000 in
theorem fg_RX7_158 : am_okF RX7 158 0 0 := ⟨_, _, _, _, am_k0, by decide, am_mem 83 rfl rfl⟩
set_option maxRecDepth 20000 in
theorem fg_RX0_15 : am_okF RX0 15 0 1 := ⟨_, _, _, _, am_k0, by decide, am_mem 84 rfl rfl⟩
set_option maxRecDepth 20000 in
theorem fq_RX0_15 : am_okPF RX0 15 0 1 (.array .int) := ⟨_, _, _, _, am_k0, by decide, am_mem 84 rfl rfl, rfl, rfl, by decide +kernel⟩
set_option maxRecDepth 20000 in
theorem fg_RX7_170 : am_okF RX7 170 0 1 := ⟨_, _, _, _, am_k0, by decide, am_mem 85 rfl rfl⟩
set_option maxRecDepth 20000 in
theorem fg_RX0_18 : am_okF RX0 18 0 2 := ⟨_, _, _, _, am_k0, by decide, am_mem 86 rfl rfl⟩
set_option maxRecDepth 20000 in
theorem fq_RX0_18 : am_okPF RX0 18 0 2 (.array .int) := ⟨_, _, _, _, am_k0, by decide, am_mem 86 rfl rfl, rfl, rfl, by decide +kernel⟩
set_option maxRecDepth 20000 in
theorem fg_RX7_173 : am_okF RX7 173 0 2 := ⟨_, _, _, _, am_k0, by decide, am_mem 87 rfl rfl⟩
set_option maxRecDepth 20000 in
theorem fg_RX0_21 : am_okF RX0 21 0 3 := ⟨_, _, _, _, am_k0, by decide, am_mem 88 rfl rfl⟩
set_option maxRecDepth 20000 in
theorem fq_RX0_21 : am_okPF RX0 21 0 3 (.array .int) := ⟨_, _, _, _, am_k0, by decide, am_mem 88 rfl rfl, rfl, rfl, by decide +kernel⟩
set_option maxRecDepth 20000 in
theorem fg_RX7_322 : am_okF RX7 322 0 3 := ⟨_, _, _, _, am_k0, by decide, am_mem 89 rfl rfl⟩
set_option maxRecDepth 20000 in
theorem fg_RX0_24 : am_okF RX0 24 0 4 := ⟨_, _, _, _, am_k0, by decide, am_mem 90 rfl rfl⟩
set_option maxRecDepth 20000 in
theorem fp_RX0_24 : am_okP RX0 24 0 4 .int := ⟨_, _, _, _, am_k0, by decide, am_mem 90 rfl rfl, rfl, rfl⟩
set_option maxRecDepth 20000 in
theorem fg_RX3_45 : am_okF RX3 45 0 4 := ⟨_, _, _, _, am_k0, by decide, am_mem 91 rfl rfl⟩
set_option maxRecDepth 20000 in
theorem fp_RX3_45 : am_okP RX3 45 0 4 .int := ⟨_, _, _, _, am_k0, by decide, am_mem 91 rfl rfl, rfl, rfl⟩
set_option maxRecDepth 20000 in
theorem fg_RX7_149 : am_okF RX7 149 0 4 := ⟨_, _, _, _, am_k0, by decide, am_mem 92 rfl rfl⟩
set_option maxRecDepth 20000 in
theorem fp_RX7_149 : am_okP RX7 149 0 4 .int := ⟨_, _, _, _, am_k0, by decide, am_mem 92 rfl rfl, rfl, rfl⟩
set_option maxRecDepth 20000 in
theorem fg_RX0_34 : am_okF RX0 34 0 5 := ⟨_, _, _, _, am_k0, by decide, am_mem 93 rfl rfl⟩
set_option maxRecDepth 20000 in
theorem fp_RX0_34 : am_okP RX0 34 0 5 .int := ⟨_, _, _, _, am_k0, by decide, am_mem 93 rfl rfl, rfl, rfl⟩
set_option maxRecDepth 20000 in
theorem fg_RX7_197 : am_okF RX7 197 0 5 := ⟨_, _, _, _, am_k0, by decide, am_mem 94 rfl rfl⟩
set_option maxRecDepth 20000 in
theorem fp_RX7_197 : am_okP RX7 197 0 5 .int := ⟨_, _, _, _, am_k0, by decide, am_mem 94 rfl rfl, rfl, rfl⟩
set_option maxRecDepth 20000 in
theorem fg_RX0_37 : am_okF RX0 37 0 6 := ⟨_, _, _, _, am_k0, by decide, am_mem 95 rfl rfl⟩
set_option maxRecDepth 20000 in
theorem fp_RX0_37 : am_okP RX0 37 0 6 .int := ⟨_, _, _, _, am_k0, by decide, am_mem 95 rfl rfl, rfl, rfl⟩
set_option maxRecDepth 20000 in
theorem fg_RX7_184 : am_okF RX7 184 0 6 := ⟨_, _, _, _, am_k0, by decide, am_mem 96 rfl rfl⟩
set_option maxRecDepth 20000 in
theorem fp_RX7_184 : am_okP RX7 184 0 6 .int := ⟨_, _, _, _, am_k0, by decide, am_mem 96 rfl rfl, rfl, rfl⟩
set_option maxRecDepth 20000 in
theorem fg_RX0_40 : am_okF RX0 40 0 7 := ⟨_, _, _, _, am_k0, by decide, am_mem 97 rfl rfl⟩
set_option maxRecDepth 20000 in
theorem fp_RX0_40 : am_okP RX0 40 0 7 .int := ⟨_, _, _, _, am_k0, by decide, am_mem 97 rfl rfl, rfl, rfl⟩
set_option maxRecDepth 20000 in
theorem fg_RX7_190 : am_okF RX7 190 0 7 := ⟨_, _, _, _, am_k0, by decide, am_mem 98 rfl rfl⟩
set_option maxRecDepth 20000 in
theorem fp_RX7_190 : am_okP RX7 190 0 7 .int := ⟨_, _, _, _, am_k0, by decide, am_mem 98 rfl rfl, rfl, rfl⟩
set_option maxRecDepth 20000 in
theorem fg_RX0_43 : am_okF RX0 43 0 8 := ⟨_, _, _, _, am_k0, by decide, am_mem 99 rfl rfl⟩
set_option maxRecDepth 20000 in
theorem fp_RX0_43 : am_okP RX0 43 0 8 .int := ⟨_, _, _, _, am_k0, by decide, am_mem 99 rfl rfl, rfl, rfl⟩
set_option maxRecDepth 20000 in
theorem fg_RX7_200 : am_okF RX7 200 0 8 := ⟨_, _, _, _, am_k0, by decide, am_mem 100 rfl rfl⟩
set_option maxRecDepth 20000 in
theorem fp_RX7_200 : am_okP RX7 200 0 8 .int := ⟨_, _, _, _, am_k0, by decide, am_mem 100 rfl rfl, rfl, rfl⟩
set_option maxRecDepth 20000 in
theorem fg_RX1_9 : am_okF RX1 9 1 0 := ⟨_, _, _, _, am_k1, by decide, am_mem 127 rfl rfl⟩
set_option maxRecDepth 20000 in
theorem fq_RX1_9 : am_okPF RX1 9 1 0 (.array .int) := ⟨_, _, _, _, am_k1, by decide, am_mem 127 rfl rfl, rfl, rfl, by decide +kernel⟩
set_option maxRecDepth 20000 in
theorem fg_RX7_358 : am_okF RX7 358 1 0 := ⟨_, _, _, _, am_k1, by decide, am_mem 128 rfl rfl⟩
set_option maxRecDepth 20000 in
theorem fg_RX7_80 : am_okF RX7 80 1 1 := ⟨_, _, _, _, am_k1, by decide, am_mem 129 rfl rfl⟩
set_option maxRecDepth 20000 in
theorem fp_RX7_80 : am_okP RX7 80 1 1 .int := ⟨_, _, _, _, am_k1, by decide, am_mem 129 rfl rfl, rfl, rfl⟩
set_option maxRecDepth 20000 in
theorem fg_RX1_15 : am_okF RX1 15 1 1 := ⟨_, _, _, _, am_k1, by decide, am_mem 130 rfl rfl⟩
set_option maxRecDepth 20000 in
theorem fp_RX1_15 : am_okP RX1 15 1 1 .int := ⟨_, _, _, _, am_k1, by decide, am_mem 130 rfl rfl, rfl, rfl⟩
set_option maxRecDepth 20000 in
theorem fg_RX2_9 : am_okF RX2 9 2 0 := ⟨_, _, _, _, am_k2, by decide, am_mem 146 rfl rfl⟩
set_option maxRecDepth 20000 in
theorem fq_RX2_9 : am_okPF RX2 9 2 0 (.array .int) := ⟨_, _, _, _, am_k2, by decide, am_mem 146 rfl rfl, rfl, rfl, by decide +kernel⟩
set_option maxRecDepth 20000 in
theorem fg_RX7_246 : am_okF RX7 246 2 0 := ⟨_, _, _, _, am_k2, by decide, am_mem 147 rfl rfl⟩
set_option maxRecDepth 20000 in
theorem fg_RX2_15 : am_okF RX2 15 2 1 := ⟨_, _, _, _, am_k2, by decide, am_mem 148 rfl rfl⟩
set_option maxRecDepth 20000 in
theorem fq_RX2_15 : am_okPF RX2 15 2 1 (.array .int) := ⟨_, _, _, _, am_k2, by decide, am_mem 148 rfl rfl, rfl, rfl, by decide +kernel⟩
set_option maxRecDepth 20000 in
theorem fg_RX2_20 : am_okF RX2 20 2 2 := ⟨_, _, _, _, am_k2, by decide, am_mem 149 rfl rfl⟩
set_option maxRecDepth 20000 in
theorem fq_RX2_20 : am_okPF RX2 20 2 2 (.array (.object "FlapBoard$Board")) := ⟨_, _, _, _, am_k2, by decide, am_mem 149 rfl rfl, rfl, rfl, by decide +kernel⟩
set_option maxRecDepth 20000 in
theorem fg_RX2_25 : am_okF RX2 25 2 3 := ⟨_, _, _, _, am_k2, by decide, am_mem 150 rfl rfl⟩
set_option maxRecDepth 20000 in
theorem fp_RX2_25 : am_okP RX2 25 2 3 .int := ⟨_, _, _, _, am_k2, by decide, am_mem 150 rfl rfl, rfl, rfl⟩
set_option maxRecDepth 20000 in
theorem fg_RX5_7 : am_okF RX5 7 4 0 := ⟨_, _, _, _, am_k4, by decide, am_mem 168 rfl rfl⟩
set_option maxRecDepth 20000 in
theorem fp_RX5_7 : am_okP RX5 7 4 0 .long := ⟨_, _, _, _, am_k4, by decide, am_mem 168 rfl rfl, rfl, rfl⟩
set_option maxRecDepth 20000 in
theorem fg_RX7_293 : am_okF RX7 293 4 0 := ⟨_, _, _, _, am_k4, by decide, am_mem 169 rfl rfl⟩
set_option maxRecDepth 20000 in
theorem fp_RX7_293 : am_okP RX7 293 4 0 .long := ⟨_, _, _, _, am_k4, by decide, am_mem 169 rfl rfl, rfl, rfl⟩
set_option maxRecDepth 20000 in
theorem fg_RX5_13 : am_okF RX5 13 4 1 := ⟨_, _, _, _, am_k4, by decide, am_mem 170 rfl rfl⟩
set_option maxRecDepth 20000 in
theorem fp_RX5_13 : am_okP RX5 13 4 1 .long := ⟨_, _, _, _, am_k4, by decide, am_mem 170 rfl rfl, rfl, rfl⟩
set_option maxRecDepth 20000 in
theorem fg_RX7_297 : am_okF RX7 297 4 1 := ⟨_, _, _, _, am_k4, by decide, am_mem 171 rfl rfl⟩
set_option maxRecDepth 20000 in
theorem fp_RX7_297 : am_okP RX7 297 4 1 .long := ⟨_, _, _, _, am_k4, by decide, am_mem 171 rfl rfl, rfl, rfl⟩
set_option maxRecDepth 20000 in
theorem fg_RX4_9 : am_okF RX4 9 3 0 := ⟨_, _, _, _, am_k3, by decide, am_mem 183 rfl rfl⟩
set_option maxRecDepth 20000 in
theorem fq_RX4_9 : am_okPF RX4 9 3 0 (.array .int) := ⟨_, _, _, _, am_k3, by decide, am_mem 183 rfl rfl, rfl, rfl, by decide +kernel⟩
set_option maxRecDepth 20000 in
theorem fg_RX7_100 : am_okF RX7 100 3 0 := ⟨_, _, _, _, am_k3, by decide, am_mem 184 rfl rfl⟩
set_option maxRecDepth 20000 in
theorem fg_RX2_48 : am_okF RX2 48 3 0 := ⟨_, _, _, _, am_k3, by decide, am_mem 185 rfl rfl⟩
set_option maxRecDepth 20000 in
theorem fg_RX4_15 : am_okF RX4 15 3 1 := ⟨_, _, _, _, am_k3, by decide, am_mem 186 rfl rfl⟩
set_option maxRecDepth 20000 in
theorem fp_RX4_15 : am_okP RX4 15 3 1 .int := ⟨_, _, _, _, am_k3, by decide, am_mem 186 rfl rfl, rfl, rfl⟩
set_option maxRecDepth 20000 in
theorem fg_RX2_37 : am_okF RX2 37 3 1 := ⟨_, _, _, _, am_k3, by decide, am_mem 187 rfl rfl⟩
set_option maxRecDepth 20000 in
theorem fp_RX2_37 : am_okP RX2 37 3 1 .int := ⟨_, _, _, _, am_k3, by decide, am_mem 187 rfl rfl, rfl, rfl⟩
set_option maxRecDepth 20000 in
theorem fg_RX7_109 : am_okF RX7 109 3 1 := ⟨_, _, _, _, am_k3, by decide, am_mem 188 rfl rfl⟩
set_option maxRecDepth 20000 in
theorem fp_RX7_109 : am_okP RX7 109 3 1 .int := ⟨_, _, _, _, am_k3, by decide, am_mem 188 rfl rfl, rfl, rfl⟩
set_option maxRecDepth 20000 in
theorem fg_RX6_9 : am_okF RX6 9 5 0 := ⟨_, _, _, _, am_k5, by decide, am_mem 199 rfl rfl⟩
set_option maxRecDepth 20000 in
theorem fq_RX6_9 : am_okPF RX6 9 5 0 (.array .byte) := ⟨_, _, _, _, am_k5, by decide, am_mem 199 rfl rfl, rfl, rfl, by decide +kernel⟩
set_option maxRecDepth 20000 in
theorem fg_RX7_132 : am_okF RX7 132 5 0 := ⟨_, _, _, _, am_k5, by decide, am_mem 200 rfl rfl⟩
set_option maxRecDepth 20000 in
theorem fg_RX6_15 : am_okF RX6 15 5 1 := ⟨_, _, _, _, am_k5, by decide, am_mem 201 rfl rfl⟩
set_option maxRecDepth 20000 in
theorem fp_RX6_15 : am_okP RX6 15 5 1 .int := ⟨_, _, _, _, am_k5, by decide, am_mem 201 rfl rfl, rfl, rfl⟩
set_option maxRecDepth 20000 in
theorem fg_RX3_28 : am_okF RX3 28 5 1 := ⟨_, _, _, _, am_k5, by decide, am_mem 202 rfl rfl⟩
set_option maxRecDepth 20000 in
theorem fp_RX3_28 : am_okP RX3 28 5 1 .int := ⟨_, _, _, _, am_k5, by decide, am_mem 202 rfl rfl, rfl, rfl⟩
set_option maxRecDepth 20000 in
theorem fg_RX7_131 : am_okF RX7 131 5 1 := ⟨_, _, _, _, am_k5, by decide, am_mem 203 rfl rfl⟩
set_option maxRecDepth 20000 in
theorem fp_RX7_131 : am_okP RX7 131 5 1 .int := ⟨_, _, _, _, am_k5, by decide, am_mem 203 rfl rfl, rfl, rfl⟩
set_option maxRecDepth 20000 in
theorem fg_RX7_11 : am_okF RX7 11 6 0 := ⟨_, _, _, _, am_k6, by decide, am_mem 210 rfl rfl⟩
set_option maxRecDepth 20000 in
theorem fq_RX7_11 : am_okPF RX7 11 6 0 (.array (.object "FlapBoard$Row")) := ⟨_, _, _, _, am_k6, by decide, am_mem 210 rfl rfl, rfl, rfl, by decide +kernel⟩
set_option maxRecDepth 20000 in
theorem fg_RX7_17 : am_okF RX7 17 6 1 := ⟨_, _, _, _, am_k6, by decide, am_mem 211 rfl rfl⟩
set_option maxRecDepth 20000 in
theorem fq_RX7_17 : am_okPF RX7 17 6 1 (.array (.object "FlapBoard$Text")) := ⟨_, _, _, _, am_k6, by decide, am_mem 211 rfl rfl, rfl, rfl, by decide +kernel⟩
set_option maxRecDepth 20000 in
theorem fg_RX7_24 : am_okF RX7 24 6 2 := ⟨_, _, _, _, am_k6, by decide, am_mem 212 rfl rfl⟩
set_option maxRecDepth 20000 in
theorem fq_RX7_24 : am_okPF RX7 24 6 2 (.object "FlapBoard$Board") := ⟨_, _, _, _, am_k6, by decide, am_mem 212 rfl rfl, rfl, rfl, by decide +kernel⟩
set_option maxRecDepth 20000 in
theorem fg_RX7_28 : am_okF RX7 28 6 3 := ⟨_, _, _, _, am_k6, by decide, am_mem 213 rfl rfl⟩
set_option maxRecDepth 20000 in
theorem fq_RX7_28 : am_okPF RX7 28 6 3 (.object "FlapBoard$Board") := ⟨_, _, _, _, am_k6, by decide, am_mem 213 rfl rfl, rfl, rfl, by decide +kernel⟩
set_option maxRecDepth 20000 in
theorem fg_RX7_31 : am_okF RX7 31 6 4 := ⟨_, _, _, _, am_k6, by decide, am_mem 214 rfl rfl⟩
set_option maxRecDepth 20000 in
theorem fq_RX7_31 : am_okPF RX7 31 6 4 (.object "FlapBoard$Board") := ⟨_, _, _, _, am_k6, by decide, am_mem 214 rfl rfl, rfl, rfl, by decide +kernel⟩
set_option maxRecDepth 20000 in
theorem fg_RX7_34 : am_okF RX7 34 6 5 := ⟨_, _, _, _, am_k6, by decide, am_mem 215 rfl rfl⟩
set_option maxRecDepth 20000 in
theorem fq_RX7_34 : am_okPF RX7 34 6 5 (.object "FlapBoard$Board") := ⟨_, _, _, _, am_k6, by decide, am_mem 215 rfl rfl, rfl, rfl, by decide +kernel⟩
set_option maxRecDepth 20000 in
theorem fg_RX7_40 : am_okF RX7 40 6 6 := ⟨_, _, _, _, am_k6, by decide, am_mem 216 rfl rfl⟩
set_option maxRecDepth 20000 in
theorem fq_RX7_40 : am_okPF RX7 40 6 6 (.object "FlapBoard$Deeds") := ⟨_, _, _, _, am_k6, by decide, am_mem 216 rfl rfl, rfl, rfl, by decide +kernel⟩
set_option maxRecDepth 20000 in
theorem fg_RX7_44 : am_okF RX7 44 6 7 := ⟨_, _, _, _, am_k6, by decide, am_mem 217 rfl rfl⟩
set_option maxRecDepth 20000 in
theorem fq_RX7_44 : am_okPF RX7 44 6 7 (.array (.object "FlapBoard$Deeds")) := ⟨_, _, _, _, am_k6, by decide, am_mem 217 rfl rfl, rfl, rfl, by decide +kernel⟩
set_option maxRecDepth 20000 in
theorem fg_RX7_51 : am_okF RX7 51 6 8 := ⟨_, _, _, _, am_k6, by decide, am_mem 218 rfl rfl⟩
set_option maxRecDepth 20000 in
theorem fq_RX7_51 : am_okPF RX7 51 6 8 (.object "FlapBoard$OrderSearch") := ⟨_, _, _, _, am_k6, by decide, am_mem 218 rfl rfl, rfl, rfl, by decide +kernel⟩
set_option maxRecDepth 20000 in
theorem fg_RX7_55 : am_okF RX7 55 6 9 := ⟨_, _, _, _, am_k6, by decide, am_mem 219 rfl rfl⟩
set_option maxRecDepth 20000 in
theorem fq_RX7_55 : am_okPF RX7 55 6 9 (.array .int) := ⟨_, _, _, _, am_k6, by decide, am_mem 219 rfl rfl, rfl, rfl, by decide +kernel⟩
set_option maxRecDepth 20000 in
theorem fg_RX7_61 : am_okF RX7 61 6 10 := ⟨_, _, _, _, am_k6, by decide, am_mem 220 rfl rfl⟩
set_option maxRecDepth 20000 in
theorem fq_RX7_61 : am_okPF RX7 61 6 10 (.array (.array .int)) := ⟨_, _, _, _, am_k6, by decide, am_mem 220 rfl rfl, rfl, rfl, by decide +kernel⟩
set_option maxRecDepth 20000 in
theorem fg_RX7_64 : am_okF RX7 64 6 11 := ⟨_, _, _, _, am_k6, by decide, am_mem 221 rfl rfl⟩
set_option maxRecDepth 20000 in
theorem fq_RX7_64 : am_okPF RX7 64 6 11 (.array .long) := ⟨_, _, _, _, am_k6, by decide, am_mem 221 rfl rfl, rfl, rfl, by decide +kernel⟩
set_option maxRecDepth 20000 in
theorem fg_RX7_71 : am_okF RX7 71 6 12 := ⟨_, _, _, _, am_k6, by decide, am_mem 222 rfl rfl⟩
set_option maxRecDepth 20000 in
theorem fq_RX7_71 : am_okPF RX7 71 6 12 (.object "FlapBoard$Share") := ⟨_, _, _, _, am_k6, by decide, am_mem 222 rfl rfl, rfl, rfl, by decide +kernel⟩
set_option maxRecDepth 20000 in
theorem fg_RX7_75 : am_okF RX7 75 6 13 := ⟨_, _, _, _, am_k6, by decide, am_mem 223 rfl rfl⟩
set_option maxRecDepth 20000 in
theorem fq_RX7_75 : am_okPF RX7 75 6 13 (.array .int) := ⟨_, _, _, _, am_k6, by decide, am_mem 223 rfl rfl, rfl, rfl, by decide +kernel⟩
set_option maxRecDepth 20000 in
theorem fg_RX7_303 : am_okF RX7 303 6 14 := ⟨_, _, _, _, am_k6, by decide, am_mem 224 rfl rfl⟩
set_option maxRecDepth 20000 in
theorem fp_RX7_303 : am_okP RX7 303 6 14 .int := ⟨_, _, _, _, am_k6, by decide, am_mem 224 rfl rfl, rfl, rfl⟩
set_option maxRecDepth 20000 in
theorem fg_RX7_103 : am_okF RX7 103 6 15 := ⟨_, _, _, _, am_k6, by decide, am_mem 225 rfl rfl⟩
set_option maxRecDepth 20000 in
theorem fp_RX7_103 : am_okP RX7 103 6 15 .int := ⟨_, _, _, _, am_k6, by decide, am_mem 225 rfl rfl, rfl, rfl⟩
set_option maxRecDepth 20000 in
theorem fg_RX8_7 : am_okF RX8 7 7 0 := ⟨_, _, _, _, am_k7, by decide, am_mem 749 rfl rfl⟩
set_option maxRecDepth 20000 in
theorem fq_RX8_7 : am_okPF RX8 7 7 0 (.array .int) := ⟨_, _, _, _, am_k7, by decide, am_mem 749 rfl rfl, rfl, rfl, by decide +kernel⟩
set_option maxRecDepth 20000 in
theorem fg_RX8_13 : am_okF RX8 13 7 1 := ⟨_, _, _, _, am_k7, by decide, am_mem 750 rfl rfl⟩
set_option maxRecDepth 20000 in
theorem fq_RX8_13 : am_okPF RX8 13 7 1 (.array .int) := ⟨_, _, _, _, am_k7, by decide, am_mem 750 rfl rfl, rfl, rfl, by decide +kernel⟩
set_option maxRecDepth 20000 in
theorem fg_RX8_16 : am_okF RX8 16 7 2 := ⟨_, _, _, _, am_k7, by decide, am_mem 751 rfl rfl⟩
set_option maxRecDepth 20000 in
theorem fq_RX8_16 : am_okPF RX8 16 7 2 (.array .int) := ⟨_, _, _, _, am_k7, by decide, am_mem 751 rfl rfl, rfl, rfl, by decide +kernel⟩
set_option maxRecDepth 20000 in
theorem fg_RX8_19 : am_okF RX8 19 7 3 := ⟨_, _, _, _, am_k7, by decide, am_mem 752 rfl rfl⟩
set_option maxRecDepth 20000 in
theorem fq_RX8_19 : am_okPF RX8 19 7 3 (.array .int) := ⟨_, _, _, _, am_k7, by decide, am_mem 752 rfl rfl, rfl, rfl, by decide +kernel⟩
set_option maxRecDepth 20000 in
theorem fg_RX8_22 : am_okF RX8 22 7 4 := ⟨_, _, _, _, am_k7, by decide, am_mem 753 rfl rfl⟩
set_option maxRecDepth 20000 in
theorem fq_RX8_22 : am_okPF RX8 22 7 4 (.array .byte) := ⟨_, _, _, _, am_k7, by decide, am_mem 753 rfl rfl, rfl, rfl, by decide +kernel⟩
set_option maxRecDepth 20000 in
theorem fg_RX8_26 : am_okF RX8 26 7 5 := ⟨_, _, _, _, am_k7, by decide, am_mem 754 rfl rfl⟩
set_option maxRecDepth 20000 in
theorem fq_RX8_26 : am_okPF RX8 26 7 5 (.array .int) := ⟨_, _, _, _, am_k7, by decide, am_mem 754 rfl rfl, rfl, rfl, by decide +kernel⟩
set_option maxRecDepth 20000 in
theorem fg_RX8_29 : am_okF RX8 29 7 6 := ⟨_, _, _, _, am_k7, by decide, am_mem 755 rfl rfl⟩
set_option maxRecDepth 20000 in
theorem fq_RX8_29 : am_okPF RX8 29 7 6 (.array .int) := ⟨_, _, _, _, am_k7, by decide, am_mem 755 rfl rfl, rfl, rfl, by decide +kernel⟩
set_option maxRecDepth 20000 in
theorem fg_RX8_32 : am_okF RX8 32 7 7 := ⟨_, _, _, _, am_k7, by decide, am_mem 756 rfl rfl⟩
set_option maxRecDepth 20000 in
theorem fq_RX8_32 : am_okPF RX8 32 7 7 (.array .int) := ⟨_, _, _, _, am_k7, by decide, am_mem 756 rfl rfl, rfl, rfl, by decide +kernel⟩
set_option maxRecDepth 20000 in
theorem fg_RX8_35 : am_okF RX8 35 7 8 := ⟨_, _, _, _, am_k7, by decide, am_mem 757 rfl rfl⟩
set_option maxRecDepth 20000 in
theorem fq_RX8_35 : am_okPF RX8 35 7 8 (.array .int) := ⟨_, _, _, _, am_k7, by decide, am_mem 757 rfl rfl, rfl, rfl, by decide +kernel⟩
set_option maxRecDepth 20000 in
theorem fg_RX8_38 : am_okF RX8 38 7 9 := ⟨_, _, _, _, am_k7, by decide, am_mem 758 rfl rfl⟩
set_option maxRecDepth 20000 in
theorem fq_RX8_38 : am_okPF RX8 38 7 9 (.array .int) := ⟨_, _, _, _, am_k7, by decide, am_mem 758 rfl rfl, rfl, rfl, by decide +kernel⟩
set_option maxRecDepth 20000 in
theorem fg_RX8_111 : am_okF RX8 111 7 10 := ⟨_, _, _, _, am_k7, by decide, am_mem 759 rfl rfl⟩
set_option maxRecDepth 20000 in
theorem fp_RX8_111 : am_okP RX8 111 7 10 .int := ⟨_, _, _, _, am_k7, by decide, am_mem 759 rfl rfl, rfl, rfl⟩
set_option maxRecDepth 20000 in
theorem fg_RX8_41 : am_okF RX8 41 7 11 := ⟨_, _, _, _, am_k7, by decide, am_mem 760 rfl rfl⟩
set_option maxRecDepth 20000 in
theorem fq_RX8_41 : am_okPF RX8 41 7 11 (.array .int) := ⟨_, _, _, _, am_k7, by decide, am_mem 760 rfl rfl, rfl, rfl, by decide +kernel⟩
set_option maxRecDepth 20000 in
theorem fg_RX8_44 : am_okF RX8 44 7 12 := ⟨_, _, _, _, am_k7, by decide, am_mem 761 rfl rfl⟩
set_option maxRecDepth 20000 in
theorem fq_RX8_44 : am_okPF RX8 44 7 12 (.array .int) := ⟨_, _, _, _, am_k7, by decide, am_mem 761 rfl rfl, rfl, rfl, by decide +kernel⟩
set_option maxRecDepth 20000 in
theorem fg_RX8_47 : am_okF RX8 47 7 13 := ⟨_, _, _, _, am_k7, by decide, am_mem 762 rfl rfl⟩
set_option maxRecDepth 20000 in
theorem fq_RX8_47 : am_okPF RX8 47 7 13 (.array .int) := ⟨_, _, _, _, am_k7, by decide, am_mem 762 rfl rfl, rfl, rfl, by decide +kernel⟩
set_option maxRecDepth 20000 in
theorem fg_RX8_70 : am_okF RX8 70 7 14 := ⟨_, _, _, _, am_k7, by decide, am_mem 763 rfl rfl⟩
set_option maxRecDepth 20000 in
theorem fp_RX8_70 : am_okP RX8 70 7 14 .int := ⟨_, _, _, _, am_k7, by decide, am_mem 763 rfl rfl, rfl, rfl⟩
set_option maxRecDepth 20000 in
theorem fg_RX8_197 : am_okF RX8 197 7 15 := ⟨_, _, _, _, am_k7, by decide, am_mem 764 rfl rfl⟩
set_option maxRecDepth 20000 in
theorem fp_RX8_197 : am_okP RX8 197 7 15 .long := ⟨_, _, _, _, am_k7, by decide, am_mem 764 rfl rfl, rfl, rfl⟩
set_option maxRecDepth 20000 in
theorem fg_RX8_50 : am_okF RX8 50 7 16 := ⟨_, _, _, _, am_k7, by decide, am_mem 765 rfl rfl⟩
set_option maxRecDepth 20000 in
theorem fp_RX8_50 : am_okP RX8 50 7 16 .long := ⟨_, _, _, _, am_k7, by decide, am_mem 765 rfl rfl, rfl, rfl⟩
set_option maxRecDepth 20000 in
theorem fg_RX8_66 : am_okF RX8 66 7 17 := ⟨_, _, _, _, am_k7, by decide, am_mem 766 rfl rfl⟩
set_option maxRecDepth 20000 in
theorem fp_RX8_66 : am_okP RX8 66 7 17 .int := ⟨_, _, _, _, am_k7, by decide, am_mem 766 rfl rfl, rfl, rfl⟩
set_option maxRecDepth 20000 in
theorem fg_RX8_54 : am_okF RX8 54 7 18 := ⟨_, _, _, _, am_k7, by decide, am_mem 767 rfl rfl⟩
set_option maxRecDepth 20000 in
theorem fq_RX8_54 : am_okPF RX8 54 7 18 (.array .int) := ⟨_, _, _, _, am_k7, by decide, am_mem 767 rfl rfl, rfl, rfl, by decide +kernel⟩
set_option maxRecDepth 20000 in
theorem fg_RX8_57 : am_okF RX8 57 7 19 := ⟨_, _, _, _, am_k7, by decide, am_mem 768 rfl rfl⟩
set_option maxRecDepth 20000 in
theorem fq_RX8_57 : am_okPF RX8 57 7 19 (.array .int) := ⟨_, _, _, _, am_k7, by decide, am_mem 768 rfl rfl, rfl, rfl, by decide +kernel⟩
set_option maxRecDepth 20000 in
theorem fg_RX8_60 : am_okF RX8 60 7 20 := ⟨_, _, _, _, am_k7, by decide, am_mem 769 rfl rfl⟩
set_option maxRecDepth 20000 in
theorem fq_RX8_60 : am_okPF RX8 60 7 20 (.array .int) := ⟨_, _, _, _, am_k7, by decide, am_mem 769 rfl rfl, rfl, rfl, by decide +kernel⟩
set_option maxRecDepth 20000 in
theorem fg_RX8_63 : am_okF RX8 63 7 21 := ⟨_, _, _, _, am_k7, by decide, am_mem 770 rfl rfl⟩
set_option maxRecDepth 20000 in
theorem fq_RX8_63 : am_okPF RX8 63 7 21 (.array .int) := ⟨_, _, _, _, am_k7, by decide, am_mem 770 rfl rfl, rfl, rfl, by decide +kernel⟩
set_option maxRecDepth 20000 in
theorem fm_RL_9 : am_okI RL 9 kX7_init 0 := ⟨ok_X7_init, am_mem 66 rfl rfl, am_mem 67 rfl rfl, rfl, rfl, by decide +kernel⟩
set_option maxRecDepth 20000 in
theorem fo_RX7_1 : am_okO RX7 1 := ⟨am_mem 69 rfl rfl, am_mem 70 rfl rfl, am_mem 71 rfl rfl⟩
set_option maxRecDepth 20000 in
theorem fm_RX7_23 : am_okIN RX7 23 kX0_init 0 := ⟨ok_X0_init, ⟨_, am_memN 78 rfl rfl⟩, am_mem 79 rfl rfl, rfl, rfl, by decide +kernel⟩
set_option maxRecDepth 20000 in
theorem fo_RX0_3 : am_okO RX0 3 := ⟨am_mem 81 rfl rfl, am_mem 70 rfl rfl, am_mem 71 rfl rfl⟩
set_option maxRecDepth 20000 in
theorem fm_RX7_39 : am_okIN RX7 39 kX1_init 0 := ⟨ok_X1_init, ⟨_, am_memN 123 rfl rfl⟩, am_mem 124 rfl rfl, rfl, rfl, by decide +kernel⟩
set_option maxRecDepth 20000 in
theorem fo_RX1_3 : am_okO RX1 3 := ⟨am_mem 126 rfl rfl, am_mem 70 rfl rfl, am_mem 71 rfl rfl⟩
set_option maxRecDepth 20000 in
theorem fm_RX7_50 : am_okI RX7 50 kX2_init 0 := ⟨ok_X2_init, am_mem 139 rfl rfl, am_mem 140 rfl rfl, rfl, rfl, by decide +kernel⟩
set_option maxRecDepth 20000 in
theorem fo_RX2_3 : am_okO RX2 3 := ⟨am_mem 142 rfl rfl, am_mem 70 rfl rfl, am_mem 71 rfl rfl⟩
set_option maxRecDepth 20000 in
theorem fm_RX2_24 : am_okIN RX2 24 kX0_init 0 := ⟨ok_X0_init, ⟨_, am_memN 145 rfl rfl⟩, am_mem 79 rfl rfl, rfl, rfl, by decide +kernel⟩
set_option maxRecDepth 20000 in
theorem fm_RX7_70 : am_okIN RX7 70 kX5_init 0 := ⟨ok_X5_init, ⟨_, am_memN 164 rfl rfl⟩, am_mem 165 rfl rfl, rfl, rfl, by decide +kernel⟩
set_option maxRecDepth 20000 in
theorem fo_RX5_1 : am_okO RX5 1 := ⟨am_mem 167 rfl rfl, am_mem 70 rfl rfl, am_mem 71 rfl rfl⟩
set_option maxRecDepth 20000 in
theorem fm_RX7_78 : am_okIN RX7 78 kX4_init 0 := ⟨ok_X4_init, ⟨_, am_memN 179 rfl rfl⟩, am_mem 180 rfl rfl, rfl, rfl, by decide +kernel⟩
set_option maxRecDepth 20000 in
theorem fo_RX4_3 : am_okO RX4 3 := ⟨am_mem 182 rfl rfl, am_mem 70 rfl rfl, am_mem 71 rfl rfl⟩
set_option maxRecDepth 20000 in
theorem fm_RX7_79 : am_okIN RX7 79 kX6_init 0 := ⟨ok_X6_init, ⟨_, am_memN 195 rfl rfl⟩, am_mem 196 rfl rfl, rfl, rfl, by decide +kernel⟩
set_option maxRecDepth 20000 in
theorem fo_RX6_3 : am_okO RX6 3 := ⟨am_mem 198 rfl rfl, am_mem 70 rfl rfl, am_mem 71 rfl rfl⟩
set_option maxRecDepth 20000 in
theorem fm_RL_13 : am_okV RL 13 kX7_row 2 6 := ⟨ok_X7_row, am_mem 259 rfl rfl, am_mem 260 rfl rfl, am_mem 261 rfl rfl, by decide +kernel, _, _, _, am_k6⟩
set_option maxRecDepth 20000 in
theorem fm_RX7_84 : am_okS RX7 84 kX7_isRow 1 := ⟨ok_X7_isRow, am_mem 263 rfl rfl, am_mem 264 rfl rfl, by decide +kernel⟩
set_option maxRecDepth 20000 in
theorem fm_RX7_88 : am_okV RX7 88 kX7_found 1 6 := ⟨ok_X7_found, am_mem 266 rfl rfl, am_mem 268 rfl rfl, am_mem 0 rfl rfl, by decide +kernel, _, _, _, am_k6⟩
set_option maxRecDepth 20000 in
theorem fm_RX7_92 : am_okV RX7 92 kX4_begin 1 3 := ⟨ok_X4_begin, am_mem 270 rfl rfl, am_mem 271 rfl rfl, am_mem 272 rfl rfl, by decide +kernel, _, _, _, am_k3⟩
set_option maxRecDepth 20000 in
theorem fm_RL_18 : am_okV RL 18 kX7_lay 3 6 := ⟨ok_X7_lay, am_mem 274 rfl rfl, am_mem 275 rfl rfl, am_mem 276 rfl rfl, by decide +kernel, _, _, _, am_k6⟩
set_option maxRecDepth 20000 in
theorem fm_RX7_96 : am_okV RX7 96 kX7_placeRefused 2 6 := ⟨ok_X7_placeRefused, am_mem 278 rfl rfl, am_mem 280 rfl rfl, am_mem 1 rfl rfl, by decide +kernel, _, _, _, am_k6⟩
set_option maxRecDepth 20000 in
theorem fm_RX7_106 : am_okV RX7 106 kX7_rowRefused 1 6 := ⟨ok_X7_rowRefused, am_mem 282 rfl rfl, am_mem 284 rfl rfl, am_mem 2 rfl rfl, by decide +kernel, _, _, _, am_k6⟩
set_option maxRecDepth 20000 in
theorem fm_RX7_110 : am_okV RX7 110 kX4_isMissing 0 3 := ⟨ok_X4_isMissing, am_mem 286 rfl rfl, am_mem 287 rfl rfl, am_mem 288 rfl rfl, by decide +kernel, _, _, _, am_k3⟩
set_option maxRecDepth 20000 in
theorem fm_RL_23 : am_okV RL 23 kX7_at 2 6 := ⟨ok_X7_at, am_mem 290 rfl rfl, am_mem 291 rfl rfl, am_mem 292 rfl rfl, by decide +kernel, _, _, _, am_k6⟩
set_option maxRecDepth 20000 in
theorem fm_RL_27 : am_okV RL 27 kX7_tear 1 6 := ⟨ok_X7_tear, am_mem 294 rfl rfl, am_mem 295 rfl rfl, am_mem 296 rfl rfl, by decide +kernel, _, _, _, am_k6⟩
set_option maxRecDepth 20000 in
theorem fm_RL_32 : am_okV RL 32 kX7_copy 5 6 := ⟨ok_X7_copy, am_mem 298 rfl rfl, am_mem 299 rfl rfl, am_mem 300 rfl rfl, by decide +kernel, _, _, _, am_k6⟩
set_option maxRecDepth 20000 in
theorem fm_RX7_114 : am_okV RX7 114 kX4_holds 2 3 := ⟨ok_X4_holds, am_mem 302 rfl rfl, am_mem 303 rfl rfl, am_mem 304 rfl rfl, by decide +kernel, _, _, _, am_k3⟩
set_option maxRecDepth 20000 in
theorem fa_RX7_118 : am_okA RX7 118 := ⟨am_mem 306 rfl rfl, am_mem 308 rfl rfl, am_mem 307 rfl rfl, am_mem 60 rfl rfl⟩
set_option maxRecDepth 20000 in
theorem fm_RL_37 : am_okV RL 37 kX7_mean 1 6 := ⟨ok_X7_mean, am_mem 309 rfl rfl, am_mem 310 rfl rfl, am_mem 311 rfl rfl, by decide +kernel, _, _, _, am_k6⟩
set_option maxRecDepth 20000 in
theorem fm_RL_41 : am_okV RL 41 kX7_text 2 6 := ⟨ok_X7_text, am_mem 313 rfl rfl, am_mem 314 rfl rfl, am_mem 315 rfl rfl, by decide +kernel, _, _, _, am_k6⟩
set_option maxRecDepth 20000 in
theorem fm_RX7_124 : am_okS RX7 124 kX7_isText 1 := ⟨ok_X7_isText, am_mem 317 rfl rfl, am_mem 318 rfl rfl, by decide +kernel⟩
set_option maxRecDepth 20000 in
theorem fm_RX7_127 : am_okV RX7 127 kX6_begin 1 5 := ⟨ok_X6_begin, am_mem 320 rfl rfl, am_mem 321 rfl rfl, am_mem 322 rfl rfl, by decide +kernel, _, _, _, am_k5⟩
set_option maxRecDepth 20000 in
theorem fm_RL_45 : am_okV RL 45 kX7_put 3 6 := ⟨ok_X7_put, am_mem 324 rfl rfl, am_mem 325 rfl rfl, am_mem 326 rfl rfl, by decide +kernel, _, _, _, am_k6⟩
set_option maxRecDepth 20000 in
theorem fm_RX7_128 : am_okV RX7 128 kX7_textRefused 1 6 := ⟨ok_X7_textRefused, am_mem 328 rfl rfl, am_mem 330 rfl rfl, am_mem 3 rfl rfl, by decide +kernel, _, _, _, am_k6⟩
set_option maxRecDepth 20000 in
theorem fm_RX7_315 : am_okV RX7 315 kX6_isMissing 0 5 := ⟨ok_X6_isMissing, am_mem 332 rfl rfl, am_mem 333 rfl rfl, am_mem 334 rfl rfl, by decide +kernel, _, _, _, am_k5⟩
set_option maxRecDepth 20000 in
theorem fm_RL_49 : am_okV RL 49 kX7_fault 1 6 := ⟨ok_X7_fault, am_mem 336 rfl rfl, am_mem 337 rfl rfl, am_mem 338 rfl rfl, by decide +kernel, _, _, _, am_k6⟩
set_option maxRecDepth 20000 in
theorem fm_RX7_136 : am_okS RX7 136 kX3_read 2 := ⟨ok_X3_read, am_mem 340 rfl rfl, am_mem 341 rfl rfl, by decide +kernel⟩
set_option maxRecDepth 20000 in
theorem fm_RX3_9 : am_okV RX3 9 kX6_pastBlanks 1 5 := ⟨ok_X6_pastBlanks, am_mem 343 rfl rfl, am_mem 344 rfl rfl, am_mem 345 rfl rfl, by decide +kernel, _, _, _, am_k5⟩
set_option maxRecDepth 20000 in
theorem fm_RX3_15 : am_okV RX3 15 kX6_isFigure 2 5 := ⟨ok_X6_isFigure, am_mem 347 rfl rfl, am_mem 348 rfl rfl, am_mem 349 rfl rfl, by decide +kernel, _, _, _, am_k5⟩
set_option maxRecDepth 20000 in
theorem fm_RX3_19 : am_okV RX3 19 kX6_figure 1 5 := ⟨ok_X6_figure, am_mem 351 rfl rfl, am_mem 352 rfl rfl, am_mem 353 rfl rfl, by decide +kernel, _, _, _, am_k5⟩
set_option maxRecDepth 20000 in
theorem fm_RX3_22 : am_okV RX3 22 kX0_begin 1 0 := ⟨ok_X0_begin, am_mem 355 rfl rfl, am_mem 356 rfl rfl, am_mem 357 rfl rfl, by decide +kernel, _, _, _, am_k0⟩
set_option maxRecDepth 20000 in
theorem fm_RX3_32 : am_okS RX3 32 kX3_faultOfDrum 2 := ⟨ok_X3_faultOfDrum, am_mem 359 rfl rfl, am_mem 360 rfl rfl, by decide +kernel⟩
set_option maxRecDepth 20000 in
theorem fm_RX3_38 : am_okV RX3 38 kX6_kind 1 5 := ⟨ok_X6_kind, am_mem 362 rfl rfl, am_mem 363 rfl rfl, am_mem 364 rfl rfl, by decide +kernel, _, _, _, am_k5⟩
set_option maxRecDepth 20000 in
theorem fm_RX3_41 : am_okV RX3 41 kX0_addDrum 3 0 := ⟨ok_X0_addDrum, am_mem 368 rfl rfl, am_mem 369 rfl rfl, am_mem 370 rfl rfl, by decide +kernel, _, _, _, am_k0⟩
set_option maxRecDepth 20000 in
theorem fm_RL_53 : am_okV RL 53 kX7_board 1 6 := ⟨ok_X7_board, am_mem 372 rfl rfl, am_mem 373 rfl rfl, am_mem 374 rfl rfl, by decide +kernel, _, _, _, am_k6⟩
set_option maxRecDepth 20000 in
theorem fm_RX7_142 : am_okV RX7 142 kX0_become 1 0 := ⟨ok_X0_become, am_mem 376 rfl rfl, am_mem 377 rfl rfl, am_mem 378 rfl rfl, by decide +kernel, _, _, _, am_k0⟩
set_option maxRecDepth 20000 in
theorem fa_RX0_28 : am_okA RX0 28 := ⟨am_mem 380 rfl rfl, am_mem 308 rfl rfl, am_mem 307 rfl rfl, am_mem 60 rfl rfl⟩
set_option maxRecDepth 20000 in
theorem fm_RX7_146 : am_okV RX7 146 kX7_doAgain 1 6 := ⟨ok_X7_doAgain, am_mem 381 rfl rfl, am_mem 383 rfl rfl, am_mem 4 rfl rfl, by decide +kernel, _, _, _, am_k6⟩
set_option maxRecDepth 20000 in
theorem fm_RX7_356 : am_okV RX7 356 kX0_carryOut 1 0 := ⟨ok_X0_carryOut, am_mem 385 rfl rfl, am_mem 386 rfl rfl, am_mem 387 rfl rfl, by decide +kernel, _, _, _, am_k0⟩
set_option maxRecDepth 20000 in
theorem fm_RX0_79 : am_okS RX0 79 kX1_drumOf 1 := ⟨ok_X1_drumOf, am_mem 389 rfl rfl, am_mem 390 rfl rfl, by decide +kernel⟩
set_option maxRecDepth 20000 in
theorem fm_RX0_84 : am_okS RX0 84 kX1_whatOf 1 := ⟨ok_X1_whatOf, am_mem 392 rfl rfl, am_mem 393 rfl rfl, by decide +kernel⟩
set_option maxRecDepth 20000 in
theorem fm_RX0_64 : am_okV RX0 64 kX0_step 0 0 := ⟨ok_X0_step, am_mem 395 rfl rfl, am_mem 396 rfl rfl, am_mem 397 rfl rfl, by decide +kernel, _, _, _, am_k0⟩
set_option maxRecDepth 20000 in
theorem fm_RX0_54 : am_okV RX0 54 kX0_isReady 1 0 := ⟨ok_X0_isReady, am_mem 399 rfl rfl, am_mem 400 rfl rfl, am_mem 401 rfl rfl, by decide +kernel, _, _, _, am_k0⟩
set_option maxRecDepth 20000 in
theorem fm_RX0_46 : am_okV RX0 46 kX0_isDue 1 0 := ⟨ok_X0_isDue, am_mem 403 rfl rfl, am_mem 404 rfl rfl, am_mem 405 rfl rfl, by decide +kernel, _, _, _, am_k0⟩
set_option maxRecDepth 20000 in
theorem fm_RX0_57 : am_okV RX0 57 kX0_isJammed 1 0 := ⟨ok_X0_isJammed, am_mem 407 rfl rfl, am_mem 408 rfl rfl, am_mem 409 rfl rfl, by decide +kernel, _, _, _, am_k0⟩
set_option maxRecDepth 20000 in
theorem fm_RX0_60 : am_okV RX0 60 kX0_afterTurn 1 0 := ⟨ok_X0_afterTurn, am_mem 411 rfl rfl, am_mem 412 rfl rfl, am_mem 413 rfl rfl, by decide +kernel, _, _, _, am_k0⟩
set_option maxRecDepth 20000 in
theorem fm_RX0_50 : am_okV RX0 50 kX0_skippedFrom 2 0 := ⟨ok_X0_skippedFrom, am_mem 415 rfl rfl, am_mem 417 rfl rfl, am_mem 5 rfl rfl, by decide +kernel, _, _, _, am_k0⟩
set_option maxRecDepth 20000 in
theorem fm_RX0_87 : am_okS RX0 87 kX1_valueOf 1 := ⟨ok_X1_valueOf, am_mem 419 rfl rfl, am_mem 420 rfl rfl, by decide +kernel⟩
set_option maxRecDepth 20000 in
theorem fm_RL_57 : am_okV RL 57 kX7_drum 2 6 := ⟨ok_X7_drum, am_mem 422 rfl rfl, am_mem 423 rfl rfl, am_mem 424 rfl rfl, by decide +kernel, _, _, _, am_k6⟩
set_option maxRecDepth 20000 in
theorem fm_RX7_152 : am_okV RX7 152 kX7_isDrum 1 6 := ⟨ok_X7_isDrum, am_mem 426 rfl rfl, am_mem 428 rfl rfl, am_mem 6 rfl rfl, by decide +kernel, _, _, _, am_k6⟩
set_option maxRecDepth 20000 in
theorem fm_RX7_155 : am_okV RX7 155 kX7_drumFact 2 6 := ⟨ok_X7_drumFact, am_mem 430 rfl rfl, am_mem 432 rfl rfl, am_mem 7 rfl rfl, by decide +kernel, _, _, _, am_k6⟩
set_option maxRecDepth 20000 in
theorem fm_RX7_325 : am_okV RX7 325 kX0_isJammed 1 0 := ⟨ok_X0_isJammed, am_mem 434 rfl rfl, am_mem 408 rfl rfl, am_mem 409 rfl rfl, by decide +kernel, _, _, _, am_k0⟩
set_option maxRecDepth 20000 in
theorem fm_RX7_328 : am_okV RX7 328 kX0_isReady 1 0 := ⟨ok_X0_isReady, am_mem 435 rfl rfl, am_mem 400 rfl rfl, am_mem 401 rfl rfl, by decide +kernel, _, _, _, am_k0⟩
set_option maxRecDepth 20000 in
theorem fm_RX7_181 : am_okV RX7 181 kX0_afterTurn 1 0 := ⟨ok_X0_afterTurn, am_mem 436 rfl rfl, am_mem 412 rfl rfl, am_mem 413 rfl rfl, by decide +kernel, _, _, _, am_k0⟩
set_option maxRecDepth 20000 in
theorem fm_RL_61 : am_okV RL 61 kX7_mark 2 6 := ⟨ok_X7_mark, am_mem 437 rfl rfl, am_mem 438 rfl rfl, am_mem 439 rfl rfl, by decide +kernel, _, _, _, am_k6⟩
set_option maxRecDepth 20000 in
theorem fm_RX7_161 : am_okS RX7 161 kX7_isOf 2 := ⟨ok_X7_isOf, am_mem 441 rfl rfl, am_mem 442 rfl rfl, by decide +kernel⟩
set_option maxRecDepth 20000 in
theorem fm_RX7_164 : am_okV RX7 164 kX7_dueTicks 2 6 := ⟨ok_X7_dueTicks, am_mem 444 rfl rfl, am_mem 446 rfl rfl, am_mem 8 rfl rfl, by decide +kernel, _, _, _, am_k6⟩
set_option maxRecDepth 20000 in
theorem fm_RX7_346 : am_okV RX7 346 kX0_isDue 1 0 := ⟨ok_X0_isDue, am_mem 448 rfl rfl, am_mem 404 rfl rfl, am_mem 405 rfl rfl, by decide +kernel, _, _, _, am_k0⟩
set_option maxRecDepth 20000 in
theorem fm_RX7_167 : am_okV RX7 167 kX7_figuresNeverShown 1 6 := ⟨ok_X7_figuresNeverShown, am_mem 449 rfl rfl, am_mem 451 rfl rfl, am_mem 9 rfl rfl, by decide +kernel, _, _, _, am_k6⟩
set_option maxRecDepth 20000 in
theorem fm_RX7_203 : am_okS RX7 203 kJ6_bitCount_0f7a4 1 := ⟨ok_J6_bitCount_0f7a4, am_mem 453 rfl rfl, am_mem 454 rfl rfl, by decide +kernel⟩
set_option maxRecDepth 20000 in
theorem fm_RX7_176 : am_okS RX7 176 kJ9_floorMod_7cf53 2 := ⟨ok_J9_floorMod_7cf53, am_mem 459 rfl rfl, am_mem 460 rfl rfl, by decide +kernel⟩
set_option maxRecDepth 20000 in
theorem fm_RL_65 : am_okV RL 65 kX7_tick 0 6 := ⟨ok_X7_tick, am_mem 462 rfl rfl, am_mem 463 rfl rfl, am_mem 464 rfl rfl, by decide +kernel, _, _, _, am_k6⟩
set_option maxRecDepth 20000 in
theorem fm_RX7_187 : am_okV RX7 187 kX1_isFull 1 1 := ⟨ok_X1_isFull, am_mem 466 rfl rfl, am_mem 467 rfl rfl, am_mem 468 rfl rfl, by decide +kernel, _, _, _, am_k1⟩
set_option maxRecDepth 20000 in
theorem fm_RX7_193 : am_okV RX7 193 kX7_carryOut 3 6 := ⟨ok_X7_carryOut, am_mem 470 rfl rfl, am_mem 472 rfl rfl, am_mem 10 rfl rfl, by decide +kernel, _, _, _, am_k6⟩
set_option maxRecDepth 20000 in
theorem fm_RX7_349 : am_okS RX7 349 kX1_packed 3 := ⟨ok_X1_packed, am_mem 474 rfl rfl, am_mem 475 rfl rfl, by decide +kernel⟩
set_option maxRecDepth 20000 in
theorem fm_RX7_353 : am_okV RX7 353 kX1_add 1 1 := ⟨ok_X1_add, am_mem 477 rfl rfl, am_mem 478 rfl rfl, am_mem 479 rfl rfl, by decide +kernel, _, _, _, am_k1⟩
set_option maxRecDepth 20000 in
theorem fm_RL_70 : am_okV RL 70 kX7_aim 2 6 := ⟨ok_X7_aim, am_mem 481 rfl rfl, am_mem 482 rfl rfl, am_mem 483 rfl rfl, by decide +kernel, _, _, _, am_k6⟩
set_option maxRecDepth 20000 in
theorem fm_RL_74 : am_okV RL 74 kX7_power 1 6 := ⟨ok_X7_power, am_mem 485 rfl rfl, am_mem 486 rfl rfl, am_mem 487 rfl rfl, by decide +kernel, _, _, _, am_k6⟩
set_option maxRecDepth 20000 in
theorem fm_RL_78 : am_okV RL 78 kX7_jam 1 6 := ⟨ok_X7_jam, am_mem 489 rfl rfl, am_mem 490 rfl rfl, am_mem 491 rfl rfl, by decide +kernel, _, _, _, am_k6⟩
set_option maxRecDepth 20000 in
theorem fm_RL_82 : am_okV RL 82 kX7_undo 1 6 := ⟨ok_X7_undo, am_mem 493 rfl rfl, am_mem 494 rfl rfl, am_mem 495 rfl rfl, by decide +kernel, _, _, _, am_k6⟩
set_option maxRecDepth 20000 in
theorem fm_RL_86 : am_okV RL 86 kX7_keep 1 6 := ⟨ok_X7_keep, am_mem 497 rfl rfl, am_mem 498 rfl rfl, am_mem 499 rfl rfl, by decide +kernel, _, _, _, am_k6⟩
set_option maxRecDepth 20000 in
theorem fm_RX7_208 : am_okV RX7 208 kX1_become 1 1 := ⟨ok_X1_become, am_mem 501 rfl rfl, am_mem 502 rfl rfl, am_mem 503 rfl rfl, by decide +kernel, _, _, _, am_k1⟩
set_option maxRecDepth 20000 in
theorem fa_RX1_19 : am_okA RX1 19 := ⟨am_mem 505 rfl rfl, am_mem 308 rfl rfl, am_mem 307 rfl rfl, am_mem 60 rfl rfl⟩
set_option maxRecDepth 20000 in
theorem fm_RL_90 : am_okV RL 90 kX7_on 1 6 := ⟨ok_X7_on, am_mem 506 rfl rfl, am_mem 507 rfl rfl, am_mem 508 rfl rfl, by decide +kernel, _, _, _, am_k6⟩
set_option maxRecDepth 20000 in
theorem fm_RL_94 : am_okV RL 94 kX7_later 1 6 := ⟨ok_X7_later, am_mem 510 rfl rfl, am_mem 511 rfl rfl, am_mem 512 rfl rfl, by decide +kernel, _, _, _, am_k6⟩
set_option maxRecDepth 20000 in
theorem fm_RX7_211 : am_okV RX7 211 kX0_stepOn 1 0 := ⟨ok_X0_stepOn, am_mem 514 rfl rfl, am_mem 515 rfl rfl, am_mem 516 rfl rfl, by decide +kernel, _, _, _, am_k0⟩
set_option maxRecDepth 20000 in
theorem fm_RX7_214 : am_okV RX7 214 kX0_number 0 0 := ⟨ok_X0_number, am_mem 518 rfl rfl, am_mem 519 rfl rfl, am_mem 520 rfl rfl, by decide +kernel, _, _, _, am_k0⟩
set_option maxRecDepth 20000 in
theorem fm_RL_98 : am_okV RL 98 kX7_ends 0 6 := ⟨ok_X7_ends, am_mem 522 rfl rfl, am_mem 523 rfl rfl, am_mem 524 rfl rfl, by decide +kernel, _, _, _, am_k6⟩
set_option maxRecDepth 20000 in
theorem fm_RX7_218 : am_okV RX7 218 kX0_ticksTillTold 1 0 := ⟨ok_X0_ticksTillTold, am_mem 526 rfl rfl, am_mem 527 rfl rfl, am_mem 528 rfl rfl, by decide +kernel, _, _, _, am_k0⟩
set_option maxRecDepth 20000 in
theorem fm_RX0_71 : am_okV RX0 71 kX0_rightOnes 0 0 := ⟨ok_X0_rightOnes, am_mem 530 rfl rfl, am_mem 531 rfl rfl, am_mem 532 rfl rfl, by decide +kernel, _, _, _, am_k0⟩
set_option maxRecDepth 20000 in
theorem fm_RX0_75 : am_okV RX0 75 kX0_isTold 0 0 := ⟨ok_X0_isTold, am_mem 534 rfl rfl, am_mem 535 rfl rfl, am_mem 536 rfl rfl, by decide +kernel, _, _, _, am_k0⟩
set_option maxRecDepth 20000 in
theorem fm_RL_102 : am_okV RL 102 kX7_passes 0 6 := ⟨ok_X7_passes, am_mem 538 rfl rfl, am_mem 539 rfl rfl, am_mem 540 rfl rfl, by decide +kernel, _, _, _, am_k6⟩
set_option maxRecDepth 20000 in
theorem fm_RX7_221 : am_okV RX7 221 kX0_isTold 0 0 := ⟨ok_X0_isTold, am_mem 542 rfl rfl, am_mem 535 rfl rfl, am_mem 536 rfl rfl, by decide +kernel, _, _, _, am_k0⟩
set_option maxRecDepth 20000 in
theorem fm_RX7_224 : am_okV RX7 224 kX0_step 0 0 := ⟨ok_X0_step, am_mem 543 rfl rfl, am_mem 396 rfl rfl, am_mem 397 rfl rfl, by decide +kernel, _, _, _, am_k0⟩
set_option maxRecDepth 20000 in
theorem fm_RX7_227 : am_okS RX7 227 kJ9_max_7cf53 2 := ⟨ok_J9_max_7cf53, am_mem 544 rfl rfl, am_mem 545 rfl rfl, by decide +kernel⟩
set_option maxRecDepth 20000 in
theorem fm_RX7_230 : am_okV RX7 230 kX7_isAmongNumbers 2 6 := ⟨ok_X7_isAmongNumbers, am_mem 547 rfl rfl, am_mem 549 rfl rfl, am_mem 11 rfl rfl, by decide +kernel, _, _, _, am_k6⟩
set_option maxRecDepth 20000 in
theorem fm_RL_106 : am_okV RL 106 kX7_least 0 6 := ⟨ok_X7_least, am_mem 551 rfl rfl, am_mem 552 rfl rfl, am_mem 553 rfl rfl, by decide +kernel, _, _, _, am_k6⟩
set_option maxRecDepth 20000 in
theorem fm_RX7_233 : am_okV RX7 233 kX7_ticksByPower 1 6 := ⟨ok_X7_ticksByPower, am_mem 555 rfl rfl, am_mem 557 rfl rfl, am_mem 12 rfl rfl, by decide +kernel, _, _, _, am_k6⟩
set_option maxRecDepth 20000 in
theorem fm_RL_110 : am_okV RL 110 kX7_soonest 1 6 := ⟨ok_X7_soonest, am_mem 559 rfl rfl, am_mem 560 rfl rfl, am_mem 561 rfl rfl, by decide +kernel, _, _, _, am_k6⟩
set_option maxRecDepth 20000 in
theorem fm_RX7_236 : am_okV RX7 236 kX7_messagesRefused 1 6 := ⟨ok_X7_messagesRefused, am_mem 563 rfl rfl, am_mem 565 rfl rfl, am_mem 13 rfl rfl, by decide +kernel, _, _, _, am_k6⟩
set_option maxRecDepth 20000 in
theorem fm_RX7_316 : am_okS RX7 316 kX7_raised 2 := ⟨ok_X7_raised, am_mem 567 rfl rfl, am_mem 568 rfl rfl, by decide +kernel⟩
set_option maxRecDepth 20000 in
theorem fm_RX7_319 : am_okV RX7 319 kX4_isWithin 1 3 := ⟨ok_X4_isWithin, am_mem 570 rfl rfl, am_mem 571 rfl rfl, am_mem 572 rfl rfl, by decide +kernel, _, _, _, am_k3⟩
set_option maxRecDepth 20000 in
theorem fm_RX7_239 : am_okV RX7 239 kX0_aimAt 1 0 := ⟨ok_X0_aimAt, am_mem 574 rfl rfl, am_mem 575 rfl rfl, am_mem 576 rfl rfl, by decide +kernel, _, _, _, am_k0⟩
set_option maxRecDepth 20000 in
theorem fm_RL_114 : am_okV RL 114 kX7_order 2 6 := ⟨ok_X7_order, am_mem 578 rfl rfl, am_mem 579 rfl rfl, am_mem 580 rfl rfl, by decide +kernel, _, _, _, am_k6⟩
set_option maxRecDepth 20000 in
theorem fm_RX7_242 : am_okV RX7 242 kX2_search 2 2 := ⟨ok_X2_search, am_mem 582 rfl rfl, am_mem 583 rfl rfl, am_mem 584 rfl rfl, by decide +kernel, _, _, _, am_k2⟩
set_option maxRecDepth 20000 in
theorem fm_RX2_29 : am_okV RX2 29 kX0_become 1 0 := ⟨ok_X0_become, am_mem 586 rfl rfl, am_mem 377 rfl rfl, am_mem 378 rfl rfl, by decide +kernel, _, _, _, am_k0⟩
set_option maxRecDepth 20000 in
theorem fm_RX2_33 : am_okV RX2 33 kX2_goOn 4 2 := ⟨ok_X2_goOn, am_mem 587 rfl rfl, am_mem 589 rfl rfl, am_mem 14 rfl rfl, by decide +kernel, _, _, _, am_k2⟩
set_option maxRecDepth 20000 in
theorem fa_RX2_42 : am_okA RX2 42 := ⟨am_mem 591 rfl rfl, am_mem 308 rfl rfl, am_mem 307 rfl rfl, am_mem 60 rfl rfl⟩
set_option maxRecDepth 20000 in
theorem fm_RX2_51 : am_okV RX2 51 kX0_aimAt 1 0 := ⟨ok_X0_aimAt, am_mem 592 rfl rfl, am_mem 575 rfl rfl, am_mem 576 rfl rfl, by decide +kernel, _, _, _, am_k0⟩
set_option maxRecDepth 20000 in
theorem fm_RX2_55 : am_okV RX2 55 kX0_ticksTillTold 1 0 := ⟨ok_X0_ticksTillTold, am_mem 593 rfl rfl, am_mem 527 rfl rfl, am_mem 528 rfl rfl, by decide +kernel, _, _, _, am_k0⟩
set_option maxRecDepth 20000 in
theorem fm_RL_118 : am_okV RL 118 kX7_kinds 2 6 := ⟨ok_X7_kinds, am_mem 594 rfl rfl, am_mem 595 rfl rfl, am_mem 596 rfl rfl, by decide +kernel, _, _, _, am_k6⟩
set_option maxRecDepth 20000 in
theorem fm_RX7_249 : am_okV RX7 249 kX7_showedRefused 2 6 := ⟨ok_X7_showedRefused, am_mem 598 rfl rfl, am_mem 600 rfl rfl, am_mem 15 rfl rfl, by decide +kernel, _, _, _, am_k6⟩
set_option maxRecDepth 20000 in
theorem fm_RX7_252 : am_okV RX7 252 kX7_kindsThatShowed 2 6 := ⟨ok_X7_kindsThatShowed, am_mem 602 rfl rfl, am_mem 604 rfl rfl, am_mem 16 rfl rfl, by decide +kernel, _, _, _, am_k6⟩
set_option maxRecDepth 20000 in
theorem fm_RX7_256 : am_okV RX7 256 kX7_wouldHaveShown 4 6 := ⟨ok_X7_wouldHaveShown, am_mem 606 rfl rfl, am_mem 608 rfl rfl, am_mem 17 rfl rfl, by decide +kernel, _, _, _, am_k6⟩
set_option maxRecDepth 20000 in
theorem fm_RL_122 : am_okV RL 122 kX7_marks 2 6 := ⟨ok_X7_marks, am_mem 610 rfl rfl, am_mem 611 rfl rfl, am_mem 612 rfl rfl, by decide +kernel, _, _, _, am_k6⟩
set_option maxRecDepth 20000 in
theorem fm_RL_126 : am_okV RL 126 kX7_test 2 6 := ⟨ok_X7_test, am_mem 614 rfl rfl, am_mem 615 rfl rfl, am_mem 616 rfl rfl, by decide +kernel, _, _, _, am_k6⟩
set_option maxRecDepth 20000 in
theorem fm_RX7_260 : am_okV RX7 260 kX7_lookAhead 2 6 := ⟨ok_X7_lookAhead, am_mem 618 rfl rfl, am_mem 620 rfl rfl, am_mem 18 rfl rfl, by decide +kernel, _, _, _, am_k6⟩
set_option maxRecDepth 20000 in
theorem fm_RX7_264 : am_okV RX7 264 kX7_greatestPart 2 6 := ⟨ok_X7_greatestPart, am_mem 622 rfl rfl, am_mem 624 rfl rfl, am_mem 19 rfl rfl, by decide +kernel, _, _, _, am_k6⟩
set_option maxRecDepth 20000 in
theorem fm_RL_130 : am_okV RL 130 kX7_duel 1 6 := ⟨ok_X7_duel, am_mem 626 rfl rfl, am_mem 627 rfl rfl, am_mem 628 rfl rfl, by decide +kernel, _, _, _, am_k6⟩
set_option maxRecDepth 20000 in
theorem fm_RX7_267 : am_okV RX7 267 kX7_latestByAiming 1 6 := ⟨ok_X7_latestByAiming, am_mem 630 rfl rfl, am_mem 632 rfl rfl, am_mem 20 rfl rfl, by decide +kernel, _, _, _, am_k6⟩
set_option maxRecDepth 20000 in
theorem fm_RX7_367 : am_okV RX7 367 kX7_soonestByAiming 1 6 := ⟨ok_X7_soonestByAiming, am_mem 634 rfl rfl, am_mem 636 rfl rfl, am_mem 21 rfl rfl, by decide +kernel, _, _, _, am_k6⟩
set_option maxRecDepth 20000 in
theorem fm_RL_134 : am_okV RL 134 kX7_odds 3 6 := ⟨ok_X7_odds, am_mem 638 rfl rfl, am_mem 639 rfl rfl, am_mem 640 rfl rfl, by decide +kernel, _, _, _, am_k6⟩
set_option maxRecDepth 20000 in
theorem fm_RX7_271 : am_okS RX7 271 kX7_areChances 2 := ⟨ok_X7_areChances, am_mem 642 rfl rfl, am_mem 643 rfl rfl, by decide +kernel⟩
set_option maxRecDepth 20000 in
theorem fm_RX7_274 : am_okV RX7 274 kX7_weighRightOnes 2 6 := ⟨ok_X7_weighRightOnes, am_mem 645 rfl rfl, am_mem 647 rfl rfl, am_mem 22 rfl rfl, by decide +kernel, _, _, _, am_k6⟩
set_option maxRecDepth 20000 in
theorem fm_RX7_370 : am_okV RX7 370 kX7_freeOnes 0 6 := ⟨ok_X7_freeOnes, am_mem 649 rfl rfl, am_mem 651 rfl rfl, am_mem 23 rfl rfl, by decide +kernel, _, _, _, am_k6⟩
set_option maxRecDepth 20000 in
theorem fm_RX7_331 : am_okV RX7 331 kX0_rightOnes 0 0 := ⟨ok_X0_rightOnes, am_mem 653 rfl rfl, am_mem 531 rfl rfl, am_mem 532 rfl rfl, by decide +kernel, _, _, _, am_k0⟩
set_option maxRecDepth 20000 in
theorem fm_RX7_277 : am_okV RX7 277 kX7_weightOfAll 0 6 := ⟨ok_X7_weightOfAll, am_mem 654 rfl rfl, am_mem 656 rfl rfl, am_mem 24 rfl rfl, by decide +kernel, _, _, _, am_k6⟩
set_option maxRecDepth 20000 in
theorem fm_RX7_281 : am_okV RX7 281 kX5_tell 2 4 := ⟨ok_X5_tell, am_mem 658 rfl rfl, am_mem 659 rfl rfl, am_mem 660 rfl rfl, by decide +kernel, _, _, _, am_k4⟩
set_option maxRecDepth 20000 in
theorem fm_RX5_16 : am_okS RX5 16 kX5_commonDivisor 2 := ⟨ok_X5_commonDivisor, am_mem 662 rfl rfl, am_mem 663 rfl rfl, by decide +kernel⟩
set_option maxRecDepth 20000 in
theorem fm_RL_138 : am_okV RL 138 kX7_mid 2 6 := ⟨ok_X7_mid, am_mem 665 rfl rfl, am_mem 666 rfl rfl, am_mem 667 rfl rfl, by decide +kernel, _, _, _, am_k6⟩
set_option maxRecDepth 20000 in
theorem fm_RL_142 : am_okV RL 142 kX7_lots 2 6 := ⟨ok_X7_lots, am_mem 669 rfl rfl, am_mem 670 rfl rfl, am_mem 671 rfl rfl, by decide +kernel, _, _, _, am_k6⟩
set_option maxRecDepth 20000 in
theorem fm_RX7_289 : am_okV RX7 289 kX7_carryOutLot 1 6 := ⟨ok_X7_carryOutLot, am_mem 675 rfl rfl, am_mem 677 rfl rfl, am_mem 25 rfl rfl, by decide +kernel, _, _, _, am_k6⟩
set_option maxRecDepth 20000 in
theorem fm_RL_146 : am_okV RL 146 kX7_asked 0 6 := ⟨ok_X7_asked, am_mem 682 rfl rfl, am_mem 683 rfl rfl, am_mem 684 rfl rfl, by decide +kernel, _, _, _, am_k6⟩
set_option maxRecDepth 20000 in
theorem fm_RL_150 : am_okV RL 150 kX7_upper 0 6 := ⟨ok_X7_upper, am_mem 686 rfl rfl, am_mem 687 rfl rfl, am_mem 688 rfl rfl, by decide +kernel, _, _, _, am_k6⟩
set_option maxRecDepth 20000 in
theorem fm_RL_155 : am_okV RL 155 kX7_lower 0 6 := ⟨ok_X7_lower, am_mem 690 rfl rfl, am_mem 691 rfl rfl, am_mem 692 rfl rfl, by decide +kernel, _, _, _, am_k6⟩
set_option maxRecDepth 20000 in
theorem fm_RL_159 : am_okV RL 159 kX7_count 1 6 := ⟨ok_X7_count, am_mem 694 rfl rfl, am_mem 695 rfl rfl, am_mem 696 rfl rfl, by decide +kernel, _, _, _, am_k6⟩
set_option maxRecDepth 20000 in
theorem fm_RX7_300 : am_okV RX7 300 kX7_countOf 1 6 := ⟨ok_X7_countOf, am_mem 698 rfl rfl, am_mem 700 rfl rfl, am_mem 26 rfl rfl, by decide +kernel, _, _, _, am_k6⟩
set_option maxRecDepth 20000 in
theorem fm_RX7_334 : am_okV RX7 334 kX7_rowsThere 0 6 := ⟨ok_X7_rowsThere, am_mem 702 rfl rfl, am_mem 704 rfl rfl, am_mem 27 rfl rfl, by decide +kernel, _, _, _, am_k6⟩
set_option maxRecDepth 20000 in
theorem fm_RX7_337 : am_okV RX7 337 kX7_textsThere 0 6 := ⟨ok_X7_textsThere, am_mem 706 rfl rfl, am_mem 708 rfl rfl, am_mem 28 rfl rfl, by decide +kernel, _, _, _, am_k6⟩
set_option maxRecDepth 20000 in
theorem fm_RX7_340 : am_okV RX7 340 kX7_keptThere 0 6 := ⟨ok_X7_keptThere, am_mem 710 rfl rfl, am_mem 712 rfl rfl, am_mem 29 rfl rfl, by decide +kernel, _, _, _, am_k6⟩
set_option maxRecDepth 20000 in
theorem fm_RX7_343 : am_okV RX7 343 kX0_drumsOf 1 0 := ⟨ok_X0_drumsOf, am_mem 714 rfl rfl, am_mem 715 rfl rfl, am_mem 716 rfl rfl, by decide +kernel, _, _, _, am_k0⟩
set_option maxRecDepth 20000 in
theorem fm_RX0_67 : am_okSN RX0 67 kX7_isOf 2 := ⟨ok_X7_isOf, ⟨_, am_memN 718 rfl rfl⟩, am_mem 442 rfl rfl, by decide +kernel⟩
set_option maxRecDepth 20000 in
theorem fm_RL_163 : am_okV RL 163 kX7_finding 0 6 := ⟨ok_X7_finding, am_mem 719 rfl rfl, am_mem 720 rfl rfl, am_mem 721 rfl rfl, by decide +kernel, _, _, _, am_k6⟩
set_option maxRecDepth 20000 in
theorem fm_RL_167 : am_okV RL 167 kX7_findings 1 6 := ⟨ok_X7_findings, am_mem 723 rfl rfl, am_mem 724 rfl rfl, am_mem 725 rfl rfl, by decide +kernel, _, _, _, am_k6⟩
set_option maxRecDepth 20000 in
theorem fm_RL_171 : am_okV RL 171 kX7_digest 0 6 := ⟨ok_X7_digest, am_mem 727 rfl rfl, am_mem 728 rfl rfl, am_mem 729 rfl rfl, by decide +kernel, _, _, _, am_k6⟩
set_option maxRecDepth 20000 in
theorem fm_RX7_310 : am_okV RX7 310 kX4_digestFrom 1 3 := ⟨ok_X4_digestFrom, am_mem 733 rfl rfl, am_mem 734 rfl rfl, am_mem 735 rfl rfl, by decide +kernel, _, _, _, am_k3⟩
set_option maxRecDepth 20000 in
theorem fm_RX7_314 : am_okV RX7 314 kX6_digestFrom 1 5 := ⟨ok_X6_digestFrom, am_mem 738 rfl rfl, am_mem 739 rfl rfl, am_mem 740 rfl rfl, by decide +kernel, _, _, _, am_k5⟩
set_option maxRecDepth 20000 in
theorem fm_RL_12 : am_okI RL 12 kX8_init 0 := ⟨ok_X8_init, am_mem 745 rfl rfl, am_mem 746 rfl rfl, rfl, rfl, by decide +kernel⟩
set_option maxRecDepth 20000 in
theorem fo_RX8_1 : am_okO RX8 1 := ⟨am_mem 748 rfl rfl, am_mem 70 rfl rfl, am_mem 71 rfl rfl⟩
set_option maxRecDepth 20000 in
theorem fm_RL_17 : am_okV RL 17 kX8_row 2 7 := ⟨ok_X8_row, am_mem 816 rfl rfl, am_mem 817 rfl rfl, am_mem 818 rfl rfl, by decide +kernel, _, _, _, am_k7⟩
set_option maxRecDepth 20000 in
theorem fm_RX8_77 : am_okS RX8 77 kX8_isRow 1 := ⟨ok_X8_isRow, am_mem 820 rfl rfl, am_mem 821 rfl rfl, by decide +kernel⟩
set_option maxRecDepth 20000 in
theorem fm_RX8_73 : am_okS RX8 73 kX8_in 3 := ⟨ok_X8_in, am_mem 823 rfl rfl, am_mem 824 rfl rfl, by decide +kernel⟩
set_option maxRecDepth 20000 in
theorem fm_RX8_81 : am_okV RX8 81 kX8_finds 1 7 := ⟨ok_X8_finds, am_mem 826 rfl rfl, am_mem 828 rfl rfl, am_mem 30 rfl rfl, by decide +kernel, _, _, _, am_k7⟩
set_option maxRecDepth 20000 in
theorem fm_RX8_85 : am_okV RX8 85 kX8_anew 2 7 := ⟨ok_X8_anew, am_mem 830 rfl rfl, am_mem 832 rfl rfl, am_mem 31 rfl rfl, by decide +kernel, _, _, _, am_k7⟩
set_option maxRecDepth 20000 in
theorem fm_RL_22 : am_okV RL 22 kX8_lay 3 7 := ⟨ok_X8_lay, am_mem 834 rfl rfl, am_mem 835 rfl rfl, am_mem 836 rfl rfl, by decide +kernel, _, _, _, am_k7⟩
set_option maxRecDepth 20000 in
theorem fm_RX8_89 : am_okV RX8 89 kX8_tells 1 7 := ⟨ok_X8_tells, am_mem 838 rfl rfl, am_mem 840 rfl rfl, am_mem 32 rfl rfl, by decide +kernel, _, _, _, am_k7⟩
set_option maxRecDepth 20000 in
theorem fm_RL_26 : am_okV RL 26 kX8_at 2 7 := ⟨ok_X8_at, am_mem 842 rfl rfl, am_mem 843 rfl rfl, am_mem 844 rfl rfl, by decide +kernel, _, _, _, am_k7⟩
set_option maxRecDepth 20000 in
theorem fm_RL_31 : am_okV RL 31 kX8_tear 1 7 := ⟨ok_X8_tear, am_mem 846 rfl rfl, am_mem 847 rfl rfl, am_mem 848 rfl rfl, by decide +kernel, _, _, _, am_k7⟩
set_option maxRecDepth 20000 in
theorem fm_RL_36 : am_okV RL 36 kX8_copy 5 7 := ⟨ok_X8_copy, am_mem 850 rfl rfl, am_mem 851 rfl rfl, am_mem 852 rfl rfl, by decide +kernel, _, _, _, am_k7⟩
set_option maxRecDepth 20000 in
theorem fm_RX8_92 : am_okV RX8 92 kX8_lies 3 7 := ⟨ok_X8_lies, am_mem 854 rfl rfl, am_mem 856 rfl rfl, am_mem 33 rfl rfl, by decide +kernel, _, _, _, am_k7⟩
set_option maxRecDepth 20000 in
theorem fm_RL_40 : am_okV RL 40 kX8_mean 1 7 := ⟨ok_X8_mean, am_mem 858 rfl rfl, am_mem 859 rfl rfl, am_mem 860 rfl rfl, by decide +kernel, _, _, _, am_k7⟩
set_option maxRecDepth 20000 in
theorem fm_RL_44 : am_okV RL 44 kX8_text 2 7 := ⟨ok_X8_text, am_mem 862 rfl rfl, am_mem 863 rfl rfl, am_mem 864 rfl rfl, by decide +kernel, _, _, _, am_k7⟩
set_option maxRecDepth 20000 in
theorem fm_RX8_95 : am_okS RX8 95 kX8_isText 1 := ⟨ok_X8_isText, am_mem 866 rfl rfl, am_mem 867 rfl rfl, by decide +kernel⟩
set_option maxRecDepth 20000 in
theorem fm_RL_48 : am_okV RL 48 kX8_put 3 7 := ⟨ok_X8_put, am_mem 869 rfl rfl, am_mem 870 rfl rfl, am_mem 871 rfl rfl, by decide +kernel, _, _, _, am_k7⟩
set_option maxRecDepth 20000 in
theorem fm_RL_52 : am_okV RL 52 kX8_fault 1 7 := ⟨ok_X8_fault, am_mem 873 rfl rfl, am_mem 874 rfl rfl, am_mem 875 rfl rfl, by decide +kernel, _, _, _, am_k7⟩
set_option maxRecDepth 20000 in
theorem fm_RX8_108 : am_okV RX8 108 kX8_reads 1 7 := ⟨ok_X8_reads, am_mem 877 rfl rfl, am_mem 879 rfl rfl, am_mem 34 rfl rfl, by decide +kernel, _, _, _, am_k7⟩
set_option maxRecDepth 20000 in
theorem fm_RX8_102 : am_okV RX8 102 kX8_skips 2 7 := ⟨ok_X8_skips, am_mem 881 rfl rfl, am_mem 883 rfl rfl, am_mem 35 rfl rfl, by decide +kernel, _, _, _, am_k7⟩
set_option maxRecDepth 20000 in
theorem fm_RX8_98 : am_okV RX8 98 kX8_byteAt 2 7 := ⟨ok_X8_byteAt, am_mem 885 rfl rfl, am_mem 887 rfl rfl, am_mem 36 rfl rfl, by decide +kernel, _, _, _, am_k7⟩
set_option maxRecDepth 20000 in
theorem fm_RX8_105 : am_okS RX8 105 kX8_kindBy 1 := ⟨ok_X8_kindBy, am_mem 889 rfl rfl, am_mem 890 rfl rfl, by decide +kernel⟩
set_option maxRecDepth 20000 in
theorem fm_RL_56 : am_okV RL 56 kX8_board 1 7 := ⟨ok_X8_board, am_mem 892 rfl rfl, am_mem 893 rfl rfl, am_mem 894 rfl rfl, by decide +kernel, _, _, _, am_k7⟩
set_option maxRecDepth 20000 in
theorem fm_RL_60 : am_okV RL 60 kX8_drum 2 7 := ⟨ok_X8_drum, am_mem 896 rfl rfl, am_mem 897 rfl rfl, am_mem 898 rfl rfl, by decide +kernel, _, _, _, am_k7⟩
set_option maxRecDepth 20000 in
theorem fm_RX8_126 : am_okV RX8 126 kX8_isDrum 1 7 := ⟨ok_X8_isDrum, am_mem 900 rfl rfl, am_mem 902 rfl rfl, am_mem 37 rfl rfl, by decide +kernel, _, _, _, am_k7⟩
set_option maxRecDepth 20000 in
theorem fm_RX8_129 : am_okS RX8 129 kX8_isReady 2 := ⟨ok_X8_isReady, am_mem 904 rfl rfl, am_mem 905 rfl rfl, by decide +kernel⟩
set_option maxRecDepth 20000 in
theorem fm_RX8_118 : am_okS RX8 118 kX8_lets 3 := ⟨ok_X8_lets, am_mem 907 rfl rfl, am_mem 908 rfl rfl, by decide +kernel⟩
set_option maxRecDepth 20000 in
theorem fm_RX8_133 : am_okS RX8 133 kX8_next 2 := ⟨ok_X8_next, am_mem 910 rfl rfl, am_mem 911 rfl rfl, by decide +kernel⟩
set_option maxRecDepth 20000 in
theorem fm_RX8_122 : am_okS RX8 122 kX8_turned 4 := ⟨ok_X8_turned, am_mem 913 rfl rfl, am_mem 914 rfl rfl, by decide +kernel⟩
set_option maxRecDepth 20000 in
theorem fm_RX8_114 : am_okS RX8 114 kX8_skipsOn 3 := ⟨ok_X8_skipsOn, am_mem 916 rfl rfl, am_mem 917 rfl rfl, by decide +kernel⟩
set_option maxRecDepth 20000 in
theorem fm_RL_64 : am_okV RL 64 kX8_mark 2 7 := ⟨ok_X8_mark, am_mem 919 rfl rfl, am_mem 920 rfl rfl, am_mem 921 rfl rfl, by decide +kernel, _, _, _, am_k7⟩
set_option maxRecDepth 20000 in
theorem fm_RX8_141 : am_okS RX8 141 kX8_is 2 := ⟨ok_X8_is, am_mem 923 rfl rfl, am_mem 924 rfl rfl, by decide +kernel⟩
set_option maxRecDepth 20000 in
theorem fm_RX8_144 : am_okV RX8 144 kX8_readyTicks 2 7 := ⟨ok_X8_readyTicks, am_mem 926 rfl rfl, am_mem 928 rfl rfl, am_mem 38 rfl rfl, by decide +kernel, _, _, _, am_k7⟩
set_option maxRecDepth 20000 in
theorem fm_RX8_147 : am_okV RX8 147 kX8_neverShown 1 7 := ⟨ok_X8_neverShown, am_mem 930 rfl rfl, am_mem 932 rfl rfl, am_mem 39 rfl rfl, by decide +kernel, _, _, _, am_k7⟩
set_option maxRecDepth 20000 in
theorem fm_RX8_137 : am_okS RX8 137 kX8_has 2 := ⟨ok_X8_has, am_mem 934 rfl rfl, am_mem 935 rfl rfl, by decide +kernel⟩
set_option maxRecDepth 20000 in
theorem fm_RL_69 : am_okV RL 69 kX8_tick 0 7 := ⟨ok_X8_tick, am_mem 937 rfl rfl, am_mem 938 rfl rfl, am_mem 939 rfl rfl, by decide +kernel, _, _, _, am_k7⟩
set_option maxRecDepth 20000 in
theorem fm_RX8_150 : am_okV RX8 150 kX8_does 0 7 := ⟨ok_X8_does, am_mem 941 rfl rfl, am_mem 943 rfl rfl, am_mem 40 rfl rfl, by decide +kernel, _, _, _, am_k7⟩
set_option maxRecDepth 20000 in
theorem fm_RX8_153 : am_okS RX8 153 kX8_goes 1 := ⟨ok_X8_goes, am_mem 945 rfl rfl, am_mem 946 rfl rfl, by decide +kernel⟩
set_option maxRecDepth 20000 in
theorem fm_RL_73 : am_okV RL 73 kX8_aim 2 7 := ⟨ok_X8_aim, am_mem 948 rfl rfl, am_mem 949 rfl rfl, am_mem 950 rfl rfl, by decide +kernel, _, _, _, am_k7⟩
set_option maxRecDepth 20000 in
theorem fm_RL_77 : am_okV RL 77 kX8_power 1 7 := ⟨ok_X8_power, am_mem 952 rfl rfl, am_mem 953 rfl rfl, am_mem 954 rfl rfl, by decide +kernel, _, _, _, am_k7⟩
set_option maxRecDepth 20000 in
theorem fm_RL_81 : am_okV RL 81 kX8_jam 1 7 := ⟨ok_X8_jam, am_mem 956 rfl rfl, am_mem 957 rfl rfl, am_mem 958 rfl rfl, by decide +kernel, _, _, _, am_k7⟩
set_option maxRecDepth 20000 in
theorem fm_RX8_157 : am_okS RX8 157 kX8_ones 1 := ⟨ok_X8_ones, am_mem 960 rfl rfl, am_mem 961 rfl rfl, by decide +kernel⟩
set_option maxRecDepth 20000 in
theorem fm_RL_85 : am_okV RL 85 kX8_undo 1 7 := ⟨ok_X8_undo, am_mem 963 rfl rfl, am_mem 964 rfl rfl, am_mem 965 rfl rfl, by decide +kernel, _, _, _, am_k7⟩
set_option maxRecDepth 20000 in
theorem fm_RL_89 : am_okV RL 89 kX8_keep 1 7 := ⟨ok_X8_keep, am_mem 967 rfl rfl, am_mem 968 rfl rfl, am_mem 969 rfl rfl, by decide +kernel, _, _, _, am_k7⟩
set_option maxRecDepth 20000 in
theorem fm_RL_93 : am_okV RL 93 kX8_on 1 7 := ⟨ok_X8_on, am_mem 971 rfl rfl, am_mem 972 rfl rfl, am_mem 973 rfl rfl, by decide +kernel, _, _, _, am_k7⟩
set_option maxRecDepth 20000 in
theorem fm_RL_97 : am_okV RL 97 kX8_later 1 7 := ⟨ok_X8_later, am_mem 975 rfl rfl, am_mem 976 rfl rfl, am_mem 977 rfl rfl, by decide +kernel, _, _, _, am_k7⟩
set_option maxRecDepth 20000 in
theorem fm_RX8_163 : am_okS RX8 163 kX8_copies 2 := ⟨ok_X8_copies, am_mem 979 rfl rfl, am_mem 980 rfl rfl, by decide +kernel⟩
set_option maxRecDepth 20000 in
theorem fm_RX8_167 : am_okS RX8 167 kX8_shown 1 := ⟨ok_X8_shown, am_mem 982 rfl rfl, am_mem 983 rfl rfl, by decide +kernel⟩
set_option maxRecDepth 20000 in
theorem fm_RL_101 : am_okV RL 101 kX8_ends 0 7 := ⟨ok_X8_ends, am_mem 985 rfl rfl, am_mem 986 rfl rfl, am_mem 987 rfl rfl, by decide +kernel, _, _, _, am_k7⟩
set_option maxRecDepth 20000 in
theorem fm_RX8_174 : am_okS RX8 174 kX8_told 1 := ⟨ok_X8_told, am_mem 989 rfl rfl, am_mem 990 rfl rfl, by decide +kernel⟩
set_option maxRecDepth 20000 in
theorem fm_RX8_170 : am_okS RX8 170 kX8_isTold 1 := ⟨ok_X8_isTold, am_mem 992 rfl rfl, am_mem 993 rfl rfl, by decide +kernel⟩
set_option maxRecDepth 20000 in
theorem fm_RX8_160 : am_okS RX8 160 kX8_right 1 := ⟨ok_X8_right, am_mem 995 rfl rfl, am_mem 996 rfl rfl, by decide +kernel⟩
set_option maxRecDepth 20000 in
theorem fm_RL_105 : am_okV RL 105 kX8_passes 0 7 := ⟨ok_X8_passes, am_mem 998 rfl rfl, am_mem 999 rfl rfl, am_mem 1000 rfl rfl, by decide +kernel, _, _, _, am_k7⟩
set_option maxRecDepth 20000 in
theorem fm_RL_109 : am_okV RL 109 kX8_least 0 7 := ⟨ok_X8_least, am_mem 1002 rfl rfl, am_mem 1003 rfl rfl, am_mem 1004 rfl rfl, by decide +kernel, _, _, _, am_k7⟩
set_option maxRecDepth 20000 in
theorem fm_RL_113 : am_okV RL 113 kX8_soonest 1 7 := ⟨ok_X8_soonest, am_mem 1006 rfl rfl, am_mem 1007 rfl rfl, am_mem 1008 rfl rfl, by decide +kernel, _, _, _, am_k7⟩
set_option maxRecDepth 20000 in
theorem fm_RX8_177 : am_okV RX8 177 kX8_amiss 1 7 := ⟨ok_X8_amiss, am_mem 1010 rfl rfl, am_mem 1012 rfl rfl, am_mem 41 rfl rfl, by decide +kernel, _, _, _, am_k7⟩
set_option maxRecDepth 20000 in
theorem fm_RX8_180 : am_okV RX8 180 kX8_aims 2 7 := ⟨ok_X8_aims, am_mem 1014 rfl rfl, am_mem 1016 rfl rfl, am_mem 42 rfl rfl, by decide +kernel, _, _, _, am_k7⟩
set_option maxRecDepth 20000 in
theorem fm_RL_117 : am_okV RL 117 kX8_order 2 7 := ⟨ok_X8_order, am_mem 1018 rfl rfl, am_mem 1019 rfl rfl, am_mem 1020 rfl rfl, by decide +kernel, _, _, _, am_k7⟩
set_option maxRecDepth 20000 in
theorem fm_RL_121 : am_okV RL 121 kX8_kinds 2 7 := ⟨ok_X8_kinds, am_mem 1022 rfl rfl, am_mem 1023 rfl rfl, am_mem 1024 rfl rfl, by decide +kernel, _, _, _, am_k7⟩
set_option maxRecDepth 20000 in
theorem fm_RX8_184 : am_okV RX8 184 kX8_unfit 1 7 := ⟨ok_X8_unfit, am_mem 1026 rfl rfl, am_mem 1028 rfl rfl, am_mem 43 rfl rfl, by decide +kernel, _, _, _, am_k7⟩
set_option maxRecDepth 20000 in
theorem fm_RX8_187 : am_okV RX8 187 kX8_fitting 4 7 := ⟨ok_X8_fitting, am_mem 1030 rfl rfl, am_mem 1032 rfl rfl, am_mem 44 rfl rfl, by decide +kernel, _, _, _, am_k7⟩
set_option maxRecDepth 20000 in
theorem fm_RL_125 : am_okV RL 125 kX8_marks 2 7 := ⟨ok_X8_marks, am_mem 1034 rfl rfl, am_mem 1035 rfl rfl, am_mem 1036 rfl rfl, by decide +kernel, _, _, _, am_k7⟩
set_option maxRecDepth 20000 in
theorem fm_RL_129 : am_okV RL 129 kX8_test 2 7 := ⟨ok_X8_test, am_mem 1038 rfl rfl, am_mem 1039 rfl rfl, am_mem 1040 rfl rfl, by decide +kernel, _, _, _, am_k7⟩
set_option maxRecDepth 20000 in
theorem fm_RL_133 : am_okV RL 133 kX8_duel 1 7 := ⟨ok_X8_duel, am_mem 1042 rfl rfl, am_mem 1043 rfl rfl, am_mem 1044 rfl rfl, by decide +kernel, _, _, _, am_k7⟩
set_option maxRecDepth 20000 in
theorem fm_RX8_190 : am_okV RX8 190 kX8_late 1 7 := ⟨ok_X8_late, am_mem 1046 rfl rfl, am_mem 1048 rfl rfl, am_mem 45 rfl rfl, by decide +kernel, _, _, _, am_k7⟩
set_option maxRecDepth 20000 in
theorem fm_RX8_193 : am_okV RX8 193 kX8_answered 0 7 := ⟨ok_X8_answered, am_mem 1050 rfl rfl, am_mem 1052 rfl rfl, am_mem 46 rfl rfl, by decide +kernel, _, _, _, am_k7⟩
set_option maxRecDepth 20000 in
theorem fm_RL_137 : am_okV RL 137 kX8_odds 3 7 := ⟨ok_X8_odds, am_mem 1054 rfl rfl, am_mem 1055 rfl rfl, am_mem 1056 rfl rfl, by decide +kernel, _, _, _, am_k7⟩
set_option maxRecDepth 20000 in
theorem fm_RX8_206 : am_okV RX8 206 kX8_chances 3 7 := ⟨ok_X8_chances, am_mem 1058 rfl rfl, am_mem 1060 rfl rfl, am_mem 47 rfl rfl, by decide +kernel, _, _, _, am_k7⟩
set_option maxRecDepth 20000 in
theorem fm_RX8_202 : am_okV RX8 202 kX8_lowest 2 7 := ⟨ok_X8_lowest, am_mem 1063 rfl rfl, am_mem 1065 rfl rfl, am_mem 48 rfl rfl, by decide +kernel, _, _, _, am_k7⟩
set_option maxRecDepth 20000 in
theorem fm_RL_141 : am_okV RL 141 kX8_mid 2 7 := ⟨ok_X8_mid, am_mem 1067 rfl rfl, am_mem 1068 rfl rfl, am_mem 1069 rfl rfl, by decide +kernel, _, _, _, am_k7⟩
set_option maxRecDepth 20000 in
theorem fm_RL_145 : am_okV RL 145 kX8_lots 2 7 := ⟨ok_X8_lots, am_mem 1071 rfl rfl, am_mem 1072 rfl rfl, am_mem 1073 rfl rfl, by decide +kernel, _, _, _, am_k7⟩
set_option maxRecDepth 20000 in
theorem fm_RL_149 : am_okV RL 149 kX8_asked 0 7 := ⟨ok_X8_asked, am_mem 1081 rfl rfl, am_mem 1082 rfl rfl, am_mem 1083 rfl rfl, by decide +kernel, _, _, _, am_k7⟩
set_option maxRecDepth 20000 in
theorem fm_RL_154 : am_okV RL 154 kX8_upper 0 7 := ⟨ok_X8_upper, am_mem 1085 rfl rfl, am_mem 1086 rfl rfl, am_mem 1087 rfl rfl, by decide +kernel, _, _, _, am_k7⟩
set_option maxRecDepth 20000 in
theorem fm_RL_158 : am_okV RL 158 kX8_lower 0 7 := ⟨ok_X8_lower, am_mem 1089 rfl rfl, am_mem 1090 rfl rfl, am_mem 1091 rfl rfl, by decide +kernel, _, _, _, am_k7⟩
set_option maxRecDepth 20000 in
theorem fm_RL_162 : am_okV RL 162 kX8_count 1 7 := ⟨ok_X8_count, am_mem 1093 rfl rfl, am_mem 1094 rfl rfl, am_mem 1095 rfl rfl, by decide +kernel, _, _, _, am_k7⟩
set_option maxRecDepth 20000 in
theorem fm_RX8_221 : am_okV RX8 221 kX8_ofKind 1 7 := ⟨ok_X8_ofKind, am_mem 1097 rfl rfl, am_mem 1099 rfl rfl, am_mem 49 rfl rfl, by decide +kernel, _, _, _, am_k7⟩
set_option maxRecDepth 20000 in
theorem fm_RL_166 : am_okV RL 166 kX8_finding 0 7 := ⟨ok_X8_finding, am_mem 1101 rfl rfl, am_mem 1102 rfl rfl, am_mem 1103 rfl rfl, by decide +kernel, _, _, _, am_k7⟩
set_option maxRecDepth 20000 in
theorem fm_RL_170 : am_okV RL 170 kX8_findings 1 7 := ⟨ok_X8_findings, am_mem 1105 rfl rfl, am_mem 1106 rfl rfl, am_mem 1107 rfl rfl, by decide +kernel, _, _, _, am_k7⟩
set_option maxRecDepth 20000 in
theorem fm_RL_174 : am_okV RL 174 kX8_digest 0 7 := ⟨ok_X8_digest, am_mem 1109 rfl rfl, am_mem 1110 rfl rfl, am_mem 1111 rfl rfl, by decide +kernel, _, _, _, am_k7⟩
set_option maxRecDepth 20000 in
theorem fm_RX8_228 : am_okV RX8 228 kX8_count 1 7 := ⟨ok_X8_count, am_mem 1115 rfl rfl, am_mem 1094 rfl rfl, am_mem 1095 rfl rfl, by decide +kernel, _, _, _, am_k7⟩
set_option maxRecDepth 20000 in
theorem fm_RX8_231 : am_okV RX8 231 kX8_of 2 7 := ⟨ok_X8_of, am_mem 1116 rfl rfl, am_mem 1118 rfl rfl, am_mem 50 rfl rfl, by decide +kernel, _, _, _, am_k7⟩
set_option maxRecDepth 20000 in
theorem fc_RL_7 : Cond.classLink RL 7 "FlapBoard" ∈ am_tb := am_mem 64 rfl rfl
set_option maxRecDepth 20000 in
theorem fn_RL_7 : am_okN RL 7 6 [.null, .null, .null, .null, .null, .null, .null, .null, .null, .null, .null, .null, .null, .null, .int 0, .int 0] := ⟨_, _, _, _, am_k6, am_mem 64 rfl rfl, am_mem 65 rfl rfl, am_mem 52 rfl rfl, rfl, by decide +kernel⟩
set_option maxRecDepth 20000 in
theorem fc_RX7_9 : Cond.classLink RX7 9 "FlapBoard$Row" ∈ am_tb := am_mem 72 rfl rfl
set_option maxRecDepth 20000 in
theorem fn_RX7_9 : am_okN RX7 9 3 [.null, .int 0] := ⟨_, _, _, _, am_k3, am_mem 72 rfl rfl, am_mem 178 rfl rfl, am_mem 57 rfl rfl, rfl, by decide +kernel⟩
set_option maxRecDepth 20000 in
theorem fc_RX7_15 : Cond.classLink RX7 15 "FlapBoard$Text" ∈ am_tb := am_mem 74 rfl rfl
set_option maxRecDepth 20000 in
theorem fn_RX7_15 : am_okN RX7 15 5 [.null, .int 0] := ⟨_, _, _, _, am_k5, am_mem 74 rfl rfl, am_mem 194 rfl rfl, am_mem 58 rfl rfl, rfl, by decide +kernel⟩
set_option maxRecDepth 20000 in
theorem fc_RX7_21 : Cond.classLink RX7 21 "FlapBoard$Board" ∈ am_tb := am_mem 76 rfl rfl
set_option maxRecDepth 20000 in
theorem fn_RX7_21 : am_okN RX7 21 0 [.null, .null, .null, .null, .int 0, .int 0, .int 0, .int 0, .int 0] := ⟨_, _, _, _, am_k0, am_mem 76 rfl rfl, am_mem 77 rfl rfl, am_mem 53 rfl rfl, rfl, by decide +kernel⟩
set_option maxRecDepth 20000 in
theorem fc_RX7_37 : Cond.classLink RX7 37 "FlapBoard$Deeds" ∈ am_tb := am_mem 121 rfl rfl
set_option maxRecDepth 20000 in
theorem fn_RX7_37 : am_okN RX7 37 1 [.null, .int 0] := ⟨_, _, _, _, am_k1, am_mem 121 rfl rfl, am_mem 122 rfl rfl, am_mem 54 rfl rfl, rfl, by decide +kernel⟩
set_option maxRecDepth 20000 in
theorem fc_RX7_48 : Cond.classLink RX7 48 "FlapBoard$OrderSearch" ∈ am_tb := am_mem 137 rfl rfl
set_option maxRecDepth 20000 in
theorem fn_RX7_48 : am_okN RX7 48 2 [.null, .null, .null, .int 0] := ⟨_, _, _, _, am_k2, am_mem 137 rfl rfl, am_mem 138 rfl rfl, am_mem 55 rfl rfl, rfl, by decide +kernel⟩
set_option maxRecDepth 20000 in
theorem fc_RX2_18 : Cond.classLink RX2 18 "FlapBoard$Board" ∈ am_tb := am_mem 143 rfl rfl
set_option maxRecDepth 20000 in
theorem fn_RX2_18 : am_okN RX2 18 0 [.null, .null, .null, .null, .int 0, .int 0, .int 0, .int 0, .int 0] := ⟨_, _, _, _, am_k0, am_mem 143 rfl rfl, am_mem 77 rfl rfl, am_mem 53 rfl rfl, rfl, by decide +kernel⟩
set_option maxRecDepth 20000 in
theorem fc_RX7_59 : Cond.classLink RX7 59 "[[I" ∈ am_tb := am_mem 160 rfl rfl
set_option maxRecDepth 20000 in
theorem fc_RX7_68 : Cond.classLink RX7 68 "FlapBoard$Share" ∈ am_tb := am_mem 162 rfl rfl
set_option maxRecDepth 20000 in
theorem fn_RX7_68 : am_okN RX7 68 4 [.long 0, .long 0] := ⟨_, _, _, _, am_k4, am_mem 162 rfl rfl, am_mem 163 rfl rfl, am_mem 56 rfl rfl, rfl, by decide +kernel⟩
set_option maxRecDepth 20000 in
theorem fc_RL_10 : Cond.classLink RL 10 "FlapBoardModel" ∈ am_tb := am_mem 743 rfl rfl
set_option maxRecDepth 20000 in
theorem fn_RL_10 : am_okN RL 10 7 [.null, .null, .null, .null, .null, .null, .null, .null, .null, .null, .int 0, .null, .null, .null, .int 0, .long 0, .long 0, .int 0, .null, .null, .null, .null] := ⟨_, _, _, _, am_k7, am_mem 743 rfl rfl, am_mem 744 rfl rfl, am_mem 59 rfl rfl, rfl, by decide +kernel⟩
set_option maxRecDepth 20000 in
theorem fk_RJ6_265 : Cond.constant RJ6 265 1431655765 ∈ am_tb := am_mem 456 rfl rfl
set_option maxRecDepth 20000 in
theorem fk_RJ6_266 : Cond.constant RJ6 266 858993459 ∈ am_tb := am_mem 457 rfl rfl
set_option maxRecDepth 20000 in
theorem fk_RJ6_267 : Cond.constant RJ6 267 252645135 ∈ am_tb := am_mem 458 rfl rfl
set_option maxRecDepth 20000 in
theorem fk_RX7_285 : Cond.constantLong RX7 285 2147483647 ∈ am_tb := am_mem 673 rfl rfl
set_option maxRecDepth 20000 in
theorem fk_RX7_287 : Cond.constantLong RX7 287 48271 ∈ am_tb := am_mem 674 rfl rfl
set_option maxRecDepth 20000 in
theorem fk_RX7_361 : Cond.constantLong RX7 361 8 ∈ am_tb := am_mem 679 rfl rfl
set_option maxRecDepth 20000 in
theorem fk_RX7_363 : Cond.constantLong RX7 363 64 ∈ am_tb := am_mem 680 rfl rfl
set_option maxRecDepth 20000 in
theorem fk_RX7_365 : Cond.constantLong RX7 365 10 ∈ am_tb := am_mem 681 rfl rfl
set_option maxRecDepth 20000 in
theorem fk_RX7_306 : Cond.constantLong RX7 306 17 ∈ am_tb := am_mem 731 rfl rfl
set_option maxRecDepth 20000 in
theorem fk_RX7_308 : Cond.constantLong RX7 308 31 ∈ am_tb := am_mem 732 rfl rfl
set_option maxRecDepth 20000 in
theorem fk_RX4_19 : Cond.constantLong RX4 19 31 ∈ am_tb := am_mem 737 rfl rfl
set_option maxRecDepth 20000 in
theorem fk_RX6_23 : Cond.constantLong RX6 23 31 ∈ am_tb := am_mem 742 rfl rfl
set_option maxRecDepth 20000 in
theorem fk_RX8_200 : Cond.constantLong RX8 200 12 ∈ am_tb := am_mem 1062 rfl rfl
set_option maxRecDepth 20000 in
theorem fk_RX8_210 : Cond.constant RX8 210 2147483646 ∈ am_tb := am_mem 1075 rfl rfl
set_option maxRecDepth 20000 in
theorem fk_RX8_211 : Cond.constantLong RX8 211 48271 ∈ am_tb := am_mem 1076 rfl rfl
set_option maxRecDepth 20000 in
theorem fk_RX8_213 : Cond.constantLong RX8 213 2147483647 ∈ am_tb := am_mem 1077 rfl rfl
set_option maxRecDepth 20000 in
theorem fk_RX8_215 : Cond.constantLong RX8 215 8 ∈ am_tb := am_mem 1078 rfl rfl
set_option maxRecDepth 20000 in
theorem fk_RX8_217 : Cond.constantLong RX8 217 64 ∈ am_tb := am_mem 1079 rfl rfl
set_option maxRecDepth 20000 in
theorem fk_RX8_219 : Cond.constantLong RX8 219 10 ∈ am_tb := am_mem 1080 rfl rfl
set_option maxRecDepth 20000 in
theorem fk_RX8_224 : Cond.constantLong RX8 224 17 ∈ am_tb := am_mem 1113 rfl rfl
set_option maxRecDepth 20000 in
theorem fk_RX8_226 : Cond.constantLong RX8 226 31 ∈ am_tb := am_mem 1114 rfl rfl
set_option maxRecDepth 20000 in
theorem fl_RX6_19 : Cond.fieldLinkNest RX6 19 "FlapBoard" "LETTERS" "[I" "FlapBoard" ∈ am_nw := am_memN 366 rfl rfl
set_option maxRecDepth 20000 in
theorem fy_int : Cond.arrayClass .int ∈ am_tb := am_mem 120 rfl rfl
set_option maxRecDepth 20000 in
theorem fy_byte : Cond.arrayClass .byte ∈ am_tb := am_mem 209 rfl rfl
set_option maxRecDepth 20000 in
theorem fy_long : Cond.arrayClass .long ∈ am_tb := am_mem 177 rfl rfl
