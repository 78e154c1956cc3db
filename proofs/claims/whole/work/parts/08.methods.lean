abbrev m_X9_init : am_Y := (yX9_init, cX9_init, 1, none)
set_option maxRecDepth 100000 in
theorem k_X9_init : am_mi m_X9_init 0 := ⟨⟨am_in 67 rfl rfl, wd_in_X9, ⟨by decide +kernel, by decide +kernel, by decide +kernel⟩, by decide⟩, am_in 66 (by decide +kernel) (by decide +kernel), rfl, rfl⟩
abbrev m_X3_init : am_Y := (yX3_init, cX3_init, 2, none)
set_option maxRecDepth 100000 in
theorem k_X3_init : am_mi m_X3_init 1 := ⟨⟨am_in 75 rfl rfl, wd_in_X3, ⟨by decide +kernel, by decide +kernel, by decide +kernel⟩, by decide⟩, am_in 74 (by decide +kernel) (by decide +kernel), rfl, rfl⟩
abbrev m_X0_init : am_Y := (yX0_init, cX0_init, 1, none)
set_option maxRecDepth 100000 in
theorem k_X0_init : am_mi m_X0_init 0 := ⟨⟨am_in 90 rfl rfl, wd_in_X0, ⟨by decide +kernel, by decide +kernel, by decide +kernel⟩, by decide⟩, am_in 89 (by decide +kernel) (by decide +kernel), rfl, rfl⟩
abbrev m_X7_init : am_Y := (yX7_init, cX7_init, 2, none)
set_option maxRecDepth 100000 in
theorem k_X7_init : am_mi m_X7_init 1 := ⟨⟨am_in 96 rfl rfl, wd_in_X7, ⟨by decide +kernel, by decide +kernel, by decide +kernel⟩, by decide⟩, am_in 95 (by decide +kernel) (by decide +kernel), rfl, rfl⟩
abbrev m_X8_init : am_Y := (yX8_init, cX8_init, 4, none)
set_option maxRecDepth 100000 in
theorem k_X8_init : am_mi m_X8_init 3 := ⟨⟨am_in 152 rfl rfl, wd_in_X8, ⟨by decide +kernel, by decide +kernel, by decide +kernel⟩, by decide⟩, am_in 151 (by decide +kernel) (by decide +kernel), rfl, rfl⟩
abbrev m_X2_init : am_Y := (yX2_init, cX2_init, 2, none)
set_option maxRecDepth 100000 in
theorem k_X2_init : am_mi m_X2_init 1 := ⟨⟨am_in 158 rfl rfl, wd_in_X2, ⟨by decide +kernel, by decide +kernel, by decide +kernel⟩, by decide⟩, am_in 157 (by decide +kernel) (by decide +kernel), rfl, rfl⟩
abbrev m_X0_tree : am_Y := (yX0_tree, cX0_tree, 2, (some (.object "ArchiveDesk$Tree")))
set_option maxRecDepth 100000 in
theorem k_X0_tree : am_mv m_X0_tree 1 0 := ⟨⟨am_in 173 rfl rfl, wd_in_X0, ⟨by decide +kernel, by decide +kernel, by decide +kernel⟩, by decide⟩, am_in 171 (by decide +kernel) (by decide +kernel), am_in 172 (by decide +kernel) (by decide +kernel), TX0, 8, rfl⟩
abbrev m_X6_init : am_Y := (yX6_init, cX6_init, 4, none)
set_option maxRecDepth 100000 in
theorem k_X6_init : am_mi m_X6_init 3 := ⟨⟨am_in 200 rfl rfl, wd_in_X6, ⟨by decide +kernel, by decide +kernel, by decide +kernel⟩, by decide⟩, am_in 199 (by decide +kernel) (by decide +kernel), rfl, rfl⟩
abbrev m_X1_init : am_Y := (yX1_init, cX1_init, 2, none)
set_option maxRecDepth 100000 in
theorem k_X1_init : am_mi m_X1_init 1 := ⟨⟨am_in 206 rfl rfl, wd_in_X1, ⟨by decide +kernel, by decide +kernel, by decide +kernel⟩, by decide⟩, am_in 205 (by decide +kernel) (by decide +kernel), rfl, rfl⟩
abbrev m_X4_init : am_Y := (yX4_init, cX4_init, 3, none)
set_option maxRecDepth 100000 in
theorem k_X4_init : am_mi m_X4_init 2 := ⟨⟨am_in 219 rfl rfl, wd_in_X4, ⟨by decide +kernel, by decide +kernel, by decide +kernel⟩, by decide⟩, am_in 218 (by decide +kernel) (by decide +kernel), rfl, rfl⟩
abbrev m_X5_init : am_Y := (yX5_init, cX5_init, 2, none)
set_option maxRecDepth 100000 in
theorem k_X5_init : am_mi m_X5_init 1 := ⟨⟨am_in 244 rfl rfl, wd_in_X5, ⟨by decide +kernel, by decide +kernel, by decide +kernel⟩, by decide⟩, am_in 243 (by decide +kernel) (by decide +kernel), rfl, rfl⟩
abbrev m_X9_feed : am_Y := (yX9_feed, cX9_feed, 6, (some .int))
set_option maxRecDepth 100000 in
theorem k_X9_feed : am_mv m_X9_feed 5 9 := ⟨⟨am_in 334 rfl rfl, wd_in_X9, ⟨by decide +kernel, by decide +kernel, by decide +kernel⟩, by decide⟩, am_in 332 (by decide +kernel) (by decide +kernel), am_in 333 (by decide +kernel) (by decide +kernel), TX9, 5, rfl⟩
abbrev m_X3_hasRoomFor : am_Y := (yX3_hasRoomFor, cX3_hasRoomFor, 2, (some .boolean))
set_option maxRecDepth 100000 in
theorem k_X3_hasRoomFor : am_mv m_X3_hasRoomFor 1 3 := ⟨⟨am_in 338 rfl rfl, wd_in_X3, ⟨by decide +kernel, by decide +kernel, by decide +kernel⟩, by decide⟩, am_in 336 (by decide +kernel) (by decide +kernel), am_in 337 (by decide +kernel) (by decide +kernel), TX3, 2, rfl⟩
abbrev m_X3_addWord : am_Y := (yX3_addWord, cX3_addWord, 3, none)
set_option maxRecDepth 100000 in
theorem k_X3_addWord : am_mv m_X3_addWord 1 3 := ⟨⟨am_in 342 rfl rfl, wd_in_X3, ⟨by decide +kernel, by decide +kernel, by decide +kernel⟩, by decide⟩, am_in 340 (by decide +kernel) (by decide +kernel), am_in 341 (by decide +kernel) (by decide +kernel), TX3, 2, rfl⟩
abbrev m_X3_add : am_Y := (yX3_add, cX3_add, 2, none)
set_option maxRecDepth 100000 in
theorem k_X3_add : am_mv m_X3_add 1 3 := ⟨⟨am_in 346 rfl rfl, wd_in_X3, ⟨by decide +kernel, by decide +kernel, by decide +kernel⟩, by decide⟩, am_in 344 (by decide +kernel) (by decide +kernel), am_in 345 (by decide +kernel) (by decide +kernel), TX3, 2, rfl⟩
abbrev m_X3_count : am_Y := (yX3_count, cX3_count, 1, (some .int))
set_option maxRecDepth 100000 in
theorem k_X3_count : am_mv m_X3_count 0 3 := ⟨⟨am_in 350 rfl rfl, wd_in_X3, ⟨by decide +kernel, by decide +kernel, by decide +kernel⟩, by decide⟩, am_in 348 (by decide +kernel) (by decide +kernel), am_in 349 (by decide +kernel) (by decide +kernel), TX3, 2, rfl⟩
abbrev m_X9_fill : am_Y := (yX9_fill, cX9_fill, 4, (some .int))
set_option maxRecDepth 100000 in
theorem k_X9_fill : am_mv m_X9_fill 2 9 := ⟨⟨am_in 354 rfl rfl, wd_in_X9, ⟨by decide +kernel, by decide +kernel, by decide +kernel⟩, by decide⟩, am_in 352 (by decide +kernel) (by decide +kernel), am_in 353 (by decide +kernel) (by decide +kernel), TX9, 5, rfl⟩
abbrev m_X9_isByte : am_Y := (yX9_isByte, cX9_isByte, 1, (some .boolean))
set_option maxRecDepth 100000 in
theorem k_X9_isByte : am_ms m_X9_isByte 1 := ⟨⟨am_in 357 rfl rfl, wd_in_X9, ⟨by decide +kernel, by decide +kernel, by decide +kernel⟩, by decide⟩, am_in 356 (by decide +kernel) (by decide +kernel)⟩
abbrev m_X9_peek : am_Y := (yX9_peek, cX9_peek, 2, (some .int))
set_option maxRecDepth 100000 in
theorem k_X9_peek : am_mv m_X9_peek 1 9 := ⟨⟨am_in 362 rfl rfl, wd_in_X9, ⟨by decide +kernel, by decide +kernel, by decide +kernel⟩, by decide⟩, am_in 360 (by decide +kernel) (by decide +kernel), am_in 361 (by decide +kernel) (by decide +kernel), TX9, 5, rfl⟩
abbrev m_X3_at : am_Y := (yX3_at, cX3_at, 2, (some .int))
set_option maxRecDepth 100000 in
theorem k_X3_at : am_mv m_X3_at 1 3 := ⟨⟨am_in 366 rfl rfl, wd_in_X3, ⟨by decide +kernel, by decide +kernel, by decide +kernel⟩, by decide⟩, am_in 364 (by decide +kernel) (by decide +kernel), am_in 365 (by decide +kernel) (by decide +kernel), TX3, 2, rfl⟩
abbrev m_X3_has : am_Y := (yX3_has, cX3_has, 2, (some .boolean))
set_option maxRecDepth 100000 in
theorem k_X3_has : am_mv m_X3_has 1 3 := ⟨⟨am_in 370 rfl rfl, wd_in_X3, ⟨by decide +kernel, by decide +kernel, by decide +kernel⟩, by decide⟩, am_in 368 (by decide +kernel) (by decide +kernel), am_in 369 (by decide +kernel) (by decide +kernel), TX3, 2, rfl⟩
abbrev m_X9_poke : am_Y := (yX9_poke, cX9_poke, 3, (some .boolean))
set_option maxRecDepth 100000 in
theorem k_X9_poke : am_mv m_X9_poke 2 9 := ⟨⟨am_in 374 rfl rfl, wd_in_X9, ⟨by decide +kernel, by decide +kernel, by decide +kernel⟩, by decide⟩, am_in 372 (by decide +kernel) (by decide +kernel), am_in 373 (by decide +kernel) (by decide +kernel), TX9, 5, rfl⟩
abbrev m_X3_change : am_Y := (yX3_change, cX3_change, 3, none)
set_option maxRecDepth 100000 in
theorem k_X3_change : am_mv m_X3_change 2 3 := ⟨⟨am_in 379 rfl rfl, wd_in_X3, ⟨by decide +kernel, by decide +kernel, by decide +kernel⟩, by decide⟩, am_in 377 (by decide +kernel) (by decide +kernel), am_in 378 (by decide +kernel) (by decide +kernel), TX3, 2, rfl⟩
abbrev m_X9_clear : am_Y := (yX9_clear, cX9_clear, 1, none)
set_option maxRecDepth 100000 in
theorem k_X9_clear : am_mv m_X9_clear 0 9 := ⟨⟨am_in 383 rfl rfl, wd_in_X9, ⟨by decide +kernel, by decide +kernel, by decide +kernel⟩, by decide⟩, am_in 381 (by decide +kernel) (by decide +kernel), am_in 382 (by decide +kernel) (by decide +kernel), TX9, 5, rfl⟩
abbrev m_X3_empty : am_Y := (yX3_empty, cX3_empty, 1, none)
set_option maxRecDepth 100000 in
theorem k_X3_empty : am_mv m_X3_empty 0 3 := ⟨⟨am_in 387 rfl rfl, wd_in_X3, ⟨by decide +kernel, by decide +kernel, by decide +kernel⟩, by decide⟩, am_in 385 (by decide +kernel) (by decide +kernel), am_in 386 (by decide +kernel) (by decide +kernel), TX3, 2, rfl⟩
abbrev m_X9_read : am_Y := (yX9_read, cX9_read, 3, (some .int))
set_option maxRecDepth 100000 in
theorem k_X9_read : am_mv m_X9_read 2 9 := ⟨⟨am_in 391 rfl rfl, wd_in_X9, ⟨by decide +kernel, by decide +kernel, by decide +kernel⟩, by decide⟩, am_in 389 (by decide +kernel) (by decide +kernel), am_in 390 (by decide +kernel) (by decide +kernel), TX9, 5, rfl⟩
abbrev m_X9_isOnTape : am_Y := (yX9_isOnTape, cX9_isOnTape, 2, (some .boolean))
set_option maxRecDepth 100000 in
theorem k_X9_isOnTape : am_mv m_X9_isOnTape 1 9 := ⟨⟨am_in 395 rfl rfl, wd_in_X9, ⟨by decide +kernel, by decide +kernel, by decide +kernel⟩, by decide⟩, am_in 394 (by decide +kernel) (by decide +kernel), am_in 0 (by decide +kernel) (by decide +kernel), TX9, 5, rfl⟩
abbrev m_X8_unpack : am_Y := (yX8_unpack, cX8_unpack, 5, (some .int))
set_option maxRecDepth 100000 in
theorem k_X8_unpack : am_mv m_X8_unpack 2 8 := ⟨⟨am_in 399 rfl rfl, wd_in_X8, ⟨by decide +kernel, by decide +kernel, by decide +kernel⟩, by decide⟩, am_in 397 (by decide +kernel) (by decide +kernel), am_in 398 (by decide +kernel) (by decide +kernel), TX8, 7, rfl⟩
abbrev m_X2_open : am_Y := (yX2_open, cX2_open, 2, none)
set_option maxRecDepth 100000 in
theorem k_X2_open : am_mv m_X2_open 1 2 := ⟨⟨am_in 403 rfl rfl, wd_in_X2, ⟨by decide +kernel, by decide +kernel, by decide +kernel⟩, by decide⟩, am_in 401 (by decide +kernel) (by decide +kernel), am_in 402 (by decide +kernel) (by decide +kernel), TX2, 3, rfl⟩
abbrev m_X0_open : am_Y := (yX0_open, cX0_open, 1, none)
set_option maxRecDepth 100000 in
theorem k_X0_open : am_mv m_X0_open 0 0 := ⟨⟨am_in 412 rfl rfl, wd_in_X0, ⟨by decide +kernel, by decide +kernel, by decide +kernel⟩, by decide⟩, am_in 410 (by decide +kernel) (by decide +kernel), am_in 411 (by decide +kernel) (by decide +kernel), TX0, 8, rfl⟩
abbrev m_X8_wantsMore : am_Y := (yX8_wantsMore, cX8_wantsMore, 1, (some .boolean))
set_option maxRecDepth 100000 in
theorem k_X8_wantsMore : am_mv m_X8_wantsMore 0 8 := ⟨⟨am_in 416 rfl rfl, wd_in_X8, ⟨by decide +kernel, by decide +kernel, by decide +kernel⟩, by decide⟩, am_in 415 (by decide +kernel) (by decide +kernel), am_in 1 (by decide +kernel) (by decide +kernel), TX8, 7, rfl⟩
abbrev m_X8_unpackBlock : am_Y := (yX8_unpackBlock, cX8_unpackBlock, 4, (some .int))
set_option maxRecDepth 100000 in
theorem k_X8_unpackBlock : am_mv m_X8_unpackBlock 0 8 := ⟨⟨am_in 421 rfl rfl, wd_in_X8, ⟨by decide +kernel, by decide +kernel, by decide +kernel⟩, by decide⟩, am_in 420 (by decide +kernel) (by decide +kernel), am_in 2 (by decide +kernel) (by decide +kernel), TX8, 7, rfl⟩
abbrev m_X0_beginBlock : am_Y := (yX0_beginBlock, cX0_beginBlock, 1, none)
set_option maxRecDepth 100000 in
theorem k_X0_beginBlock : am_mv m_X0_beginBlock 0 0 := ⟨⟨am_in 425 rfl rfl, wd_in_X0, ⟨by decide +kernel, by decide +kernel, by decide +kernel⟩, by decide⟩, am_in 423 (by decide +kernel) (by decide +kernel), am_in 424 (by decide +kernel) (by decide +kernel), TX0, 8, rfl⟩
abbrev m_X7_wipe : am_Y := (yX7_wipe, cX7_wipe, 1, none)
set_option maxRecDepth 100000 in
theorem k_X7_wipe : am_mv m_X7_wipe 0 7 := ⟨⟨am_in 429 rfl rfl, wd_in_X7, ⟨by decide +kernel, by decide +kernel, by decide +kernel⟩, by decide⟩, am_in 427 (by decide +kernel) (by decide +kernel), am_in 428 (by decide +kernel) (by decide +kernel), TX7, 8, rfl⟩
abbrev m_J7_fill_53178 : am_Y := (yJ7_fill_53178, cJ7_fill_53178, 4, none)
set_option maxRecDepth 100000 in
theorem k_J7_fill_53178 : am_ms m_J7_fill_53178 2 := ⟨⟨am_in 432 rfl rfl, wd_in_J7, ⟨by decide +kernel, by decide +kernel, by decide +kernel⟩, by decide⟩, am_in 431 (by decide +kernel) (by decide +kernel)⟩
abbrev m_X2_take : am_Y := (yX2_take, cX2_take, 4, (some .int))
set_option maxRecDepth 100000 in
theorem k_X2_take : am_mv m_X2_take 1 2 := ⟨⟨am_in 436 rfl rfl, wd_in_X2, ⟨by decide +kernel, by decide +kernel, by decide +kernel⟩, by decide⟩, am_in 434 (by decide +kernel) (by decide +kernel), am_in 435 (by decide +kernel) (by decide +kernel), TX2, 3, rfl⟩
abbrev m_X8_takeTree : am_Y := (yX8_takeTree, cX8_takeTree, 6, (some .int))
set_option maxRecDepth 100000 in
theorem k_X8_takeTree : am_mv m_X8_takeTree 2 8 := ⟨⟨am_in 440 rfl rfl, wd_in_X8, ⟨by decide +kernel, by decide +kernel, by decide +kernel⟩, by decide⟩, am_in 439 (by decide +kernel) (by decide +kernel), am_in 3 (by decide +kernel) (by decide +kernel), TX8, 7, rfl⟩
abbrev m_X7_symbols : am_Y := (yX7_symbols, cX7_symbols, 1, (some .int))
set_option maxRecDepth 100000 in
theorem k_X7_symbols : am_mv m_X7_symbols 0 7 := ⟨⟨am_in 444 rfl rfl, wd_in_X7, ⟨by decide +kernel, by decide +kernel, by decide +kernel⟩, by decide⟩, am_in 442 (by decide +kernel) (by decide +kernel), am_in 443 (by decide +kernel) (by decide +kernel), TX7, 8, rfl⟩
abbrev m_X8_takeAlone : am_Y := (yX8_takeAlone, cX8_takeAlone, 4, (some .int))
set_option maxRecDepth 100000 in
theorem k_X8_takeAlone : am_mv m_X8_takeAlone 2 8 := ⟨⟨am_in 448 rfl rfl, wd_in_X8, ⟨by decide +kernel, by decide +kernel, by decide +kernel⟩, by decide⟩, am_in 447 (by decide +kernel) (by decide +kernel), am_in 4 (by decide +kernel) (by decide +kernel), TX8, 7, rfl⟩
abbrev m_X7_has : am_Y := (yX7_has, cX7_has, 2, (some .boolean))
set_option maxRecDepth 100000 in
theorem k_X7_has : am_mv m_X7_has 1 7 := ⟨⟨am_in 452 rfl rfl, wd_in_X7, ⟨by decide +kernel, by decide +kernel, by decide +kernel⟩, by decide⟩, am_in 450 (by decide +kernel) (by decide +kernel), am_in 451 (by decide +kernel) (by decide +kernel), TX7, 8, rfl⟩
abbrev m_X7_setAlone : am_Y := (yX7_setAlone, cX7_setAlone, 2, none)
set_option maxRecDepth 100000 in
theorem k_X7_setAlone : am_mv m_X7_setAlone 1 7 := ⟨⟨am_in 456 rfl rfl, wd_in_X7, ⟨by decide +kernel, by decide +kernel, by decide +kernel⟩, by decide⟩, am_in 454 (by decide +kernel) (by decide +kernel), am_in 455 (by decide +kernel) (by decide +kernel), TX7, 8, rfl⟩
abbrev m_X8_takeLengthsByT : am_Y := (yX8_takeLengthsByT, cX8_takeLengthsByT, 6, (some .int))
set_option maxRecDepth 100000 in
theorem k_X8_takeLengthsByT : am_mv m_X8_takeLengthsByT 1 8 := ⟨⟨am_in 460 rfl rfl, wd_in_X8, ⟨by decide +kernel, by decide +kernel, by decide +kernel⟩, by decide⟩, am_in 459 (by decide +kernel) (by decide +kernel), am_in 5 (by decide +kernel) (by decide +kernel), TX8, 7, rfl⟩
abbrev m_X2_takeSymbol : am_Y := (yX2_takeSymbol, cX2_takeSymbol, 6, (some .int))
set_option maxRecDepth 100000 in
theorem k_X2_takeSymbol : am_mv m_X2_takeSymbol 1 2 := ⟨⟨am_in 464 rfl rfl, wd_in_X2, ⟨by decide +kernel, by decide +kernel, by decide +kernel⟩, by decide⟩, am_in 462 (by decide +kernel) (by decide +kernel), am_in 463 (by decide +kernel) (by decide +kernel), TX2, 3, rfl⟩
abbrev m_X7_isAlone : am_Y := (yX7_isAlone, cX7_isAlone, 1, (some .boolean))
set_option maxRecDepth 100000 in
theorem k_X7_isAlone : am_mv m_X7_isAlone 0 7 := ⟨⟨am_in 468 rfl rfl, wd_in_X7, ⟨by decide +kernel, by decide +kernel, by decide +kernel⟩, by decide⟩, am_in 466 (by decide +kernel) (by decide +kernel), am_in 467 (by decide +kernel) (by decide +kernel), TX7, 8, rfl⟩
abbrev m_X7_alone : am_Y := (yX7_alone, cX7_alone, 1, (some .int))
set_option maxRecDepth 100000 in
theorem k_X7_alone : am_mv m_X7_alone 0 7 := ⟨⟨am_in 472 rfl rfl, wd_in_X7, ⟨by decide +kernel, by decide +kernel, by decide +kernel⟩, by decide⟩, am_in 470 (by decide +kernel) (by decide +kernel), am_in 471 (by decide +kernel) (by decide +kernel), TX7, 8, rfl⟩
abbrev m_X7_symbolOf : am_Y := (yX7_symbolOf, cX7_symbolOf, 4, (some .int))
set_option maxRecDepth 100000 in
theorem k_X7_symbolOf : am_mv m_X7_symbolOf 2 7 := ⟨⟨am_in 477 rfl rfl, wd_in_X7, ⟨by decide +kernel, by decide +kernel, by decide +kernel⟩, by decide⟩, am_in 475 (by decide +kernel) (by decide +kernel), am_in 476 (by decide +kernel) (by decide +kernel), TX7, 8, rfl⟩
abbrev m_X7_setLength : am_Y := (yX7_setLength, cX7_setLength, 3, none)
set_option maxRecDepth 100000 in
theorem k_X7_setLength : am_mv m_X7_setLength 2 7 := ⟨⟨am_in 481 rfl rfl, wd_in_X7, ⟨by decide +kernel, by decide +kernel, by decide +kernel⟩, by decide⟩, am_in 479 (by decide +kernel) (by decide +kernel), am_in 480 (by decide +kernel) (by decide +kernel), TX7, 8, rfl⟩
abbrev m_X9_bitsBehind : am_Y := (yX9_bitsBehind, cX9_bitsBehind, 1, (some .int))
set_option maxRecDepth 100000 in
theorem k_X9_bitsBehind : am_ms m_X9_bitsBehind 1 := ⟨⟨am_in 485 rfl rfl, wd_in_X9, ⟨by decide +kernel, by decide +kernel, by decide +kernel⟩, by decide⟩, am_in 484 (by decide +kernel) (by decide +kernel)⟩
abbrev m_X9_leastOf : am_Y := (yX9_leastOf, cX9_leastOf, 1, (some .int))
set_option maxRecDepth 100000 in
theorem k_X9_leastOf : am_ms m_X9_leastOf 1 := ⟨⟨am_in 488 rfl rfl, wd_in_X9, ⟨by decide +kernel, by decide +kernel, by decide +kernel⟩, by decide⟩, am_in 487 (by decide +kernel) (by decide +kernel)⟩
abbrev m_X8_takeLengths : am_Y := (yX8_takeLengths, cX8_takeLengths, 7, (some .int))
set_option maxRecDepth 100000 in
theorem k_X8_takeLengths : am_mv m_X8_takeLengths 3 8 := ⟨⟨am_in 492 rfl rfl, wd_in_X8, ⟨by decide +kernel, by decide +kernel, by decide +kernel⟩, by decide⟩, am_in 491 (by decide +kernel) (by decide +kernel), am_in 6 (by decide +kernel) (by decide +kernel), TX8, 7, rfl⟩
abbrev m_X2_takeLength : am_Y := (yX2_takeLength, cX2_takeLength, 3, (some .int))
set_option maxRecDepth 100000 in
theorem k_X2_takeLength : am_mv m_X2_takeLength 0 2 := ⟨⟨am_in 496 rfl rfl, wd_in_X2, ⟨by decide +kernel, by decide +kernel, by decide +kernel⟩, by decide⟩, am_in 494 (by decide +kernel) (by decide +kernel), am_in 495 (by decide +kernel) (by decide +kernel), TX2, 3, rfl⟩
abbrev m_X7_settle : am_Y := (yX7_settle, cX7_settle, 5, (some .boolean))
set_option maxRecDepth 100000 in
theorem k_X7_settle : am_mv m_X7_settle 0 7 := ⟨⟨am_in 500 rfl rfl, wd_in_X7, ⟨by decide +kernel, by decide +kernel, by decide +kernel⟩, by decide⟩, am_in 498 (by decide +kernel) (by decide +kernel), am_in 499 (by decide +kernel) (by decide +kernel), TX7, 8, rfl⟩
abbrev m_X7_number : am_Y := (yX7_number, cX7_number, 3, none)
set_option maxRecDepth 100000 in
theorem k_X7_number : am_mv m_X7_number 0 7 := ⟨⟨am_in 505 rfl rfl, wd_in_X7, ⟨by decide +kernel, by decide +kernel, by decide +kernel⟩, by decide⟩, am_in 504 (by decide +kernel) (by decide +kernel), am_in 7 (by decide +kernel) (by decide +kernel), TX7, 8, rfl⟩
abbrev m_X8_unpackCode : am_Y := (yX8_unpackCode, cX8_unpackCode, 3, (some .int))
set_option maxRecDepth 100000 in
theorem k_X8_unpackCode : am_mv m_X8_unpackCode 0 8 := ⟨⟨am_in 509 rfl rfl, wd_in_X8, ⟨by decide +kernel, by decide +kernel, by decide +kernel⟩, by decide⟩, am_in 508 (by decide +kernel) (by decide +kernel), am_in 8 (by decide +kernel) (by decide +kernel), TX8, 7, rfl⟩
abbrev m_X0_countByte : am_Y := (yX0_countByte, cX0_countByte, 1, none)
set_option maxRecDepth 100000 in
theorem k_X0_countByte : am_mv m_X0_countByte 0 0 := ⟨⟨am_in 514 rfl rfl, wd_in_X0, ⟨by decide +kernel, by decide +kernel, by decide +kernel⟩, by decide⟩, am_in 512 (by decide +kernel) (by decide +kernel), am_in 513 (by decide +kernel) (by decide +kernel), TX0, 8, rfl⟩
abbrev m_X2_takeDistance : am_Y := (yX2_takeDistance, cX2_takeDistance, 4, (some .int))
set_option maxRecDepth 100000 in
theorem k_X2_takeDistance : am_mv m_X2_takeDistance 1 2 := ⟨⟨am_in 518 rfl rfl, wd_in_X2, ⟨by decide +kernel, by decide +kernel, by decide +kernel⟩, by decide⟩, am_in 516 (by decide +kernel) (by decide +kernel), am_in 517 (by decide +kernel) (by decide +kernel), TX2, 3, rfl⟩
abbrev m_X8_copy : am_Y := (yX8_copy, cX8_copy, 5, (some .int))
set_option maxRecDepth 100000 in
theorem k_X8_copy : am_mv m_X8_copy 2 8 := ⟨⟨am_in 523 rfl rfl, wd_in_X8, ⟨by decide +kernel, by decide +kernel, by decide +kernel⟩, by decide⟩, am_in 522 (by decide +kernel) (by decide +kernel), am_in 9 (by decide +kernel) (by decide +kernel), TX8, 7, rfl⟩
abbrev m_X0_countCopy : am_Y := (yX0_countCopy, cX0_countCopy, 1, none)
set_option maxRecDepth 100000 in
theorem k_X0_countCopy : am_mv m_X0_countCopy 0 0 := ⟨⟨am_in 527 rfl rfl, wd_in_X0, ⟨by decide +kernel, by decide +kernel, by decide +kernel⟩, by decide⟩, am_in 525 (by decide +kernel) (by decide +kernel), am_in 526 (by decide +kernel) (by decide +kernel), TX0, 8, rfl⟩
abbrev m_X2_taken : am_Y := (yX2_taken, cX2_taken, 1, (some .int))
set_option maxRecDepth 100000 in
theorem k_X2_taken : am_mv m_X2_taken 0 2 := ⟨⟨am_in 532 rfl rfl, wd_in_X2, ⟨by decide +kernel, by decide +kernel, by decide +kernel⟩, by decide⟩, am_in 530 (by decide +kernel) (by decide +kernel), am_in 531 (by decide +kernel) (by decide +kernel), TX2, 3, rfl⟩
abbrev m_X0_close : am_Y := (yX0_close, cX0_close, 2, none)
set_option maxRecDepth 100000 in
theorem k_X0_close : am_mv m_X0_close 1 0 := ⟨⟨am_in 536 rfl rfl, wd_in_X0, ⟨by decide +kernel, by decide +kernel, by decide +kernel⟩, by decide⟩, am_in 534 (by decide +kernel) (by decide +kernel), am_in 535 (by decide +kernel) (by decide +kernel), TX0, 8, rfl⟩
abbrev m_X9_write : am_Y := (yX9_write, cX9_write, 2, (some .int))
set_option maxRecDepth 100000 in
theorem k_X9_write : am_mv m_X9_write 1 9 := ⟨⟨am_in 540 rfl rfl, wd_in_X9, ⟨by decide +kernel, by decide +kernel, by decide +kernel⟩, by decide⟩, am_in 538 (by decide +kernel) (by decide +kernel), am_in 539 (by decide +kernel) (by decide +kernel), TX9, 5, rfl⟩
abbrev m_X6_pack : am_Y := (yX6_pack, cX6_pack, 4, none)
set_option maxRecDepth 100000 in
theorem k_X6_pack : am_mv m_X6_pack 1 6 := ⟨⟨am_in 544 rfl rfl, wd_in_X6, ⟨by decide +kernel, by decide +kernel, by decide +kernel⟩, by decide⟩, am_in 542 (by decide +kernel) (by decide +kernel), am_in 543 (by decide +kernel) (by decide +kernel), TX6, 14, rfl⟩
abbrev m_X1_open : am_Y := (yX1_open, cX1_open, 1, none)
set_option maxRecDepth 100000 in
theorem k_X1_open : am_mv m_X1_open 0 1 := ⟨⟨am_in 548 rfl rfl, wd_in_X1, ⟨by decide +kernel, by decide +kernel, by decide +kernel⟩, by decide⟩, am_in 546 (by decide +kernel) (by decide +kernel), am_in 547 (by decide +kernel) (by decide +kernel), TX1, 2, rfl⟩
abbrev m_X4_open : am_Y := (yX4_open, cX4_open, 4, none)
set_option maxRecDepth 100000 in
theorem k_X4_open : am_mv m_X4_open 1 4 := ⟨⟨am_in 554 rfl rfl, wd_in_X4, ⟨by decide +kernel, by decide +kernel, by decide +kernel⟩, by decide⟩, am_in 552 (by decide +kernel) (by decide +kernel), am_in 553 (by decide +kernel) (by decide +kernel), TX4, 6, rfl⟩
abbrev m_X4_chainOf : am_Y := (yX4_chainOf, cX4_chainOf, 2, (some .int))
set_option maxRecDepth 100000 in
theorem k_X4_chainOf : am_mv m_X4_chainOf 1 4 := ⟨⟨am_in 560 rfl rfl, wd_in_X4, ⟨by decide +kernel, by decide +kernel, by decide +kernel⟩, by decide⟩, am_in 559 (by decide +kernel) (by decide +kernel), am_in 10 (by decide +kernel) (by decide +kernel), TX4, 6, rfl⟩
abbrev m_X6_gatherCodes : am_Y := (yX6_gatherCodes, cX6_gatherCodes, 5, (some .int))
set_option maxRecDepth 100000 in
theorem k_X6_gatherCodes : am_mv m_X6_gatherCodes 2 6 := ⟨⟨am_in 566 rfl rfl, wd_in_X6, ⟨by decide +kernel, by decide +kernel, by decide +kernel⟩, by decide⟩, am_in 565 (by decide +kernel) (by decide +kernel), am_in 11 (by decide +kernel) (by decide +kernel), TX6, 14, rfl⟩
abbrev m_X4_find : am_Y := (yX4_find, cX4_find, 6, (some .boolean))
set_option maxRecDepth 100000 in
theorem k_X4_find : am_mv m_X4_find 1 4 := ⟨⟨am_in 570 rfl rfl, wd_in_X4, ⟨by decide +kernel, by decide +kernel, by decide +kernel⟩, by decide⟩, am_in 568 (by decide +kernel) (by decide +kernel), am_in 569 (by decide +kernel) (by decide +kernel), TX4, 6, rfl⟩
abbrev m_X4_sameBytes : am_Y := (yX4_sameBytes, cX4_sameBytes, 5, (some .int))
set_option maxRecDepth 100000 in
theorem k_X4_sameBytes : am_mv m_X4_sameBytes 3 4 := ⟨⟨am_in 574 rfl rfl, wd_in_X4, ⟨by decide +kernel, by decide +kernel, by decide +kernel⟩, by decide⟩, am_in 573 (by decide +kernel) (by decide +kernel), am_in 12 (by decide +kernel) (by decide +kernel), TX4, 6, rfl⟩
abbrev m_X4_foundLength : am_Y := (yX4_foundLength, cX4_foundLength, 1, (some .int))
set_option maxRecDepth 100000 in
theorem k_X4_foundLength : am_mv m_X4_foundLength 0 4 := ⟨⟨am_in 578 rfl rfl, wd_in_X4, ⟨by decide +kernel, by decide +kernel, by decide +kernel⟩, by decide⟩, am_in 576 (by decide +kernel) (by decide +kernel), am_in 577 (by decide +kernel) (by decide +kernel), TX4, 6, rfl⟩
abbrev m_X4_foundDistance : am_Y := (yX4_foundDistance, cX4_foundDistance, 1, (some .int))
set_option maxRecDepth 100000 in
theorem k_X4_foundDistance : am_mv m_X4_foundDistance 0 4 := ⟨⟨am_in 582 rfl rfl, wd_in_X4, ⟨by decide +kernel, by decide +kernel, by decide +kernel⟩, by decide⟩, am_in 580 (by decide +kernel) (by decide +kernel), am_in 581 (by decide +kernel) (by decide +kernel), TX4, 6, rfl⟩
abbrev m_X6_distanceSymbol : am_Y := (yX6_distanceSymbol, cX6_distanceSymbol, 2, (some .int))
set_option maxRecDepth 100000 in
theorem k_X6_distanceSymbol : am_ms m_X6_distanceSymbol 1 := ⟨⟨am_in 585 rfl rfl, wd_in_X6, ⟨by decide +kernel, by decide +kernel, by decide +kernel⟩, by decide⟩, am_in 584 (by decide +kernel) (by decide +kernel)⟩
abbrev m_X7_use : am_Y := (yX7_use, cX7_use, 2, none)
set_option maxRecDepth 100000 in
theorem k_X7_use : am_mv m_X7_use 1 7 := ⟨⟨am_in 589 rfl rfl, wd_in_X7, ⟨by decide +kernel, by decide +kernel, by decide +kernel⟩, by decide⟩, am_in 587 (by decide +kernel) (by decide +kernel), am_in 588 (by decide +kernel) (by decide +kernel), TX7, 8, rfl⟩
abbrev m_X5_shape : am_Y := (yX5_shape, cX5_shape, 2, none)
set_option maxRecDepth 100000 in
theorem k_X5_shape : am_mv m_X5_shape 1 5 := ⟨⟨am_in 596 rfl rfl, wd_in_X5, ⟨by decide +kernel, by decide +kernel, by decide +kernel⟩, by decide⟩, am_in 594 (by decide +kernel) (by decide +kernel), am_in 595 (by decide +kernel) (by decide +kernel), TX5, 8, rfl⟩
abbrev m_X5_sortLeaves : am_Y := (yX5_sortLeaves, cX5_sortLeaves, 3, none)
set_option maxRecDepth 100000 in
theorem k_X5_sortLeaves : am_mv m_X5_sortLeaves 1 5 := ⟨⟨am_in 600 rfl rfl, wd_in_X5, ⟨by decide +kernel, by decide +kernel, by decide +kernel⟩, by decide⟩, am_in 599 (by decide +kernel) (by decide +kernel), am_in 13 (by decide +kernel) (by decide +kernel), TX5, 8, rfl⟩
abbrev m_X7_usesOf : am_Y := (yX7_usesOf, cX7_usesOf, 2, (some .int))
set_option maxRecDepth 100000 in
theorem k_X7_usesOf : am_mv m_X7_usesOf 1 7 := ⟨⟨am_in 605 rfl rfl, wd_in_X7, ⟨by decide +kernel, by decide +kernel, by decide +kernel⟩, by decide⟩, am_in 603 (by decide +kernel) (by decide +kernel), am_in 604 (by decide +kernel) (by decide +kernel), TX7, 8, rfl⟩
abbrev m_X5_insertLeaf : am_Y := (yX5_insertLeaf, cX5_insertLeaf, 3, none)
set_option maxRecDepth 100000 in
theorem k_X5_insertLeaf : am_mv m_X5_insertLeaf 1 5 := ⟨⟨am_in 609 rfl rfl, wd_in_X5, ⟨by decide +kernel, by decide +kernel, by decide +kernel⟩, by decide⟩, am_in 608 (by decide +kernel) (by decide +kernel), am_in 14 (by decide +kernel) (by decide +kernel), TX5, 8, rfl⟩
abbrev m_X5_merge : am_Y := (yX5_merge, cX5_merge, 5, none)
set_option maxRecDepth 100000 in
theorem k_X5_merge : am_mv m_X5_merge 1 5 := ⟨⟨am_in 614 rfl rfl, wd_in_X5, ⟨by decide +kernel, by decide +kernel, by decide +kernel⟩, by decide⟩, am_in 613 (by decide +kernel) (by decide +kernel), am_in 15 (by decide +kernel) (by decide +kernel), TX5, 8, rfl⟩
abbrev m_X5_takeLeast : am_Y := (yX5_takeLeast, cX5_takeLeast, 3, (some .int))
set_option maxRecDepth 100000 in
theorem k_X5_takeLeast : am_mv m_X5_takeLeast 0 5 := ⟨⟨am_in 618 rfl rfl, wd_in_X5, ⟨by decide +kernel, by decide +kernel, by decide +kernel⟩, by decide⟩, am_in 617 (by decide +kernel) (by decide +kernel), am_in 16 (by decide +kernel) (by decide +kernel), TX5, 8, rfl⟩
abbrev m_X5_measure : am_Y := (yX5_measure, cX5_measure, 3, none)
set_option maxRecDepth 100000 in
theorem k_X5_measure : am_mv m_X5_measure 1 5 := ⟨⟨am_in 622 rfl rfl, wd_in_X5, ⟨by decide +kernel, by decide +kernel, by decide +kernel⟩, by decide⟩, am_in 621 (by decide +kernel) (by decide +kernel), am_in 17 (by decide +kernel) (by decide +kernel), TX5, 8, rfl⟩
abbrev m_X6_gatherTellers : am_Y := (yX6_gatherTellers, cX6_gatherTellers, 4, none)
set_option maxRecDepth 100000 in
theorem k_X6_gatherTellers : am_mv m_X6_gatherTellers 0 6 := ⟨⟨am_in 628 rfl rfl, wd_in_X6, ⟨by decide +kernel, by decide +kernel, by decide +kernel⟩, by decide⟩, am_in 627 (by decide +kernel) (by decide +kernel), am_in 18 (by decide +kernel) (by decide +kernel), TX6, 14, rfl⟩
abbrev m_X7_lengthsInUse : am_Y := (yX7_lengthsInUse, cX7_lengthsInUse, 2, (some .int))
set_option maxRecDepth 100000 in
theorem k_X7_lengthsInUse : am_mv m_X7_lengthsInUse 0 7 := ⟨⟨am_in 632 rfl rfl, wd_in_X7, ⟨by decide +kernel, by decide +kernel, by decide +kernel⟩, by decide⟩, am_in 630 (by decide +kernel) (by decide +kernel), am_in 631 (by decide +kernel) (by decide +kernel), TX7, 8, rfl⟩
abbrev m_X7_zerosFrom : am_Y := (yX7_zerosFrom, cX7_zerosFrom, 4, (some .int))
set_option maxRecDepth 100000 in
theorem k_X7_zerosFrom : am_mv m_X7_zerosFrom 2 7 := ⟨⟨am_in 636 rfl rfl, wd_in_X7, ⟨by decide +kernel, by decide +kernel, by decide +kernel⟩, by decide⟩, am_in 634 (by decide +kernel) (by decide +kernel), am_in 635 (by decide +kernel) (by decide +kernel), TX7, 8, rfl⟩
abbrev m_X7_lengthOf : am_Y := (yX7_lengthOf, cX7_lengthOf, 2, (some .int))
set_option maxRecDepth 100000 in
theorem k_X7_lengthOf : am_mv m_X7_lengthOf 1 7 := ⟨⟨am_in 640 rfl rfl, wd_in_X7, ⟨by decide +kernel, by decide +kernel, by decide +kernel⟩, by decide⟩, am_in 638 (by decide +kernel) (by decide +kernel), am_in 639 (by decide +kernel) (by decide +kernel), TX7, 8, rfl⟩
abbrev m_X6_addTeller : am_Y := (yX6_addTeller, cX6_addTeller, 3, none)
set_option maxRecDepth 100000 in
theorem k_X6_addTeller : am_mv m_X6_addTeller 2 6 := ⟨⟨am_in 645 rfl rfl, wd_in_X6, ⟨by decide +kernel, by decide +kernel, by decide +kernel⟩, by decide⟩, am_in 644 (by decide +kernel) (by decide +kernel), am_in 19 (by decide +kernel) (by decide +kernel), TX6, 14, rfl⟩
abbrev m_X6_addZeros : am_Y := (yX6_addZeros, cX6_addZeros, 3, none)
set_option maxRecDepth 100000 in
theorem k_X6_addZeros : am_mv m_X6_addZeros 1 6 := ⟨⟨am_in 649 rfl rfl, wd_in_X6, ⟨by decide +kernel, by decide +kernel, by decide +kernel⟩, by decide⟩, am_in 648 (by decide +kernel) (by decide +kernel), am_in 20 (by decide +kernel) (by decide +kernel), TX6, 14, rfl⟩
abbrev m_X6_packBlock : am_Y := (yX6_packBlock, cX6_packBlock, 2, none)
set_option maxRecDepth 100000 in
theorem k_X6_packBlock : am_mv m_X6_packBlock 0 6 := ⟨⟨am_in 653 rfl rfl, wd_in_X6, ⟨by decide +kernel, by decide +kernel, by decide +kernel⟩, by decide⟩, am_in 652 (by decide +kernel) (by decide +kernel), am_in 21 (by decide +kernel) (by decide +kernel), TX6, 14, rfl⟩
abbrev m_X1_give : am_Y := (yX1_give, cX1_give, 4, none)
set_option maxRecDepth 100000 in
theorem k_X1_give : am_mv m_X1_give 2 1 := ⟨⟨am_in 657 rfl rfl, wd_in_X1, ⟨by decide +kernel, by decide +kernel, by decide +kernel⟩, by decide⟩, am_in 655 (by decide +kernel) (by decide +kernel), am_in 656 (by decide +kernel) (by decide +kernel), TX1, 2, rfl⟩
abbrev m_X3_mixIntoLast : am_Y := (yX3_mixIntoLast, cX3_mixIntoLast, 2, none)
set_option maxRecDepth 100000 in
theorem k_X3_mixIntoLast : am_mv m_X3_mixIntoLast 1 3 := ⟨⟨am_in 662 rfl rfl, wd_in_X3, ⟨by decide +kernel, by decide +kernel, by decide +kernel⟩, by decide⟩, am_in 660 (by decide +kernel) (by decide +kernel), am_in 661 (by decide +kernel) (by decide +kernel), TX3, 2, rfl⟩
abbrev m_X6_tellTree : am_Y := (yX6_tellTree, cX6_tellTree, 7, none)
set_option maxRecDepth 100000 in
theorem k_X6_tellTree : am_mv m_X6_tellTree 3 6 := ⟨⟨am_in 666 rfl rfl, wd_in_X6, ⟨by decide +kernel, by decide +kernel, by decide +kernel⟩, by decide⟩, am_in 665 (by decide +kernel) (by decide +kernel), am_in 22 (by decide +kernel) (by decide +kernel), TX6, 14, rfl⟩
abbrev m_X1_giveAlone : am_Y := (yX1_giveAlone, cX1_giveAlone, 3, none)
set_option maxRecDepth 100000 in
theorem k_X1_giveAlone : am_mv m_X1_giveAlone 2 1 := ⟨⟨am_in 672 rfl rfl, wd_in_X1, ⟨by decide +kernel, by decide +kernel, by decide +kernel⟩, by decide⟩, am_in 670 (by decide +kernel) (by decide +kernel), am_in 671 (by decide +kernel) (by decide +kernel), TX1, 2, rfl⟩
abbrev m_X1_giveLength : am_Y := (yX1_giveLength, cX1_giveLength, 3, none)
set_option maxRecDepth 100000 in
theorem k_X1_giveLength : am_mv m_X1_giveLength 1 1 := ⟨⟨am_in 677 rfl rfl, wd_in_X1, ⟨by decide +kernel, by decide +kernel, by decide +kernel⟩, by decide⟩, am_in 675 (by decide +kernel) (by decide +kernel), am_in 676 (by decide +kernel) (by decide +kernel), TX1, 2, rfl⟩
abbrev m_X6_tellTreeC : am_Y := (yX6_tellTreeC, cX6_tellTreeC, 2, none)
set_option maxRecDepth 100000 in
theorem k_X6_tellTreeC : am_mv m_X6_tellTreeC 0 6 := ⟨⟨am_in 682 rfl rfl, wd_in_X6, ⟨by decide +kernel, by decide +kernel, by decide +kernel⟩, by decide⟩, am_in 681 (by decide +kernel) (by decide +kernel), am_in 23 (by decide +kernel) (by decide +kernel), TX6, 14, rfl⟩
abbrev m_X1_giveSymbol : am_Y := (yX1_giveSymbol, cX1_giveSymbol, 3, none)
set_option maxRecDepth 100000 in
theorem k_X1_giveSymbol : am_mv m_X1_giveSymbol 2 1 := ⟨⟨am_in 686 rfl rfl, wd_in_X1, ⟨by decide +kernel, by decide +kernel, by decide +kernel⟩, by decide⟩, am_in 684 (by decide +kernel) (by decide +kernel), am_in 685 (by decide +kernel) (by decide +kernel), TX1, 2, rfl⟩
abbrev m_X7_codeOf : am_Y := (yX7_codeOf, cX7_codeOf, 2, (some .int))
set_option maxRecDepth 100000 in
theorem k_X7_codeOf : am_mv m_X7_codeOf 1 7 := ⟨⟨am_in 691 rfl rfl, wd_in_X7, ⟨by decide +kernel, by decide +kernel, by decide +kernel⟩, by decide⟩, am_in 689 (by decide +kernel) (by decide +kernel), am_in 690 (by decide +kernel) (by decide +kernel), TX7, 8, rfl⟩
abbrev m_X6_packDistance : am_Y := (yX6_packDistance, cX6_packDistance, 3, none)
set_option maxRecDepth 100000 in
theorem k_X6_packDistance : am_mv m_X6_packDistance 1 6 := ⟨⟨am_in 697 rfl rfl, wd_in_X6, ⟨by decide +kernel, by decide +kernel, by decide +kernel⟩, by decide⟩, am_in 696 (by decide +kernel) (by decide +kernel), am_in 24 (by decide +kernel) (by decide +kernel), TX6, 14, rfl⟩
abbrev m_X1_given : am_Y := (yX1_given, cX1_given, 1, (some .int))
set_option maxRecDepth 100000 in
theorem k_X1_given : am_mv m_X1_given 0 1 := ⟨⟨am_in 701 rfl rfl, wd_in_X1, ⟨by decide +kernel, by decide +kernel, by decide +kernel⟩, by decide⟩, am_in 699 (by decide +kernel) (by decide +kernel), am_in 700 (by decide +kernel) (by decide +kernel), TX1, 2, rfl⟩
abbrev m_X9_back : am_Y := (yX9_back, cX9_back, 1, (some .int))
set_option maxRecDepth 100000 in
theorem k_X9_back : am_mv m_X9_back 0 9 := ⟨⟨am_in 706 rfl rfl, wd_in_X9, ⟨by decide +kernel, by decide +kernel, by decide +kernel⟩, by decide⟩, am_in 704 (by decide +kernel) (by decide +kernel), am_in 705 (by decide +kernel) (by decide +kernel), TX9, 5, rfl⟩
abbrev m_X3_become : am_Y := (yX3_become, cX3_become, 2, none)
set_option maxRecDepth 100000 in
theorem k_X3_become : am_mv m_X3_become 1 3 := ⟨⟨am_in 710 rfl rfl, wd_in_X3, ⟨by decide +kernel, by decide +kernel, by decide +kernel⟩, by decide⟩, am_in 708 (by decide +kernel) (by decide +kernel), am_in 709 (by decide +kernel) (by decide +kernel), TX3, 2, rfl⟩
abbrev m_X9_made : am_Y := (yX9_made, cX9_made, 1, (some .int))
set_option maxRecDepth 100000 in
theorem k_X9_made : am_mv m_X9_made 0 9 := ⟨⟨am_in 718 rfl rfl, wd_in_X9, ⟨by decide +kernel, by decide +kernel, by decide +kernel⟩, by decide⟩, am_in 716 (by decide +kernel) (by decide +kernel), am_in 717 (by decide +kernel) (by decide +kernel), TX9, 5, rfl⟩
abbrev m_X9_out : am_Y := (yX9_out, cX9_out, 2, (some .int))
set_option maxRecDepth 100000 in
theorem k_X9_out : am_mv m_X9_out 1 9 := ⟨⟨am_in 722 rfl rfl, wd_in_X9, ⟨by decide +kernel, by decide +kernel, by decide +kernel⟩, by decide⟩, am_in 720 (by decide +kernel) (by decide +kernel), am_in 721 (by decide +kernel) (by decide +kernel), TX9, 5, rfl⟩
abbrev m_X9_told : am_Y := (yX9_told, cX9_told, 2, (some .int))
set_option maxRecDepth 100000 in
theorem k_X9_told : am_mv m_X9_told 1 9 := ⟨⟨am_in 726 rfl rfl, wd_in_X9, ⟨by decide +kernel, by decide +kernel, by decide +kernel⟩, by decide⟩, am_in 724 (by decide +kernel) (by decide +kernel), am_in 725 (by decide +kernel) (by decide +kernel), TX9, 5, rfl⟩
abbrev m_X0_number : am_Y := (yX0_number, cX0_number, 2, (some .int))
set_option maxRecDepth 100000 in
theorem k_X0_number : am_mv m_X0_number 1 0 := ⟨⟨am_in 730 rfl rfl, wd_in_X0, ⟨by decide +kernel, by decide +kernel, by decide +kernel⟩, by decide⟩, am_in 728 (by decide +kernel) (by decide +kernel), am_in 729 (by decide +kernel) (by decide +kernel), TX0, 8, rfl⟩
abbrev m_X9_length : am_Y := (yX9_length, cX9_length, 3, (some .int))
set_option maxRecDepth 100000 in
theorem k_X9_length : am_mv m_X9_length 2 9 := ⟨⟨am_in 734 rfl rfl, wd_in_X9, ⟨by decide +kernel, by decide +kernel, by decide +kernel⟩, by decide⟩, am_in 732 (by decide +kernel) (by decide +kernel), am_in 733 (by decide +kernel) (by decide +kernel), TX9, 5, rfl⟩
abbrev m_X0_hasBlock : am_Y := (yX0_hasBlock, cX0_hasBlock, 1, (some .boolean))
set_option maxRecDepth 100000 in
theorem k_X0_hasBlock : am_mv m_X0_hasBlock 0 0 := ⟨⟨am_in 738 rfl rfl, wd_in_X0, ⟨by decide +kernel, by decide +kernel, by decide +kernel⟩, by decide⟩, am_in 736 (by decide +kernel) (by decide +kernel), am_in 737 (by decide +kernel) (by decide +kernel), TX0, 8, rfl⟩
abbrev m_X10_init : am_Y := (yX10_init, cX10_init, 1, none)
set_option maxRecDepth 100000 in
theorem k_X10_init : am_mi m_X10_init 0 := ⟨⟨am_in 745 rfl rfl, wd_in_X10, ⟨by decide +kernel, by decide +kernel, by decide +kernel⟩, by decide⟩, am_in 744 (by decide +kernel) (by decide +kernel), rfl, rfl⟩
abbrev m_X10_feed : am_Y := (yX10_feed, cX10_feed, 8, (some .int))
set_option maxRecDepth 100000 in
theorem k_X10_feed : am_mv m_X10_feed 5 10 := ⟨⟨am_in 821 rfl rfl, wd_in_X10, ⟨by decide +kernel, by decide +kernel, by decide +kernel⟩, by decide⟩, am_in 819 (by decide +kernel) (by decide +kernel), am_in 820 (by decide +kernel) (by decide +kernel), TX10, 23, rfl⟩
abbrev m_X10_fill : am_Y := (yX10_fill, cX10_fill, 4, (some .int))
set_option maxRecDepth 100000 in
theorem k_X10_fill : am_mv m_X10_fill 2 10 := ⟨⟨am_in 825 rfl rfl, wd_in_X10, ⟨by decide +kernel, by decide +kernel, by decide +kernel⟩, by decide⟩, am_in 823 (by decide +kernel) (by decide +kernel), am_in 824 (by decide +kernel) (by decide +kernel), TX10, 23, rfl⟩
abbrev m_X10_peek : am_Y := (yX10_peek, cX10_peek, 2, (some .int))
set_option maxRecDepth 100000 in
theorem k_X10_peek : am_mv m_X10_peek 1 10 := ⟨⟨am_in 829 rfl rfl, wd_in_X10, ⟨by decide +kernel, by decide +kernel, by decide +kernel⟩, by decide⟩, am_in 827 (by decide +kernel) (by decide +kernel), am_in 828 (by decide +kernel) (by decide +kernel), TX10, 23, rfl⟩
abbrev m_X10_poke : am_Y := (yX10_poke, cX10_poke, 3, (some .boolean))
set_option maxRecDepth 100000 in
theorem k_X10_poke : am_mv m_X10_poke 2 10 := ⟨⟨am_in 833 rfl rfl, wd_in_X10, ⟨by decide +kernel, by decide +kernel, by decide +kernel⟩, by decide⟩, am_in 831 (by decide +kernel) (by decide +kernel), am_in 832 (by decide +kernel) (by decide +kernel), TX10, 23, rfl⟩
abbrev m_X10_clear : am_Y := (yX10_clear, cX10_clear, 1, none)
set_option maxRecDepth 100000 in
theorem k_X10_clear : am_mv m_X10_clear 0 10 := ⟨⟨am_in 837 rfl rfl, wd_in_X10, ⟨by decide +kernel, by decide +kernel, by decide +kernel⟩, by decide⟩, am_in 835 (by decide +kernel) (by decide +kernel), am_in 836 (by decide +kernel) (by decide +kernel), TX10, 23, rfl⟩
abbrev m_X10_read : am_Y := (yX10_read, cX10_read, 5, (some .int))
set_option maxRecDepth 100000 in
theorem k_X10_read : am_mv m_X10_read 2 10 := ⟨⟨am_in 841 rfl rfl, wd_in_X10, ⟨by decide +kernel, by decide +kernel, by decide +kernel⟩, by decide⟩, am_in 839 (by decide +kernel) (by decide +kernel), am_in 840 (by decide +kernel) (by decide +kernel), TX10, 23, rfl⟩
abbrev m_X10_begin : am_Y := (yX10_begin, cX10_begin, 1, none)
set_option maxRecDepth 100000 in
theorem k_X10_begin : am_mv m_X10_begin 0 10 := ⟨⟨am_in 845 rfl rfl, wd_in_X10, ⟨by decide +kernel, by decide +kernel, by decide +kernel⟩, by decide⟩, am_in 844 (by decide +kernel) (by decide +kernel), am_in 25 (by decide +kernel) (by decide +kernel), TX10, 23, rfl⟩
abbrev m_X10_clearTrees : am_Y := (yX10_clearTrees, cX10_clearTrees, 2, none)
set_option maxRecDepth 100000 in
theorem k_X10_clearTrees : am_mv m_X10_clearTrees 0 10 := ⟨⟨am_in 849 rfl rfl, wd_in_X10, ⟨by decide +kernel, by decide +kernel, by decide +kernel⟩, by decide⟩, am_in 848 (by decide +kernel) (by decide +kernel), am_in 26 (by decide +kernel) (by decide +kernel), TX10, 23, rfl⟩
abbrev m_X10_take : am_Y := (yX10_take, cX10_take, 4, (some .int))
set_option maxRecDepth 100000 in
theorem k_X10_take : am_mv m_X10_take 1 10 := ⟨⟨am_in 853 rfl rfl, wd_in_X10, ⟨by decide +kernel, by decide +kernel, by decide +kernel⟩, by decide⟩, am_in 852 (by decide +kernel) (by decide +kernel), am_in 27 (by decide +kernel) (by decide +kernel), TX10, 23, rfl⟩
abbrev m_X10_fails : am_Y := (yX10_fails, cX10_fails, 2, none)
set_option maxRecDepth 100000 in
theorem k_X10_fails : am_mv m_X10_fails 1 10 := ⟨⟨am_in 857 rfl rfl, wd_in_X10, ⟨by decide +kernel, by decide +kernel, by decide +kernel⟩, by decide⟩, am_in 856 (by decide +kernel) (by decide +kernel), am_in 28 (by decide +kernel) (by decide +kernel), TX10, 23, rfl⟩
abbrev m_X10_small : am_Y := (yX10_small, cX10_small, 6, none)
set_option maxRecDepth 100000 in
theorem k_X10_small : am_mv m_X10_small 2 10 := ⟨⟨am_in 861 rfl rfl, wd_in_X10, ⟨by decide +kernel, by decide +kernel, by decide +kernel⟩, by decide⟩, am_in 860 (by decide +kernel) (by decide +kernel), am_in 29 (by decide +kernel) (by decide +kernel), TX10, 23, rfl⟩
abbrev m_X10_many : am_Y := (yX10_many, cX10_many, 5, (some .int))
set_option maxRecDepth 100000 in
theorem k_X10_many : am_mv m_X10_many 2 10 := ⟨⟨am_in 865 rfl rfl, wd_in_X10, ⟨by decide +kernel, by decide +kernel, by decide +kernel⟩, by decide⟩, am_in 864 (by decide +kernel) (by decide +kernel), am_in 30 (by decide +kernel) (by decide +kernel), TX10, 23, rfl⟩
abbrev m_X10_symbols : am_Y := (yX10_symbols, cX10_symbols, 1, (some .int))
set_option maxRecDepth 100000 in
theorem k_X10_symbols : am_ms m_X10_symbols 1 := ⟨⟨am_in 868 rfl rfl, wd_in_X10, ⟨by decide +kernel, by decide +kernel, by decide +kernel⟩, by decide⟩, am_in 867 (by decide +kernel) (by decide +kernel)⟩
abbrev m_X10_complete : am_Y := (yX10_complete, cX10_complete, 5, none)
set_option maxRecDepth 100000 in
theorem k_X10_complete : am_mv m_X10_complete 1 10 := ⟨⟨am_in 872 rfl rfl, wd_in_X10, ⟨by decide +kernel, by decide +kernel, by decide +kernel⟩, by decide⟩, am_in 871 (by decide +kernel) (by decide +kernel), am_in 31 (by decide +kernel) (by decide +kernel), TX10, 23, rfl⟩
abbrev m_X10_number : am_Y := (yX10_number, cX10_number, 5, none)
set_option maxRecDepth 100000 in
theorem k_X10_number : am_mv m_X10_number 1 10 := ⟨⟨am_in 877 rfl rfl, wd_in_X10, ⟨by decide +kernel, by decide +kernel, by decide +kernel⟩, by decide⟩, am_in 876 (by decide +kernel) (by decide +kernel), am_in 32 (by decide +kernel) (by decide +kernel), TX10, 23, rfl⟩
abbrev m_X10_great : am_Y := (yX10_great, cX10_great, 4, none)
set_option maxRecDepth 100000 in
theorem k_X10_great : am_mv m_X10_great 0 10 := ⟨⟨am_in 881 rfl rfl, wd_in_X10, ⟨by decide +kernel, by decide +kernel, by decide +kernel⟩, by decide⟩, am_in 880 (by decide +kernel) (by decide +kernel), am_in 33 (by decide +kernel) (by decide +kernel), TX10, 23, rfl⟩
abbrev m_X10_symbol : am_Y := (yX10_symbol, cX10_symbol, 5, (some .int))
set_option maxRecDepth 100000 in
theorem k_X10_symbol : am_mv m_X10_symbol 1 10 := ⟨⟨am_in 885 rfl rfl, wd_in_X10, ⟨by decide +kernel, by decide +kernel, by decide +kernel⟩, by decide⟩, am_in 884 (by decide +kernel) (by decide +kernel), am_in 34 (by decide +kernel) (by decide +kernel), TX10, 23, rfl⟩
abbrev m_X10_one : am_Y := (yX10_one, cX10_one, 6, none)
set_option maxRecDepth 100000 in
theorem k_X10_one : am_mv m_X10_one 1 10 := ⟨⟨am_in 889 rfl rfl, wd_in_X10, ⟨by decide +kernel, by decide +kernel, by decide +kernel⟩, by decide⟩, am_in 888 (by decide +kernel) (by decide +kernel), am_in 35 (by decide +kernel) (by decide +kernel), TX10, 23, rfl⟩
abbrev m_X10_write : am_Y := (yX10_write, cX10_write, 4, (some .int))
set_option maxRecDepth 100000 in
theorem k_X10_write : am_mv m_X10_write 1 10 := ⟨⟨am_in 893 rfl rfl, wd_in_X10, ⟨by decide +kernel, by decide +kernel, by decide +kernel⟩, by decide⟩, am_in 891 (by decide +kernel) (by decide +kernel), am_in 892 (by decide +kernel) (by decide +kernel), TX10, 23, rfl⟩
abbrev m_X10_cut : am_Y := (yX10_cut, cX10_cut, 8, (some .int))
set_option maxRecDepth 100000 in
theorem k_X10_cut : am_mv m_X10_cut 1 10 := ⟨⟨am_in 897 rfl rfl, wd_in_X10, ⟨by decide +kernel, by decide +kernel, by decide +kernel⟩, by decide⟩, am_in 896 (by decide +kernel) (by decide +kernel), am_in 36 (by decide +kernel) (by decide +kernel), TX10, 23, rfl⟩
abbrev m_X10_same : am_Y := (yX10_same, cX10_same, 5, (some .int))
set_option maxRecDepth 100000 in
theorem k_X10_same : am_mv m_X10_same 3 10 := ⟨⟨am_in 901 rfl rfl, wd_in_X10, ⟨by decide +kernel, by decide +kernel, by decide +kernel⟩, by decide⟩, am_in 900 (by decide +kernel) (by decide +kernel), am_in 37 (by decide +kernel) (by decide +kernel), TX10, 23, rfl⟩
abbrev m_X10_block : am_Y := (yX10_block, cX10_block, 5, none)
set_option maxRecDepth 100000 in
theorem k_X10_block : am_mv m_X10_block 2 10 := ⟨⟨am_in 905 rfl rfl, wd_in_X10, ⟨by decide +kernel, by decide +kernel, by decide +kernel⟩, by decide⟩, am_in 904 (by decide +kernel) (by decide +kernel), am_in 38 (by decide +kernel) (by decide +kernel), TX10, 23, rfl⟩
abbrev m_X10_clearTimes : am_Y := (yX10_clearTimes, cX10_clearTimes, 2, none)
set_option maxRecDepth 100000 in
theorem k_X10_clearTimes : am_mv m_X10_clearTimes 0 10 := ⟨⟨am_in 909 rfl rfl, wd_in_X10, ⟨by decide +kernel, by decide +kernel, by decide +kernel⟩, by decide⟩, am_in 908 (by decide +kernel) (by decide +kernel), am_in 39 (by decide +kernel) (by decide +kernel), TX10, 23, rfl⟩
abbrev m_X10_merge : am_Y := (yX10_merge, cX10_merge, 9, none)
set_option maxRecDepth 100000 in
theorem k_X10_merge : am_mv m_X10_merge 1 10 := ⟨⟨am_in 913 rfl rfl, wd_in_X10, ⟨by decide +kernel, by decide +kernel, by decide +kernel⟩, by decide⟩, am_in 912 (by decide +kernel) (by decide +kernel), am_in 40 (by decide +kernel) (by decide +kernel), TX10, 23, rfl⟩
abbrev m_X10_least : am_Y := (yX10_least, cX10_least, 4, (some .int))
set_option maxRecDepth 100000 in
theorem k_X10_least : am_mv m_X10_least 1 10 := ⟨⟨am_in 917 rfl rfl, wd_in_X10, ⟨by decide +kernel, by decide +kernel, by decide +kernel⟩, by decide⟩, am_in 916 (by decide +kernel) (by decide +kernel), am_in 41 (by decide +kernel) (by decide +kernel), TX10, 23, rfl⟩
abbrev m_X10_rank : am_Y := (yX10_rank, cX10_rank, 3, (some .int))
set_option maxRecDepth 100000 in
theorem k_X10_rank : am_ms m_X10_rank 1 := ⟨⟨am_in 920 rfl rfl, wd_in_X10, ⟨by decide +kernel, by decide +kernel, by decide +kernel⟩, by decide⟩, am_in 919 (by decide +kernel) (by decide +kernel)⟩
abbrev m_X10_give : am_Y := (yX10_give, cX10_give, 4, none)
set_option maxRecDepth 100000 in
theorem k_X10_give : am_mv m_X10_give 2 10 := ⟨⟨am_in 924 rfl rfl, wd_in_X10, ⟨by decide +kernel, by decide +kernel, by decide +kernel⟩, by decide⟩, am_in 923 (by decide +kernel) (by decide +kernel), am_in 42 (by decide +kernel) (by decide +kernel), TX10, 23, rfl⟩
abbrev m_X10_giveSmall : am_Y := (yX10_giveSmall, cX10_giveSmall, 7, none)
set_option maxRecDepth 100000 in
theorem k_X10_giveSmall : am_mv m_X10_giveSmall 2 10 := ⟨⟨am_in 928 rfl rfl, wd_in_X10, ⟨by decide +kernel, by decide +kernel, by decide +kernel⟩, by decide⟩, am_in 927 (by decide +kernel) (by decide +kernel), am_in 43 (by decide +kernel) (by decide +kernel), TX10, 23, rfl⟩
abbrev m_X10_last : am_Y := (yX10_last, cX10_last, 3, (some .int))
set_option maxRecDepth 100000 in
theorem k_X10_last : am_mv m_X10_last 1 10 := ⟨⟨am_in 932 rfl rfl, wd_in_X10, ⟨by decide +kernel, by decide +kernel, by decide +kernel⟩, by decide⟩, am_in 931 (by decide +kernel) (by decide +kernel), am_in 44 (by decide +kernel) (by decide +kernel), TX10, 23, rfl⟩
abbrev m_X10_tellAll : am_Y := (yX10_tellAll, cX10_tellAll, 4, none)
set_option maxRecDepth 100000 in
theorem k_X10_tellAll : am_mv m_X10_tellAll 0 10 := ⟨⟨am_in 936 rfl rfl, wd_in_X10, ⟨by decide +kernel, by decide +kernel, by decide +kernel⟩, by decide⟩, am_in 935 (by decide +kernel) (by decide +kernel), am_in 45 (by decide +kernel) (by decide +kernel), TX10, 23, rfl⟩
abbrev m_X10_tell : am_Y := (yX10_tell, cX10_tell, 3, none)
set_option maxRecDepth 100000 in
theorem k_X10_tell : am_mv m_X10_tell 2 10 := ⟨⟨am_in 940 rfl rfl, wd_in_X10, ⟨by decide +kernel, by decide +kernel, by decide +kernel⟩, by decide⟩, am_in 939 (by decide +kernel) (by decide +kernel), am_in 46 (by decide +kernel) (by decide +kernel), TX10, 23, rfl⟩
abbrev m_X10_giveSymbol : am_Y := (yX10_giveSymbol, cX10_giveSymbol, 3, none)
set_option maxRecDepth 100000 in
theorem k_X10_giveSymbol : am_mv m_X10_giveSymbol 2 10 := ⟨⟨am_in 944 rfl rfl, wd_in_X10, ⟨by decide +kernel, by decide +kernel, by decide +kernel⟩, by decide⟩, am_in 943 (by decide +kernel) (by decide +kernel), am_in 47 (by decide +kernel) (by decide +kernel), TX10, 23, rfl⟩
abbrev m_X10_back : am_Y := (yX10_back, cX10_back, 2, (some .int))
set_option maxRecDepth 100000 in
theorem k_X10_back : am_mv m_X10_back 0 10 := ⟨⟨am_in 948 rfl rfl, wd_in_X10, ⟨by decide +kernel, by decide +kernel, by decide +kernel⟩, by decide⟩, am_in 946 (by decide +kernel) (by decide +kernel), am_in 947 (by decide +kernel) (by decide +kernel), TX10, 23, rfl⟩
abbrev m_X10_made : am_Y := (yX10_made, cX10_made, 1, (some .int))
set_option maxRecDepth 100000 in
theorem k_X10_made : am_mv m_X10_made 0 10 := ⟨⟨am_in 952 rfl rfl, wd_in_X10, ⟨by decide +kernel, by decide +kernel, by decide +kernel⟩, by decide⟩, am_in 950 (by decide +kernel) (by decide +kernel), am_in 951 (by decide +kernel) (by decide +kernel), TX10, 23, rfl⟩
abbrev m_X10_out : am_Y := (yX10_out, cX10_out, 2, (some .int))
set_option maxRecDepth 100000 in
theorem k_X10_out : am_mv m_X10_out 1 10 := ⟨⟨am_in 956 rfl rfl, wd_in_X10, ⟨by decide +kernel, by decide +kernel, by decide +kernel⟩, by decide⟩, am_in 954 (by decide +kernel) (by decide +kernel), am_in 955 (by decide +kernel) (by decide +kernel), TX10, 23, rfl⟩
abbrev m_X10_told : am_Y := (yX10_told, cX10_told, 2, (some .int))
set_option maxRecDepth 100000 in
theorem k_X10_told : am_mv m_X10_told 1 10 := ⟨⟨am_in 960 rfl rfl, wd_in_X10, ⟨by decide +kernel, by decide +kernel, by decide +kernel⟩, by decide⟩, am_in 958 (by decide +kernel) (by decide +kernel), am_in 959 (by decide +kernel) (by decide +kernel), TX10, 23, rfl⟩
abbrev m_X10_length : am_Y := (yX10_length, cX10_length, 3, (some .int))
set_option maxRecDepth 100000 in
theorem k_X10_length : am_mv m_X10_length 2 10 := ⟨⟨am_in 964 rfl rfl, wd_in_X10, ⟨by decide +kernel, by decide +kernel, by decide +kernel⟩, by decide⟩, am_in 962 (by decide +kernel) (by decide +kernel), am_in 963 (by decide +kernel) (by decide +kernel), TX10, 23, rfl⟩
