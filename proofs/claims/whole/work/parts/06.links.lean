theorem inT0 : ∀ w ∈ wsX00, w ∈ wTT := fun w hw => List.mem_filter.mpr ((by decide +kernel : ∀ w ∈ wsX00, w ∈ lw_tbl ∧ goodWord w = true) w hw)
theorem inT1 : ∀ w ∈ wsX10, w ∈ wTT := fun w hw => List.mem_filter.mpr ((by decide +kernel : ∀ w ∈ wsX10, w ∈ lw_tbl ∧ goodWord w = true) w hw)
theorem inT2 : ∀ w ∈ wsX20, w ∈ wTT := fun w hw => List.mem_filter.mpr ((by decide +kernel : ∀ w ∈ wsX20, w ∈ lw_tbl ∧ goodWord w = true) w hw)
theorem inT3 : ∀ w ∈ wsX30, w ∈ wTT := fun w hw => List.mem_filter.mpr ((by decide +kernel : ∀ w ∈ wsX30, w ∈ lw_tbl ∧ goodWord w = true) w hw)
theorem inT4 : ∀ w ∈ wsX40, w ∈ wTT := fun w hw => List.mem_filter.mpr ((by decide +kernel : ∀ w ∈ wsX40, w ∈ lw_tbl ∧ goodWord w = true) w hw)
theorem inT5 : ∀ w ∈ wsX50, w ∈ wTT := fun w hw => List.mem_filter.mpr ((by decide +kernel : ∀ w ∈ wsX50, w ∈ lw_tbl ∧ goodWord w = true) w hw)
theorem mw_138 : Cond.fieldLink RX3 19 (TX3 0).1 (TX3 0).2.1 (TX3 0).2.2.1 ∈ wTT := wTT_of 138 (by decide +kernel) rfl
theorem mw_154 : Cond.fieldLink RX0 26 (TX0 3).1 (TX0 3).2.1 (TX0 3).2.2.1 ∈ wTT := wTT_of 154 (by decide +kernel) rfl
theorem mw_276 : Cond.code yX3_get cX3_get 2 (some .int) ∈ wTT := wTT_of 276 (by decide +kernel) rfl
theorem mw_104 : Cond.initialized RX3 ∈ wTT := wTT_of 104 (by decide +kernel) rfl
theorem mw_476 : Cond.methodLinkNest RX0 60 yX3_get RX4 ∈ wNW := wNW_of 476 (by decide +kernel) rfl
theorem mw_275 : Cond.instanceMethod yX3_get ∈ wTT := wTT_of 275 (by decide +kernel) rfl
theorem mw_1 : Cond.selects RX3 yX3_get yX3_get ∈ wTT := wTT_of 1 (by decide +kernel) rfl
theorem mw_518 : Cond.methodLink RX0 110 Lib.Math.min.name ∈ wTT := wTT_of 518 (by decide +kernel) rfl
theorem mw_384 : Cond.static Lib.Math.min.name ∈ wTT := wTT_of 384 (by decide +kernel) rfl
theorem mw_105 : Cond.initialized "java/lang/Math" ∈ wTT := wTT_of 105 (by decide +kernel) rfl
theorem mw_385 : Cond.code Lib.Math.min.name Lib.Math.min.code 2 (some .int) ∈ wTT := wTT_of 385 (by decide +kernel) rfl
theorem mw_519 : Cond.methodLink RX0 67 Lib.Math.max.name ∈ wTT := wTT_of 519 (by decide +kernel) rfl
theorem mw_136 : Cond.static Lib.Math.max.name ∈ wTT := wTT_of 136 (by decide +kernel) rfl
theorem mw_137 : Cond.code Lib.Math.max.name Lib.Math.max.code 2 (some .int) ∈ wTT := wTT_of 137 (by decide +kernel) rfl
theorem mw_280 : Cond.code yX3_set cX3_set 3 none ∈ wTT := wTT_of 280 (by decide +kernel) rfl
theorem mw_471 : Cond.methodLinkNest RX0 49 yX3_set RX4 ∈ wNW := wNW_of 471 (by decide +kernel) rfl
theorem mw_279 : Cond.instanceMethod yX3_set ∈ wTT := wTT_of 279 (by decide +kernel) rfl
theorem mw_2 : Cond.selects RX3 yX3_set yX3_set ∈ wTT := wTT_of 2 (by decide +kernel) rfl
theorem mw_156 : Cond.fieldLink RX0 29 (TX0 4).1 (TX0 4).2.1 (TX0 4).2.2.1 ∈ wTT := wTT_of 156 (by decide +kernel) rfl
theorem mw_163 : Cond.fieldLink RX0 38 (TX0 7).1 (TX0 7).2.1 (TX0 7).2.2.1 ∈ wTT := wTT_of 163 (by decide +kernel) rfl
theorem mw_158 : Cond.fieldLink RX0 32 (TX0 5).1 (TX0 5).2.1 (TX0 5).2.2.1 ∈ wTT := wTT_of 158 (by decide +kernel) rfl
theorem mw_161 : Cond.fieldLink RX0 35 (TX0 6).1 (TX0 6).2.1 (TX0 6).2.2.1 ∈ wTT := wTT_of 161 (by decide +kernel) rfl
theorem mw_480 : Cond.code yX0_isWriting cX0_isWriting 2 (some .boolean) ∈ wTT := wTT_of 480 (by decide +kernel) rfl
theorem mw_103 : Cond.initialized RX0 ∈ wTT := wTT_of 103 (by decide +kernel) rfl
theorem mw_477 : Cond.methodLink RX0 73 yX0_isWriting ∈ wTT := wTT_of 477 (by decide +kernel) rfl
theorem mw_479 : Cond.instanceMethod yX0_isWriting ∈ wTT := wTT_of 479 (by decide +kernel) rfl
theorem mw_20 : Cond.selects RX0 yX0_isWriting yX0_isWriting ∈ wTT := wTT_of 20 (by decide +kernel) rfl
theorem mw_148 : Cond.fieldLink RX0 14 (TX0 0).1 (TX0 0).2.1 (TX0 0).2.2.1 ∈ wTT := wTT_of 148 (by decide +kernel) rfl
theorem mw_150 : Cond.fieldLink RX0 20 (TX0 1).1 (TX0 1).2.1 (TX0 1).2.2.1 ∈ wTT := wTT_of 150 (by decide +kernel) rfl
theorem mw_152 : Cond.fieldLink RX0 23 (TX0 2).1 (TX0 2).2.1 (TX0 2).2.2.1 ∈ wTT := wTT_of 152 (by decide +kernel) rfl
theorem mw_475 : Cond.code yX0_tellEnders cX0_tellEnders 4 none ∈ wTT := wTT_of 475 (by decide +kernel) rfl
theorem mw_472 : Cond.methodLink RX0 53 yX0_tellEnders ∈ wTT := wTT_of 472 (by decide +kernel) rfl
theorem mw_474 : Cond.instanceMethod yX0_tellEnders ∈ wTT := wTT_of 474 (by decide +kernel) rfl
theorem mw_19 : Cond.selects RX0 yX0_tellEnders yX0_tellEnders ∈ wTT := wTT_of 19 (by decide +kernel) rfl
theorem mw_166 : Cond.fieldLink RX0 42 (TX0 8).1 (TX0 8).2.1 (TX0 8).2.2.1 ∈ wTT := wTT_of 166 (by decide +kernel) rfl
theorem mw_507 : Cond.code yX4_opensWith cX4_opensWith 2 (some .int) ∈ wTT := wTT_of 507 (by decide +kernel) rfl
theorem mw_102 : Cond.initialized RX4 ∈ wTT := wTT_of 102 (by decide +kernel) rfl
theorem mw_505 : Cond.methodLinkNest RX0 76 yX4_opensWith RX4 ∈ wNW := wNW_of 505 (by decide +kernel) rfl
theorem mw_506 : Cond.static yX4_opensWith ∈ wTT := wTT_of 506 (by decide +kernel) rfl
theorem mw_510 : Cond.code yX4_endOfKind cX4_endOfKind 6 (some .int) ∈ wTT := wTT_of 510 (by decide +kernel) rfl
theorem mw_508 : Cond.methodLinkNest RX0 82 yX4_endOfKind RX4 ∈ wNW := wNW_of 508 (by decide +kernel) rfl
theorem mw_509 : Cond.static yX4_endOfKind ∈ wTT := wTT_of 509 (by decide +kernel) rfl
theorem mw_513 : Cond.code yX4_worthBetween cX4_worthBetween 4 (some .int) ∈ wTT := wTT_of 513 (by decide +kernel) rfl
theorem mw_511 : Cond.methodLinkNest RX0 92 yX4_worthBetween RX4 ∈ wNW := wNW_of 511 (by decide +kernel) rfl
theorem mw_512 : Cond.static yX4_worthBetween ∈ wTT := wTT_of 512 (by decide +kernel) rfl
theorem mw_564 : Cond.code yX0_isEnded cX0_isEnded 2 (some .boolean) ∈ wTT := wTT_of 564 (by decide +kernel) rfl
theorem mw_561 : Cond.methodLink RX0 86 yX0_isEnded ∈ wTT := wTT_of 561 (by decide +kernel) rfl
theorem mw_563 : Cond.instanceMethod yX0_isEnded ∈ wTT := wTT_of 563 (by decide +kernel) rfl
theorem mw_33 : Cond.selects RX0 yX0_isEnded yX0_isEnded ∈ wTT := wTT_of 33 (by decide +kernel) rfl
theorem mw_504 : Cond.code yX0_worthEndedBy cX0_worthEndedBy 5 (some .int) ∈ wTT := wTT_of 504 (by decide +kernel) rfl
theorem mw_501 : Cond.methodLink RX0 95 yX0_worthEndedBy ∈ wTT := wTT_of 501 (by decide +kernel) rfl
theorem mw_503 : Cond.instanceMethod yX0_worthEndedBy ∈ wTT := wTT_of 503 (by decide +kernel) rfl
theorem mw_26 : Cond.selects RX0 yX0_worthEndedBy yX0_worthEndedBy ∈ wTT := wTT_of 26 (by decide +kernel) rfl
theorem mw_573 : Cond.code yX0_worthOf cX0_worthOf 2 (some .int) ∈ wTT := wTT_of 573 (by decide +kernel) rfl
theorem mw_639 : Cond.methodLink RX0 98 yX0_worthOf ∈ wTT := wTT_of 639 (by decide +kernel) rfl
theorem mw_572 : Cond.instanceMethod yX0_worthOf ∈ wTT := wTT_of 572 (by decide +kernel) rfl
theorem mw_35 : Cond.selects RX0 yX0_worthOf yX0_worthOf ∈ wTT := wTT_of 35 (by decide +kernel) rfl
theorem mw_517 : Cond.code yX0_addFame cX0_addFame 3 none ∈ wTT := wTT_of 517 (by decide +kernel) rfl
theorem mw_514 : Cond.methodLink RX0 104 yX0_addFame ∈ wTT := wTT_of 514 (by decide +kernel) rfl
theorem mw_516 : Cond.instanceMethod yX0_addFame ∈ wTT := wTT_of 516 (by decide +kernel) rfl
theorem mw_27 : Cond.selects RX0 yX0_addFame yX0_addFame ∈ wTT := wTT_of 27 (by decide +kernel) rfl
theorem mw_522 : Cond.code yX4_gainOfKind cX4_gainOfKind 4 (some .int) ∈ wTT := wTT_of 522 (by decide +kernel) rfl
theorem mw_520 : Cond.methodLinkNest RX0 107 yX4_gainOfKind RX4 ∈ wNW := wNW_of 520 (by decide +kernel) rfl
theorem mw_521 : Cond.static yX4_gainOfKind ∈ wTT := wTT_of 521 (by decide +kernel) rfl
theorem mw_488 : Cond.code yX0_placeOf cX0_placeOf 3 (some .int) ∈ wTT := wTT_of 488 (by decide +kernel) rfl
theorem mw_485 : Cond.methodLink RX0 64 yX0_placeOf ∈ wTT := wTT_of 485 (by decide +kernel) rfl
theorem mw_487 : Cond.instanceMethod yX0_placeOf ∈ wTT := wTT_of 487 (by decide +kernel) rfl
theorem mw_22 : Cond.selects RX0 yX0_placeOf yX0_placeOf ∈ wTT := wTT_of 22 (by decide +kernel) rfl
theorem mw_556 : Cond.code yX0_opensOf cX0_opensOf 2 (some .int) ∈ wTT := wTT_of 556 (by decide +kernel) rfl
theorem mw_565 : Cond.methodLink RX0 79 yX0_opensOf ∈ wTT := wTT_of 565 (by decide +kernel) rfl
theorem mw_555 : Cond.instanceMethod yX0_opensOf ∈ wTT := wTT_of 555 (by decide +kernel) rfl
theorem mw_31 : Cond.selects RX0 yX0_opensOf yX0_opensOf ∈ wTT := wTT_of 31 (by decide +kernel) rfl
theorem mw_569 : Cond.code yX0_endBy cX0_endBy 3 (some .int) ∈ wTT := wTT_of 569 (by decide +kernel) rfl
theorem mw_566 : Cond.methodLink RX0 89 yX0_endBy ∈ wTT := wTT_of 566 (by decide +kernel) rfl
theorem mw_568 : Cond.instanceMethod yX0_endBy ∈ wTT := wTT_of 568 (by decide +kernel) rfl
theorem mw_34 : Cond.selects RX0 yX0_endBy yX0_endBy ∈ wTT := wTT_of 34 (by decide +kernel) rfl
theorem mw_456 : Cond.code yX0_has cX0_has 2 (some .boolean) ∈ wTT := wTT_of 456 (by decide +kernel) rfl
theorem mw_453 : Cond.methodLink RX0 56 yX0_has ∈ wTT := wTT_of 453 (by decide +kernel) rfl
theorem mw_455 : Cond.instanceMethod yX0_has ∈ wTT := wTT_of 455 (by decide +kernel) rfl
theorem mw_15 : Cond.selects RX0 yX0_has yX0_has ∈ wTT := wTT_of 15 (by decide +kernel) rfl
theorem mw_500 : Cond.code yX0_bookIsRead cX0_bookIsRead 3 none ∈ wTT := wTT_of 500 (by decide +kernel) rfl
theorem mw_497 : Cond.methodLink RX0 101 yX0_bookIsRead ∈ wTT := wTT_of 497 (by decide +kernel) rfl
theorem mw_499 : Cond.instanceMethod yX0_bookIsRead ∈ wTT := wTT_of 499 (by decide +kernel) rfl
theorem mw_25 : Cond.selects RX0 yX0_bookIsRead yX0_bookIsRead ∈ wTT := wTT_of 25 (by decide +kernel) rfl
theorem mw_139 : Cond.fieldLink RX3 7 (TX3 1).1 (TX3 1).2.1 (TX3 1).2.2.1 ∈ wTT := wTT_of 139 (by decide +kernel) rfl
theorem mw_443 : Cond.code yX3_take cX3_take 3 none ∈ wTT := wTT_of 443 (by decide +kernel) rfl
theorem mw_440 : Cond.methodLinkNest RX0 45 yX3_take RX4 ∈ wNW := wNW_of 440 (by decide +kernel) rfl
theorem mw_442 : Cond.instanceMethod yX3_take ∈ wTT := wTT_of 442 (by decide +kernel) rfl
theorem mw_12 : Cond.selects RX3 yX3_take yX3_take ∈ wTT := wTT_of 12 (by decide +kernel) rfl
theorem mw_195 : Cond.fieldLink RX1 14 (TX1 0).1 (TX1 0).2.1 (TX1 0).2.2.1 ∈ wTT := wTT_of 195 (by decide +kernel) rfl
theorem mw_299 : Cond.methodLinkNest RX1 52 yX3_get RX4 ∈ wNW := wNW_of 299 (by decide +kernel) rfl
theorem mw_370 : Cond.code yJ0_indexOf_0f7a4 cJ0_indexOf_0f7a4 2 (some .int) ∈ wTT := wTT_of 370 (by decide +kernel) rfl
theorem mw_109 : Cond.initialized RJ0 ∈ wTT := wTT_of 109 (by decide +kernel) rfl
theorem mw_367 : Cond.methodLink RX1 76 yJ0_indexOf_0f7a4 ∈ wTT := wTT_of 367 (by decide +kernel) rfl
theorem mw_368 : Cond.instanceMethod yJ0_indexOf_0f7a4 ∈ wTT := wTT_of 368 (by decide +kernel) rfl
theorem mw_369 : Cond.selects RJ0 yJ0_indexOf_0f7a4 yJ0_indexOf_0f7a4 ∈ wTT := wTT_of 369 (by decide +kernel) rfl
theorem mw_140 : Cond.fieldLinkNest RX1 20 (TX3 1).1 (TX3 1).2.1 (TX3 1).2.2.1 RX4 ∈ wNW := wNW_of 140 (by decide +kernel) rfl
theorem mw_427 : Cond.code yX1_digitAt cX1_digitAt 2 (some .int) ∈ wTT := wTT_of 427 (by decide +kernel) rfl
theorem mw_106 : Cond.initialized RX1 ∈ wTT := wTT_of 106 (by decide +kernel) rfl
theorem mw_424 : Cond.methodLink RX1 71 yX1_digitAt ∈ wTT := wTT_of 424 (by decide +kernel) rfl
theorem mw_426 : Cond.instanceMethod yX1_digitAt ∈ wTT := wTT_of 426 (by decide +kernel) rfl
theorem mw_9 : Cond.selects RX1 yX1_digitAt yX1_digitAt ∈ wTT := wTT_of 9 (by decide +kernel) rfl
theorem mw_365 : Cond.code yX1_kindAt cX1_kindAt 2 (some .int) ∈ wTT := wTT_of 365 (by decide +kernel) rfl
theorem mw_362 : Cond.methodLink RX1 68 yX1_kindAt ∈ wTT := wTT_of 362 (by decide +kernel) rfl
theorem mw_364 : Cond.instanceMethod yX1_kindAt ∈ wTT := wTT_of 364 (by decide +kernel) rfl
theorem mw_8 : Cond.selects RX1 yX1_kindAt yX1_kindAt ∈ wTT := wTT_of 8 (by decide +kernel) rfl
theorem mw_313 : Cond.code yJ0_length_8abf5 cJ0_length_8abf5 1 (some .int) ∈ wTT := wTT_of 313 (by decide +kernel) rfl
theorem mw_310 : Cond.methodLink RX1 38 yJ0_length_8abf5 ∈ wTT := wTT_of 310 (by decide +kernel) rfl
theorem mw_311 : Cond.instanceMethod yJ0_length_8abf5 ∈ wTT := wTT_of 311 (by decide +kernel) rfl
theorem mw_312 : Cond.selects RJ0 yJ0_length_8abf5 yJ0_length_8abf5 ∈ wTT := wTT_of 312 (by decide +kernel) rfl
theorem mw_323 : Cond.code yJ0_charAt_5068e cJ0_charAt_5068e 2 (some .char) ∈ wTT := wTT_of 323 (by decide +kernel) rfl
theorem mw_320 : Cond.methodLink RX1 42 yJ0_charAt_5068e ∈ wTT := wTT_of 320 (by decide +kernel) rfl
theorem mw_321 : Cond.instanceMethod yJ0_charAt_5068e ∈ wTT := wTT_of 321 (by decide +kernel) rfl
theorem mw_322 : Cond.selects RJ0 yJ0_charAt_5068e yJ0_charAt_5068e ∈ wTT := wTT_of 322 (by decide +kernel) rfl
theorem mw_361 : Cond.code yX1_fits cX1_fits 4 (some .boolean) ∈ wTT := wTT_of 361 (by decide +kernel) rfl
theorem mw_358 : Cond.methodLink RX1 46 yX1_fits ∈ wTT := wTT_of 358 (by decide +kernel) rfl
theorem mw_360 : Cond.instanceMethod yX1_fits ∈ wTT := wTT_of 360 (by decide +kernel) rfl
theorem mw_7 : Cond.selects RX1 yX1_fits yX1_fits ∈ wTT := wTT_of 7 (by decide +kernel) rfl
theorem mw_297 : Cond.code yX1_shapeAt cX1_shapeAt 2 (some (.object "java/lang/String")) ∈ wTT := wTT_of 297 (by decide +kernel) rfl
theorem mw_294 : Cond.methodLink RX1 24 yX1_shapeAt ∈ wTT := wTT_of 294 (by decide +kernel) rfl
theorem mw_296 : Cond.instanceMethod yX1_shapeAt ∈ wTT := wTT_of 296 (by decide +kernel) rfl
theorem mw_5 : Cond.selects RX1 yX1_shapeAt yX1_shapeAt ∈ wTT := wTT_of 5 (by decide +kernel) rfl
theorem mw_309 : Cond.code yX1_howManyFit cX1_howManyFit 4 (some .int) ∈ wTT := wTT_of 309 (by decide +kernel) rfl
theorem mw_306 : Cond.methodLink RX1 28 yX1_howManyFit ∈ wTT := wTT_of 306 (by decide +kernel) rfl
theorem mw_308 : Cond.instanceMethod yX1_howManyFit ∈ wTT := wTT_of 308 (by decide +kernel) rfl
theorem mw_6 : Cond.selects RX1 yX1_howManyFit yX1_howManyFit ∈ wTT := wTT_of 6 (by decide +kernel) rfl
theorem mw_431 : Cond.code yJ0_isEmpty_aae02 cJ0_isEmpty_aae02 1 (some .boolean) ∈ wTT := wTT_of 431 (by decide +kernel) rfl
theorem mw_428 : Cond.methodLink RX1 32 yJ0_isEmpty_aae02 ∈ wTT := wTT_of 428 (by decide +kernel) rfl
theorem mw_429 : Cond.instanceMethod yJ0_isEmpty_aae02 ∈ wTT := wTT_of 429 (by decide +kernel) rfl
theorem mw_430 : Cond.selects RJ0 yJ0_isEmpty_aae02 yJ0_isEmpty_aae02 ∈ wTT := wTT_of 430 (by decide +kernel) rfl
theorem mw_216 : Cond.fieldLink RX2 33 (TX2 5).1 (TX2 5).2.1 (TX2 5).2.2.1 ∈ wTT := wTT_of 216 (by decide +kernel) rfl
theorem mw_217 : Cond.fieldLink RX2 37 (TX2 6).1 (TX2 6).2.1 (TX2 6).2.2.1 ∈ wTT := wTT_of 217 (by decide +kernel) rfl
theorem mw_212 : Cond.fieldLink RX2 23 (TX2 2).1 (TX2 2).2.1 (TX2 2).2.2.1 ∈ wTT := wTT_of 212 (by decide +kernel) rfl
theorem mw_211 : Cond.fieldLink RX2 20 (TX2 1).1 (TX2 1).2.1 (TX2 1).2.2.1 ∈ wTT := wTT_of 211 (by decide +kernel) rfl
theorem mw_715 : Cond.methodLinkNest RX2 75 yX3_take RX4 ∈ wNW := wNW_of 715 (by decide +kernel) rfl
theorem mw_210 : Cond.fieldLink RX2 14 (TX2 0).1 (TX2 0).2.1 (TX2 0).2.2.1 ∈ wTT := wTT_of 210 (by decide +kernel) rfl
theorem mw_701 : Cond.methodLinkNest RX2 57 yX3_get RX4 ∈ wNW := wNW_of 701 (by decide +kernel) rfl
theorem mw_214 : Cond.fieldLink RX2 26 (TX2 3).1 (TX2 3).2.1 (TX2 3).2.2.1 ∈ wTT := wTT_of 214 (by decide +kernel) rfl
theorem mw_700 : Cond.methodLinkNest RX2 50 yX3_set RX4 ∈ wNW := wNW_of 700 (by decide +kernel) rfl
theorem mw_215 : Cond.fieldLink RX2 30 (TX2 4).1 (TX2 4).2.1 (TX2 4).2.2.1 ∈ wTT := wTT_of 215 (by decide +kernel) rfl
theorem mw_710 : Cond.code yX2_worthEnded cX2_worthEnded 3 (some .int) ∈ wTT := wTT_of 710 (by decide +kernel) rfl
theorem mw_107 : Cond.initialized RX2 ∈ wTT := wTT_of 107 (by decide +kernel) rfl
theorem mw_707 : Cond.methodLink RX2 69 yX2_worthEnded ∈ wTT := wTT_of 707 (by decide +kernel) rfl
theorem mw_709 : Cond.instanceMethod yX2_worthEnded ∈ wTT := wTT_of 709 (by decide +kernel) rfl
theorem mw_46 : Cond.selects RX2 yX2_worthEnded yX2_worthEnded ∈ wTT := wTT_of 46 (by decide +kernel) rfl
theorem mw_706 : Cond.code yX2_placeNext cX2_placeNext 8 none ∈ wTT := wTT_of 706 (by decide +kernel) rfl
theorem mw_703 : Cond.methodLink RX2 65 yX2_placeNext ∈ wTT := wTT_of 703 (by decide +kernel) rfl
theorem mw_705 : Cond.instanceMethod yX2_placeNext ∈ wTT := wTT_of 705 (by decide +kernel) rfl
theorem mw_45 : Cond.selects RX2 yX2_placeNext yX2_placeNext ∈ wTT := wTT_of 45 (by decide +kernel) rfl
theorem mw_714 : Cond.code yX2_keepIfBetter cX2_keepIfBetter 2 none ∈ wTT := wTT_of 714 (by decide +kernel) rfl
theorem mw_711 : Cond.methodLink RX2 72 yX2_keepIfBetter ∈ wTT := wTT_of 711 (by decide +kernel) rfl
theorem mw_713 : Cond.instanceMethod yX2_keepIfBetter ∈ wTT := wTT_of 713 (by decide +kernel) rfl
theorem mw_47 : Cond.selects RX2 yX2_keepIfBetter yX2_keepIfBetter ∈ wTT := wTT_of 47 (by decide +kernel) rfl
theorem mw_164 : Cond.fieldLinkNest RX2 40 (TX0 7).1 (TX0 7).2.1 (TX0 7).2.2.1 RX4 ∈ wNW := wNW_of 164 (by decide +kernel) rfl
theorem mw_698 : Cond.code yX0_writingBits cX0_writingBits 3 (some .int) ∈ wTT := wTT_of 698 (by decide +kernel) rfl
theorem mw_695 : Cond.methodLinkNest RX2 43 yX0_writingBits RX4 ∈ wNW := wNW_of 695 (by decide +kernel) rfl
theorem mw_697 : Cond.instanceMethod yX0_writingBits ∈ wTT := wTT_of 697 (by decide +kernel) rfl
theorem mw_44 : Cond.selects RX0 yX0_writingBits yX0_writingBits ∈ wTT := wTT_of 44 (by decide +kernel) rfl
theorem mw_699 : Cond.methodLinkNest RX2 46 yX0_worthEndedBy RX4 ∈ wNW := wNW_of 699 (by decide +kernel) rfl
theorem mw_159 : Cond.fieldLinkNest RX2 54 (TX0 5).1 (TX0 5).2.1 (TX0 5).2.2.1 RX4 ∈ wNW := wNW_of 159 (by decide +kernel) rfl
theorem mw_702 : Cond.methodLinkNest RX2 61 yX0_isWriting RX4 ∈ wNW := wNW_of 702 (by decide +kernel) rfl
theorem mw_285 : Cond.methodLink RX3 23 yX3_set ∈ wTT := wTT_of 285 (by decide +kernel) rfl
theorem mw_238 : Cond.fieldLink RX4 29 (TX4 4).1 (TX4 4).2.1 (TX4 4).2.2.1 ∈ wTT := wTT_of 238 (by decide +kernel) rfl
theorem mw_448 : Cond.methodLinkNest RX4 102 yX1_digitAt RX4 ∈ wNW := wNW_of 448 (by decide +kernel) rfl
theorem mw_196 : Cond.fieldLinkNest RX4 62 (TX1 0).1 (TX1 0).2.1 (TX1 0).2.2.1 RX4 ∈ wNW := wNW_of 196 (by decide +kernel) rfl
theorem mw_273 : Cond.methodLinkNest RX4 105 yX3_get RX4 ∈ wNW := wNW_of 273 (by decide +kernel) rfl
theorem mw_235 : Cond.fieldLink RX4 16 (TX4 1).1 (TX4 1).2.1 (TX4 1).2.2.1 ∈ wTT := wTT_of 235 (by decide +kernel) rfl
theorem mw_165 : Cond.fieldLinkNest RX4 108 (TX0 7).1 (TX0 7).2.1 (TX0 7).2.2.1 RX4 ∈ wNW := wNW_of 165 (by decide +kernel) rfl
theorem mw_452 : Cond.code yX0_hasTwo cX0_hasTwo 3 (some .boolean) ∈ wTT := wTT_of 452 (by decide +kernel) rfl
theorem mw_449 : Cond.methodLinkNest RX4 109 yX0_hasTwo RX4 ∈ wNW := wNW_of 449 (by decide +kernel) rfl
theorem mw_451 : Cond.instanceMethod yX0_hasTwo ∈ wTT := wTT_of 451 (by decide +kernel) rfl
theorem mw_14 : Cond.selects RX0 yX0_hasTwo yX0_hasTwo ∈ wTT := wTT_of 14 (by decide +kernel) rfl
theorem mw_460 : Cond.code yX0_hasRoomFor cX0_hasRoomFor 2 (some .boolean) ∈ wTT := wTT_of 460 (by decide +kernel) rfl
theorem mw_457 : Cond.methodLinkNest RX4 113 yX0_hasRoomFor RX4 ∈ wNW := wNW_of 457 (by decide +kernel) rfl
theorem mw_459 : Cond.instanceMethod yX0_hasRoomFor ∈ wTT := wTT_of 459 (by decide +kernel) rfl
theorem mw_16 : Cond.selects RX0 yX0_hasRoomFor yX0_hasRoomFor ∈ wTT := wTT_of 16 (by decide +kernel) rfl
theorem mw_461 : Cond.methodLinkNest RX4 116 yX0_has RX4 ∈ wNW := wNW_of 461 (by decide +kernel) rfl
theorem mw_155 : Cond.fieldLinkNest RX4 139 (TX0 3).1 (TX0 3).2.1 (TX0 3).2.2.1 RX4 ∈ wNW := wNW_of 155 (by decide +kernel) rfl
theorem mw_277 : Cond.methodLinkNest RX4 136 yX3_set RX4 ∈ wNW := wNW_of 277 (by decide +kernel) rfl
theorem mw_492 : Cond.code yX0_toggleWriting cX0_toggleWriting 2 none ∈ wTT := wTT_of 492 (by decide +kernel) rfl
theorem mw_489 : Cond.methodLinkNest RX4 130 yX0_toggleWriting RX4 ∈ wNW := wNW_of 489 (by decide +kernel) rfl
theorem mw_491 : Cond.instanceMethod yX0_toggleWriting ∈ wTT := wTT_of 491 (by decide +kernel) rfl
theorem mw_23 : Cond.selects RX0 yX0_toggleWriting yX0_toggleWriting ∈ wTT := wTT_of 23 (by decide +kernel) rfl
theorem mw_153 : Cond.fieldLinkNest RX4 133 (TX0 2).1 (TX0 2).2.1 (TX0 2).2.2.1 RX4 ∈ wNW := wNW_of 153 (by decide +kernel) rfl
theorem mw_466 : Cond.methodLinkNest RX4 119 yX1_kindAt RX4 ∈ wNW := wNW_of 466 (by decide +kernel) rfl
theorem mw_470 : Cond.code yX0_addWriter cX0_addWriter 4 none ∈ wTT := wTT_of 470 (by decide +kernel) rfl
theorem mw_467 : Cond.methodLinkNest RX4 122 yX0_addWriter RX4 ∈ wNW := wNW_of 467 (by decide +kernel) rfl
theorem mw_469 : Cond.instanceMethod yX0_addWriter ∈ wTT := wTT_of 469 (by decide +kernel) rfl
theorem mw_18 : Cond.selects RX0 yX0_addWriter yX0_addWriter ∈ wTT := wTT_of 18 (by decide +kernel) rfl
theorem mw_484 : Cond.code yX0_swapPlaces cX0_swapPlaces 5 none ∈ wTT := wTT_of 484 (by decide +kernel) rfl
theorem mw_481 : Cond.methodLinkNest RX4 126 yX0_swapPlaces RX4 ∈ wNW := wNW_of 481 (by decide +kernel) rfl
theorem mw_483 : Cond.instanceMethod yX0_swapPlaces ∈ wTT := wTT_of 483 (by decide +kernel) rfl
theorem mw_21 : Cond.selects RX0 yX0_swapPlaces yX0_swapPlaces ∈ wTT := wTT_of 21 (by decide +kernel) rfl
theorem mw_496 : Cond.code yX0_passYears cX0_passYears 4 none ∈ wTT := wTT_of 496 (by decide +kernel) rfl
theorem mw_493 : Cond.methodLinkNest RX4 142 yX0_passYears RX4 ∈ wNW := wNW_of 493 (by decide +kernel) rfl
theorem mw_495 : Cond.instanceMethod yX0_passYears ∈ wTT := wTT_of 495 (by decide +kernel) rfl
theorem mw_24 : Cond.selects RX0 yX0_passYears yX0_passYears ∈ wTT := wTT_of 24 (by decide +kernel) rfl
theorem mw_234 : Cond.fieldLink RX4 10 (TX4 0).1 (TX4 0).2.1 (TX4 0).2.2.1 ∈ wTT := wTT_of 234 (by decide +kernel) rfl
theorem mw_439 : Cond.code yX0_take cX0_take 2 none ∈ wTT := wTT_of 439 (by decide +kernel) rfl
theorem mw_436 : Cond.methodLinkNest RX4 82 yX0_take RX4 ∈ wNW := wNW_of 436 (by decide +kernel) rfl
theorem mw_438 : Cond.instanceMethod yX0_take ∈ wTT := wTT_of 438 (by decide +kernel) rfl
theorem mw_11 : Cond.selects RX0 yX0_take yX0_take ∈ wTT := wTT_of 11 (by decide +kernel) rfl
theorem mw_141 : Cond.fieldLinkNest RX4 65 (TX3 1).1 (TX3 1).2.1 (TX3 1).2.2.1 RX4 ∈ wNW := wNW_of 141 (by decide +kernel) rfl
theorem mw_447 : Cond.code yX4_isAsItMustBe cX4_isAsItMustBe 4 (some .boolean) ∈ wTT := wTT_of 447 (by decide +kernel) rfl
theorem mw_444 : Cond.methodLink RX4 86 yX4_isAsItMustBe ∈ wTT := wTT_of 444 (by decide +kernel) rfl
theorem mw_446 : Cond.instanceMethod yX4_isAsItMustBe ∈ wTT := wTT_of 446 (by decide +kernel) rfl
theorem mw_13 : Cond.selects RX4 yX4_isAsItMustBe yX4_isAsItMustBe ∈ wTT := wTT_of 13 (by decide +kernel) rfl
theorem mw_465 : Cond.code yX4_statementComes cX4_statementComes 5 none ∈ wTT := wTT_of 465 (by decide +kernel) rfl
theorem mw_462 : Cond.methodLink RX4 90 yX4_statementComes ∈ wTT := wTT_of 462 (by decide +kernel) rfl
theorem mw_464 : Cond.instanceMethod yX4_statementComes ∈ wTT := wTT_of 464 (by decide +kernel) rfl
theorem mw_17 : Cond.selects RX4 yX4_statementComes yX4_statementComes ∈ wTT := wTT_of 17 (by decide +kernel) rfl
theorem mw_523 : Cond.methodLinkNest RX4 93 yX1_shapeAt RX4 ∈ wNW := wNW_of 523 (by decide +kernel) rfl
theorem mw_524 : Cond.methodLink RX4 97 yJ0_length_8abf5 ∈ wTT := wTT_of 524 (by decide +kernel) rfl
theorem mw_652 : Cond.methodLinkNest RX4 207 yX0_isEnded RX4 ∈ wNW := wNW_of 652 (by decide +kernel) rfl
theorem mw_570 : Cond.methodLinkNest RX4 176 yX0_worthOf RX4 ∈ wNW := wNW_of 570 (by decide +kernel) rfl
theorem mw_547 : Cond.methodLinkNest RX4 179 yX0_isWriting RX4 ∈ wNW := wNW_of 547 (by decide +kernel) rfl
theorem mw_240 : Cond.fieldLink RX4 42 (TX4 6).1 (TX4 6).2.1 (TX4 6).2.2.1 ∈ wTT := wTT_of 240 (by decide +kernel) rfl
theorem mw_552 : Cond.constant RX4 279 (1000000000) ∈ wTT := wTT_of 552 (by decide +kernel) rfl
theorem mw_272 : Cond.code yX4_refused cX4_refused 2 (some .int) ∈ wTT := wTT_of 272 (by decide +kernel) rfl
theorem mw_269 : Cond.methodLink RX4 58 yX4_refused ∈ wTT := wTT_of 269 (by decide +kernel) rfl
theorem mw_271 : Cond.instanceMethod yX4_refused ∈ wTT := wTT_of 271 (by decide +kernel) rfl
theorem mw_0 : Cond.selects RX4 yX4_refused yX4_refused ∈ wTT := wTT_of 0 (by decide +kernel) rfl
theorem mw_546 : Cond.code yX4_refusalOfBook cX4_refusalOfBook 4 (some .int) ∈ wTT := wTT_of 546 (by decide +kernel) rfl
theorem mw_543 : Cond.methodLink RX4 163 yX4_refusalOfBook ∈ wTT := wTT_of 543 (by decide +kernel) rfl
theorem mw_545 : Cond.instanceMethod yX4_refusalOfBook ∈ wTT := wTT_of 545 (by decide +kernel) rfl
theorem mw_29 : Cond.selects RX4 yX4_refusalOfBook yX4_refusalOfBook ∈ wTT := wTT_of 29 (by decide +kernel) rfl
theorem mw_560 : Cond.code yX0_endsOf cX0_endsOf 2 (some .int) ∈ wTT := wTT_of 560 (by decide +kernel) rfl
theorem mw_557 : Cond.methodLinkNest RX4 173 yX0_endsOf RX4 ∈ wNW := wNW_of 557 (by decide +kernel) rfl
theorem mw_559 : Cond.instanceMethod yX0_endsOf ∈ wTT := wTT_of 559 (by decide +kernel) rfl
theorem mw_32 : Cond.selects RX0 yX0_endsOf yX0_endsOf ∈ wTT := wTT_of 32 (by decide +kernel) rfl
theorem mw_553 : Cond.methodLinkNest RX4 170 yX0_opensOf RX4 ∈ wNW := wNW_of 553 (by decide +kernel) rfl
theorem mw_551 : Cond.code yX4_refusedAsBig cX4_refusedAsBig 2 (some .int) ∈ wTT := wTT_of 551 (by decide +kernel) rfl
theorem mw_548 : Cond.methodLink RX4 167 yX4_refusedAsBig ∈ wTT := wTT_of 548 (by decide +kernel) rfl
theorem mw_550 : Cond.instanceMethod yX4_refusedAsBig ∈ wTT := wTT_of 550 (by decide +kernel) rfl
theorem mw_30 : Cond.selects RX4 yX4_refusedAsBig yX4_refusedAsBig ∈ wTT := wTT_of 30 (by decide +kernel) rfl
theorem mw_638 : Cond.code yX0_allWorth cX0_allWorth 3 (some .int) ∈ wTT := wTT_of 638 (by decide +kernel) rfl
theorem mw_635 : Cond.methodLinkNest RX4 198 yX0_allWorth RX4 ∈ wNW := wNW_of 635 (by decide +kernel) rfl
theorem mw_637 : Cond.instanceMethod yX0_allWorth ∈ wTT := wTT_of 637 (by decide +kernel) rfl
theorem mw_39 : Cond.selects RX0 yX0_allWorth yX0_allWorth ∈ wTT := wTT_of 39 (by decide +kernel) rfl
theorem mw_761 : Cond.constantLong RX4 280 (4000000000000000000) ∈ wTT := wTT_of 761 (by decide +kernel) rfl
theorem mw_167 : Cond.fieldLinkNest RX4 188 (TX0 8).1 (TX0 8).2.1 (TX0 8).2.2.1 RX4 ∈ wNW := wNW_of 167 (by decide +kernel) rfl
theorem mw_774 : Cond.code yX4_commonDivisor cX4_commonDivisor 11 (some .long) ∈ wTT := wTT_of 774 (by decide +kernel) rfl
theorem mw_772 : Cond.methodLink RX4 251 yX4_commonDivisor ∈ wTT := wTT_of 772 (by decide +kernel) rfl
theorem mw_773 : Cond.static yX4_commonDivisor ∈ wTT := wTT_of 773 (by decide +kernel) rfl
theorem mw_760 : Cond.code yX4_refusedAsLong cX4_refusedAsLong 2 (some .long) ∈ wTT := wTT_of 760 (by decide +kernel) rfl
theorem mw_757 : Cond.methodLink RX4 236 yX4_refusedAsLong ∈ wTT := wTT_of 757 (by decide +kernel) rfl
theorem mw_759 : Cond.instanceMethod yX4_refusedAsLong ∈ wTT := wTT_of 759 (by decide +kernel) rfl
theorem mw_50 : Cond.selects RX4 yX4_refusedAsLong yX4_refusedAsLong ∈ wTT := wTT_of 50 (by decide +kernel) rfl
theorem mw_667 : Cond.code yJ6_bitCount_0f7a4 cJ6_bitCount_0f7a4 1 (some .int) ∈ wTT := wTT_of 667 (by decide +kernel) rfl
theorem mw_114 : Cond.initialized RJ6 ∈ wTT := wTT_of 114 (by decide +kernel) rfl
theorem mw_665 : Cond.methodLink RX4 210 yJ6_bitCount_0f7a4 ∈ wTT := wTT_of 665 (by decide +kernel) rfl
theorem mw_666 : Cond.static yJ6_bitCount_0f7a4 ∈ wTT := wTT_of 666 (by decide +kernel) rfl
theorem mw_764 : Cond.code yX4_weightOfFreeYears cX4_weightOfFreeYears 5 (some .long) ∈ wTT := wTT_of 764 (by decide +kernel) rfl
theorem mw_762 : Cond.methodLink RX4 240 yX4_weightOfFreeYears ∈ wTT := wTT_of 762 (by decide +kernel) rfl
theorem mw_763 : Cond.static yX4_weightOfFreeYears ∈ wTT := wTT_of 763 (by decide +kernel) rfl
theorem mw_768 : Cond.code yX4_fameUnderCensor cX4_fameUnderCensor 5 (some .int) ∈ wTT := wTT_of 768 (by decide +kernel) rfl
theorem mw_765 : Cond.methodLink RX4 244 yX4_fameUnderCensor ∈ wTT := wTT_of 765 (by decide +kernel) rfl
theorem mw_767 : Cond.instanceMethod yX4_fameUnderCensor ∈ wTT := wTT_of 767 (by decide +kernel) rfl
theorem mw_51 : Cond.selects RX4 yX4_fameUnderCensor yX4_fameUnderCensor ∈ wTT := wTT_of 51 (by decide +kernel) rfl
theorem mw_771 : Cond.code yX4_inLeastTerms cX4_inLeastTerms 7 (some .long) ∈ wTT := wTT_of 771 (by decide +kernel) rfl
theorem mw_769 : Cond.methodLink RX4 247 yX4_inLeastTerms ∈ wTT := wTT_of 769 (by decide +kernel) rfl
theorem mw_770 : Cond.static yX4_inLeastTerms ∈ wTT := wTT_of 770 (by decide +kernel) rfl
theorem mw_162 : Cond.fieldLinkNest RX4 157 (TX0 6).1 (TX0 6).2.1 (TX0 6).2.2.1 RX4 ∈ wNW := wNW_of 162 (by decide +kernel) rfl
theorem mw_534 : Cond.methodLinkNest RX4 154 yX0_placeOf RX4 ∈ wNW := wNW_of 534 (by decide +kernel) rfl
theorem mw_239 : Cond.fieldLink RX4 38 (TX4 5).1 (TX4 5).2.1 (TX4 5).2.2.1 ∈ wTT := wTT_of 239 (by decide +kernel) rfl
theorem mw_528 : Cond.code yX3_makeEmpty cX3_makeEmpty 1 none ∈ wTT := wTT_of 528 (by decide +kernel) rfl
theorem mw_525 : Cond.methodLinkNest RX4 79 yX3_makeEmpty RX4 ∈ wNW := wNW_of 525 (by decide +kernel) rfl
theorem mw_527 : Cond.instanceMethod yX3_makeEmpty ∈ wTT := wTT_of 527 (by decide +kernel) rfl
theorem mw_28 : Cond.selects RX3 yX3_makeEmpty yX3_makeEmpty ∈ wTT := wTT_of 28 (by decide +kernel) rfl
theorem mw_835 : Cond.methodLinkNest RX4 273 yX0_writingBits RX4 ∈ wNW := wNW_of 835 (by decide +kernel) rfl
theorem mw_605 : Cond.code yX3_sumOf cX3_sumOf 4 (some .int) ∈ wTT := wTT_of 605 (by decide +kernel) rfl
theorem mw_602 : Cond.methodLinkNest RX4 185 yX3_sumOf RX4 ∈ wNW := wNW_of 602 (by decide +kernel) rfl
theorem mw_604 : Cond.instanceMethod yX3_sumOf ∈ wTT := wTT_of 604 (by decide +kernel) rfl
theorem mw_37 : Cond.selects RX3 yX3_sumOf yX3_sumOf ∈ wTT := wTT_of 37 (by decide +kernel) rfl
theorem mw_643 : Cond.code yX4_well cX4_well 3 (some .int) ∈ wTT := wTT_of 643 (by decide +kernel) rfl
theorem mw_836 : Cond.methodLink RX4 276 yX4_well ∈ wTT := wTT_of 836 (by decide +kernel) rfl
theorem mw_641 : Cond.instanceMethod yX4_well ∈ wTT := wTT_of 641 (by decide +kernel) rfl
theorem mw_642 : Cond.selects RX4 yX4_well yX4_well ∈ wTT := wTT_of 642 (by decide +kernel) rfl
theorem mw_732 : Cond.methodLinkNest RX4 227 yX0_worthEndedBy RX4 ∈ wNW := wNW_of 732 (by decide +kernel) rfl
theorem mw_589 : Cond.code yX4_refusalOfNumber cX4_refusalOfNumber 4 (some .int) ∈ wTT := wTT_of 589 (by decide +kernel) rfl
theorem mw_586 : Cond.methodLink RX4 182 yX4_refusalOfNumber ∈ wTT := wTT_of 586 (by decide +kernel) rfl
theorem mw_588 : Cond.instanceMethod yX4_refusalOfNumber ∈ wTT := wTT_of 588 (by decide +kernel) rfl
theorem mw_36 : Cond.selects RX4 yX4_refusalOfNumber yX4_refusalOfNumber ∈ wTT := wTT_of 36 (by decide +kernel) rfl
theorem mw_626 : Cond.code yX0_forgotten cX0_forgotten 2 (some .int) ∈ wTT := wTT_of 626 (by decide +kernel) rfl
theorem mw_623 : Cond.methodLinkNest RX4 195 yX0_forgotten RX4 ∈ wNW := wNW_of 623 (by decide +kernel) rfl
theorem mw_625 : Cond.instanceMethod yX0_forgotten ∈ wTT := wTT_of 625 (by decide +kernel) rfl
theorem mw_38 : Cond.selects RX0 yX0_forgotten yX0_forgotten ∈ wTT := wTT_of 38 (by decide +kernel) rfl
theorem mw_293 : Cond.code yX1_wrongPlace cX1_wrongPlace 5 (some .int) ∈ wTT := wTT_of 293 (by decide +kernel) rfl
theorem mw_290 : Cond.methodLinkNest RX4 72 yX1_wrongPlace RX4 ∈ wNW := wNW_of 290 (by decide +kernel) rfl
theorem mw_292 : Cond.instanceMethod yX1_wrongPlace ∈ wTT := wTT_of 292 (by decide +kernel) rfl
theorem mw_4 : Cond.selects RX1 yX1_wrongPlace yX1_wrongPlace ∈ wTT := wTT_of 4 (by decide +kernel) rfl
theorem mw_435 : Cond.code yX4_allStatementsCome cX4_allStatementsCome 3 (some .int) ∈ wTT := wTT_of 435 (by decide +kernel) rfl
theorem mw_432 : Cond.methodLink RX4 76 yX4_allStatementsCome ∈ wTT := wTT_of 432 (by decide +kernel) rfl
theorem mw_434 : Cond.instanceMethod yX4_allStatementsCome ∈ wTT := wTT_of 434 (by decide +kernel) rfl
theorem mw_10 : Cond.selects RX4 yX4_allStatementsCome yX4_allStatementsCome ∈ wTT := wTT_of 10 (by decide +kernel) rfl
theorem mw_157 : Cond.fieldLinkNest RX4 151 (TX0 4).1 (TX0 4).2.1 (TX0 4).2.2.1 RX4 ∈ wNW := wNW_of 157 (by decide +kernel) rfl
theorem mw_236 : Cond.fieldLink RX4 19 (TX4 2).1 (TX4 2).2.1 (TX4 2).2.2.1 ∈ wTT := wTT_of 236 (by decide +kernel) rfl
theorem mw_237 : Cond.fieldLink RX4 22 (TX4 3).1 (TX4 3).2.1 (TX4 3).2.2.1 ∈ wTT := wTT_of 237 (by decide +kernel) rfl
theorem mw_656 : Cond.code yX4_worstRead cX4_worstRead 3 (some .int) ∈ wTT := wTT_of 656 (by decide +kernel) rfl
theorem mw_653 : Cond.methodLink RX4 204 yX4_worstRead ∈ wTT := wTT_of 653 (by decide +kernel) rfl
theorem mw_655 : Cond.instanceMethod yX4_worstRead ∈ wTT := wTT_of 655 (by decide +kernel) rfl
theorem mw_41 : Cond.selects RX4 yX4_worstRead yX4_worstRead ∈ wTT := wTT_of 41 (by decide +kernel) rfl
theorem mw_811 : Cond.code yX4_endAsJudged cX4_endAsJudged 3 (some .int) ∈ wTT := wTT_of 811 (by decide +kernel) rfl
theorem mw_808 : Cond.methodLink RX4 264 yX4_endAsJudged ∈ wTT := wTT_of 808 (by decide +kernel) rfl
theorem mw_810 : Cond.instanceMethod yX4_endAsJudged ∈ wTT := wTT_of 810 (by decide +kernel) rfl
theorem mw_54 : Cond.selects RX4 yX4_endAsJudged yX4_endAsJudged ∈ wTT := wTT_of 54 (by decide +kernel) rfl
theorem mw_284 : Cond.code yX3_push cX3_push 2 none ∈ wTT := wTT_of 284 (by decide +kernel) rfl
theorem mw_281 : Cond.methodLinkNest RX4 69 yX3_push RX4 ∈ wNW := wNW_of 281 (by decide +kernel) rfl
theorem mw_283 : Cond.instanceMethod yX3_push ∈ wTT := wTT_of 283 (by decide +kernel) rfl
theorem mw_3 : Cond.selects RX3 yX3_push yX3_push ∈ wTT := wTT_of 3 (by decide +kernel) rfl
theorem mw_816 : Cond.constant RX4 267 (1664525) ∈ wTT := wTT_of 816 (by decide +kernel) rfl
theorem mw_817 : Cond.constant RX4 268 (1013904223) ∈ wTT := wTT_of 817 (by decide +kernel) rfl
theorem mw_818 : Cond.constant RX4 269 (2147483647) ∈ wTT := wTT_of 818 (by decide +kernel) rfl
theorem mw_822 : Cond.code yX0_howManyForgotten cX0_howManyForgotten 3 (some .int) ∈ wTT := wTT_of 822 (by decide +kernel) rfl
theorem mw_819 : Cond.methodLinkNest RX4 270 yX0_howManyForgotten RX4 ∈ wNW := wNW_of 819 (by decide +kernel) rfl
theorem mw_821 : Cond.instanceMethod yX0_howManyForgotten ∈ wTT := wTT_of 821 (by decide +kernel) rfl
theorem mw_55 : Cond.selects RX0 yX0_howManyForgotten yX0_howManyForgotten ∈ wTT := wTT_of 55 (by decide +kernel) rfl
theorem mw_614 : Cond.methodLink RX4 191 yX4_opensWith ∈ wTT := wTT_of 614 (by decide +kernel) rfl
theorem mw_160 : Cond.fieldLinkNest RX4 160 (TX0 5).1 (TX0 5).2.1 (TX0 5).2.2.1 RX4 ∈ wNW := wNW_of 160 (by decide +kernel) rfl
theorem mw_651 : Cond.code yX4_bestRead cX4_bestRead 3 (some .int) ∈ wTT := wTT_of 651 (by decide +kernel) rfl
theorem mw_648 : Cond.methodLink RX4 201 yX4_bestRead ∈ wTT := wTT_of 648 (by decide +kernel) rfl
theorem mw_650 : Cond.instanceMethod yX4_bestRead ∈ wTT := wTT_of 650 (by decide +kernel) rfl
theorem mw_40 : Cond.selects RX4 yX4_bestRead yX4_bestRead ∈ wTT := wTT_of 40 (by decide +kernel) rfl
theorem mw_243 : Cond.fieldLink RX4 54 (TX4 9).1 (TX4 9).2.1 (TX4 9).2.2.1 ∈ wTT := wTT_of 243 (by decide +kernel) rfl
theorem mw_694 : Cond.code yX2_seek cX2_seek 4 none ∈ wTT := wTT_of 694 (by decide +kernel) rfl
theorem mw_691 : Cond.methodLinkNest RX4 218 yX2_seek RX4 ∈ wNW := wNW_of 691 (by decide +kernel) rfl
theorem mw_693 : Cond.instanceMethod yX2_seek ∈ wTT := wTT_of 693 (by decide +kernel) rfl
theorem mw_43 : Cond.selects RX2 yX2_seek yX2_seek ∈ wTT := wTT_of 43 (by decide +kernel) rfl
theorem mw_213 : Cond.fieldLinkNest RX4 224 (TX2 2).1 (TX2 2).2.1 (TX2 2).2.2.1 RX4 ∈ wNW := wNW_of 213 (by decide +kernel) rfl
theorem mw_218 : Cond.fieldLinkNest RX4 221 (TX2 6).1 (TX2 6).2.1 (TX2 6).2.2.1 RX4 ∈ wNW := wNW_of 218 (by decide +kernel) rfl
theorem mw_678 : Cond.code yX0_openAlike cX0_openAlike 3 (some .boolean) ∈ wTT := wTT_of 678 (by decide +kernel) rfl
theorem mw_675 : Cond.methodLinkNest RX4 215 yX0_openAlike RX4 ∈ wNW := wNW_of 675 (by decide +kernel) rfl
theorem mw_677 : Cond.instanceMethod yX0_openAlike ∈ wTT := wTT_of 677 (by decide +kernel) rfl
theorem mw_42 : Cond.selects RX0 yX0_openAlike yX0_openAlike ∈ wTT := wTT_of 42 (by decide +kernel) rfl
theorem mw_149 : Cond.fieldLinkNest RX4 145 (TX0 0).1 (TX0 0).2.1 (TX0 0).2.2.1 RX4 ∈ wNW := wNW_of 149 (by decide +kernel) rfl
theorem mw_151 : Cond.fieldLinkNest RX4 148 (TX0 1).1 (TX0 1).2.1 (TX0 1).2.2.1 RX4 ∈ wNW := wNW_of 151 (by decide +kernel) rfl
theorem mw_241 : Cond.fieldLink RX4 45 (TX4 7).1 (TX4 7).2.1 (TX4 7).2.2.1 ∈ wTT := wTT_of 241 (by decide +kernel) rfl
theorem mw_242 : Cond.fieldLink RX4 48 (TX4 8).1 (TX4 8).2.1 (TX4 8).2.2.1 ∈ wTT := wTT_of 242 (by decide +kernel) rfl
theorem mw_752 : Cond.code yX0_bringBehind cX0_bringBehind 5 none ∈ wTT := wTT_of 752 (by decide +kernel) rfl
theorem mw_749 : Cond.methodLinkNest RX4 233 yX0_bringBehind RX4 ∈ wNW := wNW_of 749 (by decide +kernel) rfl
theorem mw_751 : Cond.instanceMethod yX0_bringBehind ∈ wTT := wTT_of 751 (by decide +kernel) rfl
theorem mw_49 : Cond.selects RX0 yX0_bringBehind yX0_bringBehind ∈ wTT := wTT_of 49 (by decide +kernel) rfl
theorem mw_748 : Cond.code yX4_weighPair cX4_weighPair 4 none ∈ wTT := wTT_of 748 (by decide +kernel) rfl
theorem mw_745 : Cond.methodLink RX4 230 yX4_weighPair ∈ wTT := wTT_of 745 (by decide +kernel) rfl
theorem mw_747 : Cond.instanceMethod yX4_weighPair ∈ wTT := wTT_of 747 (by decide +kernel) rfl
theorem mw_48 : Cond.selects RX4 yX4_weighPair yX4_weighPair ∈ wTT := wTT_of 48 (by decide +kernel) rfl
theorem mw_803 : Cond.code yX4_thoughtGoesAsTold cX4_thoughtGoesAsTold 3 (some .boolean) ∈ wTT := wTT_of 803 (by decide +kernel) rfl
theorem mw_800 : Cond.methodLink RX4 261 yX4_thoughtGoesAsTold ∈ wTT := wTT_of 800 (by decide +kernel) rfl
theorem mw_802 : Cond.instanceMethod yX4_thoughtGoesAsTold ∈ wTT := wTT_of 802 (by decide +kernel) rfl
theorem mw_53 : Cond.selects RX4 yX4_thoughtGoesAsTold yX4_thoughtGoesAsTold ∈ wTT := wTT_of 53 (by decide +kernel) rfl
theorem mw_795 : Cond.methodLinkNest RX4 258 yX0_endBy RX4 ∈ wNW := wNW_of 795 (by decide +kernel) rfl
theorem mw_794 : Cond.code yX4_wouldEndAsTold cX4_wouldEndAsTold 6 (some .boolean) ∈ wTT := wTT_of 794 (by decide +kernel) rfl
theorem mw_791 : Cond.methodLink RX4 255 yX4_wouldEndAsTold ∈ wTT := wTT_of 791 (by decide +kernel) rfl
theorem mw_793 : Cond.instanceMethod yX4_wouldEndAsTold ∈ wTT := wTT_of 793 (by decide +kernel) rfl
theorem mw_52 : Cond.selects RX4 yX4_wouldEndAsTold yX4_wouldEndAsTold ∈ wTT := wTT_of 52 (by decide +kernel) rfl
theorem mw_850 : Cond.fieldLink RX5 55 (TX5 7).1 (TX5 7).2.1 (TX5 7).2.2.1 ∈ wTT := wTT_of 850 (by decide +kernel) rfl
theorem mw_849 : Cond.fieldLink RX5 28 (TX5 6).1 (TX5 6).2.1 (TX5 6).2.2.1 ∈ wTT := wTT_of 849 (by decide +kernel) rfl
theorem mw_995 : Cond.code yX5_placeOf cX5_placeOf 3 (some .int) ∈ wTT := wTT_of 995 (by decide +kernel) rfl
theorem mw_108 : Cond.initialized RX5 ∈ wTT := wTT_of 108 (by decide +kernel) rfl
theorem mw_992 : Cond.methodLink RX5 159 yX5_placeOf ∈ wTT := wTT_of 992 (by decide +kernel) rfl
theorem mw_994 : Cond.instanceMethod yX5_placeOf ∈ wTT := wTT_of 994 (by decide +kernel) rfl
theorem mw_70 : Cond.selects RX5 yX5_placeOf yX5_placeOf ∈ wTT := wTT_of 70 (by decide +kernel) rfl
theorem mw_848 : Cond.fieldLink RX5 25 (TX5 5).1 (TX5 5).2.1 (TX5 5).2.2.1 ∈ wTT := wTT_of 848 (by decide +kernel) rfl
theorem mw_1015 : Cond.code yX5_enderOf cX5_enderOf 5 (some .int) ∈ wTT := wTT_of 1015 (by decide +kernel) rfl
theorem mw_1012 : Cond.methodLink RX5 162 yX5_enderOf ∈ wTT := wTT_of 1012 (by decide +kernel) rfl
theorem mw_1014 : Cond.instanceMethod yX5_enderOf ∈ wTT := wTT_of 1014 (by decide +kernel) rfl
theorem mw_75 : Cond.selects RX5 yX5_enderOf yX5_enderOf ∈ wTT := wTT_of 75 (by decide +kernel) rfl
theorem mw_846 : Cond.fieldLink RX5 19 (TX5 3).1 (TX5 3).2.1 (TX5 3).2.2.1 ∈ wTT := wTT_of 846 (by decide +kernel) rfl
theorem mw_851 : Cond.fieldLink RX5 101 (TX5 8).1 (TX5 8).2.1 (TX5 8).2.2.1 ∈ wTT := wTT_of 851 (by decide +kernel) rfl
theorem mw_845 : Cond.fieldLink RX5 16 (TX5 2).1 (TX5 2).2.1 (TX5 2).2.2.1 ∈ wTT := wTT_of 845 (by decide +kernel) rfl
theorem mw_844 : Cond.fieldLink RX5 13 (TX5 1).1 (TX5 1).2.1 (TX5 1).2.2.1 ∈ wTT := wTT_of 844 (by decide +kernel) rfl
theorem mw_1023 : Cond.code yX5_opens cX5_opens 2 (some .int) ∈ wTT := wTT_of 1023 (by decide +kernel) rfl
theorem mw_1020 : Cond.methodLink RX5 165 yX5_opens ∈ wTT := wTT_of 1020 (by decide +kernel) rfl
theorem mw_1022 : Cond.instanceMethod yX5_opens ∈ wTT := wTT_of 1022 (by decide +kernel) rfl
theorem mw_77 : Cond.selects RX5 yX5_opens yX5_opens ∈ wTT := wTT_of 77 (by decide +kernel) rfl
theorem mw_1031 : Cond.code yX5_ends cX5_ends 4 (some .int) ∈ wTT := wTT_of 1031 (by decide +kernel) rfl
theorem mw_1028 : Cond.methodLink RX5 168 yX5_ends ∈ wTT := wTT_of 1028 (by decide +kernel) rfl
theorem mw_1030 : Cond.instanceMethod yX5_ends ∈ wTT := wTT_of 1030 (by decide +kernel) rfl
theorem mw_79 : Cond.selects RX5 yX5_ends yX5_ends ∈ wTT := wTT_of 79 (by decide +kernel) rfl
theorem mw_1037 : Cond.code yX5_wayTo cX5_wayTo 3 (some .int) ∈ wTT := wTT_of 1037 (by decide +kernel) rfl
theorem mw_1035 : Cond.methodLink RX5 155 yX5_wayTo ∈ wTT := wTT_of 1035 (by decide +kernel) rfl
theorem mw_1036 : Cond.static yX5_wayTo ∈ wTT := wTT_of 1036 (by decide +kernel) rfl
theorem mw_1027 : Cond.code yX5_endOf cX5_endOf 2 (some .int) ∈ wTT := wTT_of 1027 (by decide +kernel) rfl
theorem mw_1024 : Cond.methodLink RX5 171 yX5_endOf ∈ wTT := wTT_of 1024 (by decide +kernel) rfl
theorem mw_1026 : Cond.instanceMethod yX5_endOf ∈ wTT := wTT_of 1026 (by decide +kernel) rfl
theorem mw_78 : Cond.selects RX5 yX5_endOf yX5_endOf ∈ wTT := wTT_of 78 (by decide +kernel) rfl
theorem mw_1034 : Cond.code yX5_worthOf cX5_worthOf 2 (some .int) ∈ wTT := wTT_of 1034 (by decide +kernel) rfl
theorem mw_1032 : Cond.methodLink RX5 174 yX5_worthOf ∈ wTT := wTT_of 1032 (by decide +kernel) rfl
theorem mw_1033 : Cond.static yX5_worthOf ∈ wTT := wTT_of 1033 (by decide +kernel) rfl
theorem mw_1011 : Cond.code yX5_isEnded cX5_isEnded 2 (some .boolean) ∈ wTT := wTT_of 1011 (by decide +kernel) rfl
theorem mw_1008 : Cond.methodLink RX5 177 yX5_isEnded ∈ wTT := wTT_of 1008 (by decide +kernel) rfl
theorem mw_1010 : Cond.instanceMethod yX5_isEnded ∈ wTT := wTT_of 1010 (by decide +kernel) rfl
theorem mw_74 : Cond.selects RX5 yX5_isEnded yX5_isEnded ∈ wTT := wTT_of 74 (by decide +kernel) rfl
theorem mw_1019 : Cond.code yX5_bookWorth cX5_bookWorth 2 (some .int) ∈ wTT := wTT_of 1019 (by decide +kernel) rfl
theorem mw_1016 : Cond.methodLink RX5 180 yX5_bookWorth ∈ wTT := wTT_of 1016 (by decide +kernel) rfl
theorem mw_1018 : Cond.instanceMethod yX5_bookWorth ∈ wTT := wTT_of 1018 (by decide +kernel) rfl
theorem mw_76 : Cond.selects RX5 yX5_bookWorth yX5_bookWorth ∈ wTT := wTT_of 76 (by decide +kernel) rfl
theorem mw_987 : Cond.code yX5_isOne cX5_isOne 2 (some .boolean) ∈ wTT := wTT_of 987 (by decide +kernel) rfl
theorem mw_984 : Cond.methodLink RX5 108 yX5_isOne ∈ wTT := wTT_of 984 (by decide +kernel) rfl
theorem mw_986 : Cond.instanceMethod yX5_isOne ∈ wTT := wTT_of 986 (by decide +kernel) rfl
theorem mw_68 : Cond.selects RX5 yX5_isOne yX5_isOne ∈ wTT := wTT_of 68 (by decide +kernel) rfl
theorem mw_861 : Cond.fieldLink RX5 138 (TX5 18).1 (TX5 18).2.1 (TX5 18).2.2.1 ∈ wTT := wTT_of 861 (by decide +kernel) rfl
theorem mw_859 : Cond.fieldLink RX5 43 (TX5 16).1 (TX5 16).2.1 (TX5 16).2.2.1 ∈ wTT := wTT_of 859 (by decide +kernel) rfl
theorem mw_862 : Cond.fieldLink RX5 142 (TX5 19).1 (TX5 19).2.1 (TX5 19).2.2.1 ∈ wTT := wTT_of 862 (by decide +kernel) rfl
theorem mw_967 : Cond.code yX5_passes cX5_passes 3 none ∈ wTT := wTT_of 967 (by decide +kernel) rfl
theorem mw_964 : Cond.methodLink RX5 145 yX5_passes ∈ wTT := wTT_of 964 (by decide +kernel) rfl
theorem mw_966 : Cond.instanceMethod yX5_passes ∈ wTT := wTT_of 966 (by decide +kernel) rfl
theorem mw_63 : Cond.selects RX5 yX5_passes yX5_passes ∈ wTT := wTT_of 63 (by decide +kernel) rfl
theorem mw_847 : Cond.fieldLink RX5 22 (TX5 4).1 (TX5 4).2.1 (TX5 4).2.2.1 ∈ wTT := wTT_of 847 (by decide +kernel) rfl
theorem mw_971 : Cond.code yX5_passOne cX5_passOne 3 (some .int) ∈ wTT := wTT_of 971 (by decide +kernel) rfl
theorem mw_968 : Cond.methodLink RX5 149 yX5_passOne ∈ wTT := wTT_of 968 (by decide +kernel) rfl
theorem mw_970 : Cond.instanceMethod yX5_passOne ∈ wTT := wTT_of 970 (by decide +kernel) rfl
theorem mw_64 : Cond.selects RX5 yX5_passOne yX5_passOne ∈ wTT := wTT_of 64 (by decide +kernel) rfl
theorem mw_963 : Cond.code yX5_passesAll cX5_passesAll 3 none ∈ wTT := wTT_of 963 (by decide +kernel) rfl
theorem mw_960 : Cond.methodLink RX5 131 yX5_passesAll ∈ wTT := wTT_of 960 (by decide +kernel) rfl
theorem mw_962 : Cond.instanceMethod yX5_passesAll ∈ wTT := wTT_of 962 (by decide +kernel) rfl
theorem mw_62 : Cond.selects RX5 yX5_passesAll yX5_passesAll ∈ wTT := wTT_of 62 (by decide +kernel) rfl
theorem mw_1040 : Cond.code yX5_held cX5_held 3 (some .int) ∈ wTT := wTT_of 1040 (by decide +kernel) rfl
theorem mw_1038 : Cond.methodLink RX5 183 yX5_held ∈ wTT := wTT_of 1038 (by decide +kernel) rfl
theorem mw_1039 : Cond.static yX5_held ∈ wTT := wTT_of 1039 (by decide +kernel) rfl
theorem mw_1044 : Cond.code yX5_gains cX5_gains 2 (some .int) ∈ wTT := wTT_of 1044 (by decide +kernel) rfl
theorem mw_1041 : Cond.methodLink RX5 186 yX5_gains ∈ wTT := wTT_of 1041 (by decide +kernel) rfl
theorem mw_1043 : Cond.instanceMethod yX5_gains ∈ wTT := wTT_of 1043 (by decide +kernel) rfl
theorem mw_80 : Cond.selects RX5 yX5_gains yX5_gains ∈ wTT := wTT_of 80 (by decide +kernel) rfl
theorem mw_1109 : Cond.code yX5_thinks cX5_thinks 1 none ∈ wTT := wTT_of 1109 (by decide +kernel) rfl
theorem mw_1106 : Cond.methodLink RX5 200 yX5_thinks ∈ wTT := wTT_of 1106 (by decide +kernel) rfl
theorem mw_1108 : Cond.instanceMethod yX5_thinks ∈ wTT := wTT_of 1108 (by decide +kernel) rfl
theorem mw_84 : Cond.selects RX5 yX5_thinks yX5_thinks ∈ wTT := wTT_of 84 (by decide +kernel) rfl
theorem mw_867 : Cond.fieldLink RX5 257 (TX5 24).1 (TX5 24).2.1 (TX5 24).2.2.1 ∈ wTT := wTT_of 867 (by decide +kernel) rfl
theorem mw_866 : Cond.fieldLink RX5 52 (TX5 23).1 (TX5 23).2.1 (TX5 23).2.2.1 ∈ wTT := wTT_of 866 (by decide +kernel) rfl
theorem mw_1007 : Cond.code yX5_goesYear cX5_goesYear 4 none ∈ wTT := wTT_of 1007 (by decide +kernel) rfl
theorem mw_1004 : Cond.methodLink RX5 189 yX5_goesYear ∈ wTT := wTT_of 1004 (by decide +kernel) rfl
theorem mw_1006 : Cond.instanceMethod yX5_goesYear ∈ wTT := wTT_of 1006 (by decide +kernel) rfl
theorem mw_73 : Cond.selects RX5 yX5_goesYear yX5_goesYear ∈ wTT := wTT_of 73 (by decide +kernel) rfl
theorem mw_1113 : Cond.code yX5_forgets cX5_forgets 1 none ∈ wTT := wTT_of 1113 (by decide +kernel) rfl
theorem mw_1110 : Cond.methodLink RX5 203 yX5_forgets ∈ wTT := wTT_of 1110 (by decide +kernel) rfl
theorem mw_1112 : Cond.instanceMethod yX5_forgets ∈ wTT := wTT_of 1112 (by decide +kernel) rfl
theorem mw_85 : Cond.selects RX5 yX5_forgets yX5_forgets ∈ wTT := wTT_of 85 (by decide +kernel) rfl
theorem mw_1277 : Cond.code yX5_isFamedSo cX5_isFamedSo 4 (some .boolean) ∈ wTT := wTT_of 1277 (by decide +kernel) rfl
theorem mw_1274 : Cond.methodLink RX5 263 yX5_isFamedSo ∈ wTT := wTT_of 1274 (by decide +kernel) rfl
theorem mw_1276 : Cond.instanceMethod yX5_isFamedSo ∈ wTT := wTT_of 1276 (by decide +kernel) rfl
theorem mw_98 : Cond.selects RX5 yX5_isFamedSo yX5_isFamedSo ∈ wTT := wTT_of 98 (by decide +kernel) rfl
theorem mw_843 : Cond.fieldLink RX5 7 (TX5 0).1 (TX5 0).2.1 (TX5 0).2.2.1 ∈ wTT := wTT_of 843 (by decide +kernel) rfl
theorem mw_1073 : Cond.constant RX5 59 (1000000000) ∈ wTT := wTT_of 1073 (by decide +kernel) rfl
theorem mw_959 : Cond.code yX5_isIn cX5_isIn 3 (some .boolean) ∈ wTT := wTT_of 959 (by decide +kernel) rfl
theorem mw_957 : Cond.methodLink RX5 80 yX5_isIn ∈ wTT := wTT_of 957 (by decide +kernel) rfl
theorem mw_958 : Cond.static yX5_isIn ∈ wTT := wTT_of 958 (by decide +kernel) rfl
theorem mw_1072 : Cond.code yX5_lower cX5_lower 2 (some .int) ∈ wTT := wTT_of 1072 (by decide +kernel) rfl
theorem mw_1069 : Cond.methodLink RX5 193 yX5_lower ∈ wTT := wTT_of 1069 (by decide +kernel) rfl
theorem mw_1071 : Cond.instanceMethod yX5_lower ∈ wTT := wTT_of 1071 (by decide +kernel) rfl
theorem mw_82 : Cond.selects RX5 yX5_lower yX5_lower ∈ wTT := wTT_of 82 (by decide +kernel) rfl
theorem mw_1125 : Cond.code yX5_allWorth cX5_allWorth 3 (some .int) ∈ wTT := wTT_of 1125 (by decide +kernel) rfl
theorem mw_1122 : Cond.methodLink RX5 206 yX5_allWorth ∈ wTT := wTT_of 1122 (by decide +kernel) rfl
theorem mw_1124 : Cond.instanceMethod yX5_allWorth ∈ wTT := wTT_of 1124 (by decide +kernel) rfl
theorem mw_86 : Cond.selects RX5 yX5_allWorth yX5_allWorth ∈ wTT := wTT_of 86 (by decide +kernel) rfl
theorem mw_991 : Cond.code yX5_swaps cX5_swaps 5 none ∈ wTT := wTT_of 991 (by decide +kernel) rfl
theorem mw_988 : Cond.methodLink RX5 117 yX5_swaps ∈ wTT := wTT_of 988 (by decide +kernel) rfl
theorem mw_990 : Cond.instanceMethod yX5_swaps ∈ wTT := wTT_of 990 (by decide +kernel) rfl
theorem mw_69 : Cond.selects RX5 yX5_swaps yX5_swaps ∈ wTT := wTT_of 69 (by decide +kernel) rfl
theorem mw_1247 : Cond.constantLong RX5 60 (4000000000000000000) ∈ wTT := wTT_of 1247 (by decide +kernel) rfl
theorem mw_1253 : Cond.code yX5_divisor cX5_divisor 10 (some .long) ∈ wTT := wTT_of 1253 (by decide +kernel) rfl
theorem mw_1251 : Cond.methodLink RX5 245 yX5_divisor ∈ wTT := wTT_of 1251 (by decide +kernel) rfl
theorem mw_1252 : Cond.static yX5_divisor ∈ wTT := wTT_of 1252 (by decide +kernel) rfl
theorem mw_1167 : Cond.code yX5_has cX5_has 2 (some .boolean) ∈ wTT := wTT_of 1167 (by decide +kernel) rfl
theorem mw_1165 : Cond.methodLink RX5 218 yX5_has ∈ wTT := wTT_of 1165 (by decide +kernel) rfl
theorem mw_1166 : Cond.static yX5_has ∈ wTT := wTT_of 1166 (by decide +kernel) rfl
theorem mw_1250 : Cond.code yX5_partOf cX5_partOf 5 (some .long) ∈ wTT := wTT_of 1250 (by decide +kernel) rfl
theorem mw_1248 : Cond.methodLink RX5 253 yX5_partOf ∈ wTT := wTT_of 1248 (by decide +kernel) rfl
theorem mw_1249 : Cond.static yX5_partOf ∈ wTT := wTT_of 1249 (by decide +kernel) rfl
theorem mw_1246 : Cond.code yX5_lowestOf cX5_lowestOf 2 (some .long) ∈ wTT := wTT_of 1246 (by decide +kernel) rfl
theorem mw_1243 : Cond.methodLink RX5 249 yX5_lowestOf ∈ wTT := wTT_of 1243 (by decide +kernel) rfl
theorem mw_1245 : Cond.instanceMethod yX5_lowestOf ∈ wTT := wTT_of 1245 (by decide +kernel) rfl
theorem mw_95 : Cond.selects RX5 yX5_lowestOf yX5_lowestOf ∈ wTT := wTT_of 95 (by decide +kernel) rfl
theorem mw_1214 : Cond.code yX5_bits cX5_bits 3 (some .int) ∈ wTT := wTT_of 1214 (by decide +kernel) rfl
theorem mw_1212 : Cond.methodLink RX5 236 yX5_bits ∈ wTT := wTT_of 1212 (by decide +kernel) rfl
theorem mw_1213 : Cond.static yX5_bits ∈ wTT := wTT_of 1213 (by decide +kernel) rfl
theorem mw_929 : Cond.code yX5_no cX5_no 2 (some .int) ∈ wTT := wTT_of 929 (by decide +kernel) rfl
theorem mw_926 : Cond.methodLink RX5 69 yX5_no ∈ wTT := wTT_of 926 (by decide +kernel) rfl
theorem mw_928 : Cond.instanceMethod yX5_no ∈ wTT := wTT_of 928 (by decide +kernel) rfl
theorem mw_56 : Cond.selects RX5 yX5_no yX5_no ∈ wTT := wTT_of 56 (by decide +kernel) rfl
theorem mw_983 : Cond.code yX5_areTwo cX5_areTwo 3 (some .boolean) ∈ wTT := wTT_of 983 (by decide +kernel) rfl
theorem mw_980 : Cond.methodLink RX5 114 yX5_areTwo ∈ wTT := wTT_of 980 (by decide +kernel) rfl
theorem mw_982 : Cond.instanceMethod yX5_areTwo ∈ wTT := wTT_of 982 (by decide +kernel) rfl
theorem mw_67 : Cond.selects RX5 yX5_areTwo yX5_areTwo ∈ wTT := wTT_of 67 (by decide +kernel) rfl
theorem mw_1003 : Cond.code yX5_goes cX5_goes 3 none ∈ wTT := wTT_of 1003 (by decide +kernel) rfl
theorem mw_1000 : Cond.methodLink RX5 104 yX5_goes ∈ wTT := wTT_of 1000 (by decide +kernel) rfl
theorem mw_1002 : Cond.instanceMethod yX5_goes ∈ wTT := wTT_of 1002 (by decide +kernel) rfl
theorem mw_72 : Cond.selects RX5 yX5_goes yX5_goes ∈ wTT := wTT_of 72 (by decide +kernel) rfl
theorem mw_853 : Cond.fieldLink RX5 34 (TX5 10).1 (TX5 10).2.1 (TX5 10).2.2.1 ∈ wTT := wTT_of 853 (by decide +kernel) rfl
theorem mw_855 : Cond.fieldLink RX5 40 (TX5 12).1 (TX5 12).2.1 (TX5 12).2.2.1 ∈ wTT := wTT_of 855 (by decide +kernel) rfl
theorem mw_979 : Cond.code yX5_comesWriter cX5_comesWriter 4 (some .boolean) ∈ wTT := wTT_of 979 (by decide +kernel) rfl
theorem mw_976 : Cond.methodLink RX5 111 yX5_comesWriter ∈ wTT := wTT_of 976 (by decide +kernel) rfl
theorem mw_978 : Cond.instanceMethod yX5_comesWriter ∈ wTT := wTT_of 978 (by decide +kernel) rfl
theorem mw_66 : Cond.selects RX5 yX5_comesWriter yX5_comesWriter ∈ wTT := wTT_of 66 (by decide +kernel) rfl
theorem mw_999 : Cond.code yX5_comesYears cX5_comesYears 2 (some .boolean) ∈ wTT := wTT_of 999 (by decide +kernel) rfl
theorem mw_996 : Cond.methodLink RX5 121 yX5_comesYears ∈ wTT := wTT_of 996 (by decide +kernel) rfl
theorem mw_998 : Cond.instanceMethod yX5_comesYears ∈ wTT := wTT_of 998 (by decide +kernel) rfl
theorem mw_71 : Cond.selects RX5 yX5_comesYears yX5_comesYears ∈ wTT := wTT_of 71 (by decide +kernel) rfl
theorem mw_1048 : Cond.code yX5_comesOf cX5_comesOf 4 (some .boolean) ∈ wTT := wTT_of 1048 (by decide +kernel) rfl
theorem mw_1045 : Cond.methodLink RX5 124 yX5_comesOf ∈ wTT := wTT_of 1045 (by decide +kernel) rfl
theorem mw_1047 : Cond.instanceMethod yX5_comesOf ∈ wTT := wTT_of 1047 (by decide +kernel) rfl
theorem mw_81 : Cond.selects RX5 yX5_comesOf yX5_comesOf ∈ wTT := wTT_of 81 (by decide +kernel) rfl
theorem mw_1308 : Cond.code yX5_writing cX5_writing 3 (some .int) ∈ wTT := wTT_of 1308 (by decide +kernel) rfl
theorem mw_1305 : Cond.methodLink RX5 276 yX5_writing ∈ wTT := wTT_of 1305 (by decide +kernel) rfl
theorem mw_1307 : Cond.instanceMethod yX5_writing ∈ wTT := wTT_of 1307 (by decide +kernel) rfl
theorem mw_100 : Cond.selects RX5 yX5_writing yX5_writing ∈ wTT := wTT_of 100 (by decide +kernel) rfl
theorem mw_1101 : Cond.code yX5_allOf cX5_allOf 4 (some .int) ∈ wTT := wTT_of 1101 (by decide +kernel) rfl
theorem mw_1098 : Cond.methodLink RX5 196 yX5_allOf ∈ wTT := wTT_of 1098 (by decide +kernel) rfl
theorem mw_1100 : Cond.instanceMethod yX5_allOf ∈ wTT := wTT_of 1100 (by decide +kernel) rfl
theorem mw_83 : Cond.selects RX5 yX5_allOf yX5_allOf ∈ wTT := wTT_of 83 (by decide +kernel) rfl
theorem mw_1129 : Cond.code yX5_well cX5_well 3 (some .int) ∈ wTT := wTT_of 1129 (by decide +kernel) rfl
theorem mw_1309 : Cond.methodLink RX5 279 yX5_well ∈ wTT := wTT_of 1309 (by decide +kernel) rfl
theorem mw_1127 : Cond.instanceMethod yX5_well ∈ wTT := wTT_of 1127 (by decide +kernel) rfl
theorem mw_1128 : Cond.selects RX5 yX5_well yX5_well ∈ wTT := wTT_of 1128 (by decide +kernel) rfl
theorem mw_856 : Cond.fieldLink RX5 66 (TX5 13).1 (TX5 13).2.1 (TX5 13).2.2.1 ∈ wTT := wTT_of 856 (by decide +kernel) rfl
theorem mw_1191 : Cond.code yX5_worthEnded cX5_worthEnded 3 (some .int) ∈ wTT := wTT_of 1191 (by decide +kernel) rfl
theorem mw_1188 : Cond.methodLink RX5 230 yX5_worthEnded ∈ wTT := wTT_of 1188 (by decide +kernel) rfl
theorem mw_1190 : Cond.instanceMethod yX5_worthEnded ∈ wTT := wTT_of 1190 (by decide +kernel) rfl
theorem mw_91 : Cond.selects RX5 yX5_worthEnded yX5_worthEnded ∈ wTT := wTT_of 91 (by decide +kernel) rfl
theorem mw_925 : Cond.code yX5_bound cX5_bound 3 (some .int) ∈ wTT := wTT_of 925 (by decide +kernel) rfl
theorem mw_923 : Cond.methodLink RX5 62 yX5_bound ∈ wTT := wTT_of 923 (by decide +kernel) rfl
theorem mw_924 : Cond.static yX5_bound ∈ wTT := wTT_of 924 (by decide +kernel) rfl
theorem mw_863 : Cond.fieldLink RX5 209 (TX5 20).1 (TX5 20).2.1 (TX5 20).2.2.1 ∈ wTT := wTT_of 863 (by decide +kernel) rfl
theorem mw_865 : Cond.fieldLink RX5 49 (TX5 22).1 (TX5 22).2.1 (TX5 22).2.2.1 ∈ wTT := wTT_of 865 (by decide +kernel) rfl
theorem mw_1238 : Cond.code yX5_bringsBehind cX5_bringsBehind 6 none ∈ wTT := wTT_of 1238 (by decide +kernel) rfl
theorem mw_1235 : Cond.methodLink RX5 239 yX5_bringsBehind ∈ wTT := wTT_of 1235 (by decide +kernel) rfl
theorem mw_1237 : Cond.instanceMethod yX5_bringsBehind ∈ wTT := wTT_of 1237 (by decide +kernel) rfl
theorem mw_94 : Cond.selects RX5 yX5_bringsBehind yX5_bringsBehind ∈ wTT := wTT_of 94 (by decide +kernel) rfl
theorem mw_1164 : Cond.code yX5_nth cX5_nth 4 (some .int) ∈ wTT := wTT_of 1164 (by decide +kernel) rfl
theorem mw_1162 : Cond.methodLink RX5 215 yX5_nth ∈ wTT := wTT_of 1162 (by decide +kernel) rfl
theorem mw_1163 : Cond.static yX5_nth ∈ wTT := wTT_of 1163 (by decide +kernel) rfl
theorem mw_1161 : Cond.code yX5_ringsBy cX5_ringsBy 8 none ∈ wTT := wTT_of 1161 (by decide +kernel) rfl
theorem mw_1158 : Cond.methodLink RX5 221 yX5_ringsBy ∈ wTT := wTT_of 1158 (by decide +kernel) rfl
theorem mw_1160 : Cond.instanceMethod yX5_ringsBy ∈ wTT := wTT_of 1160 (by decide +kernel) rfl
theorem mw_89 : Cond.selects RX5 yX5_ringsBy yX5_ringsBy ∈ wTT := wTT_of 89 (by decide +kernel) rfl
theorem mw_864 : Cond.fieldLink RX5 46 (TX5 21).1 (TX5 21).2.1 (TX5 21).2.2.1 ∈ wTT := wTT_of 864 (by decide +kernel) rfl
theorem mw_1145 : Cond.code yX5_findForgotten cX5_findForgotten 4 (some .int) ∈ wTT := wTT_of 1145 (by decide +kernel) rfl
theorem mw_1142 : Cond.methodLink RX5 212 yX5_findForgotten ∈ wTT := wTT_of 1142 (by decide +kernel) rfl
theorem mw_1144 : Cond.instanceMethod yX5_findForgotten ∈ wTT := wTT_of 1144 (by decide +kernel) rfl
theorem mw_87 : Cond.selects RX5 yX5_findForgotten yX5_findForgotten ∈ wTT := wTT_of 87 (by decide +kernel) rfl
theorem mw_857 : Cond.fieldLink RX5 73 (TX5 14).1 (TX5 14).2.1 (TX5 14).2.2.1 ∈ wTT := wTT_of 857 (by decide +kernel) rfl
theorem mw_852 : Cond.fieldLink RX5 31 (TX5 9).1 (TX5 9).2.1 (TX5 9).2.2.1 ∈ wTT := wTT_of 852 (by decide +kernel) rfl
theorem mw_941 : Cond.code yX5_next cX5_next 1 (some .int) ∈ wTT := wTT_of 941 (by decide +kernel) rfl
theorem mw_938 : Cond.methodLink RX5 76 yX5_next ∈ wTT := wTT_of 938 (by decide +kernel) rfl
theorem mw_940 : Cond.instanceMethod yX5_next ∈ wTT := wTT_of 940 (by decide +kernel) rfl
theorem mw_58 : Cond.selects RX5 yX5_next yX5_next ∈ wTT := wTT_of 58 (by decide +kernel) rfl
theorem mw_952 : Cond.code yX5_kindOf cX5_kindOf 1 (some .int) ∈ wTT := wTT_of 952 (by decide +kernel) rfl
theorem mw_950 : Cond.methodLink RX5 84 yX5_kindOf ∈ wTT := wTT_of 950 (by decide +kernel) rfl
theorem mw_951 : Cond.static yX5_kindOf ∈ wTT := wTT_of 951 (by decide +kernel) rfl
theorem mw_956 : Cond.code yX5_readsDigits cX5_readsDigits 5 (some .boolean) ∈ wTT := wTT_of 956 (by decide +kernel) rfl
theorem mw_953 : Cond.methodLink RX5 87 yX5_readsDigits ∈ wTT := wTT_of 953 (by decide +kernel) rfl
theorem mw_955 : Cond.instanceMethod yX5_readsDigits ∈ wTT := wTT_of 955 (by decide +kernel) rfl
theorem mw_61 : Cond.selects RX5 yX5_readsDigits yX5_readsDigits ∈ wTT := wTT_of 61 (by decide +kernel) rfl
theorem mw_949 : Cond.code yX5_readsWriter cX5_readsWriter 2 (some .boolean) ∈ wTT := wTT_of 949 (by decide +kernel) rfl
theorem mw_946 : Cond.methodLink RX5 91 yX5_readsWriter ∈ wTT := wTT_of 946 (by decide +kernel) rfl
theorem mw_948 : Cond.instanceMethod yX5_readsWriter ∈ wTT := wTT_of 948 (by decide +kernel) rfl
theorem mw_60 : Cond.selects RX5 yX5_readsWriter yX5_readsWriter ∈ wTT := wTT_of 60 (by decide +kernel) rfl
theorem mw_858 : Cond.fieldLink RX5 95 (TX5 15).1 (TX5 15).2.1 (TX5 15).2.2.1 ∈ wTT := wTT_of 858 (by decide +kernel) rfl
theorem mw_854 : Cond.fieldLink RX5 37 (TX5 11).1 (TX5 11).2.1 (TX5 11).2.2.1 ∈ wTT := wTT_of 854 (by decide +kernel) rfl
theorem mw_945 : Cond.code yX5_readsAll cX5_readsAll 3 (some .boolean) ∈ wTT := wTT_of 945 (by decide +kernel) rfl
theorem mw_942 : Cond.methodLink RX5 98 yX5_readsAll ∈ wTT := wTT_of 942 (by decide +kernel) rfl
theorem mw_944 : Cond.instanceMethod yX5_readsAll ∈ wTT := wTT_of 944 (by decide +kernel) rfl
theorem mw_59 : Cond.selects RX5 yX5_readsAll yX5_readsAll ∈ wTT := wTT_of 59 (by decide +kernel) rfl
theorem mw_937 : Cond.code yX5_statement cX5_statement 2 (some .boolean) ∈ wTT := wTT_of 937 (by decide +kernel) rfl
theorem mw_934 : Cond.methodLink RX5 127 yX5_statement ∈ wTT := wTT_of 934 (by decide +kernel) rfl
theorem mw_936 : Cond.instanceMethod yX5_statement ∈ wTT := wTT_of 936 (by decide +kernel) rfl
theorem mw_57 : Cond.selects RX5 yX5_statement yX5_statement ∈ wTT := wTT_of 57 (by decide +kernel) rfl
theorem mw_975 : Cond.code yX5_comes cX5_comes 3 (some .boolean) ∈ wTT := wTT_of 975 (by decide +kernel) rfl
theorem mw_972 : Cond.methodLink RX5 135 yX5_comes ∈ wTT := wTT_of 972 (by decide +kernel) rfl
theorem mw_974 : Cond.instanceMethod yX5_comes ∈ wTT := wTT_of 974 (by decide +kernel) rfl
theorem mw_65 : Cond.selects RX5 yX5_comes yX5_comes ∈ wTT := wTT_of 65 (by decide +kernel) rfl
theorem mw_860 : Cond.fieldLink RX5 152 (TX5 17).1 (TX5 17).2.1 (TX5 17).2.2.1 ∈ wTT := wTT_of 860 (by decide +kernel) rfl
theorem mw_1294 : Cond.constant RX5 270 (1664525) ∈ wTT := wTT_of 1294 (by decide +kernel) rfl
theorem mw_1295 : Cond.constant RX5 271 (1013904223) ∈ wTT := wTT_of 1295 (by decide +kernel) rfl
theorem mw_1296 : Cond.constant RX5 272 (2147483647) ∈ wTT := wTT_of 1296 (by decide +kernel) rfl
theorem mw_1300 : Cond.code yX5_forgottenOnes cX5_forgottenOnes 3 (some .int) ∈ wTT := wTT_of 1300 (by decide +kernel) rfl
theorem mw_1297 : Cond.methodLink RX5 273 yX5_forgottenOnes ∈ wTT := wTT_of 1297 (by decide +kernel) rfl
theorem mw_1299 : Cond.instanceMethod yX5_forgottenOnes ∈ wTT := wTT_of 1299 (by decide +kernel) rfl
theorem mw_99 : Cond.selects RX5 yX5_forgottenOnes yX5_forgottenOnes ∈ wTT := wTT_of 99 (by decide +kernel) rfl
theorem mw_1207 : Cond.code yX5_areMutual cX5_areMutual 3 (some .boolean) ∈ wTT := wTT_of 1207 (by decide +kernel) rfl
theorem mw_1204 : Cond.methodLink RX5 233 yX5_areMutual ∈ wTT := wTT_of 1204 (by decide +kernel) rfl
theorem mw_1206 : Cond.instanceMethod yX5_areMutual ∈ wTT := wTT_of 1206 (by decide +kernel) rfl
theorem mw_92 : Cond.selects RX5 yX5_areMutual yX5_areMutual ∈ wTT := wTT_of 92 (by decide +kernel) rfl
theorem mw_1183 : Cond.code yX5_worthBy cX5_worthBy 5 (some .int) ∈ wTT := wTT_of 1183 (by decide +kernel) rfl
theorem mw_1180 : Cond.methodLink RX5 227 yX5_worthBy ∈ wTT := wTT_of 1180 (by decide +kernel) rfl
theorem mw_1182 : Cond.instanceMethod yX5_worthBy ∈ wTT := wTT_of 1182 (by decide +kernel) rfl
theorem mw_90 : Cond.selects RX5 yX5_worthBy yX5_worthBy ∈ wTT := wTT_of 90 (by decide +kernel) rfl
theorem mw_1157 : Cond.code yX5_findRing cX5_findRing 6 (some .int) ∈ wTT := wTT_of 1157 (by decide +kernel) rfl
theorem mw_1154 : Cond.methodLink RX5 224 yX5_findRing ∈ wTT := wTT_of 1154 (by decide +kernel) rfl
theorem mw_1156 : Cond.instanceMethod yX5_findRing ∈ wTT := wTT_of 1156 (by decide +kernel) rfl
theorem mw_88 : Cond.selects RX5 yX5_findRing yX5_findRing ∈ wTT := wTT_of 88 (by decide +kernel) rfl
theorem mw_1234 : Cond.code yX5_findGets cX5_findGets 4 none ∈ wTT := wTT_of 1234 (by decide +kernel) rfl
theorem mw_1231 : Cond.methodLink RX5 242 yX5_findGets ∈ wTT := wTT_of 1231 (by decide +kernel) rfl
theorem mw_1233 : Cond.instanceMethod yX5_findGets ∈ wTT := wTT_of 1233 (by decide +kernel) rfl
theorem mw_93 : Cond.selects RX5 yX5_findGets yX5_findGets ∈ wTT := wTT_of 93 (by decide +kernel) rfl
theorem mw_1273 : Cond.code yX5_bitsFor cX5_bitsFor 8 (some .int) ∈ wTT := wTT_of 1273 (by decide +kernel) rfl
theorem mw_1270 : Cond.methodLink RX5 266 yX5_bitsFor ∈ wTT := wTT_of 1270 (by decide +kernel) rfl
theorem mw_1272 : Cond.instanceMethod yX5_bitsFor ∈ wTT := wTT_of 1272 (by decide +kernel) rfl
theorem mw_97 : Cond.selects RX5 yX5_bitsFor yX5_bitsFor ∈ wTT := wTT_of 97 (by decide +kernel) rfl
theorem mw_1265 : Cond.code yX5_endedSo cX5_endedSo 5 (some .boolean) ∈ wTT := wTT_of 1265 (by decide +kernel) rfl
theorem mw_1262 : Cond.methodLink RX5 260 yX5_endedSo ∈ wTT := wTT_of 1262 (by decide +kernel) rfl
theorem mw_1264 : Cond.instanceMethod yX5_endedSo ∈ wTT := wTT_of 1264 (by decide +kernel) rfl
theorem mw_96 : Cond.selects RX5 yX5_endedSo yX5_endedSo ∈ wTT := wTT_of 96 (by decide +kernel) rfl
section WLK
variable {p : Program} {l : Launch} {e : Env} {h : Nat} {s : State} {m : MethodId} {args : Array Value} {below : List Frame} {meth : Method} {c : Code} {H : Heap} {locs : List Loc} {Q : State → Prop}
variable {cc : ByteArray} {nL : Nat} {ret : Option FieldType} {D : va_G} {cI : ClassId} {aS : aSt} {A : Nat → Prop} {pc : Nat} {ls : Array Slot} {rest : List Value} {ws ws' : va_W} {a : Nat}
theorem fgX3_19 {q0 : Nat} {fs : List Value} {v : Value} (X : Bx p s m args meth c cc nL ret RX3 D cI aS A) (hP : va_P D vwCl ws H) (he : ws[q0]? = some (a, .inr (3, fs))) (hv : fs[0]? = some v) (hdg : decode cc pc = .ok (.getfield 19, 3)) (kk : Wh p l e h s m args below meth c H locs Q (F0 m (pc + 3) ls (v :: rest))) : Wh p l e h s m args below meth c H locs Q (F0 m pc ls (.ref a :: rest)) := fGet (C := RX3) (T := TX3) (N := 2) (k := 0) X inT3 rfl (by decide) mw_138 hP he hv hdg kk
theorem fgX0_26 {q0 : Nat} {fs : List Value} {v : Value} (X : Bx p s m args meth c cc nL ret RX0 D cI aS A) (hP : va_P D vwCl ws H) (he : ws[q0]? = some (a, .inr (0, fs))) (hv : fs[3]? = some v) (hdg : decode cc pc = .ok (.getfield 26, 3)) (kk : Wh p l e h s m args below meth c H locs Q (F0 m (pc + 3) ls (v :: rest))) : Wh p l e h s m args below meth c H locs Q (F0 m pc ls (.ref a :: rest)) := fGet (C := RX0) (T := TX0) (N := 9) (k := 3) X inT0 rfl (by decide) mw_154 hP he hv hdg kk
theorem lkX0_60 : LkN RX0 60 yX3_get RX4 RX3 cX3_get 2 (some .int) 1 := ⟨mw_476, mw_275, mw_1, mw_104, mw_276, ⟨by decide, by decide, by decide +kernel⟩, by decide⟩
theorem lkX0_49 : LkN RX0 49 yX3_set RX4 RX3 cX3_set 3 none 2 := ⟨mw_471, mw_279, mw_2, mw_104, mw_280, ⟨by decide, by decide, by decide +kernel⟩, by decide⟩
theorem fgX0_29 {q0 : Nat} {fs : List Value} {v : Value} (X : Bx p s m args meth c cc nL ret RX0 D cI aS A) (hP : va_P D vwCl ws H) (he : ws[q0]? = some (a, .inr (0, fs))) (hv : fs[4]? = some v) (hdg : decode cc pc = .ok (.getfield 29, 3)) (kk : Wh p l e h s m args below meth c H locs Q (F0 m (pc + 3) ls (v :: rest))) : Wh p l e h s m args below meth c H locs Q (F0 m pc ls (.ref a :: rest)) := fGet (C := RX0) (T := TX0) (N := 9) (k := 4) X inT0 rfl (by decide) mw_156 hP he hv hdg kk
theorem fgX0_38 {q0 : Nat} {fs : List Value} {v : Value} (X : Bx p s m args meth c cc nL ret RX0 D cI aS A) (hP : va_P D vwCl ws H) (he : ws[q0]? = some (a, .inr (0, fs))) (hv : fs[7]? = some v) (hdg : decode cc pc = .ok (.getfield 38, 3)) (kk : Wh p l e h s m args below meth c H locs Q (F0 m (pc + 3) ls (v :: rest))) : Wh p l e h s m args below meth c H locs Q (F0 m pc ls (.ref a :: rest)) := fGet (C := RX0) (T := TX0) (N := 9) (k := 7) X inT0 rfl (by decide) mw_163 hP he hv hdg kk
theorem fgX0_32 {q0 : Nat} {fs : List Value} {v : Value} (X : Bx p s m args meth c cc nL ret RX0 D cI aS A) (hP : va_P D vwCl ws H) (he : ws[q0]? = some (a, .inr (0, fs))) (hv : fs[5]? = some v) (hdg : decode cc pc = .ok (.getfield 32, 3)) (kk : Wh p l e h s m args below meth c H locs Q (F0 m (pc + 3) ls (v :: rest))) : Wh p l e h s m args below meth c H locs Q (F0 m pc ls (.ref a :: rest)) := fGet (C := RX0) (T := TX0) (N := 9) (k := 5) X inT0 rfl (by decide) mw_158 hP he hv hdg kk
theorem fgX0_35 {q0 : Nat} {fs : List Value} {v : Value} (X : Bx p s m args meth c cc nL ret RX0 D cI aS A) (hP : va_P D vwCl ws H) (he : ws[q0]? = some (a, .inr (0, fs))) (hv : fs[6]? = some v) (hdg : decode cc pc = .ok (.getfield 35, 3)) (kk : Wh p l e h s m args below meth c H locs Q (F0 m (pc + 3) ls (v :: rest))) : Wh p l e h s m args below meth c H locs Q (F0 m pc ls (.ref a :: rest)) := fGet (C := RX0) (T := TX0) (N := 9) (k := 6) X inT0 rfl (by decide) mw_161 hP he hv hdg kk
theorem lkX0_73 : LkV RX0 73 yX0_isWriting RX0 cX0_isWriting 2 (some .boolean) 1 := ⟨mw_477, mw_479, mw_20, mw_103, mw_480, ⟨rfl, by decide, by decide, by decide +kernel⟩, by decide⟩
theorem fgX0_14 {q0 : Nat} {fs : List Value} {v : Value} (X : Bx p s m args meth c cc nL ret RX0 D cI aS A) (hP : va_P D vwCl ws H) (he : ws[q0]? = some (a, .inr (0, fs))) (hv : fs[0]? = some v) (hdg : decode cc pc = .ok (.getfield 14, 3)) (kk : Wh p l e h s m args below meth c H locs Q (F0 m (pc + 3) ls (v :: rest))) : Wh p l e h s m args below meth c H locs Q (F0 m pc ls (.ref a :: rest)) := fGet (C := RX0) (T := TX0) (N := 9) (k := 0) X inT0 rfl (by decide) mw_148 hP he hv hdg kk
theorem fgX0_20 {q0 : Nat} {fs : List Value} {v : Value} (X : Bx p s m args meth c cc nL ret RX0 D cI aS A) (hP : va_P D vwCl ws H) (he : ws[q0]? = some (a, .inr (0, fs))) (hv : fs[1]? = some v) (hdg : decode cc pc = .ok (.getfield 20, 3)) (kk : Wh p l e h s m args below meth c H locs Q (F0 m (pc + 3) ls (v :: rest))) : Wh p l e h s m args below meth c H locs Q (F0 m pc ls (.ref a :: rest)) := fGet (C := RX0) (T := TX0) (N := 9) (k := 1) X inT0 rfl (by decide) mw_150 hP he hv hdg kk
theorem fgX0_23 {q0 : Nat} {fs : List Value} {v : Value} (X : Bx p s m args meth c cc nL ret RX0 D cI aS A) (hP : va_P D vwCl ws H) (he : ws[q0]? = some (a, .inr (0, fs))) (hv : fs[2]? = some v) (hdg : decode cc pc = .ok (.getfield 23, 3)) (kk : Wh p l e h s m args below meth c H locs Q (F0 m (pc + 3) ls (v :: rest))) : Wh p l e h s m args below meth c H locs Q (F0 m pc ls (.ref a :: rest)) := fGet (C := RX0) (T := TX0) (N := 9) (k := 2) X inT0 rfl (by decide) mw_152 hP he hv hdg kk
theorem fpX0_38 {q0 : Nat} {fs : List Value} {v : Value} (X : Bx p s m args meth c cc nL ret RX0 D cI aS A) (hP : va_P D vwCl ws H) (hD : va_D A ws) (hS : va_S A s.heap H locs) (he : ws[q0]? = some (a, .inr (0, fs))) (hn : narrow (tyX0 7) v = v) (hfit : fits (tyX0 7) v = true) (hl : 7 < fs.length) (hws : ws.set q0 (a, .inr (0, fs.set 7 v)) = ws') (hdg : decode cc pc = .ok (.putfield 38, 3)) (kk : ∀ (H1 : Heap) (locs1 : List Loc), va_P D vwCl ws' H1 → va_D A ws' → va_S A s.heap H1 locs1 → Wh p l e h s m args below meth c H1 locs1 Q (F0 m (pc + 3) ls rest)) : Wh p l e h s m args below meth c H locs Q (F0 m pc ls (v :: .ref a :: rest)) := fPut (C := RX0) (T := TX0) (N := 9) (k := 7) X inT0 tyX0_ok nmX0 rfl (by decide) mw_163 rfl hP hD hS he hn hfit hl hws hdg kk
theorem lkX0_53 : LkV RX0 53 yX0_tellEnders RX0 cX0_tellEnders 4 none 0 := ⟨mw_472, mw_474, mw_19, mw_103, mw_475, ⟨rfl, by decide, by decide, by decide +kernel⟩, by decide⟩
theorem fgX0_42 {q0 : Nat} {fs : List Value} {v : Value} (X : Bx p s m args meth c cc nL ret RX0 D cI aS A) (hP : va_P D vwCl ws H) (he : ws[q0]? = some (a, .inr (0, fs))) (hv : fs[8]? = some v) (hdg : decode cc pc = .ok (.getfield 42, 3)) (kk : Wh p l e h s m args below meth c H locs Q (F0 m (pc + 3) ls (v :: rest))) : Wh p l e h s m args below meth c H locs Q (F0 m pc ls (.ref a :: rest)) := fGet (C := RX0) (T := TX0) (N := 9) (k := 8) X inT0 rfl (by decide) mw_166 hP he hv hdg kk
theorem lkX0_76 : LkSN RX0 76 yX4_opensWith RX4 cX4_opensWith 2 (some .int) 2 := ⟨mw_505, mw_506, mw_102, mw_507, ⟨by decide, by decide, by decide +kernel⟩, by decide⟩
theorem lkX0_82 : LkSN RX0 82 yX4_endOfKind RX4 cX4_endOfKind 6 (some .int) 3 := ⟨mw_508, mw_509, mw_102, mw_510, ⟨by decide, by decide, by decide +kernel⟩, by decide⟩
theorem lkX0_92 : LkSN RX0 92 yX4_worthBetween RX4 cX4_worthBetween 4 (some .int) 2 := ⟨mw_511, mw_512, mw_102, mw_513, ⟨by decide, by decide, by decide +kernel⟩, by decide⟩
theorem lkX0_86 : LkV RX0 86 yX0_isEnded RX0 cX0_isEnded 2 (some .boolean) 1 := ⟨mw_561, mw_563, mw_33, mw_103, mw_564, ⟨rfl, by decide, by decide, by decide +kernel⟩, by decide⟩
theorem lkX0_95 : LkV RX0 95 yX0_worthEndedBy RX0 cX0_worthEndedBy 5 (some .int) 2 := ⟨mw_501, mw_503, mw_26, mw_103, mw_504, ⟨rfl, by decide, by decide, by decide +kernel⟩, by decide⟩
theorem lkX0_98 : LkV RX0 98 yX0_worthOf RX0 cX0_worthOf 2 (some .int) 1 := ⟨mw_639, mw_572, mw_35, mw_103, mw_573, ⟨rfl, by decide, by decide, by decide +kernel⟩, by decide⟩
theorem lkX0_104 : LkV RX0 104 yX0_addFame RX0 cX0_addFame 3 none 2 := ⟨mw_514, mw_516, mw_27, mw_103, mw_517, ⟨rfl, by decide, by decide, by decide +kernel⟩, by decide⟩
theorem lkX0_107 : LkSN RX0 107 yX4_gainOfKind RX4 cX4_gainOfKind 4 (some .int) 1 := ⟨mw_520, mw_521, mw_102, mw_522, ⟨by decide, by decide, by decide +kernel⟩, by decide⟩
theorem lkX0_64 : LkV RX0 64 yX0_placeOf RX0 cX0_placeOf 3 (some .int) 1 := ⟨mw_485, mw_487, mw_22, mw_103, mw_488, ⟨rfl, by decide, by decide, by decide +kernel⟩, by decide⟩
theorem lkX0_79 : LkV RX0 79 yX0_opensOf RX0 cX0_opensOf 2 (some .int) 1 := ⟨mw_565, mw_555, mw_31, mw_103, mw_556, ⟨rfl, by decide, by decide, by decide +kernel⟩, by decide⟩
theorem lkX0_89 : LkV RX0 89 yX0_endBy RX0 cX0_endBy 3 (some .int) 2 := ⟨mw_566, mw_568, mw_34, mw_103, mw_569, ⟨rfl, by decide, by decide, by decide +kernel⟩, by decide⟩
theorem lkX0_56 : LkV RX0 56 yX0_has RX0 cX0_has 2 (some .boolean) 1 := ⟨mw_453, mw_455, mw_15, mw_103, mw_456, ⟨rfl, by decide, by decide, by decide +kernel⟩, by decide⟩
theorem fpX0_42 {q0 : Nat} {fs : List Value} {v : Value} (X : Bx p s m args meth c cc nL ret RX0 D cI aS A) (hP : va_P D vwCl ws H) (hD : va_D A ws) (hS : va_S A s.heap H locs) (he : ws[q0]? = some (a, .inr (0, fs))) (hn : narrow (tyX0 8) v = v) (hfit : fits (tyX0 8) v = true) (hl : 8 < fs.length) (hws : ws.set q0 (a, .inr (0, fs.set 8 v)) = ws') (hdg : decode cc pc = .ok (.putfield 42, 3)) (kk : ∀ (H1 : Heap) (locs1 : List Loc), va_P D vwCl ws' H1 → va_D A ws' → va_S A s.heap H1 locs1 → Wh p l e h s m args below meth c H1 locs1 Q (F0 m (pc + 3) ls rest)) : Wh p l e h s m args below meth c H locs Q (F0 m pc ls (v :: .ref a :: rest)) := fPut (C := RX0) (T := TX0) (N := 9) (k := 8) X inT0 tyX0_ok nmX0 rfl (by decide) mw_166 rfl hP hD hS he hn hfit hl hws hdg kk
theorem lkX0_101 : LkV RX0 101 yX0_bookIsRead RX0 cX0_bookIsRead 3 none 1 := ⟨mw_497, mw_499, mw_25, mw_103, mw_500, ⟨rfl, by decide, by decide, by decide +kernel⟩, by decide⟩
theorem fgX3_7 {q0 : Nat} {fs : List Value} {v : Value} (X : Bx p s m args meth c cc nL ret RX3 D cI aS A) (hP : va_P D vwCl ws H) (he : ws[q0]? = some (a, .inr (3, fs))) (hv : fs[1]? = some v) (hdg : decode cc pc = .ok (.getfield 7, 3)) (kk : Wh p l e h s m args below meth c H locs Q (F0 m (pc + 3) ls (v :: rest))) : Wh p l e h s m args below meth c H locs Q (F0 m pc ls (.ref a :: rest)) := fGet (C := RX3) (T := TX3) (N := 2) (k := 1) X inT3 rfl (by decide) mw_139 hP he hv hdg kk
theorem fpX3_7 {q0 : Nat} {fs : List Value} {v : Value} (X : Bx p s m args meth c cc nL ret RX3 D cI aS A) (hP : va_P D vwCl ws H) (hD : va_D A ws) (hS : va_S A s.heap H locs) (he : ws[q0]? = some (a, .inr (3, fs))) (hn : narrow (tyX3 1) v = v) (hfit : fits (tyX3 1) v = true) (hl : 1 < fs.length) (hws : ws.set q0 (a, .inr (3, fs.set 1 v)) = ws') (hdg : decode cc pc = .ok (.putfield 7, 3)) (kk : ∀ (H1 : Heap) (locs1 : List Loc), va_P D vwCl ws' H1 → va_D A ws' → va_S A s.heap H1 locs1 → Wh p l e h s m args below meth c H1 locs1 Q (F0 m (pc + 3) ls rest)) : Wh p l e h s m args below meth c H locs Q (F0 m pc ls (v :: .ref a :: rest)) := fPut (C := RX3) (T := TX3) (N := 2) (k := 1) X inT3 tyX3_ok nmX3 rfl (by decide) mw_139 rfl hP hD hS he hn hfit hl hws hdg kk
theorem lkX0_45 : LkN RX0 45 yX3_take RX4 RX3 cX3_take 3 none 1 := ⟨mw_440, mw_442, mw_12, mw_104, mw_443, ⟨by decide, by decide, by decide +kernel⟩, by decide⟩
theorem fgX1_14 {q0 : Nat} {fs : List Value} {v : Value} (X : Bx p s m args meth c cc nL ret RX1 D cI aS A) (hP : va_P D vwCl ws H) (he : ws[q0]? = some (a, .inr (1, fs))) (hv : fs[0]? = some v) (hdg : decode cc pc = .ok (.getfield 14, 3)) (kk : Wh p l e h s m args below meth c H locs Q (F0 m (pc + 3) ls (v :: rest))) : Wh p l e h s m args below meth c H locs Q (F0 m pc ls (.ref a :: rest)) := fGet (C := RX1) (T := TX1) (N := 1) (k := 0) X inT1 rfl (by decide) mw_195 hP he hv hdg kk
theorem lkX1_52 : LkN RX1 52 yX3_get RX4 RX3 cX3_get 2 (some .int) 1 := ⟨mw_299, mw_275, mw_1, mw_104, mw_276, ⟨by decide, by decide, by decide +kernel⟩, by decide⟩
theorem ljX1_76 : LkV RX1 76 yJ0_indexOf_0f7a4 RJ0 cJ0_indexOf_0f7a4 2 (some .int) 1 := ⟨mw_367, mw_368, mw_369, mw_109, mw_370, ⟨rfl, by decide, by decide, by decide +kernel⟩, by decide⟩
theorem fgX1_20 {q0 : Nat} {fs : List Value} {v : Value} (X : Bx p s m args meth c cc nL ret RX1 D cI aS A) (hP : va_P D vwCl ws H) (he : ws[q0]? = some (a, .inr (3, fs))) (hv : fs[1]? = some v) (hdg : decode cc pc = .ok (.getfield 20, 3)) (kk : Wh p l e h s m args below meth c H locs Q (F0 m (pc + 3) ls (v :: rest))) : Wh p l e h s m args below meth c H locs Q (F0 m pc ls (.ref a :: rest)) := fGetN (C := RX3) (T := TX3) (N := 2) (k := 1) X inT3 rfl (by decide) mw_140 hP he hv hdg kk
theorem lkX1_71 : LkV RX1 71 yX1_digitAt RX1 cX1_digitAt 2 (some .int) 1 := ⟨mw_424, mw_426, mw_9, mw_106, mw_427, ⟨rfl, by decide, by decide, by decide +kernel⟩, by decide⟩
theorem lkX1_68 : LkV RX1 68 yX1_kindAt RX1 cX1_kindAt 2 (some .int) 1 := ⟨mw_362, mw_364, mw_8, mw_106, mw_365, ⟨rfl, by decide, by decide, by decide +kernel⟩, by decide⟩
theorem ljX1_38 : LkV RX1 38 yJ0_length_8abf5 RJ0 cJ0_length_8abf5 1 (some .int) 0 := ⟨mw_310, mw_311, mw_312, mw_109, mw_313, ⟨rfl, by decide, by decide, by decide +kernel⟩, by decide⟩
theorem ljX1_42 : LkV RX1 42 yJ0_charAt_5068e RJ0 cJ0_charAt_5068e 2 (some .char) 1 := ⟨mw_320, mw_321, mw_322, mw_109, mw_323, ⟨rfl, by decide, by decide, by decide +kernel⟩, by decide⟩
theorem lkX1_46 : LkV RX1 46 yX1_fits RX1 cX1_fits 4 (some .boolean) 2 := ⟨mw_358, mw_360, mw_7, mw_106, mw_361, ⟨rfl, by decide, by decide, by decide +kernel⟩, by decide⟩
theorem lkX1_24 : LkV RX1 24 yX1_shapeAt RX1 cX1_shapeAt 2 (some (.object "java/lang/String")) 1 := ⟨mw_294, mw_296, mw_5, mw_106, mw_297, ⟨rfl, by decide, by decide, by decide +kernel⟩, by decide⟩
theorem lkX1_28 : LkV RX1 28 yX1_howManyFit RX1 cX1_howManyFit 4 (some .int) 2 := ⟨mw_306, mw_308, mw_6, mw_106, mw_309, ⟨rfl, by decide, by decide, by decide +kernel⟩, by decide⟩
theorem ljX1_32 : LkV RX1 32 yJ0_isEmpty_aae02 RJ0 cJ0_isEmpty_aae02 1 (some .boolean) 0 := ⟨mw_428, mw_429, mw_430, mw_109, mw_431, ⟨rfl, by decide, by decide, by decide +kernel⟩, by decide⟩
theorem fgX2_33 {q0 : Nat} {fs : List Value} {v : Value} (X : Bx p s m args meth c cc nL ret RX2 D cI aS A) (hP : va_P D vwCl ws H) (he : ws[q0]? = some (a, .inr (2, fs))) (hv : fs[5]? = some v) (hdg : decode cc pc = .ok (.getfield 33, 3)) (kk : Wh p l e h s m args below meth c H locs Q (F0 m (pc + 3) ls (v :: rest))) : Wh p l e h s m args below meth c H locs Q (F0 m pc ls (.ref a :: rest)) := fGet (C := RX2) (T := TX2) (N := 7) (k := 5) X inT2 rfl (by decide) mw_216 hP he hv hdg kk
theorem fpX2_33 {q0 : Nat} {fs : List Value} {v : Value} (X : Bx p s m args meth c cc nL ret RX2 D cI aS A) (hP : va_P D vwCl ws H) (hD : va_D A ws) (hS : va_S A s.heap H locs) (he : ws[q0]? = some (a, .inr (2, fs))) (hn : narrow (tyX2 5) v = v) (hfit : fits (tyX2 5) v = true) (hl : 5 < fs.length) (hws : ws.set q0 (a, .inr (2, fs.set 5 v)) = ws') (hdg : decode cc pc = .ok (.putfield 33, 3)) (kk : ∀ (H1 : Heap) (locs1 : List Loc), va_P D vwCl ws' H1 → va_D A ws' → va_S A s.heap H1 locs1 → Wh p l e h s m args below meth c H1 locs1 Q (F0 m (pc + 3) ls rest)) : Wh p l e h s m args below meth c H locs Q (F0 m pc ls (v :: .ref a :: rest)) := fPut (C := RX2) (T := TX2) (N := 7) (k := 5) X inT2 tyX2_ok nmX2 rfl (by decide) mw_216 rfl hP hD hS he hn hfit hl hws hdg kk
theorem fpX2_37 {q0 : Nat} {fs : List Value} {v : Value} (X : Bx p s m args meth c cc nL ret RX2 D cI aS A) (hP : va_P D vwCl ws H) (hD : va_D A ws) (hS : va_S A s.heap H locs) (he : ws[q0]? = some (a, .inr (2, fs))) (hn : narrow (tyX2 6) v = v) (hfit : fits (tyX2 6) v = true) (hl : 6 < fs.length) (hws : ws.set q0 (a, .inr (2, fs.set 6 v)) = ws') (hdg : decode cc pc = .ok (.putfield 37, 3)) (kk : ∀ (H1 : Heap) (locs1 : List Loc), va_P D vwCl ws' H1 → va_D A ws' → va_S A s.heap H1 locs1 → Wh p l e h s m args below meth c H1 locs1 Q (F0 m (pc + 3) ls rest)) : Wh p l e h s m args below meth c H locs Q (F0 m pc ls (v :: .ref a :: rest)) := fPut (C := RX2) (T := TX2) (N := 7) (k := 6) X inT2 tyX2_ok nmX2 rfl (by decide) mw_217 rfl hP hD hS he hn hfit hl hws hdg kk
theorem fgX2_23 {q0 : Nat} {fs : List Value} {v : Value} (X : Bx p s m args meth c cc nL ret RX2 D cI aS A) (hP : va_P D vwCl ws H) (he : ws[q0]? = some (a, .inr (2, fs))) (hv : fs[2]? = some v) (hdg : decode cc pc = .ok (.getfield 23, 3)) (kk : Wh p l e h s m args below meth c H locs Q (F0 m (pc + 3) ls (v :: rest))) : Wh p l e h s m args below meth c H locs Q (F0 m pc ls (.ref a :: rest)) := fGet (C := RX2) (T := TX2) (N := 7) (k := 2) X inT2 rfl (by decide) mw_212 hP he hv hdg kk
theorem fgX2_20 {q0 : Nat} {fs : List Value} {v : Value} (X : Bx p s m args meth c cc nL ret RX2 D cI aS A) (hP : va_P D vwCl ws H) (he : ws[q0]? = some (a, .inr (2, fs))) (hv : fs[1]? = some v) (hdg : decode cc pc = .ok (.getfield 20, 3)) (kk : Wh p l e h s m args below meth c H locs Q (F0 m (pc + 3) ls (v :: rest))) : Wh p l e h s m args below meth c H locs Q (F0 m pc ls (.ref a :: rest)) := fGet (C := RX2) (T := TX2) (N := 7) (k := 1) X inT2 rfl (by decide) mw_211 hP he hv hdg kk
theorem lkX2_75 : LkN RX2 75 yX3_take RX4 RX3 cX3_take 3 none 1 := ⟨mw_715, mw_442, mw_12, mw_104, mw_443, ⟨by decide, by decide, by decide +kernel⟩, by decide⟩
theorem fgX2_37 {q0 : Nat} {fs : List Value} {v : Value} (X : Bx p s m args meth c cc nL ret RX2 D cI aS A) (hP : va_P D vwCl ws H) (he : ws[q0]? = some (a, .inr (2, fs))) (hv : fs[6]? = some v) (hdg : decode cc pc = .ok (.getfield 37, 3)) (kk : Wh p l e h s m args below meth c H locs Q (F0 m (pc + 3) ls (v :: rest))) : Wh p l e h s m args below meth c H locs Q (F0 m pc ls (.ref a :: rest)) := fGet (C := RX2) (T := TX2) (N := 7) (k := 6) X inT2 rfl (by decide) mw_217 hP he hv hdg kk
theorem fgX2_14 {q0 : Nat} {fs : List Value} {v : Value} (X : Bx p s m args meth c cc nL ret RX2 D cI aS A) (hP : va_P D vwCl ws H) (he : ws[q0]? = some (a, .inr (2, fs))) (hv : fs[0]? = some v) (hdg : decode cc pc = .ok (.getfield 14, 3)) (kk : Wh p l e h s m args below meth c H locs Q (F0 m (pc + 3) ls (v :: rest))) : Wh p l e h s m args below meth c H locs Q (F0 m pc ls (.ref a :: rest)) := fGet (C := RX2) (T := TX2) (N := 7) (k := 0) X inT2 rfl (by decide) mw_210 hP he hv hdg kk
theorem lkX2_57 : LkN RX2 57 yX3_get RX4 RX3 cX3_get 2 (some .int) 1 := ⟨mw_701, mw_275, mw_1, mw_104, mw_276, ⟨by decide, by decide, by decide +kernel⟩, by decide⟩
theorem fgX2_26 {q0 : Nat} {fs : List Value} {v : Value} (X : Bx p s m args meth c cc nL ret RX2 D cI aS A) (hP : va_P D vwCl ws H) (he : ws[q0]? = some (a, .inr (2, fs))) (hv : fs[3]? = some v) (hdg : decode cc pc = .ok (.getfield 26, 3)) (kk : Wh p l e h s m args below meth c H locs Q (F0 m (pc + 3) ls (v :: rest))) : Wh p l e h s m args below meth c H locs Q (F0 m pc ls (.ref a :: rest)) := fGet (C := RX2) (T := TX2) (N := 7) (k := 3) X inT2 rfl (by decide) mw_214 hP he hv hdg kk
theorem lkX2_50 : LkN RX2 50 yX3_set RX4 RX3 cX3_set 3 none 2 := ⟨mw_700, mw_279, mw_2, mw_104, mw_280, ⟨by decide, by decide, by decide +kernel⟩, by decide⟩
theorem fgX2_30 {q0 : Nat} {fs : List Value} {v : Value} (X : Bx p s m args meth c cc nL ret RX2 D cI aS A) (hP : va_P D vwCl ws H) (he : ws[q0]? = some (a, .inr (2, fs))) (hv : fs[4]? = some v) (hdg : decode cc pc = .ok (.getfield 30, 3)) (kk : Wh p l e h s m args below meth c H locs Q (F0 m (pc + 3) ls (v :: rest))) : Wh p l e h s m args below meth c H locs Q (F0 m pc ls (.ref a :: rest)) := fGet (C := RX2) (T := TX2) (N := 7) (k := 4) X inT2 rfl (by decide) mw_215 hP he hv hdg kk
theorem lkX2_69 : LkV RX2 69 yX2_worthEnded RX2 cX2_worthEnded 3 (some .int) 2 := ⟨mw_707, mw_709, mw_46, mw_107, mw_710, ⟨rfl, by decide, by decide, by decide +kernel⟩, by decide⟩
theorem lkX2_65 : LkV RX2 65 yX2_placeNext RX2 cX2_placeNext 8 none 5 := ⟨mw_703, mw_705, mw_45, mw_107, mw_706, ⟨rfl, by decide, by decide, by decide +kernel⟩, by decide⟩
theorem lkX2_72 : LkV RX2 72 yX2_keepIfBetter RX2 cX2_keepIfBetter 2 none 1 := ⟨mw_711, mw_713, mw_47, mw_107, mw_714, ⟨rfl, by decide, by decide, by decide +kernel⟩, by decide⟩
theorem fgX2_40 {q0 : Nat} {fs : List Value} {v : Value} (X : Bx p s m args meth c cc nL ret RX2 D cI aS A) (hP : va_P D vwCl ws H) (he : ws[q0]? = some (a, .inr (0, fs))) (hv : fs[7]? = some v) (hdg : decode cc pc = .ok (.getfield 40, 3)) (kk : Wh p l e h s m args below meth c H locs Q (F0 m (pc + 3) ls (v :: rest))) : Wh p l e h s m args below meth c H locs Q (F0 m pc ls (.ref a :: rest)) := fGetN (C := RX0) (T := TX0) (N := 9) (k := 7) X inT0 rfl (by decide) mw_164 hP he hv hdg kk
theorem fpX2_26 {q0 : Nat} {fs : List Value} {v : Value} (X : Bx p s m args meth c cc nL ret RX2 D cI aS A) (hP : va_P D vwCl ws H) (hD : va_D A ws) (hS : va_S A s.heap H locs) (he : ws[q0]? = some (a, .inr (2, fs))) (hn : narrow (tyX2 3) v = v) (hfit : fits (tyX2 3) v = true) (hl : 3 < fs.length) (hws : ws.set q0 (a, .inr (2, fs.set 3 v)) = ws') (hdg : decode cc pc = .ok (.putfield 26, 3)) (kk : ∀ (H1 : Heap) (locs1 : List Loc), va_P D vwCl ws' H1 → va_D A ws' → va_S A s.heap H1 locs1 → Wh p l e h s m args below meth c H1 locs1 Q (F0 m (pc + 3) ls rest)) : Wh p l e h s m args below meth c H locs Q (F0 m pc ls (v :: .ref a :: rest)) := fPut (C := RX2) (T := TX2) (N := 7) (k := 3) X inT2 tyX2_ok nmX2 rfl (by decide) mw_214 rfl hP hD hS he hn hfit hl hws hdg kk
theorem lkX2_43 : LkN RX2 43 yX0_writingBits RX4 RX0 cX0_writingBits 3 (some .int) 0 := ⟨mw_695, mw_697, mw_44, mw_103, mw_698, ⟨by decide, by decide, by decide +kernel⟩, by decide⟩
theorem fpX2_30 {q0 : Nat} {fs : List Value} {v : Value} (X : Bx p s m args meth c cc nL ret RX2 D cI aS A) (hP : va_P D vwCl ws H) (hD : va_D A ws) (hS : va_S A s.heap H locs) (he : ws[q0]? = some (a, .inr (2, fs))) (hn : narrow (tyX2 4) v = v) (hfit : fits (tyX2 4) v = true) (hl : 4 < fs.length) (hws : ws.set q0 (a, .inr (2, fs.set 4 v)) = ws') (hdg : decode cc pc = .ok (.putfield 30, 3)) (kk : ∀ (H1 : Heap) (locs1 : List Loc), va_P D vwCl ws' H1 → va_D A ws' → va_S A s.heap H1 locs1 → Wh p l e h s m args below meth c H1 locs1 Q (F0 m (pc + 3) ls rest)) : Wh p l e h s m args below meth c H locs Q (F0 m pc ls (v :: .ref a :: rest)) := fPut (C := RX2) (T := TX2) (N := 7) (k := 4) X inT2 tyX2_ok nmX2 rfl (by decide) mw_215 rfl hP hD hS he hn hfit hl hws hdg kk
theorem lkX2_46 : LkN RX2 46 yX0_worthEndedBy RX4 RX0 cX0_worthEndedBy 5 (some .int) 2 := ⟨mw_699, mw_503, mw_26, mw_103, mw_504, ⟨by decide, by decide, by decide +kernel⟩, by decide⟩
theorem fgX2_54 {q0 : Nat} {fs : List Value} {v : Value} (X : Bx p s m args meth c cc nL ret RX2 D cI aS A) (hP : va_P D vwCl ws H) (he : ws[q0]? = some (a, .inr (0, fs))) (hv : fs[5]? = some v) (hdg : decode cc pc = .ok (.getfield 54, 3)) (kk : Wh p l e h s m args below meth c H locs Q (F0 m (pc + 3) ls (v :: rest))) : Wh p l e h s m args below meth c H locs Q (F0 m pc ls (.ref a :: rest)) := fGetN (C := RX0) (T := TX0) (N := 9) (k := 5) X inT0 rfl (by decide) mw_159 hP he hv hdg kk
theorem lkX2_61 : LkN RX2 61 yX0_isWriting RX4 RX0 cX0_isWriting 2 (some .boolean) 1 := ⟨mw_702, mw_479, mw_20, mw_103, mw_480, ⟨by decide, by decide, by decide +kernel⟩, by decide⟩
theorem lkX3_23 : LkV RX3 23 yX3_set RX3 cX3_set 3 none 2 := ⟨mw_285, mw_279, mw_2, mw_104, mw_280, ⟨rfl, by decide, by decide, by decide +kernel⟩, by decide⟩
theorem fgX4_29 {q0 : Nat} {fs : List Value} {v : Value} (X : Bx p s m args meth c cc nL ret RX4 D cI aS A) (hP : va_P D vwCl ws H) (he : ws[q0]? = some (a, .inr (4, fs))) (hv : fs[4]? = some v) (hdg : decode cc pc = .ok (.getfield 29, 3)) (kk : Wh p l e h s m args below meth c H locs Q (F0 m (pc + 3) ls (v :: rest))) : Wh p l e h s m args below meth c H locs Q (F0 m pc ls (.ref a :: rest)) := fGet (C := RX4) (T := TX4) (N := 10) (k := 4) X inT4 rfl (by decide) mw_238 hP he hv hdg kk
theorem lkX4_102 : LkN RX4 102 yX1_digitAt RX4 RX1 cX1_digitAt 2 (some .int) 1 := ⟨mw_448, mw_426, mw_9, mw_106, mw_427, ⟨by decide, by decide, by decide +kernel⟩, by decide⟩
theorem fgX4_62 {q0 : Nat} {fs : List Value} {v : Value} (X : Bx p s m args meth c cc nL ret RX4 D cI aS A) (hP : va_P D vwCl ws H) (he : ws[q0]? = some (a, .inr (1, fs))) (hv : fs[0]? = some v) (hdg : decode cc pc = .ok (.getfield 62, 3)) (kk : Wh p l e h s m args below meth c H locs Q (F0 m (pc + 3) ls (v :: rest))) : Wh p l e h s m args below meth c H locs Q (F0 m pc ls (.ref a :: rest)) := fGetN (C := RX1) (T := TX1) (N := 1) (k := 0) X inT1 rfl (by decide) mw_196 hP he hv hdg kk
theorem lkX4_105 : LkN RX4 105 yX3_get RX4 RX3 cX3_get 2 (some .int) 1 := ⟨mw_273, mw_275, mw_1, mw_104, mw_276, ⟨by decide, by decide, by decide +kernel⟩, by decide⟩
theorem fgX4_16 {q0 : Nat} {fs : List Value} {v : Value} (X : Bx p s m args meth c cc nL ret RX4 D cI aS A) (hP : va_P D vwCl ws H) (he : ws[q0]? = some (a, .inr (4, fs))) (hv : fs[1]? = some v) (hdg : decode cc pc = .ok (.getfield 16, 3)) (kk : Wh p l e h s m args below meth c H locs Q (F0 m (pc + 3) ls (v :: rest))) : Wh p l e h s m args below meth c H locs Q (F0 m pc ls (.ref a :: rest)) := fGet (C := RX4) (T := TX4) (N := 10) (k := 1) X inT4 rfl (by decide) mw_235 hP he hv hdg kk
theorem fgX4_108 {q0 : Nat} {fs : List Value} {v : Value} (X : Bx p s m args meth c cc nL ret RX4 D cI aS A) (hP : va_P D vwCl ws H) (he : ws[q0]? = some (a, .inr (0, fs))) (hv : fs[7]? = some v) (hdg : decode cc pc = .ok (.getfield 108, 3)) (kk : Wh p l e h s m args below meth c H locs Q (F0 m (pc + 3) ls (v :: rest))) : Wh p l e h s m args below meth c H locs Q (F0 m pc ls (.ref a :: rest)) := fGetN (C := RX0) (T := TX0) (N := 9) (k := 7) X inT0 rfl (by decide) mw_165 hP he hv hdg kk
theorem lkX4_109 : LkN RX4 109 yX0_hasTwo RX4 RX0 cX0_hasTwo 3 (some .boolean) 2 := ⟨mw_449, mw_451, mw_14, mw_103, mw_452, ⟨by decide, by decide, by decide +kernel⟩, by decide⟩
theorem lkX4_113 : LkN RX4 113 yX0_hasRoomFor RX4 RX0 cX0_hasRoomFor 2 (some .boolean) 1 := ⟨mw_457, mw_459, mw_16, mw_103, mw_460, ⟨by decide, by decide, by decide +kernel⟩, by decide⟩
theorem lkX4_116 : LkN RX4 116 yX0_has RX4 RX0 cX0_has 2 (some .boolean) 1 := ⟨mw_461, mw_455, mw_15, mw_103, mw_456, ⟨by decide, by decide, by decide +kernel⟩, by decide⟩
theorem fgX4_139 {q0 : Nat} {fs : List Value} {v : Value} (X : Bx p s m args meth c cc nL ret RX4 D cI aS A) (hP : va_P D vwCl ws H) (he : ws[q0]? = some (a, .inr (0, fs))) (hv : fs[3]? = some v) (hdg : decode cc pc = .ok (.getfield 139, 3)) (kk : Wh p l e h s m args below meth c H locs Q (F0 m (pc + 3) ls (v :: rest))) : Wh p l e h s m args below meth c H locs Q (F0 m pc ls (.ref a :: rest)) := fGetN (C := RX0) (T := TX0) (N := 9) (k := 3) X inT0 rfl (by decide) mw_155 hP he hv hdg kk
theorem lkX4_136 : LkN RX4 136 yX3_set RX4 RX3 cX3_set 3 none 2 := ⟨mw_277, mw_279, mw_2, mw_104, mw_280, ⟨by decide, by decide, by decide +kernel⟩, by decide⟩
theorem lkX4_130 : LkN RX4 130 yX0_toggleWriting RX4 RX0 cX0_toggleWriting 2 none 1 := ⟨mw_489, mw_491, mw_23, mw_103, mw_492, ⟨by decide, by decide, by decide +kernel⟩, by decide⟩
theorem fgX4_133 {q0 : Nat} {fs : List Value} {v : Value} (X : Bx p s m args meth c cc nL ret RX4 D cI aS A) (hP : va_P D vwCl ws H) (he : ws[q0]? = some (a, .inr (0, fs))) (hv : fs[2]? = some v) (hdg : decode cc pc = .ok (.getfield 133, 3)) (kk : Wh p l e h s m args below meth c H locs Q (F0 m (pc + 3) ls (v :: rest))) : Wh p l e h s m args below meth c H locs Q (F0 m pc ls (.ref a :: rest)) := fGetN (C := RX0) (T := TX0) (N := 9) (k := 2) X inT0 rfl (by decide) mw_153 hP he hv hdg kk
theorem lkX4_119 : LkN RX4 119 yX1_kindAt RX4 RX1 cX1_kindAt 2 (some .int) 1 := ⟨mw_466, mw_364, mw_8, mw_106, mw_365, ⟨by decide, by decide, by decide +kernel⟩, by decide⟩
theorem lkX4_122 : LkN RX4 122 yX0_addWriter RX4 RX0 cX0_addWriter 4 none 3 := ⟨mw_467, mw_469, mw_18, mw_103, mw_470, ⟨by decide, by decide, by decide +kernel⟩, by decide⟩
theorem lkX4_126 : LkN RX4 126 yX0_swapPlaces RX4 RX0 cX0_swapPlaces 5 none 2 := ⟨mw_481, mw_483, mw_21, mw_103, mw_484, ⟨by decide, by decide, by decide +kernel⟩, by decide⟩
theorem lkX4_142 : LkN RX4 142 yX0_passYears RX4 RX0 cX0_passYears 4 none 1 := ⟨mw_493, mw_495, mw_24, mw_103, mw_496, ⟨by decide, by decide, by decide +kernel⟩, by decide⟩
theorem fgX4_10 {q0 : Nat} {fs : List Value} {v : Value} (X : Bx p s m args meth c cc nL ret RX4 D cI aS A) (hP : va_P D vwCl ws H) (he : ws[q0]? = some (a, .inr (4, fs))) (hv : fs[0]? = some v) (hdg : decode cc pc = .ok (.getfield 10, 3)) (kk : Wh p l e h s m args below meth c H locs Q (F0 m (pc + 3) ls (v :: rest))) : Wh p l e h s m args below meth c H locs Q (F0 m pc ls (.ref a :: rest)) := fGet (C := RX4) (T := TX4) (N := 10) (k := 0) X inT4 rfl (by decide) mw_234 hP he hv hdg kk
theorem lkX4_82 : LkN RX4 82 yX0_take RX4 RX0 cX0_take 2 none 1 := ⟨mw_436, mw_438, mw_11, mw_103, mw_439, ⟨by decide, by decide, by decide +kernel⟩, by decide⟩
theorem fgX4_65 {q0 : Nat} {fs : List Value} {v : Value} (X : Bx p s m args meth c cc nL ret RX4 D cI aS A) (hP : va_P D vwCl ws H) (he : ws[q0]? = some (a, .inr (3, fs))) (hv : fs[1]? = some v) (hdg : decode cc pc = .ok (.getfield 65, 3)) (kk : Wh p l e h s m args below meth c H locs Q (F0 m (pc + 3) ls (v :: rest))) : Wh p l e h s m args below meth c H locs Q (F0 m pc ls (.ref a :: rest)) := fGetN (C := RX3) (T := TX3) (N := 2) (k := 1) X inT3 rfl (by decide) mw_141 hP he hv hdg kk
theorem lkX4_86 : LkV RX4 86 yX4_isAsItMustBe RX4 cX4_isAsItMustBe 4 (some .boolean) 1 := ⟨mw_444, mw_446, mw_13, mw_102, mw_447, ⟨rfl, by decide, by decide, by decide +kernel⟩, by decide⟩
theorem lkX4_90 : LkV RX4 90 yX4_statementComes RX4 cX4_statementComes 5 none 1 := ⟨mw_462, mw_464, mw_17, mw_102, mw_465, ⟨rfl, by decide, by decide, by decide +kernel⟩, by decide⟩
theorem lkX4_93 : LkN RX4 93 yX1_shapeAt RX4 RX1 cX1_shapeAt 2 (some (.object "java/lang/String")) 1 := ⟨mw_523, mw_296, mw_5, mw_106, mw_297, ⟨by decide, by decide, by decide +kernel⟩, by decide⟩
theorem ljX4_97 : LkV RX4 97 yJ0_length_8abf5 RJ0 cJ0_length_8abf5 1 (some .int) 0 := ⟨mw_524, mw_311, mw_312, mw_109, mw_313, ⟨rfl, by decide, by decide, by decide +kernel⟩, by decide⟩
theorem lkX4_207 : LkN RX4 207 yX0_isEnded RX4 RX0 cX0_isEnded 2 (some .boolean) 1 := ⟨mw_652, mw_563, mw_33, mw_103, mw_564, ⟨by decide, by decide, by decide +kernel⟩, by decide⟩
theorem lkX4_176 : LkN RX4 176 yX0_worthOf RX4 RX0 cX0_worthOf 2 (some .int) 1 := ⟨mw_570, mw_572, mw_35, mw_103, mw_573, ⟨by decide, by decide, by decide +kernel⟩, by decide⟩
theorem lkX4_179 : LkN RX4 179 yX0_isWriting RX4 RX0 cX0_isWriting 2 (some .boolean) 1 := ⟨mw_547, mw_479, mw_20, mw_103, mw_480, ⟨by decide, by decide, by decide +kernel⟩, by decide⟩
theorem fgX4_42 {q0 : Nat} {fs : List Value} {v : Value} (X : Bx p s m args meth c cc nL ret RX4 D cI aS A) (hP : va_P D vwCl ws H) (he : ws[q0]? = some (a, .inr (4, fs))) (hv : fs[6]? = some v) (hdg : decode cc pc = .ok (.getfield 42, 3)) (kk : Wh p l e h s m args below meth c H locs Q (F0 m (pc + 3) ls (v :: rest))) : Wh p l e h s m args below meth c H locs Q (F0 m pc ls (.ref a :: rest)) := fGet (C := RX4) (T := TX4) (N := 10) (k := 6) X inT4 rfl (by decide) mw_240 hP he hv hdg kk
theorem lkX4_58 : LkV RX4 58 yX4_refused RX4 cX4_refused 2 (some .int) 1 := ⟨mw_269, mw_271, mw_0, mw_102, mw_272, ⟨rfl, by decide, by decide, by decide +kernel⟩, by decide⟩
theorem lkX4_163 : LkV RX4 163 yX4_refusalOfBook RX4 cX4_refusalOfBook 4 (some .int) 3 := ⟨mw_543, mw_545, mw_29, mw_102, mw_546, ⟨rfl, by decide, by decide, by decide +kernel⟩, by decide⟩
theorem lkX4_173 : LkN RX4 173 yX0_endsOf RX4 RX0 cX0_endsOf 2 (some .int) 1 := ⟨mw_557, mw_559, mw_32, mw_103, mw_560, ⟨by decide, by decide, by decide +kernel⟩, by decide⟩
theorem lkX4_170 : LkN RX4 170 yX0_opensOf RX4 RX0 cX0_opensOf 2 (some .int) 1 := ⟨mw_553, mw_555, mw_31, mw_103, mw_556, ⟨by decide, by decide, by decide +kernel⟩, by decide⟩
theorem lkX4_167 : LkV RX4 167 yX4_refusedAsBig RX4 cX4_refusedAsBig 2 (some .int) 1 := ⟨mw_548, mw_550, mw_30, mw_102, mw_551, ⟨rfl, by decide, by decide, by decide +kernel⟩, by decide⟩
theorem lkX4_198 : LkN RX4 198 yX0_allWorth RX4 RX0 cX0_allWorth 3 (some .int) 0 := ⟨mw_635, mw_637, mw_39, mw_103, mw_638, ⟨by decide, by decide, by decide +kernel⟩, by decide⟩
theorem fgX4_188 {q0 : Nat} {fs : List Value} {v : Value} (X : Bx p s m args meth c cc nL ret RX4 D cI aS A) (hP : va_P D vwCl ws H) (he : ws[q0]? = some (a, .inr (0, fs))) (hv : fs[8]? = some v) (hdg : decode cc pc = .ok (.getfield 188, 3)) (kk : Wh p l e h s m args below meth c H locs Q (F0 m (pc + 3) ls (v :: rest))) : Wh p l e h s m args below meth c H locs Q (F0 m pc ls (.ref a :: rest)) := fGetN (C := RX0) (T := TX0) (N := 9) (k := 8) X inT0 rfl (by decide) mw_167 hP he hv hdg kk
theorem fpX4_188 {q0 : Nat} {fs : List Value} {v : Value} (X : Bx p s m args meth c cc nL ret RX4 D cI aS A) (hP : va_P D vwCl ws H) (hD : va_D A ws) (hS : va_S A s.heap H locs) (he : ws[q0]? = some (a, .inr (0, fs))) (hn : narrow (tyX0 8) v = v) (hfit : fits (tyX0 8) v = true) (hl : 8 < fs.length) (hws : ws.set q0 (a, .inr (0, fs.set 8 v)) = ws') (hdg : decode cc pc = .ok (.putfield 188, 3)) (kk : ∀ (H1 : Heap) (locs1 : List Loc), va_P D vwCl ws' H1 → va_D A ws' → va_S A s.heap H1 locs1 → Wh p l e h s m args below meth c H1 locs1 Q (F0 m (pc + 3) ls rest)) : Wh p l e h s m args below meth c H locs Q (F0 m pc ls (v :: .ref a :: rest)) := fPutN (C := RX0) (T := TX0) (N := 9) (k := 8) X inT0 tyX0_ok nmX0 rfl (by decide) mw_167 rfl hP hD hS he hn hfit hl hws hdg kk
theorem lkX4_251 : LkS RX4 251 yX4_commonDivisor cX4_commonDivisor 11 (some .long) 2 := ⟨mw_772, mw_773, mw_102, mw_774, ⟨rfl, by decide, by decide, by decide +kernel⟩, by decide⟩
theorem lkX4_236 : LkV RX4 236 yX4_refusedAsLong RX4 cX4_refusedAsLong 2 (some .long) 1 := ⟨mw_757, mw_759, mw_50, mw_102, mw_760, ⟨rfl, by decide, by decide, by decide +kernel⟩, by decide⟩
theorem ljX4_210 : LkJS RX4 210 yJ6_bitCount_0f7a4 cJ6_bitCount_0f7a4 1 (some .int) 1 := ⟨mw_665, mw_666, mw_114, mw_667, ⟨by decide, by decide, by decide +kernel⟩, by decide⟩
theorem lkX4_240 : LkS RX4 240 yX4_weightOfFreeYears cX4_weightOfFreeYears 5 (some .long) 2 := ⟨mw_762, mw_763, mw_102, mw_764, ⟨rfl, by decide, by decide, by decide +kernel⟩, by decide⟩
theorem lkX4_244 : LkV RX4 244 yX4_fameUnderCensor RX4 cX4_fameUnderCensor 5 (some .int) 3 := ⟨mw_765, mw_767, mw_51, mw_102, mw_768, ⟨rfl, by decide, by decide, by decide +kernel⟩, by decide⟩
theorem lkX4_247 : LkS RX4 247 yX4_inLeastTerms cX4_inLeastTerms 7 (some .long) 3 := ⟨mw_769, mw_770, mw_102, mw_771, ⟨rfl, by decide, by decide, by decide +kernel⟩, by decide⟩
theorem fgX4_157 {q0 : Nat} {fs : List Value} {v : Value} (X : Bx p s m args meth c cc nL ret RX4 D cI aS A) (hP : va_P D vwCl ws H) (he : ws[q0]? = some (a, .inr (0, fs))) (hv : fs[6]? = some v) (hdg : decode cc pc = .ok (.getfield 157, 3)) (kk : Wh p l e h s m args below meth c H locs Q (F0 m (pc + 3) ls (v :: rest))) : Wh p l e h s m args below meth c H locs Q (F0 m pc ls (.ref a :: rest)) := fGetN (C := RX0) (T := TX0) (N := 9) (k := 6) X inT0 rfl (by decide) mw_162 hP he hv hdg kk
theorem lkX4_154 : LkN RX4 154 yX0_placeOf RX4 RX0 cX0_placeOf 3 (some .int) 1 := ⟨mw_534, mw_487, mw_22, mw_103, mw_488, ⟨by decide, by decide, by decide +kernel⟩, by decide⟩
theorem fgX4_38 {q0 : Nat} {fs : List Value} {v : Value} (X : Bx p s m args meth c cc nL ret RX4 D cI aS A) (hP : va_P D vwCl ws H) (he : ws[q0]? = some (a, .inr (4, fs))) (hv : fs[5]? = some v) (hdg : decode cc pc = .ok (.getfield 38, 3)) (kk : Wh p l e h s m args below meth c H locs Q (F0 m (pc + 3) ls (v :: rest))) : Wh p l e h s m args below meth c H locs Q (F0 m pc ls (.ref a :: rest)) := fGet (C := RX4) (T := TX4) (N := 10) (k := 5) X inT4 rfl (by decide) mw_239 hP he hv hdg kk
theorem lkX4_79 : LkN RX4 79 yX3_makeEmpty RX4 RX3 cX3_makeEmpty 1 none 0 := ⟨mw_525, mw_527, mw_28, mw_104, mw_528, ⟨by decide, by decide, by decide +kernel⟩, by decide⟩
theorem lkX4_273 : LkN RX4 273 yX0_writingBits RX4 RX0 cX0_writingBits 3 (some .int) 0 := ⟨mw_835, mw_697, mw_44, mw_103, mw_698, ⟨by decide, by decide, by decide +kernel⟩, by decide⟩
theorem lkX4_185 : LkN RX4 185 yX3_sumOf RX4 RX3 cX3_sumOf 4 (some .int) 1 := ⟨mw_602, mw_604, mw_37, mw_104, mw_605, ⟨by decide, by decide, by decide +kernel⟩, by decide⟩
theorem lkX4_276 : LkV RX4 276 yX4_well RX4 cX4_well 3 (some .int) 0 := ⟨mw_836, mw_641, mw_642, mw_102, mw_643, ⟨rfl, by decide, by decide, by decide +kernel⟩, by decide⟩
theorem lkX4_227 : LkN RX4 227 yX0_worthEndedBy RX4 RX0 cX0_worthEndedBy 5 (some .int) 2 := ⟨mw_732, mw_503, mw_26, mw_103, mw_504, ⟨by decide, by decide, by decide +kernel⟩, by decide⟩
theorem lkX4_182 : LkV RX4 182 yX4_refusalOfNumber RX4 cX4_refusalOfNumber 4 (some .int) 3 := ⟨mw_586, mw_588, mw_36, mw_102, mw_589, ⟨rfl, by decide, by decide, by decide +kernel⟩, by decide⟩
theorem lkX4_195 : LkN RX4 195 yX0_forgotten RX4 RX0 cX0_forgotten 2 (some .int) 0 := ⟨mw_623, mw_625, mw_38, mw_103, mw_626, ⟨by decide, by decide, by decide +kernel⟩, by decide⟩
theorem lkX4_72 : LkN RX4 72 yX1_wrongPlace RX4 RX1 cX1_wrongPlace 5 (some .int) 0 := ⟨mw_290, mw_292, mw_4, mw_106, mw_293, ⟨by decide, by decide, by decide +kernel⟩, by decide⟩
theorem lkX4_76 : LkV RX4 76 yX4_allStatementsCome RX4 cX4_allStatementsCome 3 (some .int) 0 := ⟨mw_432, mw_434, mw_10, mw_102, mw_435, ⟨rfl, by decide, by decide, by decide +kernel⟩, by decide⟩
theorem fgX4_151 {q0 : Nat} {fs : List Value} {v : Value} (X : Bx p s m args meth c cc nL ret RX4 D cI aS A) (hP : va_P D vwCl ws H) (he : ws[q0]? = some (a, .inr (0, fs))) (hv : fs[4]? = some v) (hdg : decode cc pc = .ok (.getfield 151, 3)) (kk : Wh p l e h s m args below meth c H locs Q (F0 m (pc + 3) ls (v :: rest))) : Wh p l e h s m args below meth c H locs Q (F0 m pc ls (.ref a :: rest)) := fGetN (C := RX0) (T := TX0) (N := 9) (k := 4) X inT0 rfl (by decide) mw_157 hP he hv hdg kk
theorem fgX4_19 {q0 : Nat} {fs : List Value} {v : Value} (X : Bx p s m args meth c cc nL ret RX4 D cI aS A) (hP : va_P D vwCl ws H) (he : ws[q0]? = some (a, .inr (4, fs))) (hv : fs[2]? = some v) (hdg : decode cc pc = .ok (.getfield 19, 3)) (kk : Wh p l e h s m args below meth c H locs Q (F0 m (pc + 3) ls (v :: rest))) : Wh p l e h s m args below meth c H locs Q (F0 m pc ls (.ref a :: rest)) := fGet (C := RX4) (T := TX4) (N := 10) (k := 2) X inT4 rfl (by decide) mw_236 hP he hv hdg kk
theorem fpX4_22 {q0 : Nat} {fs : List Value} {v : Value} (X : Bx p s m args meth c cc nL ret RX4 D cI aS A) (hP : va_P D vwCl ws H) (hD : va_D A ws) (hS : va_S A s.heap H locs) (he : ws[q0]? = some (a, .inr (4, fs))) (hn : narrow (tyX4 3) v = v) (hfit : fits (tyX4 3) v = true) (hl : 3 < fs.length) (hws : ws.set q0 (a, .inr (4, fs.set 3 v)) = ws') (hdg : decode cc pc = .ok (.putfield 22, 3)) (kk : ∀ (H1 : Heap) (locs1 : List Loc), va_P D vwCl ws' H1 → va_D A ws' → va_S A s.heap H1 locs1 → Wh p l e h s m args below meth c H1 locs1 Q (F0 m (pc + 3) ls rest)) : Wh p l e h s m args below meth c H locs Q (F0 m pc ls (v :: .ref a :: rest)) := fPut (C := RX4) (T := TX4) (N := 10) (k := 3) X inT4 tyX4_ok nmX4 rfl (by decide) mw_237 rfl hP hD hS he hn hfit hl hws hdg kk
theorem lkX4_204 : LkV RX4 204 yX4_worstRead RX4 cX4_worstRead 3 (some .int) 0 := ⟨mw_653, mw_655, mw_41, mw_102, mw_656, ⟨rfl, by decide, by decide, by decide +kernel⟩, by decide⟩
theorem lkX4_264 : LkV RX4 264 yX4_endAsJudged RX4 cX4_endAsJudged 3 (some .int) 1 := ⟨mw_808, mw_810, mw_54, mw_102, mw_811, ⟨rfl, by decide, by decide, by decide +kernel⟩, by decide⟩
theorem lkX4_69 : LkN RX4 69 yX3_push RX4 RX3 cX3_push 2 none 1 := ⟨mw_281, mw_283, mw_3, mw_104, mw_284, ⟨by decide, by decide, by decide +kernel⟩, by decide⟩
theorem lkX4_270 : LkN RX4 270 yX0_howManyForgotten RX4 RX0 cX0_howManyForgotten 3 (some .int) 0 := ⟨mw_819, mw_821, mw_55, mw_103, mw_822, ⟨by decide, by decide, by decide +kernel⟩, by decide⟩
theorem fgX4_22 {q0 : Nat} {fs : List Value} {v : Value} (X : Bx p s m args meth c cc nL ret RX4 D cI aS A) (hP : va_P D vwCl ws H) (he : ws[q0]? = some (a, .inr (4, fs))) (hv : fs[3]? = some v) (hdg : decode cc pc = .ok (.getfield 22, 3)) (kk : Wh p l e h s m args below meth c H locs Q (F0 m (pc + 3) ls (v :: rest))) : Wh p l e h s m args below meth c H locs Q (F0 m pc ls (.ref a :: rest)) := fGet (C := RX4) (T := TX4) (N := 10) (k := 3) X inT4 rfl (by decide) mw_237 hP he hv hdg kk
theorem lkX4_191 : LkS RX4 191 yX4_opensWith cX4_opensWith 2 (some .int) 2 := ⟨mw_614, mw_506, mw_102, mw_507, ⟨rfl, by decide, by decide, by decide +kernel⟩, by decide⟩
theorem fgX4_160 {q0 : Nat} {fs : List Value} {v : Value} (X : Bx p s m args meth c cc nL ret RX4 D cI aS A) (hP : va_P D vwCl ws H) (he : ws[q0]? = some (a, .inr (0, fs))) (hv : fs[5]? = some v) (hdg : decode cc pc = .ok (.getfield 160, 3)) (kk : Wh p l e h s m args below meth c H locs Q (F0 m (pc + 3) ls (v :: rest))) : Wh p l e h s m args below meth c H locs Q (F0 m pc ls (.ref a :: rest)) := fGetN (C := RX0) (T := TX0) (N := 9) (k := 5) X inT0 rfl (by decide) mw_160 hP he hv hdg kk
theorem lkX4_201 : LkV RX4 201 yX4_bestRead RX4 cX4_bestRead 3 (some .int) 0 := ⟨mw_648, mw_650, mw_40, mw_102, mw_651, ⟨rfl, by decide, by decide, by decide +kernel⟩, by decide⟩
theorem fgX4_54 {q0 : Nat} {fs : List Value} {v : Value} (X : Bx p s m args meth c cc nL ret RX4 D cI aS A) (hP : va_P D vwCl ws H) (he : ws[q0]? = some (a, .inr (4, fs))) (hv : fs[9]? = some v) (hdg : decode cc pc = .ok (.getfield 54, 3)) (kk : Wh p l e h s m args below meth c H locs Q (F0 m (pc + 3) ls (v :: rest))) : Wh p l e h s m args below meth c H locs Q (F0 m pc ls (.ref a :: rest)) := fGet (C := RX4) (T := TX4) (N := 10) (k := 9) X inT4 rfl (by decide) mw_243 hP he hv hdg kk
theorem lkX4_218 : LkN RX4 218 yX2_seek RX4 RX2 cX2_seek 4 none 1 := ⟨mw_691, mw_693, mw_43, mw_107, mw_694, ⟨by decide, by decide, by decide +kernel⟩, by decide⟩
theorem fgX4_224 {q0 : Nat} {fs : List Value} {v : Value} (X : Bx p s m args meth c cc nL ret RX4 D cI aS A) (hP : va_P D vwCl ws H) (he : ws[q0]? = some (a, .inr (2, fs))) (hv : fs[2]? = some v) (hdg : decode cc pc = .ok (.getfield 224, 3)) (kk : Wh p l e h s m args below meth c H locs Q (F0 m (pc + 3) ls (v :: rest))) : Wh p l e h s m args below meth c H locs Q (F0 m pc ls (.ref a :: rest)) := fGetN (C := RX2) (T := TX2) (N := 7) (k := 2) X inT2 rfl (by decide) mw_213 hP he hv hdg kk
theorem fgX4_221 {q0 : Nat} {fs : List Value} {v : Value} (X : Bx p s m args meth c cc nL ret RX4 D cI aS A) (hP : va_P D vwCl ws H) (he : ws[q0]? = some (a, .inr (2, fs))) (hv : fs[6]? = some v) (hdg : decode cc pc = .ok (.getfield 221, 3)) (kk : Wh p l e h s m args below meth c H locs Q (F0 m (pc + 3) ls (v :: rest))) : Wh p l e h s m args below meth c H locs Q (F0 m pc ls (.ref a :: rest)) := fGetN (C := RX2) (T := TX2) (N := 7) (k := 6) X inT2 rfl (by decide) mw_218 hP he hv hdg kk
theorem lkX4_215 : LkN RX4 215 yX0_openAlike RX4 RX0 cX0_openAlike 3 (some .boolean) 2 := ⟨mw_675, mw_677, mw_42, mw_103, mw_678, ⟨by decide, by decide, by decide +kernel⟩, by decide⟩
theorem fgX4_145 {q0 : Nat} {fs : List Value} {v : Value} (X : Bx p s m args meth c cc nL ret RX4 D cI aS A) (hP : va_P D vwCl ws H) (he : ws[q0]? = some (a, .inr (0, fs))) (hv : fs[0]? = some v) (hdg : decode cc pc = .ok (.getfield 145, 3)) (kk : Wh p l e h s m args below meth c H locs Q (F0 m (pc + 3) ls (v :: rest))) : Wh p l e h s m args below meth c H locs Q (F0 m pc ls (.ref a :: rest)) := fGetN (C := RX0) (T := TX0) (N := 9) (k := 0) X inT0 rfl (by decide) mw_149 hP he hv hdg kk
theorem fgX4_148 {q0 : Nat} {fs : List Value} {v : Value} (X : Bx p s m args meth c cc nL ret RX4 D cI aS A) (hP : va_P D vwCl ws H) (he : ws[q0]? = some (a, .inr (0, fs))) (hv : fs[1]? = some v) (hdg : decode cc pc = .ok (.getfield 148, 3)) (kk : Wh p l e h s m args below meth c H locs Q (F0 m (pc + 3) ls (v :: rest))) : Wh p l e h s m args below meth c H locs Q (F0 m pc ls (.ref a :: rest)) := fGetN (C := RX0) (T := TX0) (N := 9) (k := 1) X inT0 rfl (by decide) mw_151 hP he hv hdg kk
theorem fgX4_45 {q0 : Nat} {fs : List Value} {v : Value} (X : Bx p s m args meth c cc nL ret RX4 D cI aS A) (hP : va_P D vwCl ws H) (he : ws[q0]? = some (a, .inr (4, fs))) (hv : fs[7]? = some v) (hdg : decode cc pc = .ok (.getfield 45, 3)) (kk : Wh p l e h s m args below meth c H locs Q (F0 m (pc + 3) ls (v :: rest))) : Wh p l e h s m args below meth c H locs Q (F0 m pc ls (.ref a :: rest)) := fGet (C := RX4) (T := TX4) (N := 10) (k := 7) X inT4 rfl (by decide) mw_241 hP he hv hdg kk
theorem fgX4_48 {q0 : Nat} {fs : List Value} {v : Value} (X : Bx p s m args meth c cc nL ret RX4 D cI aS A) (hP : va_P D vwCl ws H) (he : ws[q0]? = some (a, .inr (4, fs))) (hv : fs[8]? = some v) (hdg : decode cc pc = .ok (.getfield 48, 3)) (kk : Wh p l e h s m args below meth c H locs Q (F0 m (pc + 3) ls (v :: rest))) : Wh p l e h s m args below meth c H locs Q (F0 m pc ls (.ref a :: rest)) := fGet (C := RX4) (T := TX4) (N := 10) (k := 8) X inT4 rfl (by decide) mw_242 hP he hv hdg kk
theorem lkX4_233 : LkN RX4 233 yX0_bringBehind RX4 RX0 cX0_bringBehind 5 none 2 := ⟨mw_749, mw_751, mw_49, mw_103, mw_752, ⟨by decide, by decide, by decide +kernel⟩, by decide⟩
theorem lkX4_230 : LkV RX4 230 yX4_weighPair RX4 cX4_weighPair 4 none 3 := ⟨mw_745, mw_747, mw_48, mw_102, mw_748, ⟨rfl, by decide, by decide, by decide +kernel⟩, by decide⟩
theorem lkX4_261 : LkV RX4 261 yX4_thoughtGoesAsTold RX4 cX4_thoughtGoesAsTold 3 (some .boolean) 1 := ⟨mw_800, mw_802, mw_53, mw_102, mw_803, ⟨rfl, by decide, by decide, by decide +kernel⟩, by decide⟩
theorem lkX4_258 : LkN RX4 258 yX0_endBy RX4 RX0 cX0_endBy 3 (some .int) 2 := ⟨mw_795, mw_568, mw_34, mw_103, mw_569, ⟨by decide, by decide, by decide +kernel⟩, by decide⟩
theorem lkX4_255 : LkV RX4 255 yX4_wouldEndAsTold RX4 cX4_wouldEndAsTold 6 (some .boolean) 2 := ⟨mw_791, mw_793, mw_52, mw_102, mw_794, ⟨rfl, by decide, by decide, by decide +kernel⟩, by decide⟩
theorem fgX5_55 {q0 : Nat} {fs : List Value} {v : Value} (X : Bx p s m args meth c cc nL ret RX5 D cI aS A) (hP : va_P D vwCl ws H) (he : ws[q0]? = some (a, .inr (5, fs))) (hv : fs[7]? = some v) (hdg : decode cc pc = .ok (.getfield 55, 3)) (kk : Wh p l e h s m args below meth c H locs Q (F0 m (pc + 3) ls (v :: rest))) : Wh p l e h s m args below meth c H locs Q (F0 m pc ls (.ref a :: rest)) := fGet (C := RX5) (T := TX5) (N := 25) (k := 7) X inT5 rfl (by decide) mw_850 hP he hv hdg kk
theorem fgX5_28 {q0 : Nat} {fs : List Value} {v : Value} (X : Bx p s m args meth c cc nL ret RX5 D cI aS A) (hP : va_P D vwCl ws H) (he : ws[q0]? = some (a, .inr (5, fs))) (hv : fs[6]? = some v) (hdg : decode cc pc = .ok (.getfield 28, 3)) (kk : Wh p l e h s m args below meth c H locs Q (F0 m (pc + 3) ls (v :: rest))) : Wh p l e h s m args below meth c H locs Q (F0 m pc ls (.ref a :: rest)) := fGet (C := RX5) (T := TX5) (N := 25) (k := 6) X inT5 rfl (by decide) mw_849 hP he hv hdg kk
theorem lkX5_159 : LkV RX5 159 yX5_placeOf RX5 cX5_placeOf 3 (some .int) 1 := ⟨mw_992, mw_994, mw_70, mw_108, mw_995, ⟨rfl, by decide, by decide, by decide +kernel⟩, by decide⟩
theorem fgX5_25 {q0 : Nat} {fs : List Value} {v : Value} (X : Bx p s m args meth c cc nL ret RX5 D cI aS A) (hP : va_P D vwCl ws H) (he : ws[q0]? = some (a, .inr (5, fs))) (hv : fs[5]? = some v) (hdg : decode cc pc = .ok (.getfield 25, 3)) (kk : Wh p l e h s m args below meth c H locs Q (F0 m (pc + 3) ls (v :: rest))) : Wh p l e h s m args below meth c H locs Q (F0 m pc ls (.ref a :: rest)) := fGet (C := RX5) (T := TX5) (N := 25) (k := 5) X inT5 rfl (by decide) mw_848 hP he hv hdg kk
theorem lkX5_162 : LkV RX5 162 yX5_enderOf RX5 cX5_enderOf 5 (some .int) 1 := ⟨mw_1012, mw_1014, mw_75, mw_108, mw_1015, ⟨rfl, by decide, by decide, by decide +kernel⟩, by decide⟩
theorem fgX5_19 {q0 : Nat} {fs : List Value} {v : Value} (X : Bx p s m args meth c cc nL ret RX5 D cI aS A) (hP : va_P D vwCl ws H) (he : ws[q0]? = some (a, .inr (5, fs))) (hv : fs[3]? = some v) (hdg : decode cc pc = .ok (.getfield 19, 3)) (kk : Wh p l e h s m args below meth c H locs Q (F0 m (pc + 3) ls (v :: rest))) : Wh p l e h s m args below meth c H locs Q (F0 m pc ls (.ref a :: rest)) := fGet (C := RX5) (T := TX5) (N := 25) (k := 3) X inT5 rfl (by decide) mw_846 hP he hv hdg kk
theorem fgX5_101 {q0 : Nat} {fs : List Value} {v : Value} (X : Bx p s m args meth c cc nL ret RX5 D cI aS A) (hP : va_P D vwCl ws H) (he : ws[q0]? = some (a, .inr (5, fs))) (hv : fs[8]? = some v) (hdg : decode cc pc = .ok (.getfield 101, 3)) (kk : Wh p l e h s m args below meth c H locs Q (F0 m (pc + 3) ls (v :: rest))) : Wh p l e h s m args below meth c H locs Q (F0 m pc ls (.ref a :: rest)) := fGet (C := RX5) (T := TX5) (N := 25) (k := 8) X inT5 rfl (by decide) mw_851 hP he hv hdg kk
theorem fgX5_16 {q0 : Nat} {fs : List Value} {v : Value} (X : Bx p s m args meth c cc nL ret RX5 D cI aS A) (hP : va_P D vwCl ws H) (he : ws[q0]? = some (a, .inr (5, fs))) (hv : fs[2]? = some v) (hdg : decode cc pc = .ok (.getfield 16, 3)) (kk : Wh p l e h s m args below meth c H locs Q (F0 m (pc + 3) ls (v :: rest))) : Wh p l e h s m args below meth c H locs Q (F0 m pc ls (.ref a :: rest)) := fGet (C := RX5) (T := TX5) (N := 25) (k := 2) X inT5 rfl (by decide) mw_845 hP he hv hdg kk
theorem fgX5_13 {q0 : Nat} {fs : List Value} {v : Value} (X : Bx p s m args meth c cc nL ret RX5 D cI aS A) (hP : va_P D vwCl ws H) (he : ws[q0]? = some (a, .inr (5, fs))) (hv : fs[1]? = some v) (hdg : decode cc pc = .ok (.getfield 13, 3)) (kk : Wh p l e h s m args below meth c H locs Q (F0 m (pc + 3) ls (v :: rest))) : Wh p l e h s m args below meth c H locs Q (F0 m pc ls (.ref a :: rest)) := fGet (C := RX5) (T := TX5) (N := 25) (k := 1) X inT5 rfl (by decide) mw_844 hP he hv hdg kk
theorem lkX5_165 : LkV RX5 165 yX5_opens RX5 cX5_opens 2 (some .int) 1 := ⟨mw_1020, mw_1022, mw_77, mw_108, mw_1023, ⟨rfl, by decide, by decide, by decide +kernel⟩, by decide⟩
theorem lkX5_168 : LkV RX5 168 yX5_ends RX5 cX5_ends 4 (some .int) 2 := ⟨mw_1028, mw_1030, mw_79, mw_108, mw_1031, ⟨rfl, by decide, by decide, by decide +kernel⟩, by decide⟩
theorem lkX5_155 : LkS RX5 155 yX5_wayTo cX5_wayTo 3 (some .int) 2 := ⟨mw_1035, mw_1036, mw_108, mw_1037, ⟨rfl, by decide, by decide, by decide +kernel⟩, by decide⟩
theorem lkX5_171 : LkV RX5 171 yX5_endOf RX5 cX5_endOf 2 (some .int) 1 := ⟨mw_1024, mw_1026, mw_78, mw_108, mw_1027, ⟨rfl, by decide, by decide, by decide +kernel⟩, by decide⟩
theorem lkX5_174 : LkS RX5 174 yX5_worthOf cX5_worthOf 2 (some .int) 2 := ⟨mw_1032, mw_1033, mw_108, mw_1034, ⟨rfl, by decide, by decide, by decide +kernel⟩, by decide⟩
theorem lkX5_177 : LkV RX5 177 yX5_isEnded RX5 cX5_isEnded 2 (some .boolean) 1 := ⟨mw_1008, mw_1010, mw_74, mw_108, mw_1011, ⟨rfl, by decide, by decide, by decide +kernel⟩, by decide⟩
theorem lkX5_180 : LkV RX5 180 yX5_bookWorth RX5 cX5_bookWorth 2 (some .int) 1 := ⟨mw_1016, mw_1018, mw_76, mw_108, mw_1019, ⟨rfl, by decide, by decide, by decide +kernel⟩, by decide⟩
theorem lkX5_108 : LkV RX5 108 yX5_isOne RX5 cX5_isOne 2 (some .boolean) 1 := ⟨mw_984, mw_986, mw_68, mw_108, mw_987, ⟨rfl, by decide, by decide, by decide +kernel⟩, by decide⟩
theorem fgX5_138 {q0 : Nat} {fs : List Value} {v : Value} (X : Bx p s m args meth c cc nL ret RX5 D cI aS A) (hP : va_P D vwCl ws H) (he : ws[q0]? = some (a, .inr (5, fs))) (hv : fs[18]? = some v) (hdg : decode cc pc = .ok (.getfield 138, 3)) (kk : Wh p l e h s m args below meth c H locs Q (F0 m (pc + 3) ls (v :: rest))) : Wh p l e h s m args below meth c H locs Q (F0 m pc ls (.ref a :: rest)) := fGet (C := RX5) (T := TX5) (N := 25) (k := 18) X inT5 rfl (by decide) mw_861 hP he hv hdg kk
theorem fgX5_43 {q0 : Nat} {fs : List Value} {v : Value} (X : Bx p s m args meth c cc nL ret RX5 D cI aS A) (hP : va_P D vwCl ws H) (he : ws[q0]? = some (a, .inr (5, fs))) (hv : fs[16]? = some v) (hdg : decode cc pc = .ok (.getfield 43, 3)) (kk : Wh p l e h s m args below meth c H locs Q (F0 m (pc + 3) ls (v :: rest))) : Wh p l e h s m args below meth c H locs Q (F0 m pc ls (.ref a :: rest)) := fGet (C := RX5) (T := TX5) (N := 25) (k := 16) X inT5 rfl (by decide) mw_859 hP he hv hdg kk
theorem fgX5_142 {q0 : Nat} {fs : List Value} {v : Value} (X : Bx p s m args meth c cc nL ret RX5 D cI aS A) (hP : va_P D vwCl ws H) (he : ws[q0]? = some (a, .inr (5, fs))) (hv : fs[19]? = some v) (hdg : decode cc pc = .ok (.getfield 142, 3)) (kk : Wh p l e h s m args below meth c H locs Q (F0 m (pc + 3) ls (v :: rest))) : Wh p l e h s m args below meth c H locs Q (F0 m pc ls (.ref a :: rest)) := fGet (C := RX5) (T := TX5) (N := 25) (k := 19) X inT5 rfl (by decide) mw_862 hP he hv hdg kk
theorem fpX5_142 {q0 : Nat} {fs : List Value} {v : Value} (X : Bx p s m args meth c cc nL ret RX5 D cI aS A) (hP : va_P D vwCl ws H) (hD : va_D A ws) (hS : va_S A s.heap H locs) (he : ws[q0]? = some (a, .inr (5, fs))) (hn : narrow (tyX5 19) v = v) (hfit : fits (tyX5 19) v = true) (hl : 19 < fs.length) (hws : ws.set q0 (a, .inr (5, fs.set 19 v)) = ws') (hdg : decode cc pc = .ok (.putfield 142, 3)) (kk : ∀ (H1 : Heap) (locs1 : List Loc), va_P D vwCl ws' H1 → va_D A ws' → va_S A s.heap H1 locs1 → Wh p l e h s m args below meth c H1 locs1 Q (F0 m (pc + 3) ls rest)) : Wh p l e h s m args below meth c H locs Q (F0 m pc ls (v :: .ref a :: rest)) := fPut (C := RX5) (T := TX5) (N := 25) (k := 19) X inT5 tyX5_ok nmX5 rfl (by decide) mw_862 rfl hP hD hS he hn hfit hl hws hdg kk
theorem fpX5_138 {q0 : Nat} {fs : List Value} {v : Value} (X : Bx p s m args meth c cc nL ret RX5 D cI aS A) (hP : va_P D vwCl ws H) (hD : va_D A ws) (hS : va_S A s.heap H locs) (he : ws[q0]? = some (a, .inr (5, fs))) (hn : narrow (tyX5 18) v = v) (hfit : fits (tyX5 18) v = true) (hl : 18 < fs.length) (hws : ws.set q0 (a, .inr (5, fs.set 18 v)) = ws') (hdg : decode cc pc = .ok (.putfield 138, 3)) (kk : ∀ (H1 : Heap) (locs1 : List Loc), va_P D vwCl ws' H1 → va_D A ws' → va_S A s.heap H1 locs1 → Wh p l e h s m args below meth c H1 locs1 Q (F0 m (pc + 3) ls rest)) : Wh p l e h s m args below meth c H locs Q (F0 m pc ls (v :: .ref a :: rest)) := fPut (C := RX5) (T := TX5) (N := 25) (k := 18) X inT5 tyX5_ok nmX5 rfl (by decide) mw_861 rfl hP hD hS he hn hfit hl hws hdg kk
theorem lkX5_145 : LkV RX5 145 yX5_passes RX5 cX5_passes 3 none 1 := ⟨mw_964, mw_966, mw_63, mw_108, mw_967, ⟨rfl, by decide, by decide, by decide +kernel⟩, by decide⟩
theorem fgX5_22 {q0 : Nat} {fs : List Value} {v : Value} (X : Bx p s m args meth c cc nL ret RX5 D cI aS A) (hP : va_P D vwCl ws H) (he : ws[q0]? = some (a, .inr (5, fs))) (hv : fs[4]? = some v) (hdg : decode cc pc = .ok (.getfield 22, 3)) (kk : Wh p l e h s m args below meth c H locs Q (F0 m (pc + 3) ls (v :: rest))) : Wh p l e h s m args below meth c H locs Q (F0 m pc ls (.ref a :: rest)) := fGet (C := RX5) (T := TX5) (N := 25) (k := 4) X inT5 rfl (by decide) mw_847 hP he hv hdg kk
theorem lkX5_149 : LkV RX5 149 yX5_passOne RX5 cX5_passOne 3 (some .int) 1 := ⟨mw_968, mw_970, mw_64, mw_108, mw_971, ⟨rfl, by decide, by decide, by decide +kernel⟩, by decide⟩
theorem fpX5_55 {q0 : Nat} {fs : List Value} {v : Value} (X : Bx p s m args meth c cc nL ret RX5 D cI aS A) (hP : va_P D vwCl ws H) (hD : va_D A ws) (hS : va_S A s.heap H locs) (he : ws[q0]? = some (a, .inr (5, fs))) (hn : narrow (tyX5 7) v = v) (hfit : fits (tyX5 7) v = true) (hl : 7 < fs.length) (hws : ws.set q0 (a, .inr (5, fs.set 7 v)) = ws') (hdg : decode cc pc = .ok (.putfield 55, 3)) (kk : ∀ (H1 : Heap) (locs1 : List Loc), va_P D vwCl ws' H1 → va_D A ws' → va_S A s.heap H1 locs1 → Wh p l e h s m args below meth c H1 locs1 Q (F0 m (pc + 3) ls rest)) : Wh p l e h s m args below meth c H locs Q (F0 m pc ls (v :: .ref a :: rest)) := fPut (C := RX5) (T := TX5) (N := 25) (k := 7) X inT5 tyX5_ok nmX5 rfl (by decide) mw_850 rfl hP hD hS he hn hfit hl hws hdg kk
theorem fpX5_101 {q0 : Nat} {fs : List Value} {v : Value} (X : Bx p s m args meth c cc nL ret RX5 D cI aS A) (hP : va_P D vwCl ws H) (hD : va_D A ws) (hS : va_S A s.heap H locs) (he : ws[q0]? = some (a, .inr (5, fs))) (hn : narrow (tyX5 8) v = v) (hfit : fits (tyX5 8) v = true) (hl : 8 < fs.length) (hws : ws.set q0 (a, .inr (5, fs.set 8 v)) = ws') (hdg : decode cc pc = .ok (.putfield 101, 3)) (kk : ∀ (H1 : Heap) (locs1 : List Loc), va_P D vwCl ws' H1 → va_D A ws' → va_S A s.heap H1 locs1 → Wh p l e h s m args below meth c H1 locs1 Q (F0 m (pc + 3) ls rest)) : Wh p l e h s m args below meth c H locs Q (F0 m pc ls (v :: .ref a :: rest)) := fPut (C := RX5) (T := TX5) (N := 25) (k := 8) X inT5 tyX5_ok nmX5 rfl (by decide) mw_851 rfl hP hD hS he hn hfit hl hws hdg kk
theorem lkX5_131 : LkV RX5 131 yX5_passesAll RX5 cX5_passesAll 3 none 2 := ⟨mw_960, mw_962, mw_62, mw_108, mw_963, ⟨rfl, by decide, by decide, by decide +kernel⟩, by decide⟩
theorem lkX5_183 : LkS RX5 183 yX5_held cX5_held 3 (some .int) 3 := ⟨mw_1038, mw_1039, mw_108, mw_1040, ⟨rfl, by decide, by decide, by decide +kernel⟩, by decide⟩
theorem lkX5_186 : LkV RX5 186 yX5_gains RX5 cX5_gains 2 (some .int) 1 := ⟨mw_1041, mw_1043, mw_80, mw_108, mw_1044, ⟨rfl, by decide, by decide, by decide +kernel⟩, by decide⟩
theorem lkX5_200 : LkV RX5 200 yX5_thinks RX5 cX5_thinks 1 none 0 := ⟨mw_1106, mw_1108, mw_84, mw_108, mw_1109, ⟨rfl, by decide, by decide, by decide +kernel⟩, by decide⟩
theorem fgX5_257 {q0 : Nat} {fs : List Value} {v : Value} (X : Bx p s m args meth c cc nL ret RX5 D cI aS A) (hP : va_P D vwCl ws H) (he : ws[q0]? = some (a, .inr (5, fs))) (hv : fs[24]? = some v) (hdg : decode cc pc = .ok (.getfield 257, 3)) (kk : Wh p l e h s m args below meth c H locs Q (F0 m (pc + 3) ls (v :: rest))) : Wh p l e h s m args below meth c H locs Q (F0 m pc ls (.ref a :: rest)) := fGet (C := RX5) (T := TX5) (N := 25) (k := 24) X inT5 rfl (by decide) mw_867 hP he hv hdg kk
theorem fgX5_52 {q0 : Nat} {fs : List Value} {v : Value} (X : Bx p s m args meth c cc nL ret RX5 D cI aS A) (hP : va_P D vwCl ws H) (he : ws[q0]? = some (a, .inr (5, fs))) (hv : fs[23]? = some v) (hdg : decode cc pc = .ok (.getfield 52, 3)) (kk : Wh p l e h s m args below meth c H locs Q (F0 m (pc + 3) ls (v :: rest))) : Wh p l e h s m args below meth c H locs Q (F0 m pc ls (.ref a :: rest)) := fGet (C := RX5) (T := TX5) (N := 25) (k := 23) X inT5 rfl (by decide) mw_866 hP he hv hdg kk
theorem lkX5_189 : LkV RX5 189 yX5_goesYear RX5 cX5_goesYear 4 none 1 := ⟨mw_1004, mw_1006, mw_73, mw_108, mw_1007, ⟨rfl, by decide, by decide, by decide +kernel⟩, by decide⟩
theorem lkX5_203 : LkV RX5 203 yX5_forgets RX5 cX5_forgets 1 none 0 := ⟨mw_1110, mw_1112, mw_85, mw_108, mw_1113, ⟨rfl, by decide, by decide, by decide +kernel⟩, by decide⟩
theorem lkX5_263 : LkV RX5 263 yX5_isFamedSo RX5 cX5_isFamedSo 4 (some .boolean) 1 := ⟨mw_1274, mw_1276, mw_98, mw_108, mw_1277, ⟨rfl, by decide, by decide, by decide +kernel⟩, by decide⟩
theorem fgX5_7 {q0 : Nat} {fs : List Value} {v : Value} (X : Bx p s m args meth c cc nL ret RX5 D cI aS A) (hP : va_P D vwCl ws H) (he : ws[q0]? = some (a, .inr (5, fs))) (hv : fs[0]? = some v) (hdg : decode cc pc = .ok (.getfield 7, 3)) (kk : Wh p l e h s m args below meth c H locs Q (F0 m (pc + 3) ls (v :: rest))) : Wh p l e h s m args below meth c H locs Q (F0 m pc ls (.ref a :: rest)) := fGet (C := RX5) (T := TX5) (N := 25) (k := 0) X inT5 rfl (by decide) mw_843 hP he hv hdg kk
theorem lkX5_80 : LkS RX5 80 yX5_isIn cX5_isIn 3 (some .boolean) 3 := ⟨mw_957, mw_958, mw_108, mw_959, ⟨rfl, by decide, by decide, by decide +kernel⟩, by decide⟩
theorem lkX5_193 : LkV RX5 193 yX5_lower RX5 cX5_lower 2 (some .int) 1 := ⟨mw_1069, mw_1071, mw_82, mw_108, mw_1072, ⟨rfl, by decide, by decide, by decide +kernel⟩, by decide⟩
theorem lkX5_206 : LkV RX5 206 yX5_allWorth RX5 cX5_allWorth 3 (some .int) 0 := ⟨mw_1122, mw_1124, mw_86, mw_108, mw_1125, ⟨rfl, by decide, by decide, by decide +kernel⟩, by decide⟩
theorem lkX5_117 : LkV RX5 117 yX5_swaps RX5 cX5_swaps 5 none 2 := ⟨mw_988, mw_990, mw_69, mw_108, mw_991, ⟨rfl, by decide, by decide, by decide +kernel⟩, by decide⟩
theorem lkX5_245 : LkS RX5 245 yX5_divisor cX5_divisor 10 (some .long) 2 := ⟨mw_1251, mw_1252, mw_108, mw_1253, ⟨rfl, by decide, by decide, by decide +kernel⟩, by decide⟩
theorem lkX5_218 : LkS RX5 218 yX5_has cX5_has 2 (some .boolean) 2 := ⟨mw_1165, mw_1166, mw_108, mw_1167, ⟨rfl, by decide, by decide, by decide +kernel⟩, by decide⟩
theorem lkX5_253 : LkS RX5 253 yX5_partOf cX5_partOf 5 (some .long) 3 := ⟨mw_1248, mw_1249, mw_108, mw_1250, ⟨rfl, by decide, by decide, by decide +kernel⟩, by decide⟩
theorem lkX5_249 : LkV RX5 249 yX5_lowestOf RX5 cX5_lowestOf 2 (some .long) 1 := ⟨mw_1243, mw_1245, mw_95, mw_108, mw_1246, ⟨rfl, by decide, by decide, by decide +kernel⟩, by decide⟩
theorem lkX5_236 : LkS RX5 236 yX5_bits cX5_bits 3 (some .int) 1 := ⟨mw_1212, mw_1213, mw_108, mw_1214, ⟨rfl, by decide, by decide, by decide +kernel⟩, by decide⟩
theorem lkX5_69 : LkV RX5 69 yX5_no RX5 cX5_no 2 (some .int) 1 := ⟨mw_926, mw_928, mw_56, mw_108, mw_929, ⟨rfl, by decide, by decide, by decide +kernel⟩, by decide⟩
theorem lkX5_114 : LkV RX5 114 yX5_areTwo RX5 cX5_areTwo 3 (some .boolean) 2 := ⟨mw_980, mw_982, mw_67, mw_108, mw_983, ⟨rfl, by decide, by decide, by decide +kernel⟩, by decide⟩
theorem fpX5_257 {q0 : Nat} {fs : List Value} {v : Value} (X : Bx p s m args meth c cc nL ret RX5 D cI aS A) (hP : va_P D vwCl ws H) (hD : va_D A ws) (hS : va_S A s.heap H locs) (he : ws[q0]? = some (a, .inr (5, fs))) (hn : narrow (tyX5 24) v = v) (hfit : fits (tyX5 24) v = true) (hl : 24 < fs.length) (hws : ws.set q0 (a, .inr (5, fs.set 24 v)) = ws') (hdg : decode cc pc = .ok (.putfield 257, 3)) (kk : ∀ (H1 : Heap) (locs1 : List Loc), va_P D vwCl ws' H1 → va_D A ws' → va_S A s.heap H1 locs1 → Wh p l e h s m args below meth c H1 locs1 Q (F0 m (pc + 3) ls rest)) : Wh p l e h s m args below meth c H locs Q (F0 m pc ls (v :: .ref a :: rest)) := fPut (C := RX5) (T := TX5) (N := 25) (k := 24) X inT5 tyX5_ok nmX5 rfl (by decide) mw_867 rfl hP hD hS he hn hfit hl hws hdg kk
theorem lkX5_104 : LkV RX5 104 yX5_goes RX5 cX5_goes 3 none 1 := ⟨mw_1000, mw_1002, mw_72, mw_108, mw_1003, ⟨rfl, by decide, by decide, by decide +kernel⟩, by decide⟩
theorem fgX5_34 {q0 : Nat} {fs : List Value} {v : Value} (X : Bx p s m args meth c cc nL ret RX5 D cI aS A) (hP : va_P D vwCl ws H) (he : ws[q0]? = some (a, .inr (5, fs))) (hv : fs[10]? = some v) (hdg : decode cc pc = .ok (.getfield 34, 3)) (kk : Wh p l e h s m args below meth c H locs Q (F0 m (pc + 3) ls (v :: rest))) : Wh p l e h s m args below meth c H locs Q (F0 m pc ls (.ref a :: rest)) := fGet (C := RX5) (T := TX5) (N := 25) (k := 10) X inT5 rfl (by decide) mw_853 hP he hv hdg kk
theorem fgX5_40 {q0 : Nat} {fs : List Value} {v : Value} (X : Bx p s m args meth c cc nL ret RX5 D cI aS A) (hP : va_P D vwCl ws H) (he : ws[q0]? = some (a, .inr (5, fs))) (hv : fs[12]? = some v) (hdg : decode cc pc = .ok (.getfield 40, 3)) (kk : Wh p l e h s m args below meth c H locs Q (F0 m (pc + 3) ls (v :: rest))) : Wh p l e h s m args below meth c H locs Q (F0 m pc ls (.ref a :: rest)) := fGet (C := RX5) (T := TX5) (N := 25) (k := 12) X inT5 rfl (by decide) mw_855 hP he hv hdg kk
theorem lkX5_111 : LkV RX5 111 yX5_comesWriter RX5 cX5_comesWriter 4 (some .boolean) 3 := ⟨mw_976, mw_978, mw_66, mw_108, mw_979, ⟨rfl, by decide, by decide, by decide +kernel⟩, by decide⟩
theorem lkX5_121 : LkV RX5 121 yX5_comesYears RX5 cX5_comesYears 2 (some .boolean) 1 := ⟨mw_996, mw_998, mw_71, mw_108, mw_999, ⟨rfl, by decide, by decide, by decide +kernel⟩, by decide⟩
theorem lkX5_124 : LkV RX5 124 yX5_comesOf RX5 cX5_comesOf 4 (some .boolean) 3 := ⟨mw_1045, mw_1047, mw_81, mw_108, mw_1048, ⟨rfl, by decide, by decide, by decide +kernel⟩, by decide⟩
theorem lkX5_276 : LkV RX5 276 yX5_writing RX5 cX5_writing 3 (some .int) 0 := ⟨mw_1305, mw_1307, mw_100, mw_108, mw_1308, ⟨rfl, by decide, by decide, by decide +kernel⟩, by decide⟩
theorem lkX5_196 : LkV RX5 196 yX5_allOf RX5 cX5_allOf 4 (some .int) 1 := ⟨mw_1098, mw_1100, mw_83, mw_108, mw_1101, ⟨rfl, by decide, by decide, by decide +kernel⟩, by decide⟩
theorem lkX5_279 : LkV RX5 279 yX5_well RX5 cX5_well 3 (some .int) 0 := ⟨mw_1309, mw_1127, mw_1128, mw_108, mw_1129, ⟨rfl, by decide, by decide, by decide +kernel⟩, by decide⟩
theorem fgX5_66 {q0 : Nat} {fs : List Value} {v : Value} (X : Bx p s m args meth c cc nL ret RX5 D cI aS A) (hP : va_P D vwCl ws H) (he : ws[q0]? = some (a, .inr (5, fs))) (hv : fs[13]? = some v) (hdg : decode cc pc = .ok (.getfield 66, 3)) (kk : Wh p l e h s m args below meth c H locs Q (F0 m (pc + 3) ls (v :: rest))) : Wh p l e h s m args below meth c H locs Q (F0 m pc ls (.ref a :: rest)) := fGet (C := RX5) (T := TX5) (N := 25) (k := 13) X inT5 rfl (by decide) mw_856 hP he hv hdg kk
theorem lkX5_230 : LkV RX5 230 yX5_worthEnded RX5 cX5_worthEnded 3 (some .int) 2 := ⟨mw_1188, mw_1190, mw_91, mw_108, mw_1191, ⟨rfl, by decide, by decide, by decide +kernel⟩, by decide⟩
theorem lkX5_62 : LkS RX5 62 yX5_bound cX5_bound 3 (some .int) 3 := ⟨mw_923, mw_924, mw_108, mw_925, ⟨rfl, by decide, by decide, by decide +kernel⟩, by decide⟩
theorem fpX5_209 {q0 : Nat} {fs : List Value} {v : Value} (X : Bx p s m args meth c cc nL ret RX5 D cI aS A) (hP : va_P D vwCl ws H) (hD : va_D A ws) (hS : va_S A s.heap H locs) (he : ws[q0]? = some (a, .inr (5, fs))) (hn : narrow (tyX5 20) v = v) (hfit : fits (tyX5 20) v = true) (hl : 20 < fs.length) (hws : ws.set q0 (a, .inr (5, fs.set 20 v)) = ws') (hdg : decode cc pc = .ok (.putfield 209, 3)) (kk : ∀ (H1 : Heap) (locs1 : List Loc), va_P D vwCl ws' H1 → va_D A ws' → va_S A s.heap H1 locs1 → Wh p l e h s m args below meth c H1 locs1 Q (F0 m (pc + 3) ls rest)) : Wh p l e h s m args below meth c H locs Q (F0 m pc ls (v :: .ref a :: rest)) := fPut (C := RX5) (T := TX5) (N := 25) (k := 20) X inT5 tyX5_ok nmX5 rfl (by decide) mw_863 rfl hP hD hS he hn hfit hl hws hdg kk
theorem fgX5_49 {q0 : Nat} {fs : List Value} {v : Value} (X : Bx p s m args meth c cc nL ret RX5 D cI aS A) (hP : va_P D vwCl ws H) (he : ws[q0]? = some (a, .inr (5, fs))) (hv : fs[22]? = some v) (hdg : decode cc pc = .ok (.getfield 49, 3)) (kk : Wh p l e h s m args below meth c H locs Q (F0 m (pc + 3) ls (v :: rest))) : Wh p l e h s m args below meth c H locs Q (F0 m pc ls (.ref a :: rest)) := fGet (C := RX5) (T := TX5) (N := 25) (k := 22) X inT5 rfl (by decide) mw_865 hP he hv hdg kk
theorem lkX5_239 : LkV RX5 239 yX5_bringsBehind RX5 cX5_bringsBehind 6 none 2 := ⟨mw_1235, mw_1237, mw_94, mw_108, mw_1238, ⟨rfl, by decide, by decide, by decide +kernel⟩, by decide⟩
theorem lkX5_215 : LkS RX5 215 yX5_nth cX5_nth 4 (some .int) 2 := ⟨mw_1162, mw_1163, mw_108, mw_1164, ⟨rfl, by decide, by decide, by decide +kernel⟩, by decide⟩
theorem lkX5_221 : LkV RX5 221 yX5_ringsBy RX5 cX5_ringsBy 8 none 2 := ⟨mw_1158, mw_1160, mw_89, mw_108, mw_1161, ⟨rfl, by decide, by decide, by decide +kernel⟩, by decide⟩
theorem fgX5_46 {q0 : Nat} {fs : List Value} {v : Value} (X : Bx p s m args meth c cc nL ret RX5 D cI aS A) (hP : va_P D vwCl ws H) (he : ws[q0]? = some (a, .inr (5, fs))) (hv : fs[21]? = some v) (hdg : decode cc pc = .ok (.getfield 46, 3)) (kk : Wh p l e h s m args below meth c H locs Q (F0 m (pc + 3) ls (v :: rest))) : Wh p l e h s m args below meth c H locs Q (F0 m pc ls (.ref a :: rest)) := fGet (C := RX5) (T := TX5) (N := 25) (k := 21) X inT5 rfl (by decide) mw_864 hP he hv hdg kk
theorem lkX5_212 : LkV RX5 212 yX5_findForgotten RX5 cX5_findForgotten 4 (some .int) 0 := ⟨mw_1142, mw_1144, mw_87, mw_108, mw_1145, ⟨rfl, by decide, by decide, by decide +kernel⟩, by decide⟩
theorem fgX5_209 {q0 : Nat} {fs : List Value} {v : Value} (X : Bx p s m args meth c cc nL ret RX5 D cI aS A) (hP : va_P D vwCl ws H) (he : ws[q0]? = some (a, .inr (5, fs))) (hv : fs[20]? = some v) (hdg : decode cc pc = .ok (.getfield 209, 3)) (kk : Wh p l e h s m args below meth c H locs Q (F0 m (pc + 3) ls (v :: rest))) : Wh p l e h s m args below meth c H locs Q (F0 m pc ls (.ref a :: rest)) := fGet (C := RX5) (T := TX5) (N := 25) (k := 20) X inT5 rfl (by decide) mw_863 hP he hv hdg kk
theorem fgX5_73 {q0 : Nat} {fs : List Value} {v : Value} (X : Bx p s m args meth c cc nL ret RX5 D cI aS A) (hP : va_P D vwCl ws H) (he : ws[q0]? = some (a, .inr (5, fs))) (hv : fs[14]? = some v) (hdg : decode cc pc = .ok (.getfield 73, 3)) (kk : Wh p l e h s m args below meth c H locs Q (F0 m (pc + 3) ls (v :: rest))) : Wh p l e h s m args below meth c H locs Q (F0 m pc ls (.ref a :: rest)) := fGet (C := RX5) (T := TX5) (N := 25) (k := 14) X inT5 rfl (by decide) mw_857 hP he hv hdg kk
theorem fgX5_31 {q0 : Nat} {fs : List Value} {v : Value} (X : Bx p s m args meth c cc nL ret RX5 D cI aS A) (hP : va_P D vwCl ws H) (he : ws[q0]? = some (a, .inr (5, fs))) (hv : fs[9]? = some v) (hdg : decode cc pc = .ok (.getfield 31, 3)) (kk : Wh p l e h s m args below meth c H locs Q (F0 m (pc + 3) ls (v :: rest))) : Wh p l e h s m args below meth c H locs Q (F0 m pc ls (.ref a :: rest)) := fGet (C := RX5) (T := TX5) (N := 25) (k := 9) X inT5 rfl (by decide) mw_852 hP he hv hdg kk
theorem lkX5_76 : LkV RX5 76 yX5_next RX5 cX5_next 1 (some .int) 0 := ⟨mw_938, mw_940, mw_58, mw_108, mw_941, ⟨rfl, by decide, by decide, by decide +kernel⟩, by decide⟩
theorem fpX5_73 {q0 : Nat} {fs : List Value} {v : Value} (X : Bx p s m args meth c cc nL ret RX5 D cI aS A) (hP : va_P D vwCl ws H) (hD : va_D A ws) (hS : va_S A s.heap H locs) (he : ws[q0]? = some (a, .inr (5, fs))) (hn : narrow (tyX5 14) v = v) (hfit : fits (tyX5 14) v = true) (hl : 14 < fs.length) (hws : ws.set q0 (a, .inr (5, fs.set 14 v)) = ws') (hdg : decode cc pc = .ok (.putfield 73, 3)) (kk : ∀ (H1 : Heap) (locs1 : List Loc), va_P D vwCl ws' H1 → va_D A ws' → va_S A s.heap H1 locs1 → Wh p l e h s m args below meth c H1 locs1 Q (F0 m (pc + 3) ls rest)) : Wh p l e h s m args below meth c H locs Q (F0 m pc ls (v :: .ref a :: rest)) := fPut (C := RX5) (T := TX5) (N := 25) (k := 14) X inT5 tyX5_ok nmX5 rfl (by decide) mw_857 rfl hP hD hS he hn hfit hl hws hdg kk
theorem lkX5_84 : LkS RX5 84 yX5_kindOf cX5_kindOf 1 (some .int) 1 := ⟨mw_950, mw_951, mw_108, mw_952, ⟨rfl, by decide, by decide, by decide +kernel⟩, by decide⟩
theorem lkX5_87 : LkV RX5 87 yX5_readsDigits RX5 cX5_readsDigits 5 (some .boolean) 2 := ⟨mw_953, mw_955, mw_61, mw_108, mw_956, ⟨rfl, by decide, by decide, by decide +kernel⟩, by decide⟩
theorem lkX5_91 : LkV RX5 91 yX5_readsWriter RX5 cX5_readsWriter 2 (some .boolean) 1 := ⟨mw_946, mw_948, mw_60, mw_108, mw_949, ⟨rfl, by decide, by decide, by decide +kernel⟩, by decide⟩
theorem fgX5_95 {q0 : Nat} {fs : List Value} {v : Value} (X : Bx p s m args meth c cc nL ret RX5 D cI aS A) (hP : va_P D vwCl ws H) (he : ws[q0]? = some (a, .inr (5, fs))) (hv : fs[15]? = some v) (hdg : decode cc pc = .ok (.getfield 95, 3)) (kk : Wh p l e h s m args below meth c H locs Q (F0 m (pc + 3) ls (v :: rest))) : Wh p l e h s m args below meth c H locs Q (F0 m pc ls (.ref a :: rest)) := fGet (C := RX5) (T := TX5) (N := 25) (k := 15) X inT5 rfl (by decide) mw_858 hP he hv hdg kk
theorem fgX5_37 {q0 : Nat} {fs : List Value} {v : Value} (X : Bx p s m args meth c cc nL ret RX5 D cI aS A) (hP : va_P D vwCl ws H) (he : ws[q0]? = some (a, .inr (5, fs))) (hv : fs[11]? = some v) (hdg : decode cc pc = .ok (.getfield 37, 3)) (kk : Wh p l e h s m args below meth c H locs Q (F0 m (pc + 3) ls (v :: rest))) : Wh p l e h s m args below meth c H locs Q (F0 m pc ls (.ref a :: rest)) := fGet (C := RX5) (T := TX5) (N := 25) (k := 11) X inT5 rfl (by decide) mw_854 hP he hv hdg kk
theorem lkX5_98 : LkV RX5 98 yX5_readsAll RX5 cX5_readsAll 3 (some .boolean) 2 := ⟨mw_942, mw_944, mw_59, mw_108, mw_945, ⟨rfl, by decide, by decide, by decide +kernel⟩, by decide⟩
theorem fpX5_95 {q0 : Nat} {fs : List Value} {v : Value} (X : Bx p s m args meth c cc nL ret RX5 D cI aS A) (hP : va_P D vwCl ws H) (hD : va_D A ws) (hS : va_S A s.heap H locs) (he : ws[q0]? = some (a, .inr (5, fs))) (hn : narrow (tyX5 15) v = v) (hfit : fits (tyX5 15) v = true) (hl : 15 < fs.length) (hws : ws.set q0 (a, .inr (5, fs.set 15 v)) = ws') (hdg : decode cc pc = .ok (.putfield 95, 3)) (kk : ∀ (H1 : Heap) (locs1 : List Loc), va_P D vwCl ws' H1 → va_D A ws' → va_S A s.heap H1 locs1 → Wh p l e h s m args below meth c H1 locs1 Q (F0 m (pc + 3) ls rest)) : Wh p l e h s m args below meth c H locs Q (F0 m pc ls (v :: .ref a :: rest)) := fPut (C := RX5) (T := TX5) (N := 25) (k := 15) X inT5 tyX5_ok nmX5 rfl (by decide) mw_858 rfl hP hD hS he hn hfit hl hws hdg kk
theorem lkX5_127 : LkV RX5 127 yX5_statement RX5 cX5_statement 2 (some .boolean) 0 := ⟨mw_934, mw_936, mw_57, mw_108, mw_937, ⟨rfl, by decide, by decide, by decide +kernel⟩, by decide⟩
theorem fpX5_66 {q0 : Nat} {fs : List Value} {v : Value} (X : Bx p s m args meth c cc nL ret RX5 D cI aS A) (hP : va_P D vwCl ws H) (hD : va_D A ws) (hS : va_S A s.heap H locs) (he : ws[q0]? = some (a, .inr (5, fs))) (hn : narrow (tyX5 13) v = v) (hfit : fits (tyX5 13) v = true) (hl : 13 < fs.length) (hws : ws.set q0 (a, .inr (5, fs.set 13 v)) = ws') (hdg : decode cc pc = .ok (.putfield 66, 3)) (kk : ∀ (H1 : Heap) (locs1 : List Loc), va_P D vwCl ws' H1 → va_D A ws' → va_S A s.heap H1 locs1 → Wh p l e h s m args below meth c H1 locs1 Q (F0 m (pc + 3) ls rest)) : Wh p l e h s m args below meth c H locs Q (F0 m pc ls (v :: .ref a :: rest)) := fPut (C := RX5) (T := TX5) (N := 25) (k := 13) X inT5 tyX5_ok nmX5 rfl (by decide) mw_856 rfl hP hD hS he hn hfit hl hws hdg kk
theorem lkX5_135 : LkV RX5 135 yX5_comes RX5 cX5_comes 3 (some .boolean) 1 := ⟨mw_972, mw_974, mw_65, mw_108, mw_975, ⟨rfl, by decide, by decide, by decide +kernel⟩, by decide⟩
theorem fpX5_152 {q0 : Nat} {fs : List Value} {v : Value} (X : Bx p s m args meth c cc nL ret RX5 D cI aS A) (hP : va_P D vwCl ws H) (hD : va_D A ws) (hS : va_S A s.heap H locs) (he : ws[q0]? = some (a, .inr (5, fs))) (hn : narrow (tyX5 17) v = v) (hfit : fits (tyX5 17) v = true) (hl : 17 < fs.length) (hws : ws.set q0 (a, .inr (5, fs.set 17 v)) = ws') (hdg : decode cc pc = .ok (.putfield 152, 3)) (kk : ∀ (H1 : Heap) (locs1 : List Loc), va_P D vwCl ws' H1 → va_D A ws' → va_S A s.heap H1 locs1 → Wh p l e h s m args below meth c H1 locs1 Q (F0 m (pc + 3) ls rest)) : Wh p l e h s m args below meth c H locs Q (F0 m pc ls (v :: .ref a :: rest)) := fPut (C := RX5) (T := TX5) (N := 25) (k := 17) X inT5 tyX5_ok nmX5 rfl (by decide) mw_860 rfl hP hD hS he hn hfit hl hws hdg kk
theorem lkX5_273 : LkV RX5 273 yX5_forgottenOnes RX5 cX5_forgottenOnes 3 (some .int) 0 := ⟨mw_1297, mw_1299, mw_99, mw_108, mw_1300, ⟨rfl, by decide, by decide, by decide +kernel⟩, by decide⟩
theorem lkX5_233 : LkV RX5 233 yX5_areMutual RX5 cX5_areMutual 3 (some .boolean) 2 := ⟨mw_1204, mw_1206, mw_92, mw_108, mw_1207, ⟨rfl, by decide, by decide, by decide +kernel⟩, by decide⟩
theorem fgX5_152 {q0 : Nat} {fs : List Value} {v : Value} (X : Bx p s m args meth c cc nL ret RX5 D cI aS A) (hP : va_P D vwCl ws H) (he : ws[q0]? = some (a, .inr (5, fs))) (hv : fs[17]? = some v) (hdg : decode cc pc = .ok (.getfield 152, 3)) (kk : Wh p l e h s m args below meth c H locs Q (F0 m (pc + 3) ls (v :: rest))) : Wh p l e h s m args below meth c H locs Q (F0 m pc ls (.ref a :: rest)) := fGet (C := RX5) (T := TX5) (N := 25) (k := 17) X inT5 rfl (by decide) mw_860 hP he hv hdg kk
theorem lkX5_227 : LkV RX5 227 yX5_worthBy RX5 cX5_worthBy 5 (some .int) 2 := ⟨mw_1180, mw_1182, mw_90, mw_108, mw_1183, ⟨rfl, by decide, by decide, by decide +kernel⟩, by decide⟩
theorem lkX5_224 : LkV RX5 224 yX5_findRing RX5 cX5_findRing 6 (some .int) 0 := ⟨mw_1154, mw_1156, mw_88, mw_108, mw_1157, ⟨rfl, by decide, by decide, by decide +kernel⟩, by decide⟩
theorem lkX5_242 : LkV RX5 242 yX5_findGets RX5 cX5_findGets 4 none 2 := ⟨mw_1231, mw_1233, mw_93, mw_108, mw_1234, ⟨rfl, by decide, by decide, by decide +kernel⟩, by decide⟩
theorem lkX5_266 : LkV RX5 266 yX5_bitsFor RX5 cX5_bitsFor 8 (some .int) 4 := ⟨mw_1270, mw_1272, mw_97, mw_108, mw_1273, ⟨rfl, by decide, by decide, by decide +kernel⟩, by decide⟩
theorem lkX5_260 : LkV RX5 260 yX5_endedSo RX5 cX5_endedSo 5 (some .boolean) 2 := ⟨mw_1262, mw_1264, mw_96, mw_108, mw_1265, ⟨rfl, by decide, by decide, by decide +kernel⟩, by decide⟩
end WLK
