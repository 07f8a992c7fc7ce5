/-! the words that are used; the static cells by their places; what a write does to them -/
theorem w_281 : Cond.fieldLink RX10 13 "Pagerloom" "length" "I" ∈ WT := WT_in (List.mem_of_getElem? (i := 281) (by decide +kernel)) (by decide +kernel)
theorem w_288 : Cond.fieldLink RX10 53 "Pagerloom" "reader" "LPagerloom$Reader;" ∈ WT := WT_in (List.mem_of_getElem? (i := 288) (by decide +kernel)) (by decide +kernel)
theorem w_280 : Cond.fieldLink RX10 9 "Pagerloom" "text" "[C" ∈ WT := WT_in (List.mem_of_getElem? (i := 280) (by decide +kernel)) (by decide +kernel)
theorem w_186 : Cond.fieldLink RX4 9 "Pagerloom$Reader" "text" "[C" ∈ WT := WT_in (List.mem_of_getElem? (i := 186) (by decide +kernel)) (by decide +kernel)
theorem w_187 : Cond.fieldLink RX4 15 "Pagerloom$Reader" "length" "I" ∈ WT := WT_in (List.mem_of_getElem? (i := 187) (by decide +kernel)) (by decide +kernel)
theorem w_188 : Cond.fieldLink RX4 19 "Pagerloom$Reader" "at" "I" ∈ WT := WT_in (List.mem_of_getElem? (i := 188) (by decide +kernel)) (by decide +kernel)
theorem w_644 : Cond.methodLink RX4 38 yX4_here ∈ WT := WT_in (List.mem_of_getElem? (i := 644) (by decide +kernel)) (by decide +kernel)
theorem w_646 : Cond.instanceMethod yX4_here ∈ WT := WT_in (List.mem_of_getElem? (i := 646) (by decide +kernel)) (by decide +kernel)
theorem w_14 : Cond.selects RX4 yX4_here yX4_here ∈ WT := WT_in (List.mem_of_getElem? (i := 14) (by decide +kernel)) (by decide +kernel)
theorem w_41 : Cond.initialized RX4 ∈ WT := WT_in (List.mem_of_getElem? (i := 41) (by decide +kernel)) (by decide +kernel)
theorem w_647 : Cond.code yX4_here cX4_here 1 (some .int) ∈ WT := WT_in (List.mem_of_getElem? (i := 647) (by decide +kernel)) (by decide +kernel)
theorem w_282 : Cond.fieldLink RX10 17 "Pagerloom" "nowHour" "I" ∈ WT := WT_in (List.mem_of_getElem? (i := 282) (by decide +kernel)) (by decide +kernel)
theorem w_483 : Cond.methodLink RX10 128 yX10_isIn ∈ WT := WT_in (List.mem_of_getElem? (i := 483) (by decide +kernel)) (by decide +kernel)
theorem w_342 : Cond.static yX10_isIn ∈ WT := WT_in (List.mem_of_getElem? (i := 342) (by decide +kernel)) (by decide +kernel)
theorem w_36 : Cond.initialized RX10 ∈ WT := WT_in (List.mem_of_getElem? (i := 36) (by decide +kernel)) (by decide +kernel)
theorem w_343 : Cond.code yX10_isIn cX10_isIn 3 (some .boolean) ∈ WT := WT_in (List.mem_of_getElem? (i := 343) (by decide +kernel)) (by decide +kernel)
theorem w_767 : Cond.methodLink RX10 98 yX10_isRange ∈ WT := WT_in (List.mem_of_getElem? (i := 767) (by decide +kernel)) (by decide +kernel)
theorem w_537 : Cond.static yX10_isRange ∈ WT := WT_in (List.mem_of_getElem? (i := 537) (by decide +kernel)) (by decide +kernel)
theorem w_538 : Cond.code yX10_isRange cX10_isRange 4 (some .boolean) ∈ WT := WT_in (List.mem_of_getElem? (i := 538) (by decide +kernel)) (by decide +kernel)
theorem w_286 : Cond.fieldLink RX10 39 "Pagerloom" "rota" "LPagerloom$Rota;" ∈ WT := WT_in (List.mem_of_getElem? (i := 286) (by decide +kernel)) (by decide +kernel)
theorem w_121 : Cond.fieldLink RX10 153 "Pagerloom$Rota" "people" "I" ∈ WT := WT_in (List.mem_of_getElem? (i := 121) (by decide +kernel)) (by decide +kernel)
theorem w_120 : Cond.fieldLink RX5 9 "Pagerloom$Rota" "people" "I" ∈ WT := WT_in (List.mem_of_getElem? (i := 120) (by decide +kernel)) (by decide +kernel)
theorem w_616 : Cond.methodLink RX10 158 yX5_hasPerson ∈ WT := WT_in (List.mem_of_getElem? (i := 616) (by decide +kernel)) (by decide +kernel)
theorem w_617 : Cond.instanceMethod yX5_hasPerson ∈ WT := WT_in (List.mem_of_getElem? (i := 617) (by decide +kernel)) (by decide +kernel)
theorem w_618 : Cond.selects RX5 yX5_hasPerson yX5_hasPerson ∈ WT := WT_in (List.mem_of_getElem? (i := 618) (by decide +kernel)) (by decide +kernel)
theorem w_38 : Cond.initialized RX5 ∈ WT := WT_in (List.mem_of_getElem? (i := 38) (by decide +kernel)) (by decide +kernel)
theorem w_619 : Cond.code yX5_hasPerson cX5_hasPerson 2 (some .boolean) ∈ WT := WT_in (List.mem_of_getElem? (i := 619) (by decide +kernel)) (by decide +kernel)
theorem w_325 : Cond.methodLink RX10 167 yX10_isToCome ∈ WT := WT_in (List.mem_of_getElem? (i := 325) (by decide +kernel)) (by decide +kernel)
theorem w_327 : Cond.instanceMethod yX10_isToCome ∈ WT := WT_in (List.mem_of_getElem? (i := 327) (by decide +kernel)) (by decide +kernel)
theorem w_0 : Cond.selects RX10 yX10_isToCome yX10_isToCome ∈ WT := WT_in (List.mem_of_getElem? (i := 0) (by decide +kernel)) (by decide +kernel)
theorem w_328 : Cond.code yX10_isToCome cX10_isToCome 2 (some .boolean) ∈ WT := WT_in (List.mem_of_getElem? (i := 328) (by decide +kernel)) (by decide +kernel)
theorem wn_341 : Cond.methodLinkNest RX5 40 yX10_isIn "Pagerloom" ∈ tables_1 := List.mem_of_getElem? (i := 306) (by decide +kernel)
theorem w_122 : Cond.fieldLink RX5 15 "Pagerloom$Rota" "swapped" "[I" ∈ WT := WT_in (List.mem_of_getElem? (i := 122) (by decide +kernel)) (by decide +kernel)
theorem w_337 : Cond.methodLink RX5 48 yX5_plannedFor ∈ WT := WT_in (List.mem_of_getElem? (i := 337) (by decide +kernel)) (by decide +kernel)
theorem w_338 : Cond.instanceMethod yX5_plannedFor ∈ WT := WT_in (List.mem_of_getElem? (i := 338) (by decide +kernel)) (by decide +kernel)
theorem w_339 : Cond.selects RX5 yX5_plannedFor yX5_plannedFor ∈ WT := WT_in (List.mem_of_getElem? (i := 339) (by decide +kernel)) (by decide +kernel)
theorem w_340 : Cond.code yX5_plannedFor cX5_plannedFor 2 (some .int) ∈ WT := WT_in (List.mem_of_getElem? (i := 340) (by decide +kernel)) (by decide +kernel)
theorem wn_344 : Cond.methodLinkNest RX5 55 yX10_isNight "Pagerloom" ∈ tables_1 := List.mem_of_getElem? (i := 309) (by decide +kernel)
theorem w_345 : Cond.static yX10_isNight ∈ WT := WT_in (List.mem_of_getElem? (i := 345) (by decide +kernel)) (by decide +kernel)
theorem w_346 : Cond.code yX10_isNight cX10_isNight 1 (some .boolean) ∈ WT := WT_in (List.mem_of_getElem? (i := 346) (by decide +kernel)) (by decide +kernel)
theorem w_123 : Cond.fieldLink RX5 19 "Pagerloom$Rota" "offs" "[I" ∈ WT := WT_in (List.mem_of_getElem? (i := 123) (by decide +kernel)) (by decide +kernel)
theorem w_347 : Cond.methodLink RX5 51 yX5_isOff ∈ WT := WT_in (List.mem_of_getElem? (i := 347) (by decide +kernel)) (by decide +kernel)
theorem w_348 : Cond.instanceMethod yX5_isOff ∈ WT := WT_in (List.mem_of_getElem? (i := 348) (by decide +kernel)) (by decide +kernel)
theorem w_349 : Cond.selects RX5 yX5_isOff yX5_isOff ∈ WT := WT_in (List.mem_of_getElem? (i := 349) (by decide +kernel)) (by decide +kernel)
theorem w_350 : Cond.code yX5_isOff cX5_isOff 3 (some .boolean) ∈ WT := WT_in (List.mem_of_getElem? (i := 350) (by decide +kernel)) (by decide +kernel)
theorem w_127 : Cond.fieldLink RX5 31 "Pagerloom$Rota" "debts" "I" ∈ WT := WT_in (List.mem_of_getElem? (i := 127) (by decide +kernel)) (by decide +kernel)
theorem w_125 : Cond.fieldLink RX5 25 "Pagerloom$Rota" "debtors" "[I" ∈ WT := WT_in (List.mem_of_getElem? (i := 125) (by decide +kernel)) (by decide +kernel)
theorem w_126 : Cond.fieldLink RX5 28 "Pagerloom$Rota" "creditors" "[I" ∈ WT := WT_in (List.mem_of_getElem? (i := 126) (by decide +kernel)) (by decide +kernel)
theorem w_333 : Cond.methodLink RX5 44 yX5_debtPaidIn ∈ WT := WT_in (List.mem_of_getElem? (i := 333) (by decide +kernel)) (by decide +kernel)
theorem w_335 : Cond.instanceMethod yX5_debtPaidIn ∈ WT := WT_in (List.mem_of_getElem? (i := 335) (by decide +kernel)) (by decide +kernel)
theorem w_1 : Cond.selects RX5 yX5_debtPaidIn yX5_debtPaidIn ∈ WT := WT_in (List.mem_of_getElem? (i := 1) (by decide +kernel)) (by decide +kernel)
theorem w_336 : Cond.code yX5_debtPaidIn cX5_debtPaidIn 4 (some .int) ∈ WT := WT_in (List.mem_of_getElem? (i := 336) (by decide +kernel)) (by decide +kernel)
theorem w_329 : Cond.methodLink RX10 193 yX5_holderToBe ∈ WT := WT_in (List.mem_of_getElem? (i := 329) (by decide +kernel)) (by decide +kernel)
theorem w_330 : Cond.instanceMethod yX5_holderToBe ∈ WT := WT_in (List.mem_of_getElem? (i := 330) (by decide +kernel)) (by decide +kernel)
theorem w_331 : Cond.selects RX5 yX5_holderToBe yX5_holderToBe ∈ WT := WT_in (List.mem_of_getElem? (i := 331) (by decide +kernel)) (by decide +kernel)
theorem w_332 : Cond.code yX5_holderToBe cX5_holderToBe 6 (some .int) ∈ WT := WT_in (List.mem_of_getElem? (i := 332) (by decide +kernel)) (by decide +kernel)
theorem w_284 : Cond.fieldLink RX10 26 "Pagerloom" "ruleCount" "I" ∈ WT := WT_in (List.mem_of_getElem? (i := 284) (by decide +kernel)) (by decide +kernel)
theorem w_283 : Cond.fieldLink RX10 22 "Pagerloom" "rules" "[LPagerloom$Rule;" ∈ WT := WT_in (List.mem_of_getElem? (i := 283) (by decide +kernel)) (by decide +kernel)
theorem w_355 : Cond.methodLink RX10 213 yX10_ruleAt ∈ WT := WT_in (List.mem_of_getElem? (i := 355) (by decide +kernel)) (by decide +kernel)
theorem w_357 : Cond.instanceMethod yX10_ruleAt ∈ WT := WT_in (List.mem_of_getElem? (i := 357) (by decide +kernel)) (by decide +kernel)
theorem w_2 : Cond.selects RX10 yX10_ruleAt yX10_ruleAt ∈ WT := WT_in (List.mem_of_getElem? (i := 2) (by decide +kernel)) (by decide +kernel)
theorem w_358 : Cond.code yX10_ruleAt cX10_ruleAt 2 (some (.object "Pagerloom$Rule")) ∈ WT := WT_in (List.mem_of_getElem? (i := 358) (by decide +kernel)) (by decide +kernel)
theorem w_287 : Cond.fieldLink RX10 46 "Pagerloom" "alarmList" "LPagerloom$Alarms;" ∈ WT := WT_in (List.mem_of_getElem? (i := 287) (by decide +kernel)) (by decide +kernel)
theorem w_161 : Cond.fieldLink RX10 136 "Pagerloom$Alarms" "count" "I" ∈ WT := WT_in (List.mem_of_getElem? (i := 161) (by decide +kernel)) (by decide +kernel)
theorem w_163 : Cond.fieldLink RX10 253 "Pagerloom$Alarms" "wokenCount" "I" ∈ WT := WT_in (List.mem_of_getElem? (i := 163) (by decide +kernel)) (by decide +kernel)
theorem w_160 : Cond.fieldLink RX0 28 "Pagerloom$Alarms" "count" "I" ∈ WT := WT_in (List.mem_of_getElem? (i := 160) (by decide +kernel)) (by decide +kernel)
theorem w_778 : Cond.methodLink RX10 256 yX0_has ∈ WT := WT_in (List.mem_of_getElem? (i := 778) (by decide +kernel)) (by decide +kernel)
theorem w_779 : Cond.instanceMethod yX0_has ∈ WT := WT_in (List.mem_of_getElem? (i := 779) (by decide +kernel)) (by decide +kernel)
theorem w_780 : Cond.selects RX0 yX0_has yX0_has ∈ WT := WT_in (List.mem_of_getElem? (i := 780) (by decide +kernel)) (by decide +kernel)
theorem w_40 : Cond.initialized RX0 ∈ WT := WT_in (List.mem_of_getElem? (i := 40) (by decide +kernel)) (by decide +kernel)
theorem w_781 : Cond.code yX0_has cX0_has 2 (some .boolean) ∈ WT := WT_in (List.mem_of_getElem? (i := 781) (by decide +kernel)) (by decide +kernel)
theorem w_124 : Cond.fieldLink RX5 22 "Pagerloom$Rota" "holders" "[I" ∈ WT := WT_in (List.mem_of_getElem? (i := 124) (by decide +kernel)) (by decide +kernel)
theorem w_494 : Cond.methodLink RX5 59 yX5_holderToBe ∈ WT := WT_in (List.mem_of_getElem? (i := 494) (by decide +kernel)) (by decide +kernel)
theorem w_495 : Cond.methodLink RX5 62 yX5_forgetDebt ∈ WT := WT_in (List.mem_of_getElem? (i := 495) (by decide +kernel)) (by decide +kernel)
theorem w_497 : Cond.instanceMethod yX5_forgetDebt ∈ WT := WT_in (List.mem_of_getElem? (i := 497) (by decide +kernel)) (by decide +kernel)
theorem w_5 : Cond.selects RX5 yX5_forgetDebt yX5_forgetDebt ∈ WT := WT_in (List.mem_of_getElem? (i := 5) (by decide +kernel)) (by decide +kernel)
theorem w_498 : Cond.code yX5_forgetDebt cX5_forgetDebt 3 none ∈ WT := WT_in (List.mem_of_getElem? (i := 498) (by decide +kernel)) (by decide +kernel)
theorem w_490 : Cond.methodLink RX10 300 yX5_begin ∈ WT := WT_in (List.mem_of_getElem? (i := 490) (by decide +kernel)) (by decide +kernel)
theorem w_491 : Cond.instanceMethod yX5_begin ∈ WT := WT_in (List.mem_of_getElem? (i := 491) (by decide +kernel)) (by decide +kernel)
theorem w_492 : Cond.selects RX5 yX5_begin yX5_begin ∈ WT := WT_in (List.mem_of_getElem? (i := 492) (by decide +kernel)) (by decide +kernel)
theorem w_493 : Cond.code yX5_begin cX5_begin 3 none ∈ WT := WT_in (List.mem_of_getElem? (i := 493) (by decide +kernel)) (by decide +kernel)
theorem w_499 : Cond.methodLink RX10 196 yX5_holderOf ∈ WT := WT_in (List.mem_of_getElem? (i := 499) (by decide +kernel)) (by decide +kernel)
theorem w_500 : Cond.instanceMethod yX5_holderOf ∈ WT := WT_in (List.mem_of_getElem? (i := 500) (by decide +kernel)) (by decide +kernel)
theorem w_501 : Cond.selects RX5 yX5_holderOf yX5_holderOf ∈ WT := WT_in (List.mem_of_getElem? (i := 501) (by decide +kernel)) (by decide +kernel)
theorem w_502 : Cond.code yX5_holderOf cX5_holderOf 2 (some .int) ∈ WT := WT_in (List.mem_of_getElem? (i := 502) (by decide +kernel)) (by decide +kernel)
theorem w_162 : Cond.fieldLink RX0 32 "Pagerloom$Alarms" "wokenCount" "I" ∈ WT := WT_in (List.mem_of_getElem? (i := 162) (by decide +kernel)) (by decide +kernel)
theorem w_507 : Cond.methodLink RX0 39 Lib.Math.max.name ∈ WT := WT_in (List.mem_of_getElem? (i := 507) (by decide +kernel)) (by decide +kernel)
theorem w_508 : Cond.static Lib.Math.max.name ∈ WT := WT_in (List.mem_of_getElem? (i := 508) (by decide +kernel)) (by decide +kernel)
theorem w_51 : Cond.initialized "java/lang/Math" ∈ WT := WT_in (List.mem_of_getElem? (i := 51) (by decide +kernel)) (by decide +kernel)
theorem w_154 : Cond.fieldLink RX0 18 "Pagerloom$Alarms" "woken" "[I" ∈ WT := WT_in (List.mem_of_getElem? (i := 154) (by decide +kernel)) (by decide +kernel)
theorem w_156 : Cond.fieldLink RX0 21 "Pagerloom$Alarms" "wokenIn" "[I" ∈ WT := WT_in (List.mem_of_getElem? (i := 156) (by decide +kernel)) (by decide +kernel)
theorem w_503 : Cond.methodLink RX10 303 yX0_wakeAll ∈ WT := WT_in (List.mem_of_getElem? (i := 503) (by decide +kernel)) (by decide +kernel)
theorem w_504 : Cond.instanceMethod yX0_wakeAll ∈ WT := WT_in (List.mem_of_getElem? (i := 504) (by decide +kernel)) (by decide +kernel)
theorem w_505 : Cond.selects RX0 yX0_wakeAll yX0_wakeAll ∈ WT := WT_in (List.mem_of_getElem? (i := 505) (by decide +kernel)) (by decide +kernel)
theorem w_506 : Cond.code yX0_wakeAll cX0_wakeAll 4 none ∈ WT := WT_in (List.mem_of_getElem? (i := 506) (by decide +kernel)) (by decide +kernel)
theorem w_725 : Cond.fieldLink RX6 9 "Pagerloom$Rule" "lastHour" "I" ∈ WT := WT_in (List.mem_of_getElem? (i := 725) (by decide +kernel)) (by decide +kernel)
theorem w_510 : Cond.methodLink RX10 219 yX6_isDropped ∈ WT := WT_in (List.mem_of_getElem? (i := 510) (by decide +kernel)) (by decide +kernel)
theorem w_511 : Cond.instanceMethod yX6_isDropped ∈ WT := WT_in (List.mem_of_getElem? (i := 511) (by decide +kernel)) (by decide +kernel)
theorem w_512 : Cond.selects RX6 yX6_isDropped yX6_isDropped ∈ WT := WT_in (List.mem_of_getElem? (i := 512) (by decide +kernel)) (by decide +kernel)
theorem w_54 : Cond.initialized RX6 ∈ WT := WT_in (List.mem_of_getElem? (i := 54) (by decide +kernel)) (by decide +kernel)
theorem w_513 : Cond.code yX6_isDropped cX6_isDropped 1 (some .boolean) ∈ WT := WT_in (List.mem_of_getElem? (i := 513) (by decide +kernel)) (by decide +kernel)
theorem w_734 : Cond.fieldLink RX10 306 "Pagerloom$Rule" "lastRise" "I" ∈ WT := WT_in (List.mem_of_getElem? (i := 734) (by decide +kernel)) (by decide +kernel)
theorem w_722 : Cond.fieldLink RX6 41 "Pagerloom$Rule" "rest" "I" ∈ WT := WT_in (List.mem_of_getElem? (i := 722) (by decide +kernel)) (by decide +kernel)
theorem w_518 : Cond.methodLink RX10 311 yX6_hasRested ∈ WT := WT_in (List.mem_of_getElem? (i := 518) (by decide +kernel)) (by decide +kernel)
theorem w_519 : Cond.instanceMethod yX6_hasRested ∈ WT := WT_in (List.mem_of_getElem? (i := 519) (by decide +kernel)) (by decide +kernel)
theorem w_520 : Cond.selects RX6 yX6_hasRested yX6_hasRested ∈ WT := WT_in (List.mem_of_getElem? (i := 520) (by decide +kernel)) (by decide +kernel)
theorem w_521 : Cond.code yX6_hasRested cX6_hasRested 3 (some .boolean) ∈ WT := WT_in (List.mem_of_getElem? (i := 521) (by decide +kernel)) (by decide +kernel)
theorem w_729 : Cond.fieldLink RX6 22 "Pagerloom$Rule" "silences" "I" ∈ WT := WT_in (List.mem_of_getElem? (i := 729) (by decide +kernel)) (by decide +kernel)
theorem w_727 : Cond.fieldLink RX6 15 "Pagerloom$Rule" "silentFrom" "[I" ∈ WT := WT_in (List.mem_of_getElem? (i := 727) (by decide +kernel)) (by decide +kernel)
theorem w_728 : Cond.fieldLink RX6 19 "Pagerloom$Rule" "silentTo" "[I" ∈ WT := WT_in (List.mem_of_getElem? (i := 728) (by decide +kernel)) (by decide +kernel)
theorem wn_526 : Cond.methodLinkNest RX6 47 yX10_isIn "Pagerloom" ∈ tables_1 := List.mem_of_getElem? (i := 491) (by decide +kernel)
theorem w_522 : Cond.methodLink RX10 314 yX6_isSilentIn ∈ WT := WT_in (List.mem_of_getElem? (i := 522) (by decide +kernel)) (by decide +kernel)
theorem w_523 : Cond.instanceMethod yX6_isSilentIn ∈ WT := WT_in (List.mem_of_getElem? (i := 523) (by decide +kernel)) (by decide +kernel)
theorem w_524 : Cond.selects RX6 yX6_isSilentIn yX6_isSilentIn ∈ WT := WT_in (List.mem_of_getElem? (i := 524) (by decide +kernel)) (by decide +kernel)
theorem w_525 : Cond.code yX6_isSilentIn cX6_isSilentIn 3 (some .boolean) ∈ WT := WT_in (List.mem_of_getElem? (i := 525) (by decide +kernel)) (by decide +kernel)
theorem w_285 : Cond.fieldLink RX10 32 "Pagerloom" "logs" "LPagerloom$Logs;" ∈ WT := WT_in (List.mem_of_getElem? (i := 285) (by decide +kernel)) (by decide +kernel)
theorem w_721 : Cond.fieldLink RX10 317 "Pagerloom$Rule" "window" "I" ∈ WT := WT_in (List.mem_of_getElem? (i := 721) (by decide +kernel)) (by decide +kernel)
theorem w_531 : Cond.methodLink RX10 320 Lib.Math.max.name ∈ WT := WT_in (List.mem_of_getElem? (i := 531) (by decide +kernel)) (by decide +kernel)
theorem w_84 : Cond.fieldLink RX2 40 "Pagerloom$Logs" "picks" "I" ∈ WT := WT_in (List.mem_of_getElem? (i := 84) (by decide +kernel)) (by decide +kernel)
theorem wn_536 : Cond.methodLinkNest RX2 51 yX10_isRange "Pagerloom" ∈ tables_1 := List.mem_of_getElem? (i := 501) (by decide +kernel)
theorem w_78 : Cond.fieldLink RX2 30 "Pagerloom$Logs" "ahead" "[I" ∈ WT := WT_in (List.mem_of_getElem? (i := 78) (by decide +kernel)) (by decide +kernel)
theorem w_82 : Cond.fieldLink RX2 36 "Pagerloom$Logs" "count" "I" ∈ WT := WT_in (List.mem_of_getElem? (i := 82) (by decide +kernel)) (by decide +kernel)
theorem w_539 : Cond.methodLink RX2 55 Lib.Math.min.name ∈ WT := WT_in (List.mem_of_getElem? (i := 539) (by decide +kernel)) (by decide +kernel)
theorem w_540 : Cond.static Lib.Math.min.name ∈ WT := WT_in (List.mem_of_getElem? (i := 540) (by decide +kernel)) (by decide +kernel)
theorem w_542 : Cond.methodLink RX2 61 Lib.Math.max.name ∈ WT := WT_in (List.mem_of_getElem? (i := 542) (by decide +kernel)) (by decide +kernel)
theorem w_77 : Cond.fieldLink RX2 27 "Pagerloom$Logs" "order" "[I" ∈ WT := WT_in (List.mem_of_getElem? (i := 77) (by decide +kernel)) (by decide +kernel)
theorem wn_543 : Cond.methodLinkNest RX2 43 yX10_isIn "Pagerloom" ∈ tables_1 := List.mem_of_getElem? (i := 508) (by decide +kernel)
theorem w_76 : Cond.fieldLink RX2 24 "Pagerloom$Logs" "toldIn" "[I" ∈ WT := WT_in (List.mem_of_getElem? (i := 76) (by decide +kernel)) (by decide +kernel)
theorem w_79 : Cond.fieldLink RX2 33 "Pagerloom$Logs" "picked" "[I" ∈ WT := WT_in (List.mem_of_getElem? (i := 79) (by decide +kernel)) (by decide +kernel)
theorem w_532 : Cond.methodLink RX10 106 yX2_pick ∈ WT := WT_in (List.mem_of_getElem? (i := 532) (by decide +kernel)) (by decide +kernel)
theorem w_533 : Cond.instanceMethod yX2_pick ∈ WT := WT_in (List.mem_of_getElem? (i := 533) (by decide +kernel)) (by decide +kernel)
theorem w_534 : Cond.selects RX2 yX2_pick yX2_pick ∈ WT := WT_in (List.mem_of_getElem? (i := 534) (by decide +kernel)) (by decide +kernel)
theorem w_37 : Cond.initialized RX2 ∈ WT := WT_in (List.mem_of_getElem? (i := 37) (by decide +kernel)) (by decide +kernel)
theorem w_535 : Cond.code yX2_pick cX2_pick 7 none ∈ WT := WT_in (List.mem_of_getElem? (i := 535) (by decide +kernel)) (by decide +kernel)
theorem w_527 : Cond.methodLink RX10 239 yX10_pickWindow ∈ WT := WT_in (List.mem_of_getElem? (i := 527) (by decide +kernel)) (by decide +kernel)
theorem w_529 : Cond.instanceMethod yX10_pickWindow ∈ WT := WT_in (List.mem_of_getElem? (i := 529) (by decide +kernel)) (by decide +kernel)
theorem w_7 : Cond.selects RX10 yX10_pickWindow yX10_pickWindow ∈ WT := WT_in (List.mem_of_getElem? (i := 7) (by decide +kernel)) (by decide +kernel)
theorem w_530 : Cond.code yX10_pickWindow cX10_pickWindow 4 none ∈ WT := WT_in (List.mem_of_getElem? (i := 530) (by decide +kernel)) (by decide +kernel)
theorem w_290 : Cond.fieldLink RX10 67 "Pagerloom" "walker" "LPagerloom$Walker;" ∈ WT := WT_in (List.mem_of_getElem? (i := 290) (by decide +kernel)) (by decide +kernel)
theorem w_717 : Cond.fieldLink RX10 296 "Pagerloom$Rule" "question" "LPagerloom$Node;" ∈ WT := WT_in (List.mem_of_getElem? (i := 717) (by decide +kernel)) (by decide +kernel)
theorem w_658 : Cond.fieldLink RX9 22 "Pagerloom$Node" "kind" "I" ∈ WT := WT_in (List.mem_of_getElem? (i := 658) (by decide +kernel)) (by decide +kernel)
theorem wn_552 : Cond.methodLinkNest RX9 28 yX10_isField "Pagerloom" ∈ tables_1 := List.mem_of_getElem? (i := 517) (by decide +kernel)
theorem w_553 : Cond.static yX10_isField ∈ WT := WT_in (List.mem_of_getElem? (i := 553) (by decide +kernel)) (by decide +kernel)
theorem w_554 : Cond.code yX10_isField cX10_isField 1 (some .boolean) ∈ WT := WT_in (List.mem_of_getElem? (i := 554) (by decide +kernel)) (by decide +kernel)
theorem wn_559 : Cond.methodLinkNest RX9 38 yX10_isAggregate "Pagerloom" ∈ tables_1 := List.mem_of_getElem? (i := 524) (by decide +kernel)
theorem w_560 : Cond.static yX10_isAggregate ∈ WT := WT_in (List.mem_of_getElem? (i := 560) (by decide +kernel)) (by decide +kernel)
theorem w_561 : Cond.code yX10_isAggregate cX10_isAggregate 1 (some .boolean) ∈ WT := WT_in (List.mem_of_getElem? (i := 561) (by decide +kernel)) (by decide +kernel)
theorem w_662 : Cond.fieldLink RX9 48 "Pagerloom$Node" "left" "LPagerloom$Node;" ∈ WT := WT_in (List.mem_of_getElem? (i := 662) (by decide +kernel)) (by decide +kernel)
theorem w_151 : Cond.fieldLink RX10 261 "Pagerloom$Alarms" "rules" "[I" ∈ WT := WT_in (List.mem_of_getElem? (i := 151) (by decide +kernel)) (by decide +kernel)
theorem w_155 : Cond.fieldLink RX10 269 "Pagerloom$Alarms" "woken" "[I" ∈ WT := WT_in (List.mem_of_getElem? (i := 155) (by decide +kernel)) (by decide +kernel)
theorem w_719 : Cond.fieldLink RX10 325 "Pagerloom$Rule" "owner" "I" ∈ WT := WT_in (List.mem_of_getElem? (i := 719) (by decide +kernel)) (by decide +kernel)
theorem w_793 : Cond.methodLink RX10 328 yX5_addDebt ∈ WT := WT_in (List.mem_of_getElem? (i := 793) (by decide +kernel)) (by decide +kernel)
theorem w_794 : Cond.instanceMethod yX5_addDebt ∈ WT := WT_in (List.mem_of_getElem? (i := 794) (by decide +kernel)) (by decide +kernel)
theorem w_795 : Cond.selects RX5 yX5_addDebt yX5_addDebt ∈ WT := WT_in (List.mem_of_getElem? (i := 795) (by decide +kernel)) (by decide +kernel)
theorem w_796 : Cond.code yX5_addDebt cX5_addDebt 3 none ∈ WT := WT_in (List.mem_of_getElem? (i := 796) (by decide +kernel)) (by decide +kernel)
theorem wn_591 : Cond.methodLinkNest RX0 35 yX10_isIn "Pagerloom" ∈ tables_1 := List.mem_of_getElem? (i := 556) (by decide +kernel)
theorem w_150 : Cond.fieldLink RX0 9 "Pagerloom$Alarms" "rules" "[I" ∈ WT := WT_in (List.mem_of_getElem? (i := 150) (by decide +kernel)) (by decide +kernel)
theorem w_152 : Cond.fieldLink RX0 15 "Pagerloom$Alarms" "hours" "[I" ∈ WT := WT_in (List.mem_of_getElem? (i := 152) (by decide +kernel)) (by decide +kernel)
theorem w_204 : Cond.fieldLink RX1 15 "Pagerloom$Coder" "size" "I" ∈ WT := WT_in (List.mem_of_getElem? (i := 204) (by decide +kernel)) (by decide +kernel)
theorem w_208 : Cond.fieldLink RX1 25 "Pagerloom$Coder" "high" "I" ∈ WT := WT_in (List.mem_of_getElem? (i := 208) (by decide +kernel)) (by decide +kernel)
theorem w_209 : Cond.fieldLink RX1 28 "Pagerloom$Coder" "isBehindPart" "Z" ∈ WT := WT_in (List.mem_of_getElem? (i := 209) (by decide +kernel)) (by decide +kernel)
theorem w_206 : Cond.fieldLink RX1 19 "Pagerloom$Coder" "pile" "[I" ∈ WT := WT_in (List.mem_of_getElem? (i := 206) (by decide +kernel)) (by decide +kernel)
theorem wn_912 : Cond.methodLinkNest RX1 74 yX10_isIn "Pagerloom" ∈ tables_1 := List.mem_of_getElem? (i := 877) (by decide +kernel)
theorem w_931 : Cond.methodLink RX1 78 yX1_rankOf ∈ WT := WT_in (List.mem_of_getElem? (i := 931) (by decide +kernel)) (by decide +kernel)
theorem w_932 : Cond.static yX1_rankOf ∈ WT := WT_in (List.mem_of_getElem? (i := 932) (by decide +kernel)) (by decide +kernel)
theorem w_42 : Cond.initialized RX1 ∈ WT := WT_in (List.mem_of_getElem? (i := 42) (by decide +kernel)) (by decide +kernel)
theorem w_933 : Cond.code yX1_rankOf cX1_rankOf 1 (some .int) ∈ WT := WT_in (List.mem_of_getElem? (i := 933) (by decide +kernel)) (by decide +kernel)
theorem w_202 : Cond.fieldLink RX1 9 "Pagerloom$Coder" "codes" "[I" ∈ WT := WT_in (List.mem_of_getElem? (i := 202) (by decide +kernel)) (by decide +kernel)
theorem w_908 : Cond.methodLink RX1 62 yX1_put ∈ WT := WT_in (List.mem_of_getElem? (i := 908) (by decide +kernel)) (by decide +kernel)
theorem w_910 : Cond.instanceMethod yX1_put ∈ WT := WT_in (List.mem_of_getElem? (i := 910) (by decide +kernel)) (by decide +kernel)
theorem w_24 : Cond.selects RX1 yX1_put yX1_put ∈ WT := WT_in (List.mem_of_getElem? (i := 24) (by decide +kernel)) (by decide +kernel)
theorem w_911 : Cond.code yX1_put cX1_put 2 none ∈ WT := WT_in (List.mem_of_getElem? (i := 911) (by decide +kernel)) (by decide +kernel)
theorem w_927 : Cond.methodLink RX1 42 yX1_settle ∈ WT := WT_in (List.mem_of_getElem? (i := 927) (by decide +kernel)) (by decide +kernel)
theorem w_929 : Cond.instanceMethod yX1_settle ∈ WT := WT_in (List.mem_of_getElem? (i := 929) (by decide +kernel)) (by decide +kernel)
theorem w_28 : Cond.selects RX1 yX1_settle yX1_settle ∈ WT := WT_in (List.mem_of_getElem? (i := 28) (by decide +kernel)) (by decide +kernel)
theorem w_930 : Cond.code yX1_settle cX1_settle 2 none ∈ WT := WT_in (List.mem_of_getElem? (i := 930) (by decide +kernel)) (by decide +kernel)
theorem w_898 : Cond.methodLink RX1 32 Lib.Math.min.name ∈ WT := WT_in (List.mem_of_getElem? (i := 898) (by decide +kernel)) (by decide +kernel)
theorem wn_903 : Cond.methodLinkNest RX1 46 yX10_isDigit "Pagerloom" ∈ tables_1 := List.mem_of_getElem? (i := 868) (by decide +kernel)
theorem w_693 : Cond.static yX10_isDigit ∈ WT := WT_in (List.mem_of_getElem? (i := 693) (by decide +kernel)) (by decide +kernel)
theorem w_694 : Cond.code yX10_isDigit cX10_isDigit 1 (some .boolean) ∈ WT := WT_in (List.mem_of_getElem? (i := 694) (by decide +kernel)) (by decide +kernel)
theorem wn_913 : Cond.methodLinkNest RX1 53 yX10_isAggregate "Pagerloom" ∈ tables_1 := List.mem_of_getElem? (i := 878) (by decide +kernel)
theorem wn_922 : Cond.methodLinkNest RX1 59 yX10_isField "Pagerloom" ∈ tables_1 := List.mem_of_getElem? (i := 887) (by decide +kernel)
theorem w_207 : Cond.fieldLink RX1 22 "Pagerloom$Coder" "starts" "[I" ∈ WT := WT_in (List.mem_of_getElem? (i := 207) (by decide +kernel)) (by decide +kernel)
theorem w_918 : Cond.methodLink RX1 65 yX1_push ∈ WT := WT_in (List.mem_of_getElem? (i := 918) (by decide +kernel)) (by decide +kernel)
theorem w_920 : Cond.instanceMethod yX1_push ∈ WT := WT_in (List.mem_of_getElem? (i := 920) (by decide +kernel)) (by decide +kernel)
theorem w_26 : Cond.selects RX1 yX1_push yX1_push ∈ WT := WT_in (List.mem_of_getElem? (i := 26) (by decide +kernel)) (by decide +kernel)
theorem w_921 : Cond.code yX1_push cX1_push 2 none ∈ WT := WT_in (List.mem_of_getElem? (i := 921) (by decide +kernel)) (by decide +kernel)
theorem w_923 : Cond.methodLink RX1 68 yX1_close ∈ WT := WT_in (List.mem_of_getElem? (i := 923) (by decide +kernel)) (by decide +kernel)
theorem w_925 : Cond.instanceMethod yX1_close ∈ WT := WT_in (List.mem_of_getElem? (i := 925) (by decide +kernel)) (by decide +kernel)
theorem w_27 : Cond.selects RX1 yX1_close yX1_close ∈ WT := WT_in (List.mem_of_getElem? (i := 27) (by decide +kernel)) (by decide +kernel)
theorem w_926 : Cond.code yX1_close cX1_close 2 none ∈ WT := WT_in (List.mem_of_getElem? (i := 926) (by decide +kernel)) (by decide +kernel)
theorem w_934 : Cond.methodLink RX1 71 yX1_turnSign ∈ WT := WT_in (List.mem_of_getElem? (i := 934) (by decide +kernel)) (by decide +kernel)
theorem w_936 : Cond.instanceMethod yX1_turnSign ∈ WT := WT_in (List.mem_of_getElem? (i := 936) (by decide +kernel)) (by decide +kernel)
theorem w_29 : Cond.selects RX1 yX1_turnSign yX1_turnSign ∈ WT := WT_in (List.mem_of_getElem? (i := 29) (by decide +kernel)) (by decide +kernel)
theorem w_937 : Cond.code yX1_turnSign cX1_turnSign 3 none ∈ WT := WT_in (List.mem_of_getElem? (i := 937) (by decide +kernel)) (by decide +kernel)
theorem w_914 : Cond.methodLink RX1 56 yX1_openAggregate ∈ WT := WT_in (List.mem_of_getElem? (i := 914) (by decide +kernel)) (by decide +kernel)
theorem w_916 : Cond.instanceMethod yX1_openAggregate ∈ WT := WT_in (List.mem_of_getElem? (i := 916) (by decide +kernel)) (by decide +kernel)
theorem w_25 : Cond.selects RX1 yX1_openAggregate yX1_openAggregate ∈ WT := WT_in (List.mem_of_getElem? (i := 25) (by decide +kernel)) (by decide +kernel)
theorem w_917 : Cond.code yX1_openAggregate cX1_openAggregate 7 (some .int) ∈ WT := WT_in (List.mem_of_getElem? (i := 917) (by decide +kernel)) (by decide +kernel)
theorem w_904 : Cond.methodLink RX1 50 yX1_turnNumber ∈ WT := WT_in (List.mem_of_getElem? (i := 904) (by decide +kernel)) (by decide +kernel)
theorem w_906 : Cond.instanceMethod yX1_turnNumber ∈ WT := WT_in (List.mem_of_getElem? (i := 906) (by decide +kernel)) (by decide +kernel)
theorem w_23 : Cond.selects RX1 yX1_turnNumber yX1_turnNumber ∈ WT := WT_in (List.mem_of_getElem? (i := 23) (by decide +kernel)) (by decide +kernel)
theorem w_907 : Cond.code yX1_turnNumber cX1_turnNumber 6 (some .int) ∈ WT := WT_in (List.mem_of_getElem? (i := 907) (by decide +kernel)) (by decide +kernel)
theorem w_899 : Cond.methodLink RX1 38 yX1_turnPart ∈ WT := WT_in (List.mem_of_getElem? (i := 899) (by decide +kernel)) (by decide +kernel)
theorem w_901 : Cond.instanceMethod yX1_turnPart ∈ WT := WT_in (List.mem_of_getElem? (i := 901) (by decide +kernel)) (by decide +kernel)
theorem w_22 : Cond.selects RX1 yX1_turnPart yX1_turnPart ∈ WT := WT_in (List.mem_of_getElem? (i := 22) (by decide +kernel)) (by decide +kernel)
theorem w_902 : Cond.code yX1_turnPart cX1_turnPart 5 (some .int) ∈ WT := WT_in (List.mem_of_getElem? (i := 902) (by decide +kernel)) (by decide +kernel)
theorem w_72 : Cond.fieldLink RX2 9 "Pagerloom$Logs" "parts" "[I" ∈ WT := WT_in (List.mem_of_getElem? (i := 72) (by decide +kernel)) (by decide +kernel)
theorem w_73 : Cond.fieldLink RX2 15 "Pagerloom$Logs" "levels" "[I" ∈ WT := WT_in (List.mem_of_getElem? (i := 73) (by decide +kernel)) (by decide +kernel)
theorem w_74 : Cond.fieldLink RX2 18 "Pagerloom$Logs" "values" "[I" ∈ WT := WT_in (List.mem_of_getElem? (i := 74) (by decide +kernel)) (by decide +kernel)
theorem w_75 : Cond.fieldLink RX2 21 "Pagerloom$Logs" "hours" "[I" ∈ WT := WT_in (List.mem_of_getElem? (i := 75) (by decide +kernel)) (by decide +kernel)
theorem w_603 : Cond.methodLink RX2 47 yX2_putInOrder ∈ WT := WT_in (List.mem_of_getElem? (i := 603) (by decide +kernel)) (by decide +kernel)
theorem w_605 : Cond.instanceMethod yX2_putInOrder ∈ WT := WT_in (List.mem_of_getElem? (i := 605) (by decide +kernel)) (by decide +kernel)
theorem w_11 : Cond.selects RX2 yX2_putInOrder yX2_putInOrder ∈ WT := WT_in (List.mem_of_getElem? (i := 11) (by decide +kernel)) (by decide +kernel)
theorem w_606 : Cond.code yX2_putInOrder cX2_putInOrder 5 none ∈ WT := WT_in (List.mem_of_getElem? (i := 606) (by decide +kernel)) (by decide +kernel)
theorem wn_703 : Cond.methodLinkNest RX4 46 yX10_isComparison "Pagerloom" ∈ tables_1 := List.mem_of_getElem? (i := 668) (by decide +kernel)
theorem w_704 : Cond.static yX10_isComparison ∈ WT := WT_in (List.mem_of_getElem? (i := 704) (by decide +kernel)) (by decide +kernel)
theorem w_705 : Cond.code yX10_isComparison cX10_isComparison 1 (some .boolean) ∈ WT := WT_in (List.mem_of_getElem? (i := 705) (by decide +kernel)) (by decide +kernel)
theorem wn_687 : Cond.methodLinkNest RX4 74 yX10_isField "Pagerloom" ∈ tables_1 := List.mem_of_getElem? (i := 652) (by decide +kernel)
theorem w_271 : Cond.fieldLink RX7 22 "Pagerloom$Runner" "high" "I" ∈ WT := WT_in (List.mem_of_getElem? (i := 271) (by decide +kernel)) (by decide +kernel)
theorem w_270 : Cond.fieldLink RX7 18 "Pagerloom$Runner" "pile" "[J" ∈ WT := WT_in (List.mem_of_getElem? (i := 270) (by decide +kernel)) (by decide +kernel)
theorem wn_960 : Cond.methodLinkNest RX7 83 yX10_isIn "Pagerloom" ∈ tables_1 := List.mem_of_getElem? (i := 925) (by decide +kernel)
theorem w_963 : Cond.methodLink RX7 38 yX7_pull ∈ WT := WT_in (List.mem_of_getElem? (i := 963) (by decide +kernel)) (by decide +kernel)
theorem w_965 : Cond.instanceMethod yX7_pull ∈ WT := WT_in (List.mem_of_getElem? (i := 965) (by decide +kernel)) (by decide +kernel)
theorem w_34 : Cond.selects RX7 yX7_pull yX7_pull ∈ WT := WT_in (List.mem_of_getElem? (i := 34) (by decide +kernel)) (by decide +kernel)
theorem w_45 : Cond.initialized RX7 ∈ WT := WT_in (List.mem_of_getElem? (i := 45) (by decide +kernel)) (by decide +kernel)
theorem w_966 : Cond.code yX7_pull cX7_pull 1 (some .long) ∈ WT := WT_in (List.mem_of_getElem? (i := 966) (by decide +kernel)) (by decide +kernel)
theorem wn_942 : Cond.methodLinkNest RX7 26 yX10_isAggregate "Pagerloom" ∈ tables_1 := List.mem_of_getElem? (i := 907) (by decide +kernel)
theorem w_956 : Cond.methodLink RX7 42 yX7_push ∈ WT := WT_in (List.mem_of_getElem? (i := 956) (by decide +kernel)) (by decide +kernel)
theorem w_958 : Cond.instanceMethod yX7_push ∈ WT := WT_in (List.mem_of_getElem? (i := 958) (by decide +kernel)) (by decide +kernel)
theorem w_33 : Cond.selects RX7 yX7_push yX7_push ∈ WT := WT_in (List.mem_of_getElem? (i := 33) (by decide +kernel)) (by decide +kernel)
theorem w_959 : Cond.code yX7_push cX7_push 3 none ∈ WT := WT_in (List.mem_of_getElem? (i := 959) (by decide +kernel)) (by decide +kernel)
theorem wn_961 : Cond.methodLinkNest RX7 46 yX10_isField "Pagerloom" ∈ tables_1 := List.mem_of_getElem? (i := 926) (by decide +kernel)
theorem wn_967 : Cond.methodLinkNest RX7 55 yX10_combined "Pagerloom" ∈ tables_1 := List.mem_of_getElem? (i := 932) (by decide +kernel)
theorem w_585 : Cond.static yX10_combined ∈ WT := WT_in (List.mem_of_getElem? (i := 585) (by decide +kernel)) (by decide +kernel)
theorem w_586 : Cond.code yX10_combined cX10_combined 5 (some .long) ∈ WT := WT_in (List.mem_of_getElem? (i := 586) (by decide +kernel)) (by decide +kernel)
theorem w_962 : Cond.methodLink RX7 49 yX2_fieldOf ∈ WT := WT_in (List.mem_of_getElem? (i := 962) (by decide +kernel)) (by decide +kernel)
theorem w_556 : Cond.instanceMethod yX2_fieldOf ∈ WT := WT_in (List.mem_of_getElem? (i := 556) (by decide +kernel)) (by decide +kernel)
theorem w_557 : Cond.selects RX2 yX2_fieldOf yX2_fieldOf ∈ WT := WT_in (List.mem_of_getElem? (i := 557) (by decide +kernel)) (by decide +kernel)
theorem w_558 : Cond.code yX2_fieldOf cX2_fieldOf 3 (some .int) ∈ WT := WT_in (List.mem_of_getElem? (i := 558) (by decide +kernel)) (by decide +kernel)
theorem w_952 : Cond.methodLink RX7 34 yX7_step ∈ WT := WT_in (List.mem_of_getElem? (i := 952) (by decide +kernel)) (by decide +kernel)
theorem w_954 : Cond.instanceMethod yX7_step ∈ WT := WT_in (List.mem_of_getElem? (i := 954) (by decide +kernel)) (by decide +kernel)
theorem w_32 : Cond.selects RX7 yX7_step yX7_step ∈ WT := WT_in (List.mem_of_getElem? (i := 32) (by decide +kernel)) (by decide +kernel)
theorem w_955 : Cond.code yX7_step cX7_step 8 (some .int) ∈ WT := WT_in (List.mem_of_getElem? (i := 955) (by decide +kernel)) (by decide +kernel)
theorem w_269 : Cond.fieldLink RX7 12 "Pagerloom$Runner" "tally" "LPagerloom$Tally;" ∈ WT := WT_in (List.mem_of_getElem? (i := 269) (by decide +kernel)) (by decide +kernel)
theorem w_236 : Cond.fieldLink RX8 15 "Pagerloom$Tally" "count" "I" ∈ WT := WT_in (List.mem_of_getElem? (i := 236) (by decide +kernel)) (by decide +kernel)
theorem w_237 : Cond.fieldLink RX8 19 "Pagerloom$Tally" "sum" "J" ∈ WT := WT_in (List.mem_of_getElem? (i := 237) (by decide +kernel)) (by decide +kernel)
theorem w_238 : Cond.fieldLink RX8 23 "Pagerloom$Tally" "least" "I" ∈ WT := WT_in (List.mem_of_getElem? (i := 238) (by decide +kernel)) (by decide +kernel)
theorem w_239 : Cond.fieldLink RX8 26 "Pagerloom$Tally" "greatest" "I" ∈ WT := WT_in (List.mem_of_getElem? (i := 239) (by decide +kernel)) (by decide +kernel)
theorem w_240 : Cond.fieldLink RX8 29 "Pagerloom$Tally" "unlike" "I" ∈ WT := WT_in (List.mem_of_getElem? (i := 240) (by decide +kernel)) (by decide +kernel)
theorem w_235 : Cond.fieldLink RX8 9 "Pagerloom$Tally" "seen" "[I" ∈ WT := WT_in (List.mem_of_getElem? (i := 235) (by decide +kernel)) (by decide +kernel)
theorem w_241 : Cond.fieldLink RX8 32 "Pagerloom$Tally" "times" "[I" ∈ WT := WT_in (List.mem_of_getElem? (i := 241) (by decide +kernel)) (by decide +kernel)
theorem w_947 : Cond.methodLink RX7 61 yX8_clear ∈ WT := WT_in (List.mem_of_getElem? (i := 947) (by decide +kernel)) (by decide +kernel)
theorem w_567 : Cond.instanceMethod yX8_clear ∈ WT := WT_in (List.mem_of_getElem? (i := 567) (by decide +kernel)) (by decide +kernel)
theorem w_568 : Cond.selects RX8 yX8_clear yX8_clear ∈ WT := WT_in (List.mem_of_getElem? (i := 568) (by decide +kernel)) (by decide +kernel)
theorem w_44 : Cond.initialized RX8 ∈ WT := WT_in (List.mem_of_getElem? (i := 44) (by decide +kernel)) (by decide +kernel)
theorem w_569 : Cond.code yX8_clear cX8_clear 3 none ∈ WT := WT_in (List.mem_of_getElem? (i := 569) (by decide +kernel)) (by decide +kernel)
theorem w_86 : Cond.fieldLink RX7 64 "Pagerloom$Logs" "picks" "I" ∈ WT := WT_in (List.mem_of_getElem? (i := 86) (by decide +kernel)) (by decide +kernel)
theorem w_580 : Cond.methodLink RX8 44 yX8_mostOften ∈ WT := WT_in (List.mem_of_getElem? (i := 580) (by decide +kernel)) (by decide +kernel)
theorem w_582 : Cond.instanceMethod yX8_mostOften ∈ WT := WT_in (List.mem_of_getElem? (i := 582) (by decide +kernel)) (by decide +kernel)
theorem w_10 : Cond.selects RX8 yX8_mostOften yX8_mostOften ∈ WT := WT_in (List.mem_of_getElem? (i := 10) (by decide +kernel)) (by decide +kernel)
theorem w_583 : Cond.code yX8_mostOften cX8_mostOften 6 (some .long) ∈ WT := WT_in (List.mem_of_getElem? (i := 583) (by decide +kernel)) (by decide +kernel)
theorem w_969 : Cond.methodLink RX7 79 yX8_result ∈ WT := WT_in (List.mem_of_getElem? (i := 969) (by decide +kernel)) (by decide +kernel)
theorem w_577 : Cond.instanceMethod yX8_result ∈ WT := WT_in (List.mem_of_getElem? (i := 577) (by decide +kernel)) (by decide +kernel)
theorem w_578 : Cond.selects RX8 yX8_result yX8_result ∈ WT := WT_in (List.mem_of_getElem? (i := 578) (by decide +kernel)) (by decide +kernel)
theorem w_579 : Cond.code yX8_result cX8_result 2 (some .long) ∈ WT := WT_in (List.mem_of_getElem? (i := 579) (by decide +kernel)) (by decide +kernel)
theorem w_81 : Cond.fieldLink RX7 67 "Pagerloom$Logs" "picked" "[I" ∈ WT := WT_in (List.mem_of_getElem? (i := 81) (by decide +kernel)) (by decide +kernel)
theorem w_575 : Cond.methodLink RX8 41 Lib.Math.max.name ∈ WT := WT_in (List.mem_of_getElem? (i := 575) (by decide +kernel)) (by decide +kernel)
theorem w_574 : Cond.methodLink RX8 35 Lib.Math.min.name ∈ WT := WT_in (List.mem_of_getElem? (i := 574) (by decide +kernel)) (by decide +kernel)
theorem w_968 : Cond.methodLink RX7 75 yX8_add ∈ WT := WT_in (List.mem_of_getElem? (i := 968) (by decide +kernel)) (by decide +kernel)
theorem w_571 : Cond.instanceMethod yX8_add ∈ WT := WT_in (List.mem_of_getElem? (i := 571) (by decide +kernel)) (by decide +kernel)
theorem w_572 : Cond.selects RX8 yX8_add yX8_add ∈ WT := WT_in (List.mem_of_getElem? (i := 572) (by decide +kernel)) (by decide +kernel)
theorem w_573 : Cond.code yX8_add cX8_add 3 none ∈ WT := WT_in (List.mem_of_getElem? (i := 573) (by decide +kernel)) (by decide +kernel)
theorem w_948 : Cond.methodLink RX7 71 yX7_holds ∈ WT := WT_in (List.mem_of_getElem? (i := 948) (by decide +kernel)) (by decide +kernel)
theorem w_950 : Cond.instanceMethod yX7_holds ∈ WT := WT_in (List.mem_of_getElem? (i := 950) (by decide +kernel)) (by decide +kernel)
theorem w_31 : Cond.selects RX7 yX7_holds yX7_holds ∈ WT := WT_in (List.mem_of_getElem? (i := 31) (by decide +kernel)) (by decide +kernel)
theorem w_951 : Cond.code yX7_holds cX7_holds 8 (some .boolean) ∈ WT := WT_in (List.mem_of_getElem? (i := 951) (by decide +kernel)) (by decide +kernel)
theorem w_943 : Cond.methodLink RX7 30 yX7_gather ∈ WT := WT_in (List.mem_of_getElem? (i := 943) (by decide +kernel)) (by decide +kernel)
theorem w_945 : Cond.instanceMethod yX7_gather ∈ WT := WT_in (List.mem_of_getElem? (i := 945) (by decide +kernel)) (by decide +kernel)
theorem w_30 : Cond.selects RX7 yX7_gather yX7_gather ∈ WT := WT_in (List.mem_of_getElem? (i := 30) (by decide +kernel)) (by decide +kernel)
theorem w_946 : Cond.code yX7_gather cX7_gather 9 (some .int) ∈ WT := WT_in (List.mem_of_getElem? (i := 946) (by decide +kernel)) (by decide +kernel)
theorem w_257 : Cond.fieldLink RX9 12 "Pagerloom$Walker" "tally" "LPagerloom$Tally;" ∈ WT := WT_in (List.mem_of_getElem? (i := 257) (by decide +kernel)) (by decide +kernel)
theorem w_566 : Cond.methodLink RX9 59 yX8_clear ∈ WT := WT_in (List.mem_of_getElem? (i := 566) (by decide +kernel)) (by decide +kernel)
theorem w_85 : Cond.fieldLink RX9 62 "Pagerloom$Logs" "picks" "I" ∈ WT := WT_in (List.mem_of_getElem? (i := 85) (by decide +kernel)) (by decide +kernel)
theorem w_576 : Cond.methodLink RX9 73 yX8_result ∈ WT := WT_in (List.mem_of_getElem? (i := 576) (by decide +kernel)) (by decide +kernel)
theorem w_80 : Cond.fieldLink RX9 65 "Pagerloom$Logs" "picked" "[I" ∈ WT := WT_in (List.mem_of_getElem? (i := 80) (by decide +kernel)) (by decide +kernel)
theorem w_664 : Cond.fieldLink RX9 52 "Pagerloom$Node" "right" "LPagerloom$Node;" ∈ WT := WT_in (List.mem_of_getElem? (i := 664) (by decide +kernel)) (by decide +kernel)
theorem w_570 : Cond.methodLink RX9 69 yX8_add ∈ WT := WT_in (List.mem_of_getElem? (i := 570) (by decide +kernel)) (by decide +kernel)
theorem w_555 : Cond.methodLink RX9 32 yX2_fieldOf ∈ WT := WT_in (List.mem_of_getElem? (i := 555) (by decide +kernel)) (by decide +kernel)
theorem w_164 : Cond.laysFinal RX0 "Pagerloom$Alarms" "rules" "[I" ∈ WT := WT_in (List.mem_of_getElem? (i := 164) (by decide +kernel)) (by decide +kernel)
theorem w_166 : Cond.laysFinal RX0 "Pagerloom$Alarms" "hours" "[I" ∈ WT := WT_in (List.mem_of_getElem? (i := 166) (by decide +kernel)) (by decide +kernel)
theorem w_168 : Cond.laysFinal RX0 "Pagerloom$Alarms" "woken" "[I" ∈ WT := WT_in (List.mem_of_getElem? (i := 168) (by decide +kernel)) (by decide +kernel)
theorem w_170 : Cond.laysFinal RX0 "Pagerloom$Alarms" "wokenIn" "[I" ∈ WT := WT_in (List.mem_of_getElem? (i := 170) (by decide +kernel)) (by decide +kernel)
theorem w_172 : Cond.laysFinal RX0 "Pagerloom$Alarms" "isAnswered" "[Z" ∈ WT := WT_in (List.mem_of_getElem? (i := 172) (by decide +kernel)) (by decide +kernel)
theorem w_174 : Cond.lays RX0 "Pagerloom$Alarms" "count" "I" ∈ WT := WT_in (List.mem_of_getElem? (i := 174) (by decide +kernel)) (by decide +kernel)
theorem w_176 : Cond.lays RX0 "Pagerloom$Alarms" "wokenCount" "I" ∈ WT := WT_in (List.mem_of_getElem? (i := 176) (by decide +kernel)) (by decide +kernel)
theorem w_210 : Cond.laysFinal RX1 "Pagerloom$Coder" "codes" "[I" ∈ WT := WT_in (List.mem_of_getElem? (i := 210) (by decide +kernel)) (by decide +kernel)
theorem w_212 : Cond.lays RX1 "Pagerloom$Coder" "size" "I" ∈ WT := WT_in (List.mem_of_getElem? (i := 212) (by decide +kernel)) (by decide +kernel)
theorem w_214 : Cond.laysFinal RX1 "Pagerloom$Coder" "pile" "[I" ∈ WT := WT_in (List.mem_of_getElem? (i := 214) (by decide +kernel)) (by decide +kernel)
theorem w_216 : Cond.laysFinal RX1 "Pagerloom$Coder" "starts" "[I" ∈ WT := WT_in (List.mem_of_getElem? (i := 216) (by decide +kernel)) (by decide +kernel)
theorem w_218 : Cond.lays RX1 "Pagerloom$Coder" "high" "I" ∈ WT := WT_in (List.mem_of_getElem? (i := 218) (by decide +kernel)) (by decide +kernel)
theorem w_220 : Cond.lays RX1 "Pagerloom$Coder" "isBehindPart" "Z" ∈ WT := WT_in (List.mem_of_getElem? (i := 220) (by decide +kernel)) (by decide +kernel)
theorem w_88 : Cond.laysFinal RX2 "Pagerloom$Logs" "parts" "[I" ∈ WT := WT_in (List.mem_of_getElem? (i := 88) (by decide +kernel)) (by decide +kernel)
theorem w_90 : Cond.laysFinal RX2 "Pagerloom$Logs" "levels" "[I" ∈ WT := WT_in (List.mem_of_getElem? (i := 90) (by decide +kernel)) (by decide +kernel)
theorem w_92 : Cond.laysFinal RX2 "Pagerloom$Logs" "values" "[I" ∈ WT := WT_in (List.mem_of_getElem? (i := 92) (by decide +kernel)) (by decide +kernel)
theorem w_94 : Cond.laysFinal RX2 "Pagerloom$Logs" "hours" "[I" ∈ WT := WT_in (List.mem_of_getElem? (i := 94) (by decide +kernel)) (by decide +kernel)
theorem w_96 : Cond.laysFinal RX2 "Pagerloom$Logs" "toldIn" "[I" ∈ WT := WT_in (List.mem_of_getElem? (i := 96) (by decide +kernel)) (by decide +kernel)
theorem w_98 : Cond.laysFinal RX2 "Pagerloom$Logs" "order" "[I" ∈ WT := WT_in (List.mem_of_getElem? (i := 98) (by decide +kernel)) (by decide +kernel)
theorem w_100 : Cond.laysFinal RX2 "Pagerloom$Logs" "ahead" "[I" ∈ WT := WT_in (List.mem_of_getElem? (i := 100) (by decide +kernel)) (by decide +kernel)
theorem w_102 : Cond.laysFinal RX2 "Pagerloom$Logs" "picked" "[I" ∈ WT := WT_in (List.mem_of_getElem? (i := 102) (by decide +kernel)) (by decide +kernel)
theorem w_104 : Cond.lays RX2 "Pagerloom$Logs" "count" "I" ∈ WT := WT_in (List.mem_of_getElem? (i := 104) (by decide +kernel)) (by decide +kernel)
theorem w_106 : Cond.lays RX2 "Pagerloom$Logs" "picks" "I" ∈ WT := WT_in (List.mem_of_getElem? (i := 106) (by decide +kernel)) (by decide +kernel)
theorem w_665 : Cond.laysFinal RX3 "Pagerloom$Node" "kind" "I" ∈ WT := WT_in (List.mem_of_getElem? (i := 665) (by decide +kernel)) (by decide +kernel)
theorem w_667 : Cond.laysFinal RX3 "Pagerloom$Node" "number" "I" ∈ WT := WT_in (List.mem_of_getElem? (i := 667) (by decide +kernel)) (by decide +kernel)
theorem w_669 : Cond.laysFinal RX3 "Pagerloom$Node" "left" "LPagerloom$Node;" ∈ WT := WT_in (List.mem_of_getElem? (i := 669) (by decide +kernel)) (by decide +kernel)
theorem w_671 : Cond.laysFinal RX3 "Pagerloom$Node" "right" "LPagerloom$Node;" ∈ WT := WT_in (List.mem_of_getElem? (i := 671) (by decide +kernel)) (by decide +kernel)
theorem w_189 : Cond.lays RX4 "Pagerloom$Reader" "text" "[C" ∈ WT := WT_in (List.mem_of_getElem? (i := 189) (by decide +kernel)) (by decide +kernel)
theorem w_191 : Cond.lays RX4 "Pagerloom$Reader" "length" "I" ∈ WT := WT_in (List.mem_of_getElem? (i := 191) (by decide +kernel)) (by decide +kernel)
theorem w_193 : Cond.lays RX4 "Pagerloom$Reader" "at" "I" ∈ WT := WT_in (List.mem_of_getElem? (i := 193) (by decide +kernel)) (by decide +kernel)
theorem w_129 : Cond.lays RX5 "Pagerloom$Rota" "people" "I" ∈ WT := WT_in (List.mem_of_getElem? (i := 129) (by decide +kernel)) (by decide +kernel)
theorem w_131 : Cond.laysFinal RX5 "Pagerloom$Rota" "swapped" "[I" ∈ WT := WT_in (List.mem_of_getElem? (i := 131) (by decide +kernel)) (by decide +kernel)
theorem w_133 : Cond.laysFinal RX5 "Pagerloom$Rota" "offs" "[I" ∈ WT := WT_in (List.mem_of_getElem? (i := 133) (by decide +kernel)) (by decide +kernel)
theorem w_135 : Cond.laysFinal RX5 "Pagerloom$Rota" "holders" "[I" ∈ WT := WT_in (List.mem_of_getElem? (i := 135) (by decide +kernel)) (by decide +kernel)
theorem w_137 : Cond.laysFinal RX5 "Pagerloom$Rota" "debtors" "[I" ∈ WT := WT_in (List.mem_of_getElem? (i := 137) (by decide +kernel)) (by decide +kernel)
theorem w_139 : Cond.laysFinal RX5 "Pagerloom$Rota" "creditors" "[I" ∈ WT := WT_in (List.mem_of_getElem? (i := 139) (by decide +kernel)) (by decide +kernel)
theorem w_141 : Cond.lays RX5 "Pagerloom$Rota" "debts" "I" ∈ WT := WT_in (List.mem_of_getElem? (i := 141) (by decide +kernel)) (by decide +kernel)
theorem w_735 : Cond.laysFinal RX6 "Pagerloom$Rule" "question" "LPagerloom$Node;" ∈ WT := WT_in (List.mem_of_getElem? (i := 735) (by decide +kernel)) (by decide +kernel)
theorem w_737 : Cond.laysFinal RX6 "Pagerloom$Rule" "owner" "I" ∈ WT := WT_in (List.mem_of_getElem? (i := 737) (by decide +kernel)) (by decide +kernel)
theorem w_739 : Cond.laysFinal RX6 "Pagerloom$Rule" "window" "I" ∈ WT := WT_in (List.mem_of_getElem? (i := 739) (by decide +kernel)) (by decide +kernel)
theorem w_741 : Cond.laysFinal RX6 "Pagerloom$Rule" "rest" "I" ∈ WT := WT_in (List.mem_of_getElem? (i := 741) (by decide +kernel)) (by decide +kernel)
theorem w_743 : Cond.laysFinal RX6 "Pagerloom$Rule" "madeIn" "I" ∈ WT := WT_in (List.mem_of_getElem? (i := 743) (by decide +kernel)) (by decide +kernel)
theorem w_745 : Cond.lays RX6 "Pagerloom$Rule" "lastHour" "I" ∈ WT := WT_in (List.mem_of_getElem? (i := 745) (by decide +kernel)) (by decide +kernel)
theorem w_747 : Cond.laysFinal RX6 "Pagerloom$Rule" "silentFrom" "[I" ∈ WT := WT_in (List.mem_of_getElem? (i := 747) (by decide +kernel)) (by decide +kernel)
theorem w_749 : Cond.laysFinal RX6 "Pagerloom$Rule" "silentTo" "[I" ∈ WT := WT_in (List.mem_of_getElem? (i := 749) (by decide +kernel)) (by decide +kernel)
theorem w_751 : Cond.lays RX6 "Pagerloom$Rule" "silences" "I" ∈ WT := WT_in (List.mem_of_getElem? (i := 751) (by decide +kernel)) (by decide +kernel)
theorem w_753 : Cond.lays RX6 "Pagerloom$Rule" "riseCount" "I" ∈ WT := WT_in (List.mem_of_getElem? (i := 753) (by decide +kernel)) (by decide +kernel)
theorem w_755 : Cond.lays RX6 "Pagerloom$Rule" "lastRise" "I" ∈ WT := WT_in (List.mem_of_getElem? (i := 755) (by decide +kernel)) (by decide +kernel)
theorem w_272 : Cond.laysFinal RX7 "Pagerloom$Runner" "tally" "LPagerloom$Tally;" ∈ WT := WT_in (List.mem_of_getElem? (i := 272) (by decide +kernel)) (by decide +kernel)
theorem w_274 : Cond.laysFinal RX7 "Pagerloom$Runner" "pile" "[J" ∈ WT := WT_in (List.mem_of_getElem? (i := 274) (by decide +kernel)) (by decide +kernel)
theorem w_276 : Cond.lays RX7 "Pagerloom$Runner" "high" "I" ∈ WT := WT_in (List.mem_of_getElem? (i := 276) (by decide +kernel)) (by decide +kernel)
theorem w_242 : Cond.laysFinal RX8 "Pagerloom$Tally" "seen" "[I" ∈ WT := WT_in (List.mem_of_getElem? (i := 242) (by decide +kernel)) (by decide +kernel)
theorem w_244 : Cond.lays RX8 "Pagerloom$Tally" "count" "I" ∈ WT := WT_in (List.mem_of_getElem? (i := 244) (by decide +kernel)) (by decide +kernel)
theorem w_246 : Cond.lays RX8 "Pagerloom$Tally" "sum" "J" ∈ WT := WT_in (List.mem_of_getElem? (i := 246) (by decide +kernel)) (by decide +kernel)
theorem w_248 : Cond.lays RX8 "Pagerloom$Tally" "least" "I" ∈ WT := WT_in (List.mem_of_getElem? (i := 248) (by decide +kernel)) (by decide +kernel)
theorem w_250 : Cond.lays RX8 "Pagerloom$Tally" "greatest" "I" ∈ WT := WT_in (List.mem_of_getElem? (i := 250) (by decide +kernel)) (by decide +kernel)
theorem w_252 : Cond.lays RX8 "Pagerloom$Tally" "unlike" "I" ∈ WT := WT_in (List.mem_of_getElem? (i := 252) (by decide +kernel)) (by decide +kernel)
theorem w_254 : Cond.laysFinal RX8 "Pagerloom$Tally" "times" "[I" ∈ WT := WT_in (List.mem_of_getElem? (i := 254) (by decide +kernel)) (by decide +kernel)
theorem w_258 : Cond.laysFinal RX9 "Pagerloom$Walker" "tally" "LPagerloom$Tally;" ∈ WT := WT_in (List.mem_of_getElem? (i := 258) (by decide +kernel)) (by decide +kernel)
theorem w_292 : Cond.laysFinal RX10 "Pagerloom" "text" "[C" ∈ WT := WT_in (List.mem_of_getElem? (i := 292) (by decide +kernel)) (by decide +kernel)
theorem w_294 : Cond.lays RX10 "Pagerloom" "length" "I" ∈ WT := WT_in (List.mem_of_getElem? (i := 294) (by decide +kernel)) (by decide +kernel)
theorem w_296 : Cond.lays RX10 "Pagerloom" "nowHour" "I" ∈ WT := WT_in (List.mem_of_getElem? (i := 296) (by decide +kernel)) (by decide +kernel)
theorem w_298 : Cond.laysFinal RX10 "Pagerloom" "rules" "[LPagerloom$Rule;" ∈ WT := WT_in (List.mem_of_getElem? (i := 298) (by decide +kernel)) (by decide +kernel)
theorem w_300 : Cond.lays RX10 "Pagerloom" "ruleCount" "I" ∈ WT := WT_in (List.mem_of_getElem? (i := 300) (by decide +kernel)) (by decide +kernel)
theorem w_302 : Cond.laysFinal RX10 "Pagerloom" "logs" "LPagerloom$Logs;" ∈ WT := WT_in (List.mem_of_getElem? (i := 302) (by decide +kernel)) (by decide +kernel)
theorem w_304 : Cond.laysFinal RX10 "Pagerloom" "rota" "LPagerloom$Rota;" ∈ WT := WT_in (List.mem_of_getElem? (i := 304) (by decide +kernel)) (by decide +kernel)
theorem w_306 : Cond.laysFinal RX10 "Pagerloom" "alarmList" "LPagerloom$Alarms;" ∈ WT := WT_in (List.mem_of_getElem? (i := 306) (by decide +kernel)) (by decide +kernel)
theorem w_308 : Cond.laysFinal RX10 "Pagerloom" "reader" "LPagerloom$Reader;" ∈ WT := WT_in (List.mem_of_getElem? (i := 308) (by decide +kernel)) (by decide +kernel)
theorem w_310 : Cond.laysFinal RX10 "Pagerloom" "coder" "LPagerloom$Coder;" ∈ WT := WT_in (List.mem_of_getElem? (i := 310) (by decide +kernel)) (by decide +kernel)
theorem w_312 : Cond.laysFinal RX10 "Pagerloom" "walker" "LPagerloom$Walker;" ∈ WT := WT_in (List.mem_of_getElem? (i := 312) (by decide +kernel)) (by decide +kernel)
theorem w_314 : Cond.laysFinal RX10 "Pagerloom" "runner" "LPagerloom$Runner;" ∈ WT := WT_in (List.mem_of_getElem? (i := 314) (by decide +kernel)) (by decide +kernel)
theorem w_maxcode : Cond.code Lib.Math.max.name Lib.Math.max.code 2 (some .int) ∈ WT := WT_in (List.mem_of_getElem? (i := 509) (by decide +kernel)) (by decide +kernel)
theorem w_mincode : Cond.code Lib.Math.min.name Lib.Math.min.code 2 (some .int) ∈ WT := WT_in (List.mem_of_getElem? (i := 541) (by decide +kernel)) (by decide +kernel)
theorem inT0 : ∀ x ∈ u_ws RX0 TX0 7, x ∈ WT := by
  intro x hx
  obtain ⟨k, hk, rfl⟩ := List.mem_map.mp hx
  have hk := List.mem_range.mp hk
  have hk : k = 0 ∨ k = 1 ∨ k = 2 ∨ k = 3 ∨ k = 4 ∨ k = 5 ∨ k = 6 := by omega
  rcases hk with rfl | rfl | rfl | rfl | rfl | rfl | rfl
  · exact w_164
  · exact w_166
  · exact w_168
  · exact w_170
  · exact w_172
  · exact w_174
  · exact w_176
theorem inT1 : ∀ x ∈ u_ws RX1 TX1 6, x ∈ WT := by
  intro x hx
  obtain ⟨k, hk, rfl⟩ := List.mem_map.mp hx
  have hk := List.mem_range.mp hk
  have hk : k = 0 ∨ k = 1 ∨ k = 2 ∨ k = 3 ∨ k = 4 ∨ k = 5 := by omega
  rcases hk with rfl | rfl | rfl | rfl | rfl | rfl
  · exact w_210
  · exact w_212
  · exact w_214
  · exact w_216
  · exact w_218
  · exact w_220
theorem inT2 : ∀ x ∈ u_ws RX2 TX2 10, x ∈ WT := by
  intro x hx
  obtain ⟨k, hk, rfl⟩ := List.mem_map.mp hx
  have hk := List.mem_range.mp hk
  have hk : k = 0 ∨ k = 1 ∨ k = 2 ∨ k = 3 ∨ k = 4 ∨ k = 5 ∨ k = 6 ∨ k = 7 ∨ k = 8 ∨ k = 9 := by omega
  rcases hk with rfl | rfl | rfl | rfl | rfl | rfl | rfl | rfl | rfl | rfl
  · exact w_88
  · exact w_90
  · exact w_92
  · exact w_94
  · exact w_96
  · exact w_98
  · exact w_100
  · exact w_102
  · exact w_104
  · exact w_106
theorem inT3 : ∀ x ∈ u_ws RX3 TX3 4, x ∈ WT := by
  intro x hx
  obtain ⟨k, hk, rfl⟩ := List.mem_map.mp hx
  have hk := List.mem_range.mp hk
  have hk : k = 0 ∨ k = 1 ∨ k = 2 ∨ k = 3 := by omega
  rcases hk with rfl | rfl | rfl | rfl
  · exact w_665
  · exact w_667
  · exact w_669
  · exact w_671
theorem inT4 : ∀ x ∈ u_ws RX4 TX4 3, x ∈ WT := by
  intro x hx
  obtain ⟨k, hk, rfl⟩ := List.mem_map.mp hx
  have hk := List.mem_range.mp hk
  have hk : k = 0 ∨ k = 1 ∨ k = 2 := by omega
  rcases hk with rfl | rfl | rfl
  · exact w_189
  · exact w_191
  · exact w_193
theorem inT5 : ∀ x ∈ u_ws RX5 TX5 7, x ∈ WT := by
  intro x hx
  obtain ⟨k, hk, rfl⟩ := List.mem_map.mp hx
  have hk := List.mem_range.mp hk
  have hk : k = 0 ∨ k = 1 ∨ k = 2 ∨ k = 3 ∨ k = 4 ∨ k = 5 ∨ k = 6 := by omega
  rcases hk with rfl | rfl | rfl | rfl | rfl | rfl | rfl
  · exact w_129
  · exact w_131
  · exact w_133
  · exact w_135
  · exact w_137
  · exact w_139
  · exact w_141
theorem inT6 : ∀ x ∈ u_ws RX6 TX6 11, x ∈ WT := by
  intro x hx
  obtain ⟨k, hk, rfl⟩ := List.mem_map.mp hx
  have hk := List.mem_range.mp hk
  have hk : k = 0 ∨ k = 1 ∨ k = 2 ∨ k = 3 ∨ k = 4 ∨ k = 5 ∨ k = 6 ∨ k = 7 ∨ k = 8 ∨ k = 9 ∨ k = 10 := by omega
  rcases hk with rfl | rfl | rfl | rfl | rfl | rfl | rfl | rfl | rfl | rfl | rfl
  · exact w_735
  · exact w_737
  · exact w_739
  · exact w_741
  · exact w_743
  · exact w_745
  · exact w_747
  · exact w_749
  · exact w_751
  · exact w_753
  · exact w_755
theorem inT7 : ∀ x ∈ u_ws RX7 TX7 3, x ∈ WT := by
  intro x hx
  obtain ⟨k, hk, rfl⟩ := List.mem_map.mp hx
  have hk := List.mem_range.mp hk
  have hk : k = 0 ∨ k = 1 ∨ k = 2 := by omega
  rcases hk with rfl | rfl | rfl
  · exact w_272
  · exact w_274
  · exact w_276
theorem inT8 : ∀ x ∈ u_ws RX8 TX8 7, x ∈ WT := by
  intro x hx
  obtain ⟨k, hk, rfl⟩ := List.mem_map.mp hx
  have hk := List.mem_range.mp hk
  have hk : k = 0 ∨ k = 1 ∨ k = 2 ∨ k = 3 ∨ k = 4 ∨ k = 5 ∨ k = 6 := by omega
  rcases hk with rfl | rfl | rfl | rfl | rfl | rfl | rfl
  · exact w_242
  · exact w_244
  · exact w_246
  · exact w_248
  · exact w_250
  · exact w_252
  · exact w_254
theorem inT9 : ∀ x ∈ u_ws RX9 TX9 1, x ∈ WT := by
  intro x hx
  obtain ⟨k, hk, rfl⟩ := List.mem_map.mp hx
  have hk := List.mem_range.mp hk
  have hk : k = 0 := by omega
  rcases hk with rfl
  · exact w_258
theorem inT10 : ∀ x ∈ u_ws RX10 TX10 12, x ∈ WT := by
  intro x hx
  obtain ⟨k, hk, rfl⟩ := List.mem_map.mp hx
  have hk := List.mem_range.mp hk
  have hk : k = 0 ∨ k = 1 ∨ k = 2 ∨ k = 3 ∨ k = 4 ∨ k = 5 ∨ k = 6 ∨ k = 7 ∨ k = 8 ∨ k = 9 ∨ k = 10 ∨ k = 11 := by omega
  rcases hk with rfl | rfl | rfl | rfl | rfl | rfl | rfl | rfl | rfl | rfl | rfl | rfl
  · exact w_292
  · exact w_294
  · exact w_296
  · exact w_298
  · exact w_300
  · exact w_302
  · exact w_304
  · exact w_306
  · exact w_308
  · exact w_310
  · exact w_312
  · exact w_314
theorem hdV_X4_here : yX4_here.cls = RX4 ∧ yX4_here.cls ≠ "java/lang/invoke/MethodHandle" ∧ yX4_here.cls ≠ "java/lang/invoke/VarHandle" ∧ (parseMethodDescriptor yX4_here.desc).map (fun d => d.parameters.length) = some 0 := by decide +kernel
theorem hdS_X10_isIn : yX10_isIn.cls ≠ "java/lang/invoke/MethodHandle" ∧ yX10_isIn.cls ≠ "java/lang/invoke/VarHandle" ∧ (parseMethodDescriptor yX10_isIn.desc).map (fun d => d.parameters.length) = some 3 := by decide +kernel
theorem hdS_X10_isRange : yX10_isRange.cls ≠ "java/lang/invoke/MethodHandle" ∧ yX10_isRange.cls ≠ "java/lang/invoke/VarHandle" ∧ (parseMethodDescriptor yX10_isRange.desc).map (fun d => d.parameters.length) = some 4 := by decide +kernel
theorem hdV_X5_hasPerson : yX5_hasPerson.cls = RX5 ∧ yX5_hasPerson.cls ≠ "java/lang/invoke/MethodHandle" ∧ yX5_hasPerson.cls ≠ "java/lang/invoke/VarHandle" ∧ (parseMethodDescriptor yX5_hasPerson.desc).map (fun d => d.parameters.length) = some 1 := by decide +kernel
theorem hdV_X10_isToCome : yX10_isToCome.cls = RX10 ∧ yX10_isToCome.cls ≠ "java/lang/invoke/MethodHandle" ∧ yX10_isToCome.cls ≠ "java/lang/invoke/VarHandle" ∧ (parseMethodDescriptor yX10_isToCome.desc).map (fun d => d.parameters.length) = some 1 := by decide +kernel
theorem hdV_X5_plannedFor : yX5_plannedFor.cls = RX5 ∧ yX5_plannedFor.cls ≠ "java/lang/invoke/MethodHandle" ∧ yX5_plannedFor.cls ≠ "java/lang/invoke/VarHandle" ∧ (parseMethodDescriptor yX5_plannedFor.desc).map (fun d => d.parameters.length) = some 1 := by decide +kernel
theorem hdS_X10_isNight : yX10_isNight.cls ≠ "java/lang/invoke/MethodHandle" ∧ yX10_isNight.cls ≠ "java/lang/invoke/VarHandle" ∧ (parseMethodDescriptor yX10_isNight.desc).map (fun d => d.parameters.length) = some 1 := by decide +kernel
theorem hdV_X5_isOff : yX5_isOff.cls = RX5 ∧ yX5_isOff.cls ≠ "java/lang/invoke/MethodHandle" ∧ yX5_isOff.cls ≠ "java/lang/invoke/VarHandle" ∧ (parseMethodDescriptor yX5_isOff.desc).map (fun d => d.parameters.length) = some 2 := by decide +kernel
theorem hdV_X5_debtPaidIn : yX5_debtPaidIn.cls = RX5 ∧ yX5_debtPaidIn.cls ≠ "java/lang/invoke/MethodHandle" ∧ yX5_debtPaidIn.cls ≠ "java/lang/invoke/VarHandle" ∧ (parseMethodDescriptor yX5_debtPaidIn.desc).map (fun d => d.parameters.length) = some 1 := by decide +kernel
theorem hdV_X5_holderToBe : yX5_holderToBe.cls = RX5 ∧ yX5_holderToBe.cls ≠ "java/lang/invoke/MethodHandle" ∧ yX5_holderToBe.cls ≠ "java/lang/invoke/VarHandle" ∧ (parseMethodDescriptor yX5_holderToBe.desc).map (fun d => d.parameters.length) = some 1 := by decide +kernel
theorem hdV_X10_ruleAt : yX10_ruleAt.cls = RX10 ∧ yX10_ruleAt.cls ≠ "java/lang/invoke/MethodHandle" ∧ yX10_ruleAt.cls ≠ "java/lang/invoke/VarHandle" ∧ (parseMethodDescriptor yX10_ruleAt.desc).map (fun d => d.parameters.length) = some 1 := by decide +kernel
theorem hdV_X0_has : yX0_has.cls = RX0 ∧ yX0_has.cls ≠ "java/lang/invoke/MethodHandle" ∧ yX0_has.cls ≠ "java/lang/invoke/VarHandle" ∧ (parseMethodDescriptor yX0_has.desc).map (fun d => d.parameters.length) = some 1 := by decide +kernel
theorem hdV_X5_forgetDebt : yX5_forgetDebt.cls = RX5 ∧ yX5_forgetDebt.cls ≠ "java/lang/invoke/MethodHandle" ∧ yX5_forgetDebt.cls ≠ "java/lang/invoke/VarHandle" ∧ (parseMethodDescriptor yX5_forgetDebt.desc).map (fun d => d.parameters.length) = some 1 := by decide +kernel
theorem hdV_X5_begin : yX5_begin.cls = RX5 ∧ yX5_begin.cls ≠ "java/lang/invoke/MethodHandle" ∧ yX5_begin.cls ≠ "java/lang/invoke/VarHandle" ∧ (parseMethodDescriptor yX5_begin.desc).map (fun d => d.parameters.length) = some 1 := by decide +kernel
theorem hdV_X5_holderOf : yX5_holderOf.cls = RX5 ∧ yX5_holderOf.cls ≠ "java/lang/invoke/MethodHandle" ∧ yX5_holderOf.cls ≠ "java/lang/invoke/VarHandle" ∧ (parseMethodDescriptor yX5_holderOf.desc).map (fun d => d.parameters.length) = some 1 := by decide +kernel
theorem hdV_X0_wakeAll : yX0_wakeAll.cls = RX0 ∧ yX0_wakeAll.cls ≠ "java/lang/invoke/MethodHandle" ∧ yX0_wakeAll.cls ≠ "java/lang/invoke/VarHandle" ∧ (parseMethodDescriptor yX0_wakeAll.desc).map (fun d => d.parameters.length) = some 2 := by decide +kernel
theorem hdV_X6_isDropped : yX6_isDropped.cls = RX6 ∧ yX6_isDropped.cls ≠ "java/lang/invoke/MethodHandle" ∧ yX6_isDropped.cls ≠ "java/lang/invoke/VarHandle" ∧ (parseMethodDescriptor yX6_isDropped.desc).map (fun d => d.parameters.length) = some 0 := by decide +kernel
theorem hdV_X6_hasRested : yX6_hasRested.cls = RX6 ∧ yX6_hasRested.cls ≠ "java/lang/invoke/MethodHandle" ∧ yX6_hasRested.cls ≠ "java/lang/invoke/VarHandle" ∧ (parseMethodDescriptor yX6_hasRested.desc).map (fun d => d.parameters.length) = some 2 := by decide +kernel
theorem hdV_X6_isSilentIn : yX6_isSilentIn.cls = RX6 ∧ yX6_isSilentIn.cls ≠ "java/lang/invoke/MethodHandle" ∧ yX6_isSilentIn.cls ≠ "java/lang/invoke/VarHandle" ∧ (parseMethodDescriptor yX6_isSilentIn.desc).map (fun d => d.parameters.length) = some 1 := by decide +kernel
theorem hdV_X2_pick : yX2_pick.cls = RX2 ∧ yX2_pick.cls ≠ "java/lang/invoke/MethodHandle" ∧ yX2_pick.cls ≠ "java/lang/invoke/VarHandle" ∧ (parseMethodDescriptor yX2_pick.desc).map (fun d => d.parameters.length) = some 3 := by decide +kernel
theorem hdV_X10_pickWindow : yX10_pickWindow.cls = RX10 ∧ yX10_pickWindow.cls ≠ "java/lang/invoke/MethodHandle" ∧ yX10_pickWindow.cls ≠ "java/lang/invoke/VarHandle" ∧ (parseMethodDescriptor yX10_pickWindow.desc).map (fun d => d.parameters.length) = some 3 := by decide +kernel
theorem hdS_X10_isField : yX10_isField.cls ≠ "java/lang/invoke/MethodHandle" ∧ yX10_isField.cls ≠ "java/lang/invoke/VarHandle" ∧ (parseMethodDescriptor yX10_isField.desc).map (fun d => d.parameters.length) = some 1 := by decide +kernel
theorem hdS_X10_isAggregate : yX10_isAggregate.cls ≠ "java/lang/invoke/MethodHandle" ∧ yX10_isAggregate.cls ≠ "java/lang/invoke/VarHandle" ∧ (parseMethodDescriptor yX10_isAggregate.desc).map (fun d => d.parameters.length) = some 1 := by decide +kernel
theorem hdV_X5_addDebt : yX5_addDebt.cls = RX5 ∧ yX5_addDebt.cls ≠ "java/lang/invoke/MethodHandle" ∧ yX5_addDebt.cls ≠ "java/lang/invoke/VarHandle" ∧ (parseMethodDescriptor yX5_addDebt.desc).map (fun d => d.parameters.length) = some 2 := by decide +kernel
theorem hdS_X1_rankOf : yX1_rankOf.cls ≠ "java/lang/invoke/MethodHandle" ∧ yX1_rankOf.cls ≠ "java/lang/invoke/VarHandle" ∧ (parseMethodDescriptor yX1_rankOf.desc).map (fun d => d.parameters.length) = some 1 := by decide +kernel
theorem hdV_X1_put : yX1_put.cls = RX1 ∧ yX1_put.cls ≠ "java/lang/invoke/MethodHandle" ∧ yX1_put.cls ≠ "java/lang/invoke/VarHandle" ∧ (parseMethodDescriptor yX1_put.desc).map (fun d => d.parameters.length) = some 1 := by decide +kernel
theorem hdV_X1_settle : yX1_settle.cls = RX1 ∧ yX1_settle.cls ≠ "java/lang/invoke/MethodHandle" ∧ yX1_settle.cls ≠ "java/lang/invoke/VarHandle" ∧ (parseMethodDescriptor yX1_settle.desc).map (fun d => d.parameters.length) = some 1 := by decide +kernel
theorem hdS_X10_isDigit : yX10_isDigit.cls ≠ "java/lang/invoke/MethodHandle" ∧ yX10_isDigit.cls ≠ "java/lang/invoke/VarHandle" ∧ (parseMethodDescriptor yX10_isDigit.desc).map (fun d => d.parameters.length) = some 1 := by decide +kernel
theorem hdV_X1_push : yX1_push.cls = RX1 ∧ yX1_push.cls ≠ "java/lang/invoke/MethodHandle" ∧ yX1_push.cls ≠ "java/lang/invoke/VarHandle" ∧ (parseMethodDescriptor yX1_push.desc).map (fun d => d.parameters.length) = some 1 := by decide +kernel
theorem hdV_X1_close : yX1_close.cls = RX1 ∧ yX1_close.cls ≠ "java/lang/invoke/MethodHandle" ∧ yX1_close.cls ≠ "java/lang/invoke/VarHandle" ∧ (parseMethodDescriptor yX1_close.desc).map (fun d => d.parameters.length) = some 0 := by decide +kernel
theorem hdV_X1_turnSign : yX1_turnSign.cls = RX1 ∧ yX1_turnSign.cls ≠ "java/lang/invoke/MethodHandle" ∧ yX1_turnSign.cls ≠ "java/lang/invoke/VarHandle" ∧ (parseMethodDescriptor yX1_turnSign.desc).map (fun d => d.parameters.length) = some 1 := by decide +kernel
theorem hdV_X1_openAggregate : yX1_openAggregate.cls = RX1 ∧ yX1_openAggregate.cls ≠ "java/lang/invoke/MethodHandle" ∧ yX1_openAggregate.cls ≠ "java/lang/invoke/VarHandle" ∧ (parseMethodDescriptor yX1_openAggregate.desc).map (fun d => d.parameters.length) = some 3 := by decide +kernel
theorem hdV_X1_turnNumber : yX1_turnNumber.cls = RX1 ∧ yX1_turnNumber.cls ≠ "java/lang/invoke/MethodHandle" ∧ yX1_turnNumber.cls ≠ "java/lang/invoke/VarHandle" ∧ (parseMethodDescriptor yX1_turnNumber.desc).map (fun d => d.parameters.length) = some 3 := by decide +kernel
theorem hdV_X1_turnPart : yX1_turnPart.cls = RX1 ∧ yX1_turnPart.cls ≠ "java/lang/invoke/MethodHandle" ∧ yX1_turnPart.cls ≠ "java/lang/invoke/VarHandle" ∧ (parseMethodDescriptor yX1_turnPart.desc).map (fun d => d.parameters.length) = some 3 := by decide +kernel
theorem hdV_X2_putInOrder : yX2_putInOrder.cls = RX2 ∧ yX2_putInOrder.cls ≠ "java/lang/invoke/MethodHandle" ∧ yX2_putInOrder.cls ≠ "java/lang/invoke/VarHandle" ∧ (parseMethodDescriptor yX2_putInOrder.desc).map (fun d => d.parameters.length) = some 2 := by decide +kernel
theorem hdS_X10_isComparison : yX10_isComparison.cls ≠ "java/lang/invoke/MethodHandle" ∧ yX10_isComparison.cls ≠ "java/lang/invoke/VarHandle" ∧ (parseMethodDescriptor yX10_isComparison.desc).map (fun d => d.parameters.length) = some 1 := by decide +kernel
theorem hdV_X7_pull : yX7_pull.cls = RX7 ∧ yX7_pull.cls ≠ "java/lang/invoke/MethodHandle" ∧ yX7_pull.cls ≠ "java/lang/invoke/VarHandle" ∧ (parseMethodDescriptor yX7_pull.desc).map (fun d => d.parameters.length) = some 0 := by decide +kernel
theorem hdV_X7_push : yX7_push.cls = RX7 ∧ yX7_push.cls ≠ "java/lang/invoke/MethodHandle" ∧ yX7_push.cls ≠ "java/lang/invoke/VarHandle" ∧ (parseMethodDescriptor yX7_push.desc).map (fun d => d.parameters.length) = some 1 := by decide +kernel
theorem hdS_X10_combined : yX10_combined.cls ≠ "java/lang/invoke/MethodHandle" ∧ yX10_combined.cls ≠ "java/lang/invoke/VarHandle" ∧ (parseMethodDescriptor yX10_combined.desc).map (fun d => d.parameters.length) = some 3 := by decide +kernel
theorem hdV_X2_fieldOf : yX2_fieldOf.cls = RX2 ∧ yX2_fieldOf.cls ≠ "java/lang/invoke/MethodHandle" ∧ yX2_fieldOf.cls ≠ "java/lang/invoke/VarHandle" ∧ (parseMethodDescriptor yX2_fieldOf.desc).map (fun d => d.parameters.length) = some 2 := by decide +kernel
theorem hdV_X7_step : yX7_step.cls = RX7 ∧ yX7_step.cls ≠ "java/lang/invoke/MethodHandle" ∧ yX7_step.cls ≠ "java/lang/invoke/VarHandle" ∧ (parseMethodDescriptor yX7_step.desc).map (fun d => d.parameters.length) = some 4 := by decide +kernel
theorem hdV_X8_clear : yX8_clear.cls = RX8 ∧ yX8_clear.cls ≠ "java/lang/invoke/MethodHandle" ∧ yX8_clear.cls ≠ "java/lang/invoke/VarHandle" ∧ (parseMethodDescriptor yX8_clear.desc).map (fun d => d.parameters.length) = some 0 := by decide +kernel
theorem hdV_X8_mostOften : yX8_mostOften.cls = RX8 ∧ yX8_mostOften.cls ≠ "java/lang/invoke/MethodHandle" ∧ yX8_mostOften.cls ≠ "java/lang/invoke/VarHandle" ∧ (parseMethodDescriptor yX8_mostOften.desc).map (fun d => d.parameters.length) = some 0 := by decide +kernel
theorem hdV_X8_result : yX8_result.cls = RX8 ∧ yX8_result.cls ≠ "java/lang/invoke/MethodHandle" ∧ yX8_result.cls ≠ "java/lang/invoke/VarHandle" ∧ (parseMethodDescriptor yX8_result.desc).map (fun d => d.parameters.length) = some 1 := by decide +kernel
theorem hdV_X8_add : yX8_add.cls = RX8 ∧ yX8_add.cls ≠ "java/lang/invoke/MethodHandle" ∧ yX8_add.cls ≠ "java/lang/invoke/VarHandle" ∧ (parseMethodDescriptor yX8_add.desc).map (fun d => d.parameters.length) = some 1 := by decide +kernel
theorem hdV_X7_holds : yX7_holds.cls = RX7 ∧ yX7_holds.cls ≠ "java/lang/invoke/MethodHandle" ∧ yX7_holds.cls ≠ "java/lang/invoke/VarHandle" ∧ (parseMethodDescriptor yX7_holds.desc).map (fun d => d.parameters.length) = some 5 := by decide +kernel
theorem hdV_X7_gather : yX7_gather.cls = RX7 ∧ yX7_gather.cls ≠ "java/lang/invoke/MethodHandle" ∧ yX7_gather.cls ≠ "java/lang/invoke/VarHandle" ∧ (parseMethodDescriptor yX7_gather.desc).map (fun d => d.parameters.length) = some 3 := by decide +kernel
section CE
variable {D : DD} {B : Nat} {σ : St}
theorem ce_0 : (cells D B true σ)[0]? = some (.inr (10, [.ref (B + 1), .int (gI σ 1), .int (gI σ 2), .ref (B + 2), .int (gI σ 4), .ref (B + 3), .ref (B + 12), .ref (B + 18), .ref (B + 24), .ref (B + 26), .ref (B + 30), .ref (B + 34)])) := rfl
theorem ce_1 : (cells D B true σ)[1]? = some (.inl (D.2 0, 40, .inl (gA σ 1))) := rfl
theorem ce_2 : (cells D B true σ)[2]? = some (.inl (D.2 4, 4, .inr (.inr (.inr (.inr (fun j => (gQ σ 2 j).map (B + ·))))))) := rfl
theorem ce_3 : (cells D B true σ)[3]? = some (.inr (2, [.ref (B + 4), .ref (B + 5), .ref (B + 6), .ref (B + 7), .ref (B + 8), .ref (B + 9), .ref (B + 10), .ref (B + 11), .int (gI σ 200), .int (gI σ 201)])) := rfl
theorem ce_4 : (cells D B true σ)[4]? = some (.inl (D.2 1, 100, .inl (gA σ 4))) := rfl
theorem ce_5 : (cells D B true σ)[5]? = some (.inl (D.2 1, 100, .inl (gA σ 5))) := rfl
theorem ce_6 : (cells D B true σ)[6]? = some (.inl (D.2 1, 100, .inl (gA σ 6))) := rfl
theorem ce_7 : (cells D B true σ)[7]? = some (.inl (D.2 1, 100, .inl (gA σ 7))) := rfl
theorem ce_8 : (cells D B true σ)[8]? = some (.inl (D.2 1, 100, .inl (gA σ 8))) := rfl
theorem ce_9 : (cells D B true σ)[9]? = some (.inl (D.2 1, 100, .inl (gA σ 9))) := rfl
theorem ce_10 : (cells D B true σ)[10]? = some (.inl (D.2 1, 1002, .inl (gA σ 10))) := rfl
theorem ce_11 : (cells D B true σ)[11]? = some (.inl (D.2 1, 100, .inl (gA σ 11))) := rfl
theorem ce_12 : (cells D B true σ)[12]? = some (.inr (5, [.int (gI σ 768), .ref (B + 13), .ref (B + 14), .ref (B + 15), .ref (B + 16), .ref (B + 17), .int (gI σ 774)])) := rfl
theorem ce_13 : (cells D B true σ)[13]? = some (.inl (D.2 1, 126, .inl (gA σ 13))) := rfl
theorem ce_14 : (cells D B true σ)[14]? = some (.inl (D.2 1, 126, .inl (gA σ 14))) := rfl
theorem ce_15 : (cells D B true σ)[15]? = some (.inl (D.2 1, 126, .inl (gA σ 15))) := rfl
theorem ce_16 : (cells D B true σ)[16]? = some (.inl (D.2 1, 4000, .inl (gA σ 16))) := rfl
theorem ce_17 : (cells D B true σ)[17]? = some (.inl (D.2 1, 4000, .inl (gA σ 17))) := rfl
theorem ce_18 : (cells D B true σ)[18]? = some (.inr (0, [.ref (B + 19), .ref (B + 20), .ref (B + 21), .ref (B + 22), .ref (B + 23), .int (gI σ 1157), .int (gI σ 1158)])) := rfl
theorem ce_19 : (cells D B true σ)[19]? = some (.inl (D.2 1, 4000, .inl (gA σ 19))) := rfl
theorem ce_20 : (cells D B true σ)[20]? = some (.inl (D.2 1, 4000, .inl (gA σ 20))) := rfl
theorem ce_21 : (cells D B true σ)[21]? = some (.inl (D.2 1, 4000, .inl (gA σ 21))) := rfl
theorem ce_22 : (cells D B true σ)[22]? = some (.inl (D.2 1, 4000, .inl (gA σ 22))) := rfl
theorem ce_23 : (cells D B true σ)[23]? = some (.inl (D.2 3, 4000, .inl (gA σ 23))) := rfl
theorem ce_24 : (cells D B true σ)[24]? = some (.inr (4, [rfB B (gR σ 1536), .int (gI σ 1537), .int (gI σ 1538)])) := rfl
theorem ce_25 : (cells D B true σ)[25]? = some (.inl (D.2 0, 0, .inl (gA σ 25))) := rfl
theorem ce_26 : (cells D B true σ)[26]? = some (.inr (1, [.ref (B + 27), .int (gI σ 1665), .ref (B + 28), .ref (B + 29), .int (gI σ 1668), .int (gI σ 1669)])) := rfl
theorem ce_27 : (cells D B true σ)[27]? = some (.inl (D.2 1, 80, .inl (gA σ 27))) := rfl
theorem ce_28 : (cells D B true σ)[28]? = some (.inl (D.2 1, 40, .inl (gA σ 28))) := rfl
theorem ce_29 : (cells D B true σ)[29]? = some (.inl (D.2 1, 40, .inl (gA σ 29))) := rfl
theorem ce_30 : (cells D B true σ)[30]? = some (.inr (9, [.ref (B + 31)])) := rfl
theorem ce_31 : (cells D B true σ)[31]? = some (.inr (8, [.ref (B + 32), .int (gI σ 1985), .long (gL σ 1986), .int (gI σ 1987), .int (gI σ 1988), .int (gI σ 1989), .ref (B + 33)])) := rfl
theorem ce_32 : (cells D B true σ)[32]? = some (.inl (D.2 1, 100, .inl (gA σ 32))) := rfl
theorem ce_33 : (cells D B true σ)[33]? = some (.inl (D.2 1, 2001, .inl (gA σ 33))) := rfl
theorem ce_34 : (cells D B true σ)[34]? = some (.inr (7, [.ref (B + 35), .ref (B + 38), .int (gI σ 2178)])) := rfl
theorem ce_35 : (cells D B true σ)[35]? = some (.inr (8, [.ref (B + 36), .int (gI σ 2241), .long (gL σ 2242), .int (gI σ 2243), .int (gI σ 2244), .int (gI σ 2245), .ref (B + 37)])) := rfl
theorem ce_36 : (cells D B true σ)[36]? = some (.inl (D.2 1, 100, .inl (gA σ 36))) := rfl
theorem ce_37 : (cells D B true σ)[37]? = some (.inl (D.2 1, 2001, .inl (gA σ 37))) := rfl
theorem ce_38 : (cells D B true σ)[38]? = some (.inl (D.2 2, 40, .inr (.inl (gJ σ 38)))) := rfl
theorem ce_39 : (cells D B true σ)[39]? = some (.inl (D.2 1, 4, .inl (gA σ 39))) := rfl
theorem ce_40 : (cells D B true σ)[40]? = some (.inl (D.2 1, 60, .inl (gA σ 40))) := rfl
theorem ce_41 : (cells D B true σ)[41]? = some (.inl (D.2 1, 64, .inl (gA σ 41))) := rfl
theorem ce_42 : (cells D B true σ)[42]? = some (.inl (D.2 1, 48, .inl (gA σ 42))) := rfl
theorem ce_43 : (cells D B true σ)[43]? = some (.inl (D.2 1, 40, .inl (gA σ 43))) := rfl
theorem ce_44 : (cells D B true σ)[44]? = some (.inl (D.2 1, 64, .inl (gA σ 44))) := rfl
theorem cp_1 (x : Int32) : cells D B true (sI σ 1 x) = (cells D B true σ).set 0 (.inr (10, ([.ref (B + 1), .int (gI σ 1), .int (gI σ 2), .ref (B + 2), .int (gI σ 4), .ref (B + 3), .ref (B + 12), .ref (B + 18), .ref (B + 24), .ref (B + 26), .ref (B + 30), .ref (B + 34)] : List Value).set 1 (.int x))) := rfl
theorem cp_2 (x : Int32) : cells D B true (sI σ 2 x) = (cells D B true σ).set 0 (.inr (10, ([.ref (B + 1), .int (gI σ 1), .int (gI σ 2), .ref (B + 2), .int (gI σ 4), .ref (B + 3), .ref (B + 12), .ref (B + 18), .ref (B + 24), .ref (B + 26), .ref (B + 30), .ref (B + 34)] : List Value).set 2 (.int x))) := rfl
theorem cp_200 (x : Int32) : cells D B true (sI σ 200 x) = (cells D B true σ).set 3 (.inr (2, ([.ref (B + 4), .ref (B + 5), .ref (B + 6), .ref (B + 7), .ref (B + 8), .ref (B + 9), .ref (B + 10), .ref (B + 11), .int (gI σ 200), .int (gI σ 201)] : List Value).set 8 (.int x))) := rfl
theorem cp_201 (x : Int32) : cells D B true (sI σ 201 x) = (cells D B true σ).set 3 (.inr (2, ([.ref (B + 4), .ref (B + 5), .ref (B + 6), .ref (B + 7), .ref (B + 8), .ref (B + 9), .ref (B + 10), .ref (B + 11), .int (gI σ 200), .int (gI σ 201)] : List Value).set 9 (.int x))) := rfl
theorem cp_768 (x : Int32) : cells D B true (sI σ 768 x) = (cells D B true σ).set 12 (.inr (5, ([.int (gI σ 768), .ref (B + 13), .ref (B + 14), .ref (B + 15), .ref (B + 16), .ref (B + 17), .int (gI σ 774)] : List Value).set 0 (.int x))) := rfl
theorem cp_774 (x : Int32) : cells D B true (sI σ 774 x) = (cells D B true σ).set 12 (.inr (5, ([.int (gI σ 768), .ref (B + 13), .ref (B + 14), .ref (B + 15), .ref (B + 16), .ref (B + 17), .int (gI σ 774)] : List Value).set 6 (.int x))) := rfl
theorem cp_1157 (x : Int32) : cells D B true (sI σ 1157 x) = (cells D B true σ).set 18 (.inr (0, ([.ref (B + 19), .ref (B + 20), .ref (B + 21), .ref (B + 22), .ref (B + 23), .int (gI σ 1157), .int (gI σ 1158)] : List Value).set 5 (.int x))) := rfl
theorem cp_1158 (x : Int32) : cells D B true (sI σ 1158 x) = (cells D B true σ).set 18 (.inr (0, ([.ref (B + 19), .ref (B + 20), .ref (B + 21), .ref (B + 22), .ref (B + 23), .int (gI σ 1157), .int (gI σ 1158)] : List Value).set 6 (.int x))) := rfl
theorem cp_1536 (x : Option Nat) : cells D B true (sR σ 1536 x) = (cells D B true σ).set 24 (.inr (4, ([rfB B (gR σ 1536), .int (gI σ 1537), .int (gI σ 1538)] : List Value).set 0 (rfB B x))) := rfl
theorem cp_1537 (x : Int32) : cells D B true (sI σ 1537 x) = (cells D B true σ).set 24 (.inr (4, ([rfB B (gR σ 1536), .int (gI σ 1537), .int (gI σ 1538)] : List Value).set 1 (.int x))) := rfl
theorem cp_1538 (x : Int32) : cells D B true (sI σ 1538 x) = (cells D B true σ).set 24 (.inr (4, ([rfB B (gR σ 1536), .int (gI σ 1537), .int (gI σ 1538)] : List Value).set 2 (.int x))) := rfl
theorem cp_1665 (x : Int32) : cells D B true (sI σ 1665 x) = (cells D B true σ).set 26 (.inr (1, ([.ref (B + 27), .int (gI σ 1665), .ref (B + 28), .ref (B + 29), .int (gI σ 1668), .int (gI σ 1669)] : List Value).set 1 (.int x))) := rfl
theorem cp_1668 (x : Int32) : cells D B true (sI σ 1668 x) = (cells D B true σ).set 26 (.inr (1, ([.ref (B + 27), .int (gI σ 1665), .ref (B + 28), .ref (B + 29), .int (gI σ 1668), .int (gI σ 1669)] : List Value).set 4 (.int x))) := rfl
theorem cp_1669 (x : Int32) : cells D B true (sI σ 1669 x) = (cells D B true σ).set 26 (.inr (1, ([.ref (B + 27), .int (gI σ 1665), .ref (B + 28), .ref (B + 29), .int (gI σ 1668), .int (gI σ 1669)] : List Value).set 5 (.int x))) := rfl
theorem cp_1985 (x : Int32) : cells D B true (sI σ 1985 x) = (cells D B true σ).set 31 (.inr (8, ([.ref (B + 32), .int (gI σ 1985), .long (gL σ 1986), .int (gI σ 1987), .int (gI σ 1988), .int (gI σ 1989), .ref (B + 33)] : List Value).set 1 (.int x))) := rfl
theorem cp_1986 (x : Int64) : cells D B true (sL σ 1986 x) = (cells D B true σ).set 31 (.inr (8, ([.ref (B + 32), .int (gI σ 1985), .long (gL σ 1986), .int (gI σ 1987), .int (gI σ 1988), .int (gI σ 1989), .ref (B + 33)] : List Value).set 2 (.long x))) := rfl
theorem cp_1987 (x : Int32) : cells D B true (sI σ 1987 x) = (cells D B true σ).set 31 (.inr (8, ([.ref (B + 32), .int (gI σ 1985), .long (gL σ 1986), .int (gI σ 1987), .int (gI σ 1988), .int (gI σ 1989), .ref (B + 33)] : List Value).set 3 (.int x))) := rfl
theorem cp_1988 (x : Int32) : cells D B true (sI σ 1988 x) = (cells D B true σ).set 31 (.inr (8, ([.ref (B + 32), .int (gI σ 1985), .long (gL σ 1986), .int (gI σ 1987), .int (gI σ 1988), .int (gI σ 1989), .ref (B + 33)] : List Value).set 4 (.int x))) := rfl
theorem cp_1989 (x : Int32) : cells D B true (sI σ 1989 x) = (cells D B true σ).set 31 (.inr (8, ([.ref (B + 32), .int (gI σ 1985), .long (gL σ 1986), .int (gI σ 1987), .int (gI σ 1988), .int (gI σ 1989), .ref (B + 33)] : List Value).set 5 (.int x))) := rfl
theorem cp_2178 (x : Int32) : cells D B true (sI σ 2178 x) = (cells D B true σ).set 34 (.inr (7, ([.ref (B + 35), .ref (B + 38), .int (gI σ 2178)] : List Value).set 2 (.int x))) := rfl
theorem cp_2241 (x : Int32) : cells D B true (sI σ 2241 x) = (cells D B true σ).set 35 (.inr (8, ([.ref (B + 36), .int (gI σ 2241), .long (gL σ 2242), .int (gI σ 2243), .int (gI σ 2244), .int (gI σ 2245), .ref (B + 37)] : List Value).set 1 (.int x))) := rfl
theorem cp_2242 (x : Int64) : cells D B true (sL σ 2242 x) = (cells D B true σ).set 35 (.inr (8, ([.ref (B + 36), .int (gI σ 2241), .long (gL σ 2242), .int (gI σ 2243), .int (gI σ 2244), .int (gI σ 2245), .ref (B + 37)] : List Value).set 2 (.long x))) := rfl
theorem cp_2243 (x : Int32) : cells D B true (sI σ 2243 x) = (cells D B true σ).set 35 (.inr (8, ([.ref (B + 36), .int (gI σ 2241), .long (gL σ 2242), .int (gI σ 2243), .int (gI σ 2244), .int (gI σ 2245), .ref (B + 37)] : List Value).set 3 (.int x))) := rfl
theorem cp_2244 (x : Int32) : cells D B true (sI σ 2244 x) = (cells D B true σ).set 35 (.inr (8, ([.ref (B + 36), .int (gI σ 2241), .long (gL σ 2242), .int (gI σ 2243), .int (gI σ 2244), .int (gI σ 2245), .ref (B + 37)] : List Value).set 4 (.int x))) := rfl
theorem cp_2245 (x : Int32) : cells D B true (sI σ 2245 x) = (cells D B true σ).set 35 (.inr (8, ([.ref (B + 36), .int (gI σ 2241), .long (gL σ 2242), .int (gI σ 2243), .int (gI σ 2244), .int (gI σ 2245), .ref (B + 37)] : List Value).set 5 (.int x))) := rfl
theorem ca_4 (j : Nat) (x : Int32) : cells D B true (sA σ 4 j x) = (cells D B true σ).set 4 (.inl (D.2 1, 100, .inl (ups (gA σ 4) j x))) := rfl
theorem ca_5 (j : Nat) (x : Int32) : cells D B true (sA σ 5 j x) = (cells D B true σ).set 5 (.inl (D.2 1, 100, .inl (ups (gA σ 5) j x))) := rfl
theorem ca_6 (j : Nat) (x : Int32) : cells D B true (sA σ 6 j x) = (cells D B true σ).set 6 (.inl (D.2 1, 100, .inl (ups (gA σ 6) j x))) := rfl
theorem ca_7 (j : Nat) (x : Int32) : cells D B true (sA σ 7 j x) = (cells D B true σ).set 7 (.inl (D.2 1, 100, .inl (ups (gA σ 7) j x))) := rfl
theorem ca_8 (j : Nat) (x : Int32) : cells D B true (sA σ 8 j x) = (cells D B true σ).set 8 (.inl (D.2 1, 100, .inl (ups (gA σ 8) j x))) := rfl
theorem ca_9 (j : Nat) (x : Int32) : cells D B true (sA σ 9 j x) = (cells D B true σ).set 9 (.inl (D.2 1, 100, .inl (ups (gA σ 9) j x))) := rfl
theorem ca_10 (j : Nat) (x : Int32) : cells D B true (sA σ 10 j x) = (cells D B true σ).set 10 (.inl (D.2 1, 1002, .inl (ups (gA σ 10) j x))) := rfl
theorem ca_11 (j : Nat) (x : Int32) : cells D B true (sA σ 11 j x) = (cells D B true σ).set 11 (.inl (D.2 1, 100, .inl (ups (gA σ 11) j x))) := rfl
theorem ca_13 (j : Nat) (x : Int32) : cells D B true (sA σ 13 j x) = (cells D B true σ).set 13 (.inl (D.2 1, 126, .inl (ups (gA σ 13) j x))) := rfl
theorem ca_14 (j : Nat) (x : Int32) : cells D B true (sA σ 14 j x) = (cells D B true σ).set 14 (.inl (D.2 1, 126, .inl (ups (gA σ 14) j x))) := rfl
theorem ca_15 (j : Nat) (x : Int32) : cells D B true (sA σ 15 j x) = (cells D B true σ).set 15 (.inl (D.2 1, 126, .inl (ups (gA σ 15) j x))) := rfl
theorem ca_16 (j : Nat) (x : Int32) : cells D B true (sA σ 16 j x) = (cells D B true σ).set 16 (.inl (D.2 1, 4000, .inl (ups (gA σ 16) j x))) := rfl
theorem ca_17 (j : Nat) (x : Int32) : cells D B true (sA σ 17 j x) = (cells D B true σ).set 17 (.inl (D.2 1, 4000, .inl (ups (gA σ 17) j x))) := rfl
theorem ca_19 (j : Nat) (x : Int32) : cells D B true (sA σ 19 j x) = (cells D B true σ).set 19 (.inl (D.2 1, 4000, .inl (ups (gA σ 19) j x))) := rfl
theorem ca_20 (j : Nat) (x : Int32) : cells D B true (sA σ 20 j x) = (cells D B true σ).set 20 (.inl (D.2 1, 4000, .inl (ups (gA σ 20) j x))) := rfl
theorem ca_21 (j : Nat) (x : Int32) : cells D B true (sA σ 21 j x) = (cells D B true σ).set 21 (.inl (D.2 1, 4000, .inl (ups (gA σ 21) j x))) := rfl
theorem ca_22 (j : Nat) (x : Int32) : cells D B true (sA σ 22 j x) = (cells D B true σ).set 22 (.inl (D.2 1, 4000, .inl (ups (gA σ 22) j x))) := rfl
theorem ca_27 (j : Nat) (x : Int32) : cells D B true (sA σ 27 j x) = (cells D B true σ).set 27 (.inl (D.2 1, 80, .inl (ups (gA σ 27) j x))) := rfl
theorem ca_28 (j : Nat) (x : Int32) : cells D B true (sA σ 28 j x) = (cells D B true σ).set 28 (.inl (D.2 1, 40, .inl (ups (gA σ 28) j x))) := rfl
theorem ca_29 (j : Nat) (x : Int32) : cells D B true (sA σ 29 j x) = (cells D B true σ).set 29 (.inl (D.2 1, 40, .inl (ups (gA σ 29) j x))) := rfl
theorem ca_32 (j : Nat) (x : Int32) : cells D B true (sA σ 32 j x) = (cells D B true σ).set 32 (.inl (D.2 1, 100, .inl (ups (gA σ 32) j x))) := rfl
theorem ca_33 (j : Nat) (x : Int32) : cells D B true (sA σ 33 j x) = (cells D B true σ).set 33 (.inl (D.2 1, 2001, .inl (ups (gA σ 33) j x))) := rfl
theorem ca_36 (j : Nat) (x : Int32) : cells D B true (sA σ 36 j x) = (cells D B true σ).set 36 (.inl (D.2 1, 100, .inl (ups (gA σ 36) j x))) := rfl
theorem ca_37 (j : Nat) (x : Int32) : cells D B true (sA σ 37 j x) = (cells D B true σ).set 37 (.inl (D.2 1, 2001, .inl (ups (gA σ 37) j x))) := rfl
theorem ca_38 (j : Nat) (x : Int64) : cells D B true (sJ σ 38 j x) = (cells D B true σ).set 38 (.inl (D.2 2, 40, .inr (.inl (ups (gJ σ 38) j x)))) := rfl
end CE
