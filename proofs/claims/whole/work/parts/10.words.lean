/-! the words that are used; the static cells by their places; what a write does to them -/
theorem w_320 : Cond.fieldLink RX10 13 "Pagerloom" "length" "I" ∈ WT := WT_in (List.mem_of_getElem? (i := 320) (by decide +kernel)) (by decide +kernel)
theorem w_327 : Cond.fieldLink RX10 53 "Pagerloom" "reader" "LPagerloom$Reader;" ∈ WT := WT_in (List.mem_of_getElem? (i := 327) (by decide +kernel)) (by decide +kernel)
theorem w_319 : Cond.fieldLink RX10 9 "Pagerloom" "text" "[C" ∈ WT := WT_in (List.mem_of_getElem? (i := 319) (by decide +kernel)) (by decide +kernel)
theorem w_225 : Cond.fieldLink RX4 9 "Pagerloom$Reader" "text" "[C" ∈ WT := WT_in (List.mem_of_getElem? (i := 225) (by decide +kernel)) (by decide +kernel)
theorem w_226 : Cond.fieldLink RX4 15 "Pagerloom$Reader" "length" "I" ∈ WT := WT_in (List.mem_of_getElem? (i := 226) (by decide +kernel)) (by decide +kernel)
theorem w_227 : Cond.fieldLink RX4 19 "Pagerloom$Reader" "at" "I" ∈ WT := WT_in (List.mem_of_getElem? (i := 227) (by decide +kernel)) (by decide +kernel)
theorem w_376 : Cond.methodLink RX4 38 yX4_here ∈ WT := WT_in (List.mem_of_getElem? (i := 376) (by decide +kernel)) (by decide +kernel)
theorem w_378 : Cond.instanceMethod yX4_here ∈ WT := WT_in (List.mem_of_getElem? (i := 378) (by decide +kernel)) (by decide +kernel)
theorem w_2 : Cond.selects RX4 yX4_here yX4_here ∈ WT := WT_in (List.mem_of_getElem? (i := 2) (by decide +kernel)) (by decide +kernel)
theorem w_79 : Cond.initialized RX4 ∈ WT := WT_in (List.mem_of_getElem? (i := 79) (by decide +kernel)) (by decide +kernel)
theorem w_379 : Cond.code yX4_here cX4_here 1 (some .int) ∈ WT := WT_in (List.mem_of_getElem? (i := 379) (by decide +kernel)) (by decide +kernel)
theorem w_321 : Cond.fieldLink RX10 17 "Pagerloom" "nowHour" "I" ∈ WT := WT_in (List.mem_of_getElem? (i := 321) (by decide +kernel)) (by decide +kernel)
theorem w_595 : Cond.methodLink RX10 128 yX10_isIn ∈ WT := WT_in (List.mem_of_getElem? (i := 595) (by decide +kernel)) (by decide +kernel)
theorem w_474 : Cond.static yX10_isIn ∈ WT := WT_in (List.mem_of_getElem? (i := 474) (by decide +kernel)) (by decide +kernel)
theorem w_74 : Cond.initialized RX10 ∈ WT := WT_in (List.mem_of_getElem? (i := 74) (by decide +kernel)) (by decide +kernel)
theorem w_475 : Cond.code yX10_isIn cX10_isIn 3 (some .boolean) ∈ WT := WT_in (List.mem_of_getElem? (i := 475) (by decide +kernel)) (by decide +kernel)
theorem w_592 : Cond.methodLink RX10 98 yX10_isRange ∈ WT := WT_in (List.mem_of_getElem? (i := 592) (by decide +kernel)) (by decide +kernel)
theorem w_593 : Cond.static yX10_isRange ∈ WT := WT_in (List.mem_of_getElem? (i := 593) (by decide +kernel)) (by decide +kernel)
theorem w_594 : Cond.code yX10_isRange cX10_isRange 4 (some .boolean) ∈ WT := WT_in (List.mem_of_getElem? (i := 594) (by decide +kernel)) (by decide +kernel)
theorem w_325 : Cond.fieldLink RX10 39 "Pagerloom" "rota" "LPagerloom$Rota;" ∈ WT := WT_in (List.mem_of_getElem? (i := 325) (by decide +kernel)) (by decide +kernel)
theorem w_160 : Cond.fieldLink RX10 153 "Pagerloom$Rota" "people" "I" ∈ WT := WT_in (List.mem_of_getElem? (i := 160) (by decide +kernel)) (by decide +kernel)
theorem w_159 : Cond.fieldLink RX5 9 "Pagerloom$Rota" "people" "I" ∈ WT := WT_in (List.mem_of_getElem? (i := 159) (by decide +kernel)) (by decide +kernel)
theorem w_828 : Cond.methodLink RX10 158 yX5_hasPerson ∈ WT := WT_in (List.mem_of_getElem? (i := 828) (by decide +kernel)) (by decide +kernel)
theorem w_829 : Cond.instanceMethod yX5_hasPerson ∈ WT := WT_in (List.mem_of_getElem? (i := 829) (by decide +kernel)) (by decide +kernel)
theorem w_830 : Cond.selects RX5 yX5_hasPerson yX5_hasPerson ∈ WT := WT_in (List.mem_of_getElem? (i := 830) (by decide +kernel)) (by decide +kernel)
theorem w_76 : Cond.initialized RX5 ∈ WT := WT_in (List.mem_of_getElem? (i := 76) (by decide +kernel)) (by decide +kernel)
theorem w_831 : Cond.code yX5_hasPerson cX5_hasPerson 2 (some .boolean) ∈ WT := WT_in (List.mem_of_getElem? (i := 831) (by decide +kernel)) (by decide +kernel)
theorem w_457 : Cond.methodLink RX10 167 yX10_isToCome ∈ WT := WT_in (List.mem_of_getElem? (i := 457) (by decide +kernel)) (by decide +kernel)
theorem w_459 : Cond.instanceMethod yX10_isToCome ∈ WT := WT_in (List.mem_of_getElem? (i := 459) (by decide +kernel)) (by decide +kernel)
theorem w_9 : Cond.selects RX10 yX10_isToCome yX10_isToCome ∈ WT := WT_in (List.mem_of_getElem? (i := 9) (by decide +kernel)) (by decide +kernel)
theorem w_460 : Cond.code yX10_isToCome cX10_isToCome 2 (some .boolean) ∈ WT := WT_in (List.mem_of_getElem? (i := 460) (by decide +kernel)) (by decide +kernel)
theorem wn_473 : Cond.methodLinkNest RX5 40 yX10_isIn "Pagerloom" ∈ tables_1 := List.mem_of_getElem? (i := 400) (by decide +kernel)
theorem w_161 : Cond.fieldLink RX5 15 "Pagerloom$Rota" "swapped" "[I" ∈ WT := WT_in (List.mem_of_getElem? (i := 161) (by decide +kernel)) (by decide +kernel)
theorem w_469 : Cond.methodLink RX5 48 yX5_plannedFor ∈ WT := WT_in (List.mem_of_getElem? (i := 469) (by decide +kernel)) (by decide +kernel)
theorem w_470 : Cond.instanceMethod yX5_plannedFor ∈ WT := WT_in (List.mem_of_getElem? (i := 470) (by decide +kernel)) (by decide +kernel)
theorem w_471 : Cond.selects RX5 yX5_plannedFor yX5_plannedFor ∈ WT := WT_in (List.mem_of_getElem? (i := 471) (by decide +kernel)) (by decide +kernel)
theorem w_472 : Cond.code yX5_plannedFor cX5_plannedFor 2 (some .int) ∈ WT := WT_in (List.mem_of_getElem? (i := 472) (by decide +kernel)) (by decide +kernel)
theorem wn_476 : Cond.methodLinkNest RX5 55 yX10_isNight "Pagerloom" ∈ tables_1 := List.mem_of_getElem? (i := 403) (by decide +kernel)
theorem w_477 : Cond.static yX10_isNight ∈ WT := WT_in (List.mem_of_getElem? (i := 477) (by decide +kernel)) (by decide +kernel)
theorem w_478 : Cond.code yX10_isNight cX10_isNight 1 (some .boolean) ∈ WT := WT_in (List.mem_of_getElem? (i := 478) (by decide +kernel)) (by decide +kernel)
theorem w_162 : Cond.fieldLink RX5 19 "Pagerloom$Rota" "offs" "[I" ∈ WT := WT_in (List.mem_of_getElem? (i := 162) (by decide +kernel)) (by decide +kernel)
theorem w_479 : Cond.methodLink RX5 51 yX5_isOff ∈ WT := WT_in (List.mem_of_getElem? (i := 479) (by decide +kernel)) (by decide +kernel)
theorem w_480 : Cond.instanceMethod yX5_isOff ∈ WT := WT_in (List.mem_of_getElem? (i := 480) (by decide +kernel)) (by decide +kernel)
theorem w_481 : Cond.selects RX5 yX5_isOff yX5_isOff ∈ WT := WT_in (List.mem_of_getElem? (i := 481) (by decide +kernel)) (by decide +kernel)
theorem w_482 : Cond.code yX5_isOff cX5_isOff 3 (some .boolean) ∈ WT := WT_in (List.mem_of_getElem? (i := 482) (by decide +kernel)) (by decide +kernel)
theorem w_166 : Cond.fieldLink RX5 31 "Pagerloom$Rota" "debts" "I" ∈ WT := WT_in (List.mem_of_getElem? (i := 166) (by decide +kernel)) (by decide +kernel)
theorem w_164 : Cond.fieldLink RX5 25 "Pagerloom$Rota" "debtors" "[I" ∈ WT := WT_in (List.mem_of_getElem? (i := 164) (by decide +kernel)) (by decide +kernel)
theorem w_165 : Cond.fieldLink RX5 28 "Pagerloom$Rota" "creditors" "[I" ∈ WT := WT_in (List.mem_of_getElem? (i := 165) (by decide +kernel)) (by decide +kernel)
theorem w_465 : Cond.methodLink RX5 44 yX5_debtPaidIn ∈ WT := WT_in (List.mem_of_getElem? (i := 465) (by decide +kernel)) (by decide +kernel)
theorem w_467 : Cond.instanceMethod yX5_debtPaidIn ∈ WT := WT_in (List.mem_of_getElem? (i := 467) (by decide +kernel)) (by decide +kernel)
theorem w_10 : Cond.selects RX5 yX5_debtPaidIn yX5_debtPaidIn ∈ WT := WT_in (List.mem_of_getElem? (i := 10) (by decide +kernel)) (by decide +kernel)
theorem w_468 : Cond.code yX5_debtPaidIn cX5_debtPaidIn 4 (some .int) ∈ WT := WT_in (List.mem_of_getElem? (i := 468) (by decide +kernel)) (by decide +kernel)
theorem w_461 : Cond.methodLink RX10 193 yX5_holderToBe ∈ WT := WT_in (List.mem_of_getElem? (i := 461) (by decide +kernel)) (by decide +kernel)
theorem w_462 : Cond.instanceMethod yX5_holderToBe ∈ WT := WT_in (List.mem_of_getElem? (i := 462) (by decide +kernel)) (by decide +kernel)
theorem w_463 : Cond.selects RX5 yX5_holderToBe yX5_holderToBe ∈ WT := WT_in (List.mem_of_getElem? (i := 463) (by decide +kernel)) (by decide +kernel)
theorem w_464 : Cond.code yX5_holderToBe cX5_holderToBe 6 (some .int) ∈ WT := WT_in (List.mem_of_getElem? (i := 464) (by decide +kernel)) (by decide +kernel)
theorem w_323 : Cond.fieldLink RX10 26 "Pagerloom" "ruleCount" "I" ∈ WT := WT_in (List.mem_of_getElem? (i := 323) (by decide +kernel)) (by decide +kernel)
theorem w_322 : Cond.fieldLink RX10 22 "Pagerloom" "rules" "[LPagerloom$Rule;" ∈ WT := WT_in (List.mem_of_getElem? (i := 322) (by decide +kernel)) (by decide +kernel)
theorem w_763 : Cond.methodLink RX10 213 yX10_ruleAt ∈ WT := WT_in (List.mem_of_getElem? (i := 763) (by decide +kernel)) (by decide +kernel)
theorem w_765 : Cond.instanceMethod yX10_ruleAt ∈ WT := WT_in (List.mem_of_getElem? (i := 765) (by decide +kernel)) (by decide +kernel)
theorem w_30 : Cond.selects RX10 yX10_ruleAt yX10_ruleAt ∈ WT := WT_in (List.mem_of_getElem? (i := 30) (by decide +kernel)) (by decide +kernel)
theorem w_766 : Cond.code yX10_ruleAt cX10_ruleAt 2 (some (.object "Pagerloom$Rule")) ∈ WT := WT_in (List.mem_of_getElem? (i := 766) (by decide +kernel)) (by decide +kernel)
theorem w_326 : Cond.fieldLink RX10 46 "Pagerloom" "alarmList" "LPagerloom$Alarms;" ∈ WT := WT_in (List.mem_of_getElem? (i := 326) (by decide +kernel)) (by decide +kernel)
theorem w_200 : Cond.fieldLink RX10 136 "Pagerloom$Alarms" "count" "I" ∈ WT := WT_in (List.mem_of_getElem? (i := 200) (by decide +kernel)) (by decide +kernel)
theorem w_202 : Cond.fieldLink RX10 253 "Pagerloom$Alarms" "wokenCount" "I" ∈ WT := WT_in (List.mem_of_getElem? (i := 202) (by decide +kernel)) (by decide +kernel)
theorem w_199 : Cond.fieldLink RX0 28 "Pagerloom$Alarms" "count" "I" ∈ WT := WT_in (List.mem_of_getElem? (i := 199) (by decide +kernel)) (by decide +kernel)
theorem w_1010 : Cond.methodLink RX10 256 yX0_has ∈ WT := WT_in (List.mem_of_getElem? (i := 1010) (by decide +kernel)) (by decide +kernel)
theorem w_1011 : Cond.instanceMethod yX0_has ∈ WT := WT_in (List.mem_of_getElem? (i := 1011) (by decide +kernel)) (by decide +kernel)
theorem w_1012 : Cond.selects RX0 yX0_has yX0_has ∈ WT := WT_in (List.mem_of_getElem? (i := 1012) (by decide +kernel)) (by decide +kernel)
theorem w_78 : Cond.initialized RX0 ∈ WT := WT_in (List.mem_of_getElem? (i := 78) (by decide +kernel)) (by decide +kernel)
theorem w_1013 : Cond.code yX0_has cX0_has 2 (some .boolean) ∈ WT := WT_in (List.mem_of_getElem? (i := 1013) (by decide +kernel)) (by decide +kernel)
theorem w_163 : Cond.fieldLink RX5 22 "Pagerloom$Rota" "holders" "[I" ∈ WT := WT_in (List.mem_of_getElem? (i := 163) (by decide +kernel)) (by decide +kernel)
theorem w_749 : Cond.methodLink RX5 59 yX5_holderToBe ∈ WT := WT_in (List.mem_of_getElem? (i := 749) (by decide +kernel)) (by decide +kernel)
theorem w_750 : Cond.methodLink RX5 62 yX5_forgetDebt ∈ WT := WT_in (List.mem_of_getElem? (i := 750) (by decide +kernel)) (by decide +kernel)
theorem w_752 : Cond.instanceMethod yX5_forgetDebt ∈ WT := WT_in (List.mem_of_getElem? (i := 752) (by decide +kernel)) (by decide +kernel)
theorem w_29 : Cond.selects RX5 yX5_forgetDebt yX5_forgetDebt ∈ WT := WT_in (List.mem_of_getElem? (i := 29) (by decide +kernel)) (by decide +kernel)
theorem w_753 : Cond.code yX5_forgetDebt cX5_forgetDebt 3 none ∈ WT := WT_in (List.mem_of_getElem? (i := 753) (by decide +kernel)) (by decide +kernel)
theorem w_745 : Cond.methodLink RX10 300 yX5_begin ∈ WT := WT_in (List.mem_of_getElem? (i := 745) (by decide +kernel)) (by decide +kernel)
theorem w_746 : Cond.instanceMethod yX5_begin ∈ WT := WT_in (List.mem_of_getElem? (i := 746) (by decide +kernel)) (by decide +kernel)
theorem w_747 : Cond.selects RX5 yX5_begin yX5_begin ∈ WT := WT_in (List.mem_of_getElem? (i := 747) (by decide +kernel)) (by decide +kernel)
theorem w_748 : Cond.code yX5_begin cX5_begin 3 none ∈ WT := WT_in (List.mem_of_getElem? (i := 748) (by decide +kernel)) (by decide +kernel)
theorem w_754 : Cond.methodLink RX10 196 yX5_holderOf ∈ WT := WT_in (List.mem_of_getElem? (i := 754) (by decide +kernel)) (by decide +kernel)
theorem w_755 : Cond.instanceMethod yX5_holderOf ∈ WT := WT_in (List.mem_of_getElem? (i := 755) (by decide +kernel)) (by decide +kernel)
theorem w_756 : Cond.selects RX5 yX5_holderOf yX5_holderOf ∈ WT := WT_in (List.mem_of_getElem? (i := 756) (by decide +kernel)) (by decide +kernel)
theorem w_757 : Cond.code yX5_holderOf cX5_holderOf 2 (some .int) ∈ WT := WT_in (List.mem_of_getElem? (i := 757) (by decide +kernel)) (by decide +kernel)
theorem w_201 : Cond.fieldLink RX0 32 "Pagerloom$Alarms" "wokenCount" "I" ∈ WT := WT_in (List.mem_of_getElem? (i := 201) (by decide +kernel)) (by decide +kernel)
theorem w_762 : Cond.methodLink RX0 39 Lib.Math.max.name ∈ WT := WT_in (List.mem_of_getElem? (i := 762) (by decide +kernel)) (by decide +kernel)
theorem w_607 : Cond.static Lib.Math.max.name ∈ WT := WT_in (List.mem_of_getElem? (i := 607) (by decide +kernel)) (by decide +kernel)
theorem w_91 : Cond.initialized "java/lang/Math" ∈ WT := WT_in (List.mem_of_getElem? (i := 91) (by decide +kernel)) (by decide +kernel)
theorem w_193 : Cond.fieldLink RX0 18 "Pagerloom$Alarms" "woken" "[I" ∈ WT := WT_in (List.mem_of_getElem? (i := 193) (by decide +kernel)) (by decide +kernel)
theorem w_195 : Cond.fieldLink RX0 21 "Pagerloom$Alarms" "wokenIn" "[I" ∈ WT := WT_in (List.mem_of_getElem? (i := 195) (by decide +kernel)) (by decide +kernel)
theorem w_758 : Cond.methodLink RX10 303 yX0_wakeAll ∈ WT := WT_in (List.mem_of_getElem? (i := 758) (by decide +kernel)) (by decide +kernel)
theorem w_759 : Cond.instanceMethod yX0_wakeAll ∈ WT := WT_in (List.mem_of_getElem? (i := 759) (by decide +kernel)) (by decide +kernel)
theorem w_760 : Cond.selects RX0 yX0_wakeAll yX0_wakeAll ∈ WT := WT_in (List.mem_of_getElem? (i := 760) (by decide +kernel)) (by decide +kernel)
theorem w_761 : Cond.code yX0_wakeAll cX0_wakeAll 4 none ∈ WT := WT_in (List.mem_of_getElem? (i := 761) (by decide +kernel)) (by decide +kernel)
theorem w_928 : Cond.fieldLink RX6 9 "Pagerloom$Rule" "lastHour" "I" ∈ WT := WT_in (List.mem_of_getElem? (i := 928) (by decide +kernel)) (by decide +kernel)
theorem w_767 : Cond.methodLink RX10 219 yX6_isDropped ∈ WT := WT_in (List.mem_of_getElem? (i := 767) (by decide +kernel)) (by decide +kernel)
theorem w_768 : Cond.instanceMethod yX6_isDropped ∈ WT := WT_in (List.mem_of_getElem? (i := 768) (by decide +kernel)) (by decide +kernel)
theorem w_769 : Cond.selects RX6 yX6_isDropped yX6_isDropped ∈ WT := WT_in (List.mem_of_getElem? (i := 769) (by decide +kernel)) (by decide +kernel)
theorem w_93 : Cond.initialized RX6 ∈ WT := WT_in (List.mem_of_getElem? (i := 93) (by decide +kernel)) (by decide +kernel)
theorem w_770 : Cond.code yX6_isDropped cX6_isDropped 1 (some .boolean) ∈ WT := WT_in (List.mem_of_getElem? (i := 770) (by decide +kernel)) (by decide +kernel)
theorem w_937 : Cond.fieldLink RX10 306 "Pagerloom$Rule" "lastRise" "I" ∈ WT := WT_in (List.mem_of_getElem? (i := 937) (by decide +kernel)) (by decide +kernel)
theorem w_925 : Cond.fieldLink RX6 41 "Pagerloom$Rule" "rest" "I" ∈ WT := WT_in (List.mem_of_getElem? (i := 925) (by decide +kernel)) (by decide +kernel)
theorem w_775 : Cond.methodLink RX10 311 yX6_hasRested ∈ WT := WT_in (List.mem_of_getElem? (i := 775) (by decide +kernel)) (by decide +kernel)
theorem w_776 : Cond.instanceMethod yX6_hasRested ∈ WT := WT_in (List.mem_of_getElem? (i := 776) (by decide +kernel)) (by decide +kernel)
theorem w_777 : Cond.selects RX6 yX6_hasRested yX6_hasRested ∈ WT := WT_in (List.mem_of_getElem? (i := 777) (by decide +kernel)) (by decide +kernel)
theorem w_778 : Cond.code yX6_hasRested cX6_hasRested 3 (some .boolean) ∈ WT := WT_in (List.mem_of_getElem? (i := 778) (by decide +kernel)) (by decide +kernel)
theorem w_932 : Cond.fieldLink RX6 22 "Pagerloom$Rule" "silences" "I" ∈ WT := WT_in (List.mem_of_getElem? (i := 932) (by decide +kernel)) (by decide +kernel)
theorem w_930 : Cond.fieldLink RX6 15 "Pagerloom$Rule" "silentFrom" "[I" ∈ WT := WT_in (List.mem_of_getElem? (i := 930) (by decide +kernel)) (by decide +kernel)
theorem w_931 : Cond.fieldLink RX6 19 "Pagerloom$Rule" "silentTo" "[I" ∈ WT := WT_in (List.mem_of_getElem? (i := 931) (by decide +kernel)) (by decide +kernel)
theorem wn_783 : Cond.methodLinkNest RX6 47 yX10_isIn "Pagerloom" ∈ tables_1 := List.mem_of_getElem? (i := 710) (by decide +kernel)
theorem w_779 : Cond.methodLink RX10 314 yX6_isSilentIn ∈ WT := WT_in (List.mem_of_getElem? (i := 779) (by decide +kernel)) (by decide +kernel)
theorem w_780 : Cond.instanceMethod yX6_isSilentIn ∈ WT := WT_in (List.mem_of_getElem? (i := 780) (by decide +kernel)) (by decide +kernel)
theorem w_781 : Cond.selects RX6 yX6_isSilentIn yX6_isSilentIn ∈ WT := WT_in (List.mem_of_getElem? (i := 781) (by decide +kernel)) (by decide +kernel)
theorem w_782 : Cond.code yX6_isSilentIn cX6_isSilentIn 3 (some .boolean) ∈ WT := WT_in (List.mem_of_getElem? (i := 782) (by decide +kernel)) (by decide +kernel)
theorem w_324 : Cond.fieldLink RX10 32 "Pagerloom" "logs" "LPagerloom$Logs;" ∈ WT := WT_in (List.mem_of_getElem? (i := 324) (by decide +kernel)) (by decide +kernel)
theorem w_924 : Cond.fieldLink RX10 317 "Pagerloom$Rule" "window" "I" ∈ WT := WT_in (List.mem_of_getElem? (i := 924) (by decide +kernel)) (by decide +kernel)
theorem w_788 : Cond.methodLink RX10 320 Lib.Math.max.name ∈ WT := WT_in (List.mem_of_getElem? (i := 788) (by decide +kernel)) (by decide +kernel)
theorem w_123 : Cond.fieldLink RX2 40 "Pagerloom$Logs" "picks" "I" ∈ WT := WT_in (List.mem_of_getElem? (i := 123) (by decide +kernel)) (by decide +kernel)
theorem wn_602 : Cond.methodLinkNest RX2 51 yX10_isRange "Pagerloom" ∈ tables_1 := List.mem_of_getElem? (i := 529) (by decide +kernel)
theorem w_117 : Cond.fieldLink RX2 30 "Pagerloom$Logs" "ahead" "[I" ∈ WT := WT_in (List.mem_of_getElem? (i := 117) (by decide +kernel)) (by decide +kernel)
theorem w_121 : Cond.fieldLink RX2 36 "Pagerloom$Logs" "count" "I" ∈ WT := WT_in (List.mem_of_getElem? (i := 121) (by decide +kernel)) (by decide +kernel)
theorem w_603 : Cond.methodLink RX2 55 Lib.Math.min.name ∈ WT := WT_in (List.mem_of_getElem? (i := 603) (by decide +kernel)) (by decide +kernel)
theorem w_604 : Cond.static Lib.Math.min.name ∈ WT := WT_in (List.mem_of_getElem? (i := 604) (by decide +kernel)) (by decide +kernel)
theorem w_606 : Cond.methodLink RX2 61 Lib.Math.max.name ∈ WT := WT_in (List.mem_of_getElem? (i := 606) (by decide +kernel)) (by decide +kernel)
theorem w_116 : Cond.fieldLink RX2 27 "Pagerloom$Logs" "order" "[I" ∈ WT := WT_in (List.mem_of_getElem? (i := 116) (by decide +kernel)) (by decide +kernel)
theorem wn_609 : Cond.methodLinkNest RX2 43 yX10_isIn "Pagerloom" ∈ tables_1 := List.mem_of_getElem? (i := 536) (by decide +kernel)
theorem w_115 : Cond.fieldLink RX2 24 "Pagerloom$Logs" "toldIn" "[I" ∈ WT := WT_in (List.mem_of_getElem? (i := 115) (by decide +kernel)) (by decide +kernel)
theorem w_118 : Cond.fieldLink RX2 33 "Pagerloom$Logs" "picked" "[I" ∈ WT := WT_in (List.mem_of_getElem? (i := 118) (by decide +kernel)) (by decide +kernel)
theorem w_598 : Cond.methodLink RX10 106 yX2_pick ∈ WT := WT_in (List.mem_of_getElem? (i := 598) (by decide +kernel)) (by decide +kernel)
theorem w_599 : Cond.instanceMethod yX2_pick ∈ WT := WT_in (List.mem_of_getElem? (i := 599) (by decide +kernel)) (by decide +kernel)
theorem w_600 : Cond.selects RX2 yX2_pick yX2_pick ∈ WT := WT_in (List.mem_of_getElem? (i := 600) (by decide +kernel)) (by decide +kernel)
theorem w_75 : Cond.initialized RX2 ∈ WT := WT_in (List.mem_of_getElem? (i := 75) (by decide +kernel)) (by decide +kernel)
theorem w_601 : Cond.code yX2_pick cX2_pick 7 none ∈ WT := WT_in (List.mem_of_getElem? (i := 601) (by decide +kernel)) (by decide +kernel)
theorem w_784 : Cond.methodLink RX10 239 yX10_pickWindow ∈ WT := WT_in (List.mem_of_getElem? (i := 784) (by decide +kernel)) (by decide +kernel)
theorem w_786 : Cond.instanceMethod yX10_pickWindow ∈ WT := WT_in (List.mem_of_getElem? (i := 786) (by decide +kernel)) (by decide +kernel)
theorem w_32 : Cond.selects RX10 yX10_pickWindow yX10_pickWindow ∈ WT := WT_in (List.mem_of_getElem? (i := 32) (by decide +kernel)) (by decide +kernel)
theorem w_787 : Cond.code yX10_pickWindow cX10_pickWindow 4 none ∈ WT := WT_in (List.mem_of_getElem? (i := 787) (by decide +kernel)) (by decide +kernel)
theorem w_329 : Cond.fieldLink RX10 67 "Pagerloom" "walker" "LPagerloom$Walker;" ∈ WT := WT_in (List.mem_of_getElem? (i := 329) (by decide +kernel)) (by decide +kernel)
theorem w_920 : Cond.fieldLink RX10 296 "Pagerloom$Rule" "question" "LPagerloom$Node;" ∈ WT := WT_in (List.mem_of_getElem? (i := 920) (by decide +kernel)) (by decide +kernel)
theorem w_390 : Cond.fieldLink RX9 22 "Pagerloom$Node" "kind" "I" ∈ WT := WT_in (List.mem_of_getElem? (i := 390) (by decide +kernel)) (by decide +kernel)
theorem wn_618 : Cond.methodLinkNest RX9 28 yX10_isField "Pagerloom" ∈ tables_1 := List.mem_of_getElem? (i := 545) (by decide +kernel)
theorem w_422 : Cond.static yX10_isField ∈ WT := WT_in (List.mem_of_getElem? (i := 422) (by decide +kernel)) (by decide +kernel)
theorem w_423 : Cond.code yX10_isField cX10_isField 1 (some .boolean) ∈ WT := WT_in (List.mem_of_getElem? (i := 423) (by decide +kernel)) (by decide +kernel)
theorem wn_623 : Cond.methodLinkNest RX9 38 yX10_isAggregate "Pagerloom" ∈ tables_1 := List.mem_of_getElem? (i := 550) (by decide +kernel)
theorem w_411 : Cond.static yX10_isAggregate ∈ WT := WT_in (List.mem_of_getElem? (i := 411) (by decide +kernel)) (by decide +kernel)
theorem w_412 : Cond.code yX10_isAggregate cX10_isAggregate 1 (some .boolean) ∈ WT := WT_in (List.mem_of_getElem? (i := 412) (by decide +kernel)) (by decide +kernel)
theorem w_394 : Cond.fieldLink RX9 48 "Pagerloom$Node" "left" "LPagerloom$Node;" ∈ WT := WT_in (List.mem_of_getElem? (i := 394) (by decide +kernel)) (by decide +kernel)
theorem w_190 : Cond.fieldLink RX10 261 "Pagerloom$Alarms" "rules" "[I" ∈ WT := WT_in (List.mem_of_getElem? (i := 190) (by decide +kernel)) (by decide +kernel)
theorem w_194 : Cond.fieldLink RX10 269 "Pagerloom$Alarms" "woken" "[I" ∈ WT := WT_in (List.mem_of_getElem? (i := 194) (by decide +kernel)) (by decide +kernel)
theorem w_922 : Cond.fieldLink RX10 325 "Pagerloom$Rule" "owner" "I" ∈ WT := WT_in (List.mem_of_getElem? (i := 922) (by decide +kernel)) (by decide +kernel)
theorem w_1063 : Cond.methodLink RX10 328 yX5_addDebt ∈ WT := WT_in (List.mem_of_getElem? (i := 1063) (by decide +kernel)) (by decide +kernel)
theorem w_1064 : Cond.instanceMethod yX5_addDebt ∈ WT := WT_in (List.mem_of_getElem? (i := 1064) (by decide +kernel)) (by decide +kernel)
theorem w_1065 : Cond.selects RX5 yX5_addDebt yX5_addDebt ∈ WT := WT_in (List.mem_of_getElem? (i := 1065) (by decide +kernel)) (by decide +kernel)
theorem w_1066 : Cond.code yX5_addDebt cX5_addDebt 3 none ∈ WT := WT_in (List.mem_of_getElem? (i := 1066) (by decide +kernel)) (by decide +kernel)
theorem w_1135 : Cond.fieldLink RX11 102 "PagerloomModel" "thrown" "I" ∈ WT := WT_in (List.mem_of_getElem? (i := 1135) (by decide +kernel)) (by decide +kernel)
theorem w_1088 : Cond.fieldLink RX11 106 "PagerloomModel" "slot" "I" ∈ WT := WT_in (List.mem_of_getElem? (i := 1088) (by decide +kernel)) (by decide +kernel)
theorem w_1084 : Cond.fieldLink RX11 19 "PagerloomModel" "many" "[I" ∈ WT := WT_in (List.mem_of_getElem? (i := 1084) (by decide +kernel)) (by decide +kernel)
theorem w_1082 : Cond.fieldLink RX11 13 "PagerloomModel" "codes" "[I" ∈ WT := WT_in (List.mem_of_getElem? (i := 1082) (by decide +kernel)) (by decide +kernel)
theorem w_1083 : Cond.fieldLink RX11 16 "PagerloomModel" "with" "[I" ∈ WT := WT_in (List.mem_of_getElem? (i := 1083) (by decide +kernel)) (by decide +kernel)
theorem w_1087 : Cond.fieldLink RX11 28 "PagerloomModel" "asksMany" "[I" ∈ WT := WT_in (List.mem_of_getElem? (i := 1087) (by decide +kernel)) (by decide +kernel)
theorem w_1085 : Cond.fieldLink RX11 22 "PagerloomModel" "asks" "[I" ∈ WT := WT_in (List.mem_of_getElem? (i := 1085) (by decide +kernel)) (by decide +kernel)
theorem w_1086 : Cond.fieldLink RX11 25 "PagerloomModel" "asksWith" "[I" ∈ WT := WT_in (List.mem_of_getElem? (i := 1086) (by decide +kernel)) (by decide +kernel)
theorem w_1257 : Cond.methodLink RX11 109 yX11_isIn ∈ WT := WT_in (List.mem_of_getElem? (i := 1257) (by decide +kernel)) (by decide +kernel)
theorem w_1258 : Cond.static yX11_isIn ∈ WT := WT_in (List.mem_of_getElem? (i := 1258) (by decide +kernel)) (by decide +kernel)
theorem w_84 : Cond.initialized RX11 ∈ WT := WT_in (List.mem_of_getElem? (i := 84) (by decide +kernel)) (by decide +kernel)
theorem w_1259 : Cond.code yX11_isIn cX11_isIn 3 (some .boolean) ∈ WT := WT_in (List.mem_of_getElem? (i := 1259) (by decide +kernel)) (by decide +kernel)
theorem w_1099 : Cond.fieldLink RX11 113 "PagerloomModel" "waits" "I" ∈ WT := WT_in (List.mem_of_getElem? (i := 1099) (by decide +kernel)) (by decide +kernel)
theorem w_1089 : Cond.fieldLink RX11 120 "PagerloomModel" "state" "I" ∈ WT := WT_in (List.mem_of_getElem? (i := 1089) (by decide +kernel)) (by decide +kernel)
theorem w_1098 : Cond.fieldLink RX11 31 "PagerloomModel" "waiting" "[I" ∈ WT := WT_in (List.mem_of_getElem? (i := 1098) (by decide +kernel)) (by decide +kernel)
theorem w_1291 : Cond.methodLink RX11 116 yX11_puts ∈ WT := WT_in (List.mem_of_getElem? (i := 1291) (by decide +kernel)) (by decide +kernel)
theorem w_1293 : Cond.instanceMethod yX11_puts ∈ WT := WT_in (List.mem_of_getElem? (i := 1293) (by decide +kernel)) (by decide +kernel)
theorem w_40 : Cond.selects RX11 yX11_puts yX11_puts ∈ WT := WT_in (List.mem_of_getElem? (i := 40) (by decide +kernel)) (by decide +kernel)
theorem w_1294 : Cond.code yX11_puts cX11_puts 4 none ∈ WT := WT_in (List.mem_of_getElem? (i := 1294) (by decide +kernel)) (by decide +kernel)
theorem w_1318 : Cond.methodLink RX11 123 yX11_rank ∈ WT := WT_in (List.mem_of_getElem? (i := 1318) (by decide +kernel)) (by decide +kernel)
theorem w_1319 : Cond.static yX11_rank ∈ WT := WT_in (List.mem_of_getElem? (i := 1319) (by decide +kernel)) (by decide +kernel)
theorem w_1320 : Cond.code yX11_rank cX11_rank 1 (some .int) ∈ WT := WT_in (List.mem_of_getElem? (i := 1320) (by decide +kernel)) (by decide +kernel)
theorem w_1101 : Cond.fieldLink RX11 127 "PagerloomModel" "askedMany" "I" ∈ WT := WT_in (List.mem_of_getElem? (i := 1101) (by decide +kernel)) (by decide +kernel)
theorem w_1100 : Cond.fieldLink RX11 34 "PagerloomModel" "asked" "[I" ∈ WT := WT_in (List.mem_of_getElem? (i := 1100) (by decide +kernel)) (by decide +kernel)
theorem w_1299 : Cond.methodLink RX11 130 yX11_putsAsk ∈ WT := WT_in (List.mem_of_getElem? (i := 1299) (by decide +kernel)) (by decide +kernel)
theorem w_1301 : Cond.instanceMethod yX11_putsAsk ∈ WT := WT_in (List.mem_of_getElem? (i := 1301) (by decide +kernel)) (by decide +kernel)
theorem w_42 : Cond.selects RX11 yX11_putsAsk yX11_putsAsk ∈ WT := WT_in (List.mem_of_getElem? (i := 42) (by decide +kernel)) (by decide +kernel)
theorem w_1302 : Cond.code yX11_putsAsk cX11_putsAsk 4 none ∈ WT := WT_in (List.mem_of_getElem? (i := 1302) (by decide +kernel)) (by decide +kernel)
theorem w_1344 : Cond.methodLink RX11 133 yX11_askRank ∈ WT := WT_in (List.mem_of_getElem? (i := 1344) (by decide +kernel)) (by decide +kernel)
theorem w_1345 : Cond.static yX11_askRank ∈ WT := WT_in (List.mem_of_getElem? (i := 1345) (by decide +kernel)) (by decide +kernel)
theorem w_1346 : Cond.code yX11_askRank cX11_askRank 1 (some .int) ∈ WT := WT_in (List.mem_of_getElem? (i := 1346) (by decide +kernel)) (by decide +kernel)
theorem w_1093 : Cond.fieldLink RX11 136 "PagerloomModel" "kind" "I" ∈ WT := WT_in (List.mem_of_getElem? (i := 1093) (by decide +kernel)) (by decide +kernel)
theorem w_1094 : Cond.fieldLink RX11 139 "PagerloomModel" "field" "I" ∈ WT := WT_in (List.mem_of_getElem? (i := 1094) (by decide +kernel)) (by decide +kernel)
theorem w_1095 : Cond.fieldLink RX11 142 "PagerloomModel" "first" "I" ∈ WT := WT_in (List.mem_of_getElem? (i := 1095) (by decide +kernel)) (by decide +kernel)
theorem w_1295 : Cond.methodLink RX11 145 yX11_endsUnit ∈ WT := WT_in (List.mem_of_getElem? (i := 1295) (by decide +kernel)) (by decide +kernel)
theorem w_1297 : Cond.instanceMethod yX11_endsUnit ∈ WT := WT_in (List.mem_of_getElem? (i := 1297) (by decide +kernel)) (by decide +kernel)
theorem w_41 : Cond.selects RX11 yX11_endsUnit yX11_endsUnit ∈ WT := WT_in (List.mem_of_getElem? (i := 41) (by decide +kernel)) (by decide +kernel)
theorem w_1298 : Cond.code yX11_endsUnit cX11_endsUnit 1 none ∈ WT := WT_in (List.mem_of_getElem? (i := 1298) (by decide +kernel)) (by decide +kernel)
theorem w_1284 : Cond.methodLink RX11 148 yX11_isFigure ∈ WT := WT_in (List.mem_of_getElem? (i := 1284) (by decide +kernel)) (by decide +kernel)
theorem w_1285 : Cond.static yX11_isFigure ∈ WT := WT_in (List.mem_of_getElem? (i := 1285) (by decide +kernel)) (by decide +kernel)
theorem w_1286 : Cond.code yX11_isFigure cX11_isFigure 1 (some .boolean) ∈ WT := WT_in (List.mem_of_getElem? (i := 1286) (by decide +kernel)) (by decide +kernel)
theorem w_1102 : Cond.fieldLink RX11 158 "PagerloomModel" "level" "I" ∈ WT := WT_in (List.mem_of_getElem? (i := 1102) (by decide +kernel)) (by decide +kernel)
theorem w_1104 : Cond.fieldLink RX11 37 "PagerloomModel" "isCompared" "[Z" ∈ WT := WT_in (List.mem_of_getElem? (i := 1104) (by decide +kernel)) (by decide +kernel)
theorem w_1311 : Cond.methodLink RX11 161 yX11_kindOf ∈ WT := WT_in (List.mem_of_getElem? (i := 1311) (by decide +kernel)) (by decide +kernel)
theorem w_1312 : Cond.static yX11_kindOf ∈ WT := WT_in (List.mem_of_getElem? (i := 1312) (by decide +kernel)) (by decide +kernel)
theorem w_1313 : Cond.code yX11_kindOf cX11_kindOf 1 (some .int) ∈ WT := WT_in (List.mem_of_getElem? (i := 1313) (by decide +kernel)) (by decide +kernel)
theorem w_1091 : Cond.fieldLink RX11 152 "PagerloomModel" "number" "I" ∈ WT := WT_in (List.mem_of_getElem? (i := 1091) (by decide +kernel)) (by decide +kernel)
theorem w_1090 : Cond.fieldLink RX11 155 "PagerloomModel" "digits" "I" ∈ WT := WT_in (List.mem_of_getElem? (i := 1090) (by decide +kernel)) (by decide +kernel)
theorem w_1321 : Cond.methodLink RX11 164 yX11_putsWaiting ∈ WT := WT_in (List.mem_of_getElem? (i := 1321) (by decide +kernel)) (by decide +kernel)
theorem w_1323 : Cond.instanceMethod yX11_putsWaiting ∈ WT := WT_in (List.mem_of_getElem? (i := 1323) (by decide +kernel)) (by decide +kernel)
theorem w_46 : Cond.selects RX11 yX11_putsWaiting yX11_putsWaiting ∈ WT := WT_in (List.mem_of_getElem? (i := 46) (by decide +kernel)) (by decide +kernel)
theorem w_1324 : Cond.code yX11_putsWaiting cX11_putsWaiting 2 none ∈ WT := WT_in (List.mem_of_getElem? (i := 1324) (by decide +kernel)) (by decide +kernel)
theorem w_1332 : Cond.methodLink RX11 168 yX11_endsAggregate ∈ WT := WT_in (List.mem_of_getElem? (i := 1332) (by decide +kernel)) (by decide +kernel)
theorem w_1334 : Cond.instanceMethod yX11_endsAggregate ∈ WT := WT_in (List.mem_of_getElem? (i := 1334) (by decide +kernel)) (by decide +kernel)
theorem w_48 : Cond.selects RX11 yX11_endsAggregate yX11_endsAggregate ∈ WT := WT_in (List.mem_of_getElem? (i := 48) (by decide +kernel)) (by decide +kernel)
theorem w_1335 : Cond.code yX11_endsAggregate cX11_endsAggregate 3 none ∈ WT := WT_in (List.mem_of_getElem? (i := 1335) (by decide +kernel)) (by decide +kernel)
theorem w_1103 : Cond.fieldLink RX11 172 "PagerloomModel" "askLevel" "I" ∈ WT := WT_in (List.mem_of_getElem? (i := 1103) (by decide +kernel)) (by decide +kernel)
theorem w_1325 : Cond.methodLink RX11 175 yX11_fieldOf ∈ WT := WT_in (List.mem_of_getElem? (i := 1325) (by decide +kernel)) (by decide +kernel)
theorem w_1326 : Cond.static yX11_fieldOf ∈ WT := WT_in (List.mem_of_getElem? (i := 1326) (by decide +kernel)) (by decide +kernel)
theorem w_1327 : Cond.code yX11_fieldOf cX11_fieldOf 1 (some .int) ∈ WT := WT_in (List.mem_of_getElem? (i := 1327) (by decide +kernel)) (by decide +kernel)
theorem w_1096 : Cond.fieldLink RX11 178 "PagerloomModel" "termField" "I" ∈ WT := WT_in (List.mem_of_getElem? (i := 1096) (by decide +kernel)) (by decide +kernel)
theorem w_1347 : Cond.methodLink RX11 181 yX11_putsAsked ∈ WT := WT_in (List.mem_of_getElem? (i := 1347) (by decide +kernel)) (by decide +kernel)
theorem w_1349 : Cond.instanceMethod yX11_putsAsked ∈ WT := WT_in (List.mem_of_getElem? (i := 1349) (by decide +kernel)) (by decide +kernel)
theorem w_51 : Cond.selects RX11 yX11_putsAsked yX11_putsAsked ∈ WT := WT_in (List.mem_of_getElem? (i := 51) (by decide +kernel)) (by decide +kernel)
theorem w_1350 : Cond.code yX11_putsAsked cX11_putsAsked 2 none ∈ WT := WT_in (List.mem_of_getElem? (i := 1350) (by decide +kernel)) (by decide +kernel)
theorem w_1303 : Cond.methodLink RX11 184 yX11_endsTerm ∈ WT := WT_in (List.mem_of_getElem? (i := 1303) (by decide +kernel)) (by decide +kernel)
theorem w_1305 : Cond.instanceMethod yX11_endsTerm ∈ WT := WT_in (List.mem_of_getElem? (i := 1305) (by decide +kernel)) (by decide +kernel)
theorem w_43 : Cond.selects RX11 yX11_endsTerm yX11_endsTerm ∈ WT := WT_in (List.mem_of_getElem? (i := 43) (by decide +kernel)) (by decide +kernel)
theorem w_1306 : Cond.code yX11_endsTerm cX11_endsTerm 1 none ∈ WT := WT_in (List.mem_of_getElem? (i := 1306) (by decide +kernel)) (by decide +kernel)
theorem w_1097 : Cond.fieldLink RX11 187 "PagerloomModel" "termSign" "I" ∈ WT := WT_in (List.mem_of_getElem? (i := 1097) (by decide +kernel)) (by decide +kernel)
theorem w_1092 : Cond.fieldLink RX11 190 "PagerloomModel" "isBelow" "Z" ∈ WT := WT_in (List.mem_of_getElem? (i := 1092) (by decide +kernel)) (by decide +kernel)
theorem w_1280 : Cond.methodLink RX11 194 yX11_goesOn ∈ WT := WT_in (List.mem_of_getElem? (i := 1280) (by decide +kernel)) (by decide +kernel)
theorem w_1282 : Cond.instanceMethod yX11_goesOn ∈ WT := WT_in (List.mem_of_getElem? (i := 1282) (by decide +kernel)) (by decide +kernel)
theorem w_38 : Cond.selects RX11 yX11_goesOn yX11_goesOn ∈ WT := WT_in (List.mem_of_getElem? (i := 38) (by decide +kernel)) (by decide +kernel)
theorem w_1283 : Cond.code yX11_goesOn cX11_goesOn 2 (some .boolean) ∈ WT := WT_in (List.mem_of_getElem? (i := 1283) (by decide +kernel)) (by decide +kernel)
theorem w_1287 : Cond.methodLink RX11 197 yX11_endsNumber ∈ WT := WT_in (List.mem_of_getElem? (i := 1287) (by decide +kernel)) (by decide +kernel)
theorem w_1289 : Cond.instanceMethod yX11_endsNumber ∈ WT := WT_in (List.mem_of_getElem? (i := 1289) (by decide +kernel)) (by decide +kernel)
theorem w_39 : Cond.selects RX11 yX11_endsNumber yX11_endsNumber ∈ WT := WT_in (List.mem_of_getElem? (i := 39) (by decide +kernel)) (by decide +kernel)
theorem w_1290 : Cond.code yX11_endsNumber cX11_endsNumber 1 none ∈ WT := WT_in (List.mem_of_getElem? (i := 1290) (by decide +kernel)) (by decide +kernel)
theorem w_1307 : Cond.methodLink RX11 200 yX11_goesToUnit ∈ WT := WT_in (List.mem_of_getElem? (i := 1307) (by decide +kernel)) (by decide +kernel)
theorem w_1309 : Cond.instanceMethod yX11_goesToUnit ∈ WT := WT_in (List.mem_of_getElem? (i := 1309) (by decide +kernel)) (by decide +kernel)
theorem w_44 : Cond.selects RX11 yX11_goesToUnit yX11_goesToUnit ∈ WT := WT_in (List.mem_of_getElem? (i := 44) (by decide +kernel)) (by decide +kernel)
theorem w_1310 : Cond.code yX11_goesToUnit cX11_goesToUnit 2 (some .boolean) ∈ WT := WT_in (List.mem_of_getElem? (i := 1310) (by decide +kernel)) (by decide +kernel)
theorem w_1314 : Cond.methodLink RX11 203 yX11_goesBehind ∈ WT := WT_in (List.mem_of_getElem? (i := 1314) (by decide +kernel)) (by decide +kernel)
theorem w_1316 : Cond.instanceMethod yX11_goesBehind ∈ WT := WT_in (List.mem_of_getElem? (i := 1316) (by decide +kernel)) (by decide +kernel)
theorem w_45 : Cond.selects RX11 yX11_goesBehind yX11_goesBehind ∈ WT := WT_in (List.mem_of_getElem? (i := 45) (by decide +kernel)) (by decide +kernel)
theorem w_1317 : Cond.code yX11_goesBehind cX11_goesBehind 3 (some .boolean) ∈ WT := WT_in (List.mem_of_getElem? (i := 1317) (by decide +kernel)) (by decide +kernel)
theorem w_1328 : Cond.methodLink RX11 206 yX11_goesMore ∈ WT := WT_in (List.mem_of_getElem? (i := 1328) (by decide +kernel)) (by decide +kernel)
theorem w_1330 : Cond.instanceMethod yX11_goesMore ∈ WT := WT_in (List.mem_of_getElem? (i := 1330) (by decide +kernel)) (by decide +kernel)
theorem w_47 : Cond.selects RX11 yX11_goesMore yX11_goesMore ∈ WT := WT_in (List.mem_of_getElem? (i := 47) (by decide +kernel)) (by decide +kernel)
theorem w_1331 : Cond.code yX11_goesMore cX11_goesMore 2 (some .boolean) ∈ WT := WT_in (List.mem_of_getElem? (i := 1331) (by decide +kernel)) (by decide +kernel)
theorem w_1336 : Cond.methodLink RX11 209 yX11_goesToTerm ∈ WT := WT_in (List.mem_of_getElem? (i := 1336) (by decide +kernel)) (by decide +kernel)
theorem w_1338 : Cond.instanceMethod yX11_goesToTerm ∈ WT := WT_in (List.mem_of_getElem? (i := 1338) (by decide +kernel)) (by decide +kernel)
theorem w_49 : Cond.selects RX11 yX11_goesToTerm yX11_goesToTerm ∈ WT := WT_in (List.mem_of_getElem? (i := 49) (by decide +kernel)) (by decide +kernel)
theorem w_1339 : Cond.code yX11_goesToTerm cX11_goesToTerm 2 (some .boolean) ∈ WT := WT_in (List.mem_of_getElem? (i := 1339) (by decide +kernel)) (by decide +kernel)
theorem w_1340 : Cond.methodLink RX11 212 yX11_goesAfter ∈ WT := WT_in (List.mem_of_getElem? (i := 1340) (by decide +kernel)) (by decide +kernel)
theorem w_1342 : Cond.instanceMethod yX11_goesAfter ∈ WT := WT_in (List.mem_of_getElem? (i := 1342) (by decide +kernel)) (by decide +kernel)
theorem w_50 : Cond.selects RX11 yX11_goesAfter yX11_goesAfter ∈ WT := WT_in (List.mem_of_getElem? (i := 50) (by decide +kernel)) (by decide +kernel)
theorem w_1343 : Cond.code yX11_goesAfter cX11_goesAfter 2 (some .boolean) ∈ WT := WT_in (List.mem_of_getElem? (i := 1343) (by decide +kernel)) (by decide +kernel)
theorem w_1351 : Cond.methodLink RX11 215 yX11_goesDigit ∈ WT := WT_in (List.mem_of_getElem? (i := 1351) (by decide +kernel)) (by decide +kernel)
theorem w_1353 : Cond.instanceMethod yX11_goesDigit ∈ WT := WT_in (List.mem_of_getElem? (i := 1353) (by decide +kernel)) (by decide +kernel)
theorem w_52 : Cond.selects RX11 yX11_goesDigit yX11_goesDigit ∈ WT := WT_in (List.mem_of_getElem? (i := 52) (by decide +kernel)) (by decide +kernel)
theorem w_1354 : Cond.code yX11_goesDigit cX11_goesDigit 2 (some .boolean) ∈ WT := WT_in (List.mem_of_getElem? (i := 1354) (by decide +kernel)) (by decide +kernel)
theorem w_1081 : Cond.fieldLink RX11 218 "PagerloomModel" "length" "I" ∈ WT := WT_in (List.mem_of_getElem? (i := 1081) (by decide +kernel)) (by decide +kernel)
theorem w_1080 : Cond.fieldLink RX11 7 "PagerloomModel" "text" "[I" ∈ WT := WT_in (List.mem_of_getElem? (i := 1080) (by decide +kernel)) (by decide +kernel)
theorem w_1276 : Cond.methodLink RX11 221 yX11_reads ∈ WT := WT_in (List.mem_of_getElem? (i := 1276) (by decide +kernel)) (by decide +kernel)
theorem w_1278 : Cond.instanceMethod yX11_reads ∈ WT := WT_in (List.mem_of_getElem? (i := 1278) (by decide +kernel)) (by decide +kernel)
theorem w_37 : Cond.selects RX11 yX11_reads yX11_reads ∈ WT := WT_in (List.mem_of_getElem? (i := 37) (by decide +kernel)) (by decide +kernel)
theorem w_1279 : Cond.code yX11_reads cX11_reads 3 (some .boolean) ∈ WT := WT_in (List.mem_of_getElem? (i := 1279) (by decide +kernel)) (by decide +kernel)
theorem w_1112 : Cond.fieldLink RX11 48 "PagerloomModel" "parts" "[I" ∈ WT := WT_in (List.mem_of_getElem? (i := 1112) (by decide +kernel)) (by decide +kernel)
theorem w_1113 : Cond.fieldLink RX11 51 "PagerloomModel" "levels" "[I" ∈ WT := WT_in (List.mem_of_getElem? (i := 1113) (by decide +kernel)) (by decide +kernel)
theorem w_1114 : Cond.fieldLink RX11 54 "PagerloomModel" "values" "[I" ∈ WT := WT_in (List.mem_of_getElem? (i := 1114) (by decide +kernel)) (by decide +kernel)
theorem w_1115 : Cond.fieldLink RX11 57 "PagerloomModel" "hours" "[I" ∈ WT := WT_in (List.mem_of_getElem? (i := 1115) (by decide +kernel)) (by decide +kernel)
theorem w_1107 : Cond.fieldLink RX11 45 "PagerloomModel" "truths" "[Z" ∈ WT := WT_in (List.mem_of_getElem? (i := 1107) (by decide +kernel)) (by decide +kernel)
theorem w_1379 : Cond.methodLink RX11 224 yX11_fieldIn ∈ WT := WT_in (List.mem_of_getElem? (i := 1379) (by decide +kernel)) (by decide +kernel)
theorem w_1381 : Cond.instanceMethod yX11_fieldIn ∈ WT := WT_in (List.mem_of_getElem? (i := 1381) (by decide +kernel)) (by decide +kernel)
theorem w_58 : Cond.selects RX11 yX11_fieldIn yX11_fieldIn ∈ WT := WT_in (List.mem_of_getElem? (i := 58) (by decide +kernel)) (by decide +kernel)
theorem w_1382 : Cond.code yX11_fieldIn cX11_fieldIn 3 (some .int) ∈ WT := WT_in (List.mem_of_getElem? (i := 1382) (by decide +kernel)) (by decide +kernel)
theorem w_1383 : Cond.methodLink RX11 228 yX11_areSo ∈ WT := WT_in (List.mem_of_getElem? (i := 1383) (by decide +kernel)) (by decide +kernel)
theorem w_1384 : Cond.static yX11_areSo ∈ WT := WT_in (List.mem_of_getElem? (i := 1384) (by decide +kernel)) (by decide +kernel)
theorem w_1385 : Cond.code yX11_areSo cX11_areSo 5 (some .boolean) ∈ WT := WT_in (List.mem_of_getElem? (i := 1385) (by decide +kernel)) (by decide +kernel)
theorem w_1108 : Cond.fieldLink RX11 232 "PagerloomModel" "from" "I" ∈ WT := WT_in (List.mem_of_getElem? (i := 1108) (by decide +kernel)) (by decide +kernel)
theorem w_1109 : Cond.fieldLink RX11 235 "PagerloomModel" "to" "I" ∈ WT := WT_in (List.mem_of_getElem? (i := 1109) (by decide +kernel)) (by decide +kernel)
theorem w_1375 : Cond.methodLink RX11 238 yX11_holds ∈ WT := WT_in (List.mem_of_getElem? (i := 1375) (by decide +kernel)) (by decide +kernel)
theorem w_1377 : Cond.instanceMethod yX11_holds ∈ WT := WT_in (List.mem_of_getElem? (i := 1377) (by decide +kernel)) (by decide +kernel)
theorem w_57 : Cond.selects RX11 yX11_holds yX11_holds ∈ WT := WT_in (List.mem_of_getElem? (i := 57) (by decide +kernel)) (by decide +kernel)
theorem w_1378 : Cond.code yX11_holds cX11_holds 8 (some .boolean) ∈ WT := WT_in (List.mem_of_getElem? (i := 1378) (by decide +kernel)) (by decide +kernel)
theorem w_1371 : Cond.methodLink RX11 242 yX11_isChosen ∈ WT := WT_in (List.mem_of_getElem? (i := 1371) (by decide +kernel)) (by decide +kernel)
theorem w_1373 : Cond.instanceMethod yX11_isChosen ∈ WT := WT_in (List.mem_of_getElem? (i := 1373) (by decide +kernel)) (by decide +kernel)
theorem w_56 : Cond.selects RX11 yX11_isChosen yX11_isChosen ∈ WT := WT_in (List.mem_of_getElem? (i := 56) (by decide +kernel)) (by decide +kernel)
theorem w_1374 : Cond.code yX11_isChosen cX11_isChosen 6 (some .boolean) ∈ WT := WT_in (List.mem_of_getElem? (i := 1374) (by decide +kernel)) (by decide +kernel)
theorem w_1111 : Cond.fieldLink RX11 245 "PagerloomModel" "logs" "I" ∈ WT := WT_in (List.mem_of_getElem? (i := 1111) (by decide +kernel)) (by decide +kernel)
theorem w_1386 : Cond.methodLink RX11 248 yX11_times ∈ WT := WT_in (List.mem_of_getElem? (i := 1386) (by decide +kernel)) (by decide +kernel)
theorem w_1388 : Cond.instanceMethod yX11_times ∈ WT := WT_in (List.mem_of_getElem? (i := 1388) (by decide +kernel)) (by decide +kernel)
theorem w_59 : Cond.selects RX11 yX11_times yX11_times ∈ WT := WT_in (List.mem_of_getElem? (i := 59) (by decide +kernel)) (by decide +kernel)
theorem w_1389 : Cond.code yX11_times cX11_times 7 (some .int) ∈ WT := WT_in (List.mem_of_getElem? (i := 1389) (by decide +kernel)) (by decide +kernel)
theorem w_1106 : Cond.fieldLink RX11 252 "PagerloomModel" "height" "I" ∈ WT := WT_in (List.mem_of_getElem? (i := 1106) (by decide +kernel)) (by decide +kernel)
theorem w_1105 : Cond.fieldLink RX11 41 "PagerloomModel" "pile" "[J" ∈ WT := WT_in (List.mem_of_getElem? (i := 1105) (by decide +kernel)) (by decide +kernel)
theorem w_1367 : Cond.methodLink RX11 255 yX11_aggregate ∈ WT := WT_in (List.mem_of_getElem? (i := 1367) (by decide +kernel)) (by decide +kernel)
theorem w_1369 : Cond.instanceMethod yX11_aggregate ∈ WT := WT_in (List.mem_of_getElem? (i := 1369) (by decide +kernel)) (by decide +kernel)
theorem w_55 : Cond.selects RX11 yX11_aggregate yX11_aggregate ∈ WT := WT_in (List.mem_of_getElem? (i := 55) (by decide +kernel)) (by decide +kernel)
theorem w_1370 : Cond.code yX11_aggregate cX11_aggregate 13 (some .long) ∈ WT := WT_in (List.mem_of_getElem? (i := 1370) (by decide +kernel)) (by decide +kernel)
theorem w_1390 : Cond.methodLink RX11 259 yX11_reckoned ∈ WT := WT_in (List.mem_of_getElem? (i := 1390) (by decide +kernel)) (by decide +kernel)
theorem w_1391 : Cond.static yX11_reckoned ∈ WT := WT_in (List.mem_of_getElem? (i := 1391) (by decide +kernel)) (by decide +kernel)
theorem w_1392 : Cond.code yX11_reckoned cX11_reckoned 5 (some .long) ∈ WT := WT_in (List.mem_of_getElem? (i := 1392) (by decide +kernel)) (by decide +kernel)
theorem w_1260 : Cond.methodLink RX11 263 yX11_goes ∈ WT := WT_in (List.mem_of_getElem? (i := 1260) (by decide +kernel)) (by decide +kernel)
theorem w_1262 : Cond.instanceMethod yX11_goes ∈ WT := WT_in (List.mem_of_getElem? (i := 1262) (by decide +kernel)) (by decide +kernel)
theorem w_35 : Cond.selects RX11 yX11_goes yX11_goes ∈ WT := WT_in (List.mem_of_getElem? (i := 35) (by decide +kernel)) (by decide +kernel)
theorem w_1263 : Cond.code yX11_goes cX11_goes 2 (some .boolean) ∈ WT := WT_in (List.mem_of_getElem? (i := 1263) (by decide +kernel)) (by decide +kernel)
theorem w_1272 : Cond.methodLink RX11 266 yX11_turns ∈ WT := WT_in (List.mem_of_getElem? (i := 1272) (by decide +kernel)) (by decide +kernel)
theorem w_1274 : Cond.instanceMethod yX11_turns ∈ WT := WT_in (List.mem_of_getElem? (i := 1274) (by decide +kernel)) (by decide +kernel)
theorem w_36 : Cond.selects RX11 yX11_turns yX11_turns ∈ WT := WT_in (List.mem_of_getElem? (i := 36) (by decide +kernel)) (by decide +kernel)
theorem w_1275 : Cond.code yX11_turns cX11_turns 3 (some .int) ∈ WT := WT_in (List.mem_of_getElem? (i := 1275) (by decide +kernel)) (by decide +kernel)
theorem w_1110 : Cond.fieldLink RX11 269 "PagerloomModel" "now" "I" ∈ WT := WT_in (List.mem_of_getElem? (i := 1110) (by decide +kernel)) (by decide +kernel)
theorem w_1363 : Cond.methodLink RX11 272 yX11_runs ∈ WT := WT_in (List.mem_of_getElem? (i := 1363) (by decide +kernel)) (by decide +kernel)
theorem w_1365 : Cond.instanceMethod yX11_runs ∈ WT := WT_in (List.mem_of_getElem? (i := 1365) (by decide +kernel)) (by decide +kernel)
theorem w_54 : Cond.selects RX11 yX11_runs yX11_runs ∈ WT := WT_in (List.mem_of_getElem? (i := 54) (by decide +kernel)) (by decide +kernel)
theorem w_1366 : Cond.code yX11_runs cX11_runs 6 (some .long) ∈ WT := WT_in (List.mem_of_getElem? (i := 1366) (by decide +kernel)) (by decide +kernel)
theorem w_1359 : Cond.methodLink RX11 276 yX11_asked ∈ WT := WT_in (List.mem_of_getElem? (i := 1359) (by decide +kernel)) (by decide +kernel)
theorem w_1361 : Cond.instanceMethod yX11_asked ∈ WT := WT_in (List.mem_of_getElem? (i := 1361) (by decide +kernel)) (by decide +kernel)
theorem w_53 : Cond.selects RX11 yX11_asked yX11_asked ∈ WT := WT_in (List.mem_of_getElem? (i := 53) (by decide +kernel)) (by decide +kernel)
theorem w_1362 : Cond.code yX11_asked cX11_asked 3 (some .long) ∈ WT := WT_in (List.mem_of_getElem? (i := 1362) (by decide +kernel)) (by decide +kernel)
theorem w_1116 : Cond.fieldLink RX11 278 "PagerloomModel" "people" "I" ∈ WT := WT_in (List.mem_of_getElem? (i := 1116) (by decide +kernel)) (by decide +kernel)
theorem w_1117 : Cond.fieldLink RX11 60 "PagerloomModel" "isOff" "[Z" ∈ WT := WT_in (List.mem_of_getElem? (i := 1117) (by decide +kernel)) (by decide +kernel)
theorem w_1118 : Cond.fieldLink RX11 63 "PagerloomModel" "swapped" "[I" ∈ WT := WT_in (List.mem_of_getElem? (i := 1118) (by decide +kernel)) (by decide +kernel)
theorem w_1409 : Cond.methodLink RX11 281 yX11_plannedFor ∈ WT := WT_in (List.mem_of_getElem? (i := 1409) (by decide +kernel)) (by decide +kernel)
theorem w_1411 : Cond.instanceMethod yX11_plannedFor ∈ WT := WT_in (List.mem_of_getElem? (i := 1411) (by decide +kernel)) (by decide +kernel)
theorem w_62 : Cond.selects RX11 yX11_plannedFor yX11_plannedFor ∈ WT := WT_in (List.mem_of_getElem? (i := 62) (by decide +kernel)) (by decide +kernel)
theorem w_1412 : Cond.code yX11_plannedFor cX11_plannedFor 2 (some .int) ∈ WT := WT_in (List.mem_of_getElem? (i := 1412) (by decide +kernel)) (by decide +kernel)
theorem w_1134 : Cond.fieldLink RX11 284 "PagerloomModel" "paid" "I" ∈ WT := WT_in (List.mem_of_getElem? (i := 1134) (by decide +kernel)) (by decide +kernel)
theorem w_1413 : Cond.methodLink RX11 287 yX11_isOffIn ∈ WT := WT_in (List.mem_of_getElem? (i := 1413) (by decide +kernel)) (by decide +kernel)
theorem w_1415 : Cond.instanceMethod yX11_isOffIn ∈ WT := WT_in (List.mem_of_getElem? (i := 1415) (by decide +kernel)) (by decide +kernel)
theorem w_63 : Cond.selects RX11 yX11_isOffIn yX11_isOffIn ∈ WT := WT_in (List.mem_of_getElem? (i := 63) (by decide +kernel)) (by decide +kernel)
theorem w_1416 : Cond.code yX11_isOffIn cX11_isOffIn 3 (some .boolean) ∈ WT := WT_in (List.mem_of_getElem? (i := 1416) (by decide +kernel)) (by decide +kernel)
theorem w_1132 : Cond.fieldLink RX11 291 "PagerloomModel" "debts" "I" ∈ WT := WT_in (List.mem_of_getElem? (i := 1132) (by decide +kernel)) (by decide +kernel)
theorem w_1133 : Cond.fieldLink RX11 99 "PagerloomModel" "owed" "[I" ∈ WT := WT_in (List.mem_of_getElem? (i := 1133) (by decide +kernel)) (by decide +kernel)
theorem w_1417 : Cond.methodLink RX11 294 yX11_isNight ∈ WT := WT_in (List.mem_of_getElem? (i := 1417) (by decide +kernel)) (by decide +kernel)
theorem w_1418 : Cond.static yX11_isNight ∈ WT := WT_in (List.mem_of_getElem? (i := 1418) (by decide +kernel)) (by decide +kernel)
theorem w_1419 : Cond.code yX11_isNight cX11_isNight 1 (some .boolean) ∈ WT := WT_in (List.mem_of_getElem? (i := 1419) (by decide +kernel)) (by decide +kernel)
theorem w_1131 : Cond.fieldLink RX11 96 "PagerloomModel" "alarmed" "[I" ∈ WT := WT_in (List.mem_of_getElem? (i := 1131) (by decide +kernel)) (by decide +kernel)
theorem w_1405 : Cond.methodLink RX11 297 yX11_holderOf ∈ WT := WT_in (List.mem_of_getElem? (i := 1405) (by decide +kernel)) (by decide +kernel)
theorem w_1407 : Cond.instanceMethod yX11_holderOf ∈ WT := WT_in (List.mem_of_getElem? (i := 1407) (by decide +kernel)) (by decide +kernel)
theorem w_61 : Cond.selects RX11 yX11_holderOf yX11_holderOf ∈ WT := WT_in (List.mem_of_getElem? (i := 61) (by decide +kernel)) (by decide +kernel)
theorem w_1408 : Cond.code yX11_holderOf cX11_holderOf 6 (some .int) ∈ WT := WT_in (List.mem_of_getElem? (i := 1408) (by decide +kernel)) (by decide +kernel)
theorem w_1119 : Cond.fieldLink RX11 66 "PagerloomModel" "holders" "[I" ∈ WT := WT_in (List.mem_of_getElem? (i := 1119) (by decide +kernel)) (by decide +kernel)
theorem w_1130 : Cond.fieldLink RX11 300 "PagerloomModel" "alarms" "I" ∈ WT := WT_in (List.mem_of_getElem? (i := 1130) (by decide +kernel)) (by decide +kernel)
theorem w_1420 : Cond.methodLink RX11 303 yX11_wokenBy ∈ WT := WT_in (List.mem_of_getElem? (i := 1420) (by decide +kernel)) (by decide +kernel)
theorem w_1422 : Cond.instanceMethod yX11_wokenBy ∈ WT := WT_in (List.mem_of_getElem? (i := 1422) (by decide +kernel)) (by decide +kernel)
theorem w_64 : Cond.selects RX11 yX11_wokenBy yX11_wokenBy ∈ WT := WT_in (List.mem_of_getElem? (i := 64) (by decide +kernel)) (by decide +kernel)
theorem w_1423 : Cond.code yX11_wokenBy cX11_wokenBy 2 (some .int) ∈ WT := WT_in (List.mem_of_getElem? (i := 1423) (by decide +kernel)) (by decide +kernel)
theorem w_1424 : Cond.methodLink RX11 306 yX11_wakes ∈ WT := WT_in (List.mem_of_getElem? (i := 1424) (by decide +kernel)) (by decide +kernel)
theorem w_1426 : Cond.instanceMethod yX11_wakes ∈ WT := WT_in (List.mem_of_getElem? (i := 1426) (by decide +kernel)) (by decide +kernel)
theorem w_65 : Cond.selects RX11 yX11_wakes yX11_wakes ∈ WT := WT_in (List.mem_of_getElem? (i := 65) (by decide +kernel)) (by decide +kernel)
theorem w_1427 : Cond.code yX11_wakes cX11_wakes 3 none ∈ WT := WT_in (List.mem_of_getElem? (i := 1427) (by decide +kernel)) (by decide +kernel)
theorem w_1127 : Cond.fieldLink RX11 87 "PagerloomModel" "silences" "[I" ∈ WT := WT_in (List.mem_of_getElem? (i := 1127) (by decide +kernel)) (by decide +kernel)
theorem w_1128 : Cond.fieldLink RX11 90 "PagerloomModel" "silentFrom" "[I" ∈ WT := WT_in (List.mem_of_getElem? (i := 1128) (by decide +kernel)) (by decide +kernel)
theorem w_1129 : Cond.fieldLink RX11 93 "PagerloomModel" "silentTo" "[I" ∈ WT := WT_in (List.mem_of_getElem? (i := 1129) (by decide +kernel)) (by decide +kernel)
theorem w_1126 : Cond.fieldLink RX11 84 "PagerloomModel" "risen" "[I" ∈ WT := WT_in (List.mem_of_getElem? (i := 1126) (by decide +kernel)) (by decide +kernel)
theorem w_1124 : Cond.fieldLink RX11 78 "PagerloomModel" "isDropped" "[Z" ∈ WT := WT_in (List.mem_of_getElem? (i := 1124) (by decide +kernel)) (by decide +kernel)
theorem w_1122 : Cond.fieldLink RX11 72 "PagerloomModel" "windows" "[I" ∈ WT := WT_in (List.mem_of_getElem? (i := 1122) (by decide +kernel)) (by decide +kernel)
theorem w_1432 : Cond.methodLink RX11 309 yX11_isSilent ∈ WT := WT_in (List.mem_of_getElem? (i := 1432) (by decide +kernel)) (by decide +kernel)
theorem w_1434 : Cond.instanceMethod yX11_isSilent ∈ WT := WT_in (List.mem_of_getElem? (i := 1434) (by decide +kernel)) (by decide +kernel)
theorem w_67 : Cond.selects RX11 yX11_isSilent yX11_isSilent ∈ WT := WT_in (List.mem_of_getElem? (i := 67) (by decide +kernel)) (by decide +kernel)
theorem w_1435 : Cond.code yX11_isSilent cX11_isSilent 4 (some .boolean) ∈ WT := WT_in (List.mem_of_getElem? (i := 1435) (by decide +kernel)) (by decide +kernel)
theorem w_1125 : Cond.fieldLink RX11 81 "PagerloomModel" "last" "[I" ∈ WT := WT_in (List.mem_of_getElem? (i := 1125) (by decide +kernel)) (by decide +kernel)
theorem w_1123 : Cond.fieldLink RX11 75 "PagerloomModel" "rests" "[I" ∈ WT := WT_in (List.mem_of_getElem? (i := 1123) (by decide +kernel)) (by decide +kernel)
theorem w_1401 : Cond.methodLink RX11 312 yX11_begins ∈ WT := WT_in (List.mem_of_getElem? (i := 1401) (by decide +kernel)) (by decide +kernel)
theorem w_1403 : Cond.instanceMethod yX11_begins ∈ WT := WT_in (List.mem_of_getElem? (i := 1403) (by decide +kernel)) (by decide +kernel)
theorem w_60 : Cond.selects RX11 yX11_begins yX11_begins ∈ WT := WT_in (List.mem_of_getElem? (i := 60) (by decide +kernel)) (by decide +kernel)
theorem w_1404 : Cond.code yX11_begins cX11_begins 4 none ∈ WT := WT_in (List.mem_of_getElem? (i := 1404) (by decide +kernel)) (by decide +kernel)
theorem w_1120 : Cond.fieldLink RX11 315 "PagerloomModel" "rules" "I" ∈ WT := WT_in (List.mem_of_getElem? (i := 1120) (by decide +kernel)) (by decide +kernel)
theorem w_1428 : Cond.methodLink RX11 318 yX11_isRisen ∈ WT := WT_in (List.mem_of_getElem? (i := 1428) (by decide +kernel)) (by decide +kernel)
theorem w_1430 : Cond.instanceMethod yX11_isRisen ∈ WT := WT_in (List.mem_of_getElem? (i := 1430) (by decide +kernel)) (by decide +kernel)
theorem w_66 : Cond.selects RX11 yX11_isRisen yX11_isRisen ∈ WT := WT_in (List.mem_of_getElem? (i := 66) (by decide +kernel)) (by decide +kernel)
theorem w_1431 : Cond.code yX11_isRisen cX11_isRisen 3 (some .boolean) ∈ WT := WT_in (List.mem_of_getElem? (i := 1431) (by decide +kernel)) (by decide +kernel)
theorem w_1436 : Cond.methodLink RX11 321 yX11_raises ∈ WT := WT_in (List.mem_of_getElem? (i := 1436) (by decide +kernel)) (by decide +kernel)
theorem w_1438 : Cond.instanceMethod yX11_raises ∈ WT := WT_in (List.mem_of_getElem? (i := 1438) (by decide +kernel)) (by decide +kernel)
theorem w_68 : Cond.selects RX11 yX11_raises yX11_raises ∈ WT := WT_in (List.mem_of_getElem? (i := 68) (by decide +kernel)) (by decide +kernel)
theorem w_1439 : Cond.code yX11_raises cX11_raises 3 none ∈ WT := WT_in (List.mem_of_getElem? (i := 1439) (by decide +kernel)) (by decide +kernel)
theorem w_1456 : Cond.methodLink RX11 324 yX11_isPerson ∈ WT := WT_in (List.mem_of_getElem? (i := 1456) (by decide +kernel)) (by decide +kernel)
theorem w_1458 : Cond.instanceMethod yX11_isPerson ∈ WT := WT_in (List.mem_of_getElem? (i := 1458) (by decide +kernel)) (by decide +kernel)
theorem w_69 : Cond.selects RX11 yX11_isPerson yX11_isPerson ∈ WT := WT_in (List.mem_of_getElem? (i := 69) (by decide +kernel)) (by decide +kernel)
theorem w_1459 : Cond.code yX11_isPerson cX11_isPerson 2 (some .boolean) ∈ WT := WT_in (List.mem_of_getElem? (i := 1459) (by decide +kernel)) (by decide +kernel)
theorem w_1460 : Cond.methodLink RX11 327 yX11_isToCome ∈ WT := WT_in (List.mem_of_getElem? (i := 1460) (by decide +kernel)) (by decide +kernel)
theorem w_1462 : Cond.instanceMethod yX11_isToCome ∈ WT := WT_in (List.mem_of_getElem? (i := 1462) (by decide +kernel)) (by decide +kernel)
theorem w_70 : Cond.selects RX11 yX11_isToCome yX11_isToCome ∈ WT := WT_in (List.mem_of_getElem? (i := 70) (by decide +kernel)) (by decide +kernel)
theorem w_1463 : Cond.code yX11_isToCome cX11_isToCome 2 (some .boolean) ∈ WT := WT_in (List.mem_of_getElem? (i := 1463) (by decide +kernel)) (by decide +kernel)
theorem w_1121 : Cond.fieldLink RX11 69 "PagerloomModel" "owners" "[I" ∈ WT := WT_in (List.mem_of_getElem? (i := 1121) (by decide +kernel)) (by decide +kernel)
theorem w_1496 : Cond.methodLink RX11 330 yX11_isRule ∈ WT := WT_in (List.mem_of_getElem? (i := 1496) (by decide +kernel)) (by decide +kernel)
theorem w_1498 : Cond.instanceMethod yX11_isRule ∈ WT := WT_in (List.mem_of_getElem? (i := 1498) (by decide +kernel)) (by decide +kernel)
theorem w_71 : Cond.selects RX11 yX11_isRule yX11_isRule ∈ WT := WT_in (List.mem_of_getElem? (i := 71) (by decide +kernel)) (by decide +kernel)
theorem w_1499 : Cond.code yX11_isRule cX11_isRule 2 (some .boolean) ∈ WT := WT_in (List.mem_of_getElem? (i := 1499) (by decide +kernel)) (by decide +kernel)
theorem w_1528 : Cond.methodLink RX11 333 yX11_isAlarm ∈ WT := WT_in (List.mem_of_getElem? (i := 1528) (by decide +kernel)) (by decide +kernel)
theorem w_1530 : Cond.instanceMethod yX11_isAlarm ∈ WT := WT_in (List.mem_of_getElem? (i := 1530) (by decide +kernel)) (by decide +kernel)
theorem w_72 : Cond.selects RX11 yX11_isAlarm yX11_isAlarm ∈ WT := WT_in (List.mem_of_getElem? (i := 72) (by decide +kernel)) (by decide +kernel)
theorem w_1531 : Cond.code yX11_isAlarm cX11_isAlarm 2 (some .boolean) ∈ WT := WT_in (List.mem_of_getElem? (i := 1531) (by decide +kernel)) (by decide +kernel)
theorem w_1544 : Cond.constant RX11 336 67108864 ∈ WT := WT_in (List.mem_of_getElem? (i := 1544) (by decide +kernel)) (by decide +kernel)
theorem wn_793 : Cond.methodLinkNest RX0 35 yX10_isIn "Pagerloom" ∈ tables_1 := List.mem_of_getElem? (i := 720) (by decide +kernel)
theorem w_189 : Cond.fieldLink RX0 9 "Pagerloom$Alarms" "rules" "[I" ∈ WT := WT_in (List.mem_of_getElem? (i := 189) (by decide +kernel)) (by decide +kernel)
theorem w_191 : Cond.fieldLink RX0 15 "Pagerloom$Alarms" "hours" "[I" ∈ WT := WT_in (List.mem_of_getElem? (i := 191) (by decide +kernel)) (by decide +kernel)
theorem w_243 : Cond.fieldLink RX1 15 "Pagerloom$Coder" "size" "I" ∈ WT := WT_in (List.mem_of_getElem? (i := 243) (by decide +kernel)) (by decide +kernel)
theorem w_247 : Cond.fieldLink RX1 25 "Pagerloom$Coder" "high" "I" ∈ WT := WT_in (List.mem_of_getElem? (i := 247) (by decide +kernel)) (by decide +kernel)
theorem w_248 : Cond.fieldLink RX1 28 "Pagerloom$Coder" "isBehindPart" "Z" ∈ WT := WT_in (List.mem_of_getElem? (i := 248) (by decide +kernel)) (by decide +kernel)
theorem w_245 : Cond.fieldLink RX1 19 "Pagerloom$Coder" "pile" "[I" ∈ WT := WT_in (List.mem_of_getElem? (i := 245) (by decide +kernel)) (by decide +kernel)
theorem wn_674 : Cond.methodLinkNest RX1 74 yX10_isIn "Pagerloom" ∈ tables_1 := List.mem_of_getElem? (i := 601) (by decide +kernel)
theorem w_693 : Cond.methodLink RX1 78 yX1_rankOf ∈ WT := WT_in (List.mem_of_getElem? (i := 693) (by decide +kernel)) (by decide +kernel)
theorem w_694 : Cond.static yX1_rankOf ∈ WT := WT_in (List.mem_of_getElem? (i := 694) (by decide +kernel)) (by decide +kernel)
theorem w_80 : Cond.initialized RX1 ∈ WT := WT_in (List.mem_of_getElem? (i := 80) (by decide +kernel)) (by decide +kernel)
theorem w_695 : Cond.code yX1_rankOf cX1_rankOf 1 (some .int) ∈ WT := WT_in (List.mem_of_getElem? (i := 695) (by decide +kernel)) (by decide +kernel)
theorem w_241 : Cond.fieldLink RX1 9 "Pagerloom$Coder" "codes" "[I" ∈ WT := WT_in (List.mem_of_getElem? (i := 241) (by decide +kernel)) (by decide +kernel)
theorem w_670 : Cond.methodLink RX1 62 yX1_put ∈ WT := WT_in (List.mem_of_getElem? (i := 670) (by decide +kernel)) (by decide +kernel)
theorem w_672 : Cond.instanceMethod yX1_put ∈ WT := WT_in (List.mem_of_getElem? (i := 672) (by decide +kernel)) (by decide +kernel)
theorem w_17 : Cond.selects RX1 yX1_put yX1_put ∈ WT := WT_in (List.mem_of_getElem? (i := 17) (by decide +kernel)) (by decide +kernel)
theorem w_673 : Cond.code yX1_put cX1_put 2 none ∈ WT := WT_in (List.mem_of_getElem? (i := 673) (by decide +kernel)) (by decide +kernel)
theorem w_689 : Cond.methodLink RX1 42 yX1_settle ∈ WT := WT_in (List.mem_of_getElem? (i := 689) (by decide +kernel)) (by decide +kernel)
theorem w_691 : Cond.instanceMethod yX1_settle ∈ WT := WT_in (List.mem_of_getElem? (i := 691) (by decide +kernel)) (by decide +kernel)
theorem w_21 : Cond.selects RX1 yX1_settle yX1_settle ∈ WT := WT_in (List.mem_of_getElem? (i := 21) (by decide +kernel)) (by decide +kernel)
theorem w_692 : Cond.code yX1_settle cX1_settle 2 none ∈ WT := WT_in (List.mem_of_getElem? (i := 692) (by decide +kernel)) (by decide +kernel)
theorem w_660 : Cond.methodLink RX1 32 Lib.Math.min.name ∈ WT := WT_in (List.mem_of_getElem? (i := 660) (by decide +kernel)) (by decide +kernel)
theorem wn_665 : Cond.methodLinkNest RX1 46 yX10_isDigit "Pagerloom" ∈ tables_1 := List.mem_of_getElem? (i := 592) (by decide +kernel)
theorem w_429 : Cond.static yX10_isDigit ∈ WT := WT_in (List.mem_of_getElem? (i := 429) (by decide +kernel)) (by decide +kernel)
theorem w_430 : Cond.code yX10_isDigit cX10_isDigit 1 (some .boolean) ∈ WT := WT_in (List.mem_of_getElem? (i := 430) (by decide +kernel)) (by decide +kernel)
theorem wn_675 : Cond.methodLinkNest RX1 53 yX10_isAggregate "Pagerloom" ∈ tables_1 := List.mem_of_getElem? (i := 602) (by decide +kernel)
theorem wn_684 : Cond.methodLinkNest RX1 59 yX10_isField "Pagerloom" ∈ tables_1 := List.mem_of_getElem? (i := 611) (by decide +kernel)
theorem w_246 : Cond.fieldLink RX1 22 "Pagerloom$Coder" "starts" "[I" ∈ WT := WT_in (List.mem_of_getElem? (i := 246) (by decide +kernel)) (by decide +kernel)
theorem w_680 : Cond.methodLink RX1 65 yX1_push ∈ WT := WT_in (List.mem_of_getElem? (i := 680) (by decide +kernel)) (by decide +kernel)
theorem w_682 : Cond.instanceMethod yX1_push ∈ WT := WT_in (List.mem_of_getElem? (i := 682) (by decide +kernel)) (by decide +kernel)
theorem w_19 : Cond.selects RX1 yX1_push yX1_push ∈ WT := WT_in (List.mem_of_getElem? (i := 19) (by decide +kernel)) (by decide +kernel)
theorem w_683 : Cond.code yX1_push cX1_push 2 none ∈ WT := WT_in (List.mem_of_getElem? (i := 683) (by decide +kernel)) (by decide +kernel)
theorem w_685 : Cond.methodLink RX1 68 yX1_close ∈ WT := WT_in (List.mem_of_getElem? (i := 685) (by decide +kernel)) (by decide +kernel)
theorem w_687 : Cond.instanceMethod yX1_close ∈ WT := WT_in (List.mem_of_getElem? (i := 687) (by decide +kernel)) (by decide +kernel)
theorem w_20 : Cond.selects RX1 yX1_close yX1_close ∈ WT := WT_in (List.mem_of_getElem? (i := 20) (by decide +kernel)) (by decide +kernel)
theorem w_688 : Cond.code yX1_close cX1_close 2 none ∈ WT := WT_in (List.mem_of_getElem? (i := 688) (by decide +kernel)) (by decide +kernel)
theorem w_696 : Cond.methodLink RX1 71 yX1_turnSign ∈ WT := WT_in (List.mem_of_getElem? (i := 696) (by decide +kernel)) (by decide +kernel)
theorem w_698 : Cond.instanceMethod yX1_turnSign ∈ WT := WT_in (List.mem_of_getElem? (i := 698) (by decide +kernel)) (by decide +kernel)
theorem w_22 : Cond.selects RX1 yX1_turnSign yX1_turnSign ∈ WT := WT_in (List.mem_of_getElem? (i := 22) (by decide +kernel)) (by decide +kernel)
theorem w_699 : Cond.code yX1_turnSign cX1_turnSign 3 none ∈ WT := WT_in (List.mem_of_getElem? (i := 699) (by decide +kernel)) (by decide +kernel)
theorem w_676 : Cond.methodLink RX1 56 yX1_openAggregate ∈ WT := WT_in (List.mem_of_getElem? (i := 676) (by decide +kernel)) (by decide +kernel)
theorem w_678 : Cond.instanceMethod yX1_openAggregate ∈ WT := WT_in (List.mem_of_getElem? (i := 678) (by decide +kernel)) (by decide +kernel)
theorem w_18 : Cond.selects RX1 yX1_openAggregate yX1_openAggregate ∈ WT := WT_in (List.mem_of_getElem? (i := 18) (by decide +kernel)) (by decide +kernel)
theorem w_679 : Cond.code yX1_openAggregate cX1_openAggregate 7 (some .int) ∈ WT := WT_in (List.mem_of_getElem? (i := 679) (by decide +kernel)) (by decide +kernel)
theorem w_666 : Cond.methodLink RX1 50 yX1_turnNumber ∈ WT := WT_in (List.mem_of_getElem? (i := 666) (by decide +kernel)) (by decide +kernel)
theorem w_668 : Cond.instanceMethod yX1_turnNumber ∈ WT := WT_in (List.mem_of_getElem? (i := 668) (by decide +kernel)) (by decide +kernel)
theorem w_16 : Cond.selects RX1 yX1_turnNumber yX1_turnNumber ∈ WT := WT_in (List.mem_of_getElem? (i := 16) (by decide +kernel)) (by decide +kernel)
theorem w_669 : Cond.code yX1_turnNumber cX1_turnNumber 6 (some .int) ∈ WT := WT_in (List.mem_of_getElem? (i := 669) (by decide +kernel)) (by decide +kernel)
theorem w_661 : Cond.methodLink RX1 38 yX1_turnPart ∈ WT := WT_in (List.mem_of_getElem? (i := 661) (by decide +kernel)) (by decide +kernel)
theorem w_663 : Cond.instanceMethod yX1_turnPart ∈ WT := WT_in (List.mem_of_getElem? (i := 663) (by decide +kernel)) (by decide +kernel)
theorem w_15 : Cond.selects RX1 yX1_turnPart yX1_turnPart ∈ WT := WT_in (List.mem_of_getElem? (i := 15) (by decide +kernel)) (by decide +kernel)
theorem w_664 : Cond.code yX1_turnPart cX1_turnPart 5 (some .int) ∈ WT := WT_in (List.mem_of_getElem? (i := 664) (by decide +kernel)) (by decide +kernel)
theorem w_111 : Cond.fieldLink RX2 9 "Pagerloom$Logs" "parts" "[I" ∈ WT := WT_in (List.mem_of_getElem? (i := 111) (by decide +kernel)) (by decide +kernel)
theorem w_112 : Cond.fieldLink RX2 15 "Pagerloom$Logs" "levels" "[I" ∈ WT := WT_in (List.mem_of_getElem? (i := 112) (by decide +kernel)) (by decide +kernel)
theorem w_113 : Cond.fieldLink RX2 18 "Pagerloom$Logs" "values" "[I" ∈ WT := WT_in (List.mem_of_getElem? (i := 113) (by decide +kernel)) (by decide +kernel)
theorem w_114 : Cond.fieldLink RX2 21 "Pagerloom$Logs" "hours" "[I" ∈ WT := WT_in (List.mem_of_getElem? (i := 114) (by decide +kernel)) (by decide +kernel)
theorem w_808 : Cond.methodLink RX2 47 yX2_putInOrder ∈ WT := WT_in (List.mem_of_getElem? (i := 808) (by decide +kernel)) (by decide +kernel)
theorem w_810 : Cond.instanceMethod yX2_putInOrder ∈ WT := WT_in (List.mem_of_getElem? (i := 810) (by decide +kernel)) (by decide +kernel)
theorem w_33 : Cond.selects RX2 yX2_putInOrder yX2_putInOrder ∈ WT := WT_in (List.mem_of_getElem? (i := 33) (by decide +kernel)) (by decide +kernel)
theorem w_811 : Cond.code yX2_putInOrder cX2_putInOrder 5 none ∈ WT := WT_in (List.mem_of_getElem? (i := 811) (by decide +kernel)) (by decide +kernel)
theorem wn_439 : Cond.methodLinkNest RX4 46 yX10_isComparison "Pagerloom" ∈ tables_1 := List.mem_of_getElem? (i := 366) (by decide +kernel)
theorem w_440 : Cond.static yX10_isComparison ∈ WT := WT_in (List.mem_of_getElem? (i := 440) (by decide +kernel)) (by decide +kernel)
theorem w_441 : Cond.code yX10_isComparison cX10_isComparison 1 (some .boolean) ∈ WT := WT_in (List.mem_of_getElem? (i := 441) (by decide +kernel)) (by decide +kernel)
theorem wn_421 : Cond.methodLinkNest RX4 74 yX10_isField "Pagerloom" ∈ tables_1 := List.mem_of_getElem? (i := 348) (by decide +kernel)
theorem w_310 : Cond.fieldLink RX7 22 "Pagerloom$Runner" "high" "I" ∈ WT := WT_in (List.mem_of_getElem? (i := 310) (by decide +kernel)) (by decide +kernel)
theorem w_309 : Cond.fieldLink RX7 18 "Pagerloom$Runner" "pile" "[J" ∈ WT := WT_in (List.mem_of_getElem? (i := 309) (by decide +kernel)) (by decide +kernel)
theorem wn_722 : Cond.methodLinkNest RX7 83 yX10_isIn "Pagerloom" ∈ tables_1 := List.mem_of_getElem? (i := 649) (by decide +kernel)
theorem w_725 : Cond.methodLink RX7 38 yX7_pull ∈ WT := WT_in (List.mem_of_getElem? (i := 725) (by decide +kernel)) (by decide +kernel)
theorem w_727 : Cond.instanceMethod yX7_pull ∈ WT := WT_in (List.mem_of_getElem? (i := 727) (by decide +kernel)) (by decide +kernel)
theorem w_27 : Cond.selects RX7 yX7_pull yX7_pull ∈ WT := WT_in (List.mem_of_getElem? (i := 27) (by decide +kernel)) (by decide +kernel)
theorem w_83 : Cond.initialized RX7 ∈ WT := WT_in (List.mem_of_getElem? (i := 83) (by decide +kernel)) (by decide +kernel)
theorem w_728 : Cond.code yX7_pull cX7_pull 1 (some .long) ∈ WT := WT_in (List.mem_of_getElem? (i := 728) (by decide +kernel)) (by decide +kernel)
theorem wn_704 : Cond.methodLinkNest RX7 26 yX10_isAggregate "Pagerloom" ∈ tables_1 := List.mem_of_getElem? (i := 631) (by decide +kernel)
theorem w_718 : Cond.methodLink RX7 42 yX7_push ∈ WT := WT_in (List.mem_of_getElem? (i := 718) (by decide +kernel)) (by decide +kernel)
theorem w_720 : Cond.instanceMethod yX7_push ∈ WT := WT_in (List.mem_of_getElem? (i := 720) (by decide +kernel)) (by decide +kernel)
theorem w_26 : Cond.selects RX7 yX7_push yX7_push ∈ WT := WT_in (List.mem_of_getElem? (i := 26) (by decide +kernel)) (by decide +kernel)
theorem w_721 : Cond.code yX7_push cX7_push 3 none ∈ WT := WT_in (List.mem_of_getElem? (i := 721) (by decide +kernel)) (by decide +kernel)
theorem wn_723 : Cond.methodLinkNest RX7 46 yX10_isField "Pagerloom" ∈ tables_1 := List.mem_of_getElem? (i := 650) (by decide +kernel)
theorem wn_729 : Cond.methodLinkNest RX7 55 yX10_combined "Pagerloom" ∈ tables_1 := List.mem_of_getElem? (i := 656) (by decide +kernel)
theorem w_647 : Cond.static yX10_combined ∈ WT := WT_in (List.mem_of_getElem? (i := 647) (by decide +kernel)) (by decide +kernel)
theorem w_648 : Cond.code yX10_combined cX10_combined 5 (some .long) ∈ WT := WT_in (List.mem_of_getElem? (i := 648) (by decide +kernel)) (by decide +kernel)
theorem w_724 : Cond.methodLink RX7 49 yX2_fieldOf ∈ WT := WT_in (List.mem_of_getElem? (i := 724) (by decide +kernel)) (by decide +kernel)
theorem w_620 : Cond.instanceMethod yX2_fieldOf ∈ WT := WT_in (List.mem_of_getElem? (i := 620) (by decide +kernel)) (by decide +kernel)
theorem w_621 : Cond.selects RX2 yX2_fieldOf yX2_fieldOf ∈ WT := WT_in (List.mem_of_getElem? (i := 621) (by decide +kernel)) (by decide +kernel)
theorem w_622 : Cond.code yX2_fieldOf cX2_fieldOf 3 (some .int) ∈ WT := WT_in (List.mem_of_getElem? (i := 622) (by decide +kernel)) (by decide +kernel)
theorem w_714 : Cond.methodLink RX7 34 yX7_step ∈ WT := WT_in (List.mem_of_getElem? (i := 714) (by decide +kernel)) (by decide +kernel)
theorem w_716 : Cond.instanceMethod yX7_step ∈ WT := WT_in (List.mem_of_getElem? (i := 716) (by decide +kernel)) (by decide +kernel)
theorem w_25 : Cond.selects RX7 yX7_step yX7_step ∈ WT := WT_in (List.mem_of_getElem? (i := 25) (by decide +kernel)) (by decide +kernel)
theorem w_717 : Cond.code yX7_step cX7_step 8 (some .int) ∈ WT := WT_in (List.mem_of_getElem? (i := 717) (by decide +kernel)) (by decide +kernel)
theorem w_308 : Cond.fieldLink RX7 12 "Pagerloom$Runner" "tally" "LPagerloom$Tally;" ∈ WT := WT_in (List.mem_of_getElem? (i := 308) (by decide +kernel)) (by decide +kernel)
theorem w_275 : Cond.fieldLink RX8 15 "Pagerloom$Tally" "count" "I" ∈ WT := WT_in (List.mem_of_getElem? (i := 275) (by decide +kernel)) (by decide +kernel)
theorem w_276 : Cond.fieldLink RX8 19 "Pagerloom$Tally" "sum" "J" ∈ WT := WT_in (List.mem_of_getElem? (i := 276) (by decide +kernel)) (by decide +kernel)
theorem w_277 : Cond.fieldLink RX8 23 "Pagerloom$Tally" "least" "I" ∈ WT := WT_in (List.mem_of_getElem? (i := 277) (by decide +kernel)) (by decide +kernel)
theorem w_278 : Cond.fieldLink RX8 26 "Pagerloom$Tally" "greatest" "I" ∈ WT := WT_in (List.mem_of_getElem? (i := 278) (by decide +kernel)) (by decide +kernel)
theorem w_279 : Cond.fieldLink RX8 29 "Pagerloom$Tally" "unlike" "I" ∈ WT := WT_in (List.mem_of_getElem? (i := 279) (by decide +kernel)) (by decide +kernel)
theorem w_274 : Cond.fieldLink RX8 9 "Pagerloom$Tally" "seen" "[I" ∈ WT := WT_in (List.mem_of_getElem? (i := 274) (by decide +kernel)) (by decide +kernel)
theorem w_280 : Cond.fieldLink RX8 32 "Pagerloom$Tally" "times" "[I" ∈ WT := WT_in (List.mem_of_getElem? (i := 280) (by decide +kernel)) (by decide +kernel)
theorem w_709 : Cond.methodLink RX7 61 yX8_clear ∈ WT := WT_in (List.mem_of_getElem? (i := 709) (by decide +kernel)) (by decide +kernel)
theorem w_629 : Cond.instanceMethod yX8_clear ∈ WT := WT_in (List.mem_of_getElem? (i := 629) (by decide +kernel)) (by decide +kernel)
theorem w_630 : Cond.selects RX8 yX8_clear yX8_clear ∈ WT := WT_in (List.mem_of_getElem? (i := 630) (by decide +kernel)) (by decide +kernel)
theorem w_82 : Cond.initialized RX8 ∈ WT := WT_in (List.mem_of_getElem? (i := 82) (by decide +kernel)) (by decide +kernel)
theorem w_631 : Cond.code yX8_clear cX8_clear 3 none ∈ WT := WT_in (List.mem_of_getElem? (i := 631) (by decide +kernel)) (by decide +kernel)
theorem w_125 : Cond.fieldLink RX7 64 "Pagerloom$Logs" "picks" "I" ∈ WT := WT_in (List.mem_of_getElem? (i := 125) (by decide +kernel)) (by decide +kernel)
theorem w_642 : Cond.methodLink RX8 44 yX8_mostOften ∈ WT := WT_in (List.mem_of_getElem? (i := 642) (by decide +kernel)) (by decide +kernel)
theorem w_644 : Cond.instanceMethod yX8_mostOften ∈ WT := WT_in (List.mem_of_getElem? (i := 644) (by decide +kernel)) (by decide +kernel)
theorem w_14 : Cond.selects RX8 yX8_mostOften yX8_mostOften ∈ WT := WT_in (List.mem_of_getElem? (i := 14) (by decide +kernel)) (by decide +kernel)
theorem w_645 : Cond.code yX8_mostOften cX8_mostOften 6 (some .long) ∈ WT := WT_in (List.mem_of_getElem? (i := 645) (by decide +kernel)) (by decide +kernel)
theorem w_731 : Cond.methodLink RX7 79 yX8_result ∈ WT := WT_in (List.mem_of_getElem? (i := 731) (by decide +kernel)) (by decide +kernel)
theorem w_639 : Cond.instanceMethod yX8_result ∈ WT := WT_in (List.mem_of_getElem? (i := 639) (by decide +kernel)) (by decide +kernel)
theorem w_640 : Cond.selects RX8 yX8_result yX8_result ∈ WT := WT_in (List.mem_of_getElem? (i := 640) (by decide +kernel)) (by decide +kernel)
theorem w_641 : Cond.code yX8_result cX8_result 2 (some .long) ∈ WT := WT_in (List.mem_of_getElem? (i := 641) (by decide +kernel)) (by decide +kernel)
theorem w_120 : Cond.fieldLink RX7 67 "Pagerloom$Logs" "picked" "[I" ∈ WT := WT_in (List.mem_of_getElem? (i := 120) (by decide +kernel)) (by decide +kernel)
theorem w_637 : Cond.methodLink RX8 41 Lib.Math.max.name ∈ WT := WT_in (List.mem_of_getElem? (i := 637) (by decide +kernel)) (by decide +kernel)
theorem w_636 : Cond.methodLink RX8 35 Lib.Math.min.name ∈ WT := WT_in (List.mem_of_getElem? (i := 636) (by decide +kernel)) (by decide +kernel)
theorem w_730 : Cond.methodLink RX7 75 yX8_add ∈ WT := WT_in (List.mem_of_getElem? (i := 730) (by decide +kernel)) (by decide +kernel)
theorem w_633 : Cond.instanceMethod yX8_add ∈ WT := WT_in (List.mem_of_getElem? (i := 633) (by decide +kernel)) (by decide +kernel)
theorem w_634 : Cond.selects RX8 yX8_add yX8_add ∈ WT := WT_in (List.mem_of_getElem? (i := 634) (by decide +kernel)) (by decide +kernel)
theorem w_635 : Cond.code yX8_add cX8_add 3 none ∈ WT := WT_in (List.mem_of_getElem? (i := 635) (by decide +kernel)) (by decide +kernel)
theorem w_710 : Cond.methodLink RX7 71 yX7_holds ∈ WT := WT_in (List.mem_of_getElem? (i := 710) (by decide +kernel)) (by decide +kernel)
theorem w_712 : Cond.instanceMethod yX7_holds ∈ WT := WT_in (List.mem_of_getElem? (i := 712) (by decide +kernel)) (by decide +kernel)
theorem w_24 : Cond.selects RX7 yX7_holds yX7_holds ∈ WT := WT_in (List.mem_of_getElem? (i := 24) (by decide +kernel)) (by decide +kernel)
theorem w_713 : Cond.code yX7_holds cX7_holds 8 (some .boolean) ∈ WT := WT_in (List.mem_of_getElem? (i := 713) (by decide +kernel)) (by decide +kernel)
theorem w_705 : Cond.methodLink RX7 30 yX7_gather ∈ WT := WT_in (List.mem_of_getElem? (i := 705) (by decide +kernel)) (by decide +kernel)
theorem w_707 : Cond.instanceMethod yX7_gather ∈ WT := WT_in (List.mem_of_getElem? (i := 707) (by decide +kernel)) (by decide +kernel)
theorem w_23 : Cond.selects RX7 yX7_gather yX7_gather ∈ WT := WT_in (List.mem_of_getElem? (i := 23) (by decide +kernel)) (by decide +kernel)
theorem w_708 : Cond.code yX7_gather cX7_gather 9 (some .int) ∈ WT := WT_in (List.mem_of_getElem? (i := 708) (by decide +kernel)) (by decide +kernel)
theorem w_296 : Cond.fieldLink RX9 12 "Pagerloom$Walker" "tally" "LPagerloom$Tally;" ∈ WT := WT_in (List.mem_of_getElem? (i := 296) (by decide +kernel)) (by decide +kernel)
theorem w_628 : Cond.methodLink RX9 59 yX8_clear ∈ WT := WT_in (List.mem_of_getElem? (i := 628) (by decide +kernel)) (by decide +kernel)
theorem w_124 : Cond.fieldLink RX9 62 "Pagerloom$Logs" "picks" "I" ∈ WT := WT_in (List.mem_of_getElem? (i := 124) (by decide +kernel)) (by decide +kernel)
theorem w_638 : Cond.methodLink RX9 73 yX8_result ∈ WT := WT_in (List.mem_of_getElem? (i := 638) (by decide +kernel)) (by decide +kernel)
theorem w_119 : Cond.fieldLink RX9 65 "Pagerloom$Logs" "picked" "[I" ∈ WT := WT_in (List.mem_of_getElem? (i := 119) (by decide +kernel)) (by decide +kernel)
theorem w_396 : Cond.fieldLink RX9 52 "Pagerloom$Node" "right" "LPagerloom$Node;" ∈ WT := WT_in (List.mem_of_getElem? (i := 396) (by decide +kernel)) (by decide +kernel)
theorem w_632 : Cond.methodLink RX9 69 yX8_add ∈ WT := WT_in (List.mem_of_getElem? (i := 632) (by decide +kernel)) (by decide +kernel)
theorem w_619 : Cond.methodLink RX9 32 yX2_fieldOf ∈ WT := WT_in (List.mem_of_getElem? (i := 619) (by decide +kernel)) (by decide +kernel)
theorem w_203 : Cond.laysFinal RX0 "Pagerloom$Alarms" "rules" "[I" ∈ WT := WT_in (List.mem_of_getElem? (i := 203) (by decide +kernel)) (by decide +kernel)
theorem w_205 : Cond.laysFinal RX0 "Pagerloom$Alarms" "hours" "[I" ∈ WT := WT_in (List.mem_of_getElem? (i := 205) (by decide +kernel)) (by decide +kernel)
theorem w_207 : Cond.laysFinal RX0 "Pagerloom$Alarms" "woken" "[I" ∈ WT := WT_in (List.mem_of_getElem? (i := 207) (by decide +kernel)) (by decide +kernel)
theorem w_209 : Cond.laysFinal RX0 "Pagerloom$Alarms" "wokenIn" "[I" ∈ WT := WT_in (List.mem_of_getElem? (i := 209) (by decide +kernel)) (by decide +kernel)
theorem w_211 : Cond.laysFinal RX0 "Pagerloom$Alarms" "isAnswered" "[Z" ∈ WT := WT_in (List.mem_of_getElem? (i := 211) (by decide +kernel)) (by decide +kernel)
theorem w_213 : Cond.lays RX0 "Pagerloom$Alarms" "count" "I" ∈ WT := WT_in (List.mem_of_getElem? (i := 213) (by decide +kernel)) (by decide +kernel)
theorem w_215 : Cond.lays RX0 "Pagerloom$Alarms" "wokenCount" "I" ∈ WT := WT_in (List.mem_of_getElem? (i := 215) (by decide +kernel)) (by decide +kernel)
theorem w_249 : Cond.laysFinal RX1 "Pagerloom$Coder" "codes" "[I" ∈ WT := WT_in (List.mem_of_getElem? (i := 249) (by decide +kernel)) (by decide +kernel)
theorem w_251 : Cond.lays RX1 "Pagerloom$Coder" "size" "I" ∈ WT := WT_in (List.mem_of_getElem? (i := 251) (by decide +kernel)) (by decide +kernel)
theorem w_253 : Cond.laysFinal RX1 "Pagerloom$Coder" "pile" "[I" ∈ WT := WT_in (List.mem_of_getElem? (i := 253) (by decide +kernel)) (by decide +kernel)
theorem w_255 : Cond.laysFinal RX1 "Pagerloom$Coder" "starts" "[I" ∈ WT := WT_in (List.mem_of_getElem? (i := 255) (by decide +kernel)) (by decide +kernel)
theorem w_257 : Cond.lays RX1 "Pagerloom$Coder" "high" "I" ∈ WT := WT_in (List.mem_of_getElem? (i := 257) (by decide +kernel)) (by decide +kernel)
theorem w_259 : Cond.lays RX1 "Pagerloom$Coder" "isBehindPart" "Z" ∈ WT := WT_in (List.mem_of_getElem? (i := 259) (by decide +kernel)) (by decide +kernel)
theorem w_127 : Cond.laysFinal RX2 "Pagerloom$Logs" "parts" "[I" ∈ WT := WT_in (List.mem_of_getElem? (i := 127) (by decide +kernel)) (by decide +kernel)
theorem w_129 : Cond.laysFinal RX2 "Pagerloom$Logs" "levels" "[I" ∈ WT := WT_in (List.mem_of_getElem? (i := 129) (by decide +kernel)) (by decide +kernel)
theorem w_131 : Cond.laysFinal RX2 "Pagerloom$Logs" "values" "[I" ∈ WT := WT_in (List.mem_of_getElem? (i := 131) (by decide +kernel)) (by decide +kernel)
theorem w_133 : Cond.laysFinal RX2 "Pagerloom$Logs" "hours" "[I" ∈ WT := WT_in (List.mem_of_getElem? (i := 133) (by decide +kernel)) (by decide +kernel)
theorem w_135 : Cond.laysFinal RX2 "Pagerloom$Logs" "toldIn" "[I" ∈ WT := WT_in (List.mem_of_getElem? (i := 135) (by decide +kernel)) (by decide +kernel)
theorem w_137 : Cond.laysFinal RX2 "Pagerloom$Logs" "order" "[I" ∈ WT := WT_in (List.mem_of_getElem? (i := 137) (by decide +kernel)) (by decide +kernel)
theorem w_139 : Cond.laysFinal RX2 "Pagerloom$Logs" "ahead" "[I" ∈ WT := WT_in (List.mem_of_getElem? (i := 139) (by decide +kernel)) (by decide +kernel)
theorem w_141 : Cond.laysFinal RX2 "Pagerloom$Logs" "picked" "[I" ∈ WT := WT_in (List.mem_of_getElem? (i := 141) (by decide +kernel)) (by decide +kernel)
theorem w_143 : Cond.lays RX2 "Pagerloom$Logs" "count" "I" ∈ WT := WT_in (List.mem_of_getElem? (i := 143) (by decide +kernel)) (by decide +kernel)
theorem w_145 : Cond.lays RX2 "Pagerloom$Logs" "picks" "I" ∈ WT := WT_in (List.mem_of_getElem? (i := 145) (by decide +kernel)) (by decide +kernel)
theorem w_397 : Cond.laysFinal RX3 "Pagerloom$Node" "kind" "I" ∈ WT := WT_in (List.mem_of_getElem? (i := 397) (by decide +kernel)) (by decide +kernel)
theorem w_399 : Cond.laysFinal RX3 "Pagerloom$Node" "number" "I" ∈ WT := WT_in (List.mem_of_getElem? (i := 399) (by decide +kernel)) (by decide +kernel)
theorem w_401 : Cond.laysFinal RX3 "Pagerloom$Node" "left" "LPagerloom$Node;" ∈ WT := WT_in (List.mem_of_getElem? (i := 401) (by decide +kernel)) (by decide +kernel)
theorem w_403 : Cond.laysFinal RX3 "Pagerloom$Node" "right" "LPagerloom$Node;" ∈ WT := WT_in (List.mem_of_getElem? (i := 403) (by decide +kernel)) (by decide +kernel)
theorem w_228 : Cond.lays RX4 "Pagerloom$Reader" "text" "[C" ∈ WT := WT_in (List.mem_of_getElem? (i := 228) (by decide +kernel)) (by decide +kernel)
theorem w_230 : Cond.lays RX4 "Pagerloom$Reader" "length" "I" ∈ WT := WT_in (List.mem_of_getElem? (i := 230) (by decide +kernel)) (by decide +kernel)
theorem w_232 : Cond.lays RX4 "Pagerloom$Reader" "at" "I" ∈ WT := WT_in (List.mem_of_getElem? (i := 232) (by decide +kernel)) (by decide +kernel)
theorem w_168 : Cond.lays RX5 "Pagerloom$Rota" "people" "I" ∈ WT := WT_in (List.mem_of_getElem? (i := 168) (by decide +kernel)) (by decide +kernel)
theorem w_170 : Cond.laysFinal RX5 "Pagerloom$Rota" "swapped" "[I" ∈ WT := WT_in (List.mem_of_getElem? (i := 170) (by decide +kernel)) (by decide +kernel)
theorem w_172 : Cond.laysFinal RX5 "Pagerloom$Rota" "offs" "[I" ∈ WT := WT_in (List.mem_of_getElem? (i := 172) (by decide +kernel)) (by decide +kernel)
theorem w_174 : Cond.laysFinal RX5 "Pagerloom$Rota" "holders" "[I" ∈ WT := WT_in (List.mem_of_getElem? (i := 174) (by decide +kernel)) (by decide +kernel)
theorem w_176 : Cond.laysFinal RX5 "Pagerloom$Rota" "debtors" "[I" ∈ WT := WT_in (List.mem_of_getElem? (i := 176) (by decide +kernel)) (by decide +kernel)
theorem w_178 : Cond.laysFinal RX5 "Pagerloom$Rota" "creditors" "[I" ∈ WT := WT_in (List.mem_of_getElem? (i := 178) (by decide +kernel)) (by decide +kernel)
theorem w_180 : Cond.lays RX5 "Pagerloom$Rota" "debts" "I" ∈ WT := WT_in (List.mem_of_getElem? (i := 180) (by decide +kernel)) (by decide +kernel)
theorem w_938 : Cond.laysFinal RX6 "Pagerloom$Rule" "question" "LPagerloom$Node;" ∈ WT := WT_in (List.mem_of_getElem? (i := 938) (by decide +kernel)) (by decide +kernel)
theorem w_940 : Cond.laysFinal RX6 "Pagerloom$Rule" "owner" "I" ∈ WT := WT_in (List.mem_of_getElem? (i := 940) (by decide +kernel)) (by decide +kernel)
theorem w_942 : Cond.laysFinal RX6 "Pagerloom$Rule" "window" "I" ∈ WT := WT_in (List.mem_of_getElem? (i := 942) (by decide +kernel)) (by decide +kernel)
theorem w_944 : Cond.laysFinal RX6 "Pagerloom$Rule" "rest" "I" ∈ WT := WT_in (List.mem_of_getElem? (i := 944) (by decide +kernel)) (by decide +kernel)
theorem w_946 : Cond.laysFinal RX6 "Pagerloom$Rule" "madeIn" "I" ∈ WT := WT_in (List.mem_of_getElem? (i := 946) (by decide +kernel)) (by decide +kernel)
theorem w_948 : Cond.lays RX6 "Pagerloom$Rule" "lastHour" "I" ∈ WT := WT_in (List.mem_of_getElem? (i := 948) (by decide +kernel)) (by decide +kernel)
theorem w_950 : Cond.laysFinal RX6 "Pagerloom$Rule" "silentFrom" "[I" ∈ WT := WT_in (List.mem_of_getElem? (i := 950) (by decide +kernel)) (by decide +kernel)
theorem w_952 : Cond.laysFinal RX6 "Pagerloom$Rule" "silentTo" "[I" ∈ WT := WT_in (List.mem_of_getElem? (i := 952) (by decide +kernel)) (by decide +kernel)
theorem w_954 : Cond.lays RX6 "Pagerloom$Rule" "silences" "I" ∈ WT := WT_in (List.mem_of_getElem? (i := 954) (by decide +kernel)) (by decide +kernel)
theorem w_956 : Cond.lays RX6 "Pagerloom$Rule" "riseCount" "I" ∈ WT := WT_in (List.mem_of_getElem? (i := 956) (by decide +kernel)) (by decide +kernel)
theorem w_958 : Cond.lays RX6 "Pagerloom$Rule" "lastRise" "I" ∈ WT := WT_in (List.mem_of_getElem? (i := 958) (by decide +kernel)) (by decide +kernel)
theorem w_311 : Cond.laysFinal RX7 "Pagerloom$Runner" "tally" "LPagerloom$Tally;" ∈ WT := WT_in (List.mem_of_getElem? (i := 311) (by decide +kernel)) (by decide +kernel)
theorem w_313 : Cond.laysFinal RX7 "Pagerloom$Runner" "pile" "[J" ∈ WT := WT_in (List.mem_of_getElem? (i := 313) (by decide +kernel)) (by decide +kernel)
theorem w_315 : Cond.lays RX7 "Pagerloom$Runner" "high" "I" ∈ WT := WT_in (List.mem_of_getElem? (i := 315) (by decide +kernel)) (by decide +kernel)
theorem w_281 : Cond.laysFinal RX8 "Pagerloom$Tally" "seen" "[I" ∈ WT := WT_in (List.mem_of_getElem? (i := 281) (by decide +kernel)) (by decide +kernel)
theorem w_283 : Cond.lays RX8 "Pagerloom$Tally" "count" "I" ∈ WT := WT_in (List.mem_of_getElem? (i := 283) (by decide +kernel)) (by decide +kernel)
theorem w_285 : Cond.lays RX8 "Pagerloom$Tally" "sum" "J" ∈ WT := WT_in (List.mem_of_getElem? (i := 285) (by decide +kernel)) (by decide +kernel)
theorem w_287 : Cond.lays RX8 "Pagerloom$Tally" "least" "I" ∈ WT := WT_in (List.mem_of_getElem? (i := 287) (by decide +kernel)) (by decide +kernel)
theorem w_289 : Cond.lays RX8 "Pagerloom$Tally" "greatest" "I" ∈ WT := WT_in (List.mem_of_getElem? (i := 289) (by decide +kernel)) (by decide +kernel)
theorem w_291 : Cond.lays RX8 "Pagerloom$Tally" "unlike" "I" ∈ WT := WT_in (List.mem_of_getElem? (i := 291) (by decide +kernel)) (by decide +kernel)
theorem w_293 : Cond.laysFinal RX8 "Pagerloom$Tally" "times" "[I" ∈ WT := WT_in (List.mem_of_getElem? (i := 293) (by decide +kernel)) (by decide +kernel)
theorem w_297 : Cond.laysFinal RX9 "Pagerloom$Walker" "tally" "LPagerloom$Tally;" ∈ WT := WT_in (List.mem_of_getElem? (i := 297) (by decide +kernel)) (by decide +kernel)
theorem w_331 : Cond.laysFinal RX10 "Pagerloom" "text" "[C" ∈ WT := WT_in (List.mem_of_getElem? (i := 331) (by decide +kernel)) (by decide +kernel)
theorem w_333 : Cond.lays RX10 "Pagerloom" "length" "I" ∈ WT := WT_in (List.mem_of_getElem? (i := 333) (by decide +kernel)) (by decide +kernel)
theorem w_335 : Cond.lays RX10 "Pagerloom" "nowHour" "I" ∈ WT := WT_in (List.mem_of_getElem? (i := 335) (by decide +kernel)) (by decide +kernel)
theorem w_337 : Cond.laysFinal RX10 "Pagerloom" "rules" "[LPagerloom$Rule;" ∈ WT := WT_in (List.mem_of_getElem? (i := 337) (by decide +kernel)) (by decide +kernel)
theorem w_339 : Cond.lays RX10 "Pagerloom" "ruleCount" "I" ∈ WT := WT_in (List.mem_of_getElem? (i := 339) (by decide +kernel)) (by decide +kernel)
theorem w_341 : Cond.laysFinal RX10 "Pagerloom" "logs" "LPagerloom$Logs;" ∈ WT := WT_in (List.mem_of_getElem? (i := 341) (by decide +kernel)) (by decide +kernel)
theorem w_343 : Cond.laysFinal RX10 "Pagerloom" "rota" "LPagerloom$Rota;" ∈ WT := WT_in (List.mem_of_getElem? (i := 343) (by decide +kernel)) (by decide +kernel)
theorem w_345 : Cond.laysFinal RX10 "Pagerloom" "alarmList" "LPagerloom$Alarms;" ∈ WT := WT_in (List.mem_of_getElem? (i := 345) (by decide +kernel)) (by decide +kernel)
theorem w_347 : Cond.laysFinal RX10 "Pagerloom" "reader" "LPagerloom$Reader;" ∈ WT := WT_in (List.mem_of_getElem? (i := 347) (by decide +kernel)) (by decide +kernel)
theorem w_349 : Cond.laysFinal RX10 "Pagerloom" "coder" "LPagerloom$Coder;" ∈ WT := WT_in (List.mem_of_getElem? (i := 349) (by decide +kernel)) (by decide +kernel)
theorem w_351 : Cond.laysFinal RX10 "Pagerloom" "walker" "LPagerloom$Walker;" ∈ WT := WT_in (List.mem_of_getElem? (i := 351) (by decide +kernel)) (by decide +kernel)
theorem w_353 : Cond.laysFinal RX10 "Pagerloom" "runner" "LPagerloom$Runner;" ∈ WT := WT_in (List.mem_of_getElem? (i := 353) (by decide +kernel)) (by decide +kernel)
theorem w_1136 : Cond.laysFinal RX11 "PagerloomModel" "text" "[I" ∈ WT := WT_in (List.mem_of_getElem? (i := 1136) (by decide +kernel)) (by decide +kernel)
theorem w_1138 : Cond.lays RX11 "PagerloomModel" "length" "I" ∈ WT := WT_in (List.mem_of_getElem? (i := 1138) (by decide +kernel)) (by decide +kernel)
theorem w_1140 : Cond.laysFinal RX11 "PagerloomModel" "codes" "[I" ∈ WT := WT_in (List.mem_of_getElem? (i := 1140) (by decide +kernel)) (by decide +kernel)
theorem w_1142 : Cond.laysFinal RX11 "PagerloomModel" "with" "[I" ∈ WT := WT_in (List.mem_of_getElem? (i := 1142) (by decide +kernel)) (by decide +kernel)
theorem w_1144 : Cond.laysFinal RX11 "PagerloomModel" "many" "[I" ∈ WT := WT_in (List.mem_of_getElem? (i := 1144) (by decide +kernel)) (by decide +kernel)
theorem w_1146 : Cond.laysFinal RX11 "PagerloomModel" "asks" "[I" ∈ WT := WT_in (List.mem_of_getElem? (i := 1146) (by decide +kernel)) (by decide +kernel)
theorem w_1148 : Cond.laysFinal RX11 "PagerloomModel" "asksWith" "[I" ∈ WT := WT_in (List.mem_of_getElem? (i := 1148) (by decide +kernel)) (by decide +kernel)
theorem w_1150 : Cond.laysFinal RX11 "PagerloomModel" "asksMany" "[I" ∈ WT := WT_in (List.mem_of_getElem? (i := 1150) (by decide +kernel)) (by decide +kernel)
theorem w_1152 : Cond.lays RX11 "PagerloomModel" "slot" "I" ∈ WT := WT_in (List.mem_of_getElem? (i := 1152) (by decide +kernel)) (by decide +kernel)
theorem w_1154 : Cond.lays RX11 "PagerloomModel" "state" "I" ∈ WT := WT_in (List.mem_of_getElem? (i := 1154) (by decide +kernel)) (by decide +kernel)
theorem w_1156 : Cond.lays RX11 "PagerloomModel" "digits" "I" ∈ WT := WT_in (List.mem_of_getElem? (i := 1156) (by decide +kernel)) (by decide +kernel)
theorem w_1158 : Cond.lays RX11 "PagerloomModel" "number" "I" ∈ WT := WT_in (List.mem_of_getElem? (i := 1158) (by decide +kernel)) (by decide +kernel)
theorem w_1160 : Cond.lays RX11 "PagerloomModel" "isBelow" "Z" ∈ WT := WT_in (List.mem_of_getElem? (i := 1160) (by decide +kernel)) (by decide +kernel)
theorem w_1162 : Cond.lays RX11 "PagerloomModel" "kind" "I" ∈ WT := WT_in (List.mem_of_getElem? (i := 1162) (by decide +kernel)) (by decide +kernel)
theorem w_1164 : Cond.lays RX11 "PagerloomModel" "field" "I" ∈ WT := WT_in (List.mem_of_getElem? (i := 1164) (by decide +kernel)) (by decide +kernel)
theorem w_1166 : Cond.lays RX11 "PagerloomModel" "first" "I" ∈ WT := WT_in (List.mem_of_getElem? (i := 1166) (by decide +kernel)) (by decide +kernel)
theorem w_1168 : Cond.lays RX11 "PagerloomModel" "termField" "I" ∈ WT := WT_in (List.mem_of_getElem? (i := 1168) (by decide +kernel)) (by decide +kernel)
theorem w_1170 : Cond.lays RX11 "PagerloomModel" "termSign" "I" ∈ WT := WT_in (List.mem_of_getElem? (i := 1170) (by decide +kernel)) (by decide +kernel)
theorem w_1172 : Cond.laysFinal RX11 "PagerloomModel" "waiting" "[I" ∈ WT := WT_in (List.mem_of_getElem? (i := 1172) (by decide +kernel)) (by decide +kernel)
theorem w_1174 : Cond.lays RX11 "PagerloomModel" "waits" "I" ∈ WT := WT_in (List.mem_of_getElem? (i := 1174) (by decide +kernel)) (by decide +kernel)
theorem w_1176 : Cond.laysFinal RX11 "PagerloomModel" "asked" "[I" ∈ WT := WT_in (List.mem_of_getElem? (i := 1176) (by decide +kernel)) (by decide +kernel)
theorem w_1178 : Cond.lays RX11 "PagerloomModel" "askedMany" "I" ∈ WT := WT_in (List.mem_of_getElem? (i := 1178) (by decide +kernel)) (by decide +kernel)
theorem w_1180 : Cond.lays RX11 "PagerloomModel" "level" "I" ∈ WT := WT_in (List.mem_of_getElem? (i := 1180) (by decide +kernel)) (by decide +kernel)
theorem w_1182 : Cond.lays RX11 "PagerloomModel" "askLevel" "I" ∈ WT := WT_in (List.mem_of_getElem? (i := 1182) (by decide +kernel)) (by decide +kernel)
theorem w_1184 : Cond.laysFinal RX11 "PagerloomModel" "isCompared" "[Z" ∈ WT := WT_in (List.mem_of_getElem? (i := 1184) (by decide +kernel)) (by decide +kernel)
theorem w_1186 : Cond.laysFinal RX11 "PagerloomModel" "pile" "[J" ∈ WT := WT_in (List.mem_of_getElem? (i := 1186) (by decide +kernel)) (by decide +kernel)
theorem w_1188 : Cond.lays RX11 "PagerloomModel" "height" "I" ∈ WT := WT_in (List.mem_of_getElem? (i := 1188) (by decide +kernel)) (by decide +kernel)
theorem w_1190 : Cond.laysFinal RX11 "PagerloomModel" "truths" "[Z" ∈ WT := WT_in (List.mem_of_getElem? (i := 1190) (by decide +kernel)) (by decide +kernel)
theorem w_1192 : Cond.lays RX11 "PagerloomModel" "from" "I" ∈ WT := WT_in (List.mem_of_getElem? (i := 1192) (by decide +kernel)) (by decide +kernel)
theorem w_1194 : Cond.lays RX11 "PagerloomModel" "to" "I" ∈ WT := WT_in (List.mem_of_getElem? (i := 1194) (by decide +kernel)) (by decide +kernel)
theorem w_1196 : Cond.lays RX11 "PagerloomModel" "now" "I" ∈ WT := WT_in (List.mem_of_getElem? (i := 1196) (by decide +kernel)) (by decide +kernel)
theorem w_1198 : Cond.lays RX11 "PagerloomModel" "logs" "I" ∈ WT := WT_in (List.mem_of_getElem? (i := 1198) (by decide +kernel)) (by decide +kernel)
theorem w_1200 : Cond.laysFinal RX11 "PagerloomModel" "parts" "[I" ∈ WT := WT_in (List.mem_of_getElem? (i := 1200) (by decide +kernel)) (by decide +kernel)
theorem w_1202 : Cond.laysFinal RX11 "PagerloomModel" "levels" "[I" ∈ WT := WT_in (List.mem_of_getElem? (i := 1202) (by decide +kernel)) (by decide +kernel)
theorem w_1204 : Cond.laysFinal RX11 "PagerloomModel" "values" "[I" ∈ WT := WT_in (List.mem_of_getElem? (i := 1204) (by decide +kernel)) (by decide +kernel)
theorem w_1206 : Cond.laysFinal RX11 "PagerloomModel" "hours" "[I" ∈ WT := WT_in (List.mem_of_getElem? (i := 1206) (by decide +kernel)) (by decide +kernel)
theorem w_1208 : Cond.lays RX11 "PagerloomModel" "people" "I" ∈ WT := WT_in (List.mem_of_getElem? (i := 1208) (by decide +kernel)) (by decide +kernel)
theorem w_1210 : Cond.laysFinal RX11 "PagerloomModel" "isOff" "[Z" ∈ WT := WT_in (List.mem_of_getElem? (i := 1210) (by decide +kernel)) (by decide +kernel)
theorem w_1212 : Cond.laysFinal RX11 "PagerloomModel" "swapped" "[I" ∈ WT := WT_in (List.mem_of_getElem? (i := 1212) (by decide +kernel)) (by decide +kernel)
theorem w_1214 : Cond.laysFinal RX11 "PagerloomModel" "holders" "[I" ∈ WT := WT_in (List.mem_of_getElem? (i := 1214) (by decide +kernel)) (by decide +kernel)
theorem w_1216 : Cond.lays RX11 "PagerloomModel" "rules" "I" ∈ WT := WT_in (List.mem_of_getElem? (i := 1216) (by decide +kernel)) (by decide +kernel)
theorem w_1218 : Cond.laysFinal RX11 "PagerloomModel" "owners" "[I" ∈ WT := WT_in (List.mem_of_getElem? (i := 1218) (by decide +kernel)) (by decide +kernel)
theorem w_1220 : Cond.laysFinal RX11 "PagerloomModel" "windows" "[I" ∈ WT := WT_in (List.mem_of_getElem? (i := 1220) (by decide +kernel)) (by decide +kernel)
theorem w_1222 : Cond.laysFinal RX11 "PagerloomModel" "rests" "[I" ∈ WT := WT_in (List.mem_of_getElem? (i := 1222) (by decide +kernel)) (by decide +kernel)
theorem w_1224 : Cond.laysFinal RX11 "PagerloomModel" "isDropped" "[Z" ∈ WT := WT_in (List.mem_of_getElem? (i := 1224) (by decide +kernel)) (by decide +kernel)
theorem w_1226 : Cond.laysFinal RX11 "PagerloomModel" "last" "[I" ∈ WT := WT_in (List.mem_of_getElem? (i := 1226) (by decide +kernel)) (by decide +kernel)
theorem w_1228 : Cond.laysFinal RX11 "PagerloomModel" "risen" "[I" ∈ WT := WT_in (List.mem_of_getElem? (i := 1228) (by decide +kernel)) (by decide +kernel)
theorem w_1230 : Cond.laysFinal RX11 "PagerloomModel" "silences" "[I" ∈ WT := WT_in (List.mem_of_getElem? (i := 1230) (by decide +kernel)) (by decide +kernel)
theorem w_1232 : Cond.laysFinal RX11 "PagerloomModel" "silentFrom" "[I" ∈ WT := WT_in (List.mem_of_getElem? (i := 1232) (by decide +kernel)) (by decide +kernel)
theorem w_1234 : Cond.laysFinal RX11 "PagerloomModel" "silentTo" "[I" ∈ WT := WT_in (List.mem_of_getElem? (i := 1234) (by decide +kernel)) (by decide +kernel)
theorem w_1236 : Cond.lays RX11 "PagerloomModel" "alarms" "I" ∈ WT := WT_in (List.mem_of_getElem? (i := 1236) (by decide +kernel)) (by decide +kernel)
theorem w_1238 : Cond.laysFinal RX11 "PagerloomModel" "alarmed" "[I" ∈ WT := WT_in (List.mem_of_getElem? (i := 1238) (by decide +kernel)) (by decide +kernel)
theorem w_1240 : Cond.lays RX11 "PagerloomModel" "debts" "I" ∈ WT := WT_in (List.mem_of_getElem? (i := 1240) (by decide +kernel)) (by decide +kernel)
theorem w_1242 : Cond.laysFinal RX11 "PagerloomModel" "owed" "[I" ∈ WT := WT_in (List.mem_of_getElem? (i := 1242) (by decide +kernel)) (by decide +kernel)
theorem w_1244 : Cond.lays RX11 "PagerloomModel" "paid" "I" ∈ WT := WT_in (List.mem_of_getElem? (i := 1244) (by decide +kernel)) (by decide +kernel)
theorem w_1246 : Cond.lays RX11 "PagerloomModel" "thrown" "I" ∈ WT := WT_in (List.mem_of_getElem? (i := 1246) (by decide +kernel)) (by decide +kernel)
theorem w_maxcode : Cond.code Lib.Math.max.name Lib.Math.max.code 2 (some .int) ∈ WT := WT_in (List.mem_of_getElem? (i := 608) (by decide +kernel)) (by decide +kernel)
theorem w_mincode : Cond.code Lib.Math.min.name Lib.Math.min.code 2 (some .int) ∈ WT := WT_in (List.mem_of_getElem? (i := 605) (by decide +kernel)) (by decide +kernel)
theorem inT0 : ∀ x ∈ u_ws RX0 TX0 7, x ∈ WT := by
  intro x hx
  obtain ⟨k, hk, rfl⟩ := List.mem_map.mp hx
  have hk := List.mem_range.mp hk
  have hk : k = 0 ∨ k = 1 ∨ k = 2 ∨ k = 3 ∨ k = 4 ∨ k = 5 ∨ k = 6 := by omega
  rcases hk with rfl | rfl | rfl | rfl | rfl | rfl | rfl
  · exact w_203
  · exact w_205
  · exact w_207
  · exact w_209
  · exact w_211
  · exact w_213
  · exact w_215
theorem inT1 : ∀ x ∈ u_ws RX1 TX1 6, x ∈ WT := by
  intro x hx
  obtain ⟨k, hk, rfl⟩ := List.mem_map.mp hx
  have hk := List.mem_range.mp hk
  have hk : k = 0 ∨ k = 1 ∨ k = 2 ∨ k = 3 ∨ k = 4 ∨ k = 5 := by omega
  rcases hk with rfl | rfl | rfl | rfl | rfl | rfl
  · exact w_249
  · exact w_251
  · exact w_253
  · exact w_255
  · exact w_257
  · exact w_259
theorem inT2 : ∀ x ∈ u_ws RX2 TX2 10, x ∈ WT := by
  intro x hx
  obtain ⟨k, hk, rfl⟩ := List.mem_map.mp hx
  have hk := List.mem_range.mp hk
  have hk : k = 0 ∨ k = 1 ∨ k = 2 ∨ k = 3 ∨ k = 4 ∨ k = 5 ∨ k = 6 ∨ k = 7 ∨ k = 8 ∨ k = 9 := by omega
  rcases hk with rfl | rfl | rfl | rfl | rfl | rfl | rfl | rfl | rfl | rfl
  · exact w_127
  · exact w_129
  · exact w_131
  · exact w_133
  · exact w_135
  · exact w_137
  · exact w_139
  · exact w_141
  · exact w_143
  · exact w_145
theorem inT3 : ∀ x ∈ u_ws RX3 TX3 4, x ∈ WT := by
  intro x hx
  obtain ⟨k, hk, rfl⟩ := List.mem_map.mp hx
  have hk := List.mem_range.mp hk
  have hk : k = 0 ∨ k = 1 ∨ k = 2 ∨ k = 3 := by omega
  rcases hk with rfl | rfl | rfl | rfl
  · exact w_397
  · exact w_399
  · exact w_401
  · exact w_403
theorem inT4 : ∀ x ∈ u_ws RX4 TX4 3, x ∈ WT := by
  intro x hx
  obtain ⟨k, hk, rfl⟩ := List.mem_map.mp hx
  have hk := List.mem_range.mp hk
  have hk : k = 0 ∨ k = 1 ∨ k = 2 := by omega
  rcases hk with rfl | rfl | rfl
  · exact w_228
  · exact w_230
  · exact w_232
theorem inT5 : ∀ x ∈ u_ws RX5 TX5 7, x ∈ WT := by
  intro x hx
  obtain ⟨k, hk, rfl⟩ := List.mem_map.mp hx
  have hk := List.mem_range.mp hk
  have hk : k = 0 ∨ k = 1 ∨ k = 2 ∨ k = 3 ∨ k = 4 ∨ k = 5 ∨ k = 6 := by omega
  rcases hk with rfl | rfl | rfl | rfl | rfl | rfl | rfl
  · exact w_168
  · exact w_170
  · exact w_172
  · exact w_174
  · exact w_176
  · exact w_178
  · exact w_180
theorem inT6 : ∀ x ∈ u_ws RX6 TX6 11, x ∈ WT := by
  intro x hx
  obtain ⟨k, hk, rfl⟩ := List.mem_map.mp hx
  have hk := List.mem_range.mp hk
  have hk : k = 0 ∨ k = 1 ∨ k = 2 ∨ k = 3 ∨ k = 4 ∨ k = 5 ∨ k = 6 ∨ k = 7 ∨ k = 8 ∨ k = 9 ∨ k = 10 := by omega
  rcases hk with rfl | rfl | rfl | rfl | rfl | rfl | rfl | rfl | rfl | rfl | rfl
  · exact w_938
  · exact w_940
  · exact w_942
  · exact w_944
  · exact w_946
  · exact w_948
  · exact w_950
  · exact w_952
  · exact w_954
  · exact w_956
  · exact w_958
theorem inT7 : ∀ x ∈ u_ws RX7 TX7 3, x ∈ WT := by
  intro x hx
  obtain ⟨k, hk, rfl⟩ := List.mem_map.mp hx
  have hk := List.mem_range.mp hk
  have hk : k = 0 ∨ k = 1 ∨ k = 2 := by omega
  rcases hk with rfl | rfl | rfl
  · exact w_311
  · exact w_313
  · exact w_315
theorem inT8 : ∀ x ∈ u_ws RX8 TX8 7, x ∈ WT := by
  intro x hx
  obtain ⟨k, hk, rfl⟩ := List.mem_map.mp hx
  have hk := List.mem_range.mp hk
  have hk : k = 0 ∨ k = 1 ∨ k = 2 ∨ k = 3 ∨ k = 4 ∨ k = 5 ∨ k = 6 := by omega
  rcases hk with rfl | rfl | rfl | rfl | rfl | rfl | rfl
  · exact w_281
  · exact w_283
  · exact w_285
  · exact w_287
  · exact w_289
  · exact w_291
  · exact w_293
theorem inT9 : ∀ x ∈ u_ws RX9 TX9 1, x ∈ WT := by
  intro x hx
  obtain ⟨k, hk, rfl⟩ := List.mem_map.mp hx
  have hk := List.mem_range.mp hk
  have hk : k = 0 := by omega
  rcases hk with rfl
  · exact w_297
theorem inT10 : ∀ x ∈ u_ws RX10 TX10 12, x ∈ WT := by
  intro x hx
  obtain ⟨k, hk, rfl⟩ := List.mem_map.mp hx
  have hk := List.mem_range.mp hk
  have hk : k = 0 ∨ k = 1 ∨ k = 2 ∨ k = 3 ∨ k = 4 ∨ k = 5 ∨ k = 6 ∨ k = 7 ∨ k = 8 ∨ k = 9 ∨ k = 10 ∨ k = 11 := by omega
  rcases hk with rfl | rfl | rfl | rfl | rfl | rfl | rfl | rfl | rfl | rfl | rfl | rfl
  · exact w_331
  · exact w_333
  · exact w_335
  · exact w_337
  · exact w_339
  · exact w_341
  · exact w_343
  · exact w_345
  · exact w_347
  · exact w_349
  · exact w_351
  · exact w_353
theorem inT11 : ∀ x ∈ u_ws RX11 TX11 56, x ∈ WT := by
  intro x hx
  obtain ⟨k, hk, rfl⟩ := List.mem_map.mp hx
  have hk := List.mem_range.mp hk
  have hk : k = 0 ∨ k = 1 ∨ k = 2 ∨ k = 3 ∨ k = 4 ∨ k = 5 ∨ k = 6 ∨ k = 7 ∨ k = 8 ∨ k = 9 ∨ k = 10 ∨ k = 11 ∨ k = 12 ∨ k = 13 ∨ k = 14 ∨ k = 15 ∨ k = 16 ∨ k = 17 ∨ k = 18 ∨ k = 19 ∨ k = 20 ∨ k = 21 ∨ k = 22 ∨ k = 23 ∨ k = 24 ∨ k = 25 ∨ k = 26 ∨ k = 27 ∨ k = 28 ∨ k = 29 ∨ k = 30 ∨ k = 31 ∨ k = 32 ∨ k = 33 ∨ k = 34 ∨ k = 35 ∨ k = 36 ∨ k = 37 ∨ k = 38 ∨ k = 39 ∨ k = 40 ∨ k = 41 ∨ k = 42 ∨ k = 43 ∨ k = 44 ∨ k = 45 ∨ k = 46 ∨ k = 47 ∨ k = 48 ∨ k = 49 ∨ k = 50 ∨ k = 51 ∨ k = 52 ∨ k = 53 ∨ k = 54 ∨ k = 55 := by omega
  rcases hk with rfl | rfl | rfl | rfl | rfl | rfl | rfl | rfl | rfl | rfl | rfl | rfl | rfl | rfl | rfl | rfl | rfl | rfl | rfl | rfl | rfl | rfl | rfl | rfl | rfl | rfl | rfl | rfl | rfl | rfl | rfl | rfl | rfl | rfl | rfl | rfl | rfl | rfl | rfl | rfl | rfl | rfl | rfl | rfl | rfl | rfl | rfl | rfl | rfl | rfl | rfl | rfl | rfl | rfl | rfl | rfl
  · exact w_1136
  · exact w_1138
  · exact w_1140
  · exact w_1142
  · exact w_1144
  · exact w_1146
  · exact w_1148
  · exact w_1150
  · exact w_1152
  · exact w_1154
  · exact w_1156
  · exact w_1158
  · exact w_1160
  · exact w_1162
  · exact w_1164
  · exact w_1166
  · exact w_1168
  · exact w_1170
  · exact w_1172
  · exact w_1174
  · exact w_1176
  · exact w_1178
  · exact w_1180
  · exact w_1182
  · exact w_1184
  · exact w_1186
  · exact w_1188
  · exact w_1190
  · exact w_1192
  · exact w_1194
  · exact w_1196
  · exact w_1198
  · exact w_1200
  · exact w_1202
  · exact w_1204
  · exact w_1206
  · exact w_1208
  · exact w_1210
  · exact w_1212
  · exact w_1214
  · exact w_1216
  · exact w_1218
  · exact w_1220
  · exact w_1222
  · exact w_1224
  · exact w_1226
  · exact w_1228
  · exact w_1230
  · exact w_1232
  · exact w_1234
  · exact w_1236
  · exact w_1238
  · exact w_1240
  · exact w_1242
  · exact w_1244
  · exact w_1246
theorem hdV_X4_here : yX4_here.cls = RX4 ∧ yX4_here.cls ≠ "java/lang/invoke/MethodHandle" ∧ yX4_here.cls ≠ "java/lang/invoke/VarHandle" ∧ (parseMethodDescriptor yX4_here.desc).map (fun d => d.parameters.length) = some 0 := by decide +kernel
theorem hdS_X10_isIn : yX10_isIn.cls ≠ "java/lang/invoke/MethodHandle" ∧ yX10_isIn.cls ≠ "java/lang/invoke/VarHandle" ∧ (parseMethodDescriptor yX10_isIn.desc).map (fun d => d.parameters.length) = some 3 := by decide +kernel
theorem hdS_X10_isRange : yX10_isRange.cls ≠ "java/lang/invoke/MethodHandle" ∧ yX10_isRange.cls ≠ "java/lang/invoke/VarHandle" ∧ (parseMethodDescriptor yX10_isRange.desc).map (fun d => d.parameters.length) = some 4 := by decide +kernel
theorem hdV_X5_hasPerson : yX5_hasPerson.cls = RX5 ∧ yX5_hasPerson.cls ≠ "java/lang/invoke/MethodHandle" ∧ yX5_hasPerson.cls ≠ "java/lang/invoke/VarHandle" ∧ (parseMethodDescriptor yX5_hasPerson.desc).map (fun d => d.parameters.length) = some 1 := by decide +kernel
theorem hdV_X10_isToCome : yX10_isToCome.cls = RX10 ∧ yX10_isToCome.cls ≠ "java/lang/invoke/MethodHandle" ∧ yX10_isToCome.cls ≠ "java/lang/invoke/VarHandle" ∧ (parseMethodDescriptor yX10_isToCome.desc).map (fun d => d.parameters.length) = some 1 := by decide +kernel
theorem hdV_X5_plannedFor : yX5_plannedFor.cls = RX5 ∧ yX5_plannedFor.cls ≠ "java/lang/invoke/MethodHandle" ∧ yX5_plannedFor.cls ≠ "java/lang/invoke/VarHandle" ∧ (parseMethodDescriptor yX5_plannedFor.desc).map (fun d => d.parameters.length) = some 1 := by decide +kernel
theorem hdS_X10_isNight : yX10_isNight.cls ≠ "java/lang/invoke/MethodHandle" ∧ yX10_isNight.cls ≠ "java/lang/invoke/VarHandle" ∧ (parseMethodDescriptor yX10_isNight.desc).map (fun d => d.parameters.length) = some 1 := by decide +kernel
theorem hdV_X5_isOff : yX5_isOff.cls = RX5 ∧ yX5_isOff.cls ≠ "java/lang/invoke/MethodHandle" ∧ yX5_isOff.cls ≠ "java/lang/invoke/VarHandle" ∧ (parseMethodDescriptor yX5_isOff.desc).map (fun d => d.parameters.length) = some 2 := by decide +kernel
theorem hdV_X5_debtPaidIn : yX5_debtPaidIn.cls = RX5 ∧ yX5_debtPaidIn.cls ≠ "java/lang/invoke/MethodHandle" ∧ yX5_debtPaidIn.cls ≠ "java/lang/invoke/VarHandle" ∧ (parseMethodDescriptor yX5_debtPaidIn.desc).map (fun d => d.parameters.length) = some 1 := by decide +kernel
theorem hdV_X5_holderToBe : yX5_holderToBe.cls = RX5 ∧ yX5_holderToBe.cls ≠ "java/lang/invoke/MethodHandle" ∧ yX5_holderToBe.cls ≠ "java/lang/invoke/VarHandle" ∧ (parseMethodDescriptor yX5_holderToBe.desc).map (fun d => d.parameters.length) = some 1 := by decide +kernel
theorem hdV_X10_ruleAt : yX10_ruleAt.cls = RX10 ∧ yX10_ruleAt.cls ≠ "java/lang/invoke/MethodHandle" ∧ yX10_ruleAt.cls ≠ "java/lang/invoke/VarHandle" ∧ (parseMethodDescriptor yX10_ruleAt.desc).map (fun d => d.parameters.length) = some 1 := by decide +kernel
theorem hdV_X0_has : yX0_has.cls = RX0 ∧ yX0_has.cls ≠ "java/lang/invoke/MethodHandle" ∧ yX0_has.cls ≠ "java/lang/invoke/VarHandle" ∧ (parseMethodDescriptor yX0_has.desc).map (fun d => d.parameters.length) = some 1 := by decide +kernel
theorem hdV_X5_forgetDebt : yX5_forgetDebt.cls = RX5 ∧ yX5_forgetDebt.cls ≠ "java/lang/invoke/MethodHandle" ∧ yX5_forgetDebt.cls ≠ "java/lang/invoke/VarHandle" ∧ (parseMethodDescriptor yX5_forgetDebt.desc).map (fun d => d.parameters.length) = some 1 := by decide +kernel
theorem hdV_X5_begin : yX5_begin.cls = RX5 ∧ yX5_begin.cls ≠ "java/lang/invoke/MethodHandle" ∧ yX5_begin.cls ≠ "java/lang/invoke/VarHandle" ∧ (parseMethodDescriptor yX5_begin.desc).map (fun d => d.parameters.length) = some 1 := by decide +kernel
theorem hdV_X5_holderOf : yX5_holderOf.cls = RX5 ∧ yX5_holderOf.cls ≠ "java/lang/invoke/MethodHandle" ∧ yX5_holderOf.cls ≠ "java/lang/invoke/VarHandle" ∧ (parseMethodDescriptor yX5_holderOf.desc).map (fun d => d.parameters.length) = some 1 := by decide +kernel
theorem hdV_X0_wakeAll : yX0_wakeAll.cls = RX0 ∧ yX0_wakeAll.cls ≠ "java/lang/invoke/MethodHandle" ∧ yX0_wakeAll.cls ≠ "java/lang/invoke/VarHandle" ∧ (parseMethodDescriptor yX0_wakeAll.desc).map (fun d => d.parameters.length) = some 2 := by decide +kernel
theorem hdV_X6_isDropped : yX6_isDropped.cls = RX6 ∧ yX6_isDropped.cls ≠ "java/lang/invoke/MethodHandle" ∧ yX6_isDropped.cls ≠ "java/lang/invoke/VarHandle" ∧ (parseMethodDescriptor yX6_isDropped.desc).map (fun d => d.parameters.length) = some 0 := by decide +kernel
theorem hdV_X6_hasRested : yX6_hasRested.cls = RX6 ∧ yX6_hasRested.cls ≠ "java/lang/invoke/MethodHandle" ∧ yX6_hasRested.cls ≠ "java/lang/invoke/VarHandle" ∧ (parseMethodDescriptor yX6_hasRested.desc).map (fun d => d.parameters.length) = some 2 := by decide +kernel
theorem hdV_X6_isSilentIn : yX6_isSilentIn.cls = RX6 ∧ yX6_isSilentIn.cls ≠ "java/lang/invoke/MethodHandle" ∧ yX6_isSilentIn.cls ≠ "java/lang/invoke/VarHandle" ∧ (parseMethodDescriptor yX6_isSilentIn.desc).map (fun d => d.parameters.length) = some 1 := by decide +kernel
theorem hdV_X2_pick : yX2_pick.cls = RX2 ∧ yX2_pick.cls ≠ "java/lang/invoke/MethodHandle" ∧ yX2_pick.cls ≠ "java/lang/invoke/VarHandle" ∧ (parseMethodDescriptor yX2_pick.desc).map (fun d => d.parameters.length) = some 3 := by decide +kernel
theorem hdV_X10_pickWindow : yX10_pickWindow.cls = RX10 ∧ yX10_pickWindow.cls ≠ "java/lang/invoke/MethodHandle" ∧ yX10_pickWindow.cls ≠ "java/lang/invoke/VarHandle" ∧ (parseMethodDescriptor yX10_pickWindow.desc).map (fun d => d.parameters.length) = some 3 := by decide +kernel
theorem hdS_X10_isField : yX10_isField.cls ≠ "java/lang/invoke/MethodHandle" ∧ yX10_isField.cls ≠ "java/lang/invoke/VarHandle" ∧ (parseMethodDescriptor yX10_isField.desc).map (fun d => d.parameters.length) = some 1 := by decide +kernel
theorem hdS_X10_isAggregate : yX10_isAggregate.cls ≠ "java/lang/invoke/MethodHandle" ∧ yX10_isAggregate.cls ≠ "java/lang/invoke/VarHandle" ∧ (parseMethodDescriptor yX10_isAggregate.desc).map (fun d => d.parameters.length) = some 1 := by decide +kernel
theorem hdV_X5_addDebt : yX5_addDebt.cls = RX5 ∧ yX5_addDebt.cls ≠ "java/lang/invoke/MethodHandle" ∧ yX5_addDebt.cls ≠ "java/lang/invoke/VarHandle" ∧ (parseMethodDescriptor yX5_addDebt.desc).map (fun d => d.parameters.length) = some 2 := by decide +kernel
theorem hdS_X11_isIn : yX11_isIn.cls ≠ "java/lang/invoke/MethodHandle" ∧ yX11_isIn.cls ≠ "java/lang/invoke/VarHandle" ∧ (parseMethodDescriptor yX11_isIn.desc).map (fun d => d.parameters.length) = some 3 := by decide +kernel
theorem hdV_X11_puts : yX11_puts.cls = RX11 ∧ yX11_puts.cls ≠ "java/lang/invoke/MethodHandle" ∧ yX11_puts.cls ≠ "java/lang/invoke/VarHandle" ∧ (parseMethodDescriptor yX11_puts.desc).map (fun d => d.parameters.length) = some 2 := by decide +kernel
theorem hdS_X11_rank : yX11_rank.cls ≠ "java/lang/invoke/MethodHandle" ∧ yX11_rank.cls ≠ "java/lang/invoke/VarHandle" ∧ (parseMethodDescriptor yX11_rank.desc).map (fun d => d.parameters.length) = some 1 := by decide +kernel
theorem hdV_X11_putsAsk : yX11_putsAsk.cls = RX11 ∧ yX11_putsAsk.cls ≠ "java/lang/invoke/MethodHandle" ∧ yX11_putsAsk.cls ≠ "java/lang/invoke/VarHandle" ∧ (parseMethodDescriptor yX11_putsAsk.desc).map (fun d => d.parameters.length) = some 2 := by decide +kernel
theorem hdS_X11_askRank : yX11_askRank.cls ≠ "java/lang/invoke/MethodHandle" ∧ yX11_askRank.cls ≠ "java/lang/invoke/VarHandle" ∧ (parseMethodDescriptor yX11_askRank.desc).map (fun d => d.parameters.length) = some 1 := by decide +kernel
theorem hdV_X11_endsUnit : yX11_endsUnit.cls = RX11 ∧ yX11_endsUnit.cls ≠ "java/lang/invoke/MethodHandle" ∧ yX11_endsUnit.cls ≠ "java/lang/invoke/VarHandle" ∧ (parseMethodDescriptor yX11_endsUnit.desc).map (fun d => d.parameters.length) = some 0 := by decide +kernel
theorem hdS_X11_isFigure : yX11_isFigure.cls ≠ "java/lang/invoke/MethodHandle" ∧ yX11_isFigure.cls ≠ "java/lang/invoke/VarHandle" ∧ (parseMethodDescriptor yX11_isFigure.desc).map (fun d => d.parameters.length) = some 1 := by decide +kernel
theorem hdS_X11_kindOf : yX11_kindOf.cls ≠ "java/lang/invoke/MethodHandle" ∧ yX11_kindOf.cls ≠ "java/lang/invoke/VarHandle" ∧ (parseMethodDescriptor yX11_kindOf.desc).map (fun d => d.parameters.length) = some 1 := by decide +kernel
theorem hdV_X11_putsWaiting : yX11_putsWaiting.cls = RX11 ∧ yX11_putsWaiting.cls ≠ "java/lang/invoke/MethodHandle" ∧ yX11_putsWaiting.cls ≠ "java/lang/invoke/VarHandle" ∧ (parseMethodDescriptor yX11_putsWaiting.desc).map (fun d => d.parameters.length) = some 1 := by decide +kernel
theorem hdV_X11_endsAggregate : yX11_endsAggregate.cls = RX11 ∧ yX11_endsAggregate.cls ≠ "java/lang/invoke/MethodHandle" ∧ yX11_endsAggregate.cls ≠ "java/lang/invoke/VarHandle" ∧ (parseMethodDescriptor yX11_endsAggregate.desc).map (fun d => d.parameters.length) = some 1 := by decide +kernel
theorem hdS_X11_fieldOf : yX11_fieldOf.cls ≠ "java/lang/invoke/MethodHandle" ∧ yX11_fieldOf.cls ≠ "java/lang/invoke/VarHandle" ∧ (parseMethodDescriptor yX11_fieldOf.desc).map (fun d => d.parameters.length) = some 1 := by decide +kernel
theorem hdV_X11_putsAsked : yX11_putsAsked.cls = RX11 ∧ yX11_putsAsked.cls ≠ "java/lang/invoke/MethodHandle" ∧ yX11_putsAsked.cls ≠ "java/lang/invoke/VarHandle" ∧ (parseMethodDescriptor yX11_putsAsked.desc).map (fun d => d.parameters.length) = some 1 := by decide +kernel
theorem hdV_X11_endsTerm : yX11_endsTerm.cls = RX11 ∧ yX11_endsTerm.cls ≠ "java/lang/invoke/MethodHandle" ∧ yX11_endsTerm.cls ≠ "java/lang/invoke/VarHandle" ∧ (parseMethodDescriptor yX11_endsTerm.desc).map (fun d => d.parameters.length) = some 0 := by decide +kernel
theorem hdV_X11_goesOn : yX11_goesOn.cls = RX11 ∧ yX11_goesOn.cls ≠ "java/lang/invoke/MethodHandle" ∧ yX11_goesOn.cls ≠ "java/lang/invoke/VarHandle" ∧ (parseMethodDescriptor yX11_goesOn.desc).map (fun d => d.parameters.length) = some 1 := by decide +kernel
theorem hdV_X11_endsNumber : yX11_endsNumber.cls = RX11 ∧ yX11_endsNumber.cls ≠ "java/lang/invoke/MethodHandle" ∧ yX11_endsNumber.cls ≠ "java/lang/invoke/VarHandle" ∧ (parseMethodDescriptor yX11_endsNumber.desc).map (fun d => d.parameters.length) = some 0 := by decide +kernel
theorem hdV_X11_goesToUnit : yX11_goesToUnit.cls = RX11 ∧ yX11_goesToUnit.cls ≠ "java/lang/invoke/MethodHandle" ∧ yX11_goesToUnit.cls ≠ "java/lang/invoke/VarHandle" ∧ (parseMethodDescriptor yX11_goesToUnit.desc).map (fun d => d.parameters.length) = some 1 := by decide +kernel
theorem hdV_X11_goesBehind : yX11_goesBehind.cls = RX11 ∧ yX11_goesBehind.cls ≠ "java/lang/invoke/MethodHandle" ∧ yX11_goesBehind.cls ≠ "java/lang/invoke/VarHandle" ∧ (parseMethodDescriptor yX11_goesBehind.desc).map (fun d => d.parameters.length) = some 1 := by decide +kernel
theorem hdV_X11_goesMore : yX11_goesMore.cls = RX11 ∧ yX11_goesMore.cls ≠ "java/lang/invoke/MethodHandle" ∧ yX11_goesMore.cls ≠ "java/lang/invoke/VarHandle" ∧ (parseMethodDescriptor yX11_goesMore.desc).map (fun d => d.parameters.length) = some 1 := by decide +kernel
theorem hdV_X11_goesToTerm : yX11_goesToTerm.cls = RX11 ∧ yX11_goesToTerm.cls ≠ "java/lang/invoke/MethodHandle" ∧ yX11_goesToTerm.cls ≠ "java/lang/invoke/VarHandle" ∧ (parseMethodDescriptor yX11_goesToTerm.desc).map (fun d => d.parameters.length) = some 1 := by decide +kernel
theorem hdV_X11_goesAfter : yX11_goesAfter.cls = RX11 ∧ yX11_goesAfter.cls ≠ "java/lang/invoke/MethodHandle" ∧ yX11_goesAfter.cls ≠ "java/lang/invoke/VarHandle" ∧ (parseMethodDescriptor yX11_goesAfter.desc).map (fun d => d.parameters.length) = some 1 := by decide +kernel
theorem hdV_X11_goesDigit : yX11_goesDigit.cls = RX11 ∧ yX11_goesDigit.cls ≠ "java/lang/invoke/MethodHandle" ∧ yX11_goesDigit.cls ≠ "java/lang/invoke/VarHandle" ∧ (parseMethodDescriptor yX11_goesDigit.desc).map (fun d => d.parameters.length) = some 1 := by decide +kernel
theorem hdV_X11_reads : yX11_reads.cls = RX11 ∧ yX11_reads.cls ≠ "java/lang/invoke/MethodHandle" ∧ yX11_reads.cls ≠ "java/lang/invoke/VarHandle" ∧ (parseMethodDescriptor yX11_reads.desc).map (fun d => d.parameters.length) = some 1 := by decide +kernel
theorem hdV_X11_fieldIn : yX11_fieldIn.cls = RX11 ∧ yX11_fieldIn.cls ≠ "java/lang/invoke/MethodHandle" ∧ yX11_fieldIn.cls ≠ "java/lang/invoke/VarHandle" ∧ (parseMethodDescriptor yX11_fieldIn.desc).map (fun d => d.parameters.length) = some 2 := by decide +kernel
theorem hdS_X11_areSo : yX11_areSo.cls ≠ "java/lang/invoke/MethodHandle" ∧ yX11_areSo.cls ≠ "java/lang/invoke/VarHandle" ∧ (parseMethodDescriptor yX11_areSo.desc).map (fun d => d.parameters.length) = some 3 := by decide +kernel
theorem hdV_X11_holds : yX11_holds.cls = RX11 ∧ yX11_holds.cls ≠ "java/lang/invoke/MethodHandle" ∧ yX11_holds.cls ≠ "java/lang/invoke/VarHandle" ∧ (parseMethodDescriptor yX11_holds.desc).map (fun d => d.parameters.length) = some 4 := by decide +kernel
theorem hdV_X11_isChosen : yX11_isChosen.cls = RX11 ∧ yX11_isChosen.cls ≠ "java/lang/invoke/MethodHandle" ∧ yX11_isChosen.cls ≠ "java/lang/invoke/VarHandle" ∧ (parseMethodDescriptor yX11_isChosen.desc).map (fun d => d.parameters.length) = some 3 := by decide +kernel
theorem hdV_X11_times : yX11_times.cls = RX11 ∧ yX11_times.cls ≠ "java/lang/invoke/MethodHandle" ∧ yX11_times.cls ≠ "java/lang/invoke/VarHandle" ∧ (parseMethodDescriptor yX11_times.desc).map (fun d => d.parameters.length) = some 4 := by decide +kernel
theorem hdV_X11_aggregate : yX11_aggregate.cls = RX11 ∧ yX11_aggregate.cls ≠ "java/lang/invoke/MethodHandle" ∧ yX11_aggregate.cls ≠ "java/lang/invoke/VarHandle" ∧ (parseMethodDescriptor yX11_aggregate.desc).map (fun d => d.parameters.length) = some 2 := by decide +kernel
theorem hdS_X11_reckoned : yX11_reckoned.cls ≠ "java/lang/invoke/MethodHandle" ∧ yX11_reckoned.cls ≠ "java/lang/invoke/VarHandle" ∧ (parseMethodDescriptor yX11_reckoned.desc).map (fun d => d.parameters.length) = some 3 := by decide +kernel
theorem hdV_X11_goes : yX11_goes.cls = RX11 ∧ yX11_goes.cls ≠ "java/lang/invoke/MethodHandle" ∧ yX11_goes.cls ≠ "java/lang/invoke/VarHandle" ∧ (parseMethodDescriptor yX11_goes.desc).map (fun d => d.parameters.length) = some 1 := by decide +kernel
theorem hdV_X11_turns : yX11_turns.cls = RX11 ∧ yX11_turns.cls ≠ "java/lang/invoke/MethodHandle" ∧ yX11_turns.cls ≠ "java/lang/invoke/VarHandle" ∧ (parseMethodDescriptor yX11_turns.desc).map (fun d => d.parameters.length) = some 1 := by decide +kernel
theorem hdV_X11_runs : yX11_runs.cls = RX11 ∧ yX11_runs.cls ≠ "java/lang/invoke/MethodHandle" ∧ yX11_runs.cls ≠ "java/lang/invoke/VarHandle" ∧ (parseMethodDescriptor yX11_runs.desc).map (fun d => d.parameters.length) = some 3 := by decide +kernel
theorem hdV_X11_asked : yX11_asked.cls = RX11 ∧ yX11_asked.cls ≠ "java/lang/invoke/MethodHandle" ∧ yX11_asked.cls ≠ "java/lang/invoke/VarHandle" ∧ (parseMethodDescriptor yX11_asked.desc).map (fun d => d.parameters.length) = some 2 := by decide +kernel
theorem hdV_X11_plannedFor : yX11_plannedFor.cls = RX11 ∧ yX11_plannedFor.cls ≠ "java/lang/invoke/MethodHandle" ∧ yX11_plannedFor.cls ≠ "java/lang/invoke/VarHandle" ∧ (parseMethodDescriptor yX11_plannedFor.desc).map (fun d => d.parameters.length) = some 1 := by decide +kernel
theorem hdV_X11_isOffIn : yX11_isOffIn.cls = RX11 ∧ yX11_isOffIn.cls ≠ "java/lang/invoke/MethodHandle" ∧ yX11_isOffIn.cls ≠ "java/lang/invoke/VarHandle" ∧ (parseMethodDescriptor yX11_isOffIn.desc).map (fun d => d.parameters.length) = some 2 := by decide +kernel
theorem hdS_X11_isNight : yX11_isNight.cls ≠ "java/lang/invoke/MethodHandle" ∧ yX11_isNight.cls ≠ "java/lang/invoke/VarHandle" ∧ (parseMethodDescriptor yX11_isNight.desc).map (fun d => d.parameters.length) = some 1 := by decide +kernel
theorem hdV_X11_holderOf : yX11_holderOf.cls = RX11 ∧ yX11_holderOf.cls ≠ "java/lang/invoke/MethodHandle" ∧ yX11_holderOf.cls ≠ "java/lang/invoke/VarHandle" ∧ (parseMethodDescriptor yX11_holderOf.desc).map (fun d => d.parameters.length) = some 1 := by decide +kernel
theorem hdV_X11_wokenBy : yX11_wokenBy.cls = RX11 ∧ yX11_wokenBy.cls ≠ "java/lang/invoke/MethodHandle" ∧ yX11_wokenBy.cls ≠ "java/lang/invoke/VarHandle" ∧ (parseMethodDescriptor yX11_wokenBy.desc).map (fun d => d.parameters.length) = some 1 := by decide +kernel
theorem hdV_X11_wakes : yX11_wakes.cls = RX11 ∧ yX11_wakes.cls ≠ "java/lang/invoke/MethodHandle" ∧ yX11_wakes.cls ≠ "java/lang/invoke/VarHandle" ∧ (parseMethodDescriptor yX11_wakes.desc).map (fun d => d.parameters.length) = some 2 := by decide +kernel
theorem hdV_X11_isSilent : yX11_isSilent.cls = RX11 ∧ yX11_isSilent.cls ≠ "java/lang/invoke/MethodHandle" ∧ yX11_isSilent.cls ≠ "java/lang/invoke/VarHandle" ∧ (parseMethodDescriptor yX11_isSilent.desc).map (fun d => d.parameters.length) = some 1 := by decide +kernel
theorem hdV_X11_begins : yX11_begins.cls = RX11 ∧ yX11_begins.cls ≠ "java/lang/invoke/MethodHandle" ∧ yX11_begins.cls ≠ "java/lang/invoke/VarHandle" ∧ (parseMethodDescriptor yX11_begins.desc).map (fun d => d.parameters.length) = some 1 := by decide +kernel
theorem hdV_X11_isRisen : yX11_isRisen.cls = RX11 ∧ yX11_isRisen.cls ≠ "java/lang/invoke/MethodHandle" ∧ yX11_isRisen.cls ≠ "java/lang/invoke/VarHandle" ∧ (parseMethodDescriptor yX11_isRisen.desc).map (fun d => d.parameters.length) = some 1 := by decide +kernel
theorem hdV_X11_raises : yX11_raises.cls = RX11 ∧ yX11_raises.cls ≠ "java/lang/invoke/MethodHandle" ∧ yX11_raises.cls ≠ "java/lang/invoke/VarHandle" ∧ (parseMethodDescriptor yX11_raises.desc).map (fun d => d.parameters.length) = some 1 := by decide +kernel
theorem hdV_X11_isPerson : yX11_isPerson.cls = RX11 ∧ yX11_isPerson.cls ≠ "java/lang/invoke/MethodHandle" ∧ yX11_isPerson.cls ≠ "java/lang/invoke/VarHandle" ∧ (parseMethodDescriptor yX11_isPerson.desc).map (fun d => d.parameters.length) = some 1 := by decide +kernel
theorem hdV_X11_isToCome : yX11_isToCome.cls = RX11 ∧ yX11_isToCome.cls ≠ "java/lang/invoke/MethodHandle" ∧ yX11_isToCome.cls ≠ "java/lang/invoke/VarHandle" ∧ (parseMethodDescriptor yX11_isToCome.desc).map (fun d => d.parameters.length) = some 1 := by decide +kernel
theorem hdV_X11_isRule : yX11_isRule.cls = RX11 ∧ yX11_isRule.cls ≠ "java/lang/invoke/MethodHandle" ∧ yX11_isRule.cls ≠ "java/lang/invoke/VarHandle" ∧ (parseMethodDescriptor yX11_isRule.desc).map (fun d => d.parameters.length) = some 1 := by decide +kernel
theorem hdV_X11_isAlarm : yX11_isAlarm.cls = RX11 ∧ yX11_isAlarm.cls ≠ "java/lang/invoke/MethodHandle" ∧ yX11_isAlarm.cls ≠ "java/lang/invoke/VarHandle" ∧ (parseMethodDescriptor yX11_isAlarm.desc).map (fun d => d.parameters.length) = some 1 := by decide +kernel
theorem hdS_X1_rankOf : yX1_rankOf.cls ≠ "java/lang/invoke/MethodHandle" ∧ yX1_rankOf.cls ≠ "java/lang/invoke/VarHandle" ∧ (parseMethodDescriptor yX1_rankOf.desc).map (fun d => d.parameters.length) = some 1 := by decide +kernel
theorem hdV_X1_put : yX1_put.cls = RX1 ∧ yX1_put.cls ≠ "java/lang/invoke/MethodHandle" ∧ yX1_put.cls ≠ "java/lang/invoke/VarHandle" ∧ (parseMethodDescriptor yX1_put.desc).map (fun d => d.parameters.length) = some 1 := by decide +kernel
theorem hdV_X1_settle : yX1_settle.cls = RX1 ∧ yX1_settle.cls ≠ "java/lang/invoke/MethodHandle" ∧ yX1_settle.cls ≠ "java/lang/invoke/VarHandle" ∧ (parseMethodDescriptor yX1_settle.desc).map (fun d => d.parameters.length) = some 1 := by decide +kernel
theorem hdS_X10_isDigit : yX10_isDigit.cls ≠ "java/lang/invoke/MethodHandle" ∧ yX10_isDigit.cls ≠ "java/lang/invoke/VarHandle" ∧ (parseMethodDescriptor yX10_isDigit.desc).map (fun d => d.parameters.length) = some 1 := by decide +kernel
theorem hdV_X1_push : yX1_push.cls = RX1 ∧ yX1_push.cls ≠ "java/lang/invoke/MethodHandle" ∧ yX1_push.cls ≠ "java/lang/invoke/VarHandle" ∧ (parseMethodDescriptor yX1_push.desc).map (fun d => d.parameters.length) = some 1 := by decide +kernel
theorem hdV_X1_close : yX1_close.cls = RX1 ∧ yX1_close.cls ≠ "java/lang/invoke/MethodHandle" ∧ yX1_close.cls ≠ "java/lang/invoke/VarHandle" ∧ (parseMethodDescriptor yX1_close.desc).map (fun d => d.parameters.length) = some 0 := by decide +kernel
theorem hdV_X1_turnSign : yX1_turnSign.cls = RX1 ∧ yX1_turnSign.cls ≠ "java/lang/invoke/MethodHandle" ∧ yX1_turnSign.cls ≠ "java/lang/invoke/VarHandle" ∧ (parseMethodDescriptor yX1_turnSign.desc).map (fun d => d.parameters.length) = some 1 := by decide +kernel
theorem hdV_X1_openAggregate : yX1_openAggregate.cls = RX1 ∧ yX1_openAggregate.cls ≠ "java/lang/invoke/MethodHandle" ∧ yX1_openAggregate.cls ≠ "java/lang/invoke/VarHandle" ∧ (parseMethodDescriptor yX1_openAggregate.desc).map (fun d => d.parameters.length) = some 3 := by decide +kernel
theorem hdV_X1_turnNumber : yX1_turnNumber.cls = RX1 ∧ yX1_turnNumber.cls ≠ "java/lang/invoke/MethodHandle" ∧ yX1_turnNumber.cls ≠ "java/lang/invoke/VarHandle" ∧ (parseMethodDescriptor yX1_turnNumber.desc).map (fun d => d.parameters.length) = some 3 := by decide +kernel
theorem hdV_X1_turnPart : yX1_turnPart.cls = RX1 ∧ yX1_turnPart.cls ≠ "java/lang/invoke/MethodHandle" ∧ yX1_turnPart.cls ≠ "java/lang/invoke/VarHandle" ∧ (parseMethodDescriptor yX1_turnPart.desc).map (fun d => d.parameters.length) = some 3 := by decide +kernel
theorem hdV_X2_putInOrder : yX2_putInOrder.cls = RX2 ∧ yX2_putInOrder.cls ≠ "java/lang/invoke/MethodHandle" ∧ yX2_putInOrder.cls ≠ "java/lang/invoke/VarHandle" ∧ (parseMethodDescriptor yX2_putInOrder.desc).map (fun d => d.parameters.length) = some 2 := by decide +kernel
theorem hdS_X10_isComparison : yX10_isComparison.cls ≠ "java/lang/invoke/MethodHandle" ∧ yX10_isComparison.cls ≠ "java/lang/invoke/VarHandle" ∧ (parseMethodDescriptor yX10_isComparison.desc).map (fun d => d.parameters.length) = some 1 := by decide +kernel
theorem hdV_X7_pull : yX7_pull.cls = RX7 ∧ yX7_pull.cls ≠ "java/lang/invoke/MethodHandle" ∧ yX7_pull.cls ≠ "java/lang/invoke/VarHandle" ∧ (parseMethodDescriptor yX7_pull.desc).map (fun d => d.parameters.length) = some 0 := by decide +kernel
theorem hdV_X7_push : yX7_push.cls = RX7 ∧ yX7_push.cls ≠ "java/lang/invoke/MethodHandle" ∧ yX7_push.cls ≠ "java/lang/invoke/VarHandle" ∧ (parseMethodDescriptor yX7_push.desc).map (fun d => d.parameters.length) = some 1 := by decide +kernel
theorem hdS_X10_combined : yX10_combined.cls ≠ "java/lang/invoke/MethodHandle" ∧ yX10_combined.cls ≠ "java/lang/invoke/VarHandle" ∧ (parseMethodDescriptor yX10_combined.desc).map (fun d => d.parameters.length) = some 3 := by decide +kernel
theorem hdV_X2_fieldOf : yX2_fieldOf.cls = RX2 ∧ yX2_fieldOf.cls ≠ "java/lang/invoke/MethodHandle" ∧ yX2_fieldOf.cls ≠ "java/lang/invoke/VarHandle" ∧ (parseMethodDescriptor yX2_fieldOf.desc).map (fun d => d.parameters.length) = some 2 := by decide +kernel
theorem hdV_X7_step : yX7_step.cls = RX7 ∧ yX7_step.cls ≠ "java/lang/invoke/MethodHandle" ∧ yX7_step.cls ≠ "java/lang/invoke/VarHandle" ∧ (parseMethodDescriptor yX7_step.desc).map (fun d => d.parameters.length) = some 4 := by decide +kernel
theorem hdV_X8_clear : yX8_clear.cls = RX8 ∧ yX8_clear.cls ≠ "java/lang/invoke/MethodHandle" ∧ yX8_clear.cls ≠ "java/lang/invoke/VarHandle" ∧ (parseMethodDescriptor yX8_clear.desc).map (fun d => d.parameters.length) = some 0 := by decide +kernel
theorem hdV_X8_mostOften : yX8_mostOften.cls = RX8 ∧ yX8_mostOften.cls ≠ "java/lang/invoke/MethodHandle" ∧ yX8_mostOften.cls ≠ "java/lang/invoke/VarHandle" ∧ (parseMethodDescriptor yX8_mostOften.desc).map (fun d => d.parameters.length) = some 0 := by decide +kernel
theorem hdV_X8_result : yX8_result.cls = RX8 ∧ yX8_result.cls ≠ "java/lang/invoke/MethodHandle" ∧ yX8_result.cls ≠ "java/lang/invoke/VarHandle" ∧ (parseMethodDescriptor yX8_result.desc).map (fun d => d.parameters.length) = some 1 := by decide +kernel
theorem hdV_X8_add : yX8_add.cls = RX8 ∧ yX8_add.cls ≠ "java/lang/invoke/MethodHandle" ∧ yX8_add.cls ≠ "java/lang/invoke/VarHandle" ∧ (parseMethodDescriptor yX8_add.desc).map (fun d => d.parameters.length) = some 1 := by decide +kernel
theorem hdV_X7_holds : yX7_holds.cls = RX7 ∧ yX7_holds.cls ≠ "java/lang/invoke/MethodHandle" ∧ yX7_holds.cls ≠ "java/lang/invoke/VarHandle" ∧ (parseMethodDescriptor yX7_holds.desc).map (fun d => d.parameters.length) = some 5 := by decide +kernel
theorem hdV_X7_gather : yX7_gather.cls = RX7 ∧ yX7_gather.cls ≠ "java/lang/invoke/MethodHandle" ∧ yX7_gather.cls ≠ "java/lang/invoke/VarHandle" ∧ (parseMethodDescriptor yX7_gather.desc).map (fun d => d.parameters.length) = some 3 := by decide +kernel
section CE
variable {D : DD} {B : Nat} {σ : St}
theorem ce_0 : (cells D B true σ)[0]? = some (.inr (10, [.ref (B + 1), .int (gI σ 1), .int (gI σ 2), .ref (B + 2), .int (gI σ 4), .ref (B + 3), .ref (B + 12), .ref (B + 18), .ref (B + 24), .ref (B + 26), .ref (B + 30), .ref (B + 34)])) := rfl
theorem ce_1 : (cells D B true σ)[1]? = some (.inl (D.2 0, 40, .inl (gA σ 1))) := rfl
theorem ce_2 : (cells D B true σ)[2]? = some (.inl (D.2 4, 4, .inr (.inr (.inr (.inr (fun j => (gQ σ 2 j).map (B + ·))))))) := rfl
theorem ce_3 : (cells D B true σ)[3]? = some (.inr (2, [.ref (B + 4), .ref (B + 5), .ref (B + 6), .ref (B + 7), .ref (B + 8), .ref (B + 9), .ref (B + 10), .ref (B + 11), .int (gI σ 200), .int (gI σ 201)])) := rfl
theorem ce_4 : (cells D B true σ)[4]? = some (.inl (D.2 1, 100, .inl (gA σ 4))) := rfl
theorem ce_5 : (cells D B true σ)[5]? = some (.inl (D.2 1, 100, .inl (gA σ 5))) := rfl
theorem ce_6 : (cells D B true σ)[6]? = some (.inl (D.2 1, 100, .inl (gA σ 6))) := rfl
theorem ce_7 : (cells D B true σ)[7]? = some (.inl (D.2 1, 100, .inl (gA σ 7))) := rfl
theorem ce_8 : (cells D B true σ)[8]? = some (.inl (D.2 1, 100, .inl (gA σ 8))) := rfl
theorem ce_9 : (cells D B true σ)[9]? = some (.inl (D.2 1, 100, .inl (gA σ 9))) := rfl
theorem ce_10 : (cells D B true σ)[10]? = some (.inl (D.2 1, 1002, .inl (gA σ 10))) := rfl
theorem ce_11 : (cells D B true σ)[11]? = some (.inl (D.2 1, 100, .inl (gA σ 11))) := rfl
theorem ce_12 : (cells D B true σ)[12]? = some (.inr (5, [.int (gI σ 768), .ref (B + 13), .ref (B + 14), .ref (B + 15), .ref (B + 16), .ref (B + 17), .int (gI σ 774)])) := rfl
theorem ce_13 : (cells D B true σ)[13]? = some (.inl (D.2 1, 126, .inl (gA σ 13))) := rfl
theorem ce_14 : (cells D B true σ)[14]? = some (.inl (D.2 1, 126, .inl (gA σ 14))) := rfl
theorem ce_15 : (cells D B true σ)[15]? = some (.inl (D.2 1, 126, .inl (gA σ 15))) := rfl
theorem ce_16 : (cells D B true σ)[16]? = some (.inl (D.2 1, 4000, .inl (gA σ 16))) := rfl
theorem ce_17 : (cells D B true σ)[17]? = some (.inl (D.2 1, 4000, .inl (gA σ 17))) := rfl
theorem ce_18 : (cells D B true σ)[18]? = some (.inr (0, [.ref (B + 19), .ref (B + 20), .ref (B + 21), .ref (B + 22), .ref (B + 23), .int (gI σ 1157), .int (gI σ 1158)])) := rfl
theorem ce_19 : (cells D B true σ)[19]? = some (.inl (D.2 1, 4000, .inl (gA σ 19))) := rfl
theorem ce_20 : (cells D B true σ)[20]? = some (.inl (D.2 1, 4000, .inl (gA σ 20))) := rfl
theorem ce_21 : (cells D B true σ)[21]? = some (.inl (D.2 1, 4000, .inl (gA σ 21))) := rfl
theorem ce_22 : (cells D B true σ)[22]? = some (.inl (D.2 1, 4000, .inl (gA σ 22))) := rfl
theorem ce_23 : (cells D B true σ)[23]? = some (.inl (D.2 3, 4000, .inl (gA σ 23))) := rfl
theorem ce_24 : (cells D B true σ)[24]? = some (.inr (4, [rfB B (gR σ 1536), .int (gI σ 1537), .int (gI σ 1538)])) := rfl
theorem ce_25 : (cells D B true σ)[25]? = some (.inl (D.2 0, 0, .inl (gA σ 25))) := rfl
theorem ce_26 : (cells D B true σ)[26]? = some (.inr (1, [.ref (B + 27), .int (gI σ 1665), .ref (B + 28), .ref (B + 29), .int (gI σ 1668), .int (gI σ 1669)])) := rfl
theorem ce_27 : (cells D B true σ)[27]? = some (.inl (D.2 1, 80, .inl (gA σ 27))) := rfl
theorem ce_28 : (cells D B true σ)[28]? = some (.inl (D.2 1, 40, .inl (gA σ 28))) := rfl
theorem ce_29 : (cells D B true σ)[29]? = some (.inl (D.2 1, 40, .inl (gA σ 29))) := rfl
theorem ce_30 : (cells D B true σ)[30]? = some (.inr (9, [.ref (B + 31)])) := rfl
theorem ce_31 : (cells D B true σ)[31]? = some (.inr (8, [.ref (B + 32), .int (gI σ 1985), .long (gL σ 1986), .int (gI σ 1987), .int (gI σ 1988), .int (gI σ 1989), .ref (B + 33)])) := rfl
theorem ce_32 : (cells D B true σ)[32]? = some (.inl (D.2 1, 100, .inl (gA σ 32))) := rfl
theorem ce_33 : (cells D B true σ)[33]? = some (.inl (D.2 1, 2001, .inl (gA σ 33))) := rfl
theorem ce_34 : (cells D B true σ)[34]? = some (.inr (7, [.ref (B + 35), .ref (B + 38), .int (gI σ 2178)])) := rfl
theorem ce_35 : (cells D B true σ)[35]? = some (.inr (8, [.ref (B + 36), .int (gI σ 2241), .long (gL σ 2242), .int (gI σ 2243), .int (gI σ 2244), .int (gI σ 2245), .ref (B + 37)])) := rfl
theorem ce_36 : (cells D B true σ)[36]? = some (.inl (D.2 1, 100, .inl (gA σ 36))) := rfl
theorem ce_37 : (cells D B true σ)[37]? = some (.inl (D.2 1, 2001, .inl (gA σ 37))) := rfl
theorem ce_38 : (cells D B true σ)[38]? = some (.inl (D.2 2, 40, .inr (.inl (gJ σ 38)))) := rfl
theorem ce_39 : (cells D B true σ)[39]? = some (.inr (11, [.ref (B + 40), .int (gI σ 2497), .ref (B + 41), .ref (B + 42), .ref (B + 43), .ref (B + 44), .ref (B + 45), .ref (B + 46), .int (gI σ 2504), .int (gI σ 2505), .int (gI σ 2506), .int (gI σ 2507), .int (gI σ 2508), .int (gI σ 2509), .int (gI σ 2510), .int (gI σ 2511), .int (gI σ 2512), .int (gI σ 2513), .ref (B + 47), .int (gI σ 2515), .ref (B + 48), .int (gI σ 2517), .int (gI σ 2518), .int (gI σ 2519), .ref (B + 49), .ref (B + 50), .int (gI σ 2522), .ref (B + 51), .int (gI σ 2524), .int (gI σ 2525), .int (gI σ 2526), .int (gI σ 2527), .ref (B + 52), .ref (B + 53), .ref (B + 54), .ref (B + 55), .int (gI σ 2532), .ref (B + 56), .ref (B + 57), .ref (B + 58), .int (gI σ 2536), .ref (B + 59), .ref (B + 60), .ref (B + 61), .ref (B + 62), .ref (B + 63), .ref (B + 64), .ref (B + 65), .ref (B + 66), .ref (B + 67), .int (gI σ 2546), .ref (B + 68), .int (gI σ 2548), .ref (B + 69), .int (gI σ 2550), .int (gI σ 2551)])) := rfl
theorem ce_40 : (cells D B true σ)[40]? = some (.inl (D.2 1, 40, .inl (gA σ 40))) := rfl
theorem ce_41 : (cells D B true σ)[41]? = some (.inl (D.2 1, 320, .inl (gA σ 41))) := rfl
theorem ce_42 : (cells D B true σ)[42]? = some (.inl (D.2 1, 320, .inl (gA σ 42))) := rfl
theorem ce_43 : (cells D B true σ)[43]? = some (.inl (D.2 1, 5, .inl (gA σ 43))) := rfl
theorem ce_44 : (cells D B true σ)[44]? = some (.inl (D.2 1, 320, .inl (gA σ 44))) := rfl
theorem ce_45 : (cells D B true σ)[45]? = some (.inl (D.2 1, 320, .inl (gA σ 45))) := rfl
theorem ce_46 : (cells D B true σ)[46]? = some (.inl (D.2 1, 5, .inl (gA σ 46))) := rfl
theorem ce_47 : (cells D B true σ)[47]? = some (.inl (D.2 1, 64, .inl (gA σ 47))) := rfl
theorem ce_48 : (cells D B true σ)[48]? = some (.inl (D.2 1, 64, .inl (gA σ 48))) := rfl
theorem ce_49 : (cells D B true σ)[49]? = some (.inl (D.2 3, 64, .inl (gA σ 49))) := rfl
theorem ce_50 : (cells D B true σ)[50]? = some (.inl (D.2 2, 64, .inr (.inl (gJ σ 50)))) := rfl
theorem ce_51 : (cells D B true σ)[51]? = some (.inl (D.2 3, 64, .inl (gA σ 51))) := rfl
theorem ce_52 : (cells D B true σ)[52]? = some (.inl (D.2 1, 100, .inl (gA σ 52))) := rfl
theorem ce_53 : (cells D B true σ)[53]? = some (.inl (D.2 1, 100, .inl (gA σ 53))) := rfl
theorem ce_54 : (cells D B true σ)[54]? = some (.inl (D.2 1, 100, .inl (gA σ 54))) := rfl
theorem ce_55 : (cells D B true σ)[55]? = some (.inl (D.2 1, 100, .inl (gA σ 55))) := rfl
theorem ce_56 : (cells D B true σ)[56]? = some (.inl (D.2 3, 1008, .inl (gA σ 56))) := rfl
theorem ce_57 : (cells D B true σ)[57]? = some (.inl (D.2 1, 126, .inl (gA σ 57))) := rfl
theorem ce_58 : (cells D B true σ)[58]? = some (.inl (D.2 1, 126, .inl (gA σ 58))) := rfl
theorem ce_59 : (cells D B true σ)[59]? = some (.inl (D.2 1, 4, .inl (gA σ 59))) := rfl
theorem ce_60 : (cells D B true σ)[60]? = some (.inl (D.2 1, 4, .inl (gA σ 60))) := rfl
theorem ce_61 : (cells D B true σ)[61]? = some (.inl (D.2 1, 4, .inl (gA σ 61))) := rfl
theorem ce_62 : (cells D B true σ)[62]? = some (.inl (D.2 3, 4, .inl (gA σ 62))) := rfl
theorem ce_63 : (cells D B true σ)[63]? = some (.inl (D.2 1, 4, .inl (gA σ 63))) := rfl
theorem ce_64 : (cells D B true σ)[64]? = some (.inl (D.2 1, 4, .inl (gA σ 64))) := rfl
theorem ce_65 : (cells D B true σ)[65]? = some (.inl (D.2 1, 4, .inl (gA σ 65))) := rfl
theorem ce_66 : (cells D B true σ)[66]? = some (.inl (D.2 1, 20, .inl (gA σ 66))) := rfl
theorem ce_67 : (cells D B true σ)[67]? = some (.inl (D.2 1, 20, .inl (gA σ 67))) := rfl
theorem ce_68 : (cells D B true σ)[68]? = some (.inl (D.2 1, 4000, .inl (gA σ 68))) := rfl
theorem ce_69 : (cells D B true σ)[69]? = some (.inl (D.2 1, 4000, .inl (gA σ 69))) := rfl
theorem ce_70 : (cells D B true σ)[70]? = some (.inl (D.2 2, 1, .inr (.inl (gJ σ 70)))) := rfl
theorem cp_1 (x : Int32) : cells D B true (sI σ 1 x) = (cells D B true σ).set 0 (.inr (10, ([.ref (B + 1), .int (gI σ 1), .int (gI σ 2), .ref (B + 2), .int (gI σ 4), .ref (B + 3), .ref (B + 12), .ref (B + 18), .ref (B + 24), .ref (B + 26), .ref (B + 30), .ref (B + 34)] : List Value).set 1 (.int x))) := rfl
theorem cp_2 (x : Int32) : cells D B true (sI σ 2 x) = (cells D B true σ).set 0 (.inr (10, ([.ref (B + 1), .int (gI σ 1), .int (gI σ 2), .ref (B + 2), .int (gI σ 4), .ref (B + 3), .ref (B + 12), .ref (B + 18), .ref (B + 24), .ref (B + 26), .ref (B + 30), .ref (B + 34)] : List Value).set 2 (.int x))) := rfl
theorem cp_200 (x : Int32) : cells D B true (sI σ 200 x) = (cells D B true σ).set 3 (.inr (2, ([.ref (B + 4), .ref (B + 5), .ref (B + 6), .ref (B + 7), .ref (B + 8), .ref (B + 9), .ref (B + 10), .ref (B + 11), .int (gI σ 200), .int (gI σ 201)] : List Value).set 8 (.int x))) := rfl
theorem cp_201 (x : Int32) : cells D B true (sI σ 201 x) = (cells D B true σ).set 3 (.inr (2, ([.ref (B + 4), .ref (B + 5), .ref (B + 6), .ref (B + 7), .ref (B + 8), .ref (B + 9), .ref (B + 10), .ref (B + 11), .int (gI σ 200), .int (gI σ 201)] : List Value).set 9 (.int x))) := rfl
theorem cp_768 (x : Int32) : cells D B true (sI σ 768 x) = (cells D B true σ).set 12 (.inr (5, ([.int (gI σ 768), .ref (B + 13), .ref (B + 14), .ref (B + 15), .ref (B + 16), .ref (B + 17), .int (gI σ 774)] : List Value).set 0 (.int x))) := rfl
theorem cp_774 (x : Int32) : cells D B true (sI σ 774 x) = (cells D B true σ).set 12 (.inr (5, ([.int (gI σ 768), .ref (B + 13), .ref (B + 14), .ref (B + 15), .ref (B + 16), .ref (B + 17), .int (gI σ 774)] : List Value).set 6 (.int x))) := rfl
theorem cp_1157 (x : Int32) : cells D B true (sI σ 1157 x) = (cells D B true σ).set 18 (.inr (0, ([.ref (B + 19), .ref (B + 20), .ref (B + 21), .ref (B + 22), .ref (B + 23), .int (gI σ 1157), .int (gI σ 1158)] : List Value).set 5 (.int x))) := rfl
theorem cp_1158 (x : Int32) : cells D B true (sI σ 1158 x) = (cells D B true σ).set 18 (.inr (0, ([.ref (B + 19), .ref (B + 20), .ref (B + 21), .ref (B + 22), .ref (B + 23), .int (gI σ 1157), .int (gI σ 1158)] : List Value).set 6 (.int x))) := rfl
theorem cp_1536 (x : Option Nat) : cells D B true (sR σ 1536 x) = (cells D B true σ).set 24 (.inr (4, ([rfB B (gR σ 1536), .int (gI σ 1537), .int (gI σ 1538)] : List Value).set 0 (rfB B x))) := rfl
theorem cp_1537 (x : Int32) : cells D B true (sI σ 1537 x) = (cells D B true σ).set 24 (.inr (4, ([rfB B (gR σ 1536), .int (gI σ 1537), .int (gI σ 1538)] : List Value).set 1 (.int x))) := rfl
theorem cp_1538 (x : Int32) : cells D B true (sI σ 1538 x) = (cells D B true σ).set 24 (.inr (4, ([rfB B (gR σ 1536), .int (gI σ 1537), .int (gI σ 1538)] : List Value).set 2 (.int x))) := rfl
theorem cp_1665 (x : Int32) : cells D B true (sI σ 1665 x) = (cells D B true σ).set 26 (.inr (1, ([.ref (B + 27), .int (gI σ 1665), .ref (B + 28), .ref (B + 29), .int (gI σ 1668), .int (gI σ 1669)] : List Value).set 1 (.int x))) := rfl
theorem cp_1668 (x : Int32) : cells D B true (sI σ 1668 x) = (cells D B true σ).set 26 (.inr (1, ([.ref (B + 27), .int (gI σ 1665), .ref (B + 28), .ref (B + 29), .int (gI σ 1668), .int (gI σ 1669)] : List Value).set 4 (.int x))) := rfl
theorem cp_1669 (x : Int32) : cells D B true (sI σ 1669 x) = (cells D B true σ).set 26 (.inr (1, ([.ref (B + 27), .int (gI σ 1665), .ref (B + 28), .ref (B + 29), .int (gI σ 1668), .int (gI σ 1669)] : List Value).set 5 (.int x))) := rfl
theorem cp_1985 (x : Int32) : cells D B true (sI σ 1985 x) = (cells D B true σ).set 31 (.inr (8, ([.ref (B + 32), .int (gI σ 1985), .long (gL σ 1986), .int (gI σ 1987), .int (gI σ 1988), .int (gI σ 1989), .ref (B + 33)] : List Value).set 1 (.int x))) := rfl
theorem cp_1986 (x : Int64) : cells D B true (sL σ 1986 x) = (cells D B true σ).set 31 (.inr (8, ([.ref (B + 32), .int (gI σ 1985), .long (gL σ 1986), .int (gI σ 1987), .int (gI σ 1988), .int (gI σ 1989), .ref (B + 33)] : List Value).set 2 (.long x))) := rfl
theorem cp_1987 (x : Int32) : cells D B true (sI σ 1987 x) = (cells D B true σ).set 31 (.inr (8, ([.ref (B + 32), .int (gI σ 1985), .long (gL σ 1986), .int (gI σ 1987), .int (gI σ 1988), .int (gI σ 1989), .ref (B + 33)] : List Value).set 3 (.int x))) := rfl
theorem cp_1988 (x : Int32) : cells D B true (sI σ 1988 x) = (cells D B true σ).set 31 (.inr (8, ([.ref (B + 32), .int (gI σ 1985), .long (gL σ 1986), .int (gI σ 1987), .int (gI σ 1988), .int (gI σ 1989), .ref (B + 33)] : List Value).set 4 (.int x))) := rfl
theorem cp_1989 (x : Int32) : cells D B true (sI σ 1989 x) = (cells D B true σ).set 31 (.inr (8, ([.ref (B + 32), .int (gI σ 1985), .long (gL σ 1986), .int (gI σ 1987), .int (gI σ 1988), .int (gI σ 1989), .ref (B + 33)] : List Value).set 5 (.int x))) := rfl
theorem cp_2178 (x : Int32) : cells D B true (sI σ 2178 x) = (cells D B true σ).set 34 (.inr (7, ([.ref (B + 35), .ref (B + 38), .int (gI σ 2178)] : List Value).set 2 (.int x))) := rfl
theorem cp_2241 (x : Int32) : cells D B true (sI σ 2241 x) = (cells D B true σ).set 35 (.inr (8, ([.ref (B + 36), .int (gI σ 2241), .long (gL σ 2242), .int (gI σ 2243), .int (gI σ 2244), .int (gI σ 2245), .ref (B + 37)] : List Value).set 1 (.int x))) := rfl
theorem cp_2242 (x : Int64) : cells D B true (sL σ 2242 x) = (cells D B true σ).set 35 (.inr (8, ([.ref (B + 36), .int (gI σ 2241), .long (gL σ 2242), .int (gI σ 2243), .int (gI σ 2244), .int (gI σ 2245), .ref (B + 37)] : List Value).set 2 (.long x))) := rfl
theorem cp_2243 (x : Int32) : cells D B true (sI σ 2243 x) = (cells D B true σ).set 35 (.inr (8, ([.ref (B + 36), .int (gI σ 2241), .long (gL σ 2242), .int (gI σ 2243), .int (gI σ 2244), .int (gI σ 2245), .ref (B + 37)] : List Value).set 3 (.int x))) := rfl
theorem cp_2244 (x : Int32) : cells D B true (sI σ 2244 x) = (cells D B true σ).set 35 (.inr (8, ([.ref (B + 36), .int (gI σ 2241), .long (gL σ 2242), .int (gI σ 2243), .int (gI σ 2244), .int (gI σ 2245), .ref (B + 37)] : List Value).set 4 (.int x))) := rfl
theorem cp_2245 (x : Int32) : cells D B true (sI σ 2245 x) = (cells D B true σ).set 35 (.inr (8, ([.ref (B + 36), .int (gI σ 2241), .long (gL σ 2242), .int (gI σ 2243), .int (gI σ 2244), .int (gI σ 2245), .ref (B + 37)] : List Value).set 5 (.int x))) := rfl
theorem cp_2497 (x : Int32) : cells D B true (sI σ 2497 x) = (cells D B true σ).set 39 (.inr (11, ([.ref (B + 40), .int (gI σ 2497), .ref (B + 41), .ref (B + 42), .ref (B + 43), .ref (B + 44), .ref (B + 45), .ref (B + 46), .int (gI σ 2504), .int (gI σ 2505), .int (gI σ 2506), .int (gI σ 2507), .int (gI σ 2508), .int (gI σ 2509), .int (gI σ 2510), .int (gI σ 2511), .int (gI σ 2512), .int (gI σ 2513), .ref (B + 47), .int (gI σ 2515), .ref (B + 48), .int (gI σ 2517), .int (gI σ 2518), .int (gI σ 2519), .ref (B + 49), .ref (B + 50), .int (gI σ 2522), .ref (B + 51), .int (gI σ 2524), .int (gI σ 2525), .int (gI σ 2526), .int (gI σ 2527), .ref (B + 52), .ref (B + 53), .ref (B + 54), .ref (B + 55), .int (gI σ 2532), .ref (B + 56), .ref (B + 57), .ref (B + 58), .int (gI σ 2536), .ref (B + 59), .ref (B + 60), .ref (B + 61), .ref (B + 62), .ref (B + 63), .ref (B + 64), .ref (B + 65), .ref (B + 66), .ref (B + 67), .int (gI σ 2546), .ref (B + 68), .int (gI σ 2548), .ref (B + 69), .int (gI σ 2550), .int (gI σ 2551)] : List Value).set 1 (.int x))) := rfl
theorem cp_2504 (x : Int32) : cells D B true (sI σ 2504 x) = (cells D B true σ).set 39 (.inr (11, ([.ref (B + 40), .int (gI σ 2497), .ref (B + 41), .ref (B + 42), .ref (B + 43), .ref (B + 44), .ref (B + 45), .ref (B + 46), .int (gI σ 2504), .int (gI σ 2505), .int (gI σ 2506), .int (gI σ 2507), .int (gI σ 2508), .int (gI σ 2509), .int (gI σ 2510), .int (gI σ 2511), .int (gI σ 2512), .int (gI σ 2513), .ref (B + 47), .int (gI σ 2515), .ref (B + 48), .int (gI σ 2517), .int (gI σ 2518), .int (gI σ 2519), .ref (B + 49), .ref (B + 50), .int (gI σ 2522), .ref (B + 51), .int (gI σ 2524), .int (gI σ 2525), .int (gI σ 2526), .int (gI σ 2527), .ref (B + 52), .ref (B + 53), .ref (B + 54), .ref (B + 55), .int (gI σ 2532), .ref (B + 56), .ref (B + 57), .ref (B + 58), .int (gI σ 2536), .ref (B + 59), .ref (B + 60), .ref (B + 61), .ref (B + 62), .ref (B + 63), .ref (B + 64), .ref (B + 65), .ref (B + 66), .ref (B + 67), .int (gI σ 2546), .ref (B + 68), .int (gI σ 2548), .ref (B + 69), .int (gI σ 2550), .int (gI σ 2551)] : List Value).set 8 (.int x))) := rfl
theorem cp_2505 (x : Int32) : cells D B true (sI σ 2505 x) = (cells D B true σ).set 39 (.inr (11, ([.ref (B + 40), .int (gI σ 2497), .ref (B + 41), .ref (B + 42), .ref (B + 43), .ref (B + 44), .ref (B + 45), .ref (B + 46), .int (gI σ 2504), .int (gI σ 2505), .int (gI σ 2506), .int (gI σ 2507), .int (gI σ 2508), .int (gI σ 2509), .int (gI σ 2510), .int (gI σ 2511), .int (gI σ 2512), .int (gI σ 2513), .ref (B + 47), .int (gI σ 2515), .ref (B + 48), .int (gI σ 2517), .int (gI σ 2518), .int (gI σ 2519), .ref (B + 49), .ref (B + 50), .int (gI σ 2522), .ref (B + 51), .int (gI σ 2524), .int (gI σ 2525), .int (gI σ 2526), .int (gI σ 2527), .ref (B + 52), .ref (B + 53), .ref (B + 54), .ref (B + 55), .int (gI σ 2532), .ref (B + 56), .ref (B + 57), .ref (B + 58), .int (gI σ 2536), .ref (B + 59), .ref (B + 60), .ref (B + 61), .ref (B + 62), .ref (B + 63), .ref (B + 64), .ref (B + 65), .ref (B + 66), .ref (B + 67), .int (gI σ 2546), .ref (B + 68), .int (gI σ 2548), .ref (B + 69), .int (gI σ 2550), .int (gI σ 2551)] : List Value).set 9 (.int x))) := rfl
theorem cp_2506 (x : Int32) : cells D B true (sI σ 2506 x) = (cells D B true σ).set 39 (.inr (11, ([.ref (B + 40), .int (gI σ 2497), .ref (B + 41), .ref (B + 42), .ref (B + 43), .ref (B + 44), .ref (B + 45), .ref (B + 46), .int (gI σ 2504), .int (gI σ 2505), .int (gI σ 2506), .int (gI σ 2507), .int (gI σ 2508), .int (gI σ 2509), .int (gI σ 2510), .int (gI σ 2511), .int (gI σ 2512), .int (gI σ 2513), .ref (B + 47), .int (gI σ 2515), .ref (B + 48), .int (gI σ 2517), .int (gI σ 2518), .int (gI σ 2519), .ref (B + 49), .ref (B + 50), .int (gI σ 2522), .ref (B + 51), .int (gI σ 2524), .int (gI σ 2525), .int (gI σ 2526), .int (gI σ 2527), .ref (B + 52), .ref (B + 53), .ref (B + 54), .ref (B + 55), .int (gI σ 2532), .ref (B + 56), .ref (B + 57), .ref (B + 58), .int (gI σ 2536), .ref (B + 59), .ref (B + 60), .ref (B + 61), .ref (B + 62), .ref (B + 63), .ref (B + 64), .ref (B + 65), .ref (B + 66), .ref (B + 67), .int (gI σ 2546), .ref (B + 68), .int (gI σ 2548), .ref (B + 69), .int (gI σ 2550), .int (gI σ 2551)] : List Value).set 10 (.int x))) := rfl
theorem cp_2507 (x : Int32) : cells D B true (sI σ 2507 x) = (cells D B true σ).set 39 (.inr (11, ([.ref (B + 40), .int (gI σ 2497), .ref (B + 41), .ref (B + 42), .ref (B + 43), .ref (B + 44), .ref (B + 45), .ref (B + 46), .int (gI σ 2504), .int (gI σ 2505), .int (gI σ 2506), .int (gI σ 2507), .int (gI σ 2508), .int (gI σ 2509), .int (gI σ 2510), .int (gI σ 2511), .int (gI σ 2512), .int (gI σ 2513), .ref (B + 47), .int (gI σ 2515), .ref (B + 48), .int (gI σ 2517), .int (gI σ 2518), .int (gI σ 2519), .ref (B + 49), .ref (B + 50), .int (gI σ 2522), .ref (B + 51), .int (gI σ 2524), .int (gI σ 2525), .int (gI σ 2526), .int (gI σ 2527), .ref (B + 52), .ref (B + 53), .ref (B + 54), .ref (B + 55), .int (gI σ 2532), .ref (B + 56), .ref (B + 57), .ref (B + 58), .int (gI σ 2536), .ref (B + 59), .ref (B + 60), .ref (B + 61), .ref (B + 62), .ref (B + 63), .ref (B + 64), .ref (B + 65), .ref (B + 66), .ref (B + 67), .int (gI σ 2546), .ref (B + 68), .int (gI σ 2548), .ref (B + 69), .int (gI σ 2550), .int (gI σ 2551)] : List Value).set 11 (.int x))) := rfl
theorem cp_2508 (x : Int32) : cells D B true (sI σ 2508 x) = (cells D B true σ).set 39 (.inr (11, ([.ref (B + 40), .int (gI σ 2497), .ref (B + 41), .ref (B + 42), .ref (B + 43), .ref (B + 44), .ref (B + 45), .ref (B + 46), .int (gI σ 2504), .int (gI σ 2505), .int (gI σ 2506), .int (gI σ 2507), .int (gI σ 2508), .int (gI σ 2509), .int (gI σ 2510), .int (gI σ 2511), .int (gI σ 2512), .int (gI σ 2513), .ref (B + 47), .int (gI σ 2515), .ref (B + 48), .int (gI σ 2517), .int (gI σ 2518), .int (gI σ 2519), .ref (B + 49), .ref (B + 50), .int (gI σ 2522), .ref (B + 51), .int (gI σ 2524), .int (gI σ 2525), .int (gI σ 2526), .int (gI σ 2527), .ref (B + 52), .ref (B + 53), .ref (B + 54), .ref (B + 55), .int (gI σ 2532), .ref (B + 56), .ref (B + 57), .ref (B + 58), .int (gI σ 2536), .ref (B + 59), .ref (B + 60), .ref (B + 61), .ref (B + 62), .ref (B + 63), .ref (B + 64), .ref (B + 65), .ref (B + 66), .ref (B + 67), .int (gI σ 2546), .ref (B + 68), .int (gI σ 2548), .ref (B + 69), .int (gI σ 2550), .int (gI σ 2551)] : List Value).set 12 (.int x))) := rfl
theorem cp_2509 (x : Int32) : cells D B true (sI σ 2509 x) = (cells D B true σ).set 39 (.inr (11, ([.ref (B + 40), .int (gI σ 2497), .ref (B + 41), .ref (B + 42), .ref (B + 43), .ref (B + 44), .ref (B + 45), .ref (B + 46), .int (gI σ 2504), .int (gI σ 2505), .int (gI σ 2506), .int (gI σ 2507), .int (gI σ 2508), .int (gI σ 2509), .int (gI σ 2510), .int (gI σ 2511), .int (gI σ 2512), .int (gI σ 2513), .ref (B + 47), .int (gI σ 2515), .ref (B + 48), .int (gI σ 2517), .int (gI σ 2518), .int (gI σ 2519), .ref (B + 49), .ref (B + 50), .int (gI σ 2522), .ref (B + 51), .int (gI σ 2524), .int (gI σ 2525), .int (gI σ 2526), .int (gI σ 2527), .ref (B + 52), .ref (B + 53), .ref (B + 54), .ref (B + 55), .int (gI σ 2532), .ref (B + 56), .ref (B + 57), .ref (B + 58), .int (gI σ 2536), .ref (B + 59), .ref (B + 60), .ref (B + 61), .ref (B + 62), .ref (B + 63), .ref (B + 64), .ref (B + 65), .ref (B + 66), .ref (B + 67), .int (gI σ 2546), .ref (B + 68), .int (gI σ 2548), .ref (B + 69), .int (gI σ 2550), .int (gI σ 2551)] : List Value).set 13 (.int x))) := rfl
theorem cp_2510 (x : Int32) : cells D B true (sI σ 2510 x) = (cells D B true σ).set 39 (.inr (11, ([.ref (B + 40), .int (gI σ 2497), .ref (B + 41), .ref (B + 42), .ref (B + 43), .ref (B + 44), .ref (B + 45), .ref (B + 46), .int (gI σ 2504), .int (gI σ 2505), .int (gI σ 2506), .int (gI σ 2507), .int (gI σ 2508), .int (gI σ 2509), .int (gI σ 2510), .int (gI σ 2511), .int (gI σ 2512), .int (gI σ 2513), .ref (B + 47), .int (gI σ 2515), .ref (B + 48), .int (gI σ 2517), .int (gI σ 2518), .int (gI σ 2519), .ref (B + 49), .ref (B + 50), .int (gI σ 2522), .ref (B + 51), .int (gI σ 2524), .int (gI σ 2525), .int (gI σ 2526), .int (gI σ 2527), .ref (B + 52), .ref (B + 53), .ref (B + 54), .ref (B + 55), .int (gI σ 2532), .ref (B + 56), .ref (B + 57), .ref (B + 58), .int (gI σ 2536), .ref (B + 59), .ref (B + 60), .ref (B + 61), .ref (B + 62), .ref (B + 63), .ref (B + 64), .ref (B + 65), .ref (B + 66), .ref (B + 67), .int (gI σ 2546), .ref (B + 68), .int (gI σ 2548), .ref (B + 69), .int (gI σ 2550), .int (gI σ 2551)] : List Value).set 14 (.int x))) := rfl
theorem cp_2511 (x : Int32) : cells D B true (sI σ 2511 x) = (cells D B true σ).set 39 (.inr (11, ([.ref (B + 40), .int (gI σ 2497), .ref (B + 41), .ref (B + 42), .ref (B + 43), .ref (B + 44), .ref (B + 45), .ref (B + 46), .int (gI σ 2504), .int (gI σ 2505), .int (gI σ 2506), .int (gI σ 2507), .int (gI σ 2508), .int (gI σ 2509), .int (gI σ 2510), .int (gI σ 2511), .int (gI σ 2512), .int (gI σ 2513), .ref (B + 47), .int (gI σ 2515), .ref (B + 48), .int (gI σ 2517), .int (gI σ 2518), .int (gI σ 2519), .ref (B + 49), .ref (B + 50), .int (gI σ 2522), .ref (B + 51), .int (gI σ 2524), .int (gI σ 2525), .int (gI σ 2526), .int (gI σ 2527), .ref (B + 52), .ref (B + 53), .ref (B + 54), .ref (B + 55), .int (gI σ 2532), .ref (B + 56), .ref (B + 57), .ref (B + 58), .int (gI σ 2536), .ref (B + 59), .ref (B + 60), .ref (B + 61), .ref (B + 62), .ref (B + 63), .ref (B + 64), .ref (B + 65), .ref (B + 66), .ref (B + 67), .int (gI σ 2546), .ref (B + 68), .int (gI σ 2548), .ref (B + 69), .int (gI σ 2550), .int (gI σ 2551)] : List Value).set 15 (.int x))) := rfl
theorem cp_2512 (x : Int32) : cells D B true (sI σ 2512 x) = (cells D B true σ).set 39 (.inr (11, ([.ref (B + 40), .int (gI σ 2497), .ref (B + 41), .ref (B + 42), .ref (B + 43), .ref (B + 44), .ref (B + 45), .ref (B + 46), .int (gI σ 2504), .int (gI σ 2505), .int (gI σ 2506), .int (gI σ 2507), .int (gI σ 2508), .int (gI σ 2509), .int (gI σ 2510), .int (gI σ 2511), .int (gI σ 2512), .int (gI σ 2513), .ref (B + 47), .int (gI σ 2515), .ref (B + 48), .int (gI σ 2517), .int (gI σ 2518), .int (gI σ 2519), .ref (B + 49), .ref (B + 50), .int (gI σ 2522), .ref (B + 51), .int (gI σ 2524), .int (gI σ 2525), .int (gI σ 2526), .int (gI σ 2527), .ref (B + 52), .ref (B + 53), .ref (B + 54), .ref (B + 55), .int (gI σ 2532), .ref (B + 56), .ref (B + 57), .ref (B + 58), .int (gI σ 2536), .ref (B + 59), .ref (B + 60), .ref (B + 61), .ref (B + 62), .ref (B + 63), .ref (B + 64), .ref (B + 65), .ref (B + 66), .ref (B + 67), .int (gI σ 2546), .ref (B + 68), .int (gI σ 2548), .ref (B + 69), .int (gI σ 2550), .int (gI σ 2551)] : List Value).set 16 (.int x))) := rfl
theorem cp_2513 (x : Int32) : cells D B true (sI σ 2513 x) = (cells D B true σ).set 39 (.inr (11, ([.ref (B + 40), .int (gI σ 2497), .ref (B + 41), .ref (B + 42), .ref (B + 43), .ref (B + 44), .ref (B + 45), .ref (B + 46), .int (gI σ 2504), .int (gI σ 2505), .int (gI σ 2506), .int (gI σ 2507), .int (gI σ 2508), .int (gI σ 2509), .int (gI σ 2510), .int (gI σ 2511), .int (gI σ 2512), .int (gI σ 2513), .ref (B + 47), .int (gI σ 2515), .ref (B + 48), .int (gI σ 2517), .int (gI σ 2518), .int (gI σ 2519), .ref (B + 49), .ref (B + 50), .int (gI σ 2522), .ref (B + 51), .int (gI σ 2524), .int (gI σ 2525), .int (gI σ 2526), .int (gI σ 2527), .ref (B + 52), .ref (B + 53), .ref (B + 54), .ref (B + 55), .int (gI σ 2532), .ref (B + 56), .ref (B + 57), .ref (B + 58), .int (gI σ 2536), .ref (B + 59), .ref (B + 60), .ref (B + 61), .ref (B + 62), .ref (B + 63), .ref (B + 64), .ref (B + 65), .ref (B + 66), .ref (B + 67), .int (gI σ 2546), .ref (B + 68), .int (gI σ 2548), .ref (B + 69), .int (gI σ 2550), .int (gI σ 2551)] : List Value).set 17 (.int x))) := rfl
theorem cp_2515 (x : Int32) : cells D B true (sI σ 2515 x) = (cells D B true σ).set 39 (.inr (11, ([.ref (B + 40), .int (gI σ 2497), .ref (B + 41), .ref (B + 42), .ref (B + 43), .ref (B + 44), .ref (B + 45), .ref (B + 46), .int (gI σ 2504), .int (gI σ 2505), .int (gI σ 2506), .int (gI σ 2507), .int (gI σ 2508), .int (gI σ 2509), .int (gI σ 2510), .int (gI σ 2511), .int (gI σ 2512), .int (gI σ 2513), .ref (B + 47), .int (gI σ 2515), .ref (B + 48), .int (gI σ 2517), .int (gI σ 2518), .int (gI σ 2519), .ref (B + 49), .ref (B + 50), .int (gI σ 2522), .ref (B + 51), .int (gI σ 2524), .int (gI σ 2525), .int (gI σ 2526), .int (gI σ 2527), .ref (B + 52), .ref (B + 53), .ref (B + 54), .ref (B + 55), .int (gI σ 2532), .ref (B + 56), .ref (B + 57), .ref (B + 58), .int (gI σ 2536), .ref (B + 59), .ref (B + 60), .ref (B + 61), .ref (B + 62), .ref (B + 63), .ref (B + 64), .ref (B + 65), .ref (B + 66), .ref (B + 67), .int (gI σ 2546), .ref (B + 68), .int (gI σ 2548), .ref (B + 69), .int (gI σ 2550), .int (gI σ 2551)] : List Value).set 19 (.int x))) := rfl
theorem cp_2517 (x : Int32) : cells D B true (sI σ 2517 x) = (cells D B true σ).set 39 (.inr (11, ([.ref (B + 40), .int (gI σ 2497), .ref (B + 41), .ref (B + 42), .ref (B + 43), .ref (B + 44), .ref (B + 45), .ref (B + 46), .int (gI σ 2504), .int (gI σ 2505), .int (gI σ 2506), .int (gI σ 2507), .int (gI σ 2508), .int (gI σ 2509), .int (gI σ 2510), .int (gI σ 2511), .int (gI σ 2512), .int (gI σ 2513), .ref (B + 47), .int (gI σ 2515), .ref (B + 48), .int (gI σ 2517), .int (gI σ 2518), .int (gI σ 2519), .ref (B + 49), .ref (B + 50), .int (gI σ 2522), .ref (B + 51), .int (gI σ 2524), .int (gI σ 2525), .int (gI σ 2526), .int (gI σ 2527), .ref (B + 52), .ref (B + 53), .ref (B + 54), .ref (B + 55), .int (gI σ 2532), .ref (B + 56), .ref (B + 57), .ref (B + 58), .int (gI σ 2536), .ref (B + 59), .ref (B + 60), .ref (B + 61), .ref (B + 62), .ref (B + 63), .ref (B + 64), .ref (B + 65), .ref (B + 66), .ref (B + 67), .int (gI σ 2546), .ref (B + 68), .int (gI σ 2548), .ref (B + 69), .int (gI σ 2550), .int (gI σ 2551)] : List Value).set 21 (.int x))) := rfl
theorem cp_2518 (x : Int32) : cells D B true (sI σ 2518 x) = (cells D B true σ).set 39 (.inr (11, ([.ref (B + 40), .int (gI σ 2497), .ref (B + 41), .ref (B + 42), .ref (B + 43), .ref (B + 44), .ref (B + 45), .ref (B + 46), .int (gI σ 2504), .int (gI σ 2505), .int (gI σ 2506), .int (gI σ 2507), .int (gI σ 2508), .int (gI σ 2509), .int (gI σ 2510), .int (gI σ 2511), .int (gI σ 2512), .int (gI σ 2513), .ref (B + 47), .int (gI σ 2515), .ref (B + 48), .int (gI σ 2517), .int (gI σ 2518), .int (gI σ 2519), .ref (B + 49), .ref (B + 50), .int (gI σ 2522), .ref (B + 51), .int (gI σ 2524), .int (gI σ 2525), .int (gI σ 2526), .int (gI σ 2527), .ref (B + 52), .ref (B + 53), .ref (B + 54), .ref (B + 55), .int (gI σ 2532), .ref (B + 56), .ref (B + 57), .ref (B + 58), .int (gI σ 2536), .ref (B + 59), .ref (B + 60), .ref (B + 61), .ref (B + 62), .ref (B + 63), .ref (B + 64), .ref (B + 65), .ref (B + 66), .ref (B + 67), .int (gI σ 2546), .ref (B + 68), .int (gI σ 2548), .ref (B + 69), .int (gI σ 2550), .int (gI σ 2551)] : List Value).set 22 (.int x))) := rfl
theorem cp_2519 (x : Int32) : cells D B true (sI σ 2519 x) = (cells D B true σ).set 39 (.inr (11, ([.ref (B + 40), .int (gI σ 2497), .ref (B + 41), .ref (B + 42), .ref (B + 43), .ref (B + 44), .ref (B + 45), .ref (B + 46), .int (gI σ 2504), .int (gI σ 2505), .int (gI σ 2506), .int (gI σ 2507), .int (gI σ 2508), .int (gI σ 2509), .int (gI σ 2510), .int (gI σ 2511), .int (gI σ 2512), .int (gI σ 2513), .ref (B + 47), .int (gI σ 2515), .ref (B + 48), .int (gI σ 2517), .int (gI σ 2518), .int (gI σ 2519), .ref (B + 49), .ref (B + 50), .int (gI σ 2522), .ref (B + 51), .int (gI σ 2524), .int (gI σ 2525), .int (gI σ 2526), .int (gI σ 2527), .ref (B + 52), .ref (B + 53), .ref (B + 54), .ref (B + 55), .int (gI σ 2532), .ref (B + 56), .ref (B + 57), .ref (B + 58), .int (gI σ 2536), .ref (B + 59), .ref (B + 60), .ref (B + 61), .ref (B + 62), .ref (B + 63), .ref (B + 64), .ref (B + 65), .ref (B + 66), .ref (B + 67), .int (gI σ 2546), .ref (B + 68), .int (gI σ 2548), .ref (B + 69), .int (gI σ 2550), .int (gI σ 2551)] : List Value).set 23 (.int x))) := rfl
theorem cp_2522 (x : Int32) : cells D B true (sI σ 2522 x) = (cells D B true σ).set 39 (.inr (11, ([.ref (B + 40), .int (gI σ 2497), .ref (B + 41), .ref (B + 42), .ref (B + 43), .ref (B + 44), .ref (B + 45), .ref (B + 46), .int (gI σ 2504), .int (gI σ 2505), .int (gI σ 2506), .int (gI σ 2507), .int (gI σ 2508), .int (gI σ 2509), .int (gI σ 2510), .int (gI σ 2511), .int (gI σ 2512), .int (gI σ 2513), .ref (B + 47), .int (gI σ 2515), .ref (B + 48), .int (gI σ 2517), .int (gI σ 2518), .int (gI σ 2519), .ref (B + 49), .ref (B + 50), .int (gI σ 2522), .ref (B + 51), .int (gI σ 2524), .int (gI σ 2525), .int (gI σ 2526), .int (gI σ 2527), .ref (B + 52), .ref (B + 53), .ref (B + 54), .ref (B + 55), .int (gI σ 2532), .ref (B + 56), .ref (B + 57), .ref (B + 58), .int (gI σ 2536), .ref (B + 59), .ref (B + 60), .ref (B + 61), .ref (B + 62), .ref (B + 63), .ref (B + 64), .ref (B + 65), .ref (B + 66), .ref (B + 67), .int (gI σ 2546), .ref (B + 68), .int (gI σ 2548), .ref (B + 69), .int (gI σ 2550), .int (gI σ 2551)] : List Value).set 26 (.int x))) := rfl
theorem cp_2524 (x : Int32) : cells D B true (sI σ 2524 x) = (cells D B true σ).set 39 (.inr (11, ([.ref (B + 40), .int (gI σ 2497), .ref (B + 41), .ref (B + 42), .ref (B + 43), .ref (B + 44), .ref (B + 45), .ref (B + 46), .int (gI σ 2504), .int (gI σ 2505), .int (gI σ 2506), .int (gI σ 2507), .int (gI σ 2508), .int (gI σ 2509), .int (gI σ 2510), .int (gI σ 2511), .int (gI σ 2512), .int (gI σ 2513), .ref (B + 47), .int (gI σ 2515), .ref (B + 48), .int (gI σ 2517), .int (gI σ 2518), .int (gI σ 2519), .ref (B + 49), .ref (B + 50), .int (gI σ 2522), .ref (B + 51), .int (gI σ 2524), .int (gI σ 2525), .int (gI σ 2526), .int (gI σ 2527), .ref (B + 52), .ref (B + 53), .ref (B + 54), .ref (B + 55), .int (gI σ 2532), .ref (B + 56), .ref (B + 57), .ref (B + 58), .int (gI σ 2536), .ref (B + 59), .ref (B + 60), .ref (B + 61), .ref (B + 62), .ref (B + 63), .ref (B + 64), .ref (B + 65), .ref (B + 66), .ref (B + 67), .int (gI σ 2546), .ref (B + 68), .int (gI σ 2548), .ref (B + 69), .int (gI σ 2550), .int (gI σ 2551)] : List Value).set 28 (.int x))) := rfl
theorem cp_2525 (x : Int32) : cells D B true (sI σ 2525 x) = (cells D B true σ).set 39 (.inr (11, ([.ref (B + 40), .int (gI σ 2497), .ref (B + 41), .ref (B + 42), .ref (B + 43), .ref (B + 44), .ref (B + 45), .ref (B + 46), .int (gI σ 2504), .int (gI σ 2505), .int (gI σ 2506), .int (gI σ 2507), .int (gI σ 2508), .int (gI σ 2509), .int (gI σ 2510), .int (gI σ 2511), .int (gI σ 2512), .int (gI σ 2513), .ref (B + 47), .int (gI σ 2515), .ref (B + 48), .int (gI σ 2517), .int (gI σ 2518), .int (gI σ 2519), .ref (B + 49), .ref (B + 50), .int (gI σ 2522), .ref (B + 51), .int (gI σ 2524), .int (gI σ 2525), .int (gI σ 2526), .int (gI σ 2527), .ref (B + 52), .ref (B + 53), .ref (B + 54), .ref (B + 55), .int (gI σ 2532), .ref (B + 56), .ref (B + 57), .ref (B + 58), .int (gI σ 2536), .ref (B + 59), .ref (B + 60), .ref (B + 61), .ref (B + 62), .ref (B + 63), .ref (B + 64), .ref (B + 65), .ref (B + 66), .ref (B + 67), .int (gI σ 2546), .ref (B + 68), .int (gI σ 2548), .ref (B + 69), .int (gI σ 2550), .int (gI σ 2551)] : List Value).set 29 (.int x))) := rfl
theorem cp_2526 (x : Int32) : cells D B true (sI σ 2526 x) = (cells D B true σ).set 39 (.inr (11, ([.ref (B + 40), .int (gI σ 2497), .ref (B + 41), .ref (B + 42), .ref (B + 43), .ref (B + 44), .ref (B + 45), .ref (B + 46), .int (gI σ 2504), .int (gI σ 2505), .int (gI σ 2506), .int (gI σ 2507), .int (gI σ 2508), .int (gI σ 2509), .int (gI σ 2510), .int (gI σ 2511), .int (gI σ 2512), .int (gI σ 2513), .ref (B + 47), .int (gI σ 2515), .ref (B + 48), .int (gI σ 2517), .int (gI σ 2518), .int (gI σ 2519), .ref (B + 49), .ref (B + 50), .int (gI σ 2522), .ref (B + 51), .int (gI σ 2524), .int (gI σ 2525), .int (gI σ 2526), .int (gI σ 2527), .ref (B + 52), .ref (B + 53), .ref (B + 54), .ref (B + 55), .int (gI σ 2532), .ref (B + 56), .ref (B + 57), .ref (B + 58), .int (gI σ 2536), .ref (B + 59), .ref (B + 60), .ref (B + 61), .ref (B + 62), .ref (B + 63), .ref (B + 64), .ref (B + 65), .ref (B + 66), .ref (B + 67), .int (gI σ 2546), .ref (B + 68), .int (gI σ 2548), .ref (B + 69), .int (gI σ 2550), .int (gI σ 2551)] : List Value).set 30 (.int x))) := rfl
theorem cp_2527 (x : Int32) : cells D B true (sI σ 2527 x) = (cells D B true σ).set 39 (.inr (11, ([.ref (B + 40), .int (gI σ 2497), .ref (B + 41), .ref (B + 42), .ref (B + 43), .ref (B + 44), .ref (B + 45), .ref (B + 46), .int (gI σ 2504), .int (gI σ 2505), .int (gI σ 2506), .int (gI σ 2507), .int (gI σ 2508), .int (gI σ 2509), .int (gI σ 2510), .int (gI σ 2511), .int (gI σ 2512), .int (gI σ 2513), .ref (B + 47), .int (gI σ 2515), .ref (B + 48), .int (gI σ 2517), .int (gI σ 2518), .int (gI σ 2519), .ref (B + 49), .ref (B + 50), .int (gI σ 2522), .ref (B + 51), .int (gI σ 2524), .int (gI σ 2525), .int (gI σ 2526), .int (gI σ 2527), .ref (B + 52), .ref (B + 53), .ref (B + 54), .ref (B + 55), .int (gI σ 2532), .ref (B + 56), .ref (B + 57), .ref (B + 58), .int (gI σ 2536), .ref (B + 59), .ref (B + 60), .ref (B + 61), .ref (B + 62), .ref (B + 63), .ref (B + 64), .ref (B + 65), .ref (B + 66), .ref (B + 67), .int (gI σ 2546), .ref (B + 68), .int (gI σ 2548), .ref (B + 69), .int (gI σ 2550), .int (gI σ 2551)] : List Value).set 31 (.int x))) := rfl
theorem cp_2532 (x : Int32) : cells D B true (sI σ 2532 x) = (cells D B true σ).set 39 (.inr (11, ([.ref (B + 40), .int (gI σ 2497), .ref (B + 41), .ref (B + 42), .ref (B + 43), .ref (B + 44), .ref (B + 45), .ref (B + 46), .int (gI σ 2504), .int (gI σ 2505), .int (gI σ 2506), .int (gI σ 2507), .int (gI σ 2508), .int (gI σ 2509), .int (gI σ 2510), .int (gI σ 2511), .int (gI σ 2512), .int (gI σ 2513), .ref (B + 47), .int (gI σ 2515), .ref (B + 48), .int (gI σ 2517), .int (gI σ 2518), .int (gI σ 2519), .ref (B + 49), .ref (B + 50), .int (gI σ 2522), .ref (B + 51), .int (gI σ 2524), .int (gI σ 2525), .int (gI σ 2526), .int (gI σ 2527), .ref (B + 52), .ref (B + 53), .ref (B + 54), .ref (B + 55), .int (gI σ 2532), .ref (B + 56), .ref (B + 57), .ref (B + 58), .int (gI σ 2536), .ref (B + 59), .ref (B + 60), .ref (B + 61), .ref (B + 62), .ref (B + 63), .ref (B + 64), .ref (B + 65), .ref (B + 66), .ref (B + 67), .int (gI σ 2546), .ref (B + 68), .int (gI σ 2548), .ref (B + 69), .int (gI σ 2550), .int (gI σ 2551)] : List Value).set 36 (.int x))) := rfl
theorem cp_2536 (x : Int32) : cells D B true (sI σ 2536 x) = (cells D B true σ).set 39 (.inr (11, ([.ref (B + 40), .int (gI σ 2497), .ref (B + 41), .ref (B + 42), .ref (B + 43), .ref (B + 44), .ref (B + 45), .ref (B + 46), .int (gI σ 2504), .int (gI σ 2505), .int (gI σ 2506), .int (gI σ 2507), .int (gI σ 2508), .int (gI σ 2509), .int (gI σ 2510), .int (gI σ 2511), .int (gI σ 2512), .int (gI σ 2513), .ref (B + 47), .int (gI σ 2515), .ref (B + 48), .int (gI σ 2517), .int (gI σ 2518), .int (gI σ 2519), .ref (B + 49), .ref (B + 50), .int (gI σ 2522), .ref (B + 51), .int (gI σ 2524), .int (gI σ 2525), .int (gI σ 2526), .int (gI σ 2527), .ref (B + 52), .ref (B + 53), .ref (B + 54), .ref (B + 55), .int (gI σ 2532), .ref (B + 56), .ref (B + 57), .ref (B + 58), .int (gI σ 2536), .ref (B + 59), .ref (B + 60), .ref (B + 61), .ref (B + 62), .ref (B + 63), .ref (B + 64), .ref (B + 65), .ref (B + 66), .ref (B + 67), .int (gI σ 2546), .ref (B + 68), .int (gI σ 2548), .ref (B + 69), .int (gI σ 2550), .int (gI σ 2551)] : List Value).set 40 (.int x))) := rfl
theorem cp_2546 (x : Int32) : cells D B true (sI σ 2546 x) = (cells D B true σ).set 39 (.inr (11, ([.ref (B + 40), .int (gI σ 2497), .ref (B + 41), .ref (B + 42), .ref (B + 43), .ref (B + 44), .ref (B + 45), .ref (B + 46), .int (gI σ 2504), .int (gI σ 2505), .int (gI σ 2506), .int (gI σ 2507), .int (gI σ 2508), .int (gI σ 2509), .int (gI σ 2510), .int (gI σ 2511), .int (gI σ 2512), .int (gI σ 2513), .ref (B + 47), .int (gI σ 2515), .ref (B + 48), .int (gI σ 2517), .int (gI σ 2518), .int (gI σ 2519), .ref (B + 49), .ref (B + 50), .int (gI σ 2522), .ref (B + 51), .int (gI σ 2524), .int (gI σ 2525), .int (gI σ 2526), .int (gI σ 2527), .ref (B + 52), .ref (B + 53), .ref (B + 54), .ref (B + 55), .int (gI σ 2532), .ref (B + 56), .ref (B + 57), .ref (B + 58), .int (gI σ 2536), .ref (B + 59), .ref (B + 60), .ref (B + 61), .ref (B + 62), .ref (B + 63), .ref (B + 64), .ref (B + 65), .ref (B + 66), .ref (B + 67), .int (gI σ 2546), .ref (B + 68), .int (gI σ 2548), .ref (B + 69), .int (gI σ 2550), .int (gI σ 2551)] : List Value).set 50 (.int x))) := rfl
theorem cp_2548 (x : Int32) : cells D B true (sI σ 2548 x) = (cells D B true σ).set 39 (.inr (11, ([.ref (B + 40), .int (gI σ 2497), .ref (B + 41), .ref (B + 42), .ref (B + 43), .ref (B + 44), .ref (B + 45), .ref (B + 46), .int (gI σ 2504), .int (gI σ 2505), .int (gI σ 2506), .int (gI σ 2507), .int (gI σ 2508), .int (gI σ 2509), .int (gI σ 2510), .int (gI σ 2511), .int (gI σ 2512), .int (gI σ 2513), .ref (B + 47), .int (gI σ 2515), .ref (B + 48), .int (gI σ 2517), .int (gI σ 2518), .int (gI σ 2519), .ref (B + 49), .ref (B + 50), .int (gI σ 2522), .ref (B + 51), .int (gI σ 2524), .int (gI σ 2525), .int (gI σ 2526), .int (gI σ 2527), .ref (B + 52), .ref (B + 53), .ref (B + 54), .ref (B + 55), .int (gI σ 2532), .ref (B + 56), .ref (B + 57), .ref (B + 58), .int (gI σ 2536), .ref (B + 59), .ref (B + 60), .ref (B + 61), .ref (B + 62), .ref (B + 63), .ref (B + 64), .ref (B + 65), .ref (B + 66), .ref (B + 67), .int (gI σ 2546), .ref (B + 68), .int (gI σ 2548), .ref (B + 69), .int (gI σ 2550), .int (gI σ 2551)] : List Value).set 52 (.int x))) := rfl
theorem cp_2550 (x : Int32) : cells D B true (sI σ 2550 x) = (cells D B true σ).set 39 (.inr (11, ([.ref (B + 40), .int (gI σ 2497), .ref (B + 41), .ref (B + 42), .ref (B + 43), .ref (B + 44), .ref (B + 45), .ref (B + 46), .int (gI σ 2504), .int (gI σ 2505), .int (gI σ 2506), .int (gI σ 2507), .int (gI σ 2508), .int (gI σ 2509), .int (gI σ 2510), .int (gI σ 2511), .int (gI σ 2512), .int (gI σ 2513), .ref (B + 47), .int (gI σ 2515), .ref (B + 48), .int (gI σ 2517), .int (gI σ 2518), .int (gI σ 2519), .ref (B + 49), .ref (B + 50), .int (gI σ 2522), .ref (B + 51), .int (gI σ 2524), .int (gI σ 2525), .int (gI σ 2526), .int (gI σ 2527), .ref (B + 52), .ref (B + 53), .ref (B + 54), .ref (B + 55), .int (gI σ 2532), .ref (B + 56), .ref (B + 57), .ref (B + 58), .int (gI σ 2536), .ref (B + 59), .ref (B + 60), .ref (B + 61), .ref (B + 62), .ref (B + 63), .ref (B + 64), .ref (B + 65), .ref (B + 66), .ref (B + 67), .int (gI σ 2546), .ref (B + 68), .int (gI σ 2548), .ref (B + 69), .int (gI σ 2550), .int (gI σ 2551)] : List Value).set 54 (.int x))) := rfl
theorem cp_2551 (x : Int32) : cells D B true (sI σ 2551 x) = (cells D B true σ).set 39 (.inr (11, ([.ref (B + 40), .int (gI σ 2497), .ref (B + 41), .ref (B + 42), .ref (B + 43), .ref (B + 44), .ref (B + 45), .ref (B + 46), .int (gI σ 2504), .int (gI σ 2505), .int (gI σ 2506), .int (gI σ 2507), .int (gI σ 2508), .int (gI σ 2509), .int (gI σ 2510), .int (gI σ 2511), .int (gI σ 2512), .int (gI σ 2513), .ref (B + 47), .int (gI σ 2515), .ref (B + 48), .int (gI σ 2517), .int (gI σ 2518), .int (gI σ 2519), .ref (B + 49), .ref (B + 50), .int (gI σ 2522), .ref (B + 51), .int (gI σ 2524), .int (gI σ 2525), .int (gI σ 2526), .int (gI σ 2527), .ref (B + 52), .ref (B + 53), .ref (B + 54), .ref (B + 55), .int (gI σ 2532), .ref (B + 56), .ref (B + 57), .ref (B + 58), .int (gI σ 2536), .ref (B + 59), .ref (B + 60), .ref (B + 61), .ref (B + 62), .ref (B + 63), .ref (B + 64), .ref (B + 65), .ref (B + 66), .ref (B + 67), .int (gI σ 2546), .ref (B + 68), .int (gI σ 2548), .ref (B + 69), .int (gI σ 2550), .int (gI σ 2551)] : List Value).set 55 (.int x))) := rfl
theorem ca_4 (j : Nat) (x : Int32) : cells D B true (sA σ 4 j x) = (cells D B true σ).set 4 (.inl (D.2 1, 100, .inl (ups (gA σ 4) j x))) := rfl
theorem ca_5 (j : Nat) (x : Int32) : cells D B true (sA σ 5 j x) = (cells D B true σ).set 5 (.inl (D.2 1, 100, .inl (ups (gA σ 5) j x))) := rfl
theorem ca_6 (j : Nat) (x : Int32) : cells D B true (sA σ 6 j x) = (cells D B true σ).set 6 (.inl (D.2 1, 100, .inl (ups (gA σ 6) j x))) := rfl
theorem ca_7 (j : Nat) (x : Int32) : cells D B true (sA σ 7 j x) = (cells D B true σ).set 7 (.inl (D.2 1, 100, .inl (ups (gA σ 7) j x))) := rfl
theorem ca_8 (j : Nat) (x : Int32) : cells D B true (sA σ 8 j x) = (cells D B true σ).set 8 (.inl (D.2 1, 100, .inl (ups (gA σ 8) j x))) := rfl
theorem ca_9 (j : Nat) (x : Int32) : cells D B true (sA σ 9 j x) = (cells D B true σ).set 9 (.inl (D.2 1, 100, .inl (ups (gA σ 9) j x))) := rfl
theorem ca_10 (j : Nat) (x : Int32) : cells D B true (sA σ 10 j x) = (cells D B true σ).set 10 (.inl (D.2 1, 1002, .inl (ups (gA σ 10) j x))) := rfl
theorem ca_11 (j : Nat) (x : Int32) : cells D B true (sA σ 11 j x) = (cells D B true σ).set 11 (.inl (D.2 1, 100, .inl (ups (gA σ 11) j x))) := rfl
theorem ca_13 (j : Nat) (x : Int32) : cells D B true (sA σ 13 j x) = (cells D B true σ).set 13 (.inl (D.2 1, 126, .inl (ups (gA σ 13) j x))) := rfl
theorem ca_14 (j : Nat) (x : Int32) : cells D B true (sA σ 14 j x) = (cells D B true σ).set 14 (.inl (D.2 1, 126, .inl (ups (gA σ 14) j x))) := rfl
theorem ca_15 (j : Nat) (x : Int32) : cells D B true (sA σ 15 j x) = (cells D B true σ).set 15 (.inl (D.2 1, 126, .inl (ups (gA σ 15) j x))) := rfl
theorem ca_16 (j : Nat) (x : Int32) : cells D B true (sA σ 16 j x) = (cells D B true σ).set 16 (.inl (D.2 1, 4000, .inl (ups (gA σ 16) j x))) := rfl
theorem ca_17 (j : Nat) (x : Int32) : cells D B true (sA σ 17 j x) = (cells D B true σ).set 17 (.inl (D.2 1, 4000, .inl (ups (gA σ 17) j x))) := rfl
theorem ca_19 (j : Nat) (x : Int32) : cells D B true (sA σ 19 j x) = (cells D B true σ).set 19 (.inl (D.2 1, 4000, .inl (ups (gA σ 19) j x))) := rfl
theorem ca_20 (j : Nat) (x : Int32) : cells D B true (sA σ 20 j x) = (cells D B true σ).set 20 (.inl (D.2 1, 4000, .inl (ups (gA σ 20) j x))) := rfl
theorem ca_21 (j : Nat) (x : Int32) : cells D B true (sA σ 21 j x) = (cells D B true σ).set 21 (.inl (D.2 1, 4000, .inl (ups (gA σ 21) j x))) := rfl
theorem ca_22 (j : Nat) (x : Int32) : cells D B true (sA σ 22 j x) = (cells D B true σ).set 22 (.inl (D.2 1, 4000, .inl (ups (gA σ 22) j x))) := rfl
theorem ca_27 (j : Nat) (x : Int32) : cells D B true (sA σ 27 j x) = (cells D B true σ).set 27 (.inl (D.2 1, 80, .inl (ups (gA σ 27) j x))) := rfl
theorem ca_28 (j : Nat) (x : Int32) : cells D B true (sA σ 28 j x) = (cells D B true σ).set 28 (.inl (D.2 1, 40, .inl (ups (gA σ 28) j x))) := rfl
theorem ca_29 (j : Nat) (x : Int32) : cells D B true (sA σ 29 j x) = (cells D B true σ).set 29 (.inl (D.2 1, 40, .inl (ups (gA σ 29) j x))) := rfl
theorem ca_32 (j : Nat) (x : Int32) : cells D B true (sA σ 32 j x) = (cells D B true σ).set 32 (.inl (D.2 1, 100, .inl (ups (gA σ 32) j x))) := rfl
theorem ca_33 (j : Nat) (x : Int32) : cells D B true (sA σ 33 j x) = (cells D B true σ).set 33 (.inl (D.2 1, 2001, .inl (ups (gA σ 33) j x))) := rfl
theorem ca_36 (j : Nat) (x : Int32) : cells D B true (sA σ 36 j x) = (cells D B true σ).set 36 (.inl (D.2 1, 100, .inl (ups (gA σ 36) j x))) := rfl
theorem ca_37 (j : Nat) (x : Int32) : cells D B true (sA σ 37 j x) = (cells D B true σ).set 37 (.inl (D.2 1, 2001, .inl (ups (gA σ 37) j x))) := rfl
theorem ca_38 (j : Nat) (x : Int64) : cells D B true (sJ σ 38 j x) = (cells D B true σ).set 38 (.inl (D.2 2, 40, .inr (.inl (ups (gJ σ 38) j x)))) := rfl
theorem ca_40 (j : Nat) (x : Int32) : cells D B true (sA σ 40 j x) = (cells D B true σ).set 40 (.inl (D.2 1, 40, .inl (ups (gA σ 40) j x))) := rfl
theorem ca_41 (j : Nat) (x : Int32) : cells D B true (sA σ 41 j x) = (cells D B true σ).set 41 (.inl (D.2 1, 320, .inl (ups (gA σ 41) j x))) := rfl
theorem ca_42 (j : Nat) (x : Int32) : cells D B true (sA σ 42 j x) = (cells D B true σ).set 42 (.inl (D.2 1, 320, .inl (ups (gA σ 42) j x))) := rfl
theorem ca_43 (j : Nat) (x : Int32) : cells D B true (sA σ 43 j x) = (cells D B true σ).set 43 (.inl (D.2 1, 5, .inl (ups (gA σ 43) j x))) := rfl
theorem ca_44 (j : Nat) (x : Int32) : cells D B true (sA σ 44 j x) = (cells D B true σ).set 44 (.inl (D.2 1, 320, .inl (ups (gA σ 44) j x))) := rfl
theorem ca_45 (j : Nat) (x : Int32) : cells D B true (sA σ 45 j x) = (cells D B true σ).set 45 (.inl (D.2 1, 320, .inl (ups (gA σ 45) j x))) := rfl
theorem ca_46 (j : Nat) (x : Int32) : cells D B true (sA σ 46 j x) = (cells D B true σ).set 46 (.inl (D.2 1, 5, .inl (ups (gA σ 46) j x))) := rfl
theorem ca_47 (j : Nat) (x : Int32) : cells D B true (sA σ 47 j x) = (cells D B true σ).set 47 (.inl (D.2 1, 64, .inl (ups (gA σ 47) j x))) := rfl
theorem ca_48 (j : Nat) (x : Int32) : cells D B true (sA σ 48 j x) = (cells D B true σ).set 48 (.inl (D.2 1, 64, .inl (ups (gA σ 48) j x))) := rfl
theorem ca_49 (j : Nat) (x : Int32) : cells D B true (sA σ 49 j x) = (cells D B true σ).set 49 (.inl (D.2 3, 64, .inl (ups (gA σ 49) j x))) := rfl
theorem ca_50 (j : Nat) (x : Int64) : cells D B true (sJ σ 50 j x) = (cells D B true σ).set 50 (.inl (D.2 2, 64, .inr (.inl (ups (gJ σ 50) j x)))) := rfl
theorem ca_51 (j : Nat) (x : Int32) : cells D B true (sA σ 51 j x) = (cells D B true σ).set 51 (.inl (D.2 3, 64, .inl (ups (gA σ 51) j x))) := rfl
theorem ca_52 (j : Nat) (x : Int32) : cells D B true (sA σ 52 j x) = (cells D B true σ).set 52 (.inl (D.2 1, 100, .inl (ups (gA σ 52) j x))) := rfl
theorem ca_53 (j : Nat) (x : Int32) : cells D B true (sA σ 53 j x) = (cells D B true σ).set 53 (.inl (D.2 1, 100, .inl (ups (gA σ 53) j x))) := rfl
theorem ca_54 (j : Nat) (x : Int32) : cells D B true (sA σ 54 j x) = (cells D B true σ).set 54 (.inl (D.2 1, 100, .inl (ups (gA σ 54) j x))) := rfl
theorem ca_55 (j : Nat) (x : Int32) : cells D B true (sA σ 55 j x) = (cells D B true σ).set 55 (.inl (D.2 1, 100, .inl (ups (gA σ 55) j x))) := rfl
theorem ca_56 (j : Nat) (x : Int32) : cells D B true (sA σ 56 j x) = (cells D B true σ).set 56 (.inl (D.2 3, 1008, .inl (ups (gA σ 56) j x))) := rfl
theorem ca_57 (j : Nat) (x : Int32) : cells D B true (sA σ 57 j x) = (cells D B true σ).set 57 (.inl (D.2 1, 126, .inl (ups (gA σ 57) j x))) := rfl
theorem ca_58 (j : Nat) (x : Int32) : cells D B true (sA σ 58 j x) = (cells D B true σ).set 58 (.inl (D.2 1, 126, .inl (ups (gA σ 58) j x))) := rfl
theorem ca_59 (j : Nat) (x : Int32) : cells D B true (sA σ 59 j x) = (cells D B true σ).set 59 (.inl (D.2 1, 4, .inl (ups (gA σ 59) j x))) := rfl
theorem ca_60 (j : Nat) (x : Int32) : cells D B true (sA σ 60 j x) = (cells D B true σ).set 60 (.inl (D.2 1, 4, .inl (ups (gA σ 60) j x))) := rfl
theorem ca_61 (j : Nat) (x : Int32) : cells D B true (sA σ 61 j x) = (cells D B true σ).set 61 (.inl (D.2 1, 4, .inl (ups (gA σ 61) j x))) := rfl
theorem ca_62 (j : Nat) (x : Int32) : cells D B true (sA σ 62 j x) = (cells D B true σ).set 62 (.inl (D.2 3, 4, .inl (ups (gA σ 62) j x))) := rfl
theorem ca_63 (j : Nat) (x : Int32) : cells D B true (sA σ 63 j x) = (cells D B true σ).set 63 (.inl (D.2 1, 4, .inl (ups (gA σ 63) j x))) := rfl
theorem ca_64 (j : Nat) (x : Int32) : cells D B true (sA σ 64 j x) = (cells D B true σ).set 64 (.inl (D.2 1, 4, .inl (ups (gA σ 64) j x))) := rfl
theorem ca_65 (j : Nat) (x : Int32) : cells D B true (sA σ 65 j x) = (cells D B true σ).set 65 (.inl (D.2 1, 4, .inl (ups (gA σ 65) j x))) := rfl
theorem ca_66 (j : Nat) (x : Int32) : cells D B true (sA σ 66 j x) = (cells D B true σ).set 66 (.inl (D.2 1, 20, .inl (ups (gA σ 66) j x))) := rfl
theorem ca_67 (j : Nat) (x : Int32) : cells D B true (sA σ 67 j x) = (cells D B true σ).set 67 (.inl (D.2 1, 20, .inl (ups (gA σ 67) j x))) := rfl
theorem ca_68 (j : Nat) (x : Int32) : cells D B true (sA σ 68 j x) = (cells D B true σ).set 68 (.inl (D.2 1, 4000, .inl (ups (gA σ 68) j x))) := rfl
theorem ca_69 (j : Nat) (x : Int32) : cells D B true (sA σ 69 j x) = (cells D B true σ).set 69 (.inl (D.2 1, 4000, .inl (ups (gA σ 69) j x))) := rfl
end CE
