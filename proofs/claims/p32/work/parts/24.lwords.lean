/-! the words, cells and plain facts that the law's own methods use -/
theorem cst_0 : Cond.castable (exN 0) (exN 0) ∈ lw_tbl := List.mem_of_getElem? (i := 449) (by decide +kernel)
theorem cst_1 : Cond.castable (exN 1) (exN 1) ∈ lw_tbl := List.mem_of_getElem? (i := 465) (by decide +kernel)
theorem cst_2 : Cond.castable (exN 2) (exN 2) ∈ lw_tbl := List.mem_of_getElem? (i := 361) (by decide +kernel)
theorem cst_3 : Cond.castable (exN 3) (exN 3) ∈ lw_tbl := List.mem_of_getElem? (i := 848) (by decide +kernel)
theorem w_435 : Cond.constant RL 7 608135817 ∈ WT := WT_in (List.mem_of_getElem? (i := 435) (by decide +kernel)) (by decide +kernel)
theorem w_436 : Cond.constant RL 8 2147483647 ∈ WT := WT_in (List.mem_of_getElem? (i := 436) (by decide +kernel)) (by decide +kernel)
theorem w_443 : Cond.methodLink RL 9 yX10_type ∈ WT := WT_in (List.mem_of_getElem? (i := 443) (by decide +kernel)) (by decide +kernel)
theorem w_444 : Cond.instanceMethod yX10_type ∈ WT := WT_in (List.mem_of_getElem? (i := 444) (by decide +kernel)) (by decide +kernel)
theorem w_445 : Cond.selects RX10 yX10_type yX10_type ∈ WT := WT_in (List.mem_of_getElem? (i := 445) (by decide +kernel)) (by decide +kernel)
theorem w_446 : Cond.code yX10_type cX10_type 2 (some .int) ∈ WT := WT_in (List.mem_of_getElem? (i := 446) (by decide +kernel)) (by decide +kernel)
theorem w_440 : Cond.classLink RL 45 "java/lang/IndexOutOfBoundsException" ∈ WT := WT_in (List.mem_of_getElem? (i := 440) (by decide +kernel)) (by decide +kernel)
theorem w_441 : Cond.classLink RL 47 "java/lang/IllegalArgumentException" ∈ WT := WT_in (List.mem_of_getElem? (i := 441) (by decide +kernel)) (by decide +kernel)
theorem w_442 : Cond.classLink RL 49 "java/lang/IllegalStateException" ∈ WT := WT_in (List.mem_of_getElem? (i := 442) (by decide +kernel)) (by decide +kernel)
theorem w_479 : Cond.methodLink RL 15 yX10_pass ∈ WT := WT_in (List.mem_of_getElem? (i := 479) (by decide +kernel)) (by decide +kernel)
theorem w_480 : Cond.instanceMethod yX10_pass ∈ WT := WT_in (List.mem_of_getElem? (i := 480) (by decide +kernel)) (by decide +kernel)
theorem w_481 : Cond.selects RX10 yX10_pass yX10_pass ∈ WT := WT_in (List.mem_of_getElem? (i := 481) (by decide +kernel)) (by decide +kernel)
theorem w_482 : Cond.code yX10_pass cX10_pass 4 (some .int) ∈ WT := WT_in (List.mem_of_getElem? (i := 482) (by decide +kernel)) (by decide +kernel)
theorem w_592 : Cond.methodLink RL 19 yX10_log ∈ WT := WT_in (List.mem_of_getElem? (i := 592) (by decide +kernel)) (by decide +kernel)
theorem w_593 : Cond.instanceMethod yX10_log ∈ WT := WT_in (List.mem_of_getElem? (i := 593) (by decide +kernel)) (by decide +kernel)
theorem w_594 : Cond.selects RX10 yX10_log yX10_log ∈ WT := WT_in (List.mem_of_getElem? (i := 594) (by decide +kernel)) (by decide +kernel)
theorem w_595 : Cond.code yX10_log cX10_log 5 (some .int) ∈ WT := WT_in (List.mem_of_getElem? (i := 595) (by decide +kernel)) (by decide +kernel)
theorem w_607 : Cond.methodLink RL 23 yX10_addPerson ∈ WT := WT_in (List.mem_of_getElem? (i := 607) (by decide +kernel)) (by decide +kernel)
theorem w_608 : Cond.instanceMethod yX10_addPerson ∈ WT := WT_in (List.mem_of_getElem? (i := 608) (by decide +kernel)) (by decide +kernel)
theorem w_609 : Cond.selects RX10 yX10_addPerson yX10_addPerson ∈ WT := WT_in (List.mem_of_getElem? (i := 609) (by decide +kernel)) (by decide +kernel)
theorem w_610 : Cond.code yX10_addPerson cX10_addPerson 1 (some .int) ∈ WT := WT_in (List.mem_of_getElem? (i := 610) (by decide +kernel)) (by decide +kernel)
theorem w_612 : Cond.methodLink RL 27 yX10_off ∈ WT := WT_in (List.mem_of_getElem? (i := 612) (by decide +kernel)) (by decide +kernel)
theorem w_613 : Cond.instanceMethod yX10_off ∈ WT := WT_in (List.mem_of_getElem? (i := 613) (by decide +kernel)) (by decide +kernel)
theorem w_614 : Cond.selects RX10 yX10_off yX10_off ∈ WT := WT_in (List.mem_of_getElem? (i := 614) (by decide +kernel)) (by decide +kernel)
theorem w_615 : Cond.code yX10_off cX10_off 3 (some .boolean) ∈ WT := WT_in (List.mem_of_getElem? (i := 615) (by decide +kernel)) (by decide +kernel)
theorem w_627 : Cond.methodLink RL 31 yX10_addRule ∈ WT := WT_in (List.mem_of_getElem? (i := 627) (by decide +kernel)) (by decide +kernel)
theorem w_628 : Cond.instanceMethod yX10_addRule ∈ WT := WT_in (List.mem_of_getElem? (i := 628) (by decide +kernel)) (by decide +kernel)
theorem w_629 : Cond.selects RX10 yX10_addRule yX10_addRule ∈ WT := WT_in (List.mem_of_getElem? (i := 629) (by decide +kernel)) (by decide +kernel)
theorem w_630 : Cond.code yX10_addRule cX10_addRule 5 (some .int) ∈ WT := WT_in (List.mem_of_getElem? (i := 630) (by decide +kernel)) (by decide +kernel)
theorem w_758 : Cond.methodLink RL 35 yX10_drop ∈ WT := WT_in (List.mem_of_getElem? (i := 758) (by decide +kernel)) (by decide +kernel)
theorem w_759 : Cond.instanceMethod yX10_drop ∈ WT := WT_in (List.mem_of_getElem? (i := 759) (by decide +kernel)) (by decide +kernel)
theorem w_760 : Cond.selects RX10 yX10_drop yX10_drop ∈ WT := WT_in (List.mem_of_getElem? (i := 760) (by decide +kernel)) (by decide +kernel)
theorem w_761 : Cond.code yX10_drop cX10_drop 3 (some .int) ∈ WT := WT_in (List.mem_of_getElem? (i := 761) (by decide +kernel)) (by decide +kernel)
theorem w_763 : Cond.methodLink RL 38 yX10_silence ∈ WT := WT_in (List.mem_of_getElem? (i := 763) (by decide +kernel)) (by decide +kernel)
theorem w_764 : Cond.instanceMethod yX10_silence ∈ WT := WT_in (List.mem_of_getElem? (i := 764) (by decide +kernel)) (by decide +kernel)
theorem w_765 : Cond.selects RX10 yX10_silence yX10_silence ∈ WT := WT_in (List.mem_of_getElem? (i := 765) (by decide +kernel)) (by decide +kernel)
theorem w_766 : Cond.code yX10_silence cX10_silence 5 (some .int) ∈ WT := WT_in (List.mem_of_getElem? (i := 766) (by decide +kernel)) (by decide +kernel)
theorem w_774 : Cond.methodLink RL 41 yX10_answer ∈ WT := WT_in (List.mem_of_getElem? (i := 774) (by decide +kernel)) (by decide +kernel)
theorem w_775 : Cond.instanceMethod yX10_answer ∈ WT := WT_in (List.mem_of_getElem? (i := 775) (by decide +kernel)) (by decide +kernel)
theorem w_776 : Cond.selects RX10 yX10_answer yX10_answer ∈ WT := WT_in (List.mem_of_getElem? (i := 776) (by decide +kernel)) (by decide +kernel)
theorem w_777 : Cond.code yX10_answer cX10_answer 3 (some .int) ∈ WT := WT_in (List.mem_of_getElem? (i := 777) (by decide +kernel)) (by decide +kernel)
theorem w_995 : Cond.methodLink RL 51 yX10_swap ∈ WT := WT_in (List.mem_of_getElem? (i := 995) (by decide +kernel)) (by decide +kernel)
theorem w_996 : Cond.instanceMethod yX10_swap ∈ WT := WT_in (List.mem_of_getElem? (i := 996) (by decide +kernel)) (by decide +kernel)
theorem w_997 : Cond.selects RX10 yX10_swap yX10_swap ∈ WT := WT_in (List.mem_of_getElem? (i := 997) (by decide +kernel)) (by decide +kernel)
theorem w_998 : Cond.code yX10_swap cX10_swap 5 none ∈ WT := WT_in (List.mem_of_getElem? (i := 998) (by decide +kernel)) (by decide +kernel)
theorem w_970 : Cond.methodLink RL 59 yX10_ask ∈ WT := WT_in (List.mem_of_getElem? (i := 970) (by decide +kernel)) (by decide +kernel)
theorem w_971 : Cond.instanceMethod yX10_ask ∈ WT := WT_in (List.mem_of_getElem? (i := 971) (by decide +kernel)) (by decide +kernel)
theorem w_972 : Cond.selects RX10 yX10_ask yX10_ask ∈ WT := WT_in (List.mem_of_getElem? (i := 972) (by decide +kernel)) (by decide +kernel)
theorem w_973 : Cond.code yX10_ask cX10_ask 4 (some .long) ∈ WT := WT_in (List.mem_of_getElem? (i := 973) (by decide +kernel)) (by decide +kernel)
theorem w_974 : Cond.constantLong RL 62 -124200000000 ∈ WT := WT_in (List.mem_of_getElem? (i := 974) (by decide +kernel)) (by decide +kernel)
theorem w_975 : Cond.constantLong RL 64 -124300000000 ∈ WT := WT_in (List.mem_of_getElem? (i := 975) (by decide +kernel)) (by decide +kernel)
theorem w_890 : Cond.methodLink RL 55 yX10_askByCodes ∈ WT := WT_in (List.mem_of_getElem? (i := 890) (by decide +kernel)) (by decide +kernel)
theorem w_891 : Cond.instanceMethod yX10_askByCodes ∈ WT := WT_in (List.mem_of_getElem? (i := 891) (by decide +kernel)) (by decide +kernel)
theorem w_892 : Cond.selects RX10 yX10_askByCodes yX10_askByCodes ∈ WT := WT_in (List.mem_of_getElem? (i := 892) (by decide +kernel)) (by decide +kernel)
theorem w_893 : Cond.code yX10_askByCodes cX10_askByCodes 3 (some .long) ∈ WT := WT_in (List.mem_of_getElem? (i := 893) (by decide +kernel)) (by decide +kernel)
theorem w_801 : Cond.methodLink RL 66 yX10_planned ∈ WT := WT_in (List.mem_of_getElem? (i := 801) (by decide +kernel)) (by decide +kernel)
theorem w_802 : Cond.instanceMethod yX10_planned ∈ WT := WT_in (List.mem_of_getElem? (i := 802) (by decide +kernel)) (by decide +kernel)
theorem w_803 : Cond.selects RX10 yX10_planned yX10_planned ∈ WT := WT_in (List.mem_of_getElem? (i := 803) (by decide +kernel)) (by decide +kernel)
theorem w_804 : Cond.code yX10_planned cX10_planned 2 (some .int) ∈ WT := WT_in (List.mem_of_getElem? (i := 804) (by decide +kernel)) (by decide +kernel)
theorem w_800 : Cond.classLink RL 101 "java/util/NoSuchElementException" ∈ WT := WT_in (List.mem_of_getElem? (i := 800) (by decide +kernel)) (by decide +kernel)
theorem w_806 : Cond.methodLink RL 69 yX10_holder ∈ WT := WT_in (List.mem_of_getElem? (i := 806) (by decide +kernel)) (by decide +kernel)
theorem w_807 : Cond.instanceMethod yX10_holder ∈ WT := WT_in (List.mem_of_getElem? (i := 807) (by decide +kernel)) (by decide +kernel)
theorem w_808 : Cond.selects RX10 yX10_holder yX10_holder ∈ WT := WT_in (List.mem_of_getElem? (i := 808) (by decide +kernel)) (by decide +kernel)
theorem w_809 : Cond.code yX10_holder cX10_holder 2 (some .int) ∈ WT := WT_in (List.mem_of_getElem? (i := 809) (by decide +kernel)) (by decide +kernel)
theorem w_810 : Cond.methodLink RL 72 yX10_nights ∈ WT := WT_in (List.mem_of_getElem? (i := 810) (by decide +kernel)) (by decide +kernel)
theorem w_811 : Cond.instanceMethod yX10_nights ∈ WT := WT_in (List.mem_of_getElem? (i := 811) (by decide +kernel)) (by decide +kernel)
theorem w_812 : Cond.selects RX10 yX10_nights yX10_nights ∈ WT := WT_in (List.mem_of_getElem? (i := 812) (by decide +kernel)) (by decide +kernel)
theorem w_813 : Cond.code yX10_nights cX10_nights 2 (some .int) ∈ WT := WT_in (List.mem_of_getElem? (i := 813) (by decide +kernel)) (by decide +kernel)
theorem w_818 : Cond.methodLink RL 75 yX10_owes ∈ WT := WT_in (List.mem_of_getElem? (i := 818) (by decide +kernel)) (by decide +kernel)
theorem w_819 : Cond.instanceMethod yX10_owes ∈ WT := WT_in (List.mem_of_getElem? (i := 819) (by decide +kernel)) (by decide +kernel)
theorem w_820 : Cond.selects RX10 yX10_owes yX10_owes ∈ WT := WT_in (List.mem_of_getElem? (i := 820) (by decide +kernel)) (by decide +kernel)
theorem w_821 : Cond.code yX10_owes cX10_owes 3 (some .int) ∈ WT := WT_in (List.mem_of_getElem? (i := 821) (by decide +kernel)) (by decide +kernel)
theorem w_826 : Cond.methodLink RL 79 yX10_inWindow ∈ WT := WT_in (List.mem_of_getElem? (i := 826) (by decide +kernel)) (by decide +kernel)
theorem w_827 : Cond.instanceMethod yX10_inWindow ∈ WT := WT_in (List.mem_of_getElem? (i := 827) (by decide +kernel)) (by decide +kernel)
theorem w_828 : Cond.selects RX10 yX10_inWindow yX10_inWindow ∈ WT := WT_in (List.mem_of_getElem? (i := 828) (by decide +kernel)) (by decide +kernel)
theorem w_829 : Cond.code yX10_inWindow cX10_inWindow 3 (some .int) ∈ WT := WT_in (List.mem_of_getElem? (i := 829) (by decide +kernel)) (by decide +kernel)
theorem w_351 : Cond.methodLink RL 82 yX10_rises ∈ WT := WT_in (List.mem_of_getElem? (i := 351) (by decide +kernel)) (by decide +kernel)
theorem w_352 : Cond.instanceMethod yX10_rises ∈ WT := WT_in (List.mem_of_getElem? (i := 352) (by decide +kernel)) (by decide +kernel)
theorem w_353 : Cond.selects RX10 yX10_rises yX10_rises ∈ WT := WT_in (List.mem_of_getElem? (i := 353) (by decide +kernel)) (by decide +kernel)
theorem w_354 : Cond.code yX10_rises cX10_rises 3 (some .int) ∈ WT := WT_in (List.mem_of_getElem? (i := 354) (by decide +kernel)) (by decide +kernel)
theorem w_830 : Cond.methodLink RL 85 yX10_risesAnew ∈ WT := WT_in (List.mem_of_getElem? (i := 830) (by decide +kernel)) (by decide +kernel)
theorem w_831 : Cond.instanceMethod yX10_risesAnew ∈ WT := WT_in (List.mem_of_getElem? (i := 831) (by decide +kernel)) (by decide +kernel)
theorem w_832 : Cond.selects RX10 yX10_risesAnew yX10_risesAnew ∈ WT := WT_in (List.mem_of_getElem? (i := 832) (by decide +kernel)) (by decide +kernel)
theorem w_833 : Cond.code yX10_risesAnew cX10_risesAnew 7 (some .int) ∈ WT := WT_in (List.mem_of_getElem? (i := 833) (by decide +kernel)) (by decide +kernel)
theorem w_834 : Cond.methodLink RL 88 yX10_alarm ∈ WT := WT_in (List.mem_of_getElem? (i := 834) (by decide +kernel)) (by decide +kernel)
theorem w_835 : Cond.instanceMethod yX10_alarm ∈ WT := WT_in (List.mem_of_getElem? (i := 835) (by decide +kernel)) (by decide +kernel)
theorem w_836 : Cond.selects RX10 yX10_alarm yX10_alarm ∈ WT := WT_in (List.mem_of_getElem? (i := 836) (by decide +kernel)) (by decide +kernel)
theorem w_837 : Cond.code yX10_alarm cX10_alarm 2 (some .int) ∈ WT := WT_in (List.mem_of_getElem? (i := 837) (by decide +kernel)) (by decide +kernel)
theorem w_838 : Cond.methodLink RL 91 yX10_woken ∈ WT := WT_in (List.mem_of_getElem? (i := 838) (by decide +kernel)) (by decide +kernel)
theorem w_839 : Cond.instanceMethod yX10_woken ∈ WT := WT_in (List.mem_of_getElem? (i := 839) (by decide +kernel)) (by decide +kernel)
theorem w_840 : Cond.selects RX10 yX10_woken yX10_woken ∈ WT := WT_in (List.mem_of_getElem? (i := 840) (by decide +kernel)) (by decide +kernel)
theorem w_841 : Cond.code yX10_woken cX10_woken 2 (some .int) ∈ WT := WT_in (List.mem_of_getElem? (i := 841) (by decide +kernel)) (by decide +kernel)
theorem w_842 : Cond.methodLink RL 94 yX10_wokenAt ∈ WT := WT_in (List.mem_of_getElem? (i := 842) (by decide +kernel)) (by decide +kernel)
theorem w_843 : Cond.instanceMethod yX10_wokenAt ∈ WT := WT_in (List.mem_of_getElem? (i := 843) (by decide +kernel)) (by decide +kernel)
theorem w_844 : Cond.selects RX10 yX10_wokenAt yX10_wokenAt ∈ WT := WT_in (List.mem_of_getElem? (i := 844) (by decide +kernel)) (by decide +kernel)
theorem w_845 : Cond.code yX10_wokenAt cX10_wokenAt 2 (some .int) ∈ WT := WT_in (List.mem_of_getElem? (i := 845) (by decide +kernel)) (by decide +kernel)
theorem w_862 : Cond.methodLink RL 97 yX10_wouldRise ∈ WT := WT_in (List.mem_of_getElem? (i := 862) (by decide +kernel)) (by decide +kernel)
theorem w_863 : Cond.instanceMethod yX10_wouldRise ∈ WT := WT_in (List.mem_of_getElem? (i := 863) (by decide +kernel)) (by decide +kernel)
theorem w_864 : Cond.selects RX10 yX10_wouldRise yX10_wouldRise ∈ WT := WT_in (List.mem_of_getElem? (i := 864) (by decide +kernel)) (by decide +kernel)
theorem w_865 : Cond.code yX10_wouldRise cX10_wouldRise 3 (some .boolean) ∈ WT := WT_in (List.mem_of_getElem? (i := 865) (by decide +kernel)) (by decide +kernel)
theorem w_317 : Cond.methodLink RL 103 yX10_now ∈ WT := WT_in (List.mem_of_getElem? (i := 317) (by decide +kernel)) (by decide +kernel)
theorem w_318 : Cond.instanceMethod yX10_now ∈ WT := WT_in (List.mem_of_getElem? (i := 318) (by decide +kernel)) (by decide +kernel)
theorem w_319 : Cond.selects RX10 yX10_now yX10_now ∈ WT := WT_in (List.mem_of_getElem? (i := 319) (by decide +kernel)) (by decide +kernel)
theorem w_320 : Cond.code yX10_now cX10_now 1 (some .int) ∈ WT := WT_in (List.mem_of_getElem? (i := 320) (by decide +kernel)) (by decide +kernel)
theorem w_1025 : Cond.constantLong RL 106 31 ∈ WT := WT_in (List.mem_of_getElem? (i := 1025) (by decide +kernel)) (by decide +kernel)
theorem w_428 : Cond.methodLink RL 108 yX10_alarms ∈ WT := WT_in (List.mem_of_getElem? (i := 428) (by decide +kernel)) (by decide +kernel)
theorem w_429 : Cond.instanceMethod yX10_alarms ∈ WT := WT_in (List.mem_of_getElem? (i := 429) (by decide +kernel)) (by decide +kernel)
theorem w_430 : Cond.selects RX10 yX10_alarms yX10_alarms ∈ WT := WT_in (List.mem_of_getElem? (i := 430) (by decide +kernel)) (by decide +kernel)
theorem w_431 : Cond.code yX10_alarms cX10_alarms 1 (some .int) ∈ WT := WT_in (List.mem_of_getElem? (i := 431) (by decide +kernel)) (by decide +kernel)
theorem w_1026 : Cond.constantLong RL 111 961 ∈ WT := WT_in (List.mem_of_getElem? (i := 1026) (by decide +kernel)) (by decide +kernel)
theorem w_1009 : Cond.methodLink RL 113 yX10_waiting ∈ WT := WT_in (List.mem_of_getElem? (i := 1009) (by decide +kernel)) (by decide +kernel)
theorem w_1010 : Cond.instanceMethod yX10_waiting ∈ WT := WT_in (List.mem_of_getElem? (i := 1010) (by decide +kernel)) (by decide +kernel)
theorem w_1011 : Cond.selects RX10 yX10_waiting yX10_waiting ∈ WT := WT_in (List.mem_of_getElem? (i := 1011) (by decide +kernel)) (by decide +kernel)
theorem w_1012 : Cond.code yX10_waiting cX10_waiting 1 (some .int) ∈ WT := WT_in (List.mem_of_getElem? (i := 1012) (by decide +kernel)) (by decide +kernel)
theorem w_1027 : Cond.constantLong RL 116 29791 ∈ WT := WT_in (List.mem_of_getElem? (i := 1027) (by decide +kernel)) (by decide +kernel)
theorem w_876 : Cond.methodLink RL 118 yX10_errorAt ∈ WT := WT_in (List.mem_of_getElem? (i := 876) (by decide +kernel)) (by decide +kernel)
theorem w_877 : Cond.instanceMethod yX10_errorAt ∈ WT := WT_in (List.mem_of_getElem? (i := 877) (by decide +kernel)) (by decide +kernel)
theorem w_878 : Cond.selects RX10 yX10_errorAt yX10_errorAt ∈ WT := WT_in (List.mem_of_getElem? (i := 878) (by decide +kernel)) (by decide +kernel)
theorem w_879 : Cond.code yX10_errorAt cX10_errorAt 1 (some .int) ∈ WT := WT_in (List.mem_of_getElem? (i := 879) (by decide +kernel)) (by decide +kernel)
theorem w_1028 : Cond.constantLong RL 121 65537 ∈ WT := WT_in (List.mem_of_getElem? (i := 1028) (by decide +kernel)) (by decide +kernel)
theorem w_321 : Cond.methodLink RL 123 yX10_next ∈ WT := WT_in (List.mem_of_getElem? (i := 321) (by decide +kernel)) (by decide +kernel)
theorem w_322 : Cond.instanceMethod yX10_next ∈ WT := WT_in (List.mem_of_getElem? (i := 322) (by decide +kernel)) (by decide +kernel)
theorem w_323 : Cond.selects RX10 yX10_next yX10_next ∈ WT := WT_in (List.mem_of_getElem? (i := 323) (by decide +kernel)) (by decide +kernel)
theorem w_324 : Cond.code yX10_next cX10_next 2 (some .int) ∈ WT := WT_in (List.mem_of_getElem? (i := 324) (by decide +kernel)) (by decide +kernel)
theorem w_1030 : Cond.constantLong RL 128 7 ∈ WT := WT_in (List.mem_of_getElem? (i := 1030) (by decide +kernel)) (by decide +kernel)
theorem w_1029 : Cond.constantLong RL 126 1000003 ∈ WT := WT_in (List.mem_of_getElem? (i := 1029) (by decide +kernel)) (by decide +kernel)
theorem w_869 : Cond.methodLink RL 130 yX10_clearText ∈ WT := WT_in (List.mem_of_getElem? (i := 869) (by decide +kernel)) (by decide +kernel)
theorem w_870 : Cond.instanceMethod yX10_clearText ∈ WT := WT_in (List.mem_of_getElem? (i := 870) (by decide +kernel)) (by decide +kernel)
theorem w_871 : Cond.selects RX10 yX10_clearText yX10_clearText ∈ WT := WT_in (List.mem_of_getElem? (i := 871) (by decide +kernel)) (by decide +kernel)
theorem w_872 : Cond.code yX10_clearText cX10_clearText 2 (some .int) ∈ WT := WT_in (List.mem_of_getElem? (i := 872) (by decide +kernel)) (by decide +kernel)
theorem w_439 : Cond.codeWith yL_act cL_act 7 (some .int) [(0, 140, 141, 45), (0, 140, 147, 47), (0, 140, 153, 49)] ∈ WT := WT_in (List.mem_of_getElem? (i := 439) (by decide +kernel)) (by decide +kernel)
theorem w_437 : Cond.methodLink RL 133 yL_act ∈ WT := WT_in (List.mem_of_getElem? (i := 437) (by decide +kernel)) (by decide +kernel)
theorem w_438 : Cond.static yL_act ∈ WT := WT_in (List.mem_of_getElem? (i := 438) (by decide +kernel)) (by decide +kernel)
theorem w_35 : Cond.initialized RL ∈ WT := WT_in (List.mem_of_getElem? (i := 35) (by decide +kernel)) (by decide +kernel)
theorem w_889 : Cond.codeWith yL_told cL_told 5 (some .long) [(0, 19, 20, 47), (0, 19, 26, 49)] ∈ WT := WT_in (List.mem_of_getElem? (i := 889) (by decide +kernel)) (by decide +kernel)
theorem w_887 : Cond.methodLink RL 150 yL_told ∈ WT := WT_in (List.mem_of_getElem? (i := 887) (by decide +kernel)) (by decide +kernel)
theorem w_888 : Cond.static yL_told ∈ WT := WT_in (List.mem_of_getElem? (i := 888) (by decide +kernel)) (by decide +kernel)
theorem w_434 : Cond.code yL_dice cL_dice 2 (some .int) ∈ WT := WT_in (List.mem_of_getElem? (i := 434) (by decide +kernel)) (by decide +kernel)
theorem w_432 : Cond.methodLink RL 139 yL_dice ∈ WT := WT_in (List.mem_of_getElem? (i := 432) (by decide +kernel)) (by decide +kernel)
theorem w_433 : Cond.static yL_dice ∈ WT := WT_in (List.mem_of_getElem? (i := 433) (by decide +kernel)) (by decide +kernel)
theorem w_875 : Cond.code yL_code cL_code 2 (some .int) ∈ WT := WT_in (List.mem_of_getElem? (i := 875) (by decide +kernel)) (by decide +kernel)
theorem w_873 : Cond.methodLink RL 143 yL_code ∈ WT := WT_in (List.mem_of_getElem? (i := 873) (by decide +kernel)) (by decide +kernel)
theorem w_874 : Cond.static yL_code ∈ WT := WT_in (List.mem_of_getElem? (i := 874) (by decide +kernel)) (by decide +kernel)
theorem w_886 : Cond.code yL_typed cL_typed 5 (some .int) ∈ WT := WT_in (List.mem_of_getElem? (i := 886) (by decide +kernel)) (by decide +kernel)
theorem w_884 : Cond.methodLink RL 146 yL_typed ∈ WT := WT_in (List.mem_of_getElem? (i := 884) (by decide +kernel)) (by decide +kernel)
theorem w_885 : Cond.static yL_typed ∈ WT := WT_in (List.mem_of_getElem? (i := 885) (by decide +kernel)) (by decide +kernel)
theorem w_982 : Cond.constantLong RL 158 -77777 ∈ WT := WT_in (List.mem_of_getElem? (i := 982) (by decide +kernel)) (by decide +kernel)
theorem w_981 : Cond.code yL_says cL_says 2 (some .boolean) ∈ WT := WT_in (List.mem_of_getElem? (i := 981) (by decide +kernel)) (by decide +kernel)
theorem w_979 : Cond.methodLink RL 154 yL_says ∈ WT := WT_in (List.mem_of_getElem? (i := 979) (by decide +kernel)) (by decide +kernel)
theorem w_980 : Cond.static yL_says ∈ WT := WT_in (List.mem_of_getElem? (i := 980) (by decide +kernel)) (by decide +kernel)
theorem w_978 : Cond.code yL_value cL_value 10 (some .long) ∈ WT := WT_in (List.mem_of_getElem? (i := 978) (by decide +kernel)) (by decide +kernel)
theorem w_976 : Cond.methodLink RL 160 yL_value ∈ WT := WT_in (List.mem_of_getElem? (i := 976) (by decide +kernel)) (by decide +kernel)
theorem w_977 : Cond.static yL_value ∈ WT := WT_in (List.mem_of_getElem? (i := 977) (by decide +kernel)) (by decide +kernel)
theorem w_994 : Cond.codeWith yL_swapped cL_swapped 4 (some .int) [(0, 7, 8, 47), (0, 7, 13, 49)] ∈ WT := WT_in (List.mem_of_getElem? (i := 994) (by decide +kernel)) (by decide +kernel)
theorem w_992 : Cond.methodLink RL 164 yL_swapped ∈ WT := WT_in (List.mem_of_getElem? (i := 992) (by decide +kernel)) (by decide +kernel)
theorem w_993 : Cond.static yL_swapped ∈ WT := WT_in (List.mem_of_getElem? (i := 993) (by decide +kernel)) (by decide +kernel)
theorem w_799 : Cond.codeWith yL_of cL_of 5 (some .int) [(0, 147, 148, 45), (0, 147, 154, 47), (0, 147, 160, 101)] ∈ WT := WT_in (List.mem_of_getElem? (i := 799) (by decide +kernel)) (by decide +kernel)
theorem w_797 : Cond.methodLink RL 168 yL_of ∈ WT := WT_in (List.mem_of_getElem? (i := 797) (by decide +kernel)) (by decide +kernel)
theorem w_798 : Cond.static yL_of ∈ WT := WT_in (List.mem_of_getElem? (i := 798) (by decide +kernel)) (by decide +kernel)
theorem w_1024 : Cond.code yL_all cL_all 5 (some .long) ∈ WT := WT_in (List.mem_of_getElem? (i := 1024) (by decide +kernel)) (by decide +kernel)
theorem w_1022 : Cond.methodLink RL 172 yL_all ∈ WT := WT_in (List.mem_of_getElem? (i := 1022) (by decide +kernel)) (by decide +kernel)
theorem w_1023 : Cond.static yL_all ∈ WT := WT_in (List.mem_of_getElem? (i := 1023) (by decide +kernel)) (by decide +kernel)
theorem w_1021 : Cond.code yL_isRefused cL_isRefused 13 (some .boolean) ∈ WT := WT_in (List.mem_of_getElem? (i := 1021) (by decide +kernel)) (by decide +kernel)
theorem w_1019 : Cond.methodLink RL 177 yL_isRefused ∈ WT := WT_in (List.mem_of_getElem? (i := 1019) (by decide +kernel)) (by decide +kernel)
theorem w_1020 : Cond.static yL_isRefused ∈ WT := WT_in (List.mem_of_getElem? (i := 1020) (by decide +kernel)) (by decide +kernel)
theorem w_988 : Cond.code yL_areShifts cL_areShifts 13 (some .boolean) ∈ WT := WT_in (List.mem_of_getElem? (i := 988) (by decide +kernel)) (by decide +kernel)
theorem w_986 : Cond.methodLink RL 199 yL_areShifts ∈ WT := WT_in (List.mem_of_getElem? (i := 986) (by decide +kernel)) (by decide +kernel)
theorem w_987 : Cond.static yL_areShifts ∈ WT := WT_in (List.mem_of_getElem? (i := 987) (by decide +kernel)) (by decide +kernel)
theorem w_1015 : Cond.code yL_areAlarms cL_areAlarms 10 (some .boolean) ∈ WT := WT_in (List.mem_of_getElem? (i := 1015) (by decide +kernel)) (by decide +kernel)
theorem w_1013 : Cond.methodLink RL 202 yL_areAlarms ∈ WT := WT_in (List.mem_of_getElem? (i := 1013) (by decide +kernel)) (by decide +kernel)
theorem w_1014 : Cond.static yL_areAlarms ∈ WT := WT_in (List.mem_of_getElem? (i := 1014) (by decide +kernel)) (by decide +kernel)
theorem w_1008 : Cond.code yL_isHour cL_isHour 18 (some .boolean) ∈ WT := WT_in (List.mem_of_getElem? (i := 1008) (by decide +kernel)) (by decide +kernel)
theorem w_1006 : Cond.methodLink RL 195 yL_isHour ∈ WT := WT_in (List.mem_of_getElem? (i := 1006) (by decide +kernel)) (by decide +kernel)
theorem w_1007 : Cond.static yL_isHour ∈ WT := WT_in (List.mem_of_getElem? (i := 1007) (by decide +kernel)) (by decide +kernel)
theorem w_1018 : Cond.code yL_isAnswered cL_isAnswered 10 (some .boolean) ∈ WT := WT_in (List.mem_of_getElem? (i := 1018) (by decide +kernel)) (by decide +kernel)
theorem w_1016 : Cond.methodLink RL 191 yL_isAnswered ∈ WT := WT_in (List.mem_of_getElem? (i := 1016) (by decide +kernel)) (by decide +kernel)
theorem w_1017 : Cond.static yL_isAnswered ∈ WT := WT_in (List.mem_of_getElem? (i := 1017) (by decide +kernel)) (by decide +kernel)
theorem w_991 : Cond.code yL_isSwapped cL_isSwapped 10 (some .boolean) ∈ WT := WT_in (List.mem_of_getElem? (i := 991) (by decide +kernel)) (by decide +kernel)
theorem w_989 : Cond.methodLink RL 187 yL_isSwapped ∈ WT := WT_in (List.mem_of_getElem? (i := 989) (by decide +kernel)) (by decide +kernel)
theorem w_990 : Cond.static yL_isSwapped ∈ WT := WT_in (List.mem_of_getElem? (i := 990) (by decide +kernel)) (by decide +kernel)
theorem w_985 : Cond.code yL_areValues cL_areValues 25 (some .boolean) ∈ WT := WT_in (List.mem_of_getElem? (i := 985) (by decide +kernel)) (by decide +kernel)
theorem w_983 : Cond.methodLink RL 184 yL_areValues ∈ WT := WT_in (List.mem_of_getElem? (i := 983) (by decide +kernel)) (by decide +kernel)
theorem w_984 : Cond.static yL_areValues ∈ WT := WT_in (List.mem_of_getElem? (i := 984) (by decide +kernel)) (by decide +kernel)
theorem w_868 : Cond.code yL_isText cL_isText 9 (some .boolean) ∈ WT := WT_in (List.mem_of_getElem? (i := 868) (by decide +kernel)) (by decide +kernel)
theorem w_866 : Cond.methodLink RL 181 yL_isText ∈ WT := WT_in (List.mem_of_getElem? (i := 866) (by decide +kernel)) (by decide +kernel)
theorem w_867 : Cond.static yL_isText ∈ WT := WT_in (List.mem_of_getElem? (i := 867) (by decide +kernel)) (by decide +kernel)
theorem hdV_X10_type : yX10_type.cls = RX10 ∧ yX10_type.cls ≠ "java/lang/invoke/MethodHandle" ∧ yX10_type.cls ≠ "java/lang/invoke/VarHandle" ∧ (parseMethodDescriptor yX10_type.desc).map (fun d => d.parameters.length) = some 1 := by decide +kernel
theorem hdV_X10_pass : yX10_pass.cls = RX10 ∧ yX10_pass.cls ≠ "java/lang/invoke/MethodHandle" ∧ yX10_pass.cls ≠ "java/lang/invoke/VarHandle" ∧ (parseMethodDescriptor yX10_pass.desc).map (fun d => d.parameters.length) = some 1 := by decide +kernel
theorem hdV_X10_log : yX10_log.cls = RX10 ∧ yX10_log.cls ≠ "java/lang/invoke/MethodHandle" ∧ yX10_log.cls ≠ "java/lang/invoke/VarHandle" ∧ (parseMethodDescriptor yX10_log.desc).map (fun d => d.parameters.length) = some 4 := by decide +kernel
theorem hdV_X10_addPerson : yX10_addPerson.cls = RX10 ∧ yX10_addPerson.cls ≠ "java/lang/invoke/MethodHandle" ∧ yX10_addPerson.cls ≠ "java/lang/invoke/VarHandle" ∧ (parseMethodDescriptor yX10_addPerson.desc).map (fun d => d.parameters.length) = some 0 := by decide +kernel
theorem hdV_X10_off : yX10_off.cls = RX10 ∧ yX10_off.cls ≠ "java/lang/invoke/MethodHandle" ∧ yX10_off.cls ≠ "java/lang/invoke/VarHandle" ∧ (parseMethodDescriptor yX10_off.desc).map (fun d => d.parameters.length) = some 2 := by decide +kernel
theorem hdV_X10_addRule : yX10_addRule.cls = RX10 ∧ yX10_addRule.cls ≠ "java/lang/invoke/MethodHandle" ∧ yX10_addRule.cls ≠ "java/lang/invoke/VarHandle" ∧ (parseMethodDescriptor yX10_addRule.desc).map (fun d => d.parameters.length) = some 3 := by decide +kernel
theorem hdV_X10_drop : yX10_drop.cls = RX10 ∧ yX10_drop.cls ≠ "java/lang/invoke/MethodHandle" ∧ yX10_drop.cls ≠ "java/lang/invoke/VarHandle" ∧ (parseMethodDescriptor yX10_drop.desc).map (fun d => d.parameters.length) = some 1 := by decide +kernel
theorem hdV_X10_silence : yX10_silence.cls = RX10 ∧ yX10_silence.cls ≠ "java/lang/invoke/MethodHandle" ∧ yX10_silence.cls ≠ "java/lang/invoke/VarHandle" ∧ (parseMethodDescriptor yX10_silence.desc).map (fun d => d.parameters.length) = some 3 := by decide +kernel
theorem hdV_X10_answer : yX10_answer.cls = RX10 ∧ yX10_answer.cls ≠ "java/lang/invoke/MethodHandle" ∧ yX10_answer.cls ≠ "java/lang/invoke/VarHandle" ∧ (parseMethodDescriptor yX10_answer.desc).map (fun d => d.parameters.length) = some 2 := by decide +kernel
theorem hdV_X10_swap : yX10_swap.cls = RX10 ∧ yX10_swap.cls ≠ "java/lang/invoke/MethodHandle" ∧ yX10_swap.cls ≠ "java/lang/invoke/VarHandle" ∧ (parseMethodDescriptor yX10_swap.desc).map (fun d => d.parameters.length) = some 2 := by decide +kernel
theorem hdV_X10_ask : yX10_ask.cls = RX10 ∧ yX10_ask.cls ≠ "java/lang/invoke/MethodHandle" ∧ yX10_ask.cls ≠ "java/lang/invoke/VarHandle" ∧ (parseMethodDescriptor yX10_ask.desc).map (fun d => d.parameters.length) = some 2 := by decide +kernel
theorem hdV_X10_askByCodes : yX10_askByCodes.cls = RX10 ∧ yX10_askByCodes.cls ≠ "java/lang/invoke/MethodHandle" ∧ yX10_askByCodes.cls ≠ "java/lang/invoke/VarHandle" ∧ (parseMethodDescriptor yX10_askByCodes.desc).map (fun d => d.parameters.length) = some 2 := by decide +kernel
theorem hdV_X10_planned : yX10_planned.cls = RX10 ∧ yX10_planned.cls ≠ "java/lang/invoke/MethodHandle" ∧ yX10_planned.cls ≠ "java/lang/invoke/VarHandle" ∧ (parseMethodDescriptor yX10_planned.desc).map (fun d => d.parameters.length) = some 1 := by decide +kernel
theorem hdV_X10_holder : yX10_holder.cls = RX10 ∧ yX10_holder.cls ≠ "java/lang/invoke/MethodHandle" ∧ yX10_holder.cls ≠ "java/lang/invoke/VarHandle" ∧ (parseMethodDescriptor yX10_holder.desc).map (fun d => d.parameters.length) = some 1 := by decide +kernel
theorem hdV_X10_nights : yX10_nights.cls = RX10 ∧ yX10_nights.cls ≠ "java/lang/invoke/MethodHandle" ∧ yX10_nights.cls ≠ "java/lang/invoke/VarHandle" ∧ (parseMethodDescriptor yX10_nights.desc).map (fun d => d.parameters.length) = some 1 := by decide +kernel
theorem hdV_X10_owes : yX10_owes.cls = RX10 ∧ yX10_owes.cls ≠ "java/lang/invoke/MethodHandle" ∧ yX10_owes.cls ≠ "java/lang/invoke/VarHandle" ∧ (parseMethodDescriptor yX10_owes.desc).map (fun d => d.parameters.length) = some 2 := by decide +kernel
theorem hdV_X10_inWindow : yX10_inWindow.cls = RX10 ∧ yX10_inWindow.cls ≠ "java/lang/invoke/MethodHandle" ∧ yX10_inWindow.cls ≠ "java/lang/invoke/VarHandle" ∧ (parseMethodDescriptor yX10_inWindow.desc).map (fun d => d.parameters.length) = some 1 := by decide +kernel
theorem hdV_X10_rises : yX10_rises.cls = RX10 ∧ yX10_rises.cls ≠ "java/lang/invoke/MethodHandle" ∧ yX10_rises.cls ≠ "java/lang/invoke/VarHandle" ∧ (parseMethodDescriptor yX10_rises.desc).map (fun d => d.parameters.length) = some 1 := by decide +kernel
theorem hdV_X10_risesAnew : yX10_risesAnew.cls = RX10 ∧ yX10_risesAnew.cls ≠ "java/lang/invoke/MethodHandle" ∧ yX10_risesAnew.cls ≠ "java/lang/invoke/VarHandle" ∧ (parseMethodDescriptor yX10_risesAnew.desc).map (fun d => d.parameters.length) = some 1 := by decide +kernel
theorem hdV_X10_alarm : yX10_alarm.cls = RX10 ∧ yX10_alarm.cls ≠ "java/lang/invoke/MethodHandle" ∧ yX10_alarm.cls ≠ "java/lang/invoke/VarHandle" ∧ (parseMethodDescriptor yX10_alarm.desc).map (fun d => d.parameters.length) = some 1 := by decide +kernel
theorem hdV_X10_woken : yX10_woken.cls = RX10 ∧ yX10_woken.cls ≠ "java/lang/invoke/MethodHandle" ∧ yX10_woken.cls ≠ "java/lang/invoke/VarHandle" ∧ (parseMethodDescriptor yX10_woken.desc).map (fun d => d.parameters.length) = some 1 := by decide +kernel
theorem hdV_X10_wokenAt : yX10_wokenAt.cls = RX10 ∧ yX10_wokenAt.cls ≠ "java/lang/invoke/MethodHandle" ∧ yX10_wokenAt.cls ≠ "java/lang/invoke/VarHandle" ∧ (parseMethodDescriptor yX10_wokenAt.desc).map (fun d => d.parameters.length) = some 1 := by decide +kernel
theorem hdV_X10_wouldRise : yX10_wouldRise.cls = RX10 ∧ yX10_wouldRise.cls ≠ "java/lang/invoke/MethodHandle" ∧ yX10_wouldRise.cls ≠ "java/lang/invoke/VarHandle" ∧ (parseMethodDescriptor yX10_wouldRise.desc).map (fun d => d.parameters.length) = some 1 := by decide +kernel
theorem hdV_X10_now : yX10_now.cls = RX10 ∧ yX10_now.cls ≠ "java/lang/invoke/MethodHandle" ∧ yX10_now.cls ≠ "java/lang/invoke/VarHandle" ∧ (parseMethodDescriptor yX10_now.desc).map (fun d => d.parameters.length) = some 0 := by decide +kernel
theorem hdV_X10_alarms : yX10_alarms.cls = RX10 ∧ yX10_alarms.cls ≠ "java/lang/invoke/MethodHandle" ∧ yX10_alarms.cls ≠ "java/lang/invoke/VarHandle" ∧ (parseMethodDescriptor yX10_alarms.desc).map (fun d => d.parameters.length) = some 0 := by decide +kernel
theorem hdV_X10_waiting : yX10_waiting.cls = RX10 ∧ yX10_waiting.cls ≠ "java/lang/invoke/MethodHandle" ∧ yX10_waiting.cls ≠ "java/lang/invoke/VarHandle" ∧ (parseMethodDescriptor yX10_waiting.desc).map (fun d => d.parameters.length) = some 0 := by decide +kernel
theorem hdV_X10_errorAt : yX10_errorAt.cls = RX10 ∧ yX10_errorAt.cls ≠ "java/lang/invoke/MethodHandle" ∧ yX10_errorAt.cls ≠ "java/lang/invoke/VarHandle" ∧ (parseMethodDescriptor yX10_errorAt.desc).map (fun d => d.parameters.length) = some 0 := by decide +kernel
theorem hdV_X10_next : yX10_next.cls = RX10 ∧ yX10_next.cls ≠ "java/lang/invoke/MethodHandle" ∧ yX10_next.cls ≠ "java/lang/invoke/VarHandle" ∧ (parseMethodDescriptor yX10_next.desc).map (fun d => d.parameters.length) = some 0 := by decide +kernel
theorem hdV_X10_clearText : yX10_clearText.cls = RX10 ∧ yX10_clearText.cls ≠ "java/lang/invoke/MethodHandle" ∧ yX10_clearText.cls ≠ "java/lang/invoke/VarHandle" ∧ (parseMethodDescriptor yX10_clearText.desc).map (fun d => d.parameters.length) = some 0 := by decide +kernel
theorem hdS_L_act : yL_act.cls ≠ "java/lang/invoke/MethodHandle" ∧ yL_act.cls ≠ "java/lang/invoke/VarHandle" ∧ (parseMethodDescriptor yL_act.desc).map (fun d => d.parameters.length) = some 6 := by decide +kernel
theorem hdS_L_told : yL_told.cls ≠ "java/lang/invoke/MethodHandle" ∧ yL_told.cls ≠ "java/lang/invoke/VarHandle" ∧ (parseMethodDescriptor yL_told.desc).map (fun d => d.parameters.length) = some 4 := by decide +kernel
theorem hdS_L_dice : yL_dice.cls ≠ "java/lang/invoke/MethodHandle" ∧ yL_dice.cls ≠ "java/lang/invoke/VarHandle" ∧ (parseMethodDescriptor yL_dice.desc).map (fun d => d.parameters.length) = some 2 := by decide +kernel
theorem hdS_L_code : yL_code.cls ≠ "java/lang/invoke/MethodHandle" ∧ yL_code.cls ≠ "java/lang/invoke/VarHandle" ∧ (parseMethodDescriptor yL_code.desc).map (fun d => d.parameters.length) = some 1 := by decide +kernel
theorem hdS_L_typed : yL_typed.cls ≠ "java/lang/invoke/MethodHandle" ∧ yL_typed.cls ≠ "java/lang/invoke/VarHandle" ∧ (parseMethodDescriptor yL_typed.desc).map (fun d => d.parameters.length) = some 3 := by decide +kernel
theorem hdS_L_says : yL_says.cls ≠ "java/lang/invoke/MethodHandle" ∧ yL_says.cls ≠ "java/lang/invoke/VarHandle" ∧ (parseMethodDescriptor yL_says.desc).map (fun d => d.parameters.length) = some 2 := by decide +kernel
theorem hdS_L_value : yL_value.cls ≠ "java/lang/invoke/MethodHandle" ∧ yL_value.cls ≠ "java/lang/invoke/VarHandle" ∧ (parseMethodDescriptor yL_value.desc).map (fun d => d.parameters.length) = some 7 := by decide +kernel
theorem hdS_L_swapped : yL_swapped.cls ≠ "java/lang/invoke/MethodHandle" ∧ yL_swapped.cls ≠ "java/lang/invoke/VarHandle" ∧ (parseMethodDescriptor yL_swapped.desc).map (fun d => d.parameters.length) = some 3 := by decide +kernel
theorem hdS_L_of : yL_of.cls ≠ "java/lang/invoke/MethodHandle" ∧ yL_of.cls ≠ "java/lang/invoke/VarHandle" ∧ (parseMethodDescriptor yL_of.desc).map (fun d => d.parameters.length) = some 4 := by decide +kernel
theorem hdS_L_all : yL_all.cls ≠ "java/lang/invoke/MethodHandle" ∧ yL_all.cls ≠ "java/lang/invoke/VarHandle" ∧ (parseMethodDescriptor yL_all.desc).map (fun d => d.parameters.length) = some 2 := by decide +kernel
theorem hdS_L_isRefused : yL_isRefused.cls ≠ "java/lang/invoke/MethodHandle" ∧ yL_isRefused.cls ≠ "java/lang/invoke/VarHandle" ∧ (parseMethodDescriptor yL_isRefused.desc).map (fun d => d.parameters.length) = some 4 := by decide +kernel
theorem hdS_L_areShifts : yL_areShifts.cls ≠ "java/lang/invoke/MethodHandle" ∧ yL_areShifts.cls ≠ "java/lang/invoke/VarHandle" ∧ (parseMethodDescriptor yL_areShifts.desc).map (fun d => d.parameters.length) = some 4 := by decide +kernel
theorem hdS_L_areAlarms : yL_areAlarms.cls ≠ "java/lang/invoke/MethodHandle" ∧ yL_areAlarms.cls ≠ "java/lang/invoke/VarHandle" ∧ (parseMethodDescriptor yL_areAlarms.desc).map (fun d => d.parameters.length) = some 4 := by decide +kernel
theorem hdS_L_isHour : yL_isHour.cls ≠ "java/lang/invoke/MethodHandle" ∧ yL_isHour.cls ≠ "java/lang/invoke/VarHandle" ∧ (parseMethodDescriptor yL_isHour.desc).map (fun d => d.parameters.length) = some 5 := by decide +kernel
theorem hdS_L_isAnswered : yL_isAnswered.cls ≠ "java/lang/invoke/MethodHandle" ∧ yL_isAnswered.cls ≠ "java/lang/invoke/VarHandle" ∧ (parseMethodDescriptor yL_isAnswered.desc).map (fun d => d.parameters.length) = some 6 := by decide +kernel
theorem hdS_L_isSwapped : yL_isSwapped.cls ≠ "java/lang/invoke/MethodHandle" ∧ yL_isSwapped.cls ≠ "java/lang/invoke/VarHandle" ∧ (parseMethodDescriptor yL_isSwapped.desc).map (fun d => d.parameters.length) = some 5 := by decide +kernel
theorem hdS_L_areValues : yL_areValues.cls ≠ "java/lang/invoke/MethodHandle" ∧ yL_areValues.cls ≠ "java/lang/invoke/VarHandle" ∧ (parseMethodDescriptor yL_areValues.desc).map (fun d => d.parameters.length) = some 4 := by decide +kernel
theorem hdS_L_isText : yL_isText.cls ≠ "java/lang/invoke/MethodHandle" ∧ yL_isText.cls ≠ "java/lang/invoke/VarHandle" ∧ (parseMethodDescriptor yL_isText.desc).map (fun d => d.parameters.length) = some 4 := by decide +kernel
section CE4
variable {D : DD} {B : Nat} {σ : St}
theorem ca_39 (j : Nat) (x : Int32) : cells D B true (sA σ 39 j x) = (cells D B true σ).set 39 (.inl (D.2 1, 4, .inl (ups (gA σ 39) j x))) := rfl
theorem ca_40 (j : Nat) (x : Int32) : cells D B true (sA σ 40 j x) = (cells D B true σ).set 40 (.inl (D.2 1, 60, .inl (ups (gA σ 40) j x))) := rfl
theorem ca_41 (j : Nat) (x : Int32) : cells D B true (sA σ 41 j x) = (cells D B true σ).set 41 (.inl (D.2 1, 64, .inl (ups (gA σ 41) j x))) := rfl
theorem ca_42 (j : Nat) (x : Int32) : cells D B true (sA σ 42 j x) = (cells D B true σ).set 42 (.inl (D.2 1, 48, .inl (ups (gA σ 42) j x))) := rfl
theorem ca_43 (j : Nat) (x : Int32) : cells D B true (sA σ 43 j x) = (cells D B true σ).set 43 (.inl (D.2 1, 40, .inl (ups (gA σ 43) j x))) := rfl
theorem ca_44 (j : Nat) (x : Int32) : cells D B true (sA σ 44 j x) = (cells D B true σ).set 44 (.inl (D.2 1, 64, .inl (ups (gA σ 44) j x))) := rfl
end CE4
