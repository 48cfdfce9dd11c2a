/-! more words -/
theorem q86 : Cond.initialized RL ∈ lw_all := lw_q 86 (by decide +kernel) rfl
theorem q113 : Cond.classLink RL 8 RX7 ∈ lw_all := lw_q 113 (by decide +kernel) rfl
theorem q114 : Cond.instantiable RX7 7 ∈ lw_all := lw_q 114 (by decide +kernel) rfl
theorem q115 : Cond.methodLink RL 103 yX7_init ∈ lw_all := lw_q 115 (by decide +kernel) rfl
theorem q116 : Cond.instanceMethod yX7_init ∈ lw_all := lw_q 116 (by decide +kernel) rfl
theorem q117 : Cond.code yX7_init cX7_init 1 none ∈ lw_all := lw_q 117 (by decide +kernel) rfl
theorem q383 : Cond.methodLink RL 107 yX7_feed ∈ lw_all := lw_q 383 (by decide +kernel) rfl
theorem q384 : Cond.instanceMethod yX7_feed ∈ lw_all := lw_q 384 (by decide +kernel) rfl
theorem q385 : Cond.selects RX7 yX7_feed yX7_feed ∈ lw_all := lw_q 385 (by decide +kernel) rfl
theorem q386 : Cond.code yX7_feed cX7_feed 6 (some .int) ∈ lw_all := lw_q 386 (by decide +kernel) rfl
theorem q395 : Cond.methodLink RL 121 yX7_errorPosition ∈ lw_all := lw_q 395 (by decide +kernel) rfl
theorem q396 : Cond.instanceMethod yX7_errorPosition ∈ lw_all := lw_q 396 (by decide +kernel) rfl
theorem q397 : Cond.selects RX7 yX7_errorPosition yX7_errorPosition ∈ lw_all := lw_q 397 (by decide +kernel) rfl
theorem q398 : Cond.code yX7_errorPosition cX7_errorPosition 1 (some .int) ∈ lw_all := lw_q 398 (by decide +kernel) rfl
theorem q399 : Cond.methodLink RL 150 yX7_ring ∈ lw_all := lw_q 399 (by decide +kernel) rfl
theorem q400 : Cond.instanceMethod yX7_ring ∈ lw_all := lw_q 400 (by decide +kernel) rfl
theorem q401 : Cond.selects RX7 yX7_ring yX7_ring ∈ lw_all := lw_q 401 (by decide +kernel) rfl
theorem q402 : Cond.code yX7_ring cX7_ring 5 (some .int) ∈ lw_all := lw_q 402 (by decide +kernel) rfl
theorem q424 : Cond.methodLink RL 157 yX7_longest ∈ lw_all := lw_q 424 (by decide +kernel) rfl
theorem q425 : Cond.instanceMethod yX7_longest ∈ lw_all := lw_q 425 (by decide +kernel) rfl
theorem q426 : Cond.selects RX7 yX7_longest yX7_longest ∈ lw_all := lw_q 426 (by decide +kernel) rfl
theorem q427 : Cond.code yX7_longest cX7_longest 5 (some .int) ∈ lw_all := lw_q 427 (by decide +kernel) rfl
theorem q428 : Cond.methodLink RL 161 yX7_worst ∈ lw_all := lw_q 428 (by decide +kernel) rfl
theorem q429 : Cond.instanceMethod yX7_worst ∈ lw_all := lw_q 429 (by decide +kernel) rfl
theorem q430 : Cond.selects RX7 yX7_worst yX7_worst ∈ lw_all := lw_q 430 (by decide +kernel) rfl
theorem q431 : Cond.code yX7_worst cX7_worst 5 (some .int) ∈ lw_all := lw_q 431 (by decide +kernel) rfl
theorem q443 : Cond.methodLink RL 184 yX7_meanReading ∈ lw_all := lw_q 443 (by decide +kernel) rfl
theorem q444 : Cond.instanceMethod yX7_meanReading ∈ lw_all := lw_q 444 (by decide +kernel) rfl
theorem q445 : Cond.selects RX7 yX7_meanReading yX7_meanReading ∈ lw_all := lw_q 445 (by decide +kernel) rfl
theorem q446 : Cond.code yX7_meanReading cX7_meanReading 5 (some .double) ∈ lw_all := lw_q 446 (by decide +kernel) rfl
theorem q451 : Cond.methodLink RL 189 yX7_wholeShare ∈ lw_all := lw_q 451 (by decide +kernel) rfl
theorem q452 : Cond.instanceMethod yX7_wholeShare ∈ lw_all := lw_q 452 (by decide +kernel) rfl
theorem q453 : Cond.selects RX7 yX7_wholeShare yX7_wholeShare ∈ lw_all := lw_q 453 (by decide +kernel) rfl
theorem q454 : Cond.code yX7_wholeShare cX7_wholeShare 2 (some .float) ∈ lw_all := lw_q 454 (by decide +kernel) rfl
theorem q460 : Cond.methodLink RL 228 yX7_formattedByte ∈ lw_all := lw_q 460 (by decide +kernel) rfl
theorem q461 : Cond.instanceMethod yX7_formattedByte ∈ lw_all := lw_q 461 (by decide +kernel) rfl
theorem q462 : Cond.selects RX7 yX7_formattedByte yX7_formattedByte ∈ lw_all := lw_q 462 (by decide +kernel) rfl
theorem q463 : Cond.code yX7_formattedByte cX7_formattedByte 2 (some .int) ∈ lw_all := lw_q 463 (by decide +kernel) rfl
theorem q501 : Cond.methodLink RL 232 yX7_undoCount ∈ lw_all := lw_q 501 (by decide +kernel) rfl
theorem q502 : Cond.instanceMethod yX7_undoCount ∈ lw_all := lw_q 502 (by decide +kernel) rfl
theorem q503 : Cond.selects RX7 yX7_undoCount yX7_undoCount ∈ lw_all := lw_q 503 (by decide +kernel) rfl
theorem q504 : Cond.code yX7_undoCount cX7_undoCount 1 (some .int) ∈ lw_all := lw_q 504 (by decide +kernel) rfl
theorem q505 : Cond.methodLink RL 236 yX7_undo ∈ lw_all := lw_q 505 (by decide +kernel) rfl
theorem q506 : Cond.instanceMethod yX7_undo ∈ lw_all := lw_q 506 (by decide +kernel) rfl
theorem q507 : Cond.selects RX7 yX7_undo yX7_undo ∈ lw_all := lw_q 507 (by decide +kernel) rfl
theorem q508 : Cond.code yX7_undo cX7_undo 1 (some .int) ∈ lw_all := lw_q 508 (by decide +kernel) rfl
theorem q536 : Cond.methodLink RL 240 yX7_saveSnapshot ∈ lw_all := lw_q 536 (by decide +kernel) rfl
theorem q537 : Cond.instanceMethod yX7_saveSnapshot ∈ lw_all := lw_q 537 (by decide +kernel) rfl
theorem q538 : Cond.selects RX7 yX7_saveSnapshot yX7_saveSnapshot ∈ lw_all := lw_q 538 (by decide +kernel) rfl
theorem q539 : Cond.code yX7_saveSnapshot cX7_saveSnapshot 1 none ∈ lw_all := lw_q 539 (by decide +kernel) rfl
theorem q541 : Cond.methodLink RL 244 yX7_restoreSnapshot ∈ lw_all := lw_q 541 (by decide +kernel) rfl
theorem q542 : Cond.instanceMethod yX7_restoreSnapshot ∈ lw_all := lw_q 542 (by decide +kernel) rfl
theorem q543 : Cond.selects RX7 yX7_restoreSnapshot yX7_restoreSnapshot ∈ lw_all := lw_q 543 (by decide +kernel) rfl
theorem q544 : Cond.code yX7_restoreSnapshot cX7_restoreSnapshot 1 (some .boolean) ∈ lw_all := lw_q 544 (by decide +kernel) rfl
theorem q549 : Cond.methodLink RL 111 yL_load ∈ lw_all := lw_q 549 (by decide +kernel) rfl
theorem q550 : Cond.static yL_load ∈ lw_all := lw_q 550 (by decide +kernel) rfl
theorem q551 : Cond.codeWith yL_load cL_load 4 (some .int) [(0, 9, 12, 13)] ∈ lw_all := lw_q 551 (by decide +kernel) rfl
theorem q816 : Cond.methodLink RL 125 yL_size ∈ lw_all := lw_q 816 (by decide +kernel) rfl
theorem q817 : Cond.static yL_size ∈ lw_all := lw_q 817 (by decide +kernel) rfl
theorem q818 : Cond.codeWith yL_size cL_size 4 (some .int) [(0, 9, 12, 18)] ∈ lw_all := lw_q 818 (by decide +kernel) rfl
theorem q844 : Cond.methodLink RL 128 yL_pressure ∈ lw_all := lw_q 844 (by decide +kernel) rfl
theorem q845 : Cond.static yL_pressure ∈ lw_all := lw_q 845 (by decide +kernel) rfl
theorem q846 : Cond.codeWith yL_pressure cL_pressure 4 (some .int) [(0, 9, 12, 18)] ∈ lw_all := lw_q 846 (by decide +kernel) rfl
theorem q857 : Cond.methodLink RL 131 yL_leg ∈ lw_all := lw_q 857 (by decide +kernel) rfl
theorem q858 : Cond.static yL_leg ∈ lw_all := lw_q 858 (by decide +kernel) rfl
theorem q859 : Cond.codeWith yL_leg cL_leg 5 (some .int) [(0, 10, 13, 18)] ∈ lw_all := lw_q 859 (by decide +kernel) rfl
theorem q870 : Cond.methodLink RL 135 yL_account ∈ lw_all := lw_q 870 (by decide +kernel) rfl
theorem q871 : Cond.static yL_account ∈ lw_all := lw_q 871 (by decide +kernel) rfl
theorem q872 : Cond.codeWith yL_account cL_account 5 (some .int) [(0, 9, 12, 18)] ∈ lw_all := lw_q 872 (by decide +kernel) rfl
theorem q879 : Cond.methodLink RL 138 yL_tube ∈ lw_all := lw_q 879 (by decide +kernel) rfl
theorem q880 : Cond.static yL_tube ∈ lw_all := lw_q 880 (by decide +kernel) rfl
theorem q881 : Cond.codeWith yL_tube cL_tube 5 (some .int) [(0, 10, 13, 18)] ∈ lw_all := lw_q 881 (by decide +kernel) rfl
theorem q897 : Cond.methodLink RL 141 yL_told ∈ lw_all := lw_q 897 (by decide +kernel) rfl
theorem q898 : Cond.static yL_told ∈ lw_all := lw_q 898 (by decide +kernel) rfl
theorem q899 : Cond.codeWith yL_told cL_told 4 (some .int) [(0, 9, 12, 18)] ∈ lw_all := lw_q 899 (by decide +kernel) rfl
theorem q906 : Cond.methodLink RL 144 yL_off ∈ lw_all := lw_q 906 (by decide +kernel) rfl
theorem q907 : Cond.static yL_off ∈ lw_all := lw_q 907 (by decide +kernel) rfl
theorem q908 : Cond.codeWith yL_off cL_off 4 (some .int) [(0, 9, 12, 18)] ∈ lw_all := lw_q 908 (by decide +kernel) rfl
theorem q913 : Cond.methodLink RL 147 yL_difference ∈ lw_all := lw_q 913 (by decide +kernel) rfl
theorem q914 : Cond.static yL_difference ∈ lw_all := lw_q 914 (by decide +kernel) rfl
theorem q915 : Cond.codeWith yL_difference cL_difference 5 (some .int) [(0, 10, 13, 18)] ∈ lw_all := lw_q 915 (by decide +kernel) rfl
theorem q920 : Cond.methodLink RL 154 yL_room ∈ lw_all := lw_q 920 (by decide +kernel) rfl
theorem q921 : Cond.static yL_room ∈ lw_all := lw_q 921 (by decide +kernel) rfl
theorem q922 : Cond.codeWith yL_room cL_room 4 (some .int) [(0, 9, 12, 18)] ∈ lw_all := lw_q 922 (by decide +kernel) rfl
theorem q928 : Cond.methodLink RL 165 yL_agree ∈ lw_all := lw_q 928 (by decide +kernel) rfl
theorem q929 : Cond.static yL_agree ∈ lw_all := lw_q 929 (by decide +kernel) rfl
theorem q930 : Cond.codeWith yL_agree cL_agree 5 (some .int) [(0, 17, 20, 18), (0, 17, 24, 13)] ∈ lw_all := lw_q 930 (by decide +kernel) rfl
theorem q940 : Cond.methodLink RL 168 yL_wouldBreak ∈ lw_all := lw_q 940 (by decide +kernel) rfl
theorem q941 : Cond.static yL_wouldBreak ∈ lw_all := lw_q 941 (by decide +kernel) rfl
theorem q942 : Cond.codeWith yL_wouldBreak cL_wouldBreak 5 (some .int) [(0, 10, 13, 18), (0, 10, 17, 13)] ∈ lw_all := lw_q 942 (by decide +kernel) rfl
theorem q952 : Cond.methodLink RL 171 yL_readingWith ∈ lw_all := lw_q 952 (by decide +kernel) rfl
theorem q953 : Cond.static yL_readingWith ∈ lw_all := lw_q 953 (by decide +kernel) rfl
theorem q954 : Cond.codeWith yL_readingWith cL_readingWith 6 (some .int) [(0, 12, 15, 18), (0, 12, 19, 13)] ∈ lw_all := lw_q 954 (by decide +kernel) rfl
theorem q959 : Cond.methodLink RL 175 yL_breaksIn ∈ lw_all := lw_q 959 (by decide +kernel) rfl
theorem q960 : Cond.static yL_breaksIn ∈ lw_all := lw_q 960 (by decide +kernel) rfl
theorem q961 : Cond.codeWith yL_breaksIn cL_breaksIn 5 (some .int) [(0, 10, 13, 18), (0, 10, 17, 13)] ∈ lw_all := lw_q 961 (by decide +kernel) rfl
theorem q966 : Cond.methodLink RL 178 yL_bestSlant ∈ lw_all := lw_q 966 (by decide +kernel) rfl
theorem q967 : Cond.static yL_bestSlant ∈ lw_all := lw_q 967 (by decide +kernel) rfl
theorem q968 : Cond.codeWith yL_bestSlant cL_bestSlant 4 (some .int) [(0, 9, 12, 18)] ∈ lw_all := lw_q 968 (by decide +kernel) rfl
theorem q973 : Cond.methodLink RL 181 yL_lostWith ∈ lw_all := lw_q 973 (by decide +kernel) rfl
theorem q974 : Cond.static yL_lostWith ∈ lw_all := lw_q 974 (by decide +kernel) rfl
theorem q975 : Cond.codeWith yL_lostWith cL_lostWith 4 (some .int) [(0, 9, 12, 13)] ∈ lw_all := lw_q 975 (by decide +kernel) rfl
theorem q980 : Cond.methodLink RL 194 yL_setPressure ∈ lw_all := lw_q 980 (by decide +kernel) rfl
theorem q981 : Cond.static yL_setPressure ∈ lw_all := lw_q 981 (by decide +kernel) rfl
theorem q982 : Cond.codeWith yL_setPressure cL_setPressure 5 (some .int) [(0, 10, 13, 18), (0, 10, 17, 13)] ∈ lw_all := lw_q 982 (by decide +kernel) rfl
theorem q991 : Cond.methodLink RL 197 yL_setReference ∈ lw_all := lw_q 991 (by decide +kernel) rfl
theorem q992 : Cond.static yL_setReference ∈ lw_all := lw_q 992 (by decide +kernel) rfl
theorem q993 : Cond.codeWith yL_setReference cL_setReference 4 (some .int) [(0, 9, 12, 13)] ∈ lw_all := lw_q 993 (by decide +kernel) rfl
theorem q998 : Cond.methodLink RL 200 yL_sweep ∈ lw_all := lw_q 998 (by decide +kernel) rfl
theorem q999 : Cond.static yL_sweep ∈ lw_all := lw_q 999 (by decide +kernel) rfl
theorem q1000 : Cond.codeWith yL_sweep cL_sweep 6 (some .int) [(0, 12, 15, 18), (0, 12, 19, 13)] ∈ lw_all := lw_q 1000 (by decide +kernel) rfl
theorem q1005 : Cond.methodLink RL 203 yL_setSlant ∈ lw_all := lw_q 1005 (by decide +kernel) rfl
theorem q1006 : Cond.static yL_setSlant ∈ lw_all := lw_q 1006 (by decide +kernel) rfl
theorem q1007 : Cond.codeWith yL_setSlant cL_setSlant 5 (some .int) [(0, 10, 13, 18), (0, 10, 17, 13)] ∈ lw_all := lw_q 1007 (by decide +kernel) rfl
theorem q1012 : Cond.methodLink RL 206 yL_setMark ∈ lw_all := lw_q 1012 (by decide +kernel) rfl
theorem q1013 : Cond.static yL_setMark ∈ lw_all := lw_q 1013 (by decide +kernel) rfl
theorem q1014 : Cond.codeWith yL_setMark cL_setMark 4 (some .int) [(0, 9, 12, 18)] ∈ lw_all := lw_q 1014 (by decide +kernel) rfl
theorem q1020 : Cond.methodLink RL 209 yL_setCurve ∈ lw_all := lw_q 1020 (by decide +kernel) rfl
theorem q1021 : Cond.static yL_setCurve ∈ lw_all := lw_q 1021 (by decide +kernel) rfl
theorem q1022 : Cond.codeWith yL_setCurve cL_setCurve 5 (some .int) [(0, 10, 13, 18), (0, 10, 17, 13)] ∈ lw_all := lw_q 1022 (by decide +kernel) rfl
theorem q1027 : Cond.methodLink RL 212 yL_mend ∈ lw_all := lw_q 1027 (by decide +kernel) rfl
theorem q1028 : Cond.static yL_mend ∈ lw_all := lw_q 1028 (by decide +kernel) rfl
theorem q1029 : Cond.codeWith yL_mend cL_mend 4 (some .int) [(0, 9, 12, 18)] ∈ lw_all := lw_q 1029 (by decide +kernel) rfl
theorem q1034 : Cond.methodLink RL 215 yL_refill ∈ lw_all := lw_q 1034 (by decide +kernel) rfl
theorem q1035 : Cond.static yL_refill ∈ lw_all := lw_q 1035 (by decide +kernel) rfl
theorem q1036 : Cond.codeWith yL_refill cL_refill 5 (some .int) [(0, 10, 13, 18), (0, 10, 17, 13)] ∈ lw_all := lw_q 1036 (by decide +kernel) rfl
theorem q1043 : Cond.methodLink RL 218 yL_addTube ∈ lw_all := lw_q 1043 (by decide +kernel) rfl
theorem q1044 : Cond.static yL_addTube ∈ lw_all := lw_q 1044 (by decide +kernel) rfl
theorem q1045 : Cond.codeWith yL_addTube cL_addTube 8 (some .int) [(0, 16, 19, 18), (0, 16, 23, 13)] ∈ lw_all := lw_q 1045 (by decide +kernel) rfl
theorem q1053 : Cond.methodLink RL 222 yL_dropTube ∈ lw_all := lw_q 1053 (by decide +kernel) rfl
theorem q1054 : Cond.static yL_dropTube ∈ lw_all := lw_q 1054 (by decide +kernel) rfl
theorem q1055 : Cond.codeWith yL_dropTube cL_dropTube 4 (some .int) [(0, 9, 12, 18)] ∈ lw_all := lw_q 1055 (by decide +kernel) rfl
theorem q1064 : Cond.methodLink RL 225 yL_format ∈ lw_all := lw_q 1064 (by decide +kernel) rfl
theorem q1065 : Cond.static yL_format ∈ lw_all := lw_q 1065 (by decide +kernel) rfl
theorem q1066 : Cond.codeWith yL_format cL_format 4 (some .int) [(0, 9, 12, 18)] ∈ lw_all := lw_q 1066 (by decide +kernel) rfl
theorem q1288 : Cond.methodLink RL 249 yL_query ∈ lw_all := lw_q 1288 (by decide +kernel) rfl
theorem q1289 : Cond.static yL_query ∈ lw_all := lw_q 1289 (by decide +kernel) rfl
theorem q1290 : Cond.codeWith yL_query cL_query 4 (some .int) [(0, 9, 12, 13)] ∈ lw_all := lw_q 1290 (by decide +kernel) rfl
theorem q1380 : Cond.methodLink RL 117 yX8_thrown ∈ lw_all := lw_q 1380 (by decide +kernel) rfl
theorem q1381 : Cond.instanceMethod yX8_thrown ∈ lw_all := lw_q 1381 (by decide +kernel) rfl
theorem q1382 : Cond.selects RX8 yX8_thrown yX8_thrown ∈ lw_all := lw_q 1382 (by decide +kernel) rfl
theorem q1383 : Cond.code yX8_thrown cX8_thrown 1 (some .int) ∈ lw_all := lw_q 1383 (by decide +kernel) rfl
theorem q1384 : Cond.classLink RL 104 RX8 ∈ lw_all := lw_q 1384 (by decide +kernel) rfl
theorem q1385 : Cond.instantiable RX8 29 ∈ lw_all := lw_q 1385 (by decide +kernel) rfl
theorem q1386 : Cond.methodLink RL 106 yX8_init ∈ lw_all := lw_q 1386 (by decide +kernel) rfl
theorem q1387 : Cond.instanceMethod yX8_init ∈ lw_all := lw_q 1387 (by decide +kernel) rfl
theorem q1388 : Cond.code yX8_init cX8_init 1 none ∈ lw_all := lw_q 1388 (by decide +kernel) rfl
theorem q1488 : Cond.methodLink RL 110 yX8_feed ∈ lw_all := lw_q 1488 (by decide +kernel) rfl
theorem q1489 : Cond.instanceMethod yX8_feed ∈ lw_all := lw_q 1489 (by decide +kernel) rfl
theorem q1490 : Cond.selects RX8 yX8_feed yX8_feed ∈ lw_all := lw_q 1490 (by decide +kernel) rfl
theorem q1491 : Cond.code yX8_feed cX8_feed 6 (some .int) ∈ lw_all := lw_q 1491 (by decide +kernel) rfl
theorem q1496 : Cond.methodLink RL 124 yX8_errorPosition ∈ lw_all := lw_q 1496 (by decide +kernel) rfl
theorem q1497 : Cond.instanceMethod yX8_errorPosition ∈ lw_all := lw_q 1497 (by decide +kernel) rfl
theorem q1498 : Cond.selects RX8 yX8_errorPosition yX8_errorPosition ∈ lw_all := lw_q 1498 (by decide +kernel) rfl
theorem q1499 : Cond.code yX8_errorPosition cX8_errorPosition 1 (some .int) ∈ lw_all := lw_q 1499 (by decide +kernel) rfl
theorem q1500 : Cond.methodLink RL 116 yX8_load ∈ lw_all := lw_q 1500 (by decide +kernel) rfl
theorem q1501 : Cond.instanceMethod yX8_load ∈ lw_all := lw_q 1501 (by decide +kernel) rfl
theorem q1502 : Cond.selects RX8 yX8_load yX8_load ∈ lw_all := lw_q 1502 (by decide +kernel) rfl
theorem q1503 : Cond.code yX8_load cX8_load 3 (some .int) ∈ lw_all := lw_q 1503 (by decide +kernel) rfl
theorem q1676 : Cond.methodLink RL 127 yX8_size ∈ lw_all := lw_q 1676 (by decide +kernel) rfl
theorem q1677 : Cond.instanceMethod yX8_size ∈ lw_all := lw_q 1677 (by decide +kernel) rfl
theorem q1678 : Cond.selects RX8 yX8_size yX8_size ∈ lw_all := lw_q 1678 (by decide +kernel) rfl
theorem q1679 : Cond.code yX8_size cX8_size 2 (some .int) ∈ lw_all := lw_q 1679 (by decide +kernel) rfl
theorem q1685 : Cond.methodLink RL 130 yX8_pressure ∈ lw_all := lw_q 1685 (by decide +kernel) rfl
theorem q1686 : Cond.instanceMethod yX8_pressure ∈ lw_all := lw_q 1686 (by decide +kernel) rfl
theorem q1687 : Cond.selects RX8 yX8_pressure yX8_pressure ∈ lw_all := lw_q 1687 (by decide +kernel) rfl
theorem q1688 : Cond.code yX8_pressure cX8_pressure 2 (some .int) ∈ lw_all := lw_q 1688 (by decide +kernel) rfl
theorem q1693 : Cond.methodLink RL 134 yX8_leg ∈ lw_all := lw_q 1693 (by decide +kernel) rfl
theorem q1694 : Cond.instanceMethod yX8_leg ∈ lw_all := lw_q 1694 (by decide +kernel) rfl
theorem q1695 : Cond.selects RX8 yX8_leg yX8_leg ∈ lw_all := lw_q 1695 (by decide +kernel) rfl
theorem q1696 : Cond.code yX8_leg cX8_leg 3 (some .int) ∈ lw_all := lw_q 1696 (by decide +kernel) rfl
theorem q1701 : Cond.methodLink RL 137 yX8_account ∈ lw_all := lw_q 1701 (by decide +kernel) rfl
theorem q1702 : Cond.instanceMethod yX8_account ∈ lw_all := lw_q 1702 (by decide +kernel) rfl
theorem q1703 : Cond.selects RX8 yX8_account yX8_account ∈ lw_all := lw_q 1703 (by decide +kernel) rfl
theorem q1704 : Cond.code yX8_account cX8_account 3 (some .long) ∈ lw_all := lw_q 1704 (by decide +kernel) rfl
theorem q1710 : Cond.methodLink RL 140 yX8_tube ∈ lw_all := lw_q 1710 (by decide +kernel) rfl
theorem q1711 : Cond.instanceMethod yX8_tube ∈ lw_all := lw_q 1711 (by decide +kernel) rfl
theorem q1712 : Cond.selects RX8 yX8_tube yX8_tube ∈ lw_all := lw_q 1712 (by decide +kernel) rfl
theorem q1713 : Cond.code yX8_tube cX8_tube 3 (some .int) ∈ lw_all := lw_q 1713 (by decide +kernel) rfl
theorem q1727 : Cond.methodLink RL 143 yX8_told ∈ lw_all := lw_q 1727 (by decide +kernel) rfl
theorem q1728 : Cond.instanceMethod yX8_told ∈ lw_all := lw_q 1728 (by decide +kernel) rfl
theorem q1729 : Cond.selects RX8 yX8_told yX8_told ∈ lw_all := lw_q 1729 (by decide +kernel) rfl
theorem q1730 : Cond.code yX8_told cX8_told 2 (some .int) ∈ lw_all := lw_q 1730 (by decide +kernel) rfl
theorem q1740 : Cond.methodLink RL 146 yX8_off ∈ lw_all := lw_q 1740 (by decide +kernel) rfl
theorem q1741 : Cond.instanceMethod yX8_off ∈ lw_all := lw_q 1741 (by decide +kernel) rfl
theorem q1742 : Cond.selects RX8 yX8_off yX8_off ∈ lw_all := lw_q 1742 (by decide +kernel) rfl
theorem q1743 : Cond.code yX8_off cX8_off 2 (some .int) ∈ lw_all := lw_q 1743 (by decide +kernel) rfl
theorem q1748 : Cond.methodLink RL 149 yX8_difference ∈ lw_all := lw_q 1748 (by decide +kernel) rfl
theorem q1749 : Cond.instanceMethod yX8_difference ∈ lw_all := lw_q 1749 (by decide +kernel) rfl
theorem q1750 : Cond.selects RX8 yX8_difference yX8_difference ∈ lw_all := lw_q 1750 (by decide +kernel) rfl
theorem q1751 : Cond.code yX8_difference cX8_difference 3 (some .int) ∈ lw_all := lw_q 1751 (by decide +kernel) rfl
theorem q1756 : Cond.methodLink RL 153 yX8_ring ∈ lw_all := lw_q 1756 (by decide +kernel) rfl
theorem q1757 : Cond.instanceMethod yX8_ring ∈ lw_all := lw_q 1757 (by decide +kernel) rfl
theorem q1758 : Cond.selects RX8 yX8_ring yX8_ring ∈ lw_all := lw_q 1758 (by decide +kernel) rfl
theorem q1759 : Cond.code yX8_ring cX8_ring 5 (some .int) ∈ lw_all := lw_q 1759 (by decide +kernel) rfl
theorem q1764 : Cond.methodLink RL 156 yX8_room ∈ lw_all := lw_q 1764 (by decide +kernel) rfl
theorem q1765 : Cond.instanceMethod yX8_room ∈ lw_all := lw_q 1765 (by decide +kernel) rfl
theorem q1766 : Cond.selects RX8 yX8_room yX8_room ∈ lw_all := lw_q 1766 (by decide +kernel) rfl
theorem q1767 : Cond.code yX8_room cX8_room 2 (some .int) ∈ lw_all := lw_q 1767 (by decide +kernel) rfl
theorem q1768 : Cond.methodLink RL 160 yX8_longest ∈ lw_all := lw_q 1768 (by decide +kernel) rfl
theorem q1769 : Cond.instanceMethod yX8_longest ∈ lw_all := lw_q 1769 (by decide +kernel) rfl
theorem q1770 : Cond.selects RX8 yX8_longest yX8_longest ∈ lw_all := lw_q 1770 (by decide +kernel) rfl
theorem q1771 : Cond.code yX8_longest cX8_longest 3 (some .int) ∈ lw_all := lw_q 1771 (by decide +kernel) rfl
theorem q1772 : Cond.methodLink RL 164 yX8_worst ∈ lw_all := lw_q 1772 (by decide +kernel) rfl
theorem q1773 : Cond.instanceMethod yX8_worst ∈ lw_all := lw_q 1773 (by decide +kernel) rfl
theorem q1774 : Cond.selects RX8 yX8_worst yX8_worst ∈ lw_all := lw_q 1774 (by decide +kernel) rfl
theorem q1775 : Cond.code yX8_worst cX8_worst 3 (some .int) ∈ lw_all := lw_q 1775 (by decide +kernel) rfl
theorem q1779 : Cond.methodLink RL 167 yX8_agree ∈ lw_all := lw_q 1779 (by decide +kernel) rfl
theorem q1780 : Cond.instanceMethod yX8_agree ∈ lw_all := lw_q 1780 (by decide +kernel) rfl
theorem q1781 : Cond.selects RX8 yX8_agree yX8_agree ∈ lw_all := lw_q 1781 (by decide +kernel) rfl
theorem q1782 : Cond.code yX8_agree cX8_agree 5 (some .boolean) ∈ lw_all := lw_q 1782 (by decide +kernel) rfl
theorem q1787 : Cond.methodLink RL 170 yX8_wouldBreak ∈ lw_all := lw_q 1787 (by decide +kernel) rfl
theorem q1788 : Cond.instanceMethod yX8_wouldBreak ∈ lw_all := lw_q 1788 (by decide +kernel) rfl
theorem q1789 : Cond.selects RX8 yX8_wouldBreak yX8_wouldBreak ∈ lw_all := lw_q 1789 (by decide +kernel) rfl
theorem q1790 : Cond.code yX8_wouldBreak cX8_wouldBreak 5 (some .int) ∈ lw_all := lw_q 1790 (by decide +kernel) rfl
theorem q1795 : Cond.methodLink RL 174 yX8_readingWith ∈ lw_all := lw_q 1795 (by decide +kernel) rfl
theorem q1796 : Cond.instanceMethod yX8_readingWith ∈ lw_all := lw_q 1796 (by decide +kernel) rfl
theorem q1797 : Cond.selects RX8 yX8_readingWith yX8_readingWith ∈ lw_all := lw_q 1797 (by decide +kernel) rfl
theorem q1798 : Cond.code yX8_readingWith cX8_readingWith 6 (some .int) ∈ lw_all := lw_q 1798 (by decide +kernel) rfl
theorem q1799 : Cond.methodLink RL 177 yX8_breaksIn ∈ lw_all := lw_q 1799 (by decide +kernel) rfl
theorem q1800 : Cond.instanceMethod yX8_breaksIn ∈ lw_all := lw_q 1800 (by decide +kernel) rfl
theorem q1801 : Cond.selects RX8 yX8_breaksIn yX8_breaksIn ∈ lw_all := lw_q 1801 (by decide +kernel) rfl
theorem q1802 : Cond.code yX8_breaksIn cX8_breaksIn 5 (some .int) ∈ lw_all := lw_q 1802 (by decide +kernel) rfl
theorem q1808 : Cond.methodLink RL 180 yX8_bestSlant ∈ lw_all := lw_q 1808 (by decide +kernel) rfl
theorem q1809 : Cond.instanceMethod yX8_bestSlant ∈ lw_all := lw_q 1809 (by decide +kernel) rfl
theorem q1810 : Cond.selects RX8 yX8_bestSlant yX8_bestSlant ∈ lw_all := lw_q 1810 (by decide +kernel) rfl
theorem q1811 : Cond.code yX8_bestSlant cX8_bestSlant 6 (some .int) ∈ lw_all := lw_q 1811 (by decide +kernel) rfl
theorem q1812 : Cond.methodLink RL 183 yX8_lostWith ∈ lw_all := lw_q 1812 (by decide +kernel) rfl
theorem q1813 : Cond.instanceMethod yX8_lostWith ∈ lw_all := lw_q 1813 (by decide +kernel) rfl
theorem q1814 : Cond.selects RX8 yX8_lostWith yX8_lostWith ∈ lw_all := lw_q 1814 (by decide +kernel) rfl
theorem q1815 : Cond.code yX8_lostWith cX8_lostWith 3 (some .int) ∈ lw_all := lw_q 1815 (by decide +kernel) rfl
theorem q1816 : Cond.methodLink RL 188 yX8_meanReading ∈ lw_all := lw_q 1816 (by decide +kernel) rfl
theorem q1817 : Cond.instanceMethod yX8_meanReading ∈ lw_all := lw_q 1817 (by decide +kernel) rfl
theorem q1818 : Cond.selects RX8 yX8_meanReading yX8_meanReading ∈ lw_all := lw_q 1818 (by decide +kernel) rfl
theorem q1819 : Cond.code yX8_meanReading cX8_meanReading 4 (some .double) ∈ lw_all := lw_q 1819 (by decide +kernel) rfl
theorem q1820 : Cond.methodLink RL 193 yX8_wholeShare ∈ lw_all := lw_q 1820 (by decide +kernel) rfl
theorem q1821 : Cond.instanceMethod yX8_wholeShare ∈ lw_all := lw_q 1821 (by decide +kernel) rfl
theorem q1822 : Cond.selects RX8 yX8_wholeShare yX8_wholeShare ∈ lw_all := lw_q 1822 (by decide +kernel) rfl
theorem q1823 : Cond.code yX8_wholeShare cX8_wholeShare 1 (some .float) ∈ lw_all := lw_q 1823 (by decide +kernel) rfl
theorem q1824 : Cond.methodLink RL 196 yX8_setPressure ∈ lw_all := lw_q 1824 (by decide +kernel) rfl
theorem q1825 : Cond.instanceMethod yX8_setPressure ∈ lw_all := lw_q 1825 (by decide +kernel) rfl
theorem q1826 : Cond.selects RX8 yX8_setPressure yX8_setPressure ∈ lw_all := lw_q 1826 (by decide +kernel) rfl
theorem q1827 : Cond.code yX8_setPressure cX8_setPressure 3 (some .int) ∈ lw_all := lw_q 1827 (by decide +kernel) rfl
theorem q1836 : Cond.methodLink RL 199 yX8_setReference ∈ lw_all := lw_q 1836 (by decide +kernel) rfl
theorem q1837 : Cond.instanceMethod yX8_setReference ∈ lw_all := lw_q 1837 (by decide +kernel) rfl
theorem q1838 : Cond.selects RX8 yX8_setReference yX8_setReference ∈ lw_all := lw_q 1838 (by decide +kernel) rfl
theorem q1839 : Cond.code yX8_setReference cX8_setReference 2 (some .int) ∈ lw_all := lw_q 1839 (by decide +kernel) rfl
theorem q1840 : Cond.methodLink RL 202 yX8_sweep ∈ lw_all := lw_q 1840 (by decide +kernel) rfl
theorem q1841 : Cond.instanceMethod yX8_sweep ∈ lw_all := lw_q 1841 (by decide +kernel) rfl
theorem q1842 : Cond.selects RX8 yX8_sweep yX8_sweep ∈ lw_all := lw_q 1842 (by decide +kernel) rfl
theorem q1843 : Cond.code yX8_sweep cX8_sweep 7 (some .int) ∈ lw_all := lw_q 1843 (by decide +kernel) rfl
theorem q1845 : Cond.methodLink RL 205 yX8_setSlant ∈ lw_all := lw_q 1845 (by decide +kernel) rfl
theorem q1846 : Cond.instanceMethod yX8_setSlant ∈ lw_all := lw_q 1846 (by decide +kernel) rfl
theorem q1847 : Cond.selects RX8 yX8_setSlant yX8_setSlant ∈ lw_all := lw_q 1847 (by decide +kernel) rfl
theorem q1848 : Cond.code yX8_setSlant cX8_setSlant 3 (some .int) ∈ lw_all := lw_q 1848 (by decide +kernel) rfl
theorem q1852 : Cond.methodLink RL 208 yX8_setMark ∈ lw_all := lw_q 1852 (by decide +kernel) rfl
theorem q1853 : Cond.instanceMethod yX8_setMark ∈ lw_all := lw_q 1853 (by decide +kernel) rfl
theorem q1854 : Cond.selects RX8 yX8_setMark yX8_setMark ∈ lw_all := lw_q 1854 (by decide +kernel) rfl
theorem q1855 : Cond.code yX8_setMark cX8_setMark 4 (some .int) ∈ lw_all := lw_q 1855 (by decide +kernel) rfl
theorem q1857 : Cond.methodLink RL 211 yX8_setCurve ∈ lw_all := lw_q 1857 (by decide +kernel) rfl
theorem q1858 : Cond.instanceMethod yX8_setCurve ∈ lw_all := lw_q 1858 (by decide +kernel) rfl
theorem q1859 : Cond.selects RX8 yX8_setCurve yX8_setCurve ∈ lw_all := lw_q 1859 (by decide +kernel) rfl
theorem q1860 : Cond.code yX8_setCurve cX8_setCurve 3 (some .int) ∈ lw_all := lw_q 1860 (by decide +kernel) rfl
theorem q1861 : Cond.methodLink RL 214 yX8_mend ∈ lw_all := lw_q 1861 (by decide +kernel) rfl
theorem q1862 : Cond.instanceMethod yX8_mend ∈ lw_all := lw_q 1862 (by decide +kernel) rfl
theorem q1863 : Cond.selects RX8 yX8_mend yX8_mend ∈ lw_all := lw_q 1863 (by decide +kernel) rfl
theorem q1864 : Cond.code yX8_mend cX8_mend 3 (some .int) ∈ lw_all := lw_q 1864 (by decide +kernel) rfl
theorem q1865 : Cond.methodLink RL 217 yX8_refill ∈ lw_all := lw_q 1865 (by decide +kernel) rfl
theorem q1866 : Cond.instanceMethod yX8_refill ∈ lw_all := lw_q 1866 (by decide +kernel) rfl
theorem q1867 : Cond.selects RX8 yX8_refill yX8_refill ∈ lw_all := lw_q 1867 (by decide +kernel) rfl
theorem q1868 : Cond.code yX8_refill cX8_refill 3 (some .int) ∈ lw_all := lw_q 1868 (by decide +kernel) rfl
theorem q1871 : Cond.methodLink RL 221 yX8_addTube ∈ lw_all := lw_q 1871 (by decide +kernel) rfl
theorem q1872 : Cond.instanceMethod yX8_addTube ∈ lw_all := lw_q 1872 (by decide +kernel) rfl
theorem q1873 : Cond.selects RX8 yX8_addTube yX8_addTube ∈ lw_all := lw_q 1873 (by decide +kernel) rfl
theorem q1874 : Cond.code yX8_addTube cX8_addTube 8 (some .int) ∈ lw_all := lw_q 1874 (by decide +kernel) rfl
theorem q1877 : Cond.methodLink RL 224 yX8_dropTube ∈ lw_all := lw_q 1877 (by decide +kernel) rfl
theorem q1878 : Cond.instanceMethod yX8_dropTube ∈ lw_all := lw_q 1878 (by decide +kernel) rfl
theorem q1879 : Cond.selects RX8 yX8_dropTube yX8_dropTube ∈ lw_all := lw_q 1879 (by decide +kernel) rfl
theorem q1880 : Cond.code yX8_dropTube cX8_dropTube 3 (some .int) ∈ lw_all := lw_q 1880 (by decide +kernel) rfl
theorem q1881 : Cond.methodLink RL 235 yX8_undoCount ∈ lw_all := lw_q 1881 (by decide +kernel) rfl
theorem q1882 : Cond.instanceMethod yX8_undoCount ∈ lw_all := lw_q 1882 (by decide +kernel) rfl
theorem q1883 : Cond.selects RX8 yX8_undoCount yX8_undoCount ∈ lw_all := lw_q 1883 (by decide +kernel) rfl
theorem q1884 : Cond.code yX8_undoCount cX8_undoCount 1 (some .int) ∈ lw_all := lw_q 1884 (by decide +kernel) rfl
theorem q1885 : Cond.methodLink RL 239 yX8_undo ∈ lw_all := lw_q 1885 (by decide +kernel) rfl
theorem q1886 : Cond.instanceMethod yX8_undo ∈ lw_all := lw_q 1886 (by decide +kernel) rfl
theorem q1887 : Cond.selects RX8 yX8_undo yX8_undo ∈ lw_all := lw_q 1887 (by decide +kernel) rfl
theorem q1888 : Cond.code yX8_undo cX8_undo 1 (some .int) ∈ lw_all := lw_q 1888 (by decide +kernel) rfl
theorem q1889 : Cond.methodLink RL 243 yX8_saveSnapshot ∈ lw_all := lw_q 1889 (by decide +kernel) rfl
theorem q1890 : Cond.instanceMethod yX8_saveSnapshot ∈ lw_all := lw_q 1890 (by decide +kernel) rfl
theorem q1891 : Cond.selects RX8 yX8_saveSnapshot yX8_saveSnapshot ∈ lw_all := lw_q 1891 (by decide +kernel) rfl
theorem q1892 : Cond.code yX8_saveSnapshot cX8_saveSnapshot 1 none ∈ lw_all := lw_q 1892 (by decide +kernel) rfl
theorem q1893 : Cond.methodLink RL 248 yX8_restoreSnapshot ∈ lw_all := lw_q 1893 (by decide +kernel) rfl
theorem q1894 : Cond.instanceMethod yX8_restoreSnapshot ∈ lw_all := lw_q 1894 (by decide +kernel) rfl
theorem q1895 : Cond.selects RX8 yX8_restoreSnapshot yX8_restoreSnapshot ∈ lw_all := lw_q 1895 (by decide +kernel) rfl
theorem q1896 : Cond.code yX8_restoreSnapshot cX8_restoreSnapshot 1 (some .boolean) ∈ lw_all := lw_q 1896 (by decide +kernel) rfl
theorem q1897 : Cond.methodLink RL 227 yX8_format ∈ lw_all := lw_q 1897 (by decide +kernel) rfl
theorem q1898 : Cond.instanceMethod yX8_format ∈ lw_all := lw_q 1898 (by decide +kernel) rfl
theorem q1899 : Cond.selects RX8 yX8_format yX8_format ∈ lw_all := lw_q 1899 (by decide +kernel) rfl
theorem q1900 : Cond.code yX8_format cX8_format 2 (some .int) ∈ lw_all := lw_q 1900 (by decide +kernel) rfl
theorem q1920 : Cond.methodLink RL 231 yX8_formattedByte ∈ lw_all := lw_q 1920 (by decide +kernel) rfl
theorem q1921 : Cond.instanceMethod yX8_formattedByte ∈ lw_all := lw_q 1921 (by decide +kernel) rfl
theorem q1922 : Cond.selects RX8 yX8_formattedByte yX8_formattedByte ∈ lw_all := lw_q 1922 (by decide +kernel) rfl
theorem q1923 : Cond.code yX8_formattedByte cX8_formattedByte 2 (some .int) ∈ lw_all := lw_q 1923 (by decide +kernel) rfl
theorem q1924 : Cond.methodLink RL 251 yX8_query ∈ lw_all := lw_q 1924 (by decide +kernel) rfl
theorem q1925 : Cond.instanceMethod yX8_query ∈ lw_all := lw_q 1925 (by decide +kernel) rfl
theorem q1926 : Cond.selects RX8 yX8_query yX8_query ∈ lw_all := lw_q 1926 (by decide +kernel) rfl
theorem q1927 : Cond.code yX8_query cX8_query 5 (some .int) ∈ lw_all := lw_q 1927 (by decide +kernel) rfl
theorem hv_X7_feed : yX7_feed.cls = RX7 ∧ yX7_feed.cls ≠ "java/lang/invoke/MethodHandle" ∧ yX7_feed.cls ≠ "java/lang/invoke/VarHandle" ∧ (parseMethodDescriptor yX7_feed.desc).map (fun d => d.parameters.length) = some 5 := by decide +kernel
theorem hv_X8_feed : yX8_feed.cls = RX8 ∧ yX8_feed.cls ≠ "java/lang/invoke/MethodHandle" ∧ yX8_feed.cls ≠ "java/lang/invoke/VarHandle" ∧ (parseMethodDescriptor yX8_feed.desc).map (fun d => d.parameters.length) = some 5 := by decide +kernel
theorem hs_L_load : yL_load.cls ≠ "java/lang/invoke/MethodHandle" ∧ yL_load.cls ≠ "java/lang/invoke/VarHandle" ∧ (parseMethodDescriptor yL_load.desc).map (fun d => d.parameters.length) = some 3 := by decide +kernel
theorem hv_X8_load : yX8_load.cls = RX8 ∧ yX8_load.cls ≠ "java/lang/invoke/MethodHandle" ∧ yX8_load.cls ≠ "java/lang/invoke/VarHandle" ∧ (parseMethodDescriptor yX8_load.desc).map (fun d => d.parameters.length) = some 1 := by decide +kernel
theorem hv_X8_thrown : yX8_thrown.cls = RX8 ∧ yX8_thrown.cls ≠ "java/lang/invoke/MethodHandle" ∧ yX8_thrown.cls ≠ "java/lang/invoke/VarHandle" ∧ (parseMethodDescriptor yX8_thrown.desc).map (fun d => d.parameters.length) = some 0 := by decide +kernel
theorem hv_X7_errorPosition : yX7_errorPosition.cls = RX7 ∧ yX7_errorPosition.cls ≠ "java/lang/invoke/MethodHandle" ∧ yX7_errorPosition.cls ≠ "java/lang/invoke/VarHandle" ∧ (parseMethodDescriptor yX7_errorPosition.desc).map (fun d => d.parameters.length) = some 0 := by decide +kernel
theorem hv_X8_errorPosition : yX8_errorPosition.cls = RX8 ∧ yX8_errorPosition.cls ≠ "java/lang/invoke/MethodHandle" ∧ yX8_errorPosition.cls ≠ "java/lang/invoke/VarHandle" ∧ (parseMethodDescriptor yX8_errorPosition.desc).map (fun d => d.parameters.length) = some 0 := by decide +kernel
theorem hs_L_size : yL_size.cls ≠ "java/lang/invoke/MethodHandle" ∧ yL_size.cls ≠ "java/lang/invoke/VarHandle" ∧ (parseMethodDescriptor yL_size.desc).map (fun d => d.parameters.length) = some 3 := by decide +kernel
theorem hv_X8_size : yX8_size.cls = RX8 ∧ yX8_size.cls ≠ "java/lang/invoke/MethodHandle" ∧ yX8_size.cls ≠ "java/lang/invoke/VarHandle" ∧ (parseMethodDescriptor yX8_size.desc).map (fun d => d.parameters.length) = some 1 := by decide +kernel
theorem hs_L_pressure : yL_pressure.cls ≠ "java/lang/invoke/MethodHandle" ∧ yL_pressure.cls ≠ "java/lang/invoke/VarHandle" ∧ (parseMethodDescriptor yL_pressure.desc).map (fun d => d.parameters.length) = some 3 := by decide +kernel
theorem hv_X8_pressure : yX8_pressure.cls = RX8 ∧ yX8_pressure.cls ≠ "java/lang/invoke/MethodHandle" ∧ yX8_pressure.cls ≠ "java/lang/invoke/VarHandle" ∧ (parseMethodDescriptor yX8_pressure.desc).map (fun d => d.parameters.length) = some 1 := by decide +kernel
theorem hs_L_leg : yL_leg.cls ≠ "java/lang/invoke/MethodHandle" ∧ yL_leg.cls ≠ "java/lang/invoke/VarHandle" ∧ (parseMethodDescriptor yL_leg.desc).map (fun d => d.parameters.length) = some 4 := by decide +kernel
theorem hv_X8_leg : yX8_leg.cls = RX8 ∧ yX8_leg.cls ≠ "java/lang/invoke/MethodHandle" ∧ yX8_leg.cls ≠ "java/lang/invoke/VarHandle" ∧ (parseMethodDescriptor yX8_leg.desc).map (fun d => d.parameters.length) = some 2 := by decide +kernel
theorem hs_L_account : yL_account.cls ≠ "java/lang/invoke/MethodHandle" ∧ yL_account.cls ≠ "java/lang/invoke/VarHandle" ∧ (parseMethodDescriptor yL_account.desc).map (fun d => d.parameters.length) = some 4 := by decide +kernel
theorem hv_X8_account : yX8_account.cls = RX8 ∧ yX8_account.cls ≠ "java/lang/invoke/MethodHandle" ∧ yX8_account.cls ≠ "java/lang/invoke/VarHandle" ∧ (parseMethodDescriptor yX8_account.desc).map (fun d => d.parameters.length) = some 2 := by decide +kernel
theorem hs_L_tube : yL_tube.cls ≠ "java/lang/invoke/MethodHandle" ∧ yL_tube.cls ≠ "java/lang/invoke/VarHandle" ∧ (parseMethodDescriptor yL_tube.desc).map (fun d => d.parameters.length) = some 4 := by decide +kernel
theorem hv_X8_tube : yX8_tube.cls = RX8 ∧ yX8_tube.cls ≠ "java/lang/invoke/MethodHandle" ∧ yX8_tube.cls ≠ "java/lang/invoke/VarHandle" ∧ (parseMethodDescriptor yX8_tube.desc).map (fun d => d.parameters.length) = some 2 := by decide +kernel
theorem hs_L_told : yL_told.cls ≠ "java/lang/invoke/MethodHandle" ∧ yL_told.cls ≠ "java/lang/invoke/VarHandle" ∧ (parseMethodDescriptor yL_told.desc).map (fun d => d.parameters.length) = some 3 := by decide +kernel
theorem hv_X8_told : yX8_told.cls = RX8 ∧ yX8_told.cls ≠ "java/lang/invoke/MethodHandle" ∧ yX8_told.cls ≠ "java/lang/invoke/VarHandle" ∧ (parseMethodDescriptor yX8_told.desc).map (fun d => d.parameters.length) = some 1 := by decide +kernel
theorem hs_L_off : yL_off.cls ≠ "java/lang/invoke/MethodHandle" ∧ yL_off.cls ≠ "java/lang/invoke/VarHandle" ∧ (parseMethodDescriptor yL_off.desc).map (fun d => d.parameters.length) = some 3 := by decide +kernel
theorem hv_X8_off : yX8_off.cls = RX8 ∧ yX8_off.cls ≠ "java/lang/invoke/MethodHandle" ∧ yX8_off.cls ≠ "java/lang/invoke/VarHandle" ∧ (parseMethodDescriptor yX8_off.desc).map (fun d => d.parameters.length) = some 1 := by decide +kernel
theorem hs_L_difference : yL_difference.cls ≠ "java/lang/invoke/MethodHandle" ∧ yL_difference.cls ≠ "java/lang/invoke/VarHandle" ∧ (parseMethodDescriptor yL_difference.desc).map (fun d => d.parameters.length) = some 4 := by decide +kernel
theorem hv_X8_difference : yX8_difference.cls = RX8 ∧ yX8_difference.cls ≠ "java/lang/invoke/MethodHandle" ∧ yX8_difference.cls ≠ "java/lang/invoke/VarHandle" ∧ (parseMethodDescriptor yX8_difference.desc).map (fun d => d.parameters.length) = some 2 := by decide +kernel
theorem hv_X7_ring : yX7_ring.cls = RX7 ∧ yX7_ring.cls ≠ "java/lang/invoke/MethodHandle" ∧ yX7_ring.cls ≠ "java/lang/invoke/VarHandle" ∧ (parseMethodDescriptor yX7_ring.desc).map (fun d => d.parameters.length) = some 0 := by decide +kernel
theorem hv_X8_ring : yX8_ring.cls = RX8 ∧ yX8_ring.cls ≠ "java/lang/invoke/MethodHandle" ∧ yX8_ring.cls ≠ "java/lang/invoke/VarHandle" ∧ (parseMethodDescriptor yX8_ring.desc).map (fun d => d.parameters.length) = some 0 := by decide +kernel
theorem hs_L_room : yL_room.cls ≠ "java/lang/invoke/MethodHandle" ∧ yL_room.cls ≠ "java/lang/invoke/VarHandle" ∧ (parseMethodDescriptor yL_room.desc).map (fun d => d.parameters.length) = some 3 := by decide +kernel
theorem hv_X8_room : yX8_room.cls = RX8 ∧ yX8_room.cls ≠ "java/lang/invoke/MethodHandle" ∧ yX8_room.cls ≠ "java/lang/invoke/VarHandle" ∧ (parseMethodDescriptor yX8_room.desc).map (fun d => d.parameters.length) = some 1 := by decide +kernel
theorem hv_X7_longest : yX7_longest.cls = RX7 ∧ yX7_longest.cls ≠ "java/lang/invoke/MethodHandle" ∧ yX7_longest.cls ≠ "java/lang/invoke/VarHandle" ∧ (parseMethodDescriptor yX7_longest.desc).map (fun d => d.parameters.length) = some 0 := by decide +kernel
theorem hv_X8_longest : yX8_longest.cls = RX8 ∧ yX8_longest.cls ≠ "java/lang/invoke/MethodHandle" ∧ yX8_longest.cls ≠ "java/lang/invoke/VarHandle" ∧ (parseMethodDescriptor yX8_longest.desc).map (fun d => d.parameters.length) = some 0 := by decide +kernel
theorem hv_X7_worst : yX7_worst.cls = RX7 ∧ yX7_worst.cls ≠ "java/lang/invoke/MethodHandle" ∧ yX7_worst.cls ≠ "java/lang/invoke/VarHandle" ∧ (parseMethodDescriptor yX7_worst.desc).map (fun d => d.parameters.length) = some 0 := by decide +kernel
theorem hv_X8_worst : yX8_worst.cls = RX8 ∧ yX8_worst.cls ≠ "java/lang/invoke/MethodHandle" ∧ yX8_worst.cls ≠ "java/lang/invoke/VarHandle" ∧ (parseMethodDescriptor yX8_worst.desc).map (fun d => d.parameters.length) = some 0 := by decide +kernel
theorem hs_L_agree : yL_agree.cls ≠ "java/lang/invoke/MethodHandle" ∧ yL_agree.cls ≠ "java/lang/invoke/VarHandle" ∧ (parseMethodDescriptor yL_agree.desc).map (fun d => d.parameters.length) = some 4 := by decide +kernel
theorem hv_X8_agree : yX8_agree.cls = RX8 ∧ yX8_agree.cls ≠ "java/lang/invoke/MethodHandle" ∧ yX8_agree.cls ≠ "java/lang/invoke/VarHandle" ∧ (parseMethodDescriptor yX8_agree.desc).map (fun d => d.parameters.length) = some 2 := by decide +kernel
theorem hs_L_wouldBreak : yL_wouldBreak.cls ≠ "java/lang/invoke/MethodHandle" ∧ yL_wouldBreak.cls ≠ "java/lang/invoke/VarHandle" ∧ (parseMethodDescriptor yL_wouldBreak.desc).map (fun d => d.parameters.length) = some 4 := by decide +kernel
theorem hv_X8_wouldBreak : yX8_wouldBreak.cls = RX8 ∧ yX8_wouldBreak.cls ≠ "java/lang/invoke/MethodHandle" ∧ yX8_wouldBreak.cls ≠ "java/lang/invoke/VarHandle" ∧ (parseMethodDescriptor yX8_wouldBreak.desc).map (fun d => d.parameters.length) = some 2 := by decide +kernel
theorem hs_L_readingWith : yL_readingWith.cls ≠ "java/lang/invoke/MethodHandle" ∧ yL_readingWith.cls ≠ "java/lang/invoke/VarHandle" ∧ (parseMethodDescriptor yL_readingWith.desc).map (fun d => d.parameters.length) = some 5 := by decide +kernel
theorem hv_X8_readingWith : yX8_readingWith.cls = RX8 ∧ yX8_readingWith.cls ≠ "java/lang/invoke/MethodHandle" ∧ yX8_readingWith.cls ≠ "java/lang/invoke/VarHandle" ∧ (parseMethodDescriptor yX8_readingWith.desc).map (fun d => d.parameters.length) = some 3 := by decide +kernel
theorem hs_L_breaksIn : yL_breaksIn.cls ≠ "java/lang/invoke/MethodHandle" ∧ yL_breaksIn.cls ≠ "java/lang/invoke/VarHandle" ∧ (parseMethodDescriptor yL_breaksIn.desc).map (fun d => d.parameters.length) = some 4 := by decide +kernel
theorem hv_X8_breaksIn : yX8_breaksIn.cls = RX8 ∧ yX8_breaksIn.cls ≠ "java/lang/invoke/MethodHandle" ∧ yX8_breaksIn.cls ≠ "java/lang/invoke/VarHandle" ∧ (parseMethodDescriptor yX8_breaksIn.desc).map (fun d => d.parameters.length) = some 2 := by decide +kernel
theorem hs_L_bestSlant : yL_bestSlant.cls ≠ "java/lang/invoke/MethodHandle" ∧ yL_bestSlant.cls ≠ "java/lang/invoke/VarHandle" ∧ (parseMethodDescriptor yL_bestSlant.desc).map (fun d => d.parameters.length) = some 3 := by decide +kernel
theorem hv_X8_bestSlant : yX8_bestSlant.cls = RX8 ∧ yX8_bestSlant.cls ≠ "java/lang/invoke/MethodHandle" ∧ yX8_bestSlant.cls ≠ "java/lang/invoke/VarHandle" ∧ (parseMethodDescriptor yX8_bestSlant.desc).map (fun d => d.parameters.length) = some 1 := by decide +kernel
theorem hs_L_lostWith : yL_lostWith.cls ≠ "java/lang/invoke/MethodHandle" ∧ yL_lostWith.cls ≠ "java/lang/invoke/VarHandle" ∧ (parseMethodDescriptor yL_lostWith.desc).map (fun d => d.parameters.length) = some 3 := by decide +kernel
theorem hv_X8_lostWith : yX8_lostWith.cls = RX8 ∧ yX8_lostWith.cls ≠ "java/lang/invoke/MethodHandle" ∧ yX8_lostWith.cls ≠ "java/lang/invoke/VarHandle" ∧ (parseMethodDescriptor yX8_lostWith.desc).map (fun d => d.parameters.length) = some 1 := by decide +kernel
theorem hv_X7_meanReading : yX7_meanReading.cls = RX7 ∧ yX7_meanReading.cls ≠ "java/lang/invoke/MethodHandle" ∧ yX7_meanReading.cls ≠ "java/lang/invoke/VarHandle" ∧ (parseMethodDescriptor yX7_meanReading.desc).map (fun d => d.parameters.length) = some 0 := by decide +kernel
theorem hv_X8_meanReading : yX8_meanReading.cls = RX8 ∧ yX8_meanReading.cls ≠ "java/lang/invoke/MethodHandle" ∧ yX8_meanReading.cls ≠ "java/lang/invoke/VarHandle" ∧ (parseMethodDescriptor yX8_meanReading.desc).map (fun d => d.parameters.length) = some 0 := by decide +kernel
theorem hv_X7_wholeShare : yX7_wholeShare.cls = RX7 ∧ yX7_wholeShare.cls ≠ "java/lang/invoke/MethodHandle" ∧ yX7_wholeShare.cls ≠ "java/lang/invoke/VarHandle" ∧ (parseMethodDescriptor yX7_wholeShare.desc).map (fun d => d.parameters.length) = some 0 := by decide +kernel
theorem hv_X8_wholeShare : yX8_wholeShare.cls = RX8 ∧ yX8_wholeShare.cls ≠ "java/lang/invoke/MethodHandle" ∧ yX8_wholeShare.cls ≠ "java/lang/invoke/VarHandle" ∧ (parseMethodDescriptor yX8_wholeShare.desc).map (fun d => d.parameters.length) = some 0 := by decide +kernel
theorem hs_L_setPressure : yL_setPressure.cls ≠ "java/lang/invoke/MethodHandle" ∧ yL_setPressure.cls ≠ "java/lang/invoke/VarHandle" ∧ (parseMethodDescriptor yL_setPressure.desc).map (fun d => d.parameters.length) = some 4 := by decide +kernel
theorem hv_X8_setPressure : yX8_setPressure.cls = RX8 ∧ yX8_setPressure.cls ≠ "java/lang/invoke/MethodHandle" ∧ yX8_setPressure.cls ≠ "java/lang/invoke/VarHandle" ∧ (parseMethodDescriptor yX8_setPressure.desc).map (fun d => d.parameters.length) = some 2 := by decide +kernel
theorem hs_L_setReference : yL_setReference.cls ≠ "java/lang/invoke/MethodHandle" ∧ yL_setReference.cls ≠ "java/lang/invoke/VarHandle" ∧ (parseMethodDescriptor yL_setReference.desc).map (fun d => d.parameters.length) = some 3 := by decide +kernel
theorem hv_X8_setReference : yX8_setReference.cls = RX8 ∧ yX8_setReference.cls ≠ "java/lang/invoke/MethodHandle" ∧ yX8_setReference.cls ≠ "java/lang/invoke/VarHandle" ∧ (parseMethodDescriptor yX8_setReference.desc).map (fun d => d.parameters.length) = some 1 := by decide +kernel
theorem hs_L_sweep : yL_sweep.cls ≠ "java/lang/invoke/MethodHandle" ∧ yL_sweep.cls ≠ "java/lang/invoke/VarHandle" ∧ (parseMethodDescriptor yL_sweep.desc).map (fun d => d.parameters.length) = some 5 := by decide +kernel
theorem hv_X8_sweep : yX8_sweep.cls = RX8 ∧ yX8_sweep.cls ≠ "java/lang/invoke/MethodHandle" ∧ yX8_sweep.cls ≠ "java/lang/invoke/VarHandle" ∧ (parseMethodDescriptor yX8_sweep.desc).map (fun d => d.parameters.length) = some 3 := by decide +kernel
theorem hs_L_setSlant : yL_setSlant.cls ≠ "java/lang/invoke/MethodHandle" ∧ yL_setSlant.cls ≠ "java/lang/invoke/VarHandle" ∧ (parseMethodDescriptor yL_setSlant.desc).map (fun d => d.parameters.length) = some 4 := by decide +kernel
theorem hv_X8_setSlant : yX8_setSlant.cls = RX8 ∧ yX8_setSlant.cls ≠ "java/lang/invoke/MethodHandle" ∧ yX8_setSlant.cls ≠ "java/lang/invoke/VarHandle" ∧ (parseMethodDescriptor yX8_setSlant.desc).map (fun d => d.parameters.length) = some 2 := by decide +kernel
theorem hs_L_setMark : yL_setMark.cls ≠ "java/lang/invoke/MethodHandle" ∧ yL_setMark.cls ≠ "java/lang/invoke/VarHandle" ∧ (parseMethodDescriptor yL_setMark.desc).map (fun d => d.parameters.length) = some 3 := by decide +kernel
theorem hv_X8_setMark : yX8_setMark.cls = RX8 ∧ yX8_setMark.cls ≠ "java/lang/invoke/MethodHandle" ∧ yX8_setMark.cls ≠ "java/lang/invoke/VarHandle" ∧ (parseMethodDescriptor yX8_setMark.desc).map (fun d => d.parameters.length) = some 1 := by decide +kernel
theorem hs_L_setCurve : yL_setCurve.cls ≠ "java/lang/invoke/MethodHandle" ∧ yL_setCurve.cls ≠ "java/lang/invoke/VarHandle" ∧ (parseMethodDescriptor yL_setCurve.desc).map (fun d => d.parameters.length) = some 4 := by decide +kernel
theorem hv_X8_setCurve : yX8_setCurve.cls = RX8 ∧ yX8_setCurve.cls ≠ "java/lang/invoke/MethodHandle" ∧ yX8_setCurve.cls ≠ "java/lang/invoke/VarHandle" ∧ (parseMethodDescriptor yX8_setCurve.desc).map (fun d => d.parameters.length) = some 2 := by decide +kernel
theorem hs_L_mend : yL_mend.cls ≠ "java/lang/invoke/MethodHandle" ∧ yL_mend.cls ≠ "java/lang/invoke/VarHandle" ∧ (parseMethodDescriptor yL_mend.desc).map (fun d => d.parameters.length) = some 3 := by decide +kernel
theorem hv_X8_mend : yX8_mend.cls = RX8 ∧ yX8_mend.cls ≠ "java/lang/invoke/MethodHandle" ∧ yX8_mend.cls ≠ "java/lang/invoke/VarHandle" ∧ (parseMethodDescriptor yX8_mend.desc).map (fun d => d.parameters.length) = some 1 := by decide +kernel
theorem hs_L_refill : yL_refill.cls ≠ "java/lang/invoke/MethodHandle" ∧ yL_refill.cls ≠ "java/lang/invoke/VarHandle" ∧ (parseMethodDescriptor yL_refill.desc).map (fun d => d.parameters.length) = some 4 := by decide +kernel
theorem hv_X8_refill : yX8_refill.cls = RX8 ∧ yX8_refill.cls ≠ "java/lang/invoke/MethodHandle" ∧ yX8_refill.cls ≠ "java/lang/invoke/VarHandle" ∧ (parseMethodDescriptor yX8_refill.desc).map (fun d => d.parameters.length) = some 2 := by decide +kernel
theorem hs_L_addTube : yL_addTube.cls ≠ "java/lang/invoke/MethodHandle" ∧ yL_addTube.cls ≠ "java/lang/invoke/VarHandle" ∧ (parseMethodDescriptor yL_addTube.desc).map (fun d => d.parameters.length) = some 7 := by decide +kernel
theorem hv_X8_addTube : yX8_addTube.cls = RX8 ∧ yX8_addTube.cls ≠ "java/lang/invoke/MethodHandle" ∧ yX8_addTube.cls ≠ "java/lang/invoke/VarHandle" ∧ (parseMethodDescriptor yX8_addTube.desc).map (fun d => d.parameters.length) = some 5 := by decide +kernel
theorem hs_L_dropTube : yL_dropTube.cls ≠ "java/lang/invoke/MethodHandle" ∧ yL_dropTube.cls ≠ "java/lang/invoke/VarHandle" ∧ (parseMethodDescriptor yL_dropTube.desc).map (fun d => d.parameters.length) = some 3 := by decide +kernel
theorem hv_X8_dropTube : yX8_dropTube.cls = RX8 ∧ yX8_dropTube.cls ≠ "java/lang/invoke/MethodHandle" ∧ yX8_dropTube.cls ≠ "java/lang/invoke/VarHandle" ∧ (parseMethodDescriptor yX8_dropTube.desc).map (fun d => d.parameters.length) = some 1 := by decide +kernel
theorem hs_L_format : yL_format.cls ≠ "java/lang/invoke/MethodHandle" ∧ yL_format.cls ≠ "java/lang/invoke/VarHandle" ∧ (parseMethodDescriptor yL_format.desc).map (fun d => d.parameters.length) = some 3 := by decide +kernel
theorem hv_X8_format : yX8_format.cls = RX8 ∧ yX8_format.cls ≠ "java/lang/invoke/MethodHandle" ∧ yX8_format.cls ≠ "java/lang/invoke/VarHandle" ∧ (parseMethodDescriptor yX8_format.desc).map (fun d => d.parameters.length) = some 1 := by decide +kernel
theorem hv_X7_formattedByte : yX7_formattedByte.cls = RX7 ∧ yX7_formattedByte.cls ≠ "java/lang/invoke/MethodHandle" ∧ yX7_formattedByte.cls ≠ "java/lang/invoke/VarHandle" ∧ (parseMethodDescriptor yX7_formattedByte.desc).map (fun d => d.parameters.length) = some 1 := by decide +kernel
theorem hv_X8_formattedByte : yX8_formattedByte.cls = RX8 ∧ yX8_formattedByte.cls ≠ "java/lang/invoke/MethodHandle" ∧ yX8_formattedByte.cls ≠ "java/lang/invoke/VarHandle" ∧ (parseMethodDescriptor yX8_formattedByte.desc).map (fun d => d.parameters.length) = some 1 := by decide +kernel
theorem hv_X7_undoCount : yX7_undoCount.cls = RX7 ∧ yX7_undoCount.cls ≠ "java/lang/invoke/MethodHandle" ∧ yX7_undoCount.cls ≠ "java/lang/invoke/VarHandle" ∧ (parseMethodDescriptor yX7_undoCount.desc).map (fun d => d.parameters.length) = some 0 := by decide +kernel
theorem hv_X8_undoCount : yX8_undoCount.cls = RX8 ∧ yX8_undoCount.cls ≠ "java/lang/invoke/MethodHandle" ∧ yX8_undoCount.cls ≠ "java/lang/invoke/VarHandle" ∧ (parseMethodDescriptor yX8_undoCount.desc).map (fun d => d.parameters.length) = some 0 := by decide +kernel
theorem hv_X7_undo : yX7_undo.cls = RX7 ∧ yX7_undo.cls ≠ "java/lang/invoke/MethodHandle" ∧ yX7_undo.cls ≠ "java/lang/invoke/VarHandle" ∧ (parseMethodDescriptor yX7_undo.desc).map (fun d => d.parameters.length) = some 0 := by decide +kernel
theorem hv_X8_undo : yX8_undo.cls = RX8 ∧ yX8_undo.cls ≠ "java/lang/invoke/MethodHandle" ∧ yX8_undo.cls ≠ "java/lang/invoke/VarHandle" ∧ (parseMethodDescriptor yX8_undo.desc).map (fun d => d.parameters.length) = some 0 := by decide +kernel
theorem hv_X7_saveSnapshot : yX7_saveSnapshot.cls = RX7 ∧ yX7_saveSnapshot.cls ≠ "java/lang/invoke/MethodHandle" ∧ yX7_saveSnapshot.cls ≠ "java/lang/invoke/VarHandle" ∧ (parseMethodDescriptor yX7_saveSnapshot.desc).map (fun d => d.parameters.length) = some 0 := by decide +kernel
theorem hv_X8_saveSnapshot : yX8_saveSnapshot.cls = RX8 ∧ yX8_saveSnapshot.cls ≠ "java/lang/invoke/MethodHandle" ∧ yX8_saveSnapshot.cls ≠ "java/lang/invoke/VarHandle" ∧ (parseMethodDescriptor yX8_saveSnapshot.desc).map (fun d => d.parameters.length) = some 0 := by decide +kernel
theorem hv_X7_restoreSnapshot : yX7_restoreSnapshot.cls = RX7 ∧ yX7_restoreSnapshot.cls ≠ "java/lang/invoke/MethodHandle" ∧ yX7_restoreSnapshot.cls ≠ "java/lang/invoke/VarHandle" ∧ (parseMethodDescriptor yX7_restoreSnapshot.desc).map (fun d => d.parameters.length) = some 0 := by decide +kernel
theorem hv_X8_restoreSnapshot : yX8_restoreSnapshot.cls = RX8 ∧ yX8_restoreSnapshot.cls ≠ "java/lang/invoke/MethodHandle" ∧ yX8_restoreSnapshot.cls ≠ "java/lang/invoke/VarHandle" ∧ (parseMethodDescriptor yX8_restoreSnapshot.desc).map (fun d => d.parameters.length) = some 0 := by decide +kernel
theorem hs_L_query : yL_query.cls ≠ "java/lang/invoke/MethodHandle" ∧ yL_query.cls ≠ "java/lang/invoke/VarHandle" ∧ (parseMethodDescriptor yL_query.desc).map (fun d => d.parameters.length) = some 3 := by decide +kernel
theorem hv_X8_query : yX8_query.cls = RX8 ∧ yX8_query.cls ≠ "java/lang/invoke/MethodHandle" ∧ yX8_query.cls ≠ "java/lang/invoke/VarHandle" ∧ (parseMethodDescriptor yX8_query.desc).map (fun d => d.parameters.length) = some 1 := by decide +kernel
theorem hs_X7_init : yX7_init.cls ≠ "java/lang/invoke/MethodHandle" ∧ yX7_init.cls ≠ "java/lang/invoke/VarHandle" ∧ (parseMethodDescriptor yX7_init.desc).map (fun d => d.parameters.length) = some 0 := by decide +kernel
theorem hs_X8_init : yX8_init.cls ≠ "java/lang/invoke/MethodHandle" ∧ yX8_init.cls ≠ "java/lang/invoke/VarHandle" ∧ (parseMethodDescriptor yX8_init.desc).map (fun d => d.parameters.length) = some 0 := by decide +kernel
