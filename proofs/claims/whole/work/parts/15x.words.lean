/-! more words -/
theorem q101 : Cond.initialized "java/lang/IllegalArgumentException" ∈ lw_all := lw_q 101 (by decide +kernel) rfl
theorem q106 : Cond.initialized "java/util/NoSuchElementException" ∈ lw_all := lw_q 106 (by decide +kernel) rfl
theorem q118 : Cond.methodLink RX7 1 Lib.objectInit ∈ lw_all := lw_q 118 (by decide +kernel) rfl
theorem q119 : Cond.instanceMethod Lib.objectInit ∈ lw_all := lw_q 119 (by decide +kernel) rfl
theorem q120 : Cond.code Lib.objectInit ⟨#[0xb1]⟩ 1 none ∈ lw_all := lw_q 120 (by decide +kernel) rfl
theorem q121 : Cond.classLink RX7 7 RX3 ∈ lw_all := lw_q 121 (by decide +kernel) rfl
theorem q122 : Cond.instantiable RX3 8 ∈ lw_all := lw_q 122 (by decide +kernel) rfl
theorem q123 : Cond.methodLink RX7 9 yX3_init ∈ lw_all := lw_q 123 (by decide +kernel) rfl
theorem q124 : Cond.instanceMethod yX3_init ∈ lw_all := lw_q 124 (by decide +kernel) rfl
theorem q125 : Cond.code yX3_init cX3_init 2 none ∈ lw_all := lw_q 125 (by decide +kernel) rfl
theorem q126 : Cond.methodLink RX3 3 Lib.objectInit ∈ lw_all := lw_q 126 (by decide +kernel) rfl
theorem q127 : Cond.classLink RX3 15 RX1 ∈ lw_all := lw_q 127 (by decide +kernel) rfl
theorem q128 : Cond.instantiable RX1 7 ∈ lw_all := lw_q 128 (by decide +kernel) rfl
theorem q130 : Cond.instanceMethod yX1_init ∈ lw_all := lw_q 130 (by decide +kernel) rfl
theorem q131 : Cond.code yX1_init cX1_init 1 none ∈ lw_all := lw_q 131 (by decide +kernel) rfl
theorem q132 : Cond.methodLink RX1 1 Lib.objectInit ∈ lw_all := lw_q 132 (by decide +kernel) rfl
theorem q168 : Cond.arrayClass .int ∈ lw_all := lw_q 168 (by decide +kernel) rfl
theorem q169 : Cond.classLink RX3 25 RX6 ∈ lw_all := lw_q 169 (by decide +kernel) rfl
theorem q171 : Cond.instantiable RX6 10 ∈ lw_all := lw_q 171 (by decide +kernel) rfl
theorem q173 : Cond.instanceMethod yX6_init ∈ lw_all := lw_q 173 (by decide +kernel) rfl
theorem q174 : Cond.code yX6_init cX6_init 1 none ∈ lw_all := lw_q 174 (by decide +kernel) rfl
theorem q175 : Cond.methodLink RX6 3 Lib.objectInit ∈ lw_all := lw_q 175 (by decide +kernel) rfl
theorem q255 : Cond.classLink RX7 22 RX0 ∈ lw_all := lw_q 255 (by decide +kernel) rfl
theorem q256 : Cond.instantiable RX0 3 ∈ lw_all := lw_q 256 (by decide +kernel) rfl
theorem q257 : Cond.methodLink RX7 24 yX0_init ∈ lw_all := lw_q 257 (by decide +kernel) rfl
theorem q258 : Cond.instanceMethod yX0_init ∈ lw_all := lw_q 258 (by decide +kernel) rfl
theorem q259 : Cond.code yX0_init cX0_init 2 none ∈ lw_all := lw_q 259 (by decide +kernel) rfl
theorem q260 : Cond.methodLink RX0 3 Lib.objectInit ∈ lw_all := lw_q 260 (by decide +kernel) rfl
theorem q261 : Cond.classLink RX0 9 RX3 ∈ lw_all := lw_q 261 (by decide +kernel) rfl
theorem q263 : Cond.methodLink RX0 17 yX3_init ∈ lw_all := lw_q 263 (by decide +kernel) rfl
theorem q275 : Cond.classLink RX7 29 RX5 ∈ lw_all := lw_q 275 (by decide +kernel) rfl
theorem q276 : Cond.instantiable RX5 9 ∈ lw_all := lw_q 276 (by decide +kernel) rfl
theorem q278 : Cond.instanceMethod yX5_init ∈ lw_all := lw_q 278 (by decide +kernel) rfl
theorem q279 : Cond.code yX5_init cX5_init 1 none ∈ lw_all := lw_q 279 (by decide +kernel) rfl
theorem q280 : Cond.methodLink RX5 3 Lib.objectInit ∈ lw_all := lw_q 280 (by decide +kernel) rfl
theorem q291 : Cond.fieldLink RX7 78 "SlantGauges$Tokens" "errorCode" "I" ∈ lw_all := lw_q 291 (by decide +kernel) rfl
theorem q314 : Cond.arrayClass .byte ∈ lw_all := lw_q 314 (by decide +kernel) rfl
theorem q315 : Cond.classLink RX7 36 RJ4 ∈ lw_all := lw_q 315 (by decide +kernel) rfl
theorem q316 : Cond.instantiable RJ4 4 ∈ lw_all := lw_q 316 (by decide +kernel) rfl
theorem q317 : Cond.methodLink RX7 38 yJ4_init_da8c8 ∈ lw_all := lw_q 317 (by decide +kernel) rfl
theorem q318 : Cond.instanceMethod yJ4_init_da8c8 ∈ lw_all := lw_q 318 (by decide +kernel) rfl
theorem q319 : Cond.code yJ4_init_da8c8 cJ4_init_da8c8 1 none ∈ lw_all := lw_q 319 (by decide +kernel) rfl
theorem q320 : Cond.methodLink RJ4 1 yJ5_init_d00df ∈ lw_all := lw_q 320 (by decide +kernel) rfl
theorem q321 : Cond.instanceMethod yJ5_init_d00df ∈ lw_all := lw_q 321 (by decide +kernel) rfl
theorem q322 : Cond.code yJ5_init_d00df cJ5_init_d00df 2 none ∈ lw_all := lw_q 322 (by decide +kernel) rfl
theorem q323 : Cond.methodLink RJ5 3 Lib.objectInit ∈ lw_all := lw_q 323 (by decide +kernel) rfl
theorem q347 : Cond.constant RX7 43 (50000) ∈ lw_all := lw_q 347 (by decide +kernel) rfl
theorem q348 : Cond.methodLink RX7 44 yX3_clear ∈ lw_all := lw_q 348 (by decide +kernel) rfl
theorem q552 : Cond.classLink RL 13 eI ∈ lw_all := lw_q 552 (by decide +kernel) rfl
theorem q553 : Cond.methodLink RL 7 yX7_load ∈ lw_all := lw_q 553 (by decide +kernel) rfl
theorem q554 : Cond.instanceMethod yX7_load ∈ lw_all := lw_q 554 (by decide +kernel) rfl
theorem q555 : Cond.selects RX7 yX7_load yX7_load ∈ lw_all := lw_q 555 (by decide +kernel) rfl
theorem q556 : Cond.code yX7_load cX7_load 3 (some .int) ∈ lw_all := lw_q 556 (by decide +kernel) rfl
theorem q560 : Cond.classLink RX7 310 eI ∈ lw_all := lw_q 560 (by decide +kernel) rfl
theorem q646 : Cond.classLink RX7 67 RX4 ∈ lw_all := lw_q 646 (by decide +kernel) rfl
theorem q647 : Cond.instantiable RX4 2 ∈ lw_all := lw_q 647 (by decide +kernel) rfl
theorem q648 : Cond.methodLink RX7 69 yX4_init ∈ lw_all := lw_q 648 (by decide +kernel) rfl
theorem q649 : Cond.instanceMethod yX4_init ∈ lw_all := lw_q 649 (by decide +kernel) rfl
theorem q650 : Cond.code yX4_init cX4_init 3 none ∈ lw_all := lw_q 650 (by decide +kernel) rfl
theorem q651 : Cond.methodLink RX4 3 Lib.objectInit ∈ lw_all := lw_q 651 (by decide +kernel) rfl
theorem q659 : Cond.methodLink RX7 72 yX4_read ∈ lw_all := lw_q 659 (by decide +kernel) rfl
theorem q660 : Cond.instanceMethod yX4_read ∈ lw_all := lw_q 660 (by decide +kernel) rfl
theorem q661 : Cond.selects RX4 yX4_read yX4_read ∈ lw_all := lw_q 661 (by decide +kernel) rfl
theorem q662 : Cond.code yX4_read cX4_read 4 none ∈ lw_all := lw_q 662 (by decide +kernel) rfl
theorem q759 : Cond.methodLink RX7 75 yX5_empty ∈ lw_all := lw_q 759 (by decide +kernel) rfl
theorem q760 : Cond.instanceMethod yX5_empty ∈ lw_all := lw_q 760 (by decide +kernel) rfl
theorem q761 : Cond.selects RX5 yX5_empty yX5_empty ∈ lw_all := lw_q 761 (by decide +kernel) rfl
theorem q762 : Cond.code yX5_empty cX5_empty 1 none ∈ lw_all := lw_q 762 (by decide +kernel) rfl
theorem q819 : Cond.classLink RL 18 eN ∈ lw_all := lw_q 819 (by decide +kernel) rfl
theorem q820 : Cond.methodLink RL 15 yX7_size ∈ lw_all := lw_q 820 (by decide +kernel) rfl
theorem q821 : Cond.instanceMethod yX7_size ∈ lw_all := lw_q 821 (by decide +kernel) rfl
theorem q822 : Cond.selects RX7 yX7_size yX7_size ∈ lw_all := lw_q 822 (by decide +kernel) rfl
theorem q823 : Cond.code yX7_size cX7_size 2 (some .int) ∈ lw_all := lw_q 823 (by decide +kernel) rfl
theorem q828 : Cond.classLink RX7 114 eN ∈ lw_all := lw_q 828 (by decide +kernel) rfl
theorem q847 : Cond.methodLink RL 20 yX7_pressure ∈ lw_all := lw_q 847 (by decide +kernel) rfl
theorem q848 : Cond.instanceMethod yX7_pressure ∈ lw_all := lw_q 848 (by decide +kernel) rfl
theorem q849 : Cond.selects RX7 yX7_pressure yX7_pressure ∈ lw_all := lw_q 849 (by decide +kernel) rfl
theorem q850 : Cond.code yX7_pressure cX7_pressure 2 (some .int) ∈ lw_all := lw_q 850 (by decide +kernel) rfl
theorem q860 : Cond.methodLink RL 23 yX7_leg ∈ lw_all := lw_q 860 (by decide +kernel) rfl
theorem q861 : Cond.instanceMethod yX7_leg ∈ lw_all := lw_q 861 (by decide +kernel) rfl
theorem q862 : Cond.selects RX7 yX7_leg yX7_leg ∈ lw_all := lw_q 862 (by decide +kernel) rfl
theorem q863 : Cond.code yX7_leg cX7_leg 4 (some .int) ∈ lw_all := lw_q 863 (by decide +kernel) rfl
theorem q873 : Cond.methodLink RL 27 yX7_account ∈ lw_all := lw_q 873 (by decide +kernel) rfl
theorem q874 : Cond.instanceMethod yX7_account ∈ lw_all := lw_q 874 (by decide +kernel) rfl
theorem q875 : Cond.selects RX7 yX7_account yX7_account ∈ lw_all := lw_q 875 (by decide +kernel) rfl
theorem q876 : Cond.code yX7_account cX7_account 6 (some .long) ∈ lw_all := lw_q 876 (by decide +kernel) rfl
theorem q882 : Cond.methodLink RL 31 yX7_tube ∈ lw_all := lw_q 882 (by decide +kernel) rfl
theorem q883 : Cond.instanceMethod yX7_tube ∈ lw_all := lw_q 883 (by decide +kernel) rfl
theorem q884 : Cond.selects RX7 yX7_tube yX7_tube ∈ lw_all := lw_q 884 (by decide +kernel) rfl
theorem q885 : Cond.code yX7_tube cX7_tube 3 (some .int) ∈ lw_all := lw_q 885 (by decide +kernel) rfl
theorem q900 : Cond.methodLink RL 34 yX7_told ∈ lw_all := lw_q 900 (by decide +kernel) rfl
theorem q901 : Cond.instanceMethod yX7_told ∈ lw_all := lw_q 901 (by decide +kernel) rfl
theorem q902 : Cond.selects RX7 yX7_told yX7_told ∈ lw_all := lw_q 902 (by decide +kernel) rfl
theorem q903 : Cond.code yX7_told cX7_told 3 (some .int) ∈ lw_all := lw_q 903 (by decide +kernel) rfl
theorem q909 : Cond.methodLink RL 37 yX7_off ∈ lw_all := lw_q 909 (by decide +kernel) rfl
theorem q910 : Cond.instanceMethod yX7_off ∈ lw_all := lw_q 910 (by decide +kernel) rfl
theorem q911 : Cond.selects RX7 yX7_off yX7_off ∈ lw_all := lw_q 911 (by decide +kernel) rfl
theorem q912 : Cond.code yX7_off cX7_off 3 (some .int) ∈ lw_all := lw_q 912 (by decide +kernel) rfl
theorem q916 : Cond.methodLink RL 40 yX7_difference ∈ lw_all := lw_q 916 (by decide +kernel) rfl
theorem q917 : Cond.instanceMethod yX7_difference ∈ lw_all := lw_q 917 (by decide +kernel) rfl
theorem q918 : Cond.selects RX7 yX7_difference yX7_difference ∈ lw_all := lw_q 918 (by decide +kernel) rfl
theorem q919 : Cond.code yX7_difference cX7_difference 5 (some .int) ∈ lw_all := lw_q 919 (by decide +kernel) rfl
theorem q923 : Cond.methodLink RL 43 yX7_room ∈ lw_all := lw_q 923 (by decide +kernel) rfl
theorem q924 : Cond.instanceMethod yX7_room ∈ lw_all := lw_q 924 (by decide +kernel) rfl
theorem q925 : Cond.selects RX7 yX7_room yX7_room ∈ lw_all := lw_q 925 (by decide +kernel) rfl
theorem q926 : Cond.code yX7_room cX7_room 3 (some .int) ∈ lw_all := lw_q 926 (by decide +kernel) rfl
theorem q931 : Cond.methodLink RL 46 yX7_agree ∈ lw_all := lw_q 931 (by decide +kernel) rfl
theorem q932 : Cond.instanceMethod yX7_agree ∈ lw_all := lw_q 932 (by decide +kernel) rfl
theorem q933 : Cond.selects RX7 yX7_agree yX7_agree ∈ lw_all := lw_q 933 (by decide +kernel) rfl
theorem q934 : Cond.code yX7_agree cX7_agree 9 (some .boolean) ∈ lw_all := lw_q 934 (by decide +kernel) rfl
theorem q943 : Cond.methodLink RL 50 yX7_wouldBreak ∈ lw_all := lw_q 943 (by decide +kernel) rfl
theorem q944 : Cond.instanceMethod yX7_wouldBreak ∈ lw_all := lw_q 944 (by decide +kernel) rfl
theorem q945 : Cond.selects RX7 yX7_wouldBreak yX7_wouldBreak ∈ lw_all := lw_q 945 (by decide +kernel) rfl
theorem q946 : Cond.code yX7_wouldBreak cX7_wouldBreak 5 (some .int) ∈ lw_all := lw_q 946 (by decide +kernel) rfl
theorem q955 : Cond.methodLink RL 53 yX7_readingWith ∈ lw_all := lw_q 955 (by decide +kernel) rfl
theorem q956 : Cond.instanceMethod yX7_readingWith ∈ lw_all := lw_q 956 (by decide +kernel) rfl
theorem q957 : Cond.selects RX7 yX7_readingWith yX7_readingWith ∈ lw_all := lw_q 957 (by decide +kernel) rfl
theorem q958 : Cond.code yX7_readingWith cX7_readingWith 4 (some .int) ∈ lw_all := lw_q 958 (by decide +kernel) rfl
theorem q962 : Cond.methodLink RL 57 yX7_breaksIn ∈ lw_all := lw_q 962 (by decide +kernel) rfl
theorem q963 : Cond.instanceMethod yX7_breaksIn ∈ lw_all := lw_q 963 (by decide +kernel) rfl
theorem q964 : Cond.selects RX7 yX7_breaksIn yX7_breaksIn ∈ lw_all := lw_q 964 (by decide +kernel) rfl
theorem q965 : Cond.code yX7_breaksIn cX7_breaksIn 5 (some .int) ∈ lw_all := lw_q 965 (by decide +kernel) rfl
theorem q969 : Cond.methodLink RL 60 yX7_bestSlant ∈ lw_all := lw_q 969 (by decide +kernel) rfl
theorem q970 : Cond.instanceMethod yX7_bestSlant ∈ lw_all := lw_q 970 (by decide +kernel) rfl
theorem q971 : Cond.selects RX7 yX7_bestSlant yX7_bestSlant ∈ lw_all := lw_q 971 (by decide +kernel) rfl
theorem q972 : Cond.code yX7_bestSlant cX7_bestSlant 5 (some .int) ∈ lw_all := lw_q 972 (by decide +kernel) rfl
theorem q976 : Cond.methodLink RL 63 yX7_lostWith ∈ lw_all := lw_q 976 (by decide +kernel) rfl
theorem q977 : Cond.instanceMethod yX7_lostWith ∈ lw_all := lw_q 977 (by decide +kernel) rfl
theorem q978 : Cond.selects RX7 yX7_lostWith yX7_lostWith ∈ lw_all := lw_q 978 (by decide +kernel) rfl
theorem q979 : Cond.code yX7_lostWith cX7_lostWith 2 (some .int) ∈ lw_all := lw_q 979 (by decide +kernel) rfl
theorem q983 : Cond.methodLink RL 66 yX7_setPressure ∈ lw_all := lw_q 983 (by decide +kernel) rfl
theorem q984 : Cond.instanceMethod yX7_setPressure ∈ lw_all := lw_q 984 (by decide +kernel) rfl
theorem q985 : Cond.selects RX7 yX7_setPressure yX7_setPressure ∈ lw_all := lw_q 985 (by decide +kernel) rfl
theorem q986 : Cond.code yX7_setPressure cX7_setPressure 3 (some .int) ∈ lw_all := lw_q 986 (by decide +kernel) rfl
theorem q994 : Cond.methodLink RL 69 yX7_setReference ∈ lw_all := lw_q 994 (by decide +kernel) rfl
theorem q995 : Cond.instanceMethod yX7_setReference ∈ lw_all := lw_q 995 (by decide +kernel) rfl
theorem q996 : Cond.selects RX7 yX7_setReference yX7_setReference ∈ lw_all := lw_q 996 (by decide +kernel) rfl
theorem q997 : Cond.code yX7_setReference cX7_setReference 2 (some .int) ∈ lw_all := lw_q 997 (by decide +kernel) rfl
theorem q1001 : Cond.methodLink RL 72 yX7_sweep ∈ lw_all := lw_q 1001 (by decide +kernel) rfl
theorem q1002 : Cond.instanceMethod yX7_sweep ∈ lw_all := lw_q 1002 (by decide +kernel) rfl
theorem q1003 : Cond.selects RX7 yX7_sweep yX7_sweep ∈ lw_all := lw_q 1003 (by decide +kernel) rfl
theorem q1004 : Cond.code yX7_sweep cX7_sweep 7 (some .int) ∈ lw_all := lw_q 1004 (by decide +kernel) rfl
theorem q1008 : Cond.methodLink RL 75 yX7_setSlant ∈ lw_all := lw_q 1008 (by decide +kernel) rfl
theorem q1009 : Cond.instanceMethod yX7_setSlant ∈ lw_all := lw_q 1009 (by decide +kernel) rfl
theorem q1010 : Cond.selects RX7 yX7_setSlant yX7_setSlant ∈ lw_all := lw_q 1010 (by decide +kernel) rfl
theorem q1011 : Cond.code yX7_setSlant cX7_setSlant 3 (some .int) ∈ lw_all := lw_q 1011 (by decide +kernel) rfl
theorem q1015 : Cond.methodLink RL 78 yX7_setMark ∈ lw_all := lw_q 1015 (by decide +kernel) rfl
theorem q1016 : Cond.instanceMethod yX7_setMark ∈ lw_all := lw_q 1016 (by decide +kernel) rfl
theorem q1017 : Cond.selects RX7 yX7_setMark yX7_setMark ∈ lw_all := lw_q 1017 (by decide +kernel) rfl
theorem q1018 : Cond.code yX7_setMark cX7_setMark 4 (some .int) ∈ lw_all := lw_q 1018 (by decide +kernel) rfl
theorem q1023 : Cond.methodLink RL 81 yX7_setCurve ∈ lw_all := lw_q 1023 (by decide +kernel) rfl
theorem q1024 : Cond.instanceMethod yX7_setCurve ∈ lw_all := lw_q 1024 (by decide +kernel) rfl
theorem q1025 : Cond.selects RX7 yX7_setCurve yX7_setCurve ∈ lw_all := lw_q 1025 (by decide +kernel) rfl
theorem q1026 : Cond.code yX7_setCurve cX7_setCurve 3 (some .int) ∈ lw_all := lw_q 1026 (by decide +kernel) rfl
theorem q1030 : Cond.methodLink RL 84 yX7_mend ∈ lw_all := lw_q 1030 (by decide +kernel) rfl
theorem q1031 : Cond.instanceMethod yX7_mend ∈ lw_all := lw_q 1031 (by decide +kernel) rfl
theorem q1032 : Cond.selects RX7 yX7_mend yX7_mend ∈ lw_all := lw_q 1032 (by decide +kernel) rfl
theorem q1033 : Cond.code yX7_mend cX7_mend 3 (some .int) ∈ lw_all := lw_q 1033 (by decide +kernel) rfl
theorem q1037 : Cond.methodLink RL 87 yX7_refill ∈ lw_all := lw_q 1037 (by decide +kernel) rfl
theorem q1038 : Cond.instanceMethod yX7_refill ∈ lw_all := lw_q 1038 (by decide +kernel) rfl
theorem q1039 : Cond.selects RX7 yX7_refill yX7_refill ∈ lw_all := lw_q 1039 (by decide +kernel) rfl
theorem q1040 : Cond.code yX7_refill cX7_refill 4 (some .int) ∈ lw_all := lw_q 1040 (by decide +kernel) rfl
theorem q1046 : Cond.methodLink RL 90 yX7_addTube ∈ lw_all := lw_q 1046 (by decide +kernel) rfl
theorem q1047 : Cond.instanceMethod yX7_addTube ∈ lw_all := lw_q 1047 (by decide +kernel) rfl
theorem q1048 : Cond.selects RX7 yX7_addTube yX7_addTube ∈ lw_all := lw_q 1048 (by decide +kernel) rfl
theorem q1049 : Cond.code yX7_addTube cX7_addTube 7 (some .int) ∈ lw_all := lw_q 1049 (by decide +kernel) rfl
theorem q1056 : Cond.methodLink RL 94 yX7_dropTube ∈ lw_all := lw_q 1056 (by decide +kernel) rfl
theorem q1057 : Cond.instanceMethod yX7_dropTube ∈ lw_all := lw_q 1057 (by decide +kernel) rfl
theorem q1058 : Cond.selects RX7 yX7_dropTube yX7_dropTube ∈ lw_all := lw_q 1058 (by decide +kernel) rfl
theorem q1059 : Cond.code yX7_dropTube cX7_dropTube 2 (some .int) ∈ lw_all := lw_q 1059 (by decide +kernel) rfl
theorem q1067 : Cond.methodLink RL 97 yX7_format ∈ lw_all := lw_q 1067 (by decide +kernel) rfl
theorem q1068 : Cond.instanceMethod yX7_format ∈ lw_all := lw_q 1068 (by decide +kernel) rfl
theorem q1069 : Cond.selects RX7 yX7_format yX7_format ∈ lw_all := lw_q 1069 (by decide +kernel) rfl
theorem q1070 : Cond.code yX7_format cX7_format 3 (some .int) ∈ lw_all := lw_q 1070 (by decide +kernel) rfl
theorem q1291 : Cond.methodLink RL 100 yX7_query ∈ lw_all := lw_q 1291 (by decide +kernel) rfl
theorem q1292 : Cond.instanceMethod yX7_query ∈ lw_all := lw_q 1292 (by decide +kernel) rfl
theorem q1293 : Cond.selects RX7 yX7_query yX7_query ∈ lw_all := lw_q 1293 (by decide +kernel) rfl
theorem q1294 : Cond.code yX7_query cX7_query 5 (some .int) ∈ lw_all := lw_q 1294 (by decide +kernel) rfl
theorem q1295 : Cond.classLink RX7 283 RX2 ∈ lw_all := lw_q 1295 (by decide +kernel) rfl
theorem q1296 : Cond.instantiable RX2 2 ∈ lw_all := lw_q 1296 (by decide +kernel) rfl
theorem q1297 : Cond.methodLink RX7 285 yX2_init ∈ lw_all := lw_q 1297 (by decide +kernel) rfl
theorem q1298 : Cond.instanceMethod yX2_init ∈ lw_all := lw_q 1298 (by decide +kernel) rfl
theorem q1299 : Cond.code yX2_init cX2_init 3 none ∈ lw_all := lw_q 1299 (by decide +kernel) rfl
theorem q1300 : Cond.methodLink RX2 3 Lib.objectInit ∈ lw_all := lw_q 1300 (by decide +kernel) rfl
theorem q1308 : Cond.methodLink RX7 286 yX2_wantsMany ∈ lw_all := lw_q 1308 (by decide +kernel) rfl
theorem q1309 : Cond.instanceMethod yX2_wantsMany ∈ lw_all := lw_q 1309 (by decide +kernel) rfl
theorem q1310 : Cond.selects RX2 yX2_wantsMany yX2_wantsMany ∈ lw_all := lw_q 1310 (by decide +kernel) rfl
theorem q1311 : Cond.code yX2_wantsMany cX2_wantsMany 2 (some .boolean) ∈ lw_all := lw_q 1311 (by decide +kernel) rfl
theorem q1367 : Cond.methodLink RX7 293 yX5_takeEnd ∈ lw_all := lw_q 1367 (by decide +kernel) rfl
theorem q1368 : Cond.instanceMethod yX5_takeEnd ∈ lw_all := lw_q 1368 (by decide +kernel) rfl
theorem q1369 : Cond.selects RX5 yX5_takeEnd yX5_takeEnd ∈ lw_all := lw_q 1369 (by decide +kernel) rfl
theorem q1370 : Cond.code yX5_takeEnd cX5_takeEnd 1 none ∈ lw_all := lw_q 1370 (by decide +kernel) rfl
theorem q1371 : Cond.methodLink RX7 296 yJ6_bitCount_0f7a4 ∈ lw_all := lw_q 1371 (by decide +kernel) rfl
theorem q1372 : Cond.static yJ6_bitCount_0f7a4 ∈ lw_all := lw_q 1372 (by decide +kernel) rfl
theorem q1373 : Cond.code yJ6_bitCount_0f7a4 cJ6_bitCount_0f7a4 1 (some .int) ∈ lw_all := lw_q 1373 (by decide +kernel) rfl
theorem q1377 : Cond.methodLink RX7 301 yX7_lowestBit ∈ lw_all := lw_q 1377 (by decide +kernel) rfl
theorem q1378 : Cond.static yX7_lowestBit ∈ lw_all := lw_q 1378 (by decide +kernel) rfl
theorem q1379 : Cond.code yX7_lowestBit cX7_lowestBit 2 (some .int) ∈ lw_all := lw_q 1379 (by decide +kernel) rfl
theorem q1389 : Cond.methodLink RX8 7 Lib.objectInit ∈ lw_all := lw_q 1389 (by decide +kernel) rfl
theorem q1487 : Cond.arrayClass .long ∈ lw_all := lw_q 1487 (by decide +kernel) rfl
theorem hs_X4_init : yX4_init.cls ≠ "java/lang/invoke/MethodHandle" ∧ yX4_init.cls ≠ "java/lang/invoke/VarHandle" ∧ (parseMethodDescriptor yX4_init.desc).map (fun d => d.parameters.length) = some 2 := by decide +kernel
theorem hv_X4_read : yX4_read.cls = RX4 ∧ yX4_read.cls ≠ "java/lang/invoke/MethodHandle" ∧ yX4_read.cls ≠ "java/lang/invoke/VarHandle" ∧ (parseMethodDescriptor yX4_read.desc).map (fun d => d.parameters.length) = some 0 := by decide +kernel
theorem hv_X5_empty : yX5_empty.cls = RX5 ∧ yX5_empty.cls ≠ "java/lang/invoke/MethodHandle" ∧ yX5_empty.cls ≠ "java/lang/invoke/VarHandle" ∧ (parseMethodDescriptor yX5_empty.desc).map (fun d => d.parameters.length) = some 0 := by decide +kernel
theorem hs_X2_init : yX2_init.cls ≠ "java/lang/invoke/MethodHandle" ∧ yX2_init.cls ≠ "java/lang/invoke/VarHandle" ∧ (parseMethodDescriptor yX2_init.desc).map (fun d => d.parameters.length) = some 2 := by decide +kernel
theorem hv_X2_wantsMany : yX2_wantsMany.cls = RX2 ∧ yX2_wantsMany.cls ≠ "java/lang/invoke/MethodHandle" ∧ yX2_wantsMany.cls ≠ "java/lang/invoke/VarHandle" ∧ (parseMethodDescriptor yX2_wantsMany.desc).map (fun d => d.parameters.length) = some 0 := by decide +kernel
theorem hs_X2_test : yX2_test.cls ≠ "java/lang/invoke/MethodHandle" ∧ yX2_test.cls ≠ "java/lang/invoke/VarHandle" ∧ (parseMethodDescriptor yX2_test.desc).map (fun d => d.parameters.length) = some 1 := by decide +kernel
theorem hv_X5_takeEnd : yX5_takeEnd.cls = RX5 ∧ yX5_takeEnd.cls ≠ "java/lang/invoke/MethodHandle" ∧ yX5_takeEnd.cls ≠ "java/lang/invoke/VarHandle" ∧ (parseMethodDescriptor yX5_takeEnd.desc).map (fun d => d.parameters.length) = some 0 := by decide +kernel
theorem hs_X7_lowestBit : yX7_lowestBit.cls ≠ "java/lang/invoke/MethodHandle" ∧ yX7_lowestBit.cls ≠ "java/lang/invoke/VarHandle" ∧ (parseMethodDescriptor yX7_lowestBit.desc).map (fun d => d.parameters.length) = some 1 := by decide +kernel
theorem hs_J6_bitCount_0f7a4 : yJ6_bitCount_0f7a4.cls ≠ "java/lang/invoke/MethodHandle" ∧ yJ6_bitCount_0f7a4.cls ≠ "java/lang/invoke/VarHandle" ∧ (parseMethodDescriptor yJ6_bitCount_0f7a4.desc).map (fun d => d.parameters.length) = some 1 := by decide +kernel
theorem hs_X1_init : yX1_init.cls ≠ "java/lang/invoke/MethodHandle" ∧ yX1_init.cls ≠ "java/lang/invoke/VarHandle" ∧ (parseMethodDescriptor yX1_init.desc).map (fun d => d.parameters.length) = some 0 := by decide +kernel
theorem hs_X6_init : yX6_init.cls ≠ "java/lang/invoke/MethodHandle" ∧ yX6_init.cls ≠ "java/lang/invoke/VarHandle" ∧ (parseMethodDescriptor yX6_init.desc).map (fun d => d.parameters.length) = some 0 := by decide +kernel
theorem hs_J5_init_d00df : yJ5_init_d00df.cls ≠ "java/lang/invoke/MethodHandle" ∧ yJ5_init_d00df.cls ≠ "java/lang/invoke/VarHandle" ∧ (parseMethodDescriptor yJ5_init_d00df.desc).map (fun d => d.parameters.length) = some 1 := by decide +kernel
theorem hs_X3_init : yX3_init.cls ≠ "java/lang/invoke/MethodHandle" ∧ yX3_init.cls ≠ "java/lang/invoke/VarHandle" ∧ (parseMethodDescriptor yX3_init.desc).map (fun d => d.parameters.length) = some 0 := by decide +kernel
theorem hs_X0_init : yX0_init.cls ≠ "java/lang/invoke/MethodHandle" ∧ yX0_init.cls ≠ "java/lang/invoke/VarHandle" ∧ (parseMethodDescriptor yX0_init.desc).map (fun d => d.parameters.length) = some 0 := by decide +kernel
theorem hs_X5_init : yX5_init.cls ≠ "java/lang/invoke/MethodHandle" ∧ yX5_init.cls ≠ "java/lang/invoke/VarHandle" ∧ (parseMethodDescriptor yX5_init.desc).map (fun d => d.parameters.length) = some 0 := by decide +kernel
theorem hs_J4_init_da8c8 : yJ4_init_da8c8.cls ≠ "java/lang/invoke/MethodHandle" ∧ yJ4_init_da8c8.cls ≠ "java/lang/invoke/VarHandle" ∧ (parseMethodDescriptor yJ4_init_da8c8.desc).map (fun d => d.parameters.length) = some 0 := by decide +kernel
theorem hv_X7_load : yX7_load.cls = RX7 ∧ yX7_load.cls ≠ "java/lang/invoke/MethodHandle" ∧ yX7_load.cls ≠ "java/lang/invoke/VarHandle" ∧ (parseMethodDescriptor yX7_load.desc).map (fun d => d.parameters.length) = some 1 := by decide +kernel
theorem hv_X7_size : yX7_size.cls = RX7 ∧ yX7_size.cls ≠ "java/lang/invoke/MethodHandle" ∧ yX7_size.cls ≠ "java/lang/invoke/VarHandle" ∧ (parseMethodDescriptor yX7_size.desc).map (fun d => d.parameters.length) = some 1 := by decide +kernel
theorem hv_X7_pressure : yX7_pressure.cls = RX7 ∧ yX7_pressure.cls ≠ "java/lang/invoke/MethodHandle" ∧ yX7_pressure.cls ≠ "java/lang/invoke/VarHandle" ∧ (parseMethodDescriptor yX7_pressure.desc).map (fun d => d.parameters.length) = some 1 := by decide +kernel
theorem hv_X7_leg : yX7_leg.cls = RX7 ∧ yX7_leg.cls ≠ "java/lang/invoke/MethodHandle" ∧ yX7_leg.cls ≠ "java/lang/invoke/VarHandle" ∧ (parseMethodDescriptor yX7_leg.desc).map (fun d => d.parameters.length) = some 2 := by decide +kernel
theorem hv_X7_account : yX7_account.cls = RX7 ∧ yX7_account.cls ≠ "java/lang/invoke/MethodHandle" ∧ yX7_account.cls ≠ "java/lang/invoke/VarHandle" ∧ (parseMethodDescriptor yX7_account.desc).map (fun d => d.parameters.length) = some 2 := by decide +kernel
theorem hv_X7_tube : yX7_tube.cls = RX7 ∧ yX7_tube.cls ≠ "java/lang/invoke/MethodHandle" ∧ yX7_tube.cls ≠ "java/lang/invoke/VarHandle" ∧ (parseMethodDescriptor yX7_tube.desc).map (fun d => d.parameters.length) = some 2 := by decide +kernel
theorem hv_X7_told : yX7_told.cls = RX7 ∧ yX7_told.cls ≠ "java/lang/invoke/MethodHandle" ∧ yX7_told.cls ≠ "java/lang/invoke/VarHandle" ∧ (parseMethodDescriptor yX7_told.desc).map (fun d => d.parameters.length) = some 1 := by decide +kernel
theorem hv_X7_off : yX7_off.cls = RX7 ∧ yX7_off.cls ≠ "java/lang/invoke/MethodHandle" ∧ yX7_off.cls ≠ "java/lang/invoke/VarHandle" ∧ (parseMethodDescriptor yX7_off.desc).map (fun d => d.parameters.length) = some 1 := by decide +kernel
theorem hv_X7_difference : yX7_difference.cls = RX7 ∧ yX7_difference.cls ≠ "java/lang/invoke/MethodHandle" ∧ yX7_difference.cls ≠ "java/lang/invoke/VarHandle" ∧ (parseMethodDescriptor yX7_difference.desc).map (fun d => d.parameters.length) = some 2 := by decide +kernel
theorem hv_X7_room : yX7_room.cls = RX7 ∧ yX7_room.cls ≠ "java/lang/invoke/MethodHandle" ∧ yX7_room.cls ≠ "java/lang/invoke/VarHandle" ∧ (parseMethodDescriptor yX7_room.desc).map (fun d => d.parameters.length) = some 1 := by decide +kernel
theorem hv_X7_agree : yX7_agree.cls = RX7 ∧ yX7_agree.cls ≠ "java/lang/invoke/MethodHandle" ∧ yX7_agree.cls ≠ "java/lang/invoke/VarHandle" ∧ (parseMethodDescriptor yX7_agree.desc).map (fun d => d.parameters.length) = some 2 := by decide +kernel
theorem hv_X7_wouldBreak : yX7_wouldBreak.cls = RX7 ∧ yX7_wouldBreak.cls ≠ "java/lang/invoke/MethodHandle" ∧ yX7_wouldBreak.cls ≠ "java/lang/invoke/VarHandle" ∧ (parseMethodDescriptor yX7_wouldBreak.desc).map (fun d => d.parameters.length) = some 2 := by decide +kernel
theorem hv_X7_readingWith : yX7_readingWith.cls = RX7 ∧ yX7_readingWith.cls ≠ "java/lang/invoke/MethodHandle" ∧ yX7_readingWith.cls ≠ "java/lang/invoke/VarHandle" ∧ (parseMethodDescriptor yX7_readingWith.desc).map (fun d => d.parameters.length) = some 3 := by decide +kernel
theorem hv_X7_breaksIn : yX7_breaksIn.cls = RX7 ∧ yX7_breaksIn.cls ≠ "java/lang/invoke/MethodHandle" ∧ yX7_breaksIn.cls ≠ "java/lang/invoke/VarHandle" ∧ (parseMethodDescriptor yX7_breaksIn.desc).map (fun d => d.parameters.length) = some 2 := by decide +kernel
theorem hv_X7_bestSlant : yX7_bestSlant.cls = RX7 ∧ yX7_bestSlant.cls ≠ "java/lang/invoke/MethodHandle" ∧ yX7_bestSlant.cls ≠ "java/lang/invoke/VarHandle" ∧ (parseMethodDescriptor yX7_bestSlant.desc).map (fun d => d.parameters.length) = some 1 := by decide +kernel
theorem hv_X7_lostWith : yX7_lostWith.cls = RX7 ∧ yX7_lostWith.cls ≠ "java/lang/invoke/MethodHandle" ∧ yX7_lostWith.cls ≠ "java/lang/invoke/VarHandle" ∧ (parseMethodDescriptor yX7_lostWith.desc).map (fun d => d.parameters.length) = some 1 := by decide +kernel
theorem hv_X7_setPressure : yX7_setPressure.cls = RX7 ∧ yX7_setPressure.cls ≠ "java/lang/invoke/MethodHandle" ∧ yX7_setPressure.cls ≠ "java/lang/invoke/VarHandle" ∧ (parseMethodDescriptor yX7_setPressure.desc).map (fun d => d.parameters.length) = some 2 := by decide +kernel
theorem hv_X7_setReference : yX7_setReference.cls = RX7 ∧ yX7_setReference.cls ≠ "java/lang/invoke/MethodHandle" ∧ yX7_setReference.cls ≠ "java/lang/invoke/VarHandle" ∧ (parseMethodDescriptor yX7_setReference.desc).map (fun d => d.parameters.length) = some 1 := by decide +kernel
theorem hv_X7_sweep : yX7_sweep.cls = RX7 ∧ yX7_sweep.cls ≠ "java/lang/invoke/MethodHandle" ∧ yX7_sweep.cls ≠ "java/lang/invoke/VarHandle" ∧ (parseMethodDescriptor yX7_sweep.desc).map (fun d => d.parameters.length) = some 3 := by decide +kernel
theorem hv_X7_setSlant : yX7_setSlant.cls = RX7 ∧ yX7_setSlant.cls ≠ "java/lang/invoke/MethodHandle" ∧ yX7_setSlant.cls ≠ "java/lang/invoke/VarHandle" ∧ (parseMethodDescriptor yX7_setSlant.desc).map (fun d => d.parameters.length) = some 2 := by decide +kernel
theorem hv_X7_setMark : yX7_setMark.cls = RX7 ∧ yX7_setMark.cls ≠ "java/lang/invoke/MethodHandle" ∧ yX7_setMark.cls ≠ "java/lang/invoke/VarHandle" ∧ (parseMethodDescriptor yX7_setMark.desc).map (fun d => d.parameters.length) = some 1 := by decide +kernel
theorem hv_X7_setCurve : yX7_setCurve.cls = RX7 ∧ yX7_setCurve.cls ≠ "java/lang/invoke/MethodHandle" ∧ yX7_setCurve.cls ≠ "java/lang/invoke/VarHandle" ∧ (parseMethodDescriptor yX7_setCurve.desc).map (fun d => d.parameters.length) = some 2 := by decide +kernel
theorem hv_X7_mend : yX7_mend.cls = RX7 ∧ yX7_mend.cls ≠ "java/lang/invoke/MethodHandle" ∧ yX7_mend.cls ≠ "java/lang/invoke/VarHandle" ∧ (parseMethodDescriptor yX7_mend.desc).map (fun d => d.parameters.length) = some 1 := by decide +kernel
theorem hv_X7_refill : yX7_refill.cls = RX7 ∧ yX7_refill.cls ≠ "java/lang/invoke/MethodHandle" ∧ yX7_refill.cls ≠ "java/lang/invoke/VarHandle" ∧ (parseMethodDescriptor yX7_refill.desc).map (fun d => d.parameters.length) = some 2 := by decide +kernel
theorem hv_X7_addTube : yX7_addTube.cls = RX7 ∧ yX7_addTube.cls ≠ "java/lang/invoke/MethodHandle" ∧ yX7_addTube.cls ≠ "java/lang/invoke/VarHandle" ∧ (parseMethodDescriptor yX7_addTube.desc).map (fun d => d.parameters.length) = some 5 := by decide +kernel
theorem hv_X7_dropTube : yX7_dropTube.cls = RX7 ∧ yX7_dropTube.cls ≠ "java/lang/invoke/MethodHandle" ∧ yX7_dropTube.cls ≠ "java/lang/invoke/VarHandle" ∧ (parseMethodDescriptor yX7_dropTube.desc).map (fun d => d.parameters.length) = some 1 := by decide +kernel
theorem hv_X7_format : yX7_format.cls = RX7 ∧ yX7_format.cls ≠ "java/lang/invoke/MethodHandle" ∧ yX7_format.cls ≠ "java/lang/invoke/VarHandle" ∧ (parseMethodDescriptor yX7_format.desc).map (fun d => d.parameters.length) = some 1 := by decide +kernel
theorem hv_X7_query : yX7_query.cls = RX7 ∧ yX7_query.cls ≠ "java/lang/invoke/MethodHandle" ∧ yX7_query.cls ≠ "java/lang/invoke/VarHandle" ∧ (parseMethodDescriptor yX7_query.desc).map (fun d => d.parameters.length) = some 1 := by decide +kernel
